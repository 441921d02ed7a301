def R_law : String := "OneWithTheBagsLaw"
def lw_P (b : Addr) (xs : List Int32) (args : Array Value) (s : State) : Prop := args = #[.ref b] ∧ s.IntsAt b xs ∧ xs.length ≤ 2560 ∧ (Jvm.Cond.and given_1 narrow_1).before args s = true
def lw_Q (_ : Array Value) (s : State) (o : Outcome) (t : State) : Prop := o = .returned (some (.int 1)) ∧ Framed s o t [] 601024 7293034
def lw_Z (below : List Frame) (a : Array Value) (s : State) : State → Prop := fun t => ∃ o, t.status = .running ∧ Ended t below o ∧ lw_Q a s o t
/-- the law's own end, with 1 on the stack, nothing written that was there before, its room as the claim has it -/
theorem lw_ret {p : Program} {l : Launch} {e : Env} {s : State} {m : MethodId} {below : List Frame} {meth : Method} {c : Code} {b : Nat} (hx : p.tables.exec = Jvm.exec) (hb : c.code = code) (hr : meth.sig.returnType = ret) (hlocks : meth.locks = false) {pc : Nat} {H : Heap} {ls : Array Slot} (hdg : decode code pc = .ok (.ireturn, 1)) : W p l e room_1 s m #[Value.ref b] below meth c H [] 601024 7293034 (lw_Z below #[Value.ref b] s) (F0 m pc ls [.int 1]) := by
  intro T hT X
  obtain ⟨fs, hret, hrun, hended, hW, hframe⟩ := X.leave (v := some (.int 1)) (hlocks := hlocks) (fun h => by rw [hr] at h; cases h)
  have hmeth' : T.vm.method? m = some meth := X.method'
  refine ⟨T.setFrames fs, ?_, .returned (some (.int 1)), hrun, hended, rfl, ⟨_, rfl⟩, hW, hframe⟩
  jvm_step X.here [X.here.top, hx, hb, hdg, hmeth', hr, ret, narrow_b1]
  (try refine ⟨rfl, ?_⟩); (try refine ⟨rfl, ?_⟩)
  first | (intro acts; rw [hret _ acts rfl rfl rfl]) | rw [hret _ _ rfl rfl rfl]
  exact Steps.refl _
/-- what holds at the law's entry: the machine, the code, the tables' words (any of lw_tbl by 'hts w (by decide +kernel)'), the script of L ints xs at the cell b, what the Statement gives of the start (any of its parts by flat_of_before) -/
def lw_At (p : Program) (s : State) (m : MethodId) (meth : Method) (c : Code) (b L : Nat) (xs : Nat → Int32) : Prop :=
  p.tables.exec = Jvm.exec ∧ c.code = code ∧ meth.sig.returnType = ret ∧ c.maxLocals = 8 ∧ s.vm.findClass R_law = some m.cls ∧ (∀ w ∈ lw_tbl, w.before #[Value.ref b] s = true) ∧ va_X b L xs s s.heap ∧ b < s.heap.size ∧ meth.locks = false ∧ (Jvm.Cond.and given_1 narrow_1).before #[Value.ref b] s = true
def tmS : Nat → Term := fun i => match i with
  | 0 => .string "OneWithTheBags$Rule" 98
  | 1 => .string "OneWithTheBagsModel" 221
  | 2 => .string "OneWithTheBagsModel" 226
  | 3 => .string "OneWithTheBagsModel" 216
  | 4 => .string "OneWithTheBagsModel" 265
  | 5 => .string "OneWithTheBagsModel" 267
  | 6 => .string "OneWithTheBagsModel" 269
  | _ => .string "OneWithTheBagsModel" 406

theorem st_ex {b : Nat} {s : State} (hgv : (Jvm.Cond.and given_1 narrow_1).before #[Value.ref b] s = true) : ∀ i : Nat, i < 8 → (Cond.exactly (tmS i) "java/lang/String").before #[Value.ref b] s = true
  | 0, _ => flat_of_before _ hgv _ (by decide +kernel)
  | 1, _ => flat_of_before _ hgv _ (by decide +kernel)
  | 2, _ => flat_of_before _ hgv _ (by decide +kernel)
  | 3, _ => flat_of_before _ hgv _ (by decide +kernel)
  | 4, _ => flat_of_before _ hgv _ (by decide +kernel)
  | 5, _ => flat_of_before _ hgv _ (by decide +kernel)
  | 6, _ => flat_of_before _ hgv _ (by decide +kernel)
  | 7, _ => flat_of_before _ hgv _ (by decide +kernel)
  | n + 8, h => absurd h (by omega)

theorem st_co {b : Nat} {s : State} (hgv : (Jvm.Cond.and given_1 narrow_1).before #[Value.ref b] s = true) : ∀ i : Nat, i < 8 → (Cond.eq (.field (tmS i) "java/lang/String" "coder" "B") (.int 0)).before #[Value.ref b] s = true
  | 0, _ => flat_of_before _ hgv _ (by decide +kernel)
  | 1, _ => flat_of_before _ hgv _ (by decide +kernel)
  | 2, _ => flat_of_before _ hgv _ (by decide +kernel)
  | 3, _ => flat_of_before _ hgv _ (by decide +kernel)
  | 4, _ => flat_of_before _ hgv _ (by decide +kernel)
  | 5, _ => flat_of_before _ hgv _ (by decide +kernel)
  | 6, _ => flat_of_before _ hgv _ (by decide +kernel)
  | 7, _ => flat_of_before _ hgv _ (by decide +kernel)
  | n + 8, h => absurd h (by omega)

theorem st_ar {b : Nat} {s : State} (hgv : (Jvm.Cond.and given_1 narrow_1).before #[Value.ref b] s = true) : ∀ i : Nat, i < 8 → (Cond.arrayOf (.field (tmS i) "java/lang/String" "value" "[B") .byte).before #[Value.ref b] s = true
  | 0, _ => flat_of_before _ hgv _ (by decide +kernel)
  | 1, _ => flat_of_before _ hgv _ (by decide +kernel)
  | 2, _ => flat_of_before _ hgv _ (by decide +kernel)
  | 3, _ => flat_of_before _ hgv _ (by decide +kernel)
  | 4, _ => flat_of_before _ hgv _ (by decide +kernel)
  | 5, _ => flat_of_before _ hgv _ (by decide +kernel)
  | 6, _ => flat_of_before _ hgv _ (by decide +kernel)
  | 7, _ => flat_of_before _ hgv _ (by decide +kernel)
  | n + 8, h => absurd h (by omega)

theorem st_le {b : Nat} {s : State} (hgv : (Jvm.Cond.and given_1 narrow_1).before #[Value.ref b] s = true) : ∀ i : Nat, i < 8 → (Cond.eq (.length (.field (tmS i) "java/lang/String" "value" "[B")) (.int (Int32.ofNat (lenS.getD i 0)))).before #[Value.ref b] s = true
  | 0, _ => flat_of_before _ hgv _ (by decide +kernel)
  | 1, _ => flat_of_before _ hgv _ (by decide +kernel)
  | 2, _ => flat_of_before _ hgv _ (by decide +kernel)
  | 3, _ => flat_of_before _ hgv _ (by decide +kernel)
  | 4, _ => flat_of_before _ hgv _ (by decide +kernel)
  | 5, _ => flat_of_before _ hgv _ (by decide +kernel)
  | 6, _ => flat_of_before _ hgv _ (by decide +kernel)
  | 7, _ => flat_of_before _ hgv _ (by decide +kernel)
  | n + 8, h => absurd h (by omega)

theorem st_el0 {b : Nat} {s : State} (hgv : (Jvm.Cond.and given_1 narrow_1).before #[Value.ref b] s = true) : ∀ j : Nat, j < 8 → (Cond.eq (.elem (.field (tmS 0) "java/lang/String" "value" "[B") (.int (Int32.ofNat j))) (.int ((bytS.getD 0 []).getD j 0))).before #[Value.ref b] s = true
  | 0, _ => flat_of_before _ hgv _ (by decide +kernel)
  | 1, _ => flat_of_before _ hgv _ (by decide +kernel)
  | 2, _ => flat_of_before _ hgv _ (by decide +kernel)
  | 3, _ => flat_of_before _ hgv _ (by decide +kernel)
  | 4, _ => flat_of_before _ hgv _ (by decide +kernel)
  | 5, _ => flat_of_before _ hgv _ (by decide +kernel)
  | 6, _ => flat_of_before _ hgv _ (by decide +kernel)
  | 7, _ => flat_of_before _ hgv _ (by decide +kernel)
  | n + 8, h => absurd h (by omega)

theorem st_el1 {b : Nat} {s : State} (hgv : (Jvm.Cond.and given_1 narrow_1).before #[Value.ref b] s = true) : ∀ j : Nat, j < 1 → (Cond.eq (.elem (.field (tmS 1) "java/lang/String" "value" "[B") (.int (Int32.ofNat j))) (.int ((bytS.getD 1 []).getD j 0))).before #[Value.ref b] s = true
  | 0, _ => flat_of_before _ hgv _ (by decide +kernel)
  | n + 1, h => absurd h (by omega)

theorem st_el2 {b : Nat} {s : State} (hgv : (Jvm.Cond.and given_1 narrow_1).before #[Value.ref b] s = true) : ∀ j : Nat, j < 1 → (Cond.eq (.elem (.field (tmS 2) "java/lang/String" "value" "[B") (.int (Int32.ofNat j))) (.int ((bytS.getD 2 []).getD j 0))).before #[Value.ref b] s = true
  | 0, _ => flat_of_before _ hgv _ (by decide +kernel)
  | n + 1, h => absurd h (by omega)

theorem st_el3 {b : Nat} {s : State} (hgv : (Jvm.Cond.and given_1 narrow_1).before #[Value.ref b] s = true) : ∀ j : Nat, j < 2 → (Cond.eq (.elem (.field (tmS 3) "java/lang/String" "value" "[B") (.int (Int32.ofNat j))) (.int ((bytS.getD 3 []).getD j 0))).before #[Value.ref b] s = true
  | 0, _ => flat_of_before _ hgv _ (by decide +kernel)
  | 1, _ => flat_of_before _ hgv _ (by decide +kernel)
  | n + 2, h => absurd h (by omega)

theorem st_el4 {b : Nat} {s : State} (hgv : (Jvm.Cond.and given_1 narrow_1).before #[Value.ref b] s = true) : ∀ j : Nat, j < 3 → (Cond.eq (.elem (.field (tmS 4) "java/lang/String" "value" "[B") (.int (Int32.ofNat j))) (.int ((bytS.getD 4 []).getD j 0))).before #[Value.ref b] s = true
  | 0, _ => flat_of_before _ hgv _ (by decide +kernel)
  | 1, _ => flat_of_before _ hgv _ (by decide +kernel)
  | 2, _ => flat_of_before _ hgv _ (by decide +kernel)
  | n + 3, h => absurd h (by omega)

theorem st_el5 {b : Nat} {s : State} (hgv : (Jvm.Cond.and given_1 narrow_1).before #[Value.ref b] s = true) : ∀ j : Nat, j < 2 → (Cond.eq (.elem (.field (tmS 5) "java/lang/String" "value" "[B") (.int (Int32.ofNat j))) (.int ((bytS.getD 5 []).getD j 0))).before #[Value.ref b] s = true
  | 0, _ => flat_of_before _ hgv _ (by decide +kernel)
  | 1, _ => flat_of_before _ hgv _ (by decide +kernel)
  | n + 2, h => absurd h (by omega)

theorem st_el6 {b : Nat} {s : State} (hgv : (Jvm.Cond.and given_1 narrow_1).before #[Value.ref b] s = true) : ∀ j : Nat, j < 2 → (Cond.eq (.elem (.field (tmS 6) "java/lang/String" "value" "[B") (.int (Int32.ofNat j))) (.int ((bytS.getD 6 []).getD j 0))).before #[Value.ref b] s = true
  | 0, _ => flat_of_before _ hgv _ (by decide +kernel)
  | 1, _ => flat_of_before _ hgv _ (by decide +kernel)
  | n + 2, h => absurd h (by omega)

theorem st_el7 {b : Nat} {s : State} (hgv : (Jvm.Cond.and given_1 narrow_1).before #[Value.ref b] s = true) : ∀ j : Nat, j < 3 → (Cond.eq (.elem (.field (tmS 7) "java/lang/String" "value" "[B") (.int (Int32.ofNat j))) (.int ((bytS.getD 7 []).getD j 0))).before #[Value.ref b] s = true
  | 0, _ => flat_of_before _ hgv _ (by decide +kernel)
  | 1, _ => flat_of_before _ hgv _ (by decide +kernel)
  | 2, _ => flat_of_before _ hgv _ (by decide +kernel)
  | n + 3, h => absurd h (by omega)

theorem st_el {b : Nat} {s : State} (hgv : (Jvm.Cond.and given_1 narrow_1).before #[Value.ref b] s = true) : ∀ i : Nat, i < 8 → ∀ j : Nat, j < lenS.getD i 0 → (Cond.eq (.elem (.field (tmS i) "java/lang/String" "value" "[B") (.int (Int32.ofNat j))) (.int ((bytS.getD i []).getD j 0))).before #[Value.ref b] s = true
  | 0, _ => st_el0 hgv
  | 1, _ => st_el1 hgv
  | 2, _ => st_el2 hgv
  | 3, _ => st_el3 hgv
  | 4, _ => st_el4 hgv
  | 5, _ => st_el5 hgv
  | 6, _ => st_el6 hgv
  | 7, _ => st_el7 hgv
  | n + 8, h => absurd h (by omega)

theorem st_ne0 {b : Nat} {s : State} (hgv : (Jvm.Cond.and given_1 narrow_1).before #[Value.ref b] s = true) : ∀ j : Nat, j < 8 → 0 ≠ j → (Cond.not (Cond.eq (tmS 0) (tmS j))).before #[Value.ref b] s = true ∨ (Cond.not (Cond.eq (tmS j) (tmS 0))).before #[Value.ref b] s = true
  | 0, _, h => absurd rfl h
  | 1, _, _ => Or.inl (flat_of_before _ hgv _ (by decide +kernel))
  | 2, _, _ => Or.inl (flat_of_before _ hgv _ (by decide +kernel))
  | 3, _, _ => Or.inl (flat_of_before _ hgv _ (by decide +kernel))
  | 4, _, _ => Or.inl (flat_of_before _ hgv _ (by decide +kernel))
  | 5, _, _ => Or.inl (flat_of_before _ hgv _ (by decide +kernel))
  | 6, _, _ => Or.inl (flat_of_before _ hgv _ (by decide +kernel))
  | 7, _, _ => Or.inl (flat_of_before _ hgv _ (by decide +kernel))
  | n + 8, h, _ => absurd h (by omega)

theorem st_ne1 {b : Nat} {s : State} (hgv : (Jvm.Cond.and given_1 narrow_1).before #[Value.ref b] s = true) : ∀ j : Nat, j < 8 → 1 ≠ j → (Cond.not (Cond.eq (tmS 1) (tmS j))).before #[Value.ref b] s = true ∨ (Cond.not (Cond.eq (tmS j) (tmS 1))).before #[Value.ref b] s = true
  | 0, _, _ => Or.inr (flat_of_before _ hgv _ (by decide +kernel))
  | 1, _, h => absurd rfl h
  | 2, _, _ => Or.inl (flat_of_before _ hgv _ (by decide +kernel))
  | 3, _, _ => Or.inl (flat_of_before _ hgv _ (by decide +kernel))
  | 4, _, _ => Or.inl (flat_of_before _ hgv _ (by decide +kernel))
  | 5, _, _ => Or.inl (flat_of_before _ hgv _ (by decide +kernel))
  | 6, _, _ => Or.inl (flat_of_before _ hgv _ (by decide +kernel))
  | 7, _, _ => Or.inl (flat_of_before _ hgv _ (by decide +kernel))
  | n + 8, h, _ => absurd h (by omega)

theorem st_ne2 {b : Nat} {s : State} (hgv : (Jvm.Cond.and given_1 narrow_1).before #[Value.ref b] s = true) : ∀ j : Nat, j < 8 → 2 ≠ j → (Cond.not (Cond.eq (tmS 2) (tmS j))).before #[Value.ref b] s = true ∨ (Cond.not (Cond.eq (tmS j) (tmS 2))).before #[Value.ref b] s = true
  | 0, _, _ => Or.inr (flat_of_before _ hgv _ (by decide +kernel))
  | 1, _, _ => Or.inr (flat_of_before _ hgv _ (by decide +kernel))
  | 2, _, h => absurd rfl h
  | 3, _, _ => Or.inl (flat_of_before _ hgv _ (by decide +kernel))
  | 4, _, _ => Or.inl (flat_of_before _ hgv _ (by decide +kernel))
  | 5, _, _ => Or.inl (flat_of_before _ hgv _ (by decide +kernel))
  | 6, _, _ => Or.inl (flat_of_before _ hgv _ (by decide +kernel))
  | 7, _, _ => Or.inl (flat_of_before _ hgv _ (by decide +kernel))
  | n + 8, h, _ => absurd h (by omega)

theorem st_ne3 {b : Nat} {s : State} (hgv : (Jvm.Cond.and given_1 narrow_1).before #[Value.ref b] s = true) : ∀ j : Nat, j < 8 → 3 ≠ j → (Cond.not (Cond.eq (tmS 3) (tmS j))).before #[Value.ref b] s = true ∨ (Cond.not (Cond.eq (tmS j) (tmS 3))).before #[Value.ref b] s = true
  | 0, _, _ => Or.inr (flat_of_before _ hgv _ (by decide +kernel))
  | 1, _, _ => Or.inr (flat_of_before _ hgv _ (by decide +kernel))
  | 2, _, _ => Or.inr (flat_of_before _ hgv _ (by decide +kernel))
  | 3, _, h => absurd rfl h
  | 4, _, _ => Or.inl (flat_of_before _ hgv _ (by decide +kernel))
  | 5, _, _ => Or.inl (flat_of_before _ hgv _ (by decide +kernel))
  | 6, _, _ => Or.inl (flat_of_before _ hgv _ (by decide +kernel))
  | 7, _, _ => Or.inl (flat_of_before _ hgv _ (by decide +kernel))
  | n + 8, h, _ => absurd h (by omega)

theorem st_ne4 {b : Nat} {s : State} (hgv : (Jvm.Cond.and given_1 narrow_1).before #[Value.ref b] s = true) : ∀ j : Nat, j < 8 → 4 ≠ j → (Cond.not (Cond.eq (tmS 4) (tmS j))).before #[Value.ref b] s = true ∨ (Cond.not (Cond.eq (tmS j) (tmS 4))).before #[Value.ref b] s = true
  | 0, _, _ => Or.inr (flat_of_before _ hgv _ (by decide +kernel))
  | 1, _, _ => Or.inr (flat_of_before _ hgv _ (by decide +kernel))
  | 2, _, _ => Or.inr (flat_of_before _ hgv _ (by decide +kernel))
  | 3, _, _ => Or.inr (flat_of_before _ hgv _ (by decide +kernel))
  | 4, _, h => absurd rfl h
  | 5, _, _ => Or.inl (flat_of_before _ hgv _ (by decide +kernel))
  | 6, _, _ => Or.inl (flat_of_before _ hgv _ (by decide +kernel))
  | 7, _, _ => Or.inl (flat_of_before _ hgv _ (by decide +kernel))
  | n + 8, h, _ => absurd h (by omega)

theorem st_ne5 {b : Nat} {s : State} (hgv : (Jvm.Cond.and given_1 narrow_1).before #[Value.ref b] s = true) : ∀ j : Nat, j < 8 → 5 ≠ j → (Cond.not (Cond.eq (tmS 5) (tmS j))).before #[Value.ref b] s = true ∨ (Cond.not (Cond.eq (tmS j) (tmS 5))).before #[Value.ref b] s = true
  | 0, _, _ => Or.inr (flat_of_before _ hgv _ (by decide +kernel))
  | 1, _, _ => Or.inr (flat_of_before _ hgv _ (by decide +kernel))
  | 2, _, _ => Or.inr (flat_of_before _ hgv _ (by decide +kernel))
  | 3, _, _ => Or.inr (flat_of_before _ hgv _ (by decide +kernel))
  | 4, _, _ => Or.inr (flat_of_before _ hgv _ (by decide +kernel))
  | 5, _, h => absurd rfl h
  | 6, _, _ => Or.inl (flat_of_before _ hgv _ (by decide +kernel))
  | 7, _, _ => Or.inl (flat_of_before _ hgv _ (by decide +kernel))
  | n + 8, h, _ => absurd h (by omega)

theorem st_ne6 {b : Nat} {s : State} (hgv : (Jvm.Cond.and given_1 narrow_1).before #[Value.ref b] s = true) : ∀ j : Nat, j < 8 → 6 ≠ j → (Cond.not (Cond.eq (tmS 6) (tmS j))).before #[Value.ref b] s = true ∨ (Cond.not (Cond.eq (tmS j) (tmS 6))).before #[Value.ref b] s = true
  | 0, _, _ => Or.inr (flat_of_before _ hgv _ (by decide +kernel))
  | 1, _, _ => Or.inr (flat_of_before _ hgv _ (by decide +kernel))
  | 2, _, _ => Or.inr (flat_of_before _ hgv _ (by decide +kernel))
  | 3, _, _ => Or.inr (flat_of_before _ hgv _ (by decide +kernel))
  | 4, _, _ => Or.inr (flat_of_before _ hgv _ (by decide +kernel))
  | 5, _, _ => Or.inr (flat_of_before _ hgv _ (by decide +kernel))
  | 6, _, h => absurd rfl h
  | 7, _, _ => Or.inl (flat_of_before _ hgv _ (by decide +kernel))
  | n + 8, h, _ => absurd h (by omega)

theorem st_ne7 {b : Nat} {s : State} (hgv : (Jvm.Cond.and given_1 narrow_1).before #[Value.ref b] s = true) : ∀ j : Nat, j < 8 → 7 ≠ j → (Cond.not (Cond.eq (tmS 7) (tmS j))).before #[Value.ref b] s = true ∨ (Cond.not (Cond.eq (tmS j) (tmS 7))).before #[Value.ref b] s = true
  | 0, _, _ => Or.inr (flat_of_before _ hgv _ (by decide +kernel))
  | 1, _, _ => Or.inr (flat_of_before _ hgv _ (by decide +kernel))
  | 2, _, _ => Or.inr (flat_of_before _ hgv _ (by decide +kernel))
  | 3, _, _ => Or.inr (flat_of_before _ hgv _ (by decide +kernel))
  | 4, _, _ => Or.inr (flat_of_before _ hgv _ (by decide +kernel))
  | 5, _, _ => Or.inr (flat_of_before _ hgv _ (by decide +kernel))
  | 6, _, _ => Or.inr (flat_of_before _ hgv _ (by decide +kernel))
  | 7, _, h => absurd rfl h
  | n + 8, h, _ => absurd h (by omega)

theorem st_ne {b : Nat} {s : State} (hgv : (Jvm.Cond.and given_1 narrow_1).before #[Value.ref b] s = true) : ∀ i j : Nat, i < 8 → j < 8 → i ≠ j → (Cond.not (Cond.eq (tmS i) (tmS j))).before #[Value.ref b] s = true ∨ (Cond.not (Cond.eq (tmS j) (tmS i))).before #[Value.ref b] s = true
  | 0, j, _, hj, h => st_ne0 hgv j hj h
  | 1, j, _, hj, h => st_ne1 hgv j hj h
  | 2, j, _, hj, h => st_ne2 hgv j hj h
  | 3, j, _, hj, h => st_ne3 hgv j hj h
  | 4, j, _, hj, h => st_ne4 hgv j hj h
  | 5, j, _, hj, h => st_ne5 hgv j hj h
  | 6, j, _, hj, h => st_ne6 hgv j hj h
  | 7, j, _, hj, h => st_ne7 hgv j hj h
  | n + 8, _, h, _, _ => absurd h (by omega)

theorem st_len : ∀ i : Nat, i < 8 → lenS.getD i 0 < 2 ^ 31 := by decide
theorem gtbl_sub {w : Cond} (h : w ∈ gtbl) : w ∈ lw_tbl := (List.mem_filter.mp h).1

theorem lt1 {w : Cond} (i : Nat) (h : tables_1_1[i]? = some w) : w ∈ lw_tbl := by
  have h9 := List.mem_of_getElem? h
  exact List.mem_append_right _ (List.mem_append_left _ h9)
theorem lt2 {w : Cond} (i : Nat) (h : tables_1_2[i]? = some w) : w ∈ lw_tbl := by
  have h9 := List.mem_of_getElem? h
  exact List.mem_append_right _ (List.mem_append_right _ (List.mem_append_left _ h9))
theorem lt3 {w : Cond} (i : Nat) (h : tables_1_3[i]? = some w) : w ∈ lw_tbl := by
  have h9 := List.mem_of_getElem? h
  exact List.mem_append_right _ (List.mem_append_right _ (List.mem_append_right _ (List.mem_append_left _ h9)))
theorem lt4 {w : Cond} (i : Nat) (h : tables_1_4[i]? = some w) : w ∈ lw_tbl := by
  have h9 := List.mem_of_getElem? h
  exact List.mem_append_right _ (List.mem_append_right _ (List.mem_append_right _ (List.mem_append_right _ (List.mem_append_left _ h9))))
theorem lt5 {w : Cond} (i : Nat) (h : tables_1_5[i]? = some w) : w ∈ lw_tbl := by
  have h9 := List.mem_of_getElem? h
  exact List.mem_append_right _ (List.mem_append_right _ (List.mem_append_right _ (List.mem_append_right _ (List.mem_append_right _ (List.mem_append_left _ h9)))))
theorem lt6 {w : Cond} (i : Nat) (h : tables_1_6[i]? = some w) : w ∈ lw_tbl := by
  have h9 := List.mem_of_getElem? h
  exact List.mem_append_right _ (List.mem_append_right _ (List.mem_append_right _ (List.mem_append_right _ (List.mem_append_right _ (List.mem_append_right _ (List.mem_append_left _ h9))))))
theorem lt7 {w : Cond} (i : Nat) (h : tables_1_7[i]? = some w) : w ∈ lw_tbl := by
  have h9 := List.mem_of_getElem? h
  exact List.mem_append_right _ (List.mem_append_right _ (List.mem_append_right _ (List.mem_append_right _ (List.mem_append_right _ (List.mem_append_right _ (List.mem_append_right _ (List.mem_append_left _ h9)))))))
theorem lt8 {w : Cond} (i : Nat) (h : tables_1_8[i]? = some w) : w ∈ lw_tbl := by
  have h9 := List.mem_of_getElem? h
  exact List.mem_append_right _ (List.mem_append_right _ (List.mem_append_right _ (List.mem_append_right _ (List.mem_append_right _ (List.mem_append_right _ (List.mem_append_right _ (List.mem_append_right _ (List.mem_append_left _ h9))))))))
theorem lt9 {w : Cond} (i : Nat) (h : tables_1_9[i]? = some w) : w ∈ lw_tbl := by
  have h9 := List.mem_of_getElem? h
  exact List.mem_append_right _ (List.mem_append_right _ (List.mem_append_right _ (List.mem_append_right _ (List.mem_append_right _ (List.mem_append_right _ (List.mem_append_right _ (List.mem_append_right _ (List.mem_append_right _ (h9)))))))))
theorem st_nest {b : Nat} {s : State} (hts : ∀ w ∈ lw_tbl, w.before #[Value.ref b] s = true) : ∀ q ∈ nestL, va_Nw (.methodLinkNest q.1 q.2.1 q.2.2.1 q.2.2.2) s := List.forall_mem_cons.mpr ⟨va_Nw.of rfl (hts _ (lt1 37 rfl)), List.forall_mem_cons.mpr ⟨va_Nw.of rfl (hts _ (lt1 61 rfl)), List.forall_mem_cons.mpr ⟨va_Nw.of rfl (hts _ (lt1 155 rfl)), List.forall_mem_cons.mpr ⟨va_Nw.of rfl (hts _ (lt1 180 rfl)), List.forall_mem_cons.mpr ⟨va_Nw.of rfl (hts _ (lt2 69 rfl)), List.forall_mem_cons.mpr ⟨va_Nw.of rfl (hts _ (lt2 112 rfl)), fun w h => absurd h List.not_mem_nil⟩⟩⟩⟩⟩⟩
theorem st_decl {b : Nat} {s : State} (hts : ∀ w ∈ lw_tbl, w.before #[Value.ref b] s = true) : ∀ y ∈ xDecl, va_Nw (.declares y) s := List.forall_mem_cons.mpr ⟨va_Nw.of rfl (hts _ (lt6 87 rfl)), List.forall_mem_cons.mpr ⟨va_Nw.of rfl (hts _ (lt6 89 rfl)), List.forall_mem_cons.mpr ⟨va_Nw.of rfl (hts _ (lt6 91 rfl)), fun w h => absurd h List.not_mem_nil⟩⟩⟩
theorem st_str {b : Nat} {s : State} (hts : ∀ w ∈ lw_tbl, w.before #[Value.ref b] s = true) (hgv : (Jvm.Cond.and given_1 narrow_1).before #[Value.ref b] s = true) {ad : Nat → Nat} (hev : ∀ i, i < 8 → (tmS i).eval #[Value.ref b] s none [] s = some (.ref (ad (sB + i)))) : ∀ q ∈ strL, vk_R q.1 q.2.1 q.2.2.1 (ad (sB + q.2.2.2)) s := List.forall_mem_cons.mpr ⟨vk_R.of (hts _ (lt3 76 rfl)) (hev 0 (by decide)), List.forall_mem_cons.mpr ⟨vk_R.of (hts _ (lt7 153 rfl)) (hev 1 (by decide)), List.forall_mem_cons.mpr ⟨vk_R.of (hts _ (lt7 190 rfl)) (hev 2 (by decide)), List.forall_mem_cons.mpr ⟨vk_R.of (hts _ (lt7 209 rfl)) (hev 3 (by decide)), List.forall_mem_cons.mpr ⟨vk_R.of (hts _ (lt8 2 rfl)) (va_eqR (flat_of_before _ hgv (Cond.eq (.string "OneWithTheBags$Rule" 98) (.string "OneWithTheBagsModel" 260)) (by decide +kernel)) (hev 0 (by decide))), List.forall_mem_cons.mpr ⟨vk_R.of (hts _ (lt8 3 rfl)) (hev 4 (by decide)), List.forall_mem_cons.mpr ⟨vk_R.of (hts _ (lt8 4 rfl)) (hev 5 (by decide)), List.forall_mem_cons.mpr ⟨vk_R.of (hts _ (lt8 5 rfl)) (hev 6 (by decide)), List.forall_mem_cons.mpr ⟨vk_R.of (hts _ (lt8 202 rfl)) (hev 7 (by decide)), fun w h => absurd h List.not_mem_nil⟩⟩⟩⟩⟩⟩⟩⟩⟩
theorem st_K {b : Nat} {s : State} (hts : ∀ w ∈ gtbl, w.before #[Value.ref b] s = true) (htl : ∀ w ∈ lw_tbl, w.before #[Value.ref b] s = true) : ∃ (D : va_G) (cy : Nat → ClassId), va_K D vwCl (tysM cy) s := by
  obtain ⟨c0, i0, h0⟩ := u_known (C := RX0) (T := TX0) (N := 5) (n := 5) hts cl0.2.1 (hts _ ki_X0)
  obtain ⟨c1, i1, h1⟩ := u_known (C := RX1) (T := TX1) (N := 10) (n := 10) hts cl1.2.1 (hts _ ki_X1)
  obtain ⟨c2, i2, h2⟩ := u_known (C := RX2) (T := TX2) (N := 2) (n := 2) hts cl2.2.1 (hts _ ki_X2)
  obtain ⟨c3, i3, h3⟩ := u_known (C := RX3) (T := TX3) (N := 10) (n := 10) hts cl3.2.1 (hts _ ki_X3)
  obtain ⟨c4, i4, h4⟩ := u_known (C := RX4) (T := TX4) (N := 5) (n := 5) hts cl4.2.1 (hts _ ki_X4)
  obtain ⟨c5, i5, h5⟩ := u_known (C := RX5) (T := TX5) (N := 2) (n := 2) hts cl5.2.1 (hts _ ki_X5)
  obtain ⟨c6, i6, h6⟩ := u_known (C := RX6) (T := TX6) (N := 2) (n := 2) hts cl6.2.1 (hts _ ki_X6)
  obtain ⟨c7, i7, h7⟩ := u_known (C := RX7) (T := TX7) (N := 8) (n := 8) hts cl7.2.1 (hts _ ki_X7)
  obtain ⟨c8, i8, h8⟩ := u_known (C := RX8) (T := TX8) (N := 5) (n := 5) hts cl8.2.1 (hts _ ki_X8)
  obtain ⟨c9, i9, h9⟩ := u_known (C := RX9) (T := TX9) (N := 13) (n := 13) hts cl9.2.1 (hts _ ki_X9)
  obtain ⟨c10, i10, h10⟩ := u_known (C := RX10) (T := TX10) (N := 5) (n := 5) hts cl10.2.1 (hts _ ki_X10)
  obtain ⟨c11, i11, h11⟩ := u_known (C := RX11) (T := TX11) (N := 13) (n := 13) hts cl11.2.1 (hts _ ki_X11)
  obtain ⟨c12, i12, h12⟩ := u_known (C := RX12) (T := TX12) (N := 59) (n := 59) hts cl12.2.1 (hts _ ki_X12)
  obtain ⟨aI, kI, mI, fI, gI, dI⟩ := Cond.arrayClass_spec (hts _ ka_int)
  obtain ⟨aJ, kJ, mJ, fJ, gJ, dJ⟩ := Cond.arrayClass_spec (hts _ ka_long)
  obtain ⟨aZ, kZ, mZ, fZ, gZ, dZ⟩ := Cond.arrayClass_spec (hts _ ka_boolean)
  obtain ⟨mM, aM, kM, eM, -, gM, dM, fM⟩ := Cond.arrayOver_spec (htl _ (lt1 178 rfl : Cond.arrayOver (.object RX2) ∈ lw_tbl))
  obtain ⟨mP, aP, kP, eP, -, gP, dP, fP⟩ := Cond.arrayOver_spec (htl _ (lt2 68 rfl : Cond.arrayOver (.object RX5) ∈ lw_tbl))
  refine ⟨((fun k => match k with | 0 => c0 | 1 => c1 | 2 => c2 | 3 => c3 | 4 => c4 | 5 => c5 | 6 => c6 | 7 => c7 | 8 => c8 | 9 => c9 | 10 => c10 | 11 => c11 | _ => c12), (fun k => match k with | 0 => i0 | 1 => i1 | 2 => i2 | 3 => i3 | 4 => i4 | 5 => i5 | 6 => i6 | 7 => i7 | 8 => i8 | 9 => i9 | 10 => i10 | 11 => i11 | _ => i12)), (fun k => match k with | 0 => aI | 1 => aJ | 2 => aZ | 3 => aM | _ => aP), ?_, ?_⟩
  · intro c q hq
    match c, hq with
    | 0, hq => cases hq; exact h0
    | 1, hq => cases hq; exact h1
    | 2, hq => cases hq; exact h2
    | 3, hq => cases hq; exact h3
    | 4, hq => cases hq; exact h4
    | 5, hq => cases hq; exact h5
    | 6, hq => cases hq; exact h6
    | 7, hq => cases hq; exact h7
    | 8, hq => cases hq; exact h8
    | 9, hq => cases hq; exact h9
    | 10, hq => cases hq; exact h10
    | 11, hq => cases hq; exact h11
    | 12, hq => cases hq; exact h12
    | n + 13, hq => simp at hq
  · intro k q hq
    match k, hq with
    | 0, hq => cases hq; exact ⟨fun N z => ⟨(fun k h => by cases h), kI, gI, mI, dI⟩, fI⟩
    | 1, hq => cases hq; exact ⟨fun N z => ⟨(fun k h => by cases h), kJ, gJ, mJ, dJ⟩, fJ⟩
    | 2, hq => cases hq; exact ⟨fun N z => ⟨(fun k h => by cases h), kZ, gZ, mZ, dZ⟩, fZ⟩
    | 3, hq => cases hq; exact ⟨fun N z => ⟨(fun k h => by cases h), kM, gM, mM, dM⟩, kM, mM, gM, dM, eM, fM⟩
    | 4, hq => cases hq; exact ⟨fun N z => ⟨(fun k h => by cases h), kP, gP, mP, dP⟩, kP, mP, gP, dP, eP, fP⟩
    | n + 5, hq => simp [tysM] at hq
/-- the judgement's context at the law's entry -/
theorem st_ctx {b : Nat} {s : State} (hb : b < s.heap.size) (htl : ∀ w ∈ lw_tbl, w.before #[Value.ref b] s = true) (hgv : (Jvm.Cond.and given_1 narrow_1).before #[Value.ref b] s = true) : ∃ (D : va_G) (cy : Nat → ClassId) (ad : Nat → Nat), KK D cy s.heap.size ad s ∧ (∀ k, k < sB → ad k = s.heap.size + k) ∧ ad (sB + 300) = b := by
  have hts : ∀ w ∈ gtbl, w.before #[Value.ref b] s = true := fun w h => htl w (gtbl_sub h)
  have hA : ∀ a : Nat, a < s.heap.size → ¬ (fun q => s.heap.size ≤ q) a := fun a h => Nat.not_le.mpr h
  obtain ⟨D, cy, hK⟩ := st_K hts htl
  obtain ⟨adK, adV, hS, hev⟩ := vk_Sof (A := fun q => s.heap.size ≤ q) st_len (st_ex hgv) (st_co hgv) (st_ar hgv) (st_le hgv) (st_el hgv) (st_ne hgv) hA
  have hF := va_Zqof (C := "jdk/internal/util/Preconditions") (n := "SIOOBE_FORMATTER") (d := "Ljava/util/function/BiFunction;") (A := fun q => s.heap.size ≤ q) (htl _ (lt3 132 rfl)) (htl _ (lt1 18 rfl)) (flat_of_before _ hgv _ (by decide +kernel)) hA
  have hF2 : ∃ (fz : Value) (z : Nat), fz = .null ∧ va_Z "jdk/internal/util/Preconditions" "SIOOBE_FORMATTER" "Ljava/util/function/BiFunction;" .null (fun q => s.heap.size ≤ q) s s.heap ∨ fz = .ref (sB + 200) ∧ va_Z "jdk/internal/util/Preconditions" "SIOOBE_FORMATTER" "Ljava/util/function/BiFunction;" (.ref z) (fun q => s.heap.size ≤ q) s s.heap := by
    rcases hF with h | ⟨t, h⟩
    · exact ⟨.null, 0, Or.inl ⟨rfl, h⟩⟩
    · exact ⟨.ref (sB + 200), t, Or.inr ⟨rfl, h⟩⟩
  obtain ⟨fz, z, hfz⟩ := hF2
  obtain ⟨ad, a1, a2, a3, a4, a5⟩ : ∃ ad : Nat → Nat, (∀ k, k < sB → ad k = s.heap.size + k) ∧ (∀ i, i < 100 → ad (sB + i) = adK i) ∧ (∀ i, i < 100 → ad (sB + 100 + i) = adV i) ∧ ad (sB + 200) = z ∧ ad (sB + 300) = b := by
    refine ⟨(fun k => if k < sB then s.heap.size + k else if k < sB + 100 then adK (k - sB) else if k < sB + 200 then adV (k - (sB + 100)) else if k < sB + 300 then z else b), fun k h => if_pos h, fun i hi => ?_, fun i hi => ?_, ?_, ?_⟩
    · show (if sB + i < sB then s.heap.size + (sB + i) else if sB + i < sB + 100 then adK (sB + i - sB) else if sB + i < sB + 200 then adV (sB + i - (sB + 100)) else if sB + i < sB + 300 then z else b) = adK i
      rw [if_neg (by omega), if_pos (by omega), Nat.add_sub_cancel_left]
    · show (if sB + 100 + i < sB then s.heap.size + (sB + 100 + i) else if sB + 100 + i < sB + 100 then adK (sB + 100 + i - sB) else if sB + 100 + i < sB + 200 then adV (sB + 100 + i - (sB + 100)) else if sB + 100 + i < sB + 300 then z else b) = adV i
      rw [if_neg (by omega), if_neg (by omega), if_pos (by omega), Nat.add_sub_cancel_left]
    · show (if sB + 200 < sB then _ else if sB + 200 < sB + 100 then _ else if sB + 200 < sB + 200 then _ else if sB + 200 < sB + 300 then z else b) = z
      rw [if_neg (by omega), if_neg (by omega), if_neg (by omega), if_pos (by omega)]
    · show (if sB + 300 < sB then _ else if sB + 300 < sB + 100 then _ else if sB + 300 < sB + 200 then _ else if sB + 300 < sB + 300 then z else b) = b
      rw [if_neg (by omega), if_neg (by omega), if_neg (by omega), if_neg (by omega)]
  refine ⟨D, cy, ad, ?_, a1, a5⟩
  refine ⟨hK, st_nest htl, va_AO.of (htl _ (lt1 178 rfl)), va_AO.of (htl _ (lt2 68 rfl)), ?_, st_str (ad := ad) htl hgv (fun i hi => ?_), va_Zof (htl _ (lt3 91 rfl)) (htl _ (lt1 16 rfl)) (va_eqi (flat_of_before _ hgv _ (by decide +kernel))) hA, vx_Zqof (htl _ (lt6 111 rfl)) (htl _ (lt1 22 rfl)) (flat_of_before _ hgv _ (by decide +kernel)) hA, vx_Zqof (htl _ (lt6 113 rfl)) (htl _ (lt1 22 rfl)) (flat_of_before _ hgv _ (by decide +kernel)) hA, va_Nw.of rfl (htl _ (lt6 86 rfl)), st_decl htl, fz, ?_, ?_⟩
  · refine ⟨fun i hi => ?_, fun i j hi hj h => ?_⟩
    · have h := hS.1 i hi
      dsimp only
      rw [a2 i (by omega), a3 i (by omega)]
      exact h
    · dsimp only at h
      rw [a2 i (by omega), a2 j (by omega)] at h
      exact hS.2 i j hi hj h
  · rw [hev i hi, a2 i (by omega)]
  · rcases hfz with ⟨rfl, -⟩ | ⟨rfl, -⟩ <;> rfl
  · rcases hfz with ⟨rfl, h⟩ | ⟨rfl, h⟩
    · exact h
    · show va_Z _ _ _ (.ref (ad (sB + 200))) _ _ _
      rw [a4]
      exact h

set_option maxRecDepth 8000 in
theorem whole_start_of (hpure : ∀ (L : Nat) (xs : Nat → Int32), L ≤ 2560 → ∃ M, g_law L xs = some ((1 : Int32), M)) {p : Program} {e : Env} {s : State} {m : MethodId} {below : List Frame} {meth : Method} {c : Code} (l : Launch) (hl0 : l.stackTraces = false) {b L : Nat} {xs : Nat → Int32} (hL : L ≤ 2560) (C0 : lw_At p s m meth c b L xs) : W p l e room_1 s m #[Value.ref b] below meth c s.heap [] 0 0 (lw_Z below #[Value.ref b] s) (entryFrame m ([Value.ref b] : List Value).toArray 8) := by
  obtain ⟨hx, hb, hr, hml, hown, htl, hX, hbl, hlocks, hgv⟩ := C0
  obtain ⟨D, cy, ad, hKK, had, hadb⟩ := st_ctx hbl htl hgv
  obtain ⟨Mz, hg⟩ := hpure L xs hL
  have hts : ∀ w ∈ gtbl, w.before #[Value.ref b] s = true := fun w h => htl w (gtbl_sub h)
  have XT : Cb ((p, l, e, room_1), (s, m, #[Value.ref b], below), (meth, c), (D, cy, s.heap.size, ad, true), fun _ => lw_Z below #[Value.ref b] s) cL_law 8 RL room_1 true := ⟨hx, hb, hml, hown, hts, hKK, had, rfl, Nat.le_refl _, rfl⟩
  have XF : Cb ((p, l, e, room_1), (s, m, #[Value.ref b], below), (meth, c), (D, cy, s.heap.size, ad, false), fun _ => lw_Z below #[Value.ref b] s) cL_law 8 RL room_1 false := ⟨hx, hb, hml, hown, hts, hKK, had, rfl, Nat.le_refl _, rfl⟩
  have SF : SX ((p, l, e, room_1), (s, m, #[Value.ref b], below), (meth, c), (D, cy, s.heap.size, ad, false), fun _ => lw_Z below #[Value.ref b] s) L xs := ⟨by show va_X (ad (sB + 300)) L xs s s.heap; rw [hadb]; exact hX, by show ad (sB + 300) < s.heap.size; rw [hadb]; exact hbl, by show ad (sB + 300) < s.heap.size; rw [hadb]; exact hbl⟩
  have hret : ∀ (c9 s9 : Nat) (lv : List (Nat × Value)) (M : MM), csL c9 s9 → V ((p, l, e, room_1), (s, m, #[Value.ref b], below), (meth, c), (D, cy, s.heap.size, ad, false), fun _ => lw_Z below #[Value.ref b] s) trI 8 c9 s9 1694 lv [.int 1] M (some ((1 : Int32), M)) := by
    intro c9 s9 lv M hcs o ho H locs ls hR hS hl
    refine va_forget (fun q hq => hS.2.2 q hq) ?_
    refine W.widen (k := 601024) (n := 7293034) (Nat.le_trans hcs.1 (by decide)) (Nat.le_trans hcs.2 (by decide)) ?_
    exact lw_ret hx hb hr hlocks dL_law_1694
  have hV : V ((p, l, e, room_1), (s, m, #[Value.ref b], below), (meth, c), (D, cy, s.heap.size, ad, true), fun _ => lw_Z below #[Value.ref b] s) trI 8 0 0 0 [(0, .ref (sB + 300))] [] M00 (g_law L xs) := by
    unfold g_law
    refine v_new XT 3 cl11 kk_L_8 ki_X11 in_X11 (by decide) (by decide) (by decide) dL_law_0 rfl (fun a1 M1 => ?_)
    refine v_dup XT 4 dL_law_3 rfl rfl ?_
    refine v_iniL XT 7 ci_X11_init ml_L_25 (c1 := 142) (s1 := 1228) (n1 := 4) ⟨by decide, by decide⟩ rfl (by decide) (by decide) [] rfl rfl rfl dL_law_4 rfl (fun M1 h => c_X11_init _ _ _ _ h) (fun M2 => ?_)
    refine v_astore_n (lv' := [(0, .ref (sB + 300)), (1, .ref a1)]) XT 8 dL_law_7 (by decide) rfl rfl ?_
    refine v_new XT 11 cl12 kk_L_26 ki_X12 in_X12 (by decide) (by decide) (by decide) dL_law_8 rfl (fun a3 M3 => ?_)
    refine v_dup XT 12 dL_law_11 rfl rfl ?_
    refine v_iniL XT 15 ci_X12_init ml_L_28 (c1 := 39) (s1 := 1865) (n1 := 2) ⟨by decide, by decide⟩ rfl (by decide) (by decide) [] rfl rfl rfl dL_law_12 rfl (fun M1 h => c_X12_init _ _ _ _ h) (fun M4 => ?_)
    refine v_astore_n (lv' := [(0, .ref (sB + 300)), (1, .ref a1), (2, .ref a3)]) XT 16 dL_law_15 (by decide) rfl rfl ?_
    refine v_iconst XT 17 dL_law_16 ik_1 rfl ?_
    refine v_newa (aty := .long) (ty := .long) XT 19 21 1 1 rfl ka_long (Or.inr (Or.inl ⟨rfl, rfl, rfl⟩)) (by decide) (by decide) (by decide) (by decide) (by decide) dL_law_17 rfl (fun a5 M5 => ?_)
    refine v_astore_n (lv' := [(0, .ref (sB + 300)), (1, .ref a1), (2, .ref a3), (3, .ref a5)]) XT 20 dL_law_19 (by decide) rfl rfl ?_
    refine v_iconst XT 21 dL_law_20 ik_0 rfl ?_
    refine v_istore (lv' := [(0, .ref (sB + 300)), (1, .ref a1), (2, .ref a3), (3, .ref a5), (4, .int 0)]) XT 23 dL_law_21 (by decide) rfl rfl ?_
    refine v_loose (L_loop XF SF hl0 hret a1 a3 a5 600 _ _ 0 M5 ?_)
    exact ⟨by decide, by decide⟩
  have hl := lv_entry ([Value.ref b]) (n := 8) (Nat.le_of_ble_eq_true rfl)
  rw [lg_entry_eq]
  have hR : Rp D cy s.heap.size ad true M00 s.heap := ⟨fun k q hq => by simp [wsM, mN, M00] at hq, Nat.le_refl _, fun _ => rfl, Nat.zero_le _⟩
  exact hV _ hg s.heap [] _ hR va_S.rf (by show lv_has _ 8 [(0, .ref (ad (sB + 300)))]; rw [hadb]; exact hl)


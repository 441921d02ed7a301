/-! WHAT THE TABLES SAY, beside the good words -/
def nestL : List (String × Nat × MethodName × String) := [(RX11, 9, yX10_init, RX11), (RX11, 18, yX6_init, RX11), (RX11, 32, yX5_init, RX11), (RX1, 25, yX2_init, RX11), (RX4, 27, yX5_init, RX11), (RX11, 86, yX0_init, RX11)]
/-- the texts: who names them, by which number, the text, which of the eight it is -/
def strL : List (String × Nat × String × Nat) := [(RX7, 98, "wasnieyz", 0), (RX12, 221, "p", 1), (RX12, 226, "e", 2), (RX12, 216, "+*", 3), (RX12, 260, "wasnieyz", 0), (RX12, 265, "<>=", 4), (RX12, 267, "+-", 5), (RX12, 269, "*/", 6), (RX12, 406, "gxs", 7)]
def strC : List (List Nat) := [[119, 97, 115, 110, 105, 101, 121, 122], [112], [101], [43, 42], [60, 62, 61], [43, 45], [42, 47], [103, 120, 115]]
def lenS : List Nat := strC.map List.length
def bytS : List (List Int32) := strC.map (fun l => l.map nI)
def NSE : String := "java/util/NoSuchElementException"
def xDecl : List MethodName := [⟨"java/lang/RuntimeException", "<init>", "()V"⟩, ⟨"java/lang/Exception", "<init>", "()V"⟩, ⟨"java/lang/Throwable", "<init>", "()V"⟩]
def KK (D : va_G) (cy : Nat → ClassId) (sz : Nat) (ad : Nat → Nat) (U : State) : Prop :=
  va_K D vwCl (tysM cy) U ∧ (∀ q ∈ nestL, va_Nw (.methodLinkNest q.1 q.2.1 q.2.2.1 q.2.2.2) U) ∧ va_AO RX2 U ∧ va_AO RX5 U ∧ vk_S 8 lenS bytS (fun i => ad (sB + i)) (fun i => ad (sB + 100 + i)) (fun q => sz ≤ q) U U.heap ∧ (∀ q ∈ strL, vk_R q.1 q.2.1 q.2.2.1 (ad (sB + q.2.2.2)) U) ∧ va_Z "java/lang/String" "COMPACT_STRINGS" "Z" (.int 1) (fun q => sz ≤ q) U U.heap ∧ vx_Zq Bundle.tN "UNASSIGNED_STACK" Bundle.steD (fun q => sz ≤ q) U U.heap ∧ vx_Zq Bundle.tN "SUPPRESSED_SENTINEL" Bundle.listD (fun q => sz ≤ q) U U.heap ∧ va_Nw (.castable NSE NSE) U ∧ (∀ y ∈ xDecl, va_Nw (.declares y) U) ∧ ∃ fz : Value, fz.category = 1 ∧ va_Z "jdk/internal/util/Preconditions" "SIOOBE_FORMATTER" "Ljava/util/function/BiFunction;" (shV ad fz) (fun q => sz ≤ q) U U.heap
theorem KK.move {D : va_G} {cy : Nat → ClassId} {sz : Nat} {ad : Nat → Nat} {s U : State} {locs : List Loc} (h : KK D cy sz ad s) (hW : s.WarmedH U.vm) (hS : va_S (fun q => sz ≤ q) s.heap U.heap locs) : KK D cy sz ad U := by
  obtain ⟨h1, h2, h3, h4, h5, h6, h7, hu, hn, hca, hde, fz, h8, h9⟩ := h
  exact ⟨h1.moved hW.alike, fun q hq => (h2 q hq).warmM hW, h3.moved hW.alike, h4.moved hW.alike, (h5.moved hW.alike).kept (fun a h1 h2 => hS.2.1 a h1 h2), fun q hq => (h6 q hq).warm hW, (h7.moved hW.alike).kept (fun a h1 h2 => hS.2.1 a h1 h2), (vx_Zq.moved hW.alike hu).kept (fun a h1 h2 => hS.2.1 a h1 h2), (vx_Zq.moved hW.alike hn).kept (fun a h1 h2 => hS.2.1 a h1 h2), hca.warmC hW, fun y hy => (hde y hy).warmD hW, fz, h8, (h9.moved hW.alike).kept (fun a h1 h2 => hS.2.1 a h1 h2)⟩
theorem KK.blind {D : va_G} {cy : Nat → ClassId} {sz : Nat} {ad : Nat → Nat} {U V : State} (h : KK D cy sz ad U) (hv : U.vm = V.vm) (hh : U.heap = V.heap) : KK D cy sz ad V := by
  obtain ⟨h1, h2, h3, h4, h5, h6, h7, hu, hn, hca, hde, fz, h8, h9⟩ := h
  have ha : U.vm.Alike V.vm := by rw [hv]; exact Vm.Alike.refl _
  refine ⟨h1.moved ha, fun q hq => (h2 q hq).same rfl hv, h3.moved ha, h4.moved ha, ?_, fun q hq => (h6 q hq).same hv.symm, ?_, ?_, ?_, hca.same rfl hv, fun y hy => (hde y hy).same rfl hv, fz, h8, ?_⟩
  · rw [← hh]; exact h5.moved ha
  · rw [← hh]; exact h7.moved ha
  · rw [← hh]; exact vx_Zq.moved ha hu
  · rw [← hh]; exact vx_Zq.moved ha hn
  · rw [← hh]; exact h9.moved ha
/-! THE JUDGEMENT: from this place of the code, with these locals, this stack and this memory, the machine comes to the end that 'res' says, if it says one -/
abbrev Gx : Type := (Program × Launch × Env × Room) × (State × MethodId × Array Value × List Frame) × (Method × Code) × (va_G × (Nat → ClassId) × Nat × (Nat → Nat) × Bool) × ((Option Value × MM) → State → Prop)
def V {α : Type} (G : Gx) (tr : α → Option Value × MM) (nL cells slots pc : Nat) (lv : List (Nat × Value)) (st : List Value) (M : MM) (res : Option α) : Prop :=
  ∀ o, res = some o → ∀ (H : Heap) (locs : List Loc) (ls : Array Slot), Rp G.2.2.2.1.1 G.2.2.2.1.2.1 G.2.2.2.1.2.2.1 G.2.2.2.1.2.2.2.1 G.2.2.2.1.2.2.2.2 M H → va_S (fun q => G.2.2.2.1.2.2.1 ≤ q) G.2.1.1.heap H locs → lv_has ls nL (shL G.2.2.2.1.2.2.2.1 lv) →
    W G.1.1 G.1.2.1 G.1.2.2.1 G.1.2.2.2 G.2.1.1 G.2.1.2.1 G.2.1.2.2.1 G.2.1.2.2.2 G.2.2.1.1 G.2.2.1.2 H locs cells slots (G.2.2.2.2 (tr o)) (F0 G.2.1.2.1 pc ls (st.map (shV G.2.2.2.1.2.2.2.1)))
def Cb (G : Gx) (cc : ByteArray) (nL : Nat) (own : String) (rm : Room) (tg : Bool) : Prop :=
  G.1.1.tables.exec = Jvm.exec ∧ G.2.2.1.2.code = cc ∧ G.2.2.1.2.maxLocals = nL ∧ G.2.1.1.vm.findClass own = some G.2.1.2.1.cls ∧ (∀ w ∈ gtbl, w.before G.2.1.2.2.1 G.2.1.1 = true) ∧ KK G.2.2.2.1.1 G.2.2.2.1.2.1 G.2.2.2.1.2.2.1 G.2.2.2.1.2.2.2.1 G.2.1.1 ∧ (∀ k, k < sB → G.2.2.2.1.2.2.2.1 k = G.2.2.2.1.2.2.1 + k) ∧ G.1.2.2.2 = rm ∧ G.2.2.2.1.2.2.1 ≤ G.2.1.1.heap.size ∧ G.2.2.2.1.2.2.2.2 = tg
/-- a method's end: it returns r, the memory is M' -/
def stQ (D : va_G) (cy : Nat → ClassId) (sz : Nat) (ad : Nat → Nat) (tg : Bool) (r : Option Value) (M' : MM) : Array Value → State → Outcome → State → Prop := fun _ st oc t => oc = .returned (r.map (shV ad)) ∧ Rp D cy sz ad tg M' t.heap ∧ va_F (fun q => sz ≤ q) st t
/-- what a return needs: the type, and that the end asked for is a method's -/
def Cr (G : Gx) (ret : Option FieldType) (mc ms : Nat) : Prop :=
  G.2.2.1.1.sig.returnType = ret ∧ G.2.2.1.1.locks = false ∧ ∀ r M', G.2.2.2.2 (r, M') = MQ G.2.1.2.2.2 (stQ G.2.2.2.1.1 G.2.2.2.1.2.1 G.2.2.2.1.2.2.1 G.2.2.2.1.2.2.2.1 G.2.2.2.1.2.2.2.2 r M') G.2.1.2.2.1 G.2.1.1 mc ms (fun q => G.2.2.2.1.2.2.1 ≤ q)
def CtAt (l : Launch) (y : MethodName) (cc : ByteArray) (nL : Nat) (ret : Option FieldType) (rm : Room) (tg : Bool) (av : List Value) (M : MM) (r : Option Value) (M' : MM) : Prop :=
  ∀ (D : va_G) (cy : Nat → ClassId) (sz : Nat) (ad : Nat → Nat), (∀ k, k < sB → ad k = sz + k) →
    Met l y (.code y cc nL ret :: gtbl) rm (va_Pc (av.map (shV ad)) (fun U => Rp D cy sz ad tg M U.heap ∧ KK D cy sz ad U ∧ sz ≤ U.heap.size)) (stQ D cy sz ad tg r M') rm.cells rm.slots (fun q => sz ≤ q)
/-! LOCALS -/
def lvn : List (Nat × Value) → Nat → Option (Nat × Value)
  | [], _ => none
  | q :: _, 0 => some q
  | _ :: l, n + 1 => lvn l n
theorem lvn_mem {l : List (Nat × Value)} {n : Nat} {q : Nat × Value} (h : lvn l n = some q) : q ∈ l := by
  induction l generalizing n with
  | nil => cases h
  | cons a l ih =>
    cases n with
    | zero => cases h; exact List.mem_cons_self
    | succ n => exact List.mem_cons_of_mem _ (ih h)
theorem lvn_sh {ls : Array Slot} {nL : Nat} {ad : Nat → Nat} {lv : List (Nat × Value)} (h : lv_has ls nL (shL ad lv)) {n i : Nat} {v : Value} (hv : lvn lv n = some (i, v)) : ls[i]? = some (.val (shV ad v)) :=
  h.2.2 (i, shV ad v) (List.mem_map.mpr ⟨(i, v), lvn_mem hv, rfl⟩)
/-- the locals behind a store: in the order of their numbers -/
def lset : List (Nat × Value) → Nat → Value → List (Nat × Value)
  | [], i, v => [(i, v)]
  | q :: l, i, v => if q.1 + 1 = i ∧ q.2.category = 2 then lset l i v else if q.1 < i then q :: lset l i v else if q.1 = i ∨ (q.1 = i + 1 ∧ v.category = 2) then lset l i v else (i, v) :: q :: l.filter (fun z => !(z.1 == i) && (!(z.1 == i + 1 && v.category == 2) && !(z.1 + 1 == i && z.2.category == 2)))
theorem lset_mem {v : Value} {i : Nat} {z : Nat × Value} : ∀ {lv : List (Nat × Value)}, z ∈ lset lv i v → z = (i, v) ∨ (z ∈ lv ∧ z.1 ≠ i ∧ ¬ (z.1 = i + 1 ∧ v.category = 2) ∧ ¬ (z.1 + 1 = i ∧ z.2.category = 2))
  | [], h => by
    simp [lset] at h
    exact Or.inl h
  | q :: l, h => by
    unfold lset at h
    split at h
    · rcases lset_mem h with h1 | ⟨h1, h2⟩
      · exact Or.inl h1
      · exact Or.inr ⟨List.mem_cons_of_mem _ h1, h2⟩
    · split at h
      · rename_i hn hlt
        rcases List.mem_cons.mp h with h1 | h1
        · subst h1
          exact Or.inr ⟨List.mem_cons_self, by omega, fun h => by omega, hn⟩
        · rcases lset_mem h1 with h2 | ⟨h2, h3⟩
          · exact Or.inl h2
          · exact Or.inr ⟨List.mem_cons_of_mem _ h2, h3⟩
      · split at h
        · rcases lset_mem h with h1 | ⟨h1, h2⟩
          · exact Or.inl h1
          · exact Or.inr ⟨List.mem_cons_of_mem _ h1, h2⟩
        · rename_i hn hlt hne
          rcases List.mem_cons.mp h with h1 | h1
          · exact Or.inl h1
          · rcases List.mem_cons.mp h1 with h2 | h2
            · subst h2
              exact Or.inr ⟨List.mem_cons_self, fun e => hne (Or.inl e), fun e => hne (Or.inr e), hn⟩
            · obtain ⟨h3, h4⟩ := List.mem_filter.mp h2
              simp only [Bool.and_eq_true, Bool.not_eq_true', beq_eq_false_iff_ne, Bool.and_eq_false_iff, beq_iff_eq] at h4
              refine Or.inr ⟨List.mem_cons_of_mem _ h3, h4.1, fun e => ?_, fun e => ?_⟩
              · rcases h4.2.1 with g | g
                · exact g e.1
                · exact g e.2
              · rcases h4.2.2 with g | g
                · exact g e.1
                · exact g e.2
theorem lset_has1 {ls : Array Slot} {nL i : Nat} {ad : Nat → Nat} {lv lv' : List (Nat × Value)} {v : Value} (he : lset lv i v = lv') (h : lv_has ls nL ((i, shV ad v) :: (shL ad lv).filter (fun q => !(q.1 == i) && !(q.1 + 1 == i && q.2.category == 2)))) : lv_has ls nL (shL ad lv') := by
  refine ⟨h.1, h.2.1, fun q hq => h.2.2 q ?_⟩
  obtain ⟨z, hz, rfl⟩ := List.mem_map.mp hq
  rw [← he] at hz
  rcases lset_mem hz with rfl | ⟨h1, h2, h3, h4⟩
  · exact List.mem_cons_self
  · refine List.mem_cons_of_mem _ (List.mem_filter.mpr ⟨List.mem_map.mpr ⟨z, h1, rfl⟩, ?_⟩)
    simp only [Bool.and_eq_true, Bool.not_eq_true', beq_eq_false_iff_ne, Bool.and_eq_false_iff, shV_cat]
    exact ⟨h2, Classical.byCases (fun e : z.1 + 1 = i => Or.inr (fun e2 => h4 ⟨e, e2⟩)) (fun e => Or.inl e)⟩
theorem lset_has2 {ls : Array Slot} {nL i : Nat} {ad : Nat → Nat} {lv lv' : List (Nat × Value)} {v : Value} (hv : v.category = 2) (he : lset lv i v = lv') (h : lv_has ls nL ((i, shV ad v) :: (shL ad lv).filter (fun q => !(q.1 == i) && (!(q.1 == i + 1) && !(q.1 + 1 == i && q.2.category == 2))))) : lv_has ls nL (shL ad lv') := by
  refine ⟨h.1, h.2.1, fun q hq => h.2.2 q ?_⟩
  obtain ⟨z, hz, rfl⟩ := List.mem_map.mp hq
  rw [← he] at hz
  rcases lset_mem hz with rfl | ⟨h1, h2, h3, h4⟩
  · exact List.mem_cons_self
  · refine List.mem_cons_of_mem _ (List.mem_filter.mpr ⟨List.mem_map.mpr ⟨z, h1, rfl⟩, ?_⟩)
    simp only [Bool.and_eq_true, Bool.not_eq_true', beq_eq_false_iff_ne, Bool.and_eq_false_iff, shV_cat]
    exact ⟨h2, fun e => h3 ⟨e, hv⟩, Classical.byCases (fun e : z.1 + 1 = i => Or.inr (fun e2 => h4 ⟨e, e2⟩)) (fun e => Or.inl e)⟩
section ROWS
variable {α : Type} {tr : α → Option Value × MM} {G : Gx} {cc : ByteArray} {nL : Nat} {own : String} {rm : Room} {tg : Bool} {cells slots pc : Nat} {lv lv' : List (Nat × Value)} {st : List Value} {M : MM} {res : Option α}
/-- fewer locals -/
theorem v_sub (ks : List Nat) (he : ks.filterMap (lvn lv) = lv') (k : V G tr nL cells slots pc lv' st M res) : V G tr nL cells slots pc lv st M res := by
  intro o ho H locs ls hR hS hl
  refine k o ho H locs ls hR hS ⟨hl.1, hl.2.1, fun q hq => hl.2.2 q ?_⟩
  obtain ⟨z, hz, rfl⟩ := List.mem_map.mp hq
  rw [← he] at hz
  obtain ⟨i, -, hi⟩ := List.mem_filterMap.mp hz
  exact List.mem_map.mpr ⟨z, lvn_mem hi, rfl⟩
theorem v_none : V G tr nL cells slots pc lv st M none := fun o ho => by cases ho
theorem v_bn {β : Type} {x : β} {f : β → Option α} {v : β → Value} (k : ∀ x, V G tr nL cells slots pc lv (v x :: st) M (f x)) : V G tr nL cells slots pc lv (v x :: st) M (bn x f) := k x
theorem v_ite {c : Prop} {d : Decidable c} {A B : Option α} (k1 : c → V G tr nL cells slots pc lv st M A) (k2 : ¬ c → V G tr nL cells slots pc lv st M B) : V G tr nL cells slots pc lv st M (if c then A else B) := by
  by_cases h : c
  · rw [if_pos h]; exact k1 h
  · rw [if_neg h]; exact k2 h

theorem v_iconst (X : Cb G cc nL own rm tg) (q : Nat) {n : Int} {v : Int32} (d : decode cc pc = .ok (.iconst n, 1)) (hv : Int32.ofInt n = v) (hq : pc + 1 = q) (k : V G tr nL cells slots q lv (.int v :: st) M res) : V G tr nL cells slots pc lv st M res := by
  subst hq
  intro o ho H locs ls hR hS hl
  exact lv_iconst X.1 X.2.1 d hv (k o ho H locs ls hR hS hl)
theorem v_bipush (X : Cb G cc nL own rm tg) (q : Nat) {n : Int} {v : Int32} (d : decode cc pc = .ok (.bipush n, 2)) (hv : (Int8.ofInt n).toInt32 = v) (hq : pc + 2 = q) (k : V G tr nL cells slots q lv (.int v :: st) M res) : V G tr nL cells slots pc lv st M res := by
  subst hq
  intro o ho H locs ls hR hS hl
  exact lv_bipush X.1 X.2.1 d hv (k o ho H locs ls hR hS hl)
theorem v_sipush (X : Cb G cc nL own rm tg) (q : Nat) {n : Int} {v : Int32} (d : decode cc pc = .ok (.sipush n, 3)) (hv : (Int16.ofInt n).toInt32 = v) (hq : pc + 3 = q) (k : V G tr nL cells slots q lv (.int v :: st) M res) : V G tr nL cells slots pc lv st M res := by
  subst hq
  intro o ho H locs ls hR hS hl
  exact lv_sipush X.1 X.2.1 d hv (k o ho H locs ls hR hS hl)
theorem v_lconst (X : Cb G cc nL own rm tg) (q : Nat) {n : Fin 2} {v : Int64} (d : decode cc pc = .ok (.lconst n, 1)) (hv : Int64.ofNat (n : Nat) = v) (hq : pc + 1 = q) (k : V G tr nL cells slots q lv (.long v :: st) M res) : V G tr nL cells slots pc lv st M res := by
  subst hq
  intro o ho H locs ls hR hS hl
  exact lv_lconst X.1 X.2.1 d hv (k o ho H locs ls hR hS hl)
theorem v_ldc (X : Cb G cc nL own rm tg) (q : Nat) {i : Nat} {v : Int32} (d : decode cc pc = .ok (.ldc i, 2)) (hw : Cond.constant own i v ∈ gtbl) (hq : pc + 2 = q) (k : V G tr nL cells slots q lv (.int v :: st) M res) : V G tr nL cells slots pc lv st M res := by
  subst hq
  intro o ho H locs ls hR hS hl
  exact lv_ldc X.1 X.2.1 X.2.2.2.1 (X.2.2.2.2.1 _ hw) d (k o ho H locs ls hR hS hl)
theorem v_ldcw (X : Cb G cc nL own rm tg) (q : Nat) {i : Nat} {v : Int32} (d : decode cc pc = .ok (.ldc_w i, 3)) (hw : Cond.constant own i v ∈ gtbl) (hq : pc + 3 = q) (k : V G tr nL cells slots q lv (.int v :: st) M res) : V G tr nL cells slots pc lv st M res := by
  subst hq
  intro o ho H locs ls hR hS hl
  exact lv_ldcw X.1 X.2.1 X.2.2.2.1 (X.2.2.2.2.1 _ hw) d (k o ho H locs ls hR hS hl)
theorem v_ldc2 (X : Cb G cc nL own rm tg) (q : Nat) {i : Nat} {v : Int64} (d : decode cc pc = .ok (.ldc2_w i, 3)) (hw : Cond.constantLong own i v ∈ gtbl) (hq : pc + 3 = q) (k : V G tr nL cells slots q lv (.long v :: st) M res) : V G tr nL cells slots pc lv st M res := by
  subst hq
  intro o ho H locs ls hR hS hl
  exact lv_ldc2 X.1 X.2.1 X.2.2.2.1 (X.2.2.2.2.1 _ hw) d (k o ho H locs ls hR hS hl)
theorem v_iload_n (X : Cb G cc nL own rm tg) (q : Nat) {i : Fin 4} (n : Nat) {x : Int32} (d : decode cc pc = .ok (.iload_n i, 1)) (hv : lvn lv n = some ((i : Nat), .int x)) (hq : pc + 1 = q) (k : V G tr nL cells slots q lv (.int x :: st) M res) : V G tr nL cells slots pc lv st M res := by
  subst hq
  intro o ho H locs ls hR hS hl
  exact lv_iload_n X.1 X.2.1 d rfl (lvn_sh hl hv) (k o ho H locs ls hR hS hl)
theorem v_iload (X : Cb G cc nL own rm tg) (q : Nat) {i : Nat} (n : Nat) {x : Int32} (d : decode cc pc = .ok (.iload i, 2)) (hv : lvn lv n = some (i, .int x)) (hq : pc + 2 = q) (k : V G tr nL cells slots q lv (.int x :: st) M res) : V G tr nL cells slots pc lv st M res := by
  subst hq
  intro o ho H locs ls hR hS hl
  exact lv_iload X.1 X.2.1 d (lvn_sh hl hv) (k o ho H locs ls hR hS hl)
theorem v_lload_n (X : Cb G cc nL own rm tg) (q : Nat) {i : Fin 4} (n : Nat) {x : Int64} (d : decode cc pc = .ok (.lload_n i, 1)) (hv : lvn lv n = some ((i : Nat), .long x)) (hq : pc + 1 = q) (k : V G tr nL cells slots q lv (.long x :: st) M res) : V G tr nL cells slots pc lv st M res := by
  subst hq
  intro o ho H locs ls hR hS hl
  exact lv_lload_n X.1 X.2.1 d rfl (lvn_sh hl hv) (k o ho H locs ls hR hS hl)
theorem v_lload (X : Cb G cc nL own rm tg) (q : Nat) {i : Nat} (n : Nat) {x : Int64} (d : decode cc pc = .ok (.lload i, 2)) (hv : lvn lv n = some (i, .long x)) (hq : pc + 2 = q) (k : V G tr nL cells slots q lv (.long x :: st) M res) : V G tr nL cells slots pc lv st M res := by
  subst hq
  intro o ho H locs ls hR hS hl
  exact lv_lload X.1 X.2.1 d (lvn_sh hl hv) (k o ho H locs ls hR hS hl)
theorem v_aload_n (X : Cb G cc nL own rm tg) (q : Nat) {i : Fin 4} (n : Nat) {x : Nat} (d : decode cc pc = .ok (.aload_n i, 1)) (hv : lvn lv n = some ((i : Nat), .ref x)) (hq : pc + 1 = q) (k : V G tr nL cells slots q lv (.ref x :: st) M res) : V G tr nL cells slots pc lv st M res := by
  subst hq
  intro o ho H locs ls hR hS hl
  exact lv_aload_n X.1 X.2.1 d rfl (lvn_sh hl hv) (k o ho H locs ls hR hS hl)
theorem v_aload (X : Cb G cc nL own rm tg) (q : Nat) {i : Nat} (n : Nat) {x : Nat} (d : decode cc pc = .ok (.aload i, 2)) (hv : lvn lv n = some (i, .ref x)) (hq : pc + 2 = q) (k : V G tr nL cells slots q lv (.ref x :: st) M res) : V G tr nL cells slots pc lv st M res := by
  subst hq
  intro o ho H locs ls hR hS hl
  exact lv_aload X.1 X.2.1 d (lvn_sh hl hv) (k o ho H locs ls hR hS hl)
theorem v_istore_n (X : Cb G cc nL own rm tg) (q : Nat) {i : Fin 4} {x : Int32} (d : decode cc pc = .ok (.istore_n i, 1)) (hn : (i : Nat) < nL) (he : lset lv i (.int x) = lv') (hq : pc + 1 = q) (k : V G tr nL cells slots q lv' st M res) : V G tr nL cells slots pc lv (.int x :: st) M res := by
  subst hq
  intro o ho H locs ls hR hS hl
  exact lv_istore_n X.1 X.2.1 d rfl hl hn rfl (fun ls' hl' => k o ho H locs ls' hR hS (lset_has1 (v := .int x) he hl'))
theorem v_istore (X : Cb G cc nL own rm tg) (q : Nat) {i : Nat} {x : Int32} (d : decode cc pc = .ok (.istore i, 2)) (hn : i < nL) (he : lset lv i (.int x) = lv') (hq : pc + 2 = q) (k : V G tr nL cells slots q lv' st M res) : V G tr nL cells slots pc lv (.int x :: st) M res := by
  subst hq
  intro o ho H locs ls hR hS hl
  exact lv_istore X.1 X.2.1 d hl hn rfl (fun ls' hl' => k o ho H locs ls' hR hS (lset_has1 (v := .int x) he hl'))
theorem v_astore_n (X : Cb G cc nL own rm tg) (q : Nat) {i : Fin 4} {x : Nat} (d : decode cc pc = .ok (.astore_n i, 1)) (hn : (i : Nat) < nL) (he : lset lv i (.ref x) = lv') (hq : pc + 1 = q) (k : V G tr nL cells slots q lv' st M res) : V G tr nL cells slots pc lv (.ref x :: st) M res := by
  subst hq
  intro o ho H locs ls hR hS hl
  exact lv_astore_n X.1 X.2.1 d rfl hl hn rfl (fun ls' hl' => k o ho H locs ls' hR hS (lset_has1 (v := .ref x) he hl'))
theorem v_astore (X : Cb G cc nL own rm tg) (q : Nat) {i : Nat} {x : Nat} (d : decode cc pc = .ok (.astore i, 2)) (hn : i < nL) (he : lset lv i (.ref x) = lv') (hq : pc + 2 = q) (k : V G tr nL cells slots q lv' st M res) : V G tr nL cells slots pc lv (.ref x :: st) M res := by
  subst hq
  intro o ho H locs ls hR hS hl
  exact lv_astore X.1 X.2.1 d hl hn rfl (fun ls' hl' => k o ho H locs ls' hR hS (lset_has1 (v := .ref x) he hl'))
theorem v_lstore_n (X : Cb G cc nL own rm tg) (q : Nat) {i : Fin 4} {x : Int64} (d : decode cc pc = .ok (.lstore_n i, 1)) (hn : (i : Nat) + 1 < nL) (he : lset lv i (.long x) = lv') (hq : pc + 1 = q) (k : V G tr nL cells slots q lv' st M res) : V G tr nL cells slots pc lv (.long x :: st) M res := by
  subst hq
  intro o ho H locs ls hR hS hl
  exact lv_lstore_n X.1 X.2.1 d rfl hl hn rfl (fun ls' hl' => k o ho H locs ls' hR hS (lset_has2 (v := .long x) rfl he hl'))
theorem v_lstore (X : Cb G cc nL own rm tg) (q : Nat) {i : Nat} {x : Int64} (d : decode cc pc = .ok (.lstore i, 2)) (hn : i + 1 < nL) (he : lset lv i (.long x) = lv') (hq : pc + 2 = q) (k : V G tr nL cells slots q lv' st M res) : V G tr nL cells slots pc lv (.long x :: st) M res := by
  subst hq
  intro o ho H locs ls hR hS hl
  exact lv_lstore X.1 X.2.1 d hl hn rfl (fun ls' hl' => k o ho H locs ls' hR hS (lset_has2 (v := .long x) rfl he hl'))
theorem lvn_get : ∀ (l : List (Nat × Value)) (n : Nat), lvn l n = l[n]?
  | [], n => by simp [lvn]
  | q :: l, 0 => by simp [lvn]
  | q :: l, n + 1 => by simp [lvn, lvn_get l n]
theorem v_iinc (X : Cb G cc nL own rm tg) (q : Nat) {i : Nat} (n : Nat) {c : Int} {x v : Int32} (lw : Int32 → List (Nat × Value)) {f : Int32 → Option α} (d : decode cc pc = .ok (.iinc i c, 3)) (hv : lvn lv n = some (i, .int x)) (hc : Int32.ofInt c = v) (hn : i < nL) (he : ∀ z, lset lv i (.int z) = lw z) (hq : pc + 3 = q) (k : ∀ z, V G tr nL cells slots q (lw z) st M (f z)) : V G tr nL cells slots pc lv st M (bn (x + v) f) := by
  subst hq
  intro o ho H locs ls hR hS hl
  subst hc
  have hk : (shL G.2.2.2.1.2.2.2.1 lv)[n]? = some (i, .int x) := by
    rw [lvn_get] at hv
    unfold shL
    rw [List.getElem?_map, hv]
    rfl
  exact lv_iinc X.1 X.2.1 d hl hk rfl hn rfl (fun ls' hl' => k _ o ho H locs ls' hR hS (lset_has1 (v := .int (x + Int32.ofInt c)) (he _) hl'))
theorem v_iadd (X : Cb G cc nL own rm tg) (q : Nat) {x y : Int32} (d : decode cc pc = .ok (.iadd, 1)) (hq : pc + 1 = q) (k : V G tr nL cells slots q lv (.int (x + y) :: st) M res) : V G tr nL cells slots pc lv (.int y :: .int x :: st) M res := by
  subst hq
  intro o ho H locs ls hR hS hl
  exact lv_iadd X.1 X.2.1 d (k o ho H locs ls hR hS hl)
theorem v_isub (X : Cb G cc nL own rm tg) (q : Nat) {x y : Int32} (d : decode cc pc = .ok (.isub, 1)) (hq : pc + 1 = q) (k : V G tr nL cells slots q lv (.int (x - y) :: st) M res) : V G tr nL cells slots pc lv (.int y :: .int x :: st) M res := by
  subst hq
  intro o ho H locs ls hR hS hl
  exact lv_isub X.1 X.2.1 d (k o ho H locs ls hR hS hl)
theorem v_imul (X : Cb G cc nL own rm tg) (q : Nat) {x y : Int32} (d : decode cc pc = .ok (.imul, 1)) (hq : pc + 1 = q) (k : V G tr nL cells slots q lv (.int (x * y) :: st) M res) : V G tr nL cells slots pc lv (.int y :: .int x :: st) M res := by
  subst hq
  intro o ho H locs ls hR hS hl
  exact lv_imul X.1 X.2.1 d (k o ho H locs ls hR hS hl)
theorem v_iand (X : Cb G cc nL own rm tg) (q : Nat) {x y : Int32} (d : decode cc pc = .ok (.iand, 1)) (hq : pc + 1 = q) (k : V G tr nL cells slots q lv (.int (x &&& y) :: st) M res) : V G tr nL cells slots pc lv (.int y :: .int x :: st) M res := by
  subst hq
  intro o ho H locs ls hR hS hl
  exact lv_iand X.1 X.2.1 d (k o ho H locs ls hR hS hl)
theorem v_ior (X : Cb G cc nL own rm tg) (q : Nat) {x y : Int32} (d : decode cc pc = .ok (.ior, 1)) (hq : pc + 1 = q) (k : V G tr nL cells slots q lv (.int (x ||| y) :: st) M res) : V G tr nL cells slots pc lv (.int y :: .int x :: st) M res := by
  subst hq
  intro o ho H locs ls hR hS hl
  exact lv_ior X.1 X.2.1 d (k o ho H locs ls hR hS hl)
theorem v_ixor (X : Cb G cc nL own rm tg) (q : Nat) {x y : Int32} (d : decode cc pc = .ok (.ixor, 1)) (hq : pc + 1 = q) (k : V G tr nL cells slots q lv (.int (x ^^^ y) :: st) M res) : V G tr nL cells slots pc lv (.int y :: .int x :: st) M res := by
  subst hq
  intro o ho H locs ls hR hS hl
  exact lv_ixor X.1 X.2.1 d (k o ho H locs ls hR hS hl)
theorem v_ishl (X : Cb G cc nL own rm tg) (q : Nat) {x y : Int32} (d : decode cc pc = .ok (.ishl, 1)) (hq : pc + 1 = q) (k : V G tr nL cells slots q lv (.int (x <<< (y &&& 31)) :: st) M res) : V G tr nL cells slots pc lv (.int y :: .int x :: st) M res := by
  subst hq
  intro o ho H locs ls hR hS hl
  exact lv_ishl X.1 X.2.1 d (k o ho H locs ls hR hS hl)
theorem v_ishr (X : Cb G cc nL own rm tg) (q : Nat) {x y : Int32} (d : decode cc pc = .ok (.ishr, 1)) (hq : pc + 1 = q) (k : V G tr nL cells slots q lv (.int (x >>> (y &&& 31)) :: st) M res) : V G tr nL cells slots pc lv (.int y :: .int x :: st) M res := by
  subst hq
  intro o ho H locs ls hR hS hl
  exact lv_ishr X.1 X.2.1 d (k o ho H locs ls hR hS hl)
theorem v_ladd (X : Cb G cc nL own rm tg) (q : Nat) {x y : Int64} (d : decode cc pc = .ok (.ladd, 1)) (hq : pc + 1 = q) (k : V G tr nL cells slots q lv (.long (x + y) :: st) M res) : V G tr nL cells slots pc lv (.long y :: .long x :: st) M res := by
  subst hq
  intro o ho H locs ls hR hS hl
  exact lv_ladd X.1 X.2.1 d (k o ho H locs ls hR hS hl)
theorem v_lsub (X : Cb G cc nL own rm tg) (q : Nat) {x y : Int64} (d : decode cc pc = .ok (.lsub, 1)) (hq : pc + 1 = q) (k : V G tr nL cells slots q lv (.long (x - y) :: st) M res) : V G tr nL cells slots pc lv (.long y :: .long x :: st) M res := by
  subst hq
  intro o ho H locs ls hR hS hl
  exact lv_lsub X.1 X.2.1 d (k o ho H locs ls hR hS hl)
theorem v_lmul (X : Cb G cc nL own rm tg) (q : Nat) {x y : Int64} (d : decode cc pc = .ok (.lmul, 1)) (hq : pc + 1 = q) (k : V G tr nL cells slots q lv (.long (x * y) :: st) M res) : V G tr nL cells slots pc lv (.long y :: .long x :: st) M res := by
  subst hq
  intro o ho H locs ls hR hS hl
  exact lv_lmul X.1 X.2.1 d (k o ho H locs ls hR hS hl)
theorem v_land (X : Cb G cc nL own rm tg) (q : Nat) {x y : Int64} (d : decode cc pc = .ok (.land, 1)) (hq : pc + 1 = q) (k : V G tr nL cells slots q lv (.long (x &&& y) :: st) M res) : V G tr nL cells slots pc lv (.long y :: .long x :: st) M res := by
  subst hq
  intro o ho H locs ls hR hS hl
  exact lv_land X.1 X.2.1 d (k o ho H locs ls hR hS hl)
theorem v_lor (X : Cb G cc nL own rm tg) (q : Nat) {x y : Int64} (d : decode cc pc = .ok (.lor, 1)) (hq : pc + 1 = q) (k : V G tr nL cells slots q lv (.long (x ||| y) :: st) M res) : V G tr nL cells slots pc lv (.long y :: .long x :: st) M res := by
  subst hq
  intro o ho H locs ls hR hS hl
  exact lv_lor X.1 X.2.1 d (k o ho H locs ls hR hS hl)
theorem v_lxor (X : Cb G cc nL own rm tg) (q : Nat) {x y : Int64} (d : decode cc pc = .ok (.lxor, 1)) (hq : pc + 1 = q) (k : V G tr nL cells slots q lv (.long (x ^^^ y) :: st) M res) : V G tr nL cells slots pc lv (.long y :: .long x :: st) M res := by
  subst hq
  intro o ho H locs ls hR hS hl
  exact lv_lxor X.1 X.2.1 d (k o ho H locs ls hR hS hl)
def iush (x y : Int32) : Int32 := (x.toUInt32 >>> (y.toUInt32 &&& Int32.toUInt32 31)).toInt32
def lshlv (x : Int64) (y : Int32) : Int64 := x <<< (y.toInt64 &&& 63)
def lushv (x : Int64) (y : Int32) : Int64 := (x.toUInt64 >>> (y.toInt64.toUInt64 &&& Int64.toUInt64 63)).toInt64
def i2cv (x : Int32) : Int32 := (x.toUInt32 % 65536).toInt32
theorem v_iushr (X : Cb G cc nL own rm tg) (q : Nat) {x y : Int32} (d : decode cc pc = .ok (.iushr, 1)) (hq : pc + 1 = q) (k : V G tr nL cells slots q lv (.int (iush x y) :: st) M res) : V G tr nL cells slots pc lv (.int y :: .int x :: st) M res := by
  subst hq
  intro o ho H locs ls hR hS hl
  exact lv_iushr X.1 X.2.1 d rfl (k o ho H locs ls hR hS hl)
theorem v_lshl (X : Cb G cc nL own rm tg) (q : Nat) {x : Int64} {y : Int32} (d : decode cc pc = .ok (.lshl, 1)) (hq : pc + 1 = q) (k : V G tr nL cells slots q lv (.long (lshlv x y) :: st) M res) : V G tr nL cells slots pc lv (.int y :: .long x :: st) M res := by
  subst hq
  intro o ho H locs ls hR hS hl
  exact lv_lshl X.1 X.2.1 d rfl (k o ho H locs ls hR hS hl)
theorem v_lushr (X : Cb G cc nL own rm tg) (q : Nat) {x : Int64} {y : Int32} (d : decode cc pc = .ok (.lushr, 1)) (hq : pc + 1 = q) (k : V G tr nL cells slots q lv (.long (lushv x y) :: st) M res) : V G tr nL cells slots pc lv (.int y :: .long x :: st) M res := by
  subst hq
  intro o ho H locs ls hR hS hl
  exact lv_lushr X.1 X.2.1 d rfl (k o ho H locs ls hR hS hl)
theorem v_lcmp (X : Cb G cc nL own rm tg) (q : Nat) {x y : Int64} (d : decode cc pc = .ok (.lcmp, 1)) (hq : pc + 1 = q) (k : V G tr nL cells slots q lv (.int (lg_cmp x y) :: st) M res) : V G tr nL cells slots pc lv (.long y :: .long x :: st) M res := by
  subst hq
  intro o ho H locs ls hR hS hl
  exact W.lcmp X.1 X.2.1 d (k o ho H locs ls hR hS hl)
theorem v_ineg (X : Cb G cc nL own rm tg) (q : Nat) {x : Int32} (d : decode cc pc = .ok (.ineg, 1)) (hq : pc + 1 = q) (k : V G tr nL cells slots q lv (.int (-x) :: st) M res) : V G tr nL cells slots pc lv (.int x :: st) M res := by
  subst hq
  intro o ho H locs ls hR hS hl
  exact lv_ineg X.1 X.2.1 d (k o ho H locs ls hR hS hl)
theorem v_i2l (X : Cb G cc nL own rm tg) (q : Nat) {x : Int32} (d : decode cc pc = .ok (.i2l, 1)) (hq : pc + 1 = q) (k : V G tr nL cells slots q lv (.long (x.toInt64) :: st) M res) : V G tr nL cells slots pc lv (.int x :: st) M res := by
  subst hq
  intro o ho H locs ls hR hS hl
  exact lv_i2l X.1 X.2.1 d rfl (k o ho H locs ls hR hS hl)
theorem v_l2i (X : Cb G cc nL own rm tg) (q : Nat) {x : Int64} (d : decode cc pc = .ok (.l2i, 1)) (hq : pc + 1 = q) (k : V G tr nL cells slots q lv (.int (x.toInt32) :: st) M res) : V G tr nL cells slots pc lv (.long x :: st) M res := by
  subst hq
  intro o ho H locs ls hR hS hl
  exact lv_l2i X.1 X.2.1 d rfl (k o ho H locs ls hR hS hl)
theorem v_i2b (X : Cb G cc nL own rm tg) (q : Nat) {x : Int32} (d : decode cc pc = .ok (.i2b, 1)) (hq : pc + 1 = q) (k : V G tr nL cells slots q lv (.int (x.toInt8.toInt32) :: st) M res) : V G tr nL cells slots pc lv (.int x :: st) M res := by
  subst hq
  intro o ho H locs ls hR hS hl
  exact lv_i2b X.1 X.2.1 d rfl (k o ho H locs ls hR hS hl)
theorem v_i2s (X : Cb G cc nL own rm tg) (q : Nat) {x : Int32} (d : decode cc pc = .ok (.i2s, 1)) (hq : pc + 1 = q) (k : V G tr nL cells slots q lv (.int (x.toInt16.toInt32) :: st) M res) : V G tr nL cells slots pc lv (.int x :: st) M res := by
  subst hq
  intro o ho H locs ls hR hS hl
  exact lv_i2s X.1 X.2.1 d rfl (k o ho H locs ls hR hS hl)
theorem v_i2c (X : Cb G cc nL own rm tg) (q : Nat) {x : Int32} (d : decode cc pc = .ok (.i2c, 1)) (hq : pc + 1 = q) (k : V G tr nL cells slots q lv (.int (i2cv x) :: st) M res) : V G tr nL cells slots pc lv (.int x :: st) M res := by
  subst hq
  intro o ho H locs ls hR hS hl
  exact lv_i2c X.1 X.2.1 d rfl (k o ho H locs ls hR hS hl)
def divI (x y : Int32) : Option Int32 := if y = 0 then none else some (x / y)
def remI (x y : Int32) : Option Int32 := if y = 0 then none else some (x - x / y * y)
def divL (x y : Int64) : Option Int64 := if y = 0 then none else some (x / y)
def remL (x y : Int64) : Option Int64 := if y = 0 then none else some (x - x / y * y)
theorem v_idiv (X : Cb G cc nL own rm tg) (q : Nat) {x y : Int32} {f : Int32 → Option α} (d : decode cc pc = .ok (.idiv, 1)) (hq : pc + 1 = q) (k : ∀ z, V G tr nL cells slots q lv (.int z :: st) M (f z)) : V G tr nL cells slots pc lv (.int y :: .int x :: st) M (b1 (divI x y) f) := by
  subst hq
  intro o ho H locs ls hR hS hl
  obtain ⟨z, h1, h2⟩ := b1_some ho
  unfold divI at h1
  by_cases hy : y = 0
  · rw [if_pos hy] at h1; cases h1
  · rw [if_neg hy] at h1
    cases h1
    exact lv_idiv X.1 X.2.1 d hy (k _ o h2 H locs ls hR hS hl)
theorem v_irem (X : Cb G cc nL own rm tg) (q : Nat) {x y : Int32} {f : Int32 → Option α} (d : decode cc pc = .ok (.irem, 1)) (hq : pc + 1 = q) (k : ∀ z, V G tr nL cells slots q lv (.int z :: st) M (f z)) : V G tr nL cells slots pc lv (.int y :: .int x :: st) M (b1 (remI x y) f) := by
  subst hq
  intro o ho H locs ls hR hS hl
  obtain ⟨z, h1, h2⟩ := b1_some ho
  unfold remI at h1
  by_cases hy : y = 0
  · rw [if_pos hy] at h1; cases h1
  · rw [if_neg hy] at h1
    cases h1
    exact lv_irem X.1 X.2.1 d hy (k _ o h2 H locs ls hR hS hl)
theorem v_ldiv (X : Cb G cc nL own rm tg) (q : Nat) {x y : Int64} {f : Int64 → Option α} (d : decode cc pc = .ok (.ldiv, 1)) (hq : pc + 1 = q) (k : ∀ z, V G tr nL cells slots q lv (.long z :: st) M (f z)) : V G tr nL cells slots pc lv (.long y :: .long x :: st) M (b1 (divL x y) f) := by
  subst hq
  intro o ho H locs ls hR hS hl
  obtain ⟨z, h1, h2⟩ := b1_some ho
  unfold divL at h1
  by_cases hy : y = 0
  · rw [if_pos hy] at h1; cases h1
  · rw [if_neg hy] at h1
    cases h1
    exact lv_ldiv X.1 X.2.1 d hy (k _ o h2 H locs ls hR hS hl)
theorem v_lrem (X : Cb G cc nL own rm tg) (q : Nat) {x y : Int64} {f : Int64 → Option α} (d : decode cc pc = .ok (.lrem, 1)) (hq : pc + 1 = q) (k : ∀ z, V G tr nL cells slots q lv (.long z :: st) M (f z)) : V G tr nL cells slots pc lv (.long y :: .long x :: st) M (b1 (remL x y) f) := by
  subst hq
  intro o ho H locs ls hR hS hl
  obtain ⟨z, h1, h2⟩ := b1_some ho
  unfold remL at h1
  by_cases hy : y = 0
  · rw [if_pos hy] at h1; cases h1
  · rw [if_neg hy] at h1
    cases h1
    exact lv_lrem X.1 X.2.1 d hy (k _ o h2 H locs ls hR hS hl)
theorem v_dup (X : Cb G cc nL own rm tg) (q : Nat) {a : Value} (d : decode cc pc = .ok (.dup, 1)) (ha : a.category = 1) (hq : pc + 1 = q) (k : V G tr nL cells slots q lv (a :: a :: st) M res) : V G tr nL cells slots pc lv (a :: st) M res := by
  subst hq
  intro o ho H locs ls hR hS hl
  exact lv_dup X.1 X.2.1 d ((shV_cat _ a).trans ha) (k o ho H locs ls hR hS hl)
theorem v_pop (X : Cb G cc nL own rm tg) (q : Nat) {a : Value} (d : decode cc pc = .ok (.pop, 1)) (ha : a.category = 1) (hq : pc + 1 = q) (k : V G tr nL cells slots q lv st M res) : V G tr nL cells slots pc lv (a :: st) M res := by
  subst hq
  intro o ho H locs ls hR hS hl
  exact lv_pop X.1 X.2.1 d ((shV_cat _ a).trans ha) (k o ho H locs ls hR hS hl)
theorem v_dup_x1 (X : Cb G cc nL own rm tg) (q : Nat) {a b : Value} (d : decode cc pc = .ok (.dup_x1, 1)) (ha : a.category = 1) (hb : b.category = 1) (hq : pc + 1 = q) (k : V G tr nL cells slots q lv (a :: b :: a :: st) M res) : V G tr nL cells slots pc lv (a :: b :: st) M res := by
  subst hq
  intro o ho H locs ls hR hS hl
  exact lv_dup_x1 X.1 X.2.1 d ((shV_cat _ a).trans ha) ((shV_cat _ b).trans hb) (k o ho H locs ls hR hS hl)
theorem v_dup2 (X : Cb G cc nL own rm tg) (q : Nat) {a b : Value} (d : decode cc pc = .ok (.dup2, 1)) (ha : a.category = 1) (hb : b.category = 1) (hq : pc + 1 = q) (k : V G tr nL cells slots q lv (a :: b :: a :: b :: st) M res) : V G tr nL cells slots pc lv (a :: b :: st) M res := by
  subst hq
  intro o ho H locs ls hR hS hl
  exact lv_dup2_11 X.1 X.2.1 d ((shV_cat _ a).trans ha) ((shV_cat _ b).trans hb) (k o ho H locs ls hR hS hl)
theorem v_ifeq (X : Cb G cc nL own rm tg) (q : Nat) {x : Int32} {off : Int} (tgt : Nat) {A B : Option α} (d : decode cc pc = .ok (.ifCond .eq off, 3)) (ht : (pc : Int) + off = (tgt : Int)) (hq : pc + 3 = q) (kt : V G tr nL cells slots tgt lv st M A) (kf : V G tr nL cells slots q lv st M B) : V G tr nL cells slots pc lv (.int x :: st) M (if x = 0 then A else B) := by
  subst hq
  intro o ho H locs ls hR hS hl
  exact lv_if_eq X.1 X.2.1 d ht (fun h => by rw [if_pos h] at ho; exact kt o ho H locs ls hR hS hl) (fun h => by rw [if_neg h] at ho; exact kf o ho H locs ls hR hS hl)
theorem v_ifne (X : Cb G cc nL own rm tg) (q : Nat) {x : Int32} {off : Int} (tgt : Nat) {A B : Option α} (d : decode cc pc = .ok (.ifCond .ne off, 3)) (ht : (pc : Int) + off = (tgt : Int)) (hq : pc + 3 = q) (kt : V G tr nL cells slots tgt lv st M A) (kf : V G tr nL cells slots q lv st M B) : V G tr nL cells slots pc lv (.int x :: st) M (if x = 0 then B else A) := by
  subst hq
  intro o ho H locs ls hR hS hl
  exact lv_if_ne X.1 X.2.1 d ht (fun h => by rw [if_neg h] at ho; exact kt o ho H locs ls hR hS hl) (fun h => by rw [if_pos h] at ho; exact kf o ho H locs ls hR hS hl)
theorem v_iflt (X : Cb G cc nL own rm tg) (q : Nat) {x : Int32} {off : Int} (tgt : Nat) {A B : Option α} (d : decode cc pc = .ok (.ifCond .lt off, 3)) (ht : (pc : Int) + off = (tgt : Int)) (hq : pc + 3 = q) (kt : V G tr nL cells slots tgt lv st M A) (kf : V G tr nL cells slots q lv st M B) : V G tr nL cells slots pc lv (.int x :: st) M (if x < 0 then A else B) := by
  subst hq
  intro o ho H locs ls hR hS hl
  exact lv_if_lt X.1 X.2.1 d ht (fun h => by rw [if_pos h] at ho; exact kt o ho H locs ls hR hS hl) (fun h => by rw [if_neg h] at ho; exact kf o ho H locs ls hR hS hl)
theorem v_ifge (X : Cb G cc nL own rm tg) (q : Nat) {x : Int32} {off : Int} (tgt : Nat) {A B : Option α} (d : decode cc pc = .ok (.ifCond .ge off, 3)) (ht : (pc : Int) + off = (tgt : Int)) (hq : pc + 3 = q) (kt : V G tr nL cells slots tgt lv st M A) (kf : V G tr nL cells slots q lv st M B) : V G tr nL cells slots pc lv (.int x :: st) M (if 0 ≤ x then A else B) := by
  subst hq
  intro o ho H locs ls hR hS hl
  exact lv_if_ge X.1 X.2.1 d ht (fun h => by rw [if_pos h] at ho; exact kt o ho H locs ls hR hS hl) (fun h => by rw [if_neg h] at ho; exact kf o ho H locs ls hR hS hl)
theorem v_ifgt (X : Cb G cc nL own rm tg) (q : Nat) {x : Int32} {off : Int} (tgt : Nat) {A B : Option α} (d : decode cc pc = .ok (.ifCond .gt off, 3)) (ht : (pc : Int) + off = (tgt : Int)) (hq : pc + 3 = q) (kt : V G tr nL cells slots tgt lv st M A) (kf : V G tr nL cells slots q lv st M B) : V G tr nL cells slots pc lv (.int x :: st) M (if 0 < x then A else B) := by
  subst hq
  intro o ho H locs ls hR hS hl
  exact lv_if_gt X.1 X.2.1 d ht (fun h => by rw [if_pos h] at ho; exact kt o ho H locs ls hR hS hl) (fun h => by rw [if_neg h] at ho; exact kf o ho H locs ls hR hS hl)
theorem v_ifle (X : Cb G cc nL own rm tg) (q : Nat) {x : Int32} {off : Int} (tgt : Nat) {A B : Option α} (d : decode cc pc = .ok (.ifCond .le off, 3)) (ht : (pc : Int) + off = (tgt : Int)) (hq : pc + 3 = q) (kt : V G tr nL cells slots tgt lv st M A) (kf : V G tr nL cells slots q lv st M B) : V G tr nL cells slots pc lv (.int x :: st) M (if x ≤ 0 then A else B) := by
  subst hq
  intro o ho H locs ls hR hS hl
  exact lv_if_le X.1 X.2.1 d ht (fun h => by rw [if_pos h] at ho; exact kt o ho H locs ls hR hS hl) (fun h => by rw [if_neg h] at ho; exact kf o ho H locs ls hR hS hl)
theorem v_iceq (X : Cb G cc nL own rm tg) (q : Nat) {x y : Int32} {off : Int} (tgt : Nat) {A B : Option α} (d : decode cc pc = .ok (.if_icmp .eq off, 3)) (ht : (pc : Int) + off = (tgt : Int)) (hq : pc + 3 = q) (kt : V G tr nL cells slots tgt lv st M A) (kf : V G tr nL cells slots q lv st M B) : V G tr nL cells slots pc lv (.int y :: .int x :: st) M (if x = y then A else B) := by
  subst hq
  intro o ho H locs ls hR hS hl
  exact lv_icmp_eq X.1 X.2.1 d ht (fun h => by rw [if_pos h] at ho; exact kt o ho H locs ls hR hS hl) (fun h => by rw [if_neg h] at ho; exact kf o ho H locs ls hR hS hl)
theorem v_icne (X : Cb G cc nL own rm tg) (q : Nat) {x y : Int32} {off : Int} (tgt : Nat) {A B : Option α} (d : decode cc pc = .ok (.if_icmp .ne off, 3)) (ht : (pc : Int) + off = (tgt : Int)) (hq : pc + 3 = q) (kt : V G tr nL cells slots tgt lv st M A) (kf : V G tr nL cells slots q lv st M B) : V G tr nL cells slots pc lv (.int y :: .int x :: st) M (if x = y then B else A) := by
  subst hq
  intro o ho H locs ls hR hS hl
  exact lv_icmp_ne X.1 X.2.1 d ht (fun h => by rw [if_neg h] at ho; exact kt o ho H locs ls hR hS hl) (fun h => by rw [if_pos h] at ho; exact kf o ho H locs ls hR hS hl)
theorem v_iclt (X : Cb G cc nL own rm tg) (q : Nat) {x y : Int32} {off : Int} (tgt : Nat) {A B : Option α} (d : decode cc pc = .ok (.if_icmp .lt off, 3)) (ht : (pc : Int) + off = (tgt : Int)) (hq : pc + 3 = q) (kt : V G tr nL cells slots tgt lv st M A) (kf : V G tr nL cells slots q lv st M B) : V G tr nL cells slots pc lv (.int y :: .int x :: st) M (if x < y then A else B) := by
  subst hq
  intro o ho H locs ls hR hS hl
  exact lv_icmp_lt X.1 X.2.1 d ht (fun h => by rw [if_pos h] at ho; exact kt o ho H locs ls hR hS hl) (fun h => by rw [if_neg h] at ho; exact kf o ho H locs ls hR hS hl)
theorem v_icge (X : Cb G cc nL own rm tg) (q : Nat) {x y : Int32} {off : Int} (tgt : Nat) {A B : Option α} (d : decode cc pc = .ok (.if_icmp .ge off, 3)) (ht : (pc : Int) + off = (tgt : Int)) (hq : pc + 3 = q) (kt : V G tr nL cells slots tgt lv st M A) (kf : V G tr nL cells slots q lv st M B) : V G tr nL cells slots pc lv (.int y :: .int x :: st) M (if y ≤ x then A else B) := by
  subst hq
  intro o ho H locs ls hR hS hl
  exact lv_icmp_ge X.1 X.2.1 d ht (fun h => by rw [if_pos h] at ho; exact kt o ho H locs ls hR hS hl) (fun h => by rw [if_neg h] at ho; exact kf o ho H locs ls hR hS hl)
theorem v_icgt (X : Cb G cc nL own rm tg) (q : Nat) {x y : Int32} {off : Int} (tgt : Nat) {A B : Option α} (d : decode cc pc = .ok (.if_icmp .gt off, 3)) (ht : (pc : Int) + off = (tgt : Int)) (hq : pc + 3 = q) (kt : V G tr nL cells slots tgt lv st M A) (kf : V G tr nL cells slots q lv st M B) : V G tr nL cells slots pc lv (.int y :: .int x :: st) M (if y < x then A else B) := by
  subst hq
  intro o ho H locs ls hR hS hl
  exact lv_icmp_gt X.1 X.2.1 d ht (fun h => by rw [if_pos h] at ho; exact kt o ho H locs ls hR hS hl) (fun h => by rw [if_neg h] at ho; exact kf o ho H locs ls hR hS hl)
theorem v_icle (X : Cb G cc nL own rm tg) (q : Nat) {x y : Int32} {off : Int} (tgt : Nat) {A B : Option α} (d : decode cc pc = .ok (.if_icmp .le off, 3)) (ht : (pc : Int) + off = (tgt : Int)) (hq : pc + 3 = q) (kt : V G tr nL cells slots tgt lv st M A) (kf : V G tr nL cells slots q lv st M B) : V G tr nL cells slots pc lv (.int y :: .int x :: st) M (if x ≤ y then A else B) := by
  subst hq
  intro o ho H locs ls hR hS hl
  exact lv_icmp_le X.1 X.2.1 d ht (fun h => by rw [if_pos h] at ho; exact kt o ho H locs ls hR hS hl) (fun h => by rw [if_neg h] at ho; exact kf o ho H locs ls hR hS hl)
theorem v_goto (X : Cb G cc nL own rm tg) {off : Int} (tgt : Nat) (d : decode cc pc = .ok (.goto off, 3)) (ht : (pc : Int) + off = (tgt : Int)) (k : V G tr nL cells slots tgt lv st M res) : V G tr nL cells slots pc lv st M res := by
  intro o ho H locs ls hR hS hl
  exact lv_goto X.1 X.2.1 d ht (k o ho H locs ls hR hS hl)
def trI : Int32 × MM → Option Value × MM := fun q => (some (.int q.1), q.2)
def trL : Int64 × MM → Option Value × MM := fun q => (some (.long q.1), q.2)
def trV : MM → Option Value × MM := fun M => (none, M)
def rz (x : Int32) (M : MM) : Option (Int32 × MM) := if nz x = x then some (x, M) else none
theorem v_iret (X : Cb G cc nL own rm tg) {mc ms : Nat} (Y : Cr G (some .int) mc ms) (hc : cells ≤ mc) (hs : slots ≤ ms) {x : Int32} (d : decode cc pc = .ok (.ireturn, 1)) : V G trI nL cells slots pc lv [.int x] M (some (x, M)) := by
  intro o ho H locs ls hR hS hl
  cases ho
  show W _ _ _ _ _ _ _ _ _ _ _ _ _ _ (G.2.2.2.2 (_, _)) _
  rw [Y.2.2]
  refine W.widen hc hs ?_
  exact W.iret X.1 X.2.1 Y.1 (fun t ht _ => ⟨rfl, by rw [ht]; exact hR, hS.F ht⟩) hS.2.2 d Y.2.1
theorem v_lret (X : Cb G cc nL own rm tg) {mc ms : Nat} (Y : Cr G (some .long) mc ms) (hc : cells ≤ mc) (hs : slots ≤ ms) {x : Int64} (d : decode cc pc = .ok (.lreturn, 1)) : V G trL nL cells slots pc lv [.long x] M (some (x, M)) := by
  intro o ho H locs ls hR hS hl
  cases ho
  show W _ _ _ _ _ _ _ _ _ _ _ _ _ _ (G.2.2.2.2 (_, _)) _
  rw [Y.2.2]
  refine W.widen hc hs ?_
  exact W.lret X.1 X.2.1 Y.1 (fun t ht _ => ⟨rfl, by rw [ht]; exact hR, hS.F ht⟩) hS.2.2 d Y.2.1
theorem v_vret (X : Cb G cc nL own rm tg) {mc ms : Nat} (Y : Cr G none mc ms) (hc : cells ≤ mc) (hs : slots ≤ ms)  (d : decode cc pc = .ok (.return_, 1)) : V G trV nL cells slots pc lv [] M (some M) := by
  intro o ho H locs ls hR hS hl
  cases ho
  show W _ _ _ _ _ _ _ _ _ _ _ _ _ _ (G.2.2.2.2 (_, _)) _
  rw [Y.2.2]
  refine W.widen hc hs ?_
  exact W.vret X.1 X.2.1 Y.1 (fun t ht _ => ⟨rfl, by rw [ht]; exact hR, hS.F ht⟩) hS.2.2 d Y.2.1
theorem v_zret (X : Cb G cc nL own rm tg) {mc ms : Nat} (Y : Cr G (some .boolean) mc ms) (hc : cells ≤ mc) (hs : slots ≤ ms) {x : Int32} (d : decode cc pc = .ok (.ireturn, 1)) : V G trI nL cells slots pc lv [.int x] M (rz x M) := by
  intro o ho H locs ls hR hS hl
  obtain ⟨hx, ho⟩ := ite_some ho
  cases ho
  show W _ _ _ _ _ _ _ _ _ _ _ _ _ _ (G.2.2.2.2 (_, _)) _
  rw [Y.2.2]
  refine W.widen hc hs ?_
  exact W.zret X.1 X.2.1 Y.1 (by unfold nz vp_nar at hx; simp only [narrow] at hx ⊢; rw [hx]) (fun t ht _ => ⟨rfl, by rw [ht]; exact hR, hS.F ht⟩) hS.2.2 d Y.2.1
end ROWS

/-! THE LAW'S OWN HELPERS: they call a thrower and catch -/
def CtW (l : Launch) (y : MethodName) (cc : ByteArray) (nL : Nat) (ret : Option FieldType) (hh : List (Nat × Nat × Nat × Nat)) (rm : Room) (av : List Value) (M : MM) (r : Option Value) (M' : MM) : Prop :=
  ∀ (D : va_G) (cy : Nat → ClassId) (sz : Nat) (ad : Nat → Nat), (∀ k, k < sB → ad k = sz + k) →
    Met l y (.codeWith y cc nL ret hh :: gtbl) rm (va_Pc (av.map (shV ad)) (fun U => Rp D cy sz ad false M U.heap ∧ KK D cy sz ad U ∧ sz ≤ U.heap.size)) (stQ D cy sz ad false r M') rm.cells rm.slots (fun q => sz ≤ q)
section HLP
variable {α β : Type} {tr : α → Option Value × MM} {G : Gx} {cc : ByteArray} {nL : Nat} {own : String} {pc idx n0 c0 s0 n1 : Nat} {lv : List (Nat × Value)} {st stk : List Value} {M : MM} {b ci n : Nat} {y : MethodName} {cc' : ByteArray} {nL' : Nat} {ret' : Option FieldType}
theorem v_catch (X : Cb G cc nL own (RM n0 c0 s0) false) (K : CV y cc' nL' ret' n ci) (hl : Cond.methodLink own idx y ∈ gtbl) (hr : rmB n0 c0 s0 n1 1 6 nL' 0 0 = true) (As : List Value) (hst : stk = As.reverse ++ .ref b :: st) (hn : As.length = n) (hw : stW st = true) (d : decode cc pc = .ok (.invokevirtual idx, 3)) (x : ExceptionTableEntry) (htab : G.2.2.1.2.exceptionTable.toList = [x]) (hx : covers x pc = true) (h0 : x.catchType ≠ 0) (hlink : Cond.classLink own x.catchType NSE ∈ gtbl) {fc : Option (β × MM)} {f : β → MM → Option α} (vo : β → Option Value)
    (hc : ∀ r M1, fc = some (r, M1) → KX G.1.2.1 y cc' nL' ret' (RM n1 1 6) ci b As M (vo r) M1)
    (k1 : ∀ r v M1, vo r = some v → V G tr nL 1 6 (pc + 3) lv (v :: st) M1 (f r M1))
    (k2 : ∀ r M1 o, vo r = none → f r M1 = some o → ∀ (H1 : Heap) (locs1 : List Loc) (ls : Array Slot) (q : Nat), Rp G.2.2.2.1.1 G.2.2.2.1.2.1 G.2.2.2.1.2.2.1 G.2.2.2.1.2.2.2.1 G.2.2.2.1.2.2.2.2 M1 H1 → va_S (fun q => G.2.2.2.1.2.2.1 ≤ q) G.2.1.1.heap H1 locs1 → lv_has ls nL (shL G.2.2.2.1.2.2.2.1 lv) →
      W G.1.1 G.1.2.1 G.1.2.2.1 G.1.2.2.2 G.2.1.1 G.2.1.2.1 G.2.1.2.2.1 G.2.1.2.2.2 G.2.2.1.1 G.2.2.1.2 H1 locs1 1 6 (G.2.2.2.2 (tr o)) (F0 G.2.1.2.1 x.handlerPc ls [.ref q])) : V G tr nL 0 0 pc lv stk M (b2 fc f) := by
  intro o ho H locs ls hR hS hl0 T hT XT
  obtain ⟨r, M1, h1, h2⟩ := b2_some ho
  obtain ⟨k3, k4, C, T9, N, k5, k6⟩ := K
  obtain ⟨hO, hct⟩ := hc r M1 h1
  obtain ⟨hlt, hsh⟩ := isO_of hO
  have hm := hct G.2.2.2.1.1 G.2.2.2.1.2.1 G.2.2.2.1.2.2.1 G.2.2.2.1.2.2.2.1 X.2.2.2.2.2.2.1
  rw [← X.2.2.2.2.2.2.2.2.2] at hm
  have hw' : ((st.map (shV G.2.2.2.1.2.2.2.1)).map fun v => v.category).sum ≤ 8 := by rw [cats]; exact stW_of hw
  have hroom := rmB_of hr
  have he := wsM_at (cy := G.2.2.2.1.2.1) (ad := G.2.2.2.1.2.2.2.1) (sz := G.2.2.2.1.2.2.1) hlt
  rw [cE_obj hsh k5.2.2.2.2] at he
  have hrc := va_recv X.2.2.2.2.2.1.1 hR.1 k5.1 he
  rw [← ad_of X hR hlt] at hrc
  have hrun := vx_runV (p := G.1.1) (R := G.1.2.2.2) (e := G.1.2.2.1) (below := G.2.1.2.2.2) (meth := G.2.2.1.1) (locs := locs) (cells := 0) (slots := 0) (C := y.cls) (As := As.map (shV G.2.2.2.1.2.2.2.1)) (rest := st.map (shV G.2.2.2.1.2.2.2.1)) (g := F0 G.2.1.2.1 pc ls ((As.map (shV G.2.2.2.1.2.2.2.1)).reverse ++ .ref (G.2.2.2.1.2.2.2.1 b) :: st.map (shV G.2.2.2.1.2.2.2.1))) ⟨X.1, X.2.1, X.2.2.1, X.2.2.2.1, X.2.2.2.2.1⟩ hm (cwV n X.2.2.2.2.1 (gInV k3 k4 hl) rfl rfl rfl ⟨rfl, k3.2.2⟩ (by rw [X.2.2.2.2.2.2.2.1]; exact ⟨hroom.1, hroom.2.1⟩)) ⟨Pc_blind, by rw [k6]; exact hrc, fun U hU hW => Pc_of X (av := (Value.ref b :: As).map (shV G.2.2.2.1.2.2.2.1)) hR hS U hU hW⟩ rfl (by rw [List.length_map]; exact hn) hl0.1 rfl (lv_room hw') d (by rw [X.2.2.2.2.2.2.2.1]; exact ⟨hroom.2.2.1, hroom.2.2.2⟩)
  have hstk : stk.map (shV G.2.2.2.1.2.2.2.1) = (As.map (shV G.2.2.2.1.2.2.2.1)).reverse ++ .ref (G.2.2.2.1.2.2.2.1 b) :: st.map (shV G.2.2.2.1.2.2.2.1) := by rw [hst]; simp [shV]
  rw [hstk]
  have hSx : ∀ {t s0 T' : State} {L : List Loc}, s0.heap = H → T'.heap = t.heap → (∀ q ∈ L, G.2.2.2.1.2.2.1 ≤ q.base) → va_F (fun q => G.2.2.2.1.2.2.1 ≤ q) s0 t → va_S (fun q => G.2.2.2.1.2.2.1 ≤ q) G.2.1.1.heap T'.heap (locs ++ L) := by
    intro t s0 T' L h0 e1 hL hF
    refine ⟨?_, fun q h1 h2 => ?_, fun q hq => ?_⟩
    · rw [e1]; exact Nat.le_trans hS.1 (by rw [← h0]; exact hF.1)
    · rw [e1, hF.2 q (by rw [h0]; exact Nat.lt_of_lt_of_le h1 hS.1) h2, h0]; exact hS.2.1 q h1 h2
    · rcases List.mem_append.mp hq with h | h
      · exact hS.2.2 q h
      · exact hL q h
  rcases hrun T hT XT with ⟨v, s0, t, T', L, g0, X2, hL, e1, e2, ⟨hne, hv, hR1, hF⟩, go⟩ | ⟨q, s0, t, T', L, E, ce, g0, X2, hL, e1, e2, ⟨hnone, hE, hR1, hF⟩, hce, hcv, hcl, st9⟩
  · obtain ⟨v0, hv0⟩ : ∃ v0, vo r = some v0 := by
      cases hvo : vo r with
      | none => exact absurd hvo hne
      | some v0 => exact ⟨v0, rfl⟩
    have hv : v = some (shV G.2.2.2.1.2.2.2.1 v0) := by rw [hv0] at hv; cases hv; rfl
    subst hv
    obtain ⟨t9, a1, b1⟩ := k1 r v0 M1 hv0 o h2 T'.heap (locs ++ L) ls (by rw [e1, X.2.2.2.2.2.2.2.2.2]; exact hR1) (hSx g0 e1 hL hF) hl0 T' rfl X2
    exact ⟨t9, go t9 a1, b1⟩
  · have hk := k2 r M1 o hnone h2 T'.heap (locs ++ L) ls q (by rw [e1, X.2.2.2.2.2.2.2.2.2]; exact hR1) (hSx g0 e1 hL hF) hl0
    have hts := X.2.2.2.2.1
    have hcat := vx_catch (pc := pc) (rest := st.map (shV G.2.2.2.1.2.2.2.1)) X.2.2.2.1 [] x [] htab (fun z hz => nomatch hz) hx h0 (hts _ hlink) (va_Nw.use rfl X.2.2.2.2.2.1.2.2.2.2.2.2.2.2.2.1) (by rw [e1]; exact hce) hcv (by rw [← hE]; exact hcl) hk
    obtain ⟨t9, a1, b1⟩ := hcat T' rfl X2
    exact ⟨t9, st9.trans a1, b1⟩
theorem ct_ofW {l : Launch} {y : MethodName} {cc : ByteArray} {nL : Nat} {ret : Option FieldType} {hh : List (Nat × Nat × Nat × Nat)} {rm : Room} {av : List Value} {M : MM} (hy : plainName y.cls = true) (hsl : (lg_sl av).length ≤ nL) (lv0 : List (Nat × Value)) (hlv : lv_args 0 av = lv0) {α : Type} {tr : α → Option Value × MM} {res : Option α} {o : α} (hres : res = some o)
    (h : ∀ G : Gx, Cb G cc nL y.cls rm false → Cr G ret rm.cells rm.slots → G.2.2.1.2.exceptionTable.toList = tableOf hh → G.1.2.1 = l → V G tr nL 0 0 0 lv0 [] M res) : CtW l y cc nL ret hh rm av M (tr o).1 (tr o).2 := by
  intro D cy sz ad had
  refine va_MetW (cc := cc) (maxL := nL) (ret := ret) (hh := hh) hy rfl ?_
  intro p e s m args below meth c s₁ B hml hv
  obtain ⟨rfl, hR, hK, hsz⟩ := hv
  have hts := atoms_spec (ws := .codeWith y cc nL ret hh :: gtbl) B.pre
  have htab := vx_table (x := y) B (hts _ List.mem_cons_self)
  have hX : Cb ((p, l, e, (headSpec (.codeWith y cc nL ret hh :: gtbl) rm).room), (s, m, (av.map (shV ad)).toArray, below), (meth, c), (D, cy, sz, ad, false), fun o => MQ below (stQ D cy sz ad false o.1 o.2) (av.map (shV ad)).toArray s rm.cells rm.slots (fun q => sz ≤ q)) cc nL y.cls rm false := ⟨B.exec, B.bytes, hml, findClass_of_methodNamed B.named, fun w hw => hts w (List.mem_cons_of_mem _ hw), hK, had, rfl, hsz, rfl⟩
  have hV := h _ hX ⟨B.returns, B.notSynchronized, fun _ _ => rfl⟩ htab rfl o hres s.heap []
  have hl := lv_entry (av.map (shV ad)) (n := nL) (by rw [lg_sl_sh]; exact hsl)
  rw [lg_entry_eq]
  have hargs : ∀ (vs : List Value) (n : Nat), lv_args n (vs.map (shV ad)) = shL ad (lv_args n vs) := by
    intro vs
    induction vs with
    | nil => intro n; rfl
    | cons v vs ih => intro n; simp only [List.map_cons, lv_args, shV_cat, ih]; rfl
  rw [hargs, hlv] at hl
  exact hV _ hR va_S.rf hl
end HLP
def f_L_person (x0 : Nat) (x1 x2 : Int32) (x3 : Nat) (M : MM) : Option (Int32 × MM) :=
  b2 (f_X11_person x0 x1 x2 M) fun r M1 => match r with
    | some v => b1 (stL x3 (0 : Int32) (Int32.toInt64 v) M1) fun M2 => some ((0 : Int32), M2)
    | none => some ((1 : Int32), M1)
theorem c_L_person (l : Launch) (hl0 : l.stackTraces = false) (x0 : Nat) (x1 x2 : Int32) (x3 : Nat) (M : MM) (r : Int32) (M1 : MM) (h : f_L_person x0 x1 x2 x3 M = some (r, M1)) : CtW l yL_person cL_person 5 (some .int) [(0, 10, 13, 13)] (RM 8 1 6) [.ref x0, .int x1, .int x2, .ref x3] M (some (.int r)) M1 := by
  refine ct_ofW (tr := trI) (o := (r, M1)) (by decide) (Nat.le_of_ble_eq_true rfl) [(0, .ref x0), (1, .int x1), (2, .int x2), (3, .ref x3)] rfl h (fun G X Y ht hl => ?_)
  unfold f_L_person
  refine v_aload_n X 1 3 dL_person_0 rfl rfl ?_
  refine v_iconst X 2 dL_person_1 ik_0 rfl ?_
  refine v_aload_n X 3 0 dL_person_2 rfl rfl ?_
  refine v_iload_n X 4 1 dL_person_3 rfl rfl ?_
  refine v_iload_n X 5 2 dL_person_4 rfl rfl ?_
  refine v_catch X cv_X11_person ml_L_7 (n1 := 7) rfl [.int x1, .int x2] rfl rfl rfl dL_person_5 _ ht (by decide) (by decide) xkL (fun r => r.map .int) (fun r M1 h => c_X11_person _ (by rw [hl]; exact hl0) _ _ _ _ _ _ h) (fun r v M1 hv => ?_) (fun r M1 o hv ho H1 locs1 ls q hR hS hl1 => ?_)
  · cases r with
    | none => cases hv
    | some v0 =>
      cases hv
      refine v_i2l X 9 dL_person_8 rfl ?_
      refine v_last X 10 dL_person_9 rfl (fun M2 => ?_)
      refine v_goto X 17 dL_person_10 rfl ?_
      refine v_iconst X 18 dL_person_17 ik_0 rfl ?_
      exact v_iret X Y (Nat.le_refl _) (Nat.le_refl _) dL_person_18
  · cases r with
    | some v0 => cases hv
    | none =>
      refine lv_astore X.1 X.2.1 dL_person_13 hl1 (by decide) rfl (fun ls' hl' => ?_)
      refine lv_iconst (v := 1) X.1 X.2.1 dL_person_15 ik_1 ?_
      have := v_iret (nL := 5) (cells := 1) (slots := 6) (lv := []) X Y (Nat.le_refl _) (Nat.le_refl _) (x := 1) (M := M1) dL_person_16 o ho H1 locs1 ls' hR hS ⟨hl'.1, hl'.2.1, fun q hq => nomatch hq⟩
      exact this

def f_L_errand (x0 : Nat) (x1 x2 : Int32) (x3 : Nat) (M : MM) : Option (Int32 × MM) :=
  b2 (f_X11_errand x0 x1 x2 M) fun r M1 => match r with
    | some v => b1 (stL x3 (0 : Int32) (Int32.toInt64 v) M1) fun M2 => some ((0 : Int32), M2)
    | none => some ((1 : Int32), M1)
theorem c_L_errand (l : Launch) (hl0 : l.stackTraces = false) (x0 : Nat) (x1 x2 : Int32) (x3 : Nat) (M : MM) (r : Int32) (M1 : MM) (h : f_L_errand x0 x1 x2 x3 M = some (r, M1)) : CtW l yL_errand cL_errand 5 (some .int) [(0, 10, 13, 13)] (RM 8 1 6) [.ref x0, .int x1, .int x2, .ref x3] M (some (.int r)) M1 := by
  refine ct_ofW (tr := trI) (o := (r, M1)) (by decide) (Nat.le_of_ble_eq_true rfl) [(0, .ref x0), (1, .int x1), (2, .int x2), (3, .ref x3)] rfl h (fun G X Y ht hl => ?_)
  unfold f_L_errand
  refine v_aload_n X 1 3 dL_errand_0 rfl rfl ?_
  refine v_iconst X 2 dL_errand_1 ik_0 rfl ?_
  refine v_aload_n X 3 0 dL_errand_2 rfl rfl ?_
  refine v_iload_n X 4 1 dL_errand_3 rfl rfl ?_
  refine v_iload_n X 5 2 dL_errand_4 rfl rfl ?_
  refine v_catch X cv_X11_errand ml_L_15 (n1 := 7) rfl [.int x1, .int x2] rfl rfl rfl dL_errand_5 _ ht (by decide) (by decide) xkL (fun r => r.map .int) (fun r M1 h => c_X11_errand _ (by rw [hl]; exact hl0) _ _ _ _ _ _ h) (fun r v M1 hv => ?_) (fun r M1 o hv ho H1 locs1 ls q hR hS hl1 => ?_)
  · cases r with
    | none => cases hv
    | some v0 =>
      cases hv
      refine v_i2l X 9 dL_errand_8 rfl ?_
      refine v_last X 10 dL_errand_9 rfl (fun M2 => ?_)
      refine v_goto X 17 dL_errand_10 rfl ?_
      refine v_iconst X 18 dL_errand_17 ik_0 rfl ?_
      exact v_iret X Y (Nat.le_refl _) (Nat.le_refl _) dL_errand_18
  · cases r with
    | some v0 => cases hv
    | none =>
      refine lv_astore X.1 X.2.1 dL_errand_13 hl1 (by decide) rfl (fun ls' hl' => ?_)
      refine lv_iconst (v := 1) X.1 X.2.1 dL_errand_15 ik_1 ?_
      have := v_iret (nL := 5) (cells := 1) (slots := 6) (lv := []) X Y (Nat.le_refl _) (Nat.le_refl _) (x := 1) (M := M1) dL_errand_16 o ho H1 locs1 ls' hR hS ⟨hl'.1, hl'.2.1, fun q hq => nomatch hq⟩
      exact this

def f_L_trip (x0 : Nat) (x1 x2 : Int32) (x3 : Nat) (M : MM) : Option (Int32 × MM) :=
  b2 (f_X11_trip x0 x1 x2 M) fun r M1 => match r with
    | some v => b1 (stL x3 (0 : Int32) (Int32.toInt64 v) M1) fun M2 => some ((0 : Int32), M2)
    | none => some ((1 : Int32), M1)
theorem c_L_trip (l : Launch) (hl0 : l.stackTraces = false) (x0 : Nat) (x1 x2 : Int32) (x3 : Nat) (M : MM) (r : Int32) (M1 : MM) (h : f_L_trip x0 x1 x2 x3 M = some (r, M1)) : CtW l yL_trip cL_trip 5 (some .int) [(0, 10, 13, 13)] (RM 8 1 6) [.ref x0, .int x1, .int x2, .ref x3] M (some (.int r)) M1 := by
  refine ct_ofW (tr := trI) (o := (r, M1)) (by decide) (Nat.le_of_ble_eq_true rfl) [(0, .ref x0), (1, .int x1), (2, .int x2), (3, .ref x3)] rfl h (fun G X Y ht hl => ?_)
  unfold f_L_trip
  refine v_aload_n X 1 3 dL_trip_0 rfl rfl ?_
  refine v_iconst X 2 dL_trip_1 ik_0 rfl ?_
  refine v_aload_n X 3 0 dL_trip_2 rfl rfl ?_
  refine v_iload_n X 4 1 dL_trip_3 rfl rfl ?_
  refine v_iload_n X 5 2 dL_trip_4 rfl rfl ?_
  refine v_catch X cv_X11_trip ml_L_18 (n1 := 7) rfl [.int x1, .int x2] rfl rfl rfl dL_trip_5 _ ht (by decide) (by decide) xkL (fun r => r.map .int) (fun r M1 h => c_X11_trip _ (by rw [hl]; exact hl0) _ _ _ _ _ _ h) (fun r v M1 hv => ?_) (fun r M1 o hv ho H1 locs1 ls q hR hS hl1 => ?_)
  · cases r with
    | none => cases hv
    | some v0 =>
      cases hv
      refine v_i2l X 9 dL_trip_8 rfl ?_
      refine v_last X 10 dL_trip_9 rfl (fun M2 => ?_)
      refine v_goto X 17 dL_trip_10 rfl ?_
      refine v_iconst X 18 dL_trip_17 ik_0 rfl ?_
      exact v_iret X Y (Nat.le_refl _) (Nat.le_refl _) dL_trip_18
  · cases r with
    | some v0 => cases hv
    | none =>
      refine lv_astore X.1 X.2.1 dL_trip_13 hl1 (by decide) rfl (fun ls' hl' => ?_)
      refine lv_iconst (v := 1) X.1 X.2.1 dL_trip_15 ik_1 ?_
      have := v_iret (nL := 5) (cells := 1) (slots := 6) (lv := []) X Y (Nat.le_refl _) (Nat.le_refl _) (x := 1) (M := M1) dL_trip_16 o ho H1 locs1 ls' hR hS ⟨hl'.1, hl'.2.1, fun q hq => nomatch hq⟩
      exact this

def f_L_row (x0 : Nat) (x1 : Int32) (x2 : Nat) (M : MM) : Option (Int32 × MM) :=
  b2 (f_X11_row x0 x1 M) fun r M1 => match r with
    | some v => b1 (stL x2 (0 : Int32) v M1) fun M2 => some ((0 : Int32), M2)
    | none => some ((1 : Int32), M1)
theorem c_L_row (l : Launch) (hl0 : l.stackTraces = false) (x0 : Nat) (x1 : Int32) (x2 : Nat) (M : MM) (r : Int32) (M1 : MM) (h : f_L_row x0 x1 x2 M = some (r, M1)) : CtW l yL_row cL_row 4 (some .int) [(0, 8, 11, 13)] (RM 8 1 6) [.ref x0, .int x1, .ref x2] M (some (.int r)) M1 := by
  refine ct_ofW (tr := trI) (o := (r, M1)) (by decide) (Nat.le_of_ble_eq_true rfl) [(0, .ref x0), (1, .int x1), (2, .ref x2)] rfl h (fun G X Y ht hl => ?_)
  unfold f_L_row
  refine v_aload_n X 1 2 dL_row_0 rfl rfl ?_
  refine v_iconst X 2 dL_row_1 ik_0 rfl ?_
  refine v_aload_n X 3 0 dL_row_2 rfl rfl ?_
  refine v_iload_n X 4 1 dL_row_3 rfl rfl ?_
  refine v_catch X cv_X11_row ml_L_21 (n1 := 7) rfl [.int x1] rfl rfl rfl dL_row_4 _ ht (by decide) (by decide) xkL (fun r => r.map .long) (fun r M1 h => c_X11_row _ (by rw [hl]; exact hl0) _ _ _ _ _ h) (fun r v M1 hv => ?_) (fun r M1 o hv ho H1 locs1 ls q hR hS hl1 => ?_)
  · cases r with
    | none => cases hv
    | some v0 =>
      cases hv
      refine v_last X 8 dL_row_7 rfl (fun M2 => ?_)
      refine v_goto X 14 dL_row_8 rfl ?_
      refine v_iconst X 15 dL_row_14 ik_0 rfl ?_
      exact v_iret X Y (Nat.le_refl _) (Nat.le_refl _) dL_row_15
  · cases r with
    | some v0 => cases hv
    | none =>
      refine lv_astore_n X.1 X.2.1 dL_row_11 rfl hl1 (by decide) rfl (fun ls' hl' => ?_)
      refine lv_iconst (v := 1) X.1 X.2.1 dL_row_12 ik_1 ?_
      have := v_iret (nL := 4) (cells := 1) (slots := 6) (lv := []) X Y (Nat.le_refl _) (Nat.le_refl _) (x := 1) (M := M1) dL_row_13 o ho H1 locs1 ls' hR hS ⟨hl'.1, hl'.2.1, fun q hq => nomatch hq⟩
      exact this

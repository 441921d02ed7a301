/-! THE ROW THAT IS TOLD -/
def rowOf (l : List Int64) : Nat × (Nat → Int64) := (l.length, fun k => l.getD k 0)
def RowC (M : MM) (l : List Int64) : Prop := mI M 3 1 = nI l.length ∧ ∀ k, k < l.length → mL M 4 k = l.getD k 0
def RowR (M : MM) (l : List Int64) : Prop := mI M 143 1 = nI l.length ∧ ∀ k, k < l.length → mL M 144 k = l.getD k 0
def wRow (a k : Nat) : Prop := a = 3 ∨ a = 4
def wRoR (a k : Nat) : Prop := (a = 143 ∧ k = 1) ∨ a = 144
theorem getD_app {l : List Int64} {v : Int64} {k : Nat} : (l ++ [v]).getD k 0 = if k = l.length then v else l.getD k 0 := by
  by_cases h : k = l.length
  · rw [if_pos h, h]; simp
  · rw [if_neg h]
    by_cases h2 : k < l.length
    · simp [List.getD, List.getElem?_append_left h2]
    · have h3 : l.length + 1 ≤ k := by omega
      simp [List.getD, List.getElem?_eq_none (show (l ++ [v]).length ≤ k by simp; omega), List.getElem?_eq_none (show l.length ≤ k by omega)]
theorem c_clr {M : MM} (h0 : Sh M) : ∃ M', f_X6_clear 3 M = some M' ∧ RowC M' [] ∧ Fr wRow M M' ∧ mR M' = mR M := by
  have hO := sh_O h0 (a := 3) 6 (by decide) rfl
  refine ⟨sI M 3 1 0, ?_, ⟨by rw [mI_w, if_pos ⟨rfl, rfl⟩]; rfl, fun k hk => absurd hk (Nat.not_lt_zero k)⟩, (Fr.rf M).sI (Or.inl rfl), rfl⟩
  unfold f_X6_clear f_X6_clear_0
  rw [if_pos hO, pI_k 1 0 hO, b1_s]
theorem c_radd {M : MM} (h0 : Sh M) {l : List Int64} (h : RowC M l) (hl : l.length < 8) (v : Int64) : ∃ M', f_X6_add 3 v M = some M' ∧ RowC M' (l ++ [v]) ∧ Fr wRow M M' ∧ mR M' = mR M := by
  have hO := sh_O h0 (a := 3) 6 (by decide) rfl
  refine ⟨sI (sL M 4 l.length v) 3 1 (nI (l.length + 1)), ?_, ⟨?_, fun k hk => ?_⟩, ((Fr.rf M).sL (Or.inr rfl)).sI (Or.inl rfl), rfl⟩
  · unfold f_X6_add f_X6_add_0
    rw [if_pos hO, gI_k 1 hO, b1_s, h.1, if_neg (show ¬ (8 : Int32) ≤ nI l.length from nI_ge hl (by decide)), sh_R h0 (a := 3) (k := 0) (b := 4) 6 (by decide) rfl (by decide), b1_s, b1_s, st_4 h0 v hl, b1_s, gI_k (M := sL M 4 l.length v) 1 hO, b1_s, mI_sL, h.1, nI_1, pI_k (M := sL M 4 l.length v) 1 _ hO, b1_s]
  · rw [mI_w, if_pos ⟨rfl, rfl⟩, List.length_append]; rfl
  · rw [mL_sI, mL_w, getD_app]
    rw [List.length_append] at hk
    have hk' : k < l.length + 1 := hk
    by_cases e : k = l.length
    · rw [if_pos ⟨rfl, e⟩, if_pos e]
    · rw [if_neg (fun q => e q.2), if_neg e]; exact h.2 k (by omega)
theorem c_one {M : MM} (h0 : Sh M) (x : Int64) : ∃ M', f_X6_one 3 x M = some M' ∧ RowC M' [x] ∧ Fr wRow M M' ∧ mR M' = mR M := by
  obtain ⟨M1, e1, c1, f1, r1⟩ := c_clr h0
  obtain ⟨M2, e2, c2, f2, r2⟩ := c_radd (f1.sh' r1 h0) c1 (by decide) x
  refine ⟨M2, ?_, c2, f1.tr f2, r2.trans r1⟩
  unfold f_X6_one f_X6_one_0
  rw [if_pos (sh_O h0 6 (by decide) rfl), e1, b1_s, e2, b1_s]
theorem c_two {M : MM} (h0 : Sh M) (x y : Int64) : ∃ M', f_X6_two 3 x y M = some M' ∧ RowC M' [x, y] ∧ Fr wRow M M' ∧ mR M' = mR M := by
  obtain ⟨M1, e1, c1, f1, r1⟩ := c_one h0 x
  obtain ⟨M2, e2, c2, f2, r2⟩ := c_radd (f1.sh' r1 h0) c1 (by simp) y
  refine ⟨M2, ?_, c2, f1.tr f2, r2.trans r1⟩
  unfold f_X6_two f_X6_two_0
  rw [if_pos (sh_O h0 6 (by decide) rfl), e1, b1_s, e2, b1_s]
theorem c_three {M : MM} (h0 : Sh M) (x y z : Int64) : ∃ M', f_X6_three 3 x y z M = some M' ∧ RowC M' [x, y, z] ∧ Fr wRow M M' ∧ mR M' = mR M := by
  obtain ⟨M1, e1, c1, f1, r1⟩ := c_two h0 x y
  obtain ⟨M2, e2, c2, f2, r2⟩ := c_radd (f1.sh' r1 h0) c1 (by simp) z
  refine ⟨M2, ?_, c2, f1.tr f2, r2.trans r1⟩
  unfold f_X6_three f_X6_three_0
  rw [if_pos (sh_O h0 6 (by decide) rfl), e1, b1_s, e2, b1_s]
theorem r_clr {M : MM} (h0 : Sh M) : ∃ M', pI 12 1 143 0 M = some M' ∧ RowR M' [] ∧ Fr wRoR M M' ∧ mR M' = mR M := by
  have hO := sh_O h0 (a := 143) 12 (by decide) rfl
  exact ⟨sI M 143 1 0, pI_k 1 0 hO, ⟨by rw [mI_w, if_pos ⟨rfl, rfl⟩]; rfl, fun k hk => absurd hk (Nat.not_lt_zero k)⟩, (Fr.rf M).sI (Or.inl ⟨rfl, rfl⟩), rfl⟩
theorem r_ent {M : MM} (h0 : Sh M) {l : List Int64} (h : RowR M l) (hl : l.length < 24) (v : Int64) : ∃ M', f_X12_enters 143 v M = some M' ∧ RowR M' (l ++ [v]) ∧ Fr wRoR M M' ∧ mR M' = mR M := by
  have hO := sh_O h0 (a := 143) 12 (by decide) rfl
  refine ⟨sI (sL M 144 l.length v) 143 1 (nI (l.length + 1)), ?_, ⟨?_, fun k hk => ?_⟩, ((Fr.rf M).sL (Or.inr rfl)).sI (Or.inl ⟨rfl, rfl⟩), rfl⟩
  · unfold f_X12_enters f_X12_enters_0
    rw [if_pos hO, sh_R h0 (a := 143) (k := 2) (b := 144) 12 (by decide) rfl (by decide), b1_s, gI_k 1 hO, b1_s, h.1, st_144 h0 v hl, b1_s, gI_k (M := sL M 144 l.length v) 1 hO, b1_s, mI_sL, h.1, nI_1, pI_k (M := sL M 144 l.length v) 1 _ hO, b1_s]
  · rw [mI_w, if_pos ⟨rfl, rfl⟩, List.length_append]; rfl
  · rw [mL_sI, mL_w, getD_app]
    rw [List.length_append] at hk
    have hk' : k < l.length + 1 := hk
    by_cases e : k = l.length
    · rw [if_pos ⟨rfl, e⟩, if_pos e]
    · rw [if_neg (fun q => e q.2), if_neg e]; exact h.2 k (by omega)
theorem RC.row {s : St} {M M' : MM} (h : RC s M) (f : Fr wRow M M') (hr : mR M' = mR M) {l : List Int64} (hl : RowC M' l) : RC (zsrow s (rowOf l)) M' := ⟨f.sh' hr h.1, (h.2.1.fr f (fun a k q => by unfold wRow; omega)), hl, (h.2.2.2.1.fr f (fun a k q => by unfold wRow; omega)), (h.2.2.2.2.1.frw f (fun a k q => by unfold wRow; omega)), (h.2.2.2.2.2.1.fr f (fun a k q => by unfold wRow; omega)), (h.2.2.2.2.2.2.1.fr f (fun a k q => by unfold wRow; omega)), (h.2.2.2.2.2.2.2.1.fr f (fun a k q => by unfold wRow; omega)), (h.2.2.2.2.2.2.2.2.fr f (fun a k q => by unfold wRow; omega))⟩
theorem RR.row {s : St} {M M' : MM} (h : RR s M) (f : Fr wRoR M M') (hr : mR M' = mR M) {l : List Int64} (hl : RowR M' l) : RR (zsrow s (rowOf l)) M' := ⟨f.sh' hr h.1, (h.2.1.fr f (fun a k q => by unfold wRoR; omega)), hl, (h.2.2.2.1.fr f (fun a k q => by unfold wRoR; omega)), (h.2.2.2.2.1.frw f (fun a k q => by unfold wRoR; omega)), (h.2.2.2.2.2.1.fr f (fun a k q => by unfold wRoR; omega)), (h.2.2.2.2.2.2.1.fr f (fun a k q => by unfold wRoR; omega)), (h.2.2.2.2.2.2.2.1.fr f (fun a k q => by unfold wRoR; omega)), (h.2.2.2.2.2.2.2.2.fr f (fun a k q => by unfold wRoR; omega))⟩
theorem WF_row {s : St} (hw : WF s) {l : List Int64} (hl : l.length ≤ 8) : WF (zsrow s (rowOf l)) := by
  obtain ⟨⟨a1, a2, a3, a4, a5, a6, a7, a8⟩, b, c, d, e⟩ := hw
  exact ⟨⟨a1, a2, a3, a4, a5, a6, a7, hl⟩, b, c, d, e⟩
/-- the reference's rows told: one, two, three -/
theorem r_one' {s : St} {M : MM} (h : RR s M) (x : Int64) : ∃ M1 M2, pI 12 1 143 0 M = some M1 ∧ f_X12_enters 143 x M1 = some M2 ∧ RR (zsrow s (rowOf [x])) M2 ∧ Fr wRoR M M2 ∧ mR M2 = mR M := by
  obtain ⟨M1, e1, c1, f1, r1⟩ := r_clr h.1
  obtain ⟨M2, e2, c2, f2, r2⟩ := r_ent (f1.sh' r1 h.1) c1 (by decide) x
  exact ⟨M1, M2, e1, e2, h.row (f1.tr f2) (r2.trans r1) c2, f1.tr f2, r2.trans r1⟩
theorem r_two' {s : St} {M : MM} (h : RR s M) (x y : Int64) : ∃ M1 M2 M3, pI 12 1 143 0 M = some M1 ∧ f_X12_enters 143 x M1 = some M2 ∧ f_X12_enters 143 y M2 = some M3 ∧ RR (zsrow s (rowOf [x, y])) M3 ∧ Fr wRoR M M3 ∧ mR M3 = mR M := by
  obtain ⟨M1, e1, c1, f1, r1⟩ := r_clr h.1
  obtain ⟨M2, e2, c2, f2, r2⟩ := r_ent (f1.sh' r1 h.1) c1 (by decide) x
  obtain ⟨M3, e3, c3, f3, r3⟩ := r_ent (f2.sh' r2 (f1.sh' r1 h.1)) c2 (by simp) y
  exact ⟨M1, M2, M3, e1, e2, e3, h.row ((f1.tr f2).tr f3) (r3.trans (r2.trans r1)) c3, (f1.tr f2).tr f3, r3.trans (r2.trans r1)⟩
theorem r_three' {s : St} {M : MM} (h : RR s M) (x y z : Int64) : ∃ M1 M2 M3 M4, pI 12 1 143 0 M = some M1 ∧ f_X12_enters 143 x M1 = some M2 ∧ f_X12_enters 143 y M2 = some M3 ∧ f_X12_enters 143 z M3 = some M4 ∧ RR (zsrow s (rowOf [x, y, z])) M4 ∧ Fr wRoR M M4 ∧ mR M4 = mR M := by
  obtain ⟨M1, e1, c1, f1, r1⟩ := r_clr h.1
  obtain ⟨M2, e2, c2, f2, r2⟩ := r_ent (f1.sh' r1 h.1) c1 (by decide) x
  obtain ⟨M3, e3, c3, f3, r3⟩ := r_ent (f2.sh' r2 (f1.sh' r1 h.1)) c2 (by simp) y
  obtain ⟨M4, e4, c4, f4, r4⟩ := r_ent (f3.sh' r3 (f2.sh' r2 (f1.sh' r1 h.1))) c3 (by simp) z
  exact ⟨M1, M2, M3, M4, e1, e2, e3, e4, h.row (((f1.tr f2).tr f3).tr f4) (r4.trans (r3.trans (r2.trans r1))) c4, ((f1.tr f2).tr f3).tr f4, r4.trans (r3.trans (r2.trans r1))⟩
theorem wRoR_rW {M M' : MM} (f : Fr wRoR M M') : Fr rW M M' := f.mono (fun a k q => by unfold wRoR at q; unfold rW; omega)
theorem wRow_cW {M M' : MM} (f : Fr wRow M M') : Fr cW M M' := f.mono (fun a k q => by unfold wRow at q; unfold cW; omega)
theorem wEv_cW {M M' : MM} (f : Fr wEv M M') : Fr cW M M' := f.mono (fun a k q => by unfold wEv at q; unfold cW; omega)
theorem wEv_wC {M M' : MM} (f : Fr wEv M M') : Fr wC M M' := f.mono (fun a k q => by unfold wEv at q; unfold wC; omega)
theorem wStk_rW {M M' : MM} (f : Fr wStk M M') : Fr rW M M' := f.mono (fun a k q => by unfold wStk at q; unfold rW; omega)
theorem wStk_wR {M M' : MM} (f : Fr wStk M M') : Fr wR M M' := f.mono (fun a k q => by unfold wStk at q; unfold wR; omega)
/-- thrown is set -/
theorem r_thr {s : St} {M : MM} (h : RR s M) (v : Int32) : pI 12 0 143 v M = some (sI M 143 0 v) ∧ RR s (sI M 143 0 v) ∧ Fr rW M (sI M 143 0 v) ∧ mR (sI M 143 0 v) = mR M := ⟨pI_k 0 v (sh_O h.1 12 (by decide) rfl), h.fr ((Fr.rf M).sI (by unfold wR; omega)) h.1, (Fr.rf M).sI (by unfold rW; omega), rfl⟩
/-! worth -/
def fstB (P : Nat → Bool) : Nat → Int32
  | 0 => -1
  | k + 1 => if fstB P k = -1 ∧ P k = true then nI k else fstB P k
def brk (s : St) (q : Pl) (i : Nat) : Bool := decide (whyS s q i ≠ 0)
def a_worth (s : St) : Int32 := worAll s (zplan s)
def n_worth (s : St) : St := zsrow s (rowOf [Int32.toInt64 (nI (fb_ct (brk s (zplan s)) (zplan s).1)), Int32.toInt64 (fstB (brk s (zplan s)) (zplan s).1)])
theorem nI_m1 {n : Nat} (h : n < 2 ^ 31) : nI n ≠ -1 := by
  intro q
  have := congrArg Int32.toInt q
  rw [nI_toInt h, show (-1 : Int32).toInt = -1 from by decide] at this
  omega
theorem fstB_c (P : Nat → Bool) : ∀ n, n ≤ 1000 → fstB P n = -1 ∨ ∃ j, j < n ∧ fstB P n = nI j
  | 0, _ => Or.inl rfl
  | n + 1, h => by
    rw [fstB]
    split
    · exact Or.inr ⟨n, by omega, rfl⟩
    · rcases fstB_c P n (by omega) with h1 | ⟨j, hj, h1⟩
      · exact Or.inl h1
      · exact Or.inr ⟨j, by omega, h1⟩
theorem W_worth {s : St} (hw : WF s) : WF (n_worth s) := WF_row hw (by show 2 ≤ 8; decide)
theorem C_worth {s : St} (hw : WF s) : OpC (fun M => f_X11_worth 0 M) s (a_worth s) (n_worth s) := by
  intro M h
  have h0 := h.1
  have hx := h.cx hw
  have h12 := hx.2.2.2.2.2.2.1
  obtain ⟨M1, e1, c1, f1, r1⟩ := c_two h0 (Int32.toInt64 (nI (fb_ct (brk s (zplan s)) (zplan s).1))) (Int32.toInt64 (fstB (brk s (zplan s)) (zplan s).1))
  have hc1 := h.row f1 r1 c1
  have hw1 : WF (n_worth s) := W_worth hw
  obtain ⟨⟨r2, M2⟩, e2, er, f2, r3⟩ := c_sum (RC.cw hc1 hw1)
  refine ⟨M2, ?_, hc1.fr (wEv_wC f2) (f2.sh' r3 hc1.1), (wRow_cW f1).tr (wEv_cW f2)⟩
  have this : f_X11_worth_6 1024 0 (nI (fb_ct (brk s (zplan s)) 0)) (fstB (brk s (zplan s)) 0) (nI 0) M = some (a_worth s, M2) := by
    refine lpv (fun f k => f_X11_worth_6 f 0 (nI (fb_ct (brk s (zplan s)) k)) (fstB (brk s (zplan s)) k) (nI k) M) (zplan s).1 _ (fun f k hk => Or.inl ?_) (fun f => ?_) 1024 0 (by omega) (by omega)
    · show f_X11_worth_6 (f + 1) _ _ _ _ _ = _
      rw [f_X11_worth_6, sh_R h0 (a := 0) (k := 3) (b := 14) 11 (by decide) rfl (by decide), b1_s, c_size hx, b1_s, if_neg (nI_ge hk (by omega)), sh_R h0 (a := 0) (k := 5) (b := 18) 11 (by decide) rfl (by decide), b1_s, c_why hx (Or.inl ⟨rfl, rfl⟩) hk, b2_s]
      unfold f_X11_worth_41 f_X11_worth_42
      have hl := whyS_lt s (zplan s) k
      rw [fb_ct_succ, fstB]
      by_cases hz : whyS s (zplan s) k = 0
      · have hb : brk s (zplan s) k = false := decide_eq_false (by omega)
        rw [if_pos (by rw [hz]; rfl), bn_s, nI_1, hb]
        simp only [Bool.false_eq_true, and_false, if_false, Nat.add_zero]
      · have hb : brk s (zplan s) k = true := decide_eq_true hz
        rw [if_neg (nI_ne0 (by omega) (by omega)), bn_s, bn_s, nI_1, nI_1, hb]
        simp only [and_true, if_true]
        by_cases hf : fstB (brk s (zplan s)) k = -1
        · rw [if_pos hf, if_pos hf]
        · rw [if_neg hf, if_neg hf, bn_s]
    · show f_X11_worth_6 (f + 1) _ _ _ _ _ = _
      rw [f_X11_worth_6, sh_R h0 (a := 0) (k := 3) (b := 14) 11 (by decide) rfl (by decide), b1_s, c_size hx, b1_s, if_pos (nI_le (Nat.le_refl _) (by omega)), sh_R h0 (a := 0) (k := 1) (b := 3) 11 (by decide) rfl (by decide), b1_s, e1, b1_s, sh_R hc1.1 (a := 0) (k := 7) (b := 84) 11 (by decide) rfl (by decide), b1_s]
      have e2' : f_X7_sum 84 M1 = some (r2, M2) := e2
      rw [e2', b2_s]
      have : r2 = a_worth s := er
      rw [this]
  have z1 : nI (fb_ct (brk s (zplan s)) 0) = 0 := rfl
  have z2 : fstB (brk s (zplan s)) 0 = -1 := rfl
  rw [z1, z2, nI_0] at this
  show f_X11_worth 0 M = _
  unfold f_X11_worth f_X11_worth_0
  rw [if_pos (sh_O h0 11 (by decide) rfl)]
  exact this
theorem R_worth {s : St} (hw : WF s) : OpR (fun M => f_X12_worth 143 M) s (a_worth s) (n_worth s) := by
  intro M h
  obtain ⟨et, ht, ft, rt⟩ := r_thr h 0
  have h0 := ht.1
  have hx := ht.rx hw
  have h15 := hx.2.2.2.2.2.2.1
  obtain ⟨M1, M2, M3, e1, e2, e3, c3, f3, r3⟩ := r_two' ht (Int32.toInt64 (nI (fb_ct (brk s (zplan s)) (zplan s).1))) (Int32.toInt64 (fstB (brk s (zplan s)) (zplan s).1))
  obtain ⟨⟨r4, M4⟩, e4, er, f4, r5⟩ := r_all (RR.rw c3 (W_worth hw))
  refine ⟨M4, ?_, c3.fr (wStk_wR f4) (f4.sh' r5 c3.1), (ft.tr (wRoR_rW f3)).tr (wStk_rW f4), r5.trans (r3.trans rt)⟩
  have this : f_X12_worth_11 1024 143 (nI (fb_ct (brk s (zplan s)) 0)) (fstB (brk s (zplan s)) 0) (nI 0) (sI M 143 0 0) = some (a_worth s, M4) := by
    refine lpv (fun f k => f_X12_worth_11 f 143 (nI (fb_ct (brk s (zplan s)) k)) (fstB (brk s (zplan s)) k) (nI k) (sI M 143 0 0)) (zplan s).1 _ (fun f k hk => Or.inl ?_) (fun f => ?_) 1024 0 (by omega) (by omega)
    · show f_X12_worth_11 (f + 1) _ _ _ _ _ = _
      rw [f_X12_worth_11, sh_R h0 (a := 143) (k := 15) (b := 153) 12 (by decide) rfl (by decide), b1_s, r_size hx, b1_s, if_neg (nI_ge hk (by omega)), b1_s, r_why hx hk, b2_s]
      unfold f_X12_worth_43 f_X12_worth_47
      have hl := whyS_lt s (zplan s) k
      rw [fb_ct_succ, fstB]
      by_cases hz : whyS s (zplan s) k = 0
      · have hb : brk s (zplan s) k = false := decide_eq_false (by omega)
        rw [if_pos (by rw [hz]; decide), bn_s, nI_1, hb]
        simp only [Bool.false_eq_true, and_false, if_false, Nat.add_zero]
      · have hb : brk s (zplan s) k = true := decide_eq_true hz
        rw [if_neg (nI_nle (by omega) (by omega)), bn_s, bn_s, bn_s, bn_s, nI_1, nI_1, hb]
        simp only [and_true, if_true]
        rcases fstB_c (brk s (zplan s)) k (by omega) with hf | ⟨j, hj, hf⟩
        · rw [if_neg (by rw [hf]; decide), if_pos hf]
        · rw [if_pos (by rw [hf]; exact nI_pos' (by omega)), if_neg (by rw [hf]; exact nI_m1 (by omega))]
    · show f_X12_worth_11 (f + 1) _ _ _ _ _ = _
      rw [f_X12_worth_11, sh_R h0 (a := 143) (k := 15) (b := 153) 12 (by decide) rfl (by decide), b1_s, r_size hx, b1_s, if_pos (nI_le (Nat.le_refl _) (by omega)), e1, b1_s, e2, b1_s, e3, b1_s, sh_R c3.1 (a := 143) (k := 15) (b := 153) 12 (by decide) rfl (by decide), b1_s]
      have e4' : f_X12_worthAll 143 153 M3 = some (r4, M4) := e4
      rw [e4', b2_s]
      have : r4 = a_worth s := er
      rw [this]
  have z1 : nI (fb_ct (brk s (zplan s)) 0) = 0 := rfl
  have z2 : fstB (brk s (zplan s)) 0 = -1 := rfl
  rw [z1, z2, nI_0] at this
  show f_X12_worth 143 M = _
  unfold f_X12_worth f_X12_worth_0
  rw [if_pos (sh_O h.1 12 (by decide) rfl), et, b1_s]
  exact this
theorem case_21 : CaseOK g_L_21 := by
  intro L xs j K M hL hj hc
  obtain ⟨s, hw, hc, hr⟩ := hc
  obtain ⟨M1, M2, hcp, e1, e2⟩ := asm (C_worth hw) (R_worth hw) (W_worth hw) hc hr
  refine ⟨M2, hcp, ?_⟩
  unfold g_L_21
  simp only [show (nI j + 1 : Int32) = nI (j + 1) from nI_add _ 1, show (nI j + 2 : Int32) = nI (j + 2) from nI_add _ 2, show (nI j + 3 : Int32) = nI (j + 3) from nI_add _ 3, show (nI j + 4 : Int32) = nI (j + 4) from nI_add _ 4, scr_k (show j + 1 < L by omega) hL, scr_k (show j + 2 < L by omega) hL, scr_k (show j + 3 < L by omega) hL, scr_k (show j + 4 < L by omega) hL, b1_s, e1, e2, b2_s, if_true]

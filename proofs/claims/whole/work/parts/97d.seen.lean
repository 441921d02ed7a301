/-! CALLS: fits, stayed, since -/
def bcI (x0 : Int32) : Int32 :=
  let y1 := x0 - ((iush x0 (1 : Int32)) &&& (1431655765 : Int32))
  let y2 := (y1 &&& (858993459 : Int32)) + ((iush y1 (2 : Int32)) &&& (858993459 : Int32))
  let y3 := (y2 + (iush y2 (4 : Int32))) &&& (252645135 : Int32)
  let y4 := y3 + (iush y3 (8 : Int32))
  let y5 := y4 + (iush y4 (16 : Int32))
  y5 &&& (63 : Int32)
theorem e_bc (x : Int32) (M : MM) : f_J6_bitCount_0f7a4 x M = some (bcI x, M) := rfl
def thM (s : St) (e m x : Nat) : Bool := decide (m + zway s e ≤ x ∧ x < m + zway s e + zlas s e)
theorem lc_sw {s : St} {M : MM} (hw : WF s) (h : RC s M) {k : Nat} (hk : k < zS s) : ldI 134 (nI k) M = some (nI (zsw s k)) ∧ ldI 135 (nI k) M = some (nI (zse s k)) ∧ ldI 136 (nI k) M = some (nI (zsm s k)) := by
  have hS := hw.1.2.2.2.2.2.1
  have hx := h.2.2.2.2.2.2.2.2.2 k hk
  rw [ld_134 h.1 (by omega), ld_135 h.1 (by omega), ld_136 h.1 (by omega), hx.1, hx.2.1, hx.2.2]
  exact ⟨rfl, rfl, rfl⟩
theorem lr_sw {s : St} {M : MM} (hw : WF s) (h : RR s M) {k : Nat} (hk : k < zS s) : ldI 176 (nI k) M = some (nI (zsw s k)) ∧ ldI 177 (nI k) M = some (nI (zse s k)) ∧ ldI 178 (nI k) M = some (nI (zsm s k)) := by
  have hS := hw.1.2.2.2.2.2.1
  have hx := h.2.2.2.2.2.2.2.2.2 k hk
  rw [ld_176 h.1 (by omega), ld_177 h.1 (by omega), ld_178 h.1 (by omega), hx.1, hx.2.1, hx.2.2]
  exact ⟨rfl, rfl, rfl⟩
theorem c_th8 {s : St} {M : MM} (hw : WF s) (h : RC s M) {e m x : Nat} (he : e < zE s) (hm : m < 200) (hx : x < 200) : f_X8_isThere 133 (nI e) (nI m) (nI x) M = some (bI (thM s e m x), M) := by
  have h0 := h.1
  have hB := hw.2.1.2.1 e he
  unfold f_X8_isThere f_X8_isThere_0 thM
  rw [if_pos (sh_O h0 8 (by decide) rfl), sh_R h0 (a := 133) (k := 0) (b := 5) 8 (by decide) rfl (by decide), b1_s, sh_R h0 (a := 5) (k := 1) (b := 7) 9 (by decide) rfl (by decide), b1_s, lc_way h0 h.2.2.2.1 hw.1 he, b1_s, bn_s, nI_add]
  by_cases h1 : x < m + zway s e
  · rw [if_pos (nI_lt h1 (by omega)), rz0, decide_eq_false (by omega), bI_f]
  · rw [if_neg (nI_nlt (by omega) (by omega)), b1_s, sh_R h0 (a := 5) (k := 2) (b := 8) 9 (by decide) rfl (by decide), b1_s, lc_las h0 h.2.2.2.1 hw.1 he, b1_s, nI_add]
    by_cases h2 : m + zway s e + zlas s e ≤ x
    · rw [if_pos (nI_le h2 (by omega)), rz0, decide_eq_false (by omega), bI_f]
    · rw [if_neg (nI_ge (by omega) (by omega)), rz1, decide_eq_true (by omega), bI_t]
def ftP (s : St) (k i : Nat) : Bool := decide (tw ((zplan s).2 i) = zsw s k) && (decide (te ((zplan s).2 i) = zse s k) && thM s (zse s k) (ts ((zplan s).2 i)) (zsm s k))
def ftB (s : St) (k : Nat) : Bool := anyB (ftP s k) (zplan s).1
def a_fits (s : St) : Int32 := bcI (orB (ftB s) (zS s))
def n_fits (s : St) : St := zsrow s (rowOf [Int32.toInt64 (orB (ftB s) (zS s))])
theorem W_fits {s : St} (hw : WF s) : WF (n_fits s) := WF_row hw (by show 1 ≤ 8; decide)
theorem c_fp {s : St} {M : MM} (hw : WF s) (h : RC s M) {k : Nat} (hk : k < zS s) : f_X8_fitsPlan 133 (nI k) 14 M = some (bI (ftB s k), M) := by
  have h0 := h.1
  have hP := hw.1.1
  have hE := hw.1.2.1
  have hS := hw.1.2.2.2.2.2.1
  have h12 := hw.2.2.2.2.1.1
  have hx := h.cx hw
  have hs := hw.2.2.2.1 k hk
  have l := lc_sw hw h hk
  unfold f_X8_fitsPlan f_X8_fitsPlan_0
  rw [if_pos (sh_O h0 8 (by decide) rfl), if_neg (nI_pos (by omega)), gI_k 4 (sh_O h0 8 (by decide) rfl), b1_s, h.2.2.2.2.2.2.2.2.1, if_pos (nI_lt hk (by omega)), ← nI_0]
  refine lpa (fun f i => f_X8_fitsPlan_16 f 133 (nI k) 14 (nI i) M) (ftP s k) (zplan s).1 (fun f i hi => ?_) (fun f => ?_) 1024 (by omega)
  · show f_X8_fitsPlan_16 (f + 1) _ _ _ _ _ = _
    have hb := okT_b (hw.2.2.2.2.1.2 i hi)
    rw [f_X8_fitsPlan_16, c_size hx, b1_s, if_neg (nI_ge hi (by omega)), e_who hx hi, b2_s, sh_R h0 (a := 133) (k := 1) (b := 134) 8 (by decide) rfl (by decide), b1_s, l.1, b1_s]
    unfold f_X8_fitsPlan_56 f_X8_fitsPlan_57 f_X8_fitsPlan_90 ftP
    by_cases h1 : tw ((zplan s).2 i) = zsw s k
    · rw [if_pos (by rw [h1]), e_what hx hi, b2_s, sh_R h0 (a := 133) (k := 2) (b := 135) 8 (by decide) rfl (by decide), b1_s, l.2.1, b1_s, decide_eq_true h1, Bool.true_and]
      by_cases h2 : te ((zplan s).2 i) = zse s k
      · rw [if_pos (by rw [h2]), if_neg (by decide), b1_s, l.2.1, b1_s, e_first hx hi, b2_s, sh_R h0 (a := 133) (k := 3) (b := 136) 8 (by decide) rfl (by decide), b1_s, l.2.2, b1_s, c_th8 hw h hs.2.1 (by omega) (by omega), b2_s, decide_eq_true h2, Bool.true_and]
        cases thM s (zse s k) (ts ((zplan s).2 i)) (zsm s k) with
        | true => rw [if_neg (show ¬ bI true = 0 by decide), rz1, if_pos rfl]
        | false => rw [if_pos (show bI false = 0 from rfl), bn_s, nI_1, if_neg (by decide)]
      · rw [if_neg (by rw [nI_eq (by omega) (by omega)]; exact h2), if_pos rfl, bn_s, nI_1, decide_eq_false h2, Bool.false_and, if_neg (by decide)]
    · rw [if_neg (by rw [nI_eq (by omega) (by omega)]; exact h1), if_pos rfl, bn_s, nI_1, decide_eq_false h1, Bool.false_and, if_neg (by decide)]
  · show f_X8_fitsPlan_16 (f + 1) _ _ _ _ _ = _
    rw [f_X8_fitsPlan_16, c_size hx, b1_s, if_pos (nI_le (Nat.le_refl _) (by omega)), rz0]
theorem C_fits {s : St} (hw : WF s) : OpC (fun M => f_X11_fits 0 M) s (a_fits s) (n_fits s) := by
  intro M h
  have h0 := h.1
  have hS := hw.1.2.2.2.2.2.1
  obtain ⟨M2, e2, w2, f2, r2⟩ := c_one h0 (Int32.toInt64 (orB (ftB s) (zS s)))
  refine ⟨M2, ?_, h.row f2 r2 w2, wRow_cW f2⟩
  show f_X11_fits 0 M = _
  unfold f_X11_fits f_X11_fits_0
  rw [if_pos (sh_O h0 11 (by decide) rfl)]
  have hR := sh_R h0 (a := 0) (k := 10) (b := 133) 11 (by decide) rfl (by decide)
  have this : f_X11_fits_4 1024 0 (orB (ftB s) 0) (nI 0) M = some (a_fits s, M2) := by
    refine lpv (fun f k => f_X11_fits_4 f 0 (orB (ftB s) k) (nI k) M) (zS s) _ (fun f k hk => Or.inl ?_) (fun f => ?_) 1024 0 (by omega) (by omega)
    · show f_X11_fits_4 (f + 1) _ _ _ _ = _
      rw [f_X11_fits_4, hR, b1_s, gI_k 4 (sh_O h0 8 (by decide) rfl), b1_s, h.2.2.2.2.2.2.2.2.1, if_neg (nI_ge hk (by omega)), b1_s, sh_R h0 (a := 0) (k := 3) (b := 14) 11 (by decide) rfl (by decide), b1_s, c_fp hw h hk, b2_s, orB_s]
      unfold f_X11_fits_38
      cases ftB s k with
      | true => rw [if_neg (show ¬ bI true = 0 by decide), bn_s, bn_s, nI_1, if_pos rfl]
      | false => rw [if_pos (show bI false = 0 from rfl), bn_s, bn_s, nI_1, if_neg (by decide)]
    · show f_X11_fits_4 (f + 1) _ _ _ _ = _
      rw [f_X11_fits_4, hR, b1_s, gI_k 4 (sh_O h0 8 (by decide) rfl), b1_s, h.2.2.2.2.2.2.2.2.1, if_pos (nI_le (Nat.le_refl _) (by omega)), sh_R h0 (a := 0) (k := 1) (b := 3) 11 (by decide) rfl (by decide), b1_s, e2, b1_s, e_bc, b2_s]
      rfl
  rw [nI_0] at this
  exact this
theorem or_idem (x b : Int32) : (x ||| b) ||| b = x ||| b := by rw [Int32.or_assoc, Int32.or_self]
theorem r_ft1 {s : St} {M : MM} (hw : WF s) (h : RR s M) {k : Nat} (hk : k < zS s) (K : Nat → Int32 → Int32 → MM → Option (Int32 × MM)) (x : Int32) : f_X12_fits_19 K 1024 143 x (nI k) 0 M = K 143 (x ||| (if ftB s k = true then (1 : Int32) <<< (nI k &&& 31) else 0)) (nI (k + 1)) M := by
  have h0 := h.1
  have hP := hw.1.1
  have hE := hw.1.2.1
  have hS := hw.1.2.2.2.2.2.1
  have h12 := hw.2.2.2.2.1.1
  have hx := h.rx hw
  have hs := hw.2.2.2.1 k hk
  have l := lr_sw hw h hk
  have hR := sh_R h0 (a := 143) (k := 15) (b := 153) 12 (by decide) rfl (by decide)
  obtain ⟨M', e1, e2⟩ := lpt (fun f i N => f_X12_fits_19 K f 143 (x ||| (if anyB (ftP s k) i = true then (1 : Int32) <<< (nI k &&& 31) else 0)) (nI k) (nI i) N) (fun N => K 143 (x ||| (if ftB s k = true then (1 : Int32) <<< (nI k &&& 31) else 0)) (nI (k + 1)) N) (fun i N => N = M) (fun N => N = M) (zplan s).1 (fun f i N hi hN => by
    subst hN
    left
    refine ⟨N, ?_, rfl⟩
    show f_X12_fits_19 K (f + 1) _ _ _ _ _ = _
    have hb := okT_b (hw.2.2.2.2.1.2 i hi)
    rw [f_X12_fits_19, hR, b1_s, r_size hx, b1_s, if_neg (nI_ge hi (by omega)), b1_s, r_who hx hi, b2_s, sh_R h0 (a := 143) (k := 52) (b := 176) 12 (by decide) rfl (by decide), b1_s, l.1, b1_s, anyB]
    have fin : ∀ b : Bool, ftP s k i = b → (x ||| (if anyB (ftP s k) i = true then (1 : Int32) <<< (nI k &&& 31) else 0)) ||| (if b = true then (1 : Int32) <<< (nI k &&& 31) else 0) = x ||| (if (anyB (ftP s k) i || ftP s k i) = true then (1 : Int32) <<< (nI k &&& 31) else 0) := by
      intro b hb
      rw [hb]
      cases anyB (ftP s k) i <;> cases b
      · rw [if_neg (by decide), Int32.or_zero]; rfl
      · rw [if_neg (by decide), Int32.or_zero]; rfl
      · rw [if_pos rfl, if_neg (by decide), Int32.or_zero]; rfl
      · rw [if_pos rfl, or_idem]; rfl
    unfold f_X12_fits_89 f_X12_fits_90
    by_cases h1 : tw ((zplan s).2 i) = zsw s k
    · rw [if_pos (by rw [h1]), hR, b1_s, r_what hx hi, b2_s, sh_R h0 (a := 143) (k := 53) (b := 177) 12 (by decide) rfl (by decide), b1_s, l.2.1, b1_s]
      by_cases h2 : te ((zplan s).2 i) = zse s k
      · rw [if_pos (by rw [h2]), hR, b1_s, sh_R h0 (a := 143) (k := 54) (b := 178) 12 (by decide) rfl (by decide), b1_s, l.2.2, b1_s, r_there hx hi (by omega), b2_s]
        have e : thB s ((zplan s).2 i) (zsm s k) = thM s (zse s k) (ts ((zplan s).2 i)) (zsm s k) := by unfold thB thM; rw [h2]
        have ef : ftP s k i = thB s ((zplan s).2 i) (zsm s k) := by unfold ftP; rw [decide_eq_true h1, decide_eq_true h2, Bool.true_and, Bool.true_and, e]
        cases hb2 : thB s ((zplan s).2 i) (zsm s k) with
        | true => rw [if_neg (show ¬ bI true = 0 by decide), bn_s, bn_s, nI_1, ← fin true (ef.trans hb2), if_pos (show true = true from rfl)]
        | false => rw [if_pos (show bI false = 0 from rfl), bn_s, bn_s, nI_1, ← fin false (ef.trans hb2), if_neg (show ¬ false = true by decide)]
      · have ef : ftP s k i = false := by unfold ftP; rw [decide_eq_false h2, Bool.false_and, Bool.and_false]
        rw [if_neg (by rw [nI_eq (by omega) (by omega)]; exact h2), bn_s, bn_s, nI_1, ← fin false ef, if_neg (show ¬ false = true by decide)]
    · have ef : ftP s k i = false := by unfold ftP; rw [decide_eq_false h1, Bool.false_and]
      rw [if_neg (by rw [nI_eq (by omega) (by omega)]; exact h1), bn_s, bn_s, nI_1, ← fin false ef, if_neg (show ¬ false = true by decide)]) (fun f N hN => by
    subst hN
    refine ⟨N, ?_, rfl⟩
    show f_X12_fits_19 K (f + 1) _ _ _ _ _ = _
    rw [f_X12_fits_19, hR, b1_s, r_size hx, b1_s, if_pos (nI_le (Nat.le_refl _) (by omega)), bn_s, nI_1]
    rfl) 1024 0 M (by omega) (by omega) rfl
  subst e2
  have z : (x ||| (if anyB (ftP s k) 0 = true then (1 : Int32) <<< (nI k &&& 31) else 0)) = x := by show (x ||| (if false = true then _ else 0)) = x; rw [if_neg (by decide), Int32.or_zero]
  rw [z, nI_0] at e1
  exact e1
theorem R_fits {s : St} (hw : WF s) : OpR (fun M => f_X12_fits 143 M) s (a_fits s) (n_fits s) := by
  intro M h
  obtain ⟨N, et, ht, ft, rt, t0, l0⟩ := r_thr0 h
  have h0 := ht.1
  have hS := hw.1.2.2.2.2.2.1
  have hO := sh_O h0 (a := 143) 12 (by decide) rfl
  obtain ⟨M1, M2, e1, e2, c2, f2, r2⟩ := r_one' ht (Int32.toInt64 (orB (ftB s) (zS s)))
  refine ⟨M2, ?_, c2, ft.tr (wRoR_rW f2), r2.trans rt⟩
  show f_X12_fits 143 M = _
  unfold f_X12_fits f_X12_fits_0
  rw [if_pos (sh_O h.1 12 (by decide) rfl), et, b1_s]
  have this : f_X12_fits_9 1024 143 (orB (ftB s) 0) (nI 0) N = some (a_fits s, M2) := by
    refine lpv (fun f k => f_X12_fits_9 f 143 (orB (ftB s) k) (nI k) N) (zS s) _ (fun f k hk => Or.inl ?_) (fun f => ?_) 1024 0 (by omega) (by omega)
    · show f_X12_fits_9 (f + 1) _ _ _ _ = _
      rw [f_X12_fits_9, gI_k 51 hO, b1_s, ht.2.2.2.2.2.2.2.2.1, if_neg (nI_ge hk (by omega)), r_ft1 hw ht hk, orB_s]
    · show f_X12_fits_9 (f + 1) _ _ _ _ = _
      rw [f_X12_fits_9, gI_k 51 hO, b1_s, ht.2.2.2.2.2.2.2.2.1, if_pos (nI_le (Nat.le_refl _) (by omega)), e1, b1_s, e2, b1_s, e_bc, b2_s]
      rfl
  rw [nI_0] at this
  exact this
theorem case_40 : CaseOK g_L_40 := by
  intro L xs j K M hL hj hc
  obtain ⟨s, hw, hc, hr⟩ := hc
  obtain ⟨M1, M2, hcp, e1, e2⟩ := asm (C_fits hw) (R_fits hw) (W_fits hw) hc hr
  refine ⟨M2, hcp, ?_⟩
  unfold g_L_40
  simp only [show (nI j + 1 : Int32) = nI (j + 1) from nI_add _ 1, show (nI j + 2 : Int32) = nI (j + 2) from nI_add _ 2, show (nI j + 3 : Int32) = nI (j + 3) from nI_add _ 3, show (nI j + 4 : Int32) = nI (j + 4) from nI_add _ 4, scr_k (show j + 1 < L by omega) hL, scr_k (show j + 2 < L by omega) hL, scr_k (show j + 3 < L by omega) hL, scr_k (show j + 4 < L by omega) hL, b1_s, e1, e2, b2_s, if_true]

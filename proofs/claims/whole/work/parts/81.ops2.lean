/-! CALLS: slack, wish, seen, count, trip, errand, row -/
def nxS (s : St) (q : Pl) (i : Nat) : Nat → Nat
  | 0 => zT s
  | k + 1 => if tw (q.2 k) = tw (q.2 i) ∧ tback s (q.2 i) ≤ ts (q.2 k) then min (nxS s q i k) (ts (q.2 k)) else nxS s q i k
theorem nxS_s (s : St) (q : Pl) (i k : Nat) : nxS s q i (k + 1) = if tw (q.2 k) = tw (q.2 i) ∧ tback s (q.2 i) ≤ ts (q.2 k) then min (nxS s q i k) (ts (q.2 k)) else nxS s q i k := rfl
theorem nxS_b {s : St} {q : Pl} {i : Nat} (hT : zT s ≤ 99) (h : tback s (q.2 i) ≤ zT s) : ∀ k, tback s (q.2 i) ≤ nxS s q i k ∧ nxS s q i k ≤ 99
  | 0 => ⟨h, hT⟩
  | k + 1 => by
    have := nxS_b hT h k
    rw [nxS_s]
    split <;> omega
def slkS (s : St) (q : Pl) (i : Nat) : Nat := nxS s q i q.1 - tback s (q.2 i)
theorem why0 {s : St} {q : Pl} {i : Nat} (h : whyS s q i = 0) : tback s (q.2 i) ≤ zT s := by
  unfold whyS at h
  by_cases h1 : zT s < tback s (q.2 i)
  · rw [if_pos h1] at h; cases h
  · omega
theorem minI_n {a b : Nat} (ha : a < 2 ^ 31) (hb : b < 2 ^ 31) : minI (nI a) (nI b) = nI (min a b) := by
  unfold minI
  by_cases h : b < a
  · rw [if_pos (nI_lt h ha)]; congr 1; omega
  · rw [if_neg (nI_nlt (by omega) hb)]; congr 1; omega
theorem maxI_n {a b : Nat} (ha : a < 2 ^ 31) (hb : b < 2 ^ 31) : maxI (nI a) (nI b) = nI (max a b) := by
  unfold maxI
  by_cases h : a < b
  · rw [if_pos (nI_lt h hb)]; congr 1; omega
  · rw [if_neg (nI_nlt (by omega) ha)]; congr 1; omega
def slvS (s : St) (q : Pl) (i : Nat) : Int32 := if whyS s q i = 0 then nI (slkS s q i) else -1
theorem slk_b {s : St} (hn : WFn s) (q : Pl) (i : Nat) : slkS s q i ≤ 99 := by
  unfold slkS
  have hT := hn.2.2.2.1
  have : ∀ k, nxS s q i k ≤ 99 := by
    intro k
    induction k with
    | zero => exact hT
    | succ k ih => rw [nxS_s]; split <;> omega
  have := this q.1
  omega
theorem c_slack {s : St} {M : MM} {a L : Nat} {q : Pl} (h : CX s M a q) (hl : LX L a) {i : Nat} (hi : i < q.1) : f_X1_slackOf L (nI i) M = some (slvS s q i, M) := by
  have h0 := h.1
  have h12 := h.2.2.2.2.2.2.1
  have hP := h.2.2.1.1
  have hT := h.2.2.1.2.2.2.1
  have hw6 := whyS_lt s q i
  unfold f_X1_slackOf f_X1_slackOf_0 slvS
  rw [if_pos (lx_O h0 hl), c_why h hl hi, b2_s]
  by_cases hz : whyS s q i = 0
  · rw [if_pos (by rw [hz]; rfl), if_pos hz, c_back h hl hi, b2_s, lx_0 h0 hl, b1_s, gI_k 9 (sh_O h0 9 (by decide) rfl), b1_s, h.2.1.2.2.1]
    have hB := nxS_b (q := q) (i := i) hT (why0 hz)
    have hbi := tback_b h.2.2.2.1 (h.2.2.2.2.2.2.2 i hi)
    have this : f_X1_slackOf_27 1024 L (nI i) (nI (tback s (q.2 i))) (nI (nxS s q i 0)) (nI 0) M = some (nI (slkS s q i), M) := by
      refine lpv (fun f k => f_X1_slackOf_27 f L (nI i) (nI (tback s (q.2 i))) (nI (nxS s q i k)) (nI k) M) q.1 _ (fun f k hk => Or.inl ?_) (fun f => ?_) 1024 0 (by omega) (by omega)
      · show f_X1_slackOf_27 (f + 1) _ _ _ _ _ _ = _
        have hb := okT_b (h.2.2.2.2.2.2.2 i hi)
        have hc := okT_b (h.2.2.2.2.2.2.2 k hk)
        have hBk := hB k
        rw [f_X1_slackOf_27, lx_1 h0 hl, b1_s, c_size h, b1_s, if_neg (nI_ge hk (by omega))]
        unfold f_X1_slackOf_82 f_X1_slackOf_83 f_X1_slackOf_107
        rw [nxS_s]
        simp only [lx_1 h0 hl, b1_s, e_who h hi, e_who h hk, e_first h hk, b2_s, bn_s, nI_1, if_true, minI_n (show nxS s q i k < 2 ^ 31 by omega) (show ts (q.2 k) < 2 ^ 31 by omega)]
        by_cases hne : k = i
        · rw [if_pos (by rw [hne]), if_neg]
          intro q'
          rw [hne] at q'
          omega
        · rw [if_neg (by rw [nI_eq (by omega) (by omega)]; exact hne)]
          by_cases h1 : tw (q.2 k) = tw (q.2 i)
          · rw [if_pos (by rw [h1])]
            by_cases h2 : ts (q.2 k) < tback s (q.2 i)
            · rw [if_pos (nI_lt h2 (by omega)), if_neg (by omega)]
            · rw [if_neg (nI_nlt (by omega) (by omega)), if_neg (by decide), if_pos (by omega)]
          · rw [if_neg (by rw [nI_eq (by omega) (by omega)]; exact h1), if_neg (fun q => h1 q.1)]
      · show f_X1_slackOf_27 (f + 1) _ _ _ _ _ _ = _
        rw [f_X1_slackOf_27, lx_1 h0 hl, b1_s, c_size h, b1_s, if_pos (nI_le (Nat.le_refl _) (by omega)), pk_sub (hB q.1).1]
        rfl
    rw [nI_0] at this
    exact this
  · rw [if_neg (nI_ne0 (by omega) (by omega)), if_neg hz]
theorem r_slack {s : St} {M : MM} {q : Pl} (h : RX s M 153 q) {i : Nat} (hi : i < q.1) (hz : whyS s q i = 0) : f_X12_slackOf 143 (nI i) M = some (nI (slkS s q i), M) := by
  have h0 := h.1
  have h15 := h.2.2.2.2.2.2.1
  have hP := h.2.2.1.1
  have hT := h.2.2.1.2.2.2.1
  have hR := sh_R h0 (a := 143) (k := 15) (b := 153) 12 (by decide) rfl (by decide)
  have hB := nxS_b (q := q) (i := i) hT (why0 hz)
  have hbi := tback_b h.2.2.2.1 (h.2.2.2.2.2.2.2 i hi)
  unfold f_X12_slackOf f_X12_slackOf_0
  rw [if_pos (sh_O h0 12 (by decide) rfl), hR, b1_s, r_back h hi, b2_s, gI_k 6 (sh_O h0 12 (by decide) rfl), b1_s, h.2.1.2.2.1, bn_s, show nI (zT s) = nI (nxS s q i 0) from rfl, pk_sub (hB 0).1]
  have this : f_X12_slackOf_20 1024 143 (nI i) (nI (tback s (q.2 i))) (nI (nxS s q i 0 - tback s (q.2 i))) (nI 0) M = some (nI (slkS s q i), M) := by
    refine lpv (fun f k => f_X12_slackOf_20 f 143 (nI i) (nI (tback s (q.2 i))) (nI (nxS s q i k - tback s (q.2 i))) (nI k) M) q.1 _ (fun f k hk => Or.inl ?_) (fun f => ?_) 1024 0 (by omega) (by omega)
    · show f_X12_slackOf_20 (f + 1) _ _ _ _ _ _ = _
      have hb := okT_b (h.2.2.2.2.2.2.2 i hi)
      have hc := okT_b (h.2.2.2.2.2.2.2 k hk)
      have hBk := hB k
      rw [f_X12_slackOf_20, hR, b1_s, r_size h, b1_s, if_neg (nI_ge hk (by omega))]
      unfold f_X12_slackOf_81
      rw [nxS_s]
      simp only [hR, b1_s, r_who h hi, r_who h hk, r_start h hk, b2_s, bn_s, nI_1]
      by_cases h1 : tw (q.2 k) = tw (q.2 i)
      · rw [if_pos (by rw [h1])]
        by_cases h2 : ts (q.2 k) < tback s (q.2 i)
        · rw [if_pos (nI_lt h2 (by omega)), if_neg (by omega)]
        · rw [if_neg (nI_nlt (by omega) (by omega)), if_pos (by omega), pk_sub (by omega), minI_n (by omega) (by omega)]
          congr 2
          omega
      · rw [if_neg (by rw [nI_eq (by omega) (by omega)]; exact h1), if_neg (fun q => h1 q.1)]
    · show f_X12_slackOf_20 (f + 1) _ _ _ _ _ _ = _
      rw [f_X12_slackOf_20, hR, b1_s, r_size h, b1_s, if_pos (nI_le (Nat.le_refl _) (by omega))]
      rfl
  rw [nI_0] at this
  exact this
theorem r_law {s : St} {M : MM} {q : Pl} (h : RX s M 153 q) {i : Nat} (hi : i < q.1) : f_X12_isLawful 143 (nI i) M = some (bI (decide (whyS s q i = 0)), M) := by
  have h0 := h.1
  have hw6 := whyS_lt s q i
  unfold f_X12_isLawful f_X12_isLawful_0
  rw [if_pos (sh_O h0 12 (by decide) rfl), sh_R h0 (a := 143) (k := 15) (b := 153) 12 (by decide) rfl (by decide), b1_s, r_why h hi, b2_s]
  by_cases hz : whyS s q i = 0
  · rw [if_pos (by rw [hz]; rfl), decide_eq_true hz, rz1, bI_t]
  · rw [if_neg (nI_ne0 (by omega) (by omega)), decide_eq_false hz, rz0, bI_f]
def a_slack (s : St) (x : Int32) : Int32 := if ixP x (zplan s).1 = true then slvS s (zplan s) x.toNatClampNeg else -1
def n_slack (s : St) (x : Int32) : St := s
theorem W_slack {s : St} (hw : WF s) (x : Int32) : WF (n_slack s x) := hw
theorem C_slack {s : St} (hw : WF s) (x : Int32) : OpC (fun M => f_X11_slack 0 x M) s (a_slack s x) (n_slack s x) := by
  intro M h
  have h0 := h.1
  have hx := h.cx hw
  have h12 := hx.2.2.2.2.2.2.1
  refine ⟨M, ?_, h, Fr.rf M⟩
  show f_X11_slack 0 x M = _
  unfold f_X11_slack f_X11_slack_0 a_slack
  rw [if_pos (sh_O h0 11 (by decide) rfl), sh_R h0 (a := 0) (k := 3) (b := 14) 11 (by decide) rfl (by decide), b1_s, e_has hx, b2_s]
  by_cases hv : ixP x (zplan s).1 = true
  · obtain ⟨j, hj, rfl⟩ := ix_ex (by omega) hv
    simp only [hv, if_true]
    rw [if_neg (by decide), sh_R h0 (a := 0) (k := 5) (b := 18) 11 (by decide) rfl (by decide), b1_s, c_slack hx (Or.inl ⟨rfl, rfl⟩) hj, b2_s, nI_clamp (by omega)]
  · simp only [hv, if_false, if_true]
    simp
theorem R_slack {s : St} (hw : WF s) (x : Int32) : OpR (fun M => f_X12_slack 143 x M) s (a_slack s x) (n_slack s x) := by
  intro M h
  obtain ⟨et, ht, ft, rt⟩ := r_thr h 0
  have h0 := ht.1
  have hx := ht.rx hw
  have h15 := hx.2.2.2.2.2.2.1
  refine ⟨sI M 143 0 0, ?_, ht, ft, rt⟩
  show f_X12_slack 143 x M = _
  unfold f_X12_slack f_X12_slack_0 a_slack slvS
  rw [if_pos (sh_O h.1 12 (by decide) rfl), et, b1_s, e_isT hw ht, b2_s]
  by_cases hv : ixP x (zplan s).1 = true
  · obtain ⟨j, hj, rfl⟩ := ix_ex (by omega) hv
    simp only [hv, if_true]
    rw [if_neg (by decide), r_law hx hj, b2_s, nI_clamp (by omega)]
    by_cases hz : whyS s (zplan s) j = 0
    · rw [decide_eq_true hz, if_neg (by decide), if_pos hz, r_slack hx hj hz, b2_s]
    · rw [decide_eq_false hz, if_pos (by decide), if_neg hz]
  · simp only [hv, if_false, if_true]
    simp
theorem case_35 : CaseOK g_L_35 := by
  intro L xs j K M hL hj hc
  obtain ⟨s, hw, hc, hr⟩ := hc
  obtain ⟨M1, M2, hcp, e1, e2⟩ := asm (C_slack hw (xs (j + 1))) (R_slack hw (xs (j + 1))) (W_slack hw (xs (j + 1))) hc hr
  refine ⟨M2, hcp, ?_⟩
  unfold g_L_35
  simp only [show (nI j + 1 : Int32) = nI (j + 1) from nI_add _ 1, show (nI j + 2 : Int32) = nI (j + 2) from nI_add _ 2, show (nI j + 3 : Int32) = nI (j + 3) from nI_add _ 3, show (nI j + 4 : Int32) = nI (j + 4) from nI_add _ 4, scr_k (show j + 1 < L by omega) hL, scr_k (show j + 2 < L by omega) hL, scr_k (show j + 3 < L by omega) hL, scr_k (show j + 4 < L by omega) hL, b1_s, e1, e2, b2_s, if_true]
/-! wish -/
def a_wish (s : St) (x y v : Int32) : Int32 := if ixP x (zP s) = true ∧ ixP y (zE s) = true ∧ ixP v 10 = true then nI (zwis s (8 * x.toNatClampNeg + y.toNatClampNeg)) else -1
def n_wish (s : St) (x y v : Int32) : St := if ixP x (zP s) = true ∧ ixP y (zE s) = true ∧ ixP v 10 = true then zset s 8 (8 * x.toNatClampNeg + y.toNatClampNeg) v.toNatClampNeg else s
theorem ix9 {v : Int32} : (¬ v < 0 ∧ v ≤ 9) ↔ ixP v 10 = true := by
  rw [ix_t, fa_lt, fa_lt, fa_le, nI_toInt (by decide), show (9 : Int32).toInt = 9 from by decide, show (0 : Int32).toInt = 0 from by decide]
  omega
theorem W_wish {s : St} (hw : WF s) (x y v : Int32) : WF (n_wish s x y v) := by
  unfold n_wish
  split
  · rename_i hc
    obtain ⟨hn, ⟨b1, b2, b3⟩, c, d, e⟩ := hw
    obtain ⟨p, hp, rfl⟩ := ix_ex (by have := hn.1; omega) hc.1
    obtain ⟨e', he, rfl⟩ := ix_ex (by have := hn.2.1; omega) hc.2.1
    obtain ⟨v', hv, rfl⟩ := ix_ex (by decide) hc.2.2
    refine ⟨hn, ⟨b1, b2, fun p2 e2 hp2 he2 => ?_⟩, c, d, e⟩
    show (if 8 = 8 ∧ 8 * p2 + e2 = 8 * (nI p).toNatClampNeg + (nI e').toNatClampNeg then (nI v').toNatClampNeg else zwis s (8 * p2 + e2)) ≤ 9
    split
    · rw [nI_clamp (by omega)]; omega
    · exact b3 p2 e2 hp2 he2
  · exact hw
theorem C_wish {s : St} (hw : WF s) (x y v : Int32) : OpC (fun M => f_X11_wish 0 x y v M) s (a_wish s x y v) (n_wish s x y v) := by
  intro M h
  have h0 := h.1
  have hP := hw.1.1
  have hE := hw.1.2.1
  show ∃ M', f_X11_wish 0 x y v M = _ ∧ _
  unfold f_X11_wish f_X11_wish_0 a_wish n_wish
  simp only [gI, pI, gL, pL, b1_s, b2_s, bn_s, rz0, rz1, isO_sI, isO_sL, isO_cI, gR_sI, gR_sL, gR_cI, ldR_sI, ldR_sL, mI_w, mL_w, mI_sL, mL_sI, mI_cI, mR_sI, mR_sL, mR_cI, mL_cI, if_true, if_false, true_and, and_true, false_and, and_false, and_self, eq_self, not_true_eq_false, not_false_eq_true, Nat.reduceEqDiff, reduceCtorEq, Nat.succ_ne_self, Nat.reduceAdd, Nat.reduceMul, cCO h0, cCR h0, e_hasP hw h, e_hasE hw h]
  by_cases hc : ixP x (zP s) = true ∧ ixP y (zE s) = true ∧ ixP v 10 = true
  · rw [if_pos hc, if_pos hc]
    simp only [hc.1, hc.2.1, if_true]
    rw [if_neg (by decide), if_neg (by decide), if_neg (ix9.mpr hc.2.2).1, if_pos (ix9.mpr hc.2.2).2]
    obtain ⟨p, hp, rfl⟩ := ix_ex (by omega) hc.1
    obtain ⟨e, he, rfl⟩ := ix_ex (by omega) hc.2.1
    obtain ⟨v', hv, rfl⟩ := ix_ex (by decide) hc.2.2
    rw [e_getW h0 h.2.2.2.1 hw.1 hp he, b2_s]
    have f := frOne M 13 (8 * p + e) (nI v')
    obtain ⟨b1', b2', b3, b4, b5, b6, b7⟩ := h.2.2.2.1
    refine ⟨sI M 13 (8 * p + e) (nI v'), ?_, ⟨h0, (h.2.1.fr f (fun a k q => by first | omega | (unfold wText; omega))), (h.2.2.1.fr f (fun a k q => by first | omega | (unfold wText; omega))), ⟨?_, ?_, ?_, fun p hp => ?_, fun e he => ?_, fun p2 e2 hp2 he2 => ?_, fun p2 e2 hp2 hq2 he2 => ?_⟩, (h.2.2.2.2.1.frw f (fun a k q => by first | omega | (unfold wText; omega))), (h.2.2.2.2.2.1.fr f (fun a k q => by first | omega | (unfold wText; omega))), (h.2.2.2.2.2.2.1.fr f (fun a k q => by first | omega | (unfold wText; omega))), (h.2.2.2.2.2.2.2.1.fr f (fun a k q => by first | omega | (unfold wText; omega))), (h.2.2.2.2.2.2.2.2.fr f (fun a k q => by first | omega | (unfold wText; omega)))⟩, f.mono (fun a k q => by unfold cW; omega)⟩
    · unfold f_X9_setWish f_X9_setWish_0
      simp only [gI, pI, gL, pL, b1_s, b2_s, bn_s, rz0, rz1, isO_sI, isO_sL, isO_cI, gR_sI, gR_sL, gR_cI, ldR_sI, ldR_sL, mI_w, mL_w, mI_sL, mL_sI, mI_cI, mR_sI, mR_sL, mR_cI, mL_cI, if_true, if_false, true_and, and_true, false_and, and_false, and_self, eq_self, not_true_eq_false, not_false_eq_true, Nat.reduceEqDiff, reduceCtorEq, Nat.succ_ne_self, Nat.reduceAdd, Nat.reduceMul, cCO h0, cCR h0, e_hasP hw h, e_hasE hw h, hc.1, hc.2.1]
      rw [if_neg (by decide), if_neg (by decide), nm8, nI_add, st_13 h0 _ (by omega), b1_s, b1_s, nI_clamp (by omega), nI_clamp (by omega)]
    · simp only [gI, pI, gL, pL, b1_s, b2_s, bn_s, rz0, rz1, isO_sI, isO_sL, isO_cI, gR_sI, gR_sL, gR_cI, ldR_sI, ldR_sL, mI_w, mL_w, mI_sL, mL_sI, mI_cI, mR_sI, mR_sL, mR_cI, mL_cI, if_true, if_false, true_and, and_true, false_and, and_false, and_self, eq_self, not_true_eq_false, not_false_eq_true, Nat.reduceEqDiff, reduceCtorEq, Nat.succ_ne_self, Nat.reduceAdd, Nat.reduceMul]; exact b1'
    · simp only [gI, pI, gL, pL, b1_s, b2_s, bn_s, rz0, rz1, isO_sI, isO_sL, isO_cI, gR_sI, gR_sL, gR_cI, ldR_sI, ldR_sL, mI_w, mL_w, mI_sL, mL_sI, mI_cI, mR_sI, mR_sL, mR_cI, mL_cI, if_true, if_false, true_and, and_true, false_and, and_false, and_self, eq_self, not_true_eq_false, not_false_eq_true, Nat.reduceEqDiff, reduceCtorEq, Nat.succ_ne_self, Nat.reduceAdd, Nat.reduceMul]; exact b2'
    · simp only [gI, pI, gL, pL, b1_s, b2_s, bn_s, rz0, rz1, isO_sI, isO_sL, isO_cI, gR_sI, gR_sL, gR_cI, ldR_sI, ldR_sL, mI_w, mL_w, mI_sL, mL_sI, mI_cI, mR_sI, mR_sL, mR_cI, mL_cI, if_true, if_false, true_and, and_true, false_and, and_false, and_self, eq_self, not_true_eq_false, not_false_eq_true, Nat.reduceEqDiff, reduceCtorEq, Nat.succ_ne_self, Nat.reduceAdd, Nat.reduceMul]; exact b3
    · simp only [gI, pI, gL, pL, b1_s, b2_s, bn_s, rz0, rz1, isO_sI, isO_sL, isO_cI, gR_sI, gR_sL, gR_cI, ldR_sI, ldR_sL, mI_w, mL_w, mI_sL, mL_sI, mI_cI, mR_sI, mR_sL, mR_cI, mL_cI, if_true, if_false, true_and, and_true, false_and, and_false, and_self, eq_self, not_true_eq_false, not_false_eq_true, Nat.reduceEqDiff, reduceCtorEq, Nat.succ_ne_self, Nat.reduceAdd, Nat.reduceMul]; exact b4 _ (by assumption)
    · simp only [gI, pI, gL, pL, b1_s, b2_s, bn_s, rz0, rz1, isO_sI, isO_sL, isO_cI, gR_sI, gR_sL, gR_cI, ldR_sI, ldR_sL, mI_w, mL_w, mI_sL, mL_sI, mI_cI, mR_sI, mR_sL, mR_cI, mL_cI, if_true, if_false, true_and, and_true, false_and, and_false, and_self, eq_self, not_true_eq_false, not_false_eq_true, Nat.reduceEqDiff, reduceCtorEq, Nat.succ_ne_self, Nat.reduceAdd, Nat.reduceMul]; exact b5 _ (by assumption)
    · show (if 13 = 13 ∧ 8 * p2 + e2 = 8 * p + e then nI v' else mI M 13 (8 * p2 + e2)) = nI (if 8 = 8 ∧ 8 * p2 + e2 = 8 * (nI p).toNatClampNeg + (nI e).toNatClampNeg then (nI v').toNatClampNeg else zwis s (8 * p2 + e2))
      rw [nI_clamp (by omega), nI_clamp (by omega), nI_clamp (by omega)]
      by_cases hq : 8 * p2 + e2 = 8 * p + e
      · rw [if_pos ⟨rfl, hq⟩, if_pos ⟨rfl, hq⟩]
      · rw [if_neg (fun q => hq q.2), if_neg (fun q => hq q.2)]; exact b6 p2 e2 hp2 he2
    · rw [mI_w, if_neg (fun q => by have hp2' : zP s ≤ p2 := hp2; omega)]; exact b7 p2 e2 hp2 hq2 he2
  · rw [if_neg hc, if_neg hc]
    refine ⟨M, ?_, h, Fr.rf M⟩
    by_cases h1 : ixP x (zP s) = true
    · simp only [h1, if_true]
      rw [if_neg (by decide)]
      by_cases h2 : ixP y (zE s) = true
      · simp only [h2, if_true]
        rw [if_neg (by decide)]
        by_cases h3 : v < 0
        · rw [if_pos h3]
        · rw [if_neg h3, if_neg (fun q => hc ⟨h1, h2, ix9.mp ⟨h3, q⟩⟩)]
      · simp [h2]
    · simp [h1]
theorem R_wish {s : St} (hw : WF s) (x y v : Int32) : OpR (fun M => f_X12_wish 143 x y v M) s (a_wish s x y v) (n_wish s x y v) := by
  intro M h
  obtain ⟨et, ht, ft, rt⟩ := r_thr h 0
  have h0 := ht.1
  have hP := hw.1.1
  have hE := hw.1.2.1
  show ∃ M', f_X12_wish 143 x y v M = _ ∧ _
  unfold f_X12_wish f_X12_wish_0 a_wish n_wish
  rw [if_pos (sh_O h.1 12 (by decide) rfl), et, b1_s, e_isP hw ht, b2_s]
  simp only [e_isE hw ht, e_in9, b2_s]
  by_cases hc : ixP x (zP s) = true ∧ ixP y (zE s) = true ∧ ixP v 10 = true
  · rw [if_pos hc, if_pos hc]
    simp only [hc.1, hc.2.1, hc.2.2, if_true]
    rw [if_neg (by decide), if_neg (by decide), if_neg (by decide)]
    obtain ⟨p, hp, rfl⟩ := ix_ex (by omega) hc.1
    obtain ⟨e, he, rfl⟩ := ix_ex (by omega) hc.2.1
    obtain ⟨v', hv, rfl⟩ := ix_ex (by decide) hc.2.2
    obtain ⟨b1', b2', b3, b4, b5, b6⟩ := ht.2.2.2.1
    have hR := sh_R h0 (a := 143) (k := 8) (b := 146) 12 (by decide) rfl (by decide)
    have f : Fr (fun a k => a = 146 ∨ a = 143 ∧ k = 0) M (sI (sI M 143 0 0) 146 (8 * p + e) (nI v')) := ((Fr.rf M).sI (Or.inr ⟨rfl, rfl⟩)).sI (Or.inl rfl)
    refine ⟨sI (sI M 143 0 0) 146 (8 * p + e) (nI v'), ?_, ⟨h0, (h.2.1.fr f (fun a k q => by first | omega | (unfold wText; omega))), (h.2.2.1.fr f (fun a k q => by first | omega | (unfold wText; omega))), ⟨?_, ?_, ?_, fun p hp => ?_, fun e he => ?_, fun p2 e2 hp2 he2 => ?_⟩, (h.2.2.2.2.1.frw f (fun a k q => by first | omega | (unfold wText; omega))), (h.2.2.2.2.2.1.fr f (fun a k q => by first | omega | (unfold wText; omega))), (h.2.2.2.2.2.2.1.fr f (fun a k q => by first | omega | (unfold wText; omega))), (h.2.2.2.2.2.2.2.1.fr f (fun a k q => by first | omega | (unfold wText; omega))), (h.2.2.2.2.2.2.2.2.fr f (fun a k q => by first | omega | (unfold wText; omega)))⟩, f.mono (fun a k q => by unfold rW; omega), rfl⟩
    · rw [hR, b1_s, n8m, nI_add, ld_146 h0 (by omega), b1_s, b6 p e hp (by omega), b1_s, st_146 h0 _ (by omega), b1_s, nI_clamp (by omega), nI_clamp (by omega)]
    · rw [mI_w, if_neg (by omega)]; exact b1'
    · rw [mI_w, if_neg (by omega)]; exact b2'
    · rw [mI_w, if_neg (by omega)]; exact b3
    · rw [mI_w, if_neg (by omega)]; exact b4 _ (by assumption)
    · rw [mI_w, if_neg (by omega), mI_w, if_neg (by omega), mI_w, if_neg (by omega), mI_w, if_neg (by omega), mI_w, if_neg (by omega), mI_w, if_neg (by omega)]; exact b5 _ (by assumption)
    · show (if 146 = 146 ∧ 8 * p2 + e2 = 8 * p + e then nI v' else mI (sI M 143 0 0) 146 (8 * p2 + e2)) = nI (if 8 = 8 ∧ 8 * p2 + e2 = 8 * (nI p).toNatClampNeg + (nI e).toNatClampNeg then (nI v').toNatClampNeg else zwis s (8 * p2 + e2))
      rw [nI_clamp (by omega), nI_clamp (by omega), nI_clamp (by omega)]
      by_cases hq : 8 * p2 + e2 = 8 * p + e
      · rw [if_pos ⟨rfl, hq⟩, if_pos ⟨rfl, hq⟩]
      · rw [if_neg (fun q => hq q.2), if_neg (fun q => hq q.2)]; exact b6 p2 e2 hp2 he2
  · rw [if_neg hc, if_neg hc]
    refine ⟨sI M 143 0 0, ?_, ht, ft, rt⟩
    by_cases h1 : ixP x (zP s) = true
    · simp only [h1, if_true]
      rw [if_neg (by decide)]
      by_cases h2 : ixP y (zE s) = true
      · simp only [h2, if_true]
        rw [if_neg (by decide)]
        have h3 : ¬ ixP v 10 = true := fun q => hc ⟨h1, h2, q⟩
        simp [h3]
      · simp [h2]
    · simp [h1]
theorem case_9 : CaseOK g_L_9 := by
  intro L xs j K M hL hj hc
  obtain ⟨s, hw, hc, hr⟩ := hc
  obtain ⟨M1, M2, hcp, e1, e2⟩ := asm (C_wish hw (xs (j + 1)) (xs (j + 2)) (xs (j + 3))) (R_wish hw (xs (j + 1)) (xs (j + 2)) (xs (j + 3))) (W_wish hw (xs (j + 1)) (xs (j + 2)) (xs (j + 3))) hc hr
  refine ⟨M2, hcp, ?_⟩
  unfold g_L_9
  simp only [show (nI j + 1 : Int32) = nI (j + 1) from nI_add _ 1, show (nI j + 2 : Int32) = nI (j + 2) from nI_add _ 2, show (nI j + 3 : Int32) = nI (j + 3) from nI_add _ 3, show (nI j + 4 : Int32) = nI (j + 4) from nI_add _ 4, scr_k (show j + 1 < L by omega) hL, scr_k (show j + 2 < L by omega) hL, scr_k (show j + 3 < L by omega) hL, scr_k (show j + 4 < L by omega) hL, b1_s, e1, e2, b2_s, if_true]
/-! seen -/
def a_seen (s : St) (x y m : Int32) : Int32 := if (ixP x (zP s) = true ∧ ixP y (zE s) = true ∧ ixP m 100 = true) ∧ zS s < 12 then nI (zS s + 1) else -1
def n_seen (s : St) (x y m : Int32) : St := if (ixP x (zP s) = true ∧ ixP y (zE s) = true ∧ ixP m 100 = true) ∧ zS s < 12 then zset (zset (zset (zset s 10 (zS s) x.toNatClampNeg) 11 (zS s) y.toNatClampNeg) 12 (zS s) m.toNatClampNeg) 0 4 (zS s + 1) else s
theorem sn_S (s : St) (k x y m : Nat) : zS (zset (zset (zset (zset s 10 k x) 11 k y) 12 k m) 0 4 (k + 1)) = k + 1 := rfl
theorem sn_w (s : St) (k x y m j : Nat) : zsw (zset (zset (zset (zset s 10 k x) 11 k y) 12 k m) 0 4 (k + 1)) j = if j = k then x else zsw s j := by
  show (if 10 = 10 ∧ j = k then x else zsw s j) = _
  simp
theorem sn_e (s : St) (k x y m j : Nat) : zse (zset (zset (zset (zset s 10 k x) 11 k y) 12 k m) 0 4 (k + 1)) j = if j = k then y else zse s j := by
  show (if 11 = 11 ∧ j = k then y else zse s j) = _
  simp
theorem sn_m (s : St) (k x y m j : Nat) : zsm (zset (zset (zset (zset s 10 k x) 11 k y) 12 k m) 0 4 (k + 1)) j = if j = k then m else zsm s j := by
  show (if 12 = 12 ∧ j = k then m else zsm s j) = _
  simp
theorem W_seen {s : St} (hw : WF s) (x y m : Int32) : WF (n_seen s x y m) := by
  unfold n_seen
  split
  · rename_i hc
    obtain ⟨⟨a1, a2, a3, a4, a5, a6, a7, a8⟩, b, c, d, e⟩ := hw
    obtain ⟨p, hp, rfl⟩ := ix_ex (by omega) hc.1.1
    obtain ⟨e', he, rfl⟩ := ix_ex (by omega) hc.1.2.1
    obtain ⟨m', hm, rfl⟩ := ix_ex (by decide) hc.1.2.2
    refine ⟨⟨a1, a2, a3, a4, a5, by rw [sn_S]; omega, a7, a8⟩, b, c, fun k hk => ?_, e⟩
    rw [sn_S] at hk
    rw [sn_w, sn_e, sn_m, nI_clamp (by omega), nI_clamp (by omega), nI_clamp (by omega)]
    by_cases hkk : k = zS s
    · rw [if_pos hkk, if_pos hkk, if_pos hkk]; exact ⟨hp, he, hm⟩
    · rw [if_neg hkk, if_neg hkk, if_neg hkk]; exact d k (by omega)
  · exact hw
theorem C_seen {s : St} (hw : WF s) (x y m : Int32) : OpC (fun M => f_X11_seen 0 x y m M) s (a_seen s x y m) (n_seen s x y m) := by
  intro M h
  have h0 := h.1
  have hS := h.2.2.2.2.2.2.2.2
  have hb := hw.1.2.2.2.2.2.1
  show ∃ M', f_X11_seen 0 x y m M = _ ∧ _
  unfold f_X11_seen f_X11_seen_0 f_X8_add f_X8_add_0
  simp only [gI, pI, gL, pL, b1_s, b2_s, bn_s, rz0, rz1, isO_sI, isO_sL, isO_cI, gR_sI, gR_sL, gR_cI, ldR_sI, ldR_sL, mI_w, mL_w, mI_sL, mL_sI, mI_cI, mR_sI, mR_sL, mR_cI, mL_cI, if_true, if_false, true_and, and_true, false_and, and_false, and_self, eq_self, not_true_eq_false, not_false_eq_true, Nat.reduceEqDiff, reduceCtorEq, Nat.succ_ne_self, Nat.reduceAdd, Nat.reduceMul, cCO h0, cCR h0, e_canC hw h, hS.1]
  by_cases hc : ixP x (zP s) = true ∧ ixP y (zE s) = true ∧ ixP m 100 = true
  · rw [if_pos hc, if_neg (by decide)]
    by_cases h12 : zS s < 12
    · rw [show a_seen s x y m = nI (zS s + 1) from if_pos ⟨hc, h12⟩, show n_seen s x y m = zset (zset (zset (zset s 10 (zS s) x.toNatClampNeg) 11 (zS s) y.toNatClampNeg) 12 (zS s) m.toNatClampNeg) 0 4 (zS s + 1) from if_pos ⟨hc, h12⟩, if_pos (show nI (zS s) < 12 from nI_lt h12 (by decide))]
      obtain ⟨p, hp, rfl⟩ := ix_ex (by have := hw.1.1; omega) hc.1
      obtain ⟨e', he, rfl⟩ := ix_ex (by have := hw.1.2.1; omega) hc.2.1
      obtain ⟨m', hm, rfl⟩ := ix_ex (by decide) hc.2.2
      rw [nI_clamp (by have := hw.1.1; omega), nI_clamp (by have := hw.1.2.1; omega), nI_clamp (by omega)]
      have f : Fr (fun a k => (134 ≤ a ∧ a ≤ 136) ∨ (a = 133 ∧ k = 4)) M (sI (sI (sI (sI M 134 (zS s) (nI p)) 135 (zS s) (nI e')) 136 (zS s) (nI m')) 133 4 (nI (zS s + 1))) := ((((Fr.rf M).sI (by omega)).sI (by omega)).sI (by omega)).sI (by omega)
      refine ⟨sI (sI (sI (sI M 134 (zS s) (nI p)) 135 (zS s) (nI e')) 136 (zS s) (nI m')) 133 4 (nI (zS s + 1)), ?_, ⟨h0, (h.2.1.fr f (fun a k q => by first | omega | (unfold wText; omega))), (h.2.2.1.fr f (fun a k q => by first | omega | (unfold wText; omega))), (h.2.2.2.1.fr f (fun a k q => by first | omega | (unfold wText; omega))), (h.2.2.2.2.1.frw f (fun a k q => by first | omega | (unfold wText; omega))), (h.2.2.2.2.2.1.fr f (fun a k q => by first | omega | (unfold wText; omega))), (h.2.2.2.2.2.2.1.fr f (fun a k q => by first | omega | (unfold wText; omega))), (h.2.2.2.2.2.2.2.1.fr f (fun a k q => by first | omega | (unfold wText; omega))), ⟨?_, fun k hk => ?_⟩⟩, f.mono (fun a k q => by unfold cW; omega)⟩
      · simp (disch := first | omega | (simp only [Sh_sI, Sh_sL, Sh_cI]; assumption)) only [gI, pI, gL, pL, b1_s, b2_s, bn_s, rz0, rz1, isO_sI, isO_sL, isO_cI, gR_sI, gR_sL, gR_cI, ldR_sI, ldR_sL, mI_w, mL_w, mI_sL, mL_sI, mI_cI, mR_sI, mR_sL, mR_cI, mL_cI, if_true, if_false, true_and, and_true, false_and, and_false, and_self, eq_self, not_true_eq_false, not_false_eq_true, Nat.reduceEqDiff, reduceCtorEq, Nat.succ_ne_self, Nat.reduceAdd, Nat.reduceMul, cCO h0, cCR h0, st_134, st_135, st_136, hS.1, nI_1]
        rw [if_neg (by decide)]
      · rw [sn_S]; simp only [gI, pI, gL, pL, b1_s, b2_s, bn_s, rz0, rz1, isO_sI, isO_sL, isO_cI, gR_sI, gR_sL, gR_cI, ldR_sI, ldR_sL, mI_w, mL_w, mI_sL, mL_sI, mI_cI, mR_sI, mR_sL, mR_cI, mL_cI, if_true, if_false, true_and, and_true, false_and, and_false, and_self, eq_self, not_true_eq_false, not_false_eq_true, Nat.reduceEqDiff, reduceCtorEq, Nat.succ_ne_self, Nat.reduceAdd, Nat.reduceMul]
      · rw [sn_S] at hk
        rw [sn_w, sn_e, sn_m]
        simp only [gI, pI, gL, pL, b1_s, b2_s, bn_s, rz0, rz1, isO_sI, isO_sL, isO_cI, gR_sI, gR_sL, gR_cI, ldR_sI, ldR_sL, mI_w, mL_w, mI_sL, mL_sI, mI_cI, mR_sI, mR_sL, mR_cI, mL_cI, if_true, if_false, true_and, and_true, false_and, and_false, and_self, eq_self, not_true_eq_false, not_false_eq_true, Nat.reduceEqDiff, reduceCtorEq, Nat.succ_ne_self, Nat.reduceAdd, Nat.reduceMul]
        by_cases hkk : k = zS s
        · simp [hkk]
        · simp only [hkk, if_false]; exact hS.2 k (by omega)
    · rw [show a_seen s x y m = -1 from if_neg (fun q => h12 q.2), show n_seen s x y m = s from if_neg (fun q => h12 q.2), if_neg (show ¬ nI (zS s) < 12 from nI_nlt (b := 12) (by omega) (by omega))]
      exact ⟨M, rfl, h, Fr.rf M⟩
  · rw [show a_seen s x y m = -1 from if_neg (fun q => hc q.1), show n_seen s x y m = s from if_neg (fun q => hc q.1), if_neg hc, if_pos rfl]
    exact ⟨M, rfl, h, Fr.rf M⟩
theorem R_seen {s : St} (hw : WF s) (x y m : Int32) : OpR (fun M => f_X12_seen 143 x y m M) s (a_seen s x y m) (n_seen s x y m) := by
  intro M h
  obtain ⟨et, ht, ft, rt⟩ := r_thr h 0
  have h0 := ht.1
  have hS := ht.2.2.2.2.2.2.2.2
  have hb := hw.1.2.2.2.2.2.1
  show ∃ M', f_X12_seen 143 x y m M = _ ∧ _
  unfold f_X12_seen f_X12_seen_0
  rw [if_pos (sh_O h.1 12 (by decide) rfl), et, b1_s, e_canR hw ht, b2_s]
  generalize hN : sI M 143 0 0 = N at *
  by_cases hc : ixP x (zP s) = true ∧ ixP y (zE s) = true ∧ ixP m 100 = true
  · rw [if_pos hc, if_neg (by decide), gI_k 51 (sh_O h0 12 (by decide) rfl), b1_s, hS.1]
    by_cases h12 : zS s < 12
    · rw [show a_seen s x y m = nI (zS s + 1) from if_pos ⟨hc, h12⟩, show n_seen s x y m = zset (zset (zset (zset s 10 (zS s) x.toNatClampNeg) 11 (zS s) y.toNatClampNeg) 12 (zS s) m.toNatClampNeg) 0 4 (zS s + 1) from if_pos ⟨hc, h12⟩, if_neg (show ¬ nI (zS s) = 12 by rw [show (12 : Int32) = nI 12 from rfl]; rw [nI_eq (by omega) (by omega)]; omega)]
      obtain ⟨p, hp, rfl⟩ := ix_ex (by have := hw.1.1; omega) hc.1
      obtain ⟨e', he, rfl⟩ := ix_ex (by have := hw.1.2.1; omega) hc.2.1
      obtain ⟨m', hm, rfl⟩ := ix_ex (by decide) hc.2.2
      rw [nI_clamp (by have := hw.1.1; omega), nI_clamp (by have := hw.1.2.1; omega), nI_clamp (by omega)]
      have f : Fr (fun a k => (176 ≤ a ∧ a ≤ 178) ∨ (a = 143 ∧ k = 51)) N (sI (sI (sI (sI N 176 (zS s) (nI p)) 177 (zS s) (nI e')) 178 (zS s) (nI m')) 143 51 (nI (zS s + 1))) := ((((Fr.rf N).sI (by omega)).sI (by omega)).sI (by omega)).sI (by omega)
      have h := ht
      refine ⟨sI (sI (sI (sI N 176 (zS s) (nI p)) 177 (zS s) (nI e')) 178 (zS s) (nI m')) 143 51 (nI (zS s + 1)), ?_, ⟨h0, (h.2.1.fr f (fun a k q => by first | omega | (unfold wText; omega))), (h.2.2.1.fr f (fun a k q => by first | omega | (unfold wText; omega))), (h.2.2.2.1.fr f (fun a k q => by first | omega | (unfold wText; omega))), (h.2.2.2.2.1.frw f (fun a k q => by first | omega | (unfold wText; omega))), (h.2.2.2.2.2.1.fr f (fun a k q => by first | omega | (unfold wText; omega))), (h.2.2.2.2.2.2.1.fr f (fun a k q => by first | omega | (unfold wText; omega))), (h.2.2.2.2.2.2.2.1.fr f (fun a k q => by first | omega | (unfold wText; omega))), ⟨?_, fun k hk => ?_⟩⟩, ft.tr (f.mono (fun a k q => by unfold rW; omega)), rt⟩
      · simp (disch := first | omega | (simp only [Sh_sI, Sh_sL, Sh_cI]; assumption)) only [gI, pI, gL, pL, b1_s, b2_s, bn_s, rz0, rz1, isO_sI, isO_sL, isO_cI, gR_sI, gR_sL, gR_cI, ldR_sI, ldR_sL, mI_w, mL_w, mI_sL, mL_sI, mI_cI, mR_sI, mR_sL, mR_cI, mL_cI, if_true, if_false, true_and, and_true, false_and, and_false, and_self, eq_self, not_true_eq_false, not_false_eq_true, Nat.reduceEqDiff, reduceCtorEq, Nat.succ_ne_self, Nat.reduceAdd, Nat.reduceMul, cRO h0, cRR h0, st_176, st_177, st_178, hS.1, nI_1]
      · rw [sn_S]; simp only [gI, pI, gL, pL, b1_s, b2_s, bn_s, rz0, rz1, isO_sI, isO_sL, isO_cI, gR_sI, gR_sL, gR_cI, ldR_sI, ldR_sL, mI_w, mL_w, mI_sL, mL_sI, mI_cI, mR_sI, mR_sL, mR_cI, mL_cI, if_true, if_false, true_and, and_true, false_and, and_false, and_self, eq_self, not_true_eq_false, not_false_eq_true, Nat.reduceEqDiff, reduceCtorEq, Nat.succ_ne_self, Nat.reduceAdd, Nat.reduceMul]
      · rw [sn_S] at hk
        rw [sn_w, sn_e, sn_m]
        simp only [gI, pI, gL, pL, b1_s, b2_s, bn_s, rz0, rz1, isO_sI, isO_sL, isO_cI, gR_sI, gR_sL, gR_cI, ldR_sI, ldR_sL, mI_w, mL_w, mI_sL, mL_sI, mI_cI, mR_sI, mR_sL, mR_cI, mL_cI, if_true, if_false, true_and, and_true, false_and, and_false, and_self, eq_self, not_true_eq_false, not_false_eq_true, Nat.reduceEqDiff, reduceCtorEq, Nat.succ_ne_self, Nat.reduceAdd, Nat.reduceMul]
        by_cases hkk : k = zS s
        · simp [hkk]
        · simp only [hkk, if_false]; exact hS.2 k (by omega)
    · rw [show a_seen s x y m = -1 from if_neg (fun q => h12 q.2), show n_seen s x y m = s from if_neg (fun q => h12 q.2), if_pos (show nI (zS s) = 12 by rw [show zS s = 12 by omega]; rfl)]
      exact ⟨N, rfl, ht, ft, rt⟩
  · rw [show a_seen s x y m = -1 from if_neg (fun q => hc q.1), show n_seen s x y m = s from if_neg (fun q => hc q.1), if_neg hc, if_pos rfl]
    exact ⟨N, rfl, ht, ft, rt⟩
theorem case_38 : CaseOK g_L_38 := by
  intro L xs j K M hL hj hc
  obtain ⟨s, hw, hc, hr⟩ := hc
  obtain ⟨M1, M2, hcp, e1, e2⟩ := asm (C_seen hw (xs (j + 1)) (xs (j + 2)) (xs (j + 3))) (R_seen hw (xs (j + 1)) (xs (j + 2)) (xs (j + 3))) (W_seen hw (xs (j + 1)) (xs (j + 2)) (xs (j + 3))) hc hr
  refine ⟨M2, hcp, ?_⟩
  unfold g_L_38
  simp only [show (nI j + 1 : Int32) = nI (j + 1) from nI_add _ 1, show (nI j + 2 : Int32) = nI (j + 2) from nI_add _ 2, show (nI j + 3 : Int32) = nI (j + 3) from nI_add _ 3, show (nI j + 4 : Int32) = nI (j + 4) from nI_add _ 4, scr_k (show j + 1 < L by omega) hL, scr_k (show j + 2 < L by omega) hL, scr_k (show j + 3 < L by omega) hL, scr_k (show j + 4 < L by omega) hL, b1_s, e1, e2, b2_s, if_true]

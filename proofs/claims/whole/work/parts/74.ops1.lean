/-! CALLS: sign, end, train, wish, seen, forget -/
theorem ksh (v : Int32) (n : Nat) (hn : n ≤ 24) : (v >>> (nI n &&& 31)) &&& 255 = iush v (nI n) &&& 255 := by
  apply b_ext
  intro i hi
  rw [b_and, b_and, b_255, b_sshr n (by omega) v hi]
  show _ = (bt ((v.toUInt32 >>> ((nI n).toUInt32 &&& Int32.toUInt32 31)).toInt32) i && _)
  rw [b_ushr n (by omega)]
  by_cases h : i < 8
  · rw [if_pos (by omega)]
  · simp [h]
def byt (v : Int32) (k : Nat) : Nat := (iush v (nI (24 - 8 * k))).toBitVec.toNat % 256
theorem byt_e (v : Int32) (k : Nat) : iush v (nI (24 - 8 * k)) &&& 255 = nI (byt v k) := pk_and _ 8 (by decide)
theorem byt_lt (v : Int32) (k : Nat) : byt v k < 256 := Nat.mod_lt _ (by decide)
theorem byt0 (v : Int32) : iush v 24 &&& 255 = nI (byt v 0) := byt_e v 0
theorem byt1 (v : Int32) : iush v 16 &&& 255 = nI (byt v 1) := byt_e v 1
theorem byt2 (v : Int32) : iush v 8 &&& 255 = nI (byt v 2) := byt_e v 2
theorem byt3 (v : Int32) : iush v 0 &&& 255 = nI (byt v 3) := byt_e v 3
theorem bys0 (v : Int32) : (v >>> ((24 : Int32) &&& 31)) &&& 255 = nI (byt v 0) := (ksh v 24 (by decide)).trans (byt_e v 0)
theorem bys1 (v : Int32) : (v >>> ((16 : Int32) &&& 31)) &&& 255 = nI (byt v 1) := (ksh v 16 (by decide)).trans (byt_e v 1)
theorem bys2 (v : Int32) : (v >>> ((8 : Int32) &&& 31)) &&& 255 = nI (byt v 2) := (ksh v 8 (by decide)).trans (byt_e v 2)
theorem bys3 (v : Int32) : (v >>> ((0 : Int32) &&& 31)) &&& 255 = nI (byt v 3) := (ksh v 0 (by decide)).trans (byt_e v 3)
def nSign (s : St) (v : Int32) : St := (fun a k => if a = 9 ∧ zL s ≤ k ∧ k < zL s + 4 then byt v (k - zL s) else if a = 0 ∧ k = 5 then zL s + 4 else s.1 a k, s.2)
def a_sign (s : St) (v : Int32) : Int32 := if zL s ≤ 76 then nI (zL s + 4) else -1
def n_sign (s : St) (v : Int32) : St := if zL s ≤ 76 then nSign s v else s
theorem nSignL (s : St) (v : Int32) : zL (nSign s v) = zL s + 4 := rfl
theorem nSignT (s : St) (v : Int32) (k : Nat) : ztap (nSign s v) k = if zL s ≤ k ∧ k < zL s + 4 then byt v (k - zL s) else ztap s k := by
  show (if 9 = 9 ∧ zL s ≤ k ∧ k < zL s + 4 then byt v (k - zL s) else if 9 = 0 ∧ k = 5 then zL s + 4 else s.1 9 k) = _
  by_cases h : zL s ≤ k ∧ k < zL s + 4
  · rw [if_pos ⟨rfl, h⟩, if_pos h]
  · rw [if_neg (fun q => h q.2), if_neg (by omega), if_neg h]; rfl
theorem W_sign {s : St} (hw : WF s) (v : Int32) : WF (n_sign s v) := by
  unfold n_sign
  split
  · rename_i hl
    obtain ⟨⟨a1, a2, a3, a4, a5, a6, a7, a8⟩, b, c, d, e⟩ := hw
    refine ⟨⟨a1, a2, a3, a4, a5, a6, ?_, a8⟩, b, fun k hk => ?_, d, e⟩
    · rw [nSignL]; omega
    · rw [nSignL] at hk
      rw [nSignT]
      split
      · exact byt_lt _ _
      · exact c k (by omega)
  · exact hw
def wText (a k : Nat) : Prop := a = 1 ∨ a = 2
theorem put_st {M : MM} (h0 : Sh M) {L : Nat} (hL : mI M 1 1 = nI L) (hl : L < 80) (n : Nat) (v x : Int32) (hx : ¬ x < 0) : ∃ M', f_X10_put_16 (n + 1) 1 v x M = f_X10_put_16 n 1 v (x + -8) M' ∧ Sh M' ∧ mI M' 1 1 = nI (L + 1) ∧ mI M' 2 L = iush v x &&& 255 ∧ (∀ k, k ≠ L → mI M' 2 k = mI M 2 k) ∧ Fr wText M M' := by
  refine ⟨sI (sI M 2 L (iush v x &&& 255)) 1 1 (nI (L + 1)), ?_, h0, ?_, ?_, fun k hk => ?_, ((Fr.rf M).sI (Or.inr rfl)).sI (Or.inl rfl)⟩
  · rw [f_X10_put_16, if_neg hx]
    simp (disch := first | omega | (simp only [Sh_sI, Sh_sL, Sh_cI]; assumption)) only [gI, pI, gL, pL, b1_s, b2_s, bn_s, rz0, rz1, isO_sI, isO_sL, isO_cI, gR_sI, gR_sL, gR_cI, ldR_sI, ldR_sL, mI_w, mL_w, mI_sL, mL_sI, mI_cI, mR_sI, mR_sL, mR_cI, mL_cI, if_true, if_false, true_and, and_true, false_and, and_false, and_self, eq_self, not_true_eq_false, not_false_eq_true, Nat.reduceEqDiff, reduceCtorEq, Nat.succ_ne_self, Nat.reduceAdd, Nat.reduceMul, cCO h0, cCR h0, hL, st_2, nI_1]
  · simp only [gI, pI, gL, pL, b1_s, b2_s, bn_s, rz0, rz1, isO_sI, isO_sL, isO_cI, gR_sI, gR_sL, gR_cI, ldR_sI, ldR_sL, mI_w, mL_w, mI_sL, mL_sI, mI_cI, mR_sI, mR_sL, mR_cI, mL_cI, if_true, if_false, true_and, and_true, false_and, and_false, and_self, eq_self, not_true_eq_false, not_false_eq_true, Nat.reduceEqDiff, reduceCtorEq, Nat.succ_ne_self, Nat.reduceAdd, Nat.reduceMul]
  · simp only [gI, pI, gL, pL, b1_s, b2_s, bn_s, rz0, rz1, isO_sI, isO_sL, isO_cI, gR_sI, gR_sL, gR_cI, ldR_sI, ldR_sL, mI_w, mL_w, mI_sL, mL_sI, mI_cI, mR_sI, mR_sL, mR_cI, mL_cI, if_true, if_false, true_and, and_true, false_and, and_false, and_self, eq_self, not_true_eq_false, not_false_eq_true, Nat.reduceEqDiff, reduceCtorEq, Nat.succ_ne_self, Nat.reduceAdd, Nat.reduceMul]
  · simp only [gI, pI, gL, pL, b1_s, b2_s, bn_s, rz0, rz1, isO_sI, isO_sL, isO_cI, gR_sI, gR_sL, gR_cI, ldR_sI, ldR_sL, mI_w, mL_w, mI_sL, mL_sI, mI_cI, mR_sI, mR_sL, mR_cI, mL_cI, if_true, if_false, true_and, and_true, false_and, and_false, and_self, eq_self, not_true_eq_false, not_false_eq_true, Nat.reduceEqDiff, reduceCtorEq, Nat.succ_ne_self, Nat.reduceAdd, Nat.reduceMul, hk]
theorem C_sign {s : St} (hw : WF s) (v : Int32) : OpC (fun M => f_X11_sign 0 v M) s (a_sign s v) (n_sign s v) := by
  intro M h
  have h0 := h.1
  have hL := h.2.1.1
  have hb := hw.1.2.2.2.2.2.2.1
  unfold a_sign n_sign
  simp only [f_X11_sign, f_X11_sign_0, f_X10_put, f_X10_put_0, gI, pI, gL, pL, b1_s, b2_s, bn_s, rz0, rz1, isO_sI, isO_sL, isO_cI, gR_sI, gR_sL, gR_cI, ldR_sI, ldR_sL, mI_w, mL_w, mI_sL, mL_sI, mI_cI, mR_sI, mR_sL, mR_cI, mL_cI, if_true, if_false, true_and, and_true, false_and, and_false, and_self, eq_self, not_true_eq_false, not_false_eq_true, Nat.reduceEqDiff, reduceCtorEq, Nat.succ_ne_self, Nat.reduceAdd, Nat.reduceMul, cCO h0, cCR h0, hL]
  rw [show (nI (zL s) + 4 : Int32) = nI (zL s + 4) from nI_add _ 4, show (80 : Int32) = nI 80 from rfl]
  by_cases hl : zL s ≤ 76
  · rw [if_pos hl, if_pos hl, if_pos (nI_le (by omega) (by decide))]
    obtain ⟨M1, e1, g1, l1, v1, o1, f1⟩ := put_st h0 hL (by omega) 1023 v 24 (by decide)
    obtain ⟨M2, e2, g2, l2, v2, o2, f2⟩ := put_st g1 l1 (by omega) 1022 v (24 + -8) (by decide)
    obtain ⟨M3, e3, g3, l3, v3, o3, f3⟩ := put_st g2 l2 (by omega) 1021 v (24 + -8 + -8) (by decide)
    obtain ⟨M4, e4, g4, l4, v4, o4, f4⟩ := put_st g3 l3 (by omega) 1020 v (24 + -8 + -8 + -8) (by decide)
    have f := ((f1.tr f2).tr f3).tr f4
    refine ⟨M4, ?_, ⟨g4, ⟨?_, fun k hk => ?_⟩, (h.2.2.1.fr f (fun a k q => by first | omega | (unfold wText; omega))), (h.2.2.2.1.fr f (fun a k q => by first | omega | (unfold wText; omega))), (h.2.2.2.2.1.frw f (fun a k q => by first | omega | (unfold wText; omega))), (h.2.2.2.2.2.1.fr f (fun a k q => by first | omega | (unfold wText; omega))), (h.2.2.2.2.2.2.1.fr f (fun a k q => by first | omega | (unfold wText; omega))), (h.2.2.2.2.2.2.2.1.fr f (fun a k q => by first | omega | (unfold wText; omega))), (h.2.2.2.2.2.2.2.2.fr f (fun a k q => by first | omega | (unfold wText; omega)))⟩, f.mono (fun a k q => by unfold wText at q; unfold cW; omega)⟩
    · rw [e1, e2, e3, e4, f_X10_put_16, if_pos (by decide), rz1, b2_s, if_neg (by decide)]
      have h0 := g4
      simp only [gI, pI, gL, pL, b1_s, b2_s, bn_s, rz0, rz1, isO_sI, isO_sL, isO_cI, gR_sI, gR_sL, gR_cI, ldR_sI, ldR_sL, mI_w, mL_w, mI_sL, mL_sI, mI_cI, mR_sI, mR_sL, mR_cI, mL_cI, if_true, if_false, true_and, and_true, false_and, and_false, and_self, eq_self, not_true_eq_false, not_false_eq_true, Nat.reduceEqDiff, reduceCtorEq, Nat.succ_ne_self, Nat.reduceAdd, Nat.reduceMul, cCO h0, cCR h0, l4]
    · rw [nSignL, l4]
    · rw [nSignL] at hk
      rw [nSignT]
      by_cases k4 : k = zL s + 3
      · subst k4; rw [if_pos (by omega), show zL s + 3 - zL s = 3 from by omega, v4]; exact byt3 v
      by_cases k3 : k = zL s + 2
      · subst k3; rw [if_pos (by omega), o4 _ (by omega), show zL s + 2 - zL s = 2 from by omega, v3]; exact byt2 v
      by_cases k2 : k = zL s + 1
      · subst k2; rw [if_pos (by omega), o4 _ (by omega), o3 _ (by omega), show zL s + 1 - zL s = 1 from by omega, v2]; exact byt1 v
      by_cases k1 : k = zL s
      · subst k1; rw [if_pos (by omega), o4 _ (by omega), o3 _ (by omega), o2 _ (by omega), show zL s - zL s = 0 from by omega, v1]; exact byt0 v
      · rw [if_neg (by omega), o4 _ (by omega), o3 _ (by omega), o2 _ (by omega), o1 _ (by omega)]; exact h.2.1.2 k (by omega)
  · rw [if_neg hl, if_neg hl, if_neg (nI_ge (by omega) (by omega)), b2_s, if_pos rfl]
    exact ⟨M, rfl, h, Fr.rf M⟩
theorem sgn_st {M : MM} (h0 : Sh M) {L : Nat} (hL : mI M 143 18 = nI L) (n k : Nat) (hk : k < 4) (hl : L + k < 80) (v : Int32) : ∃ M', f_X12_sign_18 (n + 1) 143 v (nI k) M = f_X12_sign_18 n 143 v (nI (k + 1)) M' ∧ Sh M' ∧ mI M' 143 18 = nI L ∧ mI M' 155 (L + k) = nI (byt v k) ∧ (∀ j, j ≠ L + k → mI M' 155 j = mI M 155 j) ∧ Fr (fun a j => a = 155) M M' ∧ mR M' = mR M := by
  refine ⟨sI M 155 (L + k) (nI (byt v k)), ?_, h0, ?_, ?_, fun j hj => ?_, ((Fr.rf M).sI rfl), rfl⟩
  · rw [f_X12_sign_18, if_neg (show ¬ (4 : Int32) ≤ nI k from nI_ge hk (by decide))]
    have e : (v >>> (((24 : Int32) - 8 * nI k) &&& 31)) &&& 255 = nI (byt v k) := by
      rw [show (24 : Int32) = nI 24 from rfl, show (8 : Int32) = nI 8 from rfl, pk_mul, pk_sub (by omega), ksh v _ (by omega)]
      exact byt_e v k
    simp (disch := first | omega | (simp only [Sh_sI, Sh_sL, Sh_cI]; assumption)) only [gI, pI, gL, pL, b1_s, b2_s, bn_s, rz0, rz1, isO_sI, isO_sL, isO_cI, gR_sI, gR_sL, gR_cI, ldR_sI, ldR_sL, mI_w, mL_w, mI_sL, mL_sI, mI_cI, mR_sI, mR_sL, mR_cI, mL_cI, if_true, if_false, true_and, and_true, false_and, and_false, and_self, eq_self, not_true_eq_false, not_false_eq_true, Nat.reduceEqDiff, reduceCtorEq, Nat.succ_ne_self, Nat.reduceAdd, Nat.reduceMul, cRO h0, cRR h0, hL, nI_add, st_155, nI_1, e]
  · simp only [gI, pI, gL, pL, b1_s, b2_s, bn_s, rz0, rz1, isO_sI, isO_sL, isO_cI, gR_sI, gR_sL, gR_cI, ldR_sI, ldR_sL, mI_w, mL_w, mI_sL, mL_sI, mI_cI, mR_sI, mR_sL, mR_cI, mL_cI, if_true, if_false, true_and, and_true, false_and, and_false, and_self, eq_self, not_true_eq_false, not_false_eq_true, Nat.reduceEqDiff, reduceCtorEq, Nat.succ_ne_self, Nat.reduceAdd, Nat.reduceMul, hL]
  · simp only [gI, pI, gL, pL, b1_s, b2_s, bn_s, rz0, rz1, isO_sI, isO_sL, isO_cI, gR_sI, gR_sL, gR_cI, ldR_sI, ldR_sL, mI_w, mL_w, mI_sL, mL_sI, mI_cI, mR_sI, mR_sL, mR_cI, mL_cI, if_true, if_false, true_and, and_true, false_and, and_false, and_self, eq_self, not_true_eq_false, not_false_eq_true, Nat.reduceEqDiff, reduceCtorEq, Nat.succ_ne_self, Nat.reduceAdd, Nat.reduceMul]
  · simp only [gI, pI, gL, pL, b1_s, b2_s, bn_s, rz0, rz1, isO_sI, isO_sL, isO_cI, gR_sI, gR_sL, gR_cI, ldR_sI, ldR_sL, mI_w, mL_w, mI_sL, mL_sI, mI_cI, mR_sI, mR_sL, mR_cI, mL_cI, if_true, if_false, true_and, and_true, false_and, and_false, and_self, eq_self, not_true_eq_false, not_false_eq_true, Nat.reduceEqDiff, reduceCtorEq, Nat.succ_ne_self, Nat.reduceAdd, Nat.reduceMul, hj]
theorem R_sign {s : St} (hw : WF s) (v : Int32) : OpR (fun M => f_X12_sign 143 v M) s (a_sign s v) (n_sign s v) := by
  intro M h
  have h0 := h.1
  have hL := h.2.1.1
  have hb := hw.1.2.2.2.2.2.2.1
  unfold a_sign n_sign
  simp only [f_X12_sign, f_X12_sign_0, gI, pI, gL, pL, b1_s, b2_s, bn_s, rz0, rz1, isO_sI, isO_sL, isO_cI, gR_sI, gR_sL, gR_cI, ldR_sI, ldR_sL, mI_w, mL_w, mI_sL, mL_sI, mI_cI, mR_sI, mR_sL, mR_cI, mL_cI, if_true, if_false, true_and, and_true, false_and, and_false, and_self, eq_self, not_true_eq_false, not_false_eq_true, Nat.reduceEqDiff, reduceCtorEq, Nat.succ_ne_self, Nat.reduceAdd, Nat.reduceMul, cRO h0, cRR h0, hL]
  rw [show (76 : Int32) = nI 76 from rfl]
  by_cases hl : zL s ≤ 76
  · rw [if_pos hl, if_pos hl, if_pos (nI_le (by omega) (by decide))]
    obtain ⟨M1, e1, g1, l1, v1, o1, f1, r1⟩ := sgn_st (M := sI M 143 0 0) (L := zL s) h0 (by simp only [gI, pI, gL, pL, b1_s, b2_s, bn_s, rz0, rz1, isO_sI, isO_sL, isO_cI, gR_sI, gR_sL, gR_cI, ldR_sI, ldR_sL, mI_w, mL_w, mI_sL, mL_sI, mI_cI, mR_sI, mR_sL, mR_cI, mL_cI, if_true, if_false, true_and, and_true, false_and, and_false, and_self, eq_self, not_true_eq_false, not_false_eq_true, Nat.reduceEqDiff, reduceCtorEq, Nat.succ_ne_self, Nat.reduceAdd, Nat.reduceMul, hL]) 1023 0 (by omega) (by omega) v
    obtain ⟨M2, e2, g2, l2, v2, o2, f2, r2⟩ := sgn_st g1 l1 1022 1 (by omega) (by omega) v
    obtain ⟨M3, e3, g3, l3, v3, o3, f3, r3⟩ := sgn_st g2 l2 1021 2 (by omega) (by omega) v
    obtain ⟨M4, e4, g4, l4, v4, o4, f4, r4⟩ := sgn_st g3 l3 1020 3 (by omega) (by omega) v
    have f : Fr (fun a j => a = 155 ∨ a = 143 ∧ (j = 0 ∨ j = 18)) M (sI M4 143 18 (nI (zL s + 4))) := (((Fr.rf M).sI (v := 0) (show 143 = 155 ∨ 143 = 143 ∧ (0 = 0 ∨ 0 = 18) by omega)).tr ((((f1.tr f2).tr f3).tr f4).mono (fun a j q => Or.inl q))).sI (show 143 = 155 ∨ 143 = 143 ∧ (18 = 0 ∨ 18 = 18) by omega)
    refine ⟨sI M4 143 18 (nI (zL s + 4)), ?_, ⟨g4, ⟨?_, fun k hk => ?_⟩, (h.2.2.1.fr f (fun a k q => by first | omega | (unfold wText; omega))), (h.2.2.2.1.fr f (fun a k q => by first | omega | (unfold wText; omega))), (h.2.2.2.2.1.frw f (fun a k q => by first | omega | (unfold wText; omega))), (h.2.2.2.2.2.1.fr f (fun a k q => by first | omega | (unfold wText; omega))), (h.2.2.2.2.2.2.1.fr f (fun a k q => by first | omega | (unfold wText; omega))), (h.2.2.2.2.2.2.2.1.fr f (fun a k q => by first | omega | (unfold wText; omega))), (h.2.2.2.2.2.2.2.2.fr f (fun a k q => by first | omega | (unfold wText; omega)))⟩, f.mono (fun a k q => by unfold rW; omega), ?_⟩
    · rw [show (0 : Int32) = nI 0 from rfl]
      rw [show (sI M 143 0 (nI 0)) = sI M 143 0 0 from rfl, e1, e2, e3, e4, f_X12_sign_18, if_pos (by decide)]
      have h0 := g4
      simp only [gI, pI, gL, pL, b1_s, b2_s, bn_s, rz0, rz1, isO_sI, isO_sL, isO_cI, gR_sI, gR_sL, gR_cI, ldR_sI, ldR_sL, mI_w, mL_w, mI_sL, mL_sI, mI_cI, mR_sI, mR_sL, mR_cI, mL_cI, if_true, if_false, true_and, and_true, false_and, and_false, and_self, eq_self, not_true_eq_false, not_false_eq_true, Nat.reduceEqDiff, reduceCtorEq, Nat.succ_ne_self, Nat.reduceAdd, Nat.reduceMul, cRO h0, cRR h0, l4, show (nI (zL s) + 4 : Int32) = nI (zL s + 4) from nI_add _ 4]
    · simp only [gI, pI, gL, pL, b1_s, b2_s, bn_s, rz0, rz1, isO_sI, isO_sL, isO_cI, gR_sI, gR_sL, gR_cI, ldR_sI, ldR_sL, mI_w, mL_w, mI_sL, mL_sI, mI_cI, mR_sI, mR_sL, mR_cI, mL_cI, if_true, if_false, true_and, and_true, false_and, and_false, and_self, eq_self, not_true_eq_false, not_false_eq_true, Nat.reduceEqDiff, reduceCtorEq, Nat.succ_ne_self, Nat.reduceAdd, Nat.reduceMul]; rfl
    · rw [nSignL] at hk
      rw [nSignT]
      simp only [gI, pI, gL, pL, b1_s, b2_s, bn_s, rz0, rz1, isO_sI, isO_sL, isO_cI, gR_sI, gR_sL, gR_cI, ldR_sI, ldR_sL, mI_w, mL_w, mI_sL, mL_sI, mI_cI, mR_sI, mR_sL, mR_cI, mL_cI, if_true, if_false, true_and, and_true, false_and, and_false, and_self, eq_self, not_true_eq_false, not_false_eq_true, Nat.reduceEqDiff, reduceCtorEq, Nat.succ_ne_self, Nat.reduceAdd, Nat.reduceMul]
      by_cases k4 : k = zL s + 3
      · subst k4; rw [if_pos (by omega), show zL s + 3 - zL s = 3 from by omega, v4]
      by_cases k3 : k = zL s + 2
      · subst k3; rw [if_pos (by omega), o4 _ (by omega), show zL s + 2 - zL s = 2 from by omega, v3]
      by_cases k2 : k = zL s + 1
      · subst k2; rw [if_pos (by omega), o4 _ (by omega), o3 _ (by omega), show zL s + 1 - zL s = 1 from by omega, v2]
      by_cases k1 : k = zL s
      · subst k1; rw [if_pos (by omega), o4 _ (by omega), o3 _ (by omega), o2 _ (by omega), show zL s - zL s = 0 from by omega]; exact v1
      · rw [if_neg (by omega), o4 _ (by omega), o3 _ (by omega), o2 _ (by omega), o1 _ (by omega)]; exact h.2.1.2 k (by omega)
    · rw [mR_sI, r4, r3, r2, r1, mR_sI]
  · rw [if_neg hl, if_neg hl, if_neg (nI_ge (by omega) (by omega))]
    exact ⟨sI M 143 0 0, rfl, h.fr ((Fr.rf M).sI (by unfold wR; omega)) h0, (Fr.rf M).sI (by unfold rW; omega), rfl⟩
/-! end -/
def a_end (s : St) (v : Int32) : Int32 := if ixP v (zL s + 1) = true then 1 else 0
def n_end (s : St) (v : Int32) : St := if ixP v (zL s + 1) = true then zset s 0 5 v.toNatClampNeg else s
theorem W_end {s : St} (hw : WF s) (v : Int32) : WF (n_end s v) := by
  unfold n_end
  split
  · rename_i hl
    have hb := hw.1.2.2.2.2.2.2.1
    obtain ⟨j, hj, rfl⟩ := ix_ex (by omega) hl
    obtain ⟨⟨a1, a2, a3, a4, a5, a6, a7, a8⟩, b, c, d, e⟩ := hw
    have hz : zL (zset s 0 5 (nI j).toNatClampNeg) = j := (show (nI j).toNatClampNeg = j from nI_clamp (by omega))
    refine ⟨⟨a1, a2, a3, a4, a5, a6, ?_, a8⟩, b, fun k hk => ?_, d, e⟩
    · rw [hz]; omega
    · rw [hz] at hk; exact c k (by omega)
  · exact hw
theorem C_end {s : St} (hw : WF s) (v : Int32) : OpC (fun M => f_X11_end 0 v M) s (a_end s v) (n_end s v) := by
  intro M h
  have h0 := h.1
  have hL := h.2.1.1
  have hb := hw.1.2.2.2.2.2.2.1
  unfold a_end n_end
  simp only [f_X11_end, f_X11_end_0, f_X10_cut, f_X10_cut_0, gI, pI, gL, pL, b1_s, b2_s, bn_s, rz0, rz1, isO_sI, isO_sL, isO_cI, gR_sI, gR_sL, gR_cI, ldR_sI, ldR_sL, mI_w, mL_w, mI_sL, mL_sI, mI_cI, mR_sI, mR_sL, mR_cI, mL_cI, if_true, if_false, true_and, and_true, false_and, and_false, and_self, eq_self, not_true_eq_false, not_false_eq_true, Nat.reduceEqDiff, reduceCtorEq, Nat.succ_ne_self, Nat.reduceAdd, Nat.reduceMul, cCO h0, cCR h0, hL]
  by_cases hv : ixP v (zL s + 1) = true
  · rw [if_pos hv, if_pos hv]
    obtain ⟨j, hj, rfl⟩ := ix_ex (by omega) hv
    rw [if_neg (nI_pos (by omega)), if_pos (nI_le (by omega) (by omega)), b2_s]
    have f := frOne M 1 1 (nI j)
    refine ⟨sI M 1 1 (nI j), by simp only [gI, pI, gL, pL, b1_s, b2_s, bn_s, rz0, rz1, isO_sI, isO_sL, isO_cI, gR_sI, gR_sL, gR_cI, ldR_sI, ldR_sL, mI_w, mL_w, mI_sL, mL_sI, mI_cI, mR_sI, mR_sL, mR_cI, mL_cI, if_true, if_false, true_and, and_true, false_and, and_false, and_self, eq_self, not_true_eq_false, not_false_eq_true, Nat.reduceEqDiff, reduceCtorEq, Nat.succ_ne_self, Nat.reduceAdd, Nat.reduceMul], ⟨h0, ⟨?_, fun k hk => ?_⟩, (h.2.2.1.fr f (fun a k q => by first | omega | (unfold wText; omega))), (h.2.2.2.1.fr f (fun a k q => by first | omega | (unfold wText; omega))), (h.2.2.2.2.1.frw f (fun a k q => by first | omega | (unfold wText; omega))), (h.2.2.2.2.2.1.fr f (fun a k q => by first | omega | (unfold wText; omega))), (h.2.2.2.2.2.2.1.fr f (fun a k q => by first | omega | (unfold wText; omega))), (h.2.2.2.2.2.2.2.1.fr f (fun a k q => by first | omega | (unfold wText; omega))), (h.2.2.2.2.2.2.2.2.fr f (fun a k q => by first | omega | (unfold wText; omega)))⟩, f.mono (fun a k q => by unfold cW; omega)⟩
    · rw [show zL (zset s 0 5 (nI j).toNatClampNeg) = j from (show (nI j).toNatClampNeg = j from nI_clamp (by omega))]
      simp only [gI, pI, gL, pL, b1_s, b2_s, bn_s, rz0, rz1, isO_sI, isO_sL, isO_cI, gR_sI, gR_sL, gR_cI, ldR_sI, ldR_sL, mI_w, mL_w, mI_sL, mL_sI, mI_cI, mR_sI, mR_sL, mR_cI, mL_cI, if_true, if_false, true_and, and_true, false_and, and_false, and_self, eq_self, not_true_eq_false, not_false_eq_true, Nat.reduceEqDiff, reduceCtorEq, Nat.succ_ne_self, Nat.reduceAdd, Nat.reduceMul]
    · rw [show zL (zset s 0 5 (nI j).toNatClampNeg) = j from (show (nI j).toNatClampNeg = j from nI_clamp (by omega))] at hk
      simp only [gI, pI, gL, pL, b1_s, b2_s, bn_s, rz0, rz1, isO_sI, isO_sL, isO_cI, gR_sI, gR_sL, gR_cI, ldR_sI, ldR_sL, mI_w, mL_w, mI_sL, mL_sI, mI_cI, mR_sI, mR_sL, mR_cI, mL_cI, if_true, if_false, true_and, and_true, false_and, and_false, and_self, eq_self, not_true_eq_false, not_false_eq_true, Nat.reduceEqDiff, reduceCtorEq, Nat.succ_ne_self, Nat.reduceAdd, Nat.reduceMul]
      exact h.2.1.2 k (by omega)
  · rw [if_neg hv, if_neg hv]
    refine ⟨M, ?_, h, Fr.rf M⟩
    by_cases h1 : v < 0
    · simp only [h1, gI, pI, gL, pL, b1_s, b2_s, bn_s, rz0, rz1, isO_sI, isO_sL, isO_cI, gR_sI, gR_sL, gR_cI, ldR_sI, ldR_sL, mI_w, mL_w, mI_sL, mL_sI, mI_cI, mR_sI, mR_sL, mR_cI, mL_cI, if_true, if_false, true_and, and_true, false_and, and_false, and_self, eq_self, not_true_eq_false, not_false_eq_true, Nat.reduceEqDiff, reduceCtorEq, Nat.succ_ne_self, Nat.reduceAdd, Nat.reduceMul]
    · rw [if_neg h1, if_neg]
      · simp only [gI, pI, gL, pL, b1_s, b2_s, bn_s, rz0, rz1, isO_sI, isO_sL, isO_cI, gR_sI, gR_sL, gR_cI, ldR_sI, ldR_sL, mI_w, mL_w, mI_sL, mL_sI, mI_cI, mR_sI, mR_sL, mR_cI, mL_cI, if_true, if_false, true_and, and_true, false_and, and_false, and_self, eq_self, not_true_eq_false, not_false_eq_true, Nat.reduceEqDiff, reduceCtorEq, Nat.succ_ne_self, Nat.reduceAdd, Nat.reduceMul]
      · intro q
        apply hv
        refine ix_t.mpr ⟨h1, ?_⟩
        rw [fa_le, nI_toInt (by omega)] at q
        rw [fa_lt, nI_toInt (by omega)]
        omega
theorem R_end {s : St} (hw : WF s) (v : Int32) : OpR (fun M => f_X12_end 143 v M) s (a_end s v) (n_end s v) := by
  intro M h
  have h0 := h.1
  have hL := h.2.1.1
  have hb := hw.1.2.2.2.2.2.2.1
  unfold a_end n_end
  have e1 : (nI (zL s)) = nI (zL s + 1) - 1 := (nI_pred _).symm
  simp only [f_X12_end, f_X12_end_0, gI, pI, gL, pL, b1_s, b2_s, bn_s, rz0, rz1, isO_sI, isO_sL, isO_cI, gR_sI, gR_sL, gR_cI, ldR_sI, ldR_sL, mI_w, mL_w, mI_sL, mL_sI, mI_cI, mR_sI, mR_sL, mR_cI, mL_cI, if_true, if_false, true_and, and_true, false_and, and_false, and_self, eq_self, not_true_eq_false, not_false_eq_true, Nat.reduceEqDiff, reduceCtorEq, Nat.succ_ne_self, Nat.reduceAdd, Nat.reduceMul, cRO h0, cRR h0, hL]
  rw [e1, e_in0n v _ (by omega), b2_s]
  by_cases hv : ixP v (zL s + 1) = true
  · simp only [hv, if_true]
    obtain ⟨j, hj, rfl⟩ := ix_ex (by omega) hv
    rw [if_neg (by decide)]
    have f : Fr (fun a k => a = 143 ∧ (k = 0 ∨ k = 18)) M (sI (sI M 143 0 0) 143 18 (nI j)) := ((Fr.rf M).sI ⟨rfl, Or.inl rfl⟩).sI ⟨rfl, Or.inr rfl⟩
    refine ⟨sI (sI M 143 0 0) 143 18 (nI j), by simp only [gI, pI, gL, pL, b1_s, b2_s, bn_s, rz0, rz1, isO_sI, isO_sL, isO_cI, gR_sI, gR_sL, gR_cI, ldR_sI, ldR_sL, mI_w, mL_w, mI_sL, mL_sI, mI_cI, mR_sI, mR_sL, mR_cI, mL_cI, if_true, if_false, true_and, and_true, false_and, and_false, and_self, eq_self, not_true_eq_false, not_false_eq_true, Nat.reduceEqDiff, reduceCtorEq, Nat.succ_ne_self, Nat.reduceAdd, Nat.reduceMul, cRO h0, cRR h0], ⟨h0, ⟨?_, fun k hk => ?_⟩, (h.2.2.1.fr f (fun a k q => by first | omega | (unfold wText; omega))), (h.2.2.2.1.fr f (fun a k q => by first | omega | (unfold wText; omega))), (h.2.2.2.2.1.frw f (fun a k q => by first | omega | (unfold wText; omega))), (h.2.2.2.2.2.1.fr f (fun a k q => by first | omega | (unfold wText; omega))), (h.2.2.2.2.2.2.1.fr f (fun a k q => by first | omega | (unfold wText; omega))), (h.2.2.2.2.2.2.2.1.fr f (fun a k q => by first | omega | (unfold wText; omega))), (h.2.2.2.2.2.2.2.2.fr f (fun a k q => by first | omega | (unfold wText; omega)))⟩, f.mono (fun a k q => by unfold rW; omega), rfl⟩
    · rw [show zL (zset s 0 5 (nI j).toNatClampNeg) = j from (show (nI j).toNatClampNeg = j from nI_clamp (by omega))]
      simp only [gI, pI, gL, pL, b1_s, b2_s, bn_s, rz0, rz1, isO_sI, isO_sL, isO_cI, gR_sI, gR_sL, gR_cI, ldR_sI, ldR_sL, mI_w, mL_w, mI_sL, mL_sI, mI_cI, mR_sI, mR_sL, mR_cI, mL_cI, if_true, if_false, true_and, and_true, false_and, and_false, and_self, eq_self, not_true_eq_false, not_false_eq_true, Nat.reduceEqDiff, reduceCtorEq, Nat.succ_ne_self, Nat.reduceAdd, Nat.reduceMul]
    · rw [show zL (zset s 0 5 (nI j).toNatClampNeg) = j from (show (nI j).toNatClampNeg = j from nI_clamp (by omega))] at hk
      simp only [gI, pI, gL, pL, b1_s, b2_s, bn_s, rz0, rz1, isO_sI, isO_sL, isO_cI, gR_sI, gR_sL, gR_cI, ldR_sI, ldR_sL, mI_w, mL_w, mI_sL, mL_sI, mI_cI, mR_sI, mR_sL, mR_cI, mL_cI, if_true, if_false, true_and, and_true, false_and, and_false, and_self, eq_self, not_true_eq_false, not_false_eq_true, Nat.reduceEqDiff, reduceCtorEq, Nat.succ_ne_self, Nat.reduceAdd, Nat.reduceMul]
      exact h.2.1.2 k (by omega)
  · simp only [hv, if_false, if_true]
    exact ⟨sI M 143 0 0, rfl, h.fr ((Fr.rf M).sI (by unfold wR; omega)) h0, (Fr.rf M).sI (by unfold rW; omega), rfl⟩
/-! train -/
def a_train (s : St) (v : Int32) : Int32 := if ixP v 100 = true ∧ v ≠ 0 then nI (zT s) else -1
def n_train (s : St) (v : Int32) : St := if ixP v 100 = true ∧ v ≠ 0 then zset s 0 2 v.toNatClampNeg else s
theorem W_train {s : St} (hw : WF s) (v : Int32) : WF (n_train s v) := by
  unfold n_train
  split
  · rename_i hl
    obtain ⟨j, hj, rfl⟩ := ix_ex (by omega) hl.1
    obtain ⟨⟨a1, a2, a3, a4, a5, a6, a7, a8⟩, b, c, d, e⟩ := hw
    have hz : zT (zset s 0 2 (nI j).toNatClampNeg) = j := (show (nI j).toNatClampNeg = j from nI_clamp (by omega))
    have h1 : j ≠ 0 := fun q => hl.2 (by rw [q]; rfl)
    exact ⟨⟨a1, a2, by rw [hz]; omega, by rw [hz]; omega, a5, a6, a7, a8⟩, b, c, d, e⟩
  · exact hw
theorem trn_c {v : Int32} : (¬ v < 1 ∧ v ≤ 99) ↔ (ixP v 100 = true ∧ v ≠ 0) := by
  rw [ix_t, fa_lt, fa_lt, fa_lt, fa_le, ne_eq, fa_eq, nI_toInt (by decide), show (1 : Int32).toInt = 1 from by decide, show (99 : Int32).toInt = 99 from by decide, show (0 : Int32).toInt = 0 from by decide]
  omega
theorem trn_c' {v : Int32} : (1 ≤ v ∧ v ≤ 99) ↔ (ixP v 100 = true ∧ v ≠ 0) := by
  rw [ix_t, fa_lt, fa_lt, fa_le, fa_le, ne_eq, fa_eq, nI_toInt (by decide), show (1 : Int32).toInt = 1 from by decide, show (99 : Int32).toInt = 99 from by decide, show (0 : Int32).toInt = 0 from by decide]
  omega
theorem C_train {s : St} (hw : WF s) (v : Int32) : OpC (fun M => f_X11_train 0 v M) s (a_train s v) (n_train s v) := by
  intro M h
  have h0 := h.1
  have hL := h.2.2.2.1.2.2.1
  unfold a_train n_train
  simp only [f_X11_train, f_X11_train_0, gI, pI, gL, pL, b1_s, b2_s, bn_s, rz0, rz1, isO_sI, isO_sL, isO_cI, gR_sI, gR_sL, gR_cI, ldR_sI, ldR_sL, mI_w, mL_w, mI_sL, mL_sI, mI_cI, mR_sI, mR_sL, mR_cI, mL_cI, if_true, if_false, true_and, and_true, false_and, and_false, and_self, eq_self, not_true_eq_false, not_false_eq_true, Nat.reduceEqDiff, reduceCtorEq, Nat.succ_ne_self, Nat.reduceAdd, Nat.reduceMul, cCO h0, cCR h0, hL]
  by_cases hv : ixP v 100 = true ∧ v ≠ 0
  · rw [if_pos hv, if_pos hv, if_neg (trn_c.mpr hv).1, if_pos (trn_c.mpr hv).2]
    obtain ⟨j, hj, rfl⟩ := ix_ex (by omega) hv.1
    have hz : zT (zset s 0 2 (nI j).toNatClampNeg) = j := (show (nI j).toNatClampNeg = j from nI_clamp (by omega))
    have f := frOne M 5 9 (nI j)
    obtain ⟨b1, b2, b3, b4, b5, b6, b7⟩ := h.2.2.2.1
    refine ⟨sI M 5 9 (nI j), rfl, ⟨h0, (h.2.1.fr f (fun a k q => by first | omega | (unfold wText; omega))), (h.2.2.1.fr f (fun a k q => by first | omega | (unfold wText; omega))), ⟨?_, ?_, ?_, fun p hp => ?_, fun e he => ?_, fun p e hp he => ?_, fun p e hp hq he => ?_⟩, (h.2.2.2.2.1.frw f (fun a k q => by first | omega | (unfold wText; omega))), (h.2.2.2.2.2.1.fr f (fun a k q => by first | omega | (unfold wText; omega))), (h.2.2.2.2.2.2.1.fr f (fun a k q => by first | omega | (unfold wText; omega))), (h.2.2.2.2.2.2.2.1.fr f (fun a k q => by first | omega | (unfold wText; omega))), (h.2.2.2.2.2.2.2.2.fr f (fun a k q => by first | omega | (unfold wText; omega)))⟩, f.mono (fun a k q => by unfold cW; omega)⟩
    · simp only [gI, pI, gL, pL, b1_s, b2_s, bn_s, rz0, rz1, isO_sI, isO_sL, isO_cI, gR_sI, gR_sL, gR_cI, ldR_sI, ldR_sL, mI_w, mL_w, mI_sL, mL_sI, mI_cI, mR_sI, mR_sL, mR_cI, mL_cI, if_true, if_false, true_and, and_true, false_and, and_false, and_self, eq_self, not_true_eq_false, not_false_eq_true, Nat.reduceEqDiff, reduceCtorEq, Nat.succ_ne_self, Nat.reduceAdd, Nat.reduceMul]; exact b1
    · simp only [gI, pI, gL, pL, b1_s, b2_s, bn_s, rz0, rz1, isO_sI, isO_sL, isO_cI, gR_sI, gR_sL, gR_cI, ldR_sI, ldR_sL, mI_w, mL_w, mI_sL, mL_sI, mI_cI, mR_sI, mR_sL, mR_cI, mL_cI, if_true, if_false, true_and, and_true, false_and, and_false, and_self, eq_self, not_true_eq_false, not_false_eq_true, Nat.reduceEqDiff, reduceCtorEq, Nat.succ_ne_self, Nat.reduceAdd, Nat.reduceMul]; exact b2
    · rw [hz]; simp only [gI, pI, gL, pL, b1_s, b2_s, bn_s, rz0, rz1, isO_sI, isO_sL, isO_cI, gR_sI, gR_sL, gR_cI, ldR_sI, ldR_sL, mI_w, mL_w, mI_sL, mL_sI, mI_cI, mR_sI, mR_sL, mR_cI, mL_cI, if_true, if_false, true_and, and_true, false_and, and_false, and_self, eq_self, not_true_eq_false, not_false_eq_true, Nat.reduceEqDiff, reduceCtorEq, Nat.succ_ne_self, Nat.reduceAdd, Nat.reduceMul]
    · simp only [gI, pI, gL, pL, b1_s, b2_s, bn_s, rz0, rz1, isO_sI, isO_sL, isO_cI, gR_sI, gR_sL, gR_cI, ldR_sI, ldR_sL, mI_w, mL_w, mI_sL, mL_sI, mI_cI, mR_sI, mR_sL, mR_cI, mL_cI, if_true, if_false, true_and, and_true, false_and, and_false, and_self, eq_self, not_true_eq_false, not_false_eq_true, Nat.reduceEqDiff, reduceCtorEq, Nat.succ_ne_self, Nat.reduceAdd, Nat.reduceMul]; exact b4 p hp
    · simp only [gI, pI, gL, pL, b1_s, b2_s, bn_s, rz0, rz1, isO_sI, isO_sL, isO_cI, gR_sI, gR_sL, gR_cI, ldR_sI, ldR_sL, mI_w, mL_w, mI_sL, mL_sI, mI_cI, mR_sI, mR_sL, mR_cI, mL_cI, if_true, if_false, true_and, and_true, false_and, and_false, and_self, eq_self, not_true_eq_false, not_false_eq_true, Nat.reduceEqDiff, reduceCtorEq, Nat.succ_ne_self, Nat.reduceAdd, Nat.reduceMul]; exact b5 e he
    · simp only [gI, pI, gL, pL, b1_s, b2_s, bn_s, rz0, rz1, isO_sI, isO_sL, isO_cI, gR_sI, gR_sL, gR_cI, ldR_sI, ldR_sL, mI_w, mL_w, mI_sL, mL_sI, mI_cI, mR_sI, mR_sL, mR_cI, mL_cI, if_true, if_false, true_and, and_true, false_and, and_false, and_self, eq_self, not_true_eq_false, not_false_eq_true, Nat.reduceEqDiff, reduceCtorEq, Nat.succ_ne_self, Nat.reduceAdd, Nat.reduceMul]; exact b6 p e hp he
    · simp only [gI, pI, gL, pL, b1_s, b2_s, bn_s, rz0, rz1, isO_sI, isO_sL, isO_cI, gR_sI, gR_sL, gR_cI, ldR_sI, ldR_sL, mI_w, mL_w, mI_sL, mL_sI, mI_cI, mR_sI, mR_sL, mR_cI, mL_cI, if_true, if_false, true_and, and_true, false_and, and_false, and_self, eq_self, not_true_eq_false, not_false_eq_true, Nat.reduceEqDiff, reduceCtorEq, Nat.succ_ne_self, Nat.reduceAdd, Nat.reduceMul]; exact b7 p e hp hq he
  · rw [if_neg hv, if_neg hv]
    refine ⟨M, ?_, h, Fr.rf M⟩
    by_cases h1 : v < 1
    · rw [if_pos h1]
    · rw [if_neg h1, if_neg (fun q => hv (trn_c.mp ⟨h1, q⟩))]
theorem R_train {s : St} (hw : WF s) (v : Int32) : OpR (fun M => f_X12_train 143 v M) s (a_train s v) (n_train s v) := by
  intro M h
  have h0 := h.1
  have hL := h.2.2.2.1.2.2.1
  unfold a_train n_train
  simp only [f_X12_train, f_X12_train_0, gI, pI, gL, pL, b1_s, b2_s, bn_s, rz0, rz1, isO_sI, isO_sL, isO_cI, gR_sI, gR_sL, gR_cI, ldR_sI, ldR_sL, mI_w, mL_w, mI_sL, mL_sI, mI_cI, mR_sI, mR_sL, mR_cI, mL_cI, if_true, if_false, true_and, and_true, false_and, and_false, and_self, eq_self, not_true_eq_false, not_false_eq_true, Nat.reduceEqDiff, reduceCtorEq, Nat.succ_ne_self, Nat.reduceAdd, Nat.reduceMul, cRO h0, cRR h0, hL]
  rw [e_inL v 1 99 _ _ (by decide) (by decide), b2_s]
  by_cases hv : ixP v 100 = true ∧ v ≠ 0
  · rw [if_pos (trn_c'.mpr hv), if_pos hv, if_pos hv, if_neg (by decide)]
    obtain ⟨j, hj, rfl⟩ := ix_ex (by omega) hv.1
    have hz : zT (zset s 0 2 (nI j).toNatClampNeg) = j := (show (nI j).toNatClampNeg = j from nI_clamp (by omega))
    have f : Fr (fun a k => a = 143 ∧ (k = 0 ∨ k = 6)) M (sI (sI M 143 0 0) 143 6 (nI j)) := ((Fr.rf M).sI ⟨rfl, Or.inl rfl⟩).sI ⟨rfl, Or.inr rfl⟩
    obtain ⟨b1, b2, b3, b4, b5, b6⟩ := h.2.2.2.1
    refine ⟨sI (sI M 143 0 0) 143 6 (nI j), by simp only [gI, pI, gL, pL, b1_s, b2_s, bn_s, rz0, rz1, isO_sI, isO_sL, isO_cI, gR_sI, gR_sL, gR_cI, ldR_sI, ldR_sL, mI_w, mL_w, mI_sL, mL_sI, mI_cI, mR_sI, mR_sL, mR_cI, mL_cI, if_true, if_false, true_and, and_true, false_and, and_false, and_self, eq_self, not_true_eq_false, not_false_eq_true, Nat.reduceEqDiff, reduceCtorEq, Nat.succ_ne_self, Nat.reduceAdd, Nat.reduceMul, cRO h0, cRR h0, hL], ⟨h0, (h.2.1.fr f (fun a k q => by first | omega | (unfold wText; omega))), (h.2.2.1.fr f (fun a k q => by first | omega | (unfold wText; omega))), ⟨?_, ?_, ?_, fun p hp => ?_, fun e he => ?_, fun p e hp he => ?_⟩, (h.2.2.2.2.1.frw f (fun a k q => by first | omega | (unfold wText; omega))), (h.2.2.2.2.2.1.fr f (fun a k q => by first | omega | (unfold wText; omega))), (h.2.2.2.2.2.2.1.fr f (fun a k q => by first | omega | (unfold wText; omega))), (h.2.2.2.2.2.2.2.1.fr f (fun a k q => by first | omega | (unfold wText; omega))), (h.2.2.2.2.2.2.2.2.fr f (fun a k q => by first | omega | (unfold wText; omega)))⟩, f.mono (fun a k q => by unfold rW; omega), rfl⟩
    · simp only [gI, pI, gL, pL, b1_s, b2_s, bn_s, rz0, rz1, isO_sI, isO_sL, isO_cI, gR_sI, gR_sL, gR_cI, ldR_sI, ldR_sL, mI_w, mL_w, mI_sL, mL_sI, mI_cI, mR_sI, mR_sL, mR_cI, mL_cI, if_true, if_false, true_and, and_true, false_and, and_false, and_self, eq_self, not_true_eq_false, not_false_eq_true, Nat.reduceEqDiff, reduceCtorEq, Nat.succ_ne_self, Nat.reduceAdd, Nat.reduceMul]; exact b1
    · simp only [gI, pI, gL, pL, b1_s, b2_s, bn_s, rz0, rz1, isO_sI, isO_sL, isO_cI, gR_sI, gR_sL, gR_cI, ldR_sI, ldR_sL, mI_w, mL_w, mI_sL, mL_sI, mI_cI, mR_sI, mR_sL, mR_cI, mL_cI, if_true, if_false, true_and, and_true, false_and, and_false, and_self, eq_self, not_true_eq_false, not_false_eq_true, Nat.reduceEqDiff, reduceCtorEq, Nat.succ_ne_self, Nat.reduceAdd, Nat.reduceMul]; exact b2
    · rw [hz]; simp only [gI, pI, gL, pL, b1_s, b2_s, bn_s, rz0, rz1, isO_sI, isO_sL, isO_cI, gR_sI, gR_sL, gR_cI, ldR_sI, ldR_sL, mI_w, mL_w, mI_sL, mL_sI, mI_cI, mR_sI, mR_sL, mR_cI, mL_cI, if_true, if_false, true_and, and_true, false_and, and_false, and_self, eq_self, not_true_eq_false, not_false_eq_true, Nat.reduceEqDiff, reduceCtorEq, Nat.succ_ne_self, Nat.reduceAdd, Nat.reduceMul]
    · simp only [gI, pI, gL, pL, b1_s, b2_s, bn_s, rz0, rz1, isO_sI, isO_sL, isO_cI, gR_sI, gR_sL, gR_cI, ldR_sI, ldR_sL, mI_w, mL_w, mI_sL, mL_sI, mI_cI, mR_sI, mR_sL, mR_cI, mL_cI, if_true, if_false, true_and, and_true, false_and, and_false, and_self, eq_self, not_true_eq_false, not_false_eq_true, Nat.reduceEqDiff, reduceCtorEq, Nat.succ_ne_self, Nat.reduceAdd, Nat.reduceMul]; exact b4 p hp
    · simp only [gI, pI, gL, pL, b1_s, b2_s, bn_s, rz0, rz1, isO_sI, isO_sL, isO_cI, gR_sI, gR_sL, gR_cI, ldR_sI, ldR_sL, mI_w, mL_w, mI_sL, mL_sI, mI_cI, mR_sI, mR_sL, mR_cI, mL_cI, if_true, if_false, true_and, and_true, false_and, and_false, and_self, eq_self, not_true_eq_false, not_false_eq_true, Nat.reduceEqDiff, reduceCtorEq, Nat.succ_ne_self, Nat.reduceAdd, Nat.reduceMul]; exact b5 e he
    · simp only [gI, pI, gL, pL, b1_s, b2_s, bn_s, rz0, rz1, isO_sI, isO_sL, isO_cI, gR_sI, gR_sL, gR_cI, ldR_sI, ldR_sL, mI_w, mL_w, mI_sL, mL_sI, mI_cI, mR_sI, mR_sL, mR_cI, mL_cI, if_true, if_false, true_and, and_true, false_and, and_false, and_self, eq_self, not_true_eq_false, not_false_eq_true, Nat.reduceEqDiff, reduceCtorEq, Nat.succ_ne_self, Nat.reduceAdd, Nat.reduceMul]; exact b6 p e hp he
  · rw [if_neg (fun q => hv (trn_c'.mp q)), if_neg hv, if_neg hv, if_pos rfl]
    exact ⟨sI M 143 0 0, rfl, h.fr ((Fr.rf M).sI (by unfold wR; omega)) h0, (Fr.rf M).sI (by unfold rW; omega), rfl⟩
/-! forget -/
def a_forget (s : St) : Int32 := nI (zS s)
def n_forget (s : St) : St := zset s 0 4 0
theorem W_forget {s : St} (hw : WF s) : WF (n_forget s) := by
  obtain ⟨⟨a1, a2, a3, a4, a5, a6, a7, a8⟩, b, c, d, e⟩ := hw
  exact ⟨⟨a1, a2, a3, a4, a5, Nat.zero_le _, a7, a8⟩, b, c, fun k hk => absurd hk (Nat.not_lt_zero k), e⟩
theorem C_forget {s : St} (hw : WF s) : OpC (fun M => f_X11_forget 0 M) s (a_forget s) (n_forget s) := by
  intro M h
  have h0 := h.1
  have hL := h.2.2.2.2.2.2.2.2.1
  have f := frOne M 133 4 0
  refine ⟨sI M 133 4 0, ?_, ⟨h0, (h.2.1.fr f (fun a k q => by first | omega | (unfold wText; omega))), (h.2.2.1.fr f (fun a k q => by first | omega | (unfold wText; omega))), (h.2.2.2.1.fr f (fun a k q => by first | omega | (unfold wText; omega))), (h.2.2.2.2.1.frw f (fun a k q => by first | omega | (unfold wText; omega))), (h.2.2.2.2.2.1.fr f (fun a k q => by first | omega | (unfold wText; omega))), (h.2.2.2.2.2.2.1.fr f (fun a k q => by first | omega | (unfold wText; omega))), (h.2.2.2.2.2.2.2.1.fr f (fun a k q => by first | omega | (unfold wText; omega))), ⟨?_, fun k hk => absurd hk (Nat.not_lt_zero k)⟩⟩, f.mono (fun a k q => by unfold cW; omega)⟩
  · simp only [f_X11_forget, f_X11_forget_0, gI, pI, gL, pL, b1_s, b2_s, bn_s, rz0, rz1, isO_sI, isO_sL, isO_cI, gR_sI, gR_sL, gR_cI, ldR_sI, ldR_sL, mI_w, mL_w, mI_sL, mL_sI, mI_cI, mR_sI, mR_sL, mR_cI, mL_cI, if_true, if_false, true_and, and_true, false_and, and_false, and_self, eq_self, not_true_eq_false, not_false_eq_true, Nat.reduceEqDiff, reduceCtorEq, Nat.succ_ne_self, Nat.reduceAdd, Nat.reduceMul, cCO h0, cCR h0, hL, a_forget]
  · simp only [gI, pI, gL, pL, b1_s, b2_s, bn_s, rz0, rz1, isO_sI, isO_sL, isO_cI, gR_sI, gR_sL, gR_cI, ldR_sI, ldR_sL, mI_w, mL_w, mI_sL, mL_sI, mI_cI, mR_sI, mR_sL, mR_cI, mL_cI, if_true, if_false, true_and, and_true, false_and, and_false, and_self, eq_self, not_true_eq_false, not_false_eq_true, Nat.reduceEqDiff, reduceCtorEq, Nat.succ_ne_self, Nat.reduceAdd, Nat.reduceMul]; rfl
theorem R_forget {s : St} (hw : WF s) : OpR (fun M => f_X12_forget 143 M) s (a_forget s) (n_forget s) := by
  intro M h
  have h0 := h.1
  have hL := h.2.2.2.2.2.2.2.2.1
  have f : Fr (fun a k => a = 143 ∧ (k = 0 ∨ k = 51)) M (sI (sI M 143 0 0) 143 51 0) := ((Fr.rf M).sI ⟨rfl, Or.inl rfl⟩).sI ⟨rfl, Or.inr rfl⟩
  refine ⟨sI (sI M 143 0 0) 143 51 0, ?_, ⟨h0, (h.2.1.fr f (fun a k q => by first | omega | (unfold wText; omega))), (h.2.2.1.fr f (fun a k q => by first | omega | (unfold wText; omega))), (h.2.2.2.1.fr f (fun a k q => by first | omega | (unfold wText; omega))), (h.2.2.2.2.1.frw f (fun a k q => by first | omega | (unfold wText; omega))), (h.2.2.2.2.2.1.fr f (fun a k q => by first | omega | (unfold wText; omega))), (h.2.2.2.2.2.2.1.fr f (fun a k q => by first | omega | (unfold wText; omega))), (h.2.2.2.2.2.2.2.1.fr f (fun a k q => by first | omega | (unfold wText; omega))), ⟨?_, fun k hk => absurd hk (Nat.not_lt_zero k)⟩⟩, f.mono (fun a k q => by unfold rW; omega), rfl⟩
  · simp only [f_X12_forget, f_X12_forget_0, gI, pI, gL, pL, b1_s, b2_s, bn_s, rz0, rz1, isO_sI, isO_sL, isO_cI, gR_sI, gR_sL, gR_cI, ldR_sI, ldR_sL, mI_w, mL_w, mI_sL, mL_sI, mI_cI, mR_sI, mR_sL, mR_cI, mL_cI, if_true, if_false, true_and, and_true, false_and, and_false, and_self, eq_self, not_true_eq_false, not_false_eq_true, Nat.reduceEqDiff, reduceCtorEq, Nat.succ_ne_self, Nat.reduceAdd, Nat.reduceMul, cRO h0, cRR h0, hL, a_forget]
  · simp only [gI, pI, gL, pL, b1_s, b2_s, bn_s, rz0, rz1, isO_sI, isO_sL, isO_cI, gR_sI, gR_sL, gR_cI, ldR_sI, ldR_sL, mI_w, mL_w, mI_sL, mL_sI, mI_cI, mR_sI, mR_sL, mR_cI, mL_cI, if_true, if_false, true_and, and_true, false_and, and_false, and_self, eq_self, not_true_eq_false, not_false_eq_true, Nat.reduceEqDiff, reduceCtorEq, Nat.succ_ne_self, Nat.reduceAdd, Nat.reduceMul]; rfl
theorem case_0 : CaseOK g_L_0 := by
  intro L xs j K M hL hj hc
  obtain ⟨s, hw, hc, hr⟩ := hc
  obtain ⟨M1, M2, hcp, e1, e2⟩ := asm (C_sign hw (xs (j + 1))) (R_sign hw (xs (j + 1))) (W_sign hw (xs (j + 1))) hc hr
  refine ⟨M2, hcp, ?_⟩
  unfold g_L_0
  simp only [show (nI j + 1 : Int32) = nI (j + 1) from nI_add _ 1, show (nI j + 2 : Int32) = nI (j + 2) from nI_add _ 2, show (nI j + 3 : Int32) = nI (j + 3) from nI_add _ 3, show (nI j + 4 : Int32) = nI (j + 4) from nI_add _ 4, scr_k (show j + 1 < L by omega) hL, scr_k (show j + 2 < L by omega) hL, scr_k (show j + 3 < L by omega) hL, scr_k (show j + 4 < L by omega) hL, b1_s, e1, e2, b2_s, if_true]
theorem case_1 : CaseOK g_L_1 := by
  intro L xs j K M hL hj hc
  obtain ⟨s, hw, hc, hr⟩ := hc
  obtain ⟨M1, M2, hcp, e1, e2⟩ := asm (C_end hw (xs (j + 1))) (R_end hw (xs (j + 1))) (W_end hw (xs (j + 1))) hc hr
  refine ⟨M2, hcp, ?_⟩
  unfold g_L_1
  simp only [show (nI j + 1 : Int32) = nI (j + 1) from nI_add _ 1, show (nI j + 2 : Int32) = nI (j + 2) from nI_add _ 2, show (nI j + 3 : Int32) = nI (j + 3) from nI_add _ 3, show (nI j + 4 : Int32) = nI (j + 4) from nI_add _ 4, scr_k (show j + 1 < L by omega) hL, scr_k (show j + 2 < L by omega) hL, scr_k (show j + 3 < L by omega) hL, scr_k (show j + 4 < L by omega) hL, b1_s, e1, e2, b2_s, if_true]
theorem case_10 : CaseOK g_L_10 := by
  intro L xs j K M hL hj hc
  obtain ⟨s, hw, hc, hr⟩ := hc
  obtain ⟨M1, M2, hcp, e1, e2⟩ := asm (C_train hw (xs (j + 1))) (R_train hw (xs (j + 1))) (W_train hw (xs (j + 1))) hc hr
  refine ⟨M2, hcp, ?_⟩
  unfold g_L_10
  simp only [show (nI j + 1 : Int32) = nI (j + 1) from nI_add _ 1, show (nI j + 2 : Int32) = nI (j + 2) from nI_add _ 2, show (nI j + 3 : Int32) = nI (j + 3) from nI_add _ 3, show (nI j + 4 : Int32) = nI (j + 4) from nI_add _ 4, scr_k (show j + 1 < L by omega) hL, scr_k (show j + 2 < L by omega) hL, scr_k (show j + 3 < L by omega) hL, scr_k (show j + 4 < L by omega) hL, b1_s, e1, e2, b2_s, if_true]
theorem case_39 : CaseOK g_L_39 := by
  intro L xs j K M hL hj hc
  obtain ⟨s, hw, hc, hr⟩ := hc
  obtain ⟨M1, M2, hcp, e1, e2⟩ := asm (C_forget hw) (R_forget hw) (W_forget hw) hc hr
  refine ⟨M2, hcp, ?_⟩
  unfold g_L_39
  simp only [show (nI j + 1 : Int32) = nI (j + 1) from nI_add _ 1, show (nI j + 2 : Int32) = nI (j + 2) from nI_add _ 2, show (nI j + 3 : Int32) = nI (j + 3) from nI_add _ 3, show (nI j + 4 : Int32) = nI (j + 4) from nI_add _ 4, scr_k (show j + 1 < L by omega) hL, scr_k (show j + 2 < L by omega) hL, scr_k (show j + 3 < L by omega) hL, scr_k (show j + 4 < L by omega) hL, b1_s, e1, e2, b2_s, if_true]

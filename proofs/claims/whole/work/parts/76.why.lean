/-! WHY A TRIP IS NOT LAWFUL -/
def p3 (s : St) (q : Pl) (i k : Nat) : Bool := decide (k ≠ i) && (decide (tw (q.2 k) = tw (q.2 i)) && meetB s (q.2 i) (q.2 k))
def p4 (s : St) (q : Pl) (i k : Nat) : Bool := decide (k ≠ i) && (decide (0 < zthi s (te (q.2 i))) && (decide (zthi s (te (q.2 k)) = zthi s (te (q.2 i))) && (meetB s (q.2 i) (q.2 k) && !oneB (q.2 i) (q.2 k))))
def p5 (q : Pl) (i k : Nat) : Bool := decide (k ≠ i) && (!decide (tw (q.2 k) = tw (q.2 i)) && oneB (q.2 i) (q.2 k))
def thP (s : St) (q : Pl) (e m j : Nat) : Bool := decide (zthi s (te (q.2 j)) = zthi s e) && (decide (ts (q.2 j) < m + zlen s e ∧ m < tback s (q.2 j)) && !decide (te (q.2 j) = e ∧ ts (q.2 j) = m))
def thO (s : St) (q : Pl) (e m : Nat) : Bool := decide (0 < zthi s e) && anyB (thP s q e m) q.1
def coP (q : Pl) (p e m j : Nat) : Bool := !decide (tw (q.2 j) = p) && decide (te (q.2 j) = e ∧ ts (q.2 j) = m)
def coB (q : Pl) (p e m : Nat) : Bool := anyB (coP q p e m) q.1
def whyS (s : St) (q : Pl) (i : Nat) : Nat := if zT s < tback s (q.2 i) then 1 else if opB s (te (q.2 i)) (ts (q.2 i)) = false then 2 else if anyB (p3 s q i) q.1 = true then 3 else if thO s q (te (q.2 i)) (ts (q.2 i)) = true then 4 else if zshy s (tw (q.2 i)) = 0 ∨ coB q (tw (q.2 i)) (te (q.2 i)) (ts (q.2 i)) = true then 0 else 5
theorem whyS_lt (s : St) (q : Pl) (i : Nat) : whyS s q i < 6 := by unfold whyS; repeat' (first | decide | split)
section WHR
variable {s : St} {M : MM} {a : Nat} {q : Pl}
theorem p4_th {i : Nat} (hi : i < q.1) : anyB (p4 s q i) q.1 = thO s q (te (q.2 i)) (ts (q.2 i)) := by
  unfold thO
  by_cases h0 : 0 < zthi s (te (q.2 i))
  · rw [decide_eq_true h0, Bool.true_and]
    refine anyB_cong (fun k hk => ?_)
    unfold p4 thP meetB oneB
    rw [decide_eq_true h0, Bool.true_and]
    by_cases hk : k = i
    · subst hk
      simp
    · rw [decide_eq_true hk, Bool.true_and]
      congr 1
      congr 1
      · rw [decide_eq_decide]
        show _ ∧ _ ↔ _
        unfold tback
        omega
      · congr 1
        rw [decide_eq_decide]
        omega
  · rw [decide_eq_false h0, Bool.false_and]
    refine anyB_f (fun k hk => ?_)
    unfold p4
    rw [decide_eq_false h0, Bool.false_and, Bool.and_false]
theorem p5_co {i : Nat} : anyB (p5 q i) q.1 = coB q (tw (q.2 i)) (te (q.2 i)) (ts (q.2 i)) := by
  unfold coB
  refine anyB_cong (fun k hk => ?_)
  unfold p5 coP oneB
  by_cases hk : k = i
  · subst hk
    simp
  · rw [decide_eq_true hk, Bool.true_and]
    congr 1
    rw [decide_eq_decide]
    omega
theorem w177 (h : RX s M a q) {i k : Nat} (hi : i < q.1) (hk : k < q.1) (hne : k ≠ i) (K : Nat → Nat → Int32 → Int32 → Int32 → Int32 → Int32 → Int32 → MM → Option (Int32 × MM)) (e x4 x5 : Int32) (C : Bool) : f_X12_whyNot_177 K 143 a (nI i) e x4 (bI C) (nI k) x5 M = K 143 a (nI i) e x4 x5 (bI (C || p5 q i k)) (nI (k + 1)) M := by
  have hb := okT_b (h.2.2.2.2.2.2.2 i hi)
  have hc := okT_b (h.2.2.2.2.2.2.2 k hk)
  have hP := h.2.2.1.1
  unfold f_X12_whyNot_177 f_X12_whyNot_208 f_X12_whyNot_212 f_X12_whyNot_213 f_X12_whyNot_215
  simp only [r_who h hi, r_who h hk, r_one h hi hk, b2_s, bn_s, nI_1, bI_0, nI_eq (show tw (q.2 k) < 2 ^ 31 by omega) (show tw (q.2 i) < 2 ^ 31 by omega)]
  unfold p5
  rw [decide_eq_true hne, Bool.true_and]
  cases C
  · rw [if_pos rfl]
    by_cases h1 : tw (q.2 k) = tw (q.2 i)
    · rw [if_pos h1, decide_eq_true h1]; rfl
    · rw [if_neg h1, decide_eq_false h1]
      cases oneB (q.2 i) (q.2 k) <;> rfl
  · rw [if_neg (by decide)]; rfl
theorem w115 (h : RX s M a q) {i k : Nat} (hi : i < q.1) (hk : k < q.1) (hne : k ≠ i) (K : Nat → Nat → Int32 → Int32 → Int32 → Int32 → Int32 → Int32 → MM → Option (Int32 × MM)) (x4 : Int32) (B C : Bool) : f_X12_whyNot_115 K 143 a (nI i) (nI (te (q.2 i))) (bI B) (bI C) (nI k) x4 M = K 143 a (nI i) (nI (te (q.2 i))) x4 (bI (B || p4 s q i k)) (bI (C || p5 q i k)) (nI (k + 1)) M := by
  have hb := okT_b (h.2.2.2.2.2.2.2 i hi)
  have hc := okT_b (h.2.2.2.2.2.2.2 k hk)
  have h0 := h.1
  have t1 := (h.2.2.2.1.2.1 _ hb.2.2.1).2.2.2.2.2.1
  have t2 := (h.2.2.2.1.2.1 _ hc.2.2.1).2.2.2.2.2.1
  unfold f_X12_whyNot_115 f_X12_whyNot_172 f_X12_whyNot_176
  simp only [gI, pI, gL, pL, b1_s, b2_s, bn_s, rz0, rz1, isO_sI, isO_sL, isO_cI, gR_sI, gR_sL, gR_cI, ldR_sI, ldR_sL, mI_w, mL_w, mI_sL, mL_sI, mI_cI, mR_sI, mR_sL, mR_cI, mL_cI, if_true, if_false, true_and, and_true, false_and, and_false, and_self, eq_self, not_true_eq_false, not_false_eq_true, Nat.reduceEqDiff, reduceCtorEq, Nat.succ_ne_self, Nat.reduceAdd, Nat.reduceMul, cRO h0, cRR h0, lr_thi h.1 h.2.1 h.2.2.1 hb.2.2.1, lr_thi h.1 h.2.1 h.2.2.1 hc.2.2.1, r_what h hk, r_meet h hi hk, r_one h hi hk, bI_0, nI_eq (show zthi s (te (q.2 k)) < 2 ^ 31 by omega) (show zthi s (te (q.2 i)) < 2 ^ 31 by omega), w177 h hi hk hne]
  unfold p4
  rw [decide_eq_true hne, Bool.true_and]
  cases B
  · rw [if_pos rfl]
    by_cases h1 : 0 < zthi s (te (q.2 i))
    · rw [if_neg (nI_nle h1 (by omega)), decide_eq_true h1, Bool.true_and]
      by_cases h2 : zthi s (te (q.2 k)) = zthi s (te (q.2 i))
      · rw [if_pos h2, decide_eq_true h2, Bool.true_and]
        cases meetB s (q.2 i) (q.2 k) <;> cases oneB (q.2 i) (q.2 k) <;> rfl
      · rw [if_neg h2, decide_eq_false h2]; rfl
    · rw [if_pos (show nI (zthi s (te (q.2 i))) ≤ (0 : Int32) from nI_le (b := 0) (by omega) (by decide)), decide_eq_false h1]; rfl
  · rw [if_neg (by decide)]; rfl
theorem w65 (h : RX s M a q) {i k : Nat} (hi : i < q.1) (hk : k < q.1) (n : Nat) (A B C : Bool) : f_X12_whyNot_65 (n + 1) 143 a (nI i) (nI (te (q.2 i))) (bI A) (bI B) (bI C) (nI k) M = f_X12_whyNot_65 n 143 a (nI i) (nI (te (q.2 i))) (bI (A || p3 s q i k)) (bI (B || p4 s q i k)) (bI (C || p5 q i k)) (nI (k + 1)) M := by
  have hb := okT_b (h.2.2.2.2.2.2.2 i hi)
  have hc := okT_b (h.2.2.2.2.2.2.2 k hk)
  have hP := h.2.2.1.1
  have h15 := h.2.2.2.2.2.2.1
  rw [f_X12_whyNot_65, r_size h, b1_s, if_neg (nI_ge hk (by omega))]
  by_cases hne : k = i
  · subst hne
    rw [if_pos rfl]
    unfold f_X12_whyNot_215 p3 p4 p5
    rw [bn_s, nI_1]
    simp
  · rw [if_neg (by rw [nI_eq (by omega) (by omega)]; exact hne)]
    unfold f_X12_whyNot_110 f_X12_whyNot_114
    simp only [r_who h hi, r_who h hk, r_meet h hi hk, b2_s, bI_0, nI_eq (show tw (q.2 k) < 2 ^ 31 by omega) (show tw (q.2 i) < 2 ^ 31 by omega), w115 h hi hk hne]
    unfold p3
    rw [decide_eq_true hne, Bool.true_and]
    cases A
    · rw [if_pos rfl]
      by_cases h1 : tw (q.2 k) = tw (q.2 i)
      · rw [if_pos h1, decide_eq_true h1]
        cases meetB s (q.2 i) (q.2 k) <;> rfl
      · rw [if_neg h1, decide_eq_false h1]; rfl
    · rw [if_neg (by decide)]; rfl
theorem w60 (h : RX s M a q) {i : Nat} (hi : i < q.1) (C : Bool) : f_X12_whyNot_60 143 a (nI i) (nI (te (q.2 i))) 0 0 (bI C) M = some (nI (if anyB (p3 s q i) q.1 = true then 3 else if anyB (p4 s q i) q.1 = true then 4 else if (C || anyB (p5 q i) q.1) = true then 0 else 5), M) := by
  have h15 := h.2.2.2.2.2.2.1
  unfold f_X12_whyNot_60
  have this : f_X12_whyNot_65 1024 143 a (nI i) (nI (te (q.2 i))) (bI (anyB (p3 s q i) 0)) (bI (anyB (p4 s q i) 0)) (bI (C || anyB (p5 q i) 0)) (nI 0) M = _ := lpv (fun f k => f_X12_whyNot_65 f 143 a (nI i) (nI (te (q.2 i))) (bI (anyB (p3 s q i) k)) (bI (anyB (p4 s q i) k)) (bI (C || anyB (p5 q i) k)) (nI k) M) q.1 (nI (if anyB (p3 s q i) q.1 = true then 3 else if anyB (p4 s q i) q.1 = true then 4 else if (C || anyB (p5 q i) q.1) = true then 0 else 5), M) (fun f k hk => Or.inl ?_) (fun f => ?_) 1024 0 (by omega) (by omega)
  · rw [show (C || anyB (p5 q i) 0) = C from Bool.or_false C] at this; exact this
  · show f_X12_whyNot_65 (f + 1) _ _ _ _ _ _ _ _ _ = _
    rw [w65 h hi hk, anyB, anyB, anyB, Bool.or_assoc]
  · show f_X12_whyNot_65 (f + 1) _ _ _ _ _ _ _ _ _ = _
    rw [f_X12_whyNot_65, r_size h, b1_s, if_pos (nI_le (Nat.le_refl _) (by omega))]
    cases anyB (p3 s q i) q.1 <;> cases anyB (p4 s q i) q.1 <;> cases (C || anyB (p5 q i) q.1) <;> rfl
theorem r_why (h : RX s M a q) {i : Nat} (hi : i < q.1) : f_X12_whyNot 143 a (nI i) M = some (nI (whyS s q i), M) := by
  have hb := okT_b (h.2.2.2.2.2.2.2 i hi)
  have hc := tback_b h.2.2.2.1 (h.2.2.2.2.2.2.2 i hi)
  have h0 := h.1
  have hT := h.2.2.1.2.2.2.1
  have hy := h.2.2.2.1.1 _ hb.2.1
  unfold f_X12_whyNot f_X12_whyNot_0 whyS
  simp only [gI, pI, gL, pL, b1_s, b2_s, bn_s, rz0, rz1, isO_sI, isO_sL, isO_cI, gR_sI, gR_sL, gR_cI, ldR_sI, ldR_sL, mI_w, mL_w, mI_sL, mL_sI, mI_cI, mR_sI, mR_sL, mR_cI, mL_cI, if_true, if_false, true_and, and_true, false_and, and_false, and_self, eq_self, not_true_eq_false, not_false_eq_true, Nat.reduceEqDiff, reduceCtorEq, Nat.succ_ne_self, Nat.reduceAdd, Nat.reduceMul, cRO h0, cRR h0, r_what h hi, r_back h hi, r_start h hi, r_who h hi, e_fits h.1 h.2.1 h.2.2.1 h.2.2.2.1 hb.2.2.1 hb.2.2.2, lr_shy h.1 h.2.1 h.2.2.1 hb.2.1, h.2.1.2.2.1, bI_0]
  rw [show (1 : Int32) = bI true from rfl, show f_X12_whyNot_60 143 a (nI i) (nI (te (q.2 i))) 0 0 0 M = f_X12_whyNot_60 143 a (nI i) (nI (te (q.2 i))) 0 0 (bI false) M from rfl, w60 h hi, w60 h hi, p4_th hi, p5_co]
  by_cases h1 : zT s < tback s (q.2 i)
  · rw [if_neg (nI_ge h1 (by omega)), if_pos h1]; rfl
  · rw [if_pos (nI_le (by omega) (by omega)), if_neg h1]
    cases opB s (te (q.2 i)) (ts (q.2 i))
    · rfl
    · simp only [Bool.true_eq_false, if_false]
      by_cases hz : zshy s (tw (q.2 i)) = 0
      · rw [hz, if_pos (show nI 0 = 0 from rfl)]
        simp
      · rw [if_neg (nI_ne0 (by omega) (by omega))]
        simp [hz]
end WHR
def LX (L a : Nat) : Prop := (L = 18 ∧ a = 14) ∨ (L = 51 ∧ a = 16)
section WHC
variable {s : St} {M : MM} {a L : Nat} {q : Pl}
theorem lx_O (h0 : Sh M) (hl : LX L a) : isO 1 L M = true := by rcases hl with ⟨rfl, rfl⟩ | ⟨rfl, rfl⟩ <;> simp only [cCO h0]
theorem lx_0 (h0 : Sh M) (hl : LX L a) : gR 1 0 L M = some 5 := by rcases hl with ⟨rfl, rfl⟩ | ⟨rfl, rfl⟩ <;> simp only [cCR h0]
theorem lx_1 (h0 : Sh M) (hl : LX L a) : gR 1 1 L M = some a := by rcases hl with ⟨rfl, rfl⟩ | ⟨rfl, rfl⟩ <;> simp only [cCR h0]
theorem c_back (h : CX s M a q) (hl : LX L a) {i : Nat} (hi : i < q.1) : f_X1_back L (nI i) M = some (nI (tback s (q.2 i)), M) := by
  have hb := okT_b (h.2.2.2.2.2.2.2 i hi)
  have h0 := h.1
  unfold f_X1_back f_X1_back_0
  simp only [gI, pI, gL, pL, b1_s, b2_s, bn_s, rz0, rz1, isO_sI, isO_sL, isO_cI, gR_sI, gR_sL, gR_cI, ldR_sI, ldR_sL, mI_w, mL_w, mI_sL, mL_sI, mI_cI, mR_sI, mR_sL, mR_cI, mL_cI, if_true, if_false, true_and, and_true, false_and, and_false, and_self, eq_self, not_true_eq_false, not_false_eq_true, Nat.reduceEqDiff, reduceCtorEq, Nat.succ_ne_self, Nat.reduceAdd, Nat.reduceMul, lx_O h0 hl, lx_0 h0 hl, lx_1 h0 hl, e_first h hi, e_what h hi, e_len h.1 h.2.1 h.2.2.1 hb.2.2.1, nI_add]
  rfl
theorem c_size (h : CX s M a q) : gI 5 1 a M = some (nI q.1) := by rw [gI_k 1 (pa_O h.1 h.2.2.2.2.1), h.2.2.2.2.2.1.1]
theorem c_anoth (h : CX s M a q) (hl : LX L a) {i : Nat} (hi : i < q.1) : f_X1_isAwayByAnother L (nI i) M = some (bI (anyB (p3 s q i) q.1), M) := by
  have h0 := h.1
  have h12 := h.2.2.2.2.2.2.1
  unfold f_X1_isAwayByAnother f_X1_isAwayByAnother_0
  rw [if_pos (lx_O h0 hl)]
  refine lpa (fun f k => f_X1_isAwayByAnother_2 f L (nI i) (nI k) M) (p3 s q i) q.1 (fun f k hk => ?_) (fun f => ?_) 1024 (by omega)
  · have hb := okT_b (h.2.2.2.2.2.2.2 i hi)
    have hc := okT_b (h.2.2.2.2.2.2.2 k hk)
    have hb2 := tback_b h.2.2.2.1 (h.2.2.2.2.2.2.2 i hi)
    have hc2 := tback_b h.2.2.2.1 (h.2.2.2.2.2.2.2 k hk)
    have hP := h.2.2.1.1
    rw [f_X1_isAwayByAnother_2, lx_1 h0 hl, b1_s, c_size h, b1_s, if_neg (nI_ge hk (by omega))]
    unfold f_X1_isAwayByAnother_41 f_X1_isAwayByAnother_42 f_X1_isAwayByAnother_81 p3 meetB
    by_cases hne : k = i
    · subst hne
      rw [if_pos rfl, if_pos rfl, bn_s, nI_1]
      simp
    · rw [if_neg (by rw [nI_eq (by omega) (by omega)]; exact hne), decide_eq_true hne, Bool.true_and]
      simp only [lx_1 h0 hl, b1_s, e_who h hi, e_who h hk, e_first h hi, e_first h hk, c_back h hl hi, c_back h hl hk, b2_s, bn_s, nI_1, rz1, if_true]
      by_cases h1 : tw (q.2 k) = tw (q.2 i)
      · rw [if_pos (by rw [h1]), if_neg (by decide), decide_eq_true h1, Bool.true_and]
        by_cases h2 : tback s (q.2 i) ≤ ts (q.2 k)
        · rw [if_pos (nI_le h2 (by omega)), decide_eq_false (by omega), if_neg (by decide)]
        · rw [if_neg (nI_ge (by omega) (by omega))]
          by_cases h3 : tback s (q.2 k) ≤ ts (q.2 i)
          · rw [if_pos (nI_le h3 (by omega)), decide_eq_false (by omega), if_neg (by decide)]
          · rw [if_neg (nI_ge (by omega) (by omega)), decide_eq_true (by omega), if_pos rfl]
      · rw [if_neg (by rw [nI_eq (by omega) (by omega)]; exact h1), decide_eq_false h1, Bool.false_and]
        simp
  · show f_X1_isAwayByAnother_2 (f + 1) _ _ _ _ = _
    rw [f_X1_isAwayByAnother_2, lx_1 h0 hl, b1_s, c_size h, b1_s, if_pos (nI_le (Nat.le_refl _) (by omega)), rz0]
theorem c_thing (h : CX s M a q) (hl : LX L a) {e m : Nat} (he : e < zE s) (hm : m < 100) : f_X1_thingIsOut L (nI e) (nI m) M = some (bI (thO s q e m), M) := by
  have h0 := h.1
  have h12 := h.2.2.2.2.2.2.1
  have hE := h.2.2.1.2.1
  have hB := h.2.2.2.1.2.1 e he
  have hlen : zlen s e ≤ 27 := by unfold zlen; omega
  unfold f_X1_thingIsOut f_X1_thingIsOut_0 thO
  simp only [gI, pI, gL, pL, b1_s, b2_s, bn_s, rz0, rz1, isO_sI, isO_sL, isO_cI, gR_sI, gR_sL, gR_cI, ldR_sI, ldR_sL, mI_w, mL_w, mI_sL, mL_sI, mI_cI, mR_sI, mR_sL, mR_cI, mL_cI, if_true, if_false, true_and, and_true, false_and, and_false, and_self, eq_self, not_true_eq_false, not_false_eq_true, Nat.reduceEqDiff, reduceCtorEq, Nat.succ_ne_self, Nat.reduceAdd, Nat.reduceMul, cCO h0, cCR h0, lx_O h0 hl, lx_0 h0 hl, lc_thi h.1 h.2.1 h.2.2.1 he, e_len h.1 h.2.1 h.2.2.1 he, nI_add]
  by_cases hz : zthi s e = 0
  · rw [hz, if_pos (show nI 0 = 0 from rfl)]; rfl
  · rw [if_neg (nI_ne0 (by omega) (by omega)), decide_eq_true (by omega), Bool.true_and]
    refine lpa (fun f k => f_X1_thingIsOut_28 f L (nI e) (nI m) (nI (m + zlen s e)) (nI k) M) (thP s q e m) q.1 (fun f k hk => ?_) (fun f => ?_) 1024 (by omega)
    · have hc := okT_b (h.2.2.2.2.2.2.2 k hk)
      have hc2 := tback_b h.2.2.2.1 (h.2.2.2.2.2.2.2 k hk)
      have t2 := (h.2.2.2.1.2.1 _ hc.2.2.1).2.2.2.2.2.1
      rw [f_X1_thingIsOut_28, lx_1 h0 hl, b1_s, c_size h, b1_s, if_neg (nI_ge hk (by omega))]
      unfold f_X1_thingIsOut_74 f_X1_thingIsOut_103 f_X1_thingIsOut_104 f_X1_thingIsOut_132 thP
      simp only [gI, pI, gL, pL, b1_s, b2_s, bn_s, rz0, rz1, isO_sI, isO_sL, isO_cI, gR_sI, gR_sL, gR_cI, ldR_sI, ldR_sL, mI_w, mL_w, mI_sL, mL_sI, mI_cI, mR_sI, mR_sL, mR_cI, mL_cI, if_true, if_false, true_and, and_true, false_and, and_false, and_self, eq_self, not_true_eq_false, not_false_eq_true, Nat.reduceEqDiff, reduceCtorEq, Nat.succ_ne_self, Nat.reduceAdd, Nat.reduceMul, cCO h0, cCR h0, lx_0 h0 hl, lx_1 h0 hl, e_what h hk, e_first h hk, c_back h hl hk, lc_thi h.1 h.2.1 h.2.2.1 he, lc_thi h.1 h.2.1 h.2.2.1 hc.2.2.1, e_tog h hk (show e < 8 by omega) (show m < 200 by omega), nI_1, bI_0, nI_eq (show zthi s (te (q.2 k)) < 2 ^ 31 by omega) (show zthi s e < 2 ^ 31 by omega)]
      by_cases h2 : m + zlen s e ≤ ts (q.2 k)
      · simp only [if_pos (nI_le h2 (show ts (q.2 k) < 2 ^ 31 by omega))]
        rw [decide_eq_false (show ¬ (ts (q.2 k) < m + zlen s e ∧ m < tback s (q.2 k)) by omega)]
        simp
      · simp only [if_neg (nI_ge (show ts (q.2 k) < m + zlen s e by omega) (show m + zlen s e < 2 ^ 31 by omega))]
        by_cases h3 : tback s (q.2 k) ≤ m
        · simp only [if_pos (nI_le h3 (show m < 2 ^ 31 by omega))]
          rw [decide_eq_false (show ¬ (ts (q.2 k) < m + zlen s e ∧ m < tback s (q.2 k)) by omega)]
          simp
        · simp only [if_neg (nI_ge (show m < tback s (q.2 k) by omega) (show tback s (q.2 k) < 2 ^ 31 by omega))]
          rw [decide_eq_true (show (ts (q.2 k) < m + zlen s e ∧ m < tback s (q.2 k)) by omega), Bool.true_and]
          by_cases h1 : zthi s (te (q.2 k)) = zthi s e
          · rw [if_pos h1, decide_eq_true h1, Bool.true_and, if_neg (by decide), if_neg (by decide)]
            cases decide (te (q.2 k) = e ∧ ts (q.2 k) = m) <;> rfl
          · rw [if_neg h1, decide_eq_false h1]; rfl
    · show f_X1_thingIsOut_28 (f + 1) _ _ _ _ _ _ = _
      rw [f_X1_thingIsOut_28, lx_1 h0 hl, b1_s, c_size h, b1_s, if_pos (nI_le (Nat.le_refl _) (by omega)), rz0]
theorem c_comp (h : CX s M a q) (hl : LX L a) {p e m : Nat} (hp : p < 8) (he : e < 8) (hm : m < 100) : f_X1_hasCompany L (nI p) (nI e) (nI m) M = some (bI (coB q p e m), M) := by
  have h0 := h.1
  have h12 := h.2.2.2.2.2.2.1
  unfold f_X1_hasCompany f_X1_hasCompany_0 coB
  rw [if_pos (lx_O h0 hl)]
  refine lpa (fun f k => f_X1_hasCompany_3 f L (nI p) (nI e) (nI m) (nI k) M) (coP q p e m) q.1 (fun f k hk => ?_) (fun f => ?_) 1024 (by omega)
  · have hc := okT_b (h.2.2.2.2.2.2.2 k hk)
    have hP := h.2.2.1.1
    rw [f_X1_hasCompany_3, lx_1 h0 hl, b1_s, c_size h, b1_s, if_neg (nI_ge hk (by omega))]
    unfold f_X1_hasCompany_44 coP
    simp only [gI, pI, gL, pL, b1_s, b2_s, bn_s, rz0, rz1, isO_sI, isO_sL, isO_cI, gR_sI, gR_sL, gR_cI, ldR_sI, ldR_sL, mI_w, mL_w, mI_sL, mL_sI, mI_cI, mR_sI, mR_sL, mR_cI, mL_cI, if_true, if_false, true_and, and_true, false_and, and_false, and_self, eq_self, not_true_eq_false, not_false_eq_true, Nat.reduceEqDiff, reduceCtorEq, Nat.succ_ne_self, Nat.reduceAdd, Nat.reduceMul, lx_1 h0 hl, e_who h hk, e_tog h hk he (show m < 200 by omega), nI_1, bI_0, nI_eq (show tw (q.2 k) < 2 ^ 31 by omega) (show p < 2 ^ 31 by omega)]
    by_cases h1 : tw (q.2 k) = p
    · rw [if_pos h1, decide_eq_true h1]; rfl
    · rw [if_neg h1, decide_eq_false h1]
      cases decide (te (q.2 k) = e ∧ ts (q.2 k) = m) <;> rfl
  · show f_X1_hasCompany_3 (f + 1) _ _ _ _ _ _ = _
    rw [f_X1_hasCompany_3, lx_1 h0 hl, b1_s, c_size h, b1_s, if_pos (nI_le (Nat.le_refl _) (by omega)), rz0]
theorem c_why (h : CX s M a q) (hl : LX L a) {i : Nat} (hi : i < q.1) : f_X1_brokenBy L (nI i) M = some (nI (whyS s q i), M) := by
  have h0 := h.1
  have hb := okT_b (h.2.2.2.2.2.2.2 i hi)
  have hP := h.2.2.1.1
  have hE := h.2.2.1.2.1
  have hy := h.2.2.2.1.1 _ hb.2.1
  unfold f_X1_brokenBy f_X1_brokenBy_0 whyS
  simp only [gI, pI, gL, pL, b1_s, b2_s, bn_s, rz0, rz1, isO_sI, isO_sL, isO_cI, gR_sI, gR_sL, gR_cI, ldR_sI, ldR_sL, mI_w, mL_w, mI_sL, mL_sI, mI_cI, mR_sI, mR_sL, mR_cI, mL_cI, if_true, if_false, true_and, and_true, false_and, and_false, and_self, eq_self, not_true_eq_false, not_false_eq_true, Nat.reduceEqDiff, reduceCtorEq, Nat.succ_ne_self, Nat.reduceAdd, Nat.reduceMul, cCO h0, cCR h0, lx_O h0 hl, lx_0 h0 hl, lx_1 h0 hl, e_who h hi, e_what h hi, e_first h hi, e_ends h.1 h.2.1 h.2.2.1 h.2.2.2.1 hb.2.2.1 (show ts (q.2 i) < 200 by omega), e_open h.1 h.2.1 h.2.2.1 h.2.2.2.1 hb.2.2.1 (show ts (q.2 i) < 200 by omega), c_anoth h hl hi, c_thing h hl hb.2.2.1 hb.2.2.2, c_comp h hl (show tw (q.2 i) < 8 by omega) (show te (q.2 i) < 8 by omega) hb.2.2.2, lc_shy h.1 h.2.1 h.2.2.1 hb.2.1, bI_0]
  by_cases h1 : zT s < tback s (q.2 i)
  · rw [if_pos h1, decide_eq_false (by unfold tback at h1; omega)]; rfl
  · rw [if_neg h1, decide_eq_true (by unfold tback at h1; omega), if_neg (by decide)]
    cases opB s (te (q.2 i)) (ts (q.2 i))
    · rfl
    · simp only [Bool.true_eq_false, if_false]
      cases anyB (p3 s q i) q.1
      · simp only [Bool.false_eq_true, if_false, if_true]
        cases thO s q (te (q.2 i)) (ts (q.2 i))
        · simp only [Bool.false_eq_true, if_false, if_true]
          by_cases hz : zshy s (tw (q.2 i)) = 0
          · rw [hz, if_pos (show nI 0 = 0 from rfl), if_pos (Or.inl rfl)]; rfl
          · rw [if_neg (nI_ne0 (by omega) (by omega))]
            cases coB q (tw (q.2 i)) (te (q.2 i)) (ts (q.2 i)) <;> simp [hz] <;> rfl
        · rfl
      · rfl
end WHC

/-! COMPONENTS UNDER FRAMES -/
section CMP
variable {s : St} {M M' : MM} {W : Nat → Nat → Prop}
theorem rcText.fr (h : rcText s M) (f : Fr W M M') (w : ∀ a k, (a = 1 ∧ k = 1) ∨ a = 2 → ¬ W a k) : rcText s M' := ⟨(f.2.2.1 1 1 (w _ _ (by omega))).trans h.1, fun k hk => (f.2.2.1 2 k (w _ _ (by omega))).trans (h.2 k hk)⟩
theorem rcRow.fr (h : rcRow s M) (f : Fr W M M') (w : ∀ a k, (a = 3 ∧ k = 1) ∨ a = 4 → ¬ W a k) : rcRow s M' := ⟨(f.2.2.1 3 1 (w _ _ (by omega))).trans h.1, fun k hk => (f.2.2.2.1 4 k (w _ _ (by omega))).trans (h.2 k hk)⟩
theorem rcHall.fr (h : rcHall s M) (f : Fr W M M') (w : ∀ a k, (a = 5 ∧ 7 ≤ k ∧ k ≤ 9) ∨ (6 ≤ a ∧ a ≤ 13) → ¬ W a k) : rcHall s M' := by
  obtain ⟨a1, a2, a3, a4, a5, a6, a7⟩ := h
  have hI := f.2.2.1
  refine ⟨(hI 5 7 (w _ _ (by omega))).trans a1, (hI 5 8 (w _ _ (by omega))).trans a2, (hI 5 9 (w _ _ (by omega))).trans a3, fun p hp => (hI 6 p (w _ _ (by omega))).trans (a4 p hp), fun e he => ?_, fun p e hp he => (hI 13 _ (w _ _ (by omega))).trans (a6 p e hp he), fun p e hp hq he => (hI 13 _ (w _ _ (by omega))).trans (a7 p e hp hq he)⟩
  rw [hI 7 _ (w _ _ (by omega)), hI 8 _ (w _ _ (by omega)), hI 9 _ (w _ _ (by omega)), hI 10 _ (w _ _ (by omega)), hI 11 _ (w _ _ (by omega)), hI 12 _ (w _ _ (by omega))]
  exact a5 e he
theorem PL.frw {a : Nat} {q : Pl} (h : PL M a q) (f : Fr W M M') (w : ∀ b k, b = a ∨ b = a + 1 → ¬ W b k) : PL M' a q := h.fr (f.2.2.1 _ _ (w _ _ (by omega))) (fun i _ => f.2.2.1 _ _ (w _ _ (by omega)))
theorem PR.frw {a o : Nat} {q : Pl} (h : PR M a o q) (f : Fr W M M') (w : ∀ b k, b = a → ¬ W b k) : PR M' a o q := h.fr (fun k => f.2.2.1 _ _ (w _ _ rfl))
theorem rcRule.fr (h : rcRule s M) (f : Fr W M M') (w : ∀ a k, (a = 84 ∧ k = 6) ∨ a = 85 → ¬ W a k) : rcRule s M' := by
  obtain ⟨n, u1, u2, u3, u4⟩ := h
  refine ⟨n, u1, (f.2.2.1 84 6 (w _ _ (by omega))).trans u2, u3, fun hn fc => ?_⟩
  rw [runC_eq (fun k _ => f.2.2.1 85 k (w _ _ (by omega)))]
  exact u4 hn fc
theorem rcPast.fr (h : rcPast s M) (f : Fr W M M') (w : ∀ a k, (a = 92 ∧ k = 4) ∨ a = 93 ∨ (97 ≤ a ∧ a ≤ 126) → ¬ W a k) : rcPast s M' := by
  obtain ⟨p1, p0, π, p2, p3, p4⟩ := h
  refine ⟨(f.2.2.1 92 4 (w _ _ (by omega))).trans p1, p0, π, fun j hj => ⟨(p2 j hj).1, (f.2.2.2.2 93 j (w _ _ (by omega))).trans (p2 j hj).2⟩, p3, fun j hj => ?_⟩
  have := (p2 j (by omega)).1
  exact (p4 j hj).frw f (fun b k q => w _ _ (by omega))
theorem rcKept.fr (h : rcKept s M) (f : Fr W M M') (w : ∀ a k, a = 95 ∨ a = 96 ∨ (127 ≤ a ∧ a ≤ 132) → ¬ W a k) : rcKept s M' := by
  intro i hi
  refine ⟨(h i hi).1.frw f (fun b k q => w _ _ (by omega)), ?_⟩
  rw [f.2.2.1 95 _ (w _ _ (by omega)), f.2.2.1 96 _ (w _ _ (by omega))]
  exact (h i hi).2
theorem rcSee.fr (h : rcSee s M) (f : Fr W M M') (w : ∀ a k, (a = 133 ∧ k = 4) ∨ (134 ≤ a ∧ a ≤ 136) → ¬ W a k) : rcSee s M' := by
  refine ⟨(f.2.2.1 133 4 (w _ _ (by omega))).trans h.1, fun k hk => ?_⟩
  rw [f.2.2.1 134 _ (w _ _ (by omega)), f.2.2.1 135 _ (w _ _ (by omega)), f.2.2.1 136 _ (w _ _ (by omega))]
  exact h.2 k hk
theorem rrText.fr (h : rrText s M) (f : Fr W M M') (w : ∀ a k, (a = 143 ∧ k = 18) ∨ a = 155 → ¬ W a k) : rrText s M' := ⟨(f.2.2.1 143 18 (w _ _ (by omega))).trans h.1, fun k hk => (f.2.2.1 155 k (w _ _ (by omega))).trans (h.2 k hk)⟩
theorem rrRow.fr (h : rrRow s M) (f : Fr W M M') (w : ∀ a k, (a = 143 ∧ k = 1) ∨ a = 144 → ¬ W a k) : rrRow s M' := ⟨(f.2.2.1 143 1 (w _ _ (by omega))).trans h.1, fun k hk => (f.2.2.2.1 144 k (w _ _ (by omega))).trans (h.2 k hk)⟩
theorem rrHall.fr (h : rrHall s M) (f : Fr W M M') (w : ∀ a k, (a = 143 ∧ (k = 3 ∨ k = 4 ∨ k = 6)) ∨ (145 ≤ a ∧ a ≤ 152) → ¬ W a k) : rrHall s M' := by
  obtain ⟨a1, a2, a3, a4, a5, a6⟩ := h
  have hI := f.2.2.1
  refine ⟨(hI 143 3 (w _ _ (by omega))).trans a1, (hI 143 4 (w _ _ (by omega))).trans a2, (hI 143 6 (w _ _ (by omega))).trans a3, fun p hp => (hI 145 p (w _ _ (by omega))).trans (a4 p hp), fun e he => ?_, fun p e hp he => (hI 146 _ (w _ _ (by omega))).trans (a6 p e hp he)⟩
  rw [hI 147 _ (w _ _ (by omega)), hI 148 _ (w _ _ (by omega)), hI 149 _ (w _ _ (by omega)), hI 150 _ (w _ _ (by omega)), hI 151 _ (w _ _ (by omega)), hI 152 _ (w _ _ (by omega))]
  exact a5 e he
theorem rrRule.fr (h : rrRule s M) (f : Fr W M M') (w : ∀ a k, (a = 143 ∧ k = 29) ∨ a = 159 → ¬ W a k) : rrRule s M' := by
  obtain ⟨n, u1, u2, u3, u4⟩ := h
  refine ⟨n, u1, (f.2.2.1 143 29 (w _ _ (by omega))).trans u2, u3, fun hn fc => ?_⟩
  rw [runR_eq (fun k _ => f.2.2.1 159 k (w _ _ (by omega)))]
  exact u4 hn fc
theorem rrPast.fr (h : rrPast s M) (f : Fr W M M') (w : ∀ a k, (a = 143 ∧ k = 33) ∨ a = 163 → ¬ W a k) : rrPast s M' := ⟨(f.2.2.1 143 33 (w _ _ (by omega))).trans h.1, fun j hj => (h.2 j hj).frw f (fun b k q => w _ _ (by omega))⟩
theorem rrKept.fr (h : rrKept s M) (f : Fr W M M') (w : ∀ a k, (a = 143 ∧ k = 5) ∨ (180 ≤ a ∧ a ≤ 182) → ¬ W a k) : rrKept s M' := by
  obtain ⟨c, k1, k2, hk⟩ := h
  refine ⟨c, k1, (f.2.2.1 143 5 (w _ _ (by omega))).trans k2, fun i hi => ⟨(hk i hi).1.frw f (fun b k q => w _ _ (by omega)), ?_⟩⟩
  rw [f.2.2.1 180 _ (w _ _ (by omega)), f.2.2.1 181 _ (w _ _ (by omega))]
  exact (hk i hi).2
theorem rrSee.fr (h : rrSee s M) (f : Fr W M M') (w : ∀ a k, (a = 143 ∧ k = 51) ∨ (176 ≤ a ∧ a ≤ 178) → ¬ W a k) : rrSee s M' := by
  refine ⟨(f.2.2.1 143 51 (w _ _ (by omega))).trans h.1, fun k hk => ?_⟩
  rw [f.2.2.1 176 _ (w _ _ (by omega)), f.2.2.1 177 _ (w _ _ (by omega)), f.2.2.1 178 _ (w _ _ (by omega))]
  exact h.2 k hk
end CMP
/-- one place written -/
theorem frOne (M : MM) (a k : Nat) (v : Int32) : Fr (fun b j => b = a ∧ j = k) M (sI M a k v) := (Fr.rf M).sI ⟨rfl, rfl⟩
/-! NUMBERS -/
def ixP (x : Int32) (n : Nat) : Bool := !(decide (x < 0)) && decide (x < nI n)
theorem ix_t {x : Int32} {n : Nat} : ixP x n = true ↔ ¬ x < 0 ∧ x < nI n := by unfold ixP; simp
theorem ix_ex {x : Int32} {n : Nat} (hn : n < 2 ^ 31) (h0 : ixP x n = true) : ∃ j, j < n ∧ x = nI j := by
  have h := ix_t.mp h0
  rcases pk_ix x hn with h1 | h1 | h1
  · exact absurd h1 h.1
  · have h2 := h.2
    rw [fa_lt] at h2
    rw [fa_le] at h1
    omega
  · exact h1
theorem ix_n {j n : Nat} (hn : n < 2 ^ 31) (h : j < n) : ixP (nI j) n = true := ix_t.mpr ⟨nI_pos (by omega), nI_lt h hn⟩
theorem e_in (x lo hi : Int64) (M : MM) : f_X12_in x lo hi M = some (if lo ≤ x ∧ x ≤ hi then 1 else 0, M) := by
  unfold f_X12_in f_X12_in_0 lg_cmp
  simp only [rz0, rz1, gt_iff_lt, fa_lt64, fa_le64, fa_eq64]
  by_cases h1 : lo.toInt < x.toInt
  · rw [if_pos h1, if_neg (by decide)]
    by_cases h2 : hi.toInt < x.toInt
    · rw [if_pos h2, if_pos (by decide), if_neg (by omega)]
    · rw [if_neg h2]
      by_cases h3 : x.toInt = hi.toInt
      · rw [if_pos h3, if_neg (by decide), if_pos (by omega)]
      · rw [if_neg h3, if_neg (by decide), if_pos (by omega)]
  · rw [if_neg h1]
    by_cases h4 : x.toInt = lo.toInt
    · rw [if_pos h4, if_neg (by decide)]
      by_cases h2 : hi.toInt < x.toInt
      · rw [if_pos h2, if_pos (by decide), if_neg (by omega)]
      · rw [if_neg h2]
        by_cases h3 : x.toInt = hi.toInt
        · rw [if_pos h3, if_neg (by decide), if_pos (by omega)]
        · rw [if_neg h3, if_neg (by decide), if_pos (by omega)]
    · rw [if_neg h4, if_pos (by decide), if_neg (by omega)]
theorem e_in32 (x lo hi : Int32) (M : MM) : f_X12_in x.toInt64 lo.toInt64 hi.toInt64 M = some (if lo ≤ x ∧ x ≤ hi then 1 else 0, M) := by
  rw [e_in]
  simp only [fa_wide_le]
/-- in range, by literals -/
theorem e_inL (x lo hi : Int32) (A B : Int64) (hA : A = lo.toInt64) (hB : B = hi.toInt64) (M : MM) : f_X12_in x.toInt64 A B M = some (if lo ≤ x ∧ x ≤ hi then 1 else 0, M) := by subst hA; subst hB; exact e_in32 x lo hi M
theorem e_in0 (x hi : Int32) (M : MM) : f_X12_in x.toInt64 0 hi.toInt64 M = some (if 0 ≤ x ∧ x ≤ hi then 1 else 0, M) := e_inL x 0 hi _ _ (by decide) rfl M
theorem e_in0n (x : Int32) (n : Nat) (hn : n < 2 ^ 30) (M : MM) : f_X12_in x.toInt64 0 (nI n - 1).toInt64 M = some (if ixP x n = true then 1 else 0, M) := by
  rw [e_in0]
  have e1 : (nI n - 1 : Int32).toInt = (n : Int) - 1 := by
    rw [show (1 : Int32) = nI 1 from rfl, pk_sub_toInt hn (by omega)]; rfl
  have e2 : (0 : Int32).toInt = 0 := by decide
  by_cases h : ixP x n = true
  · rw [if_pos h, if_pos]
    have h2 := (ix_t.mp h).2
    have h1 := (ix_t.mp h).1
    rw [fa_lt, nI_toInt (by omega)] at h2
    rw [fa_lt, e2] at h1
    rw [fa_le, fa_le, e1, e2]
    omega
  · rw [if_neg h, if_neg]
    intro q
    apply h
    rw [fa_le, fa_le, e1, e2] at q
    refine ix_t.mpr ⟨?_, ?_⟩
    · rw [fa_lt, e2]; omega
    · rw [fa_lt, nI_toInt (by omega)]; omega
theorem e_in99 (x : Int32) (M : MM) : f_X12_in x.toInt64 0 99 M = some (if ixP x 100 = true then 1 else 0, M) := e_in0n x 100 (by decide) M
theorem e_in9 (x : Int32) (M : MM) : f_X12_in x.toInt64 0 9 M = some (if ixP x 10 = true then 1 else 0, M) := e_in0n x 10 (by decide) M
/-! WHO AND WHAT THERE IS -/
section ASK
variable {s : St} {M : MM}
theorem e_hasP (hw : WF s) (h : RC s M) (x : Int32) : f_X9_hasPerson 5 x M = some (if ixP x (zP s) = true then 1 else 0, M) := by
  have h0 := h.1
  have hP := h.2.2.2.1.1
  unfold f_X9_hasPerson f_X9_hasPerson_0
  rw [if_pos (cCO h0).2.2.2.2.2.1, gI_k 7 (cCO h0).2.2.2.2.2.1, b1_s, hP, rz0, rz1]
  by_cases h1 : x < 0
  · rw [if_pos h1, if_neg (fun q => (ix_t.mp q).1 h1)]
  · rw [if_neg h1]
    by_cases h2 : nI (zP s) ≤ x
    · rw [if_pos h2, if_neg (fun q => (fa_of_lt (ix_t.mp q).2).2.1 h2)]
    · rw [if_neg h2, if_pos (ix_t.mpr ⟨h1, fa_of_nle h2⟩)]
theorem e_hasE (hw : WF s) (h : RC s M) (x : Int32) : f_X9_hasErrand 5 x M = some (if ixP x (zE s) = true then 1 else 0, M) := by
  have h0 := h.1
  have hP := h.2.2.2.1.2.1
  unfold f_X9_hasErrand f_X9_hasErrand_0
  rw [if_pos (cCO h0).2.2.2.2.2.1, gI_k 8 (cCO h0).2.2.2.2.2.1, b1_s, hP, rz0, rz1]
  by_cases h1 : x < 0
  · rw [if_pos h1, if_neg (fun q => (ix_t.mp q).1 h1)]
  · rw [if_neg h1]
    by_cases h2 : nI (zE s) ≤ x
    · rw [if_pos h2, if_neg (fun q => (fa_of_lt (ix_t.mp q).2).2.1 h2)]
    · rw [if_neg h2, if_pos (ix_t.mpr ⟨h1, fa_of_nle h2⟩)]
theorem e_isP (hw : WF s) (h : RR s M) (x : Int32) : f_X12_isPerson 143 x M = some (if ixP x (zP s) = true then 1 else 0, M) := by
  have h0 := h.1
  have hP := h.2.2.2.1.1
  have hb := hw.1.1
  unfold f_X12_isPerson f_X12_isPerson_0
  rw [if_pos (cRO h0).1, gI_k 3 (cRO h0).1, b1_s, hP, e_in0n x _ (by omega), b2_s]
  split <;> first | exact rz1 M | exact rz0 M
theorem e_isE (hw : WF s) (h : RR s M) (x : Int32) : f_X12_isErrand 143 x M = some (if ixP x (zE s) = true then 1 else 0, M) := by
  have h0 := h.1
  have hP := h.2.2.2.1.2.1
  have hb := hw.1.2.1
  unfold f_X12_isErrand f_X12_isErrand_0
  rw [if_pos (cRO h0).1, gI_k 4 (cRO h0).1, b1_s, hP, e_in0n x _ (by omega), b2_s]
  split <;> first | exact rz1 M | exact rz0 M
theorem e_isT (hw : WF s) (h : RR s M) (x : Int32) : f_X12_isTrip 143 x M = some (if ixP x (zplan s).1 = true then 1 else 0, M) := by
  have h0 := h.1
  have hP := h.2.2.2.2.1.1
  have hb := hw.2.2.2.2.1.1
  unfold f_X12_isTrip f_X12_isTrip_0
  rw [if_pos (cRO h0).1]
  simp only [cRR h0]
  rw [b1_s, show (45 : Int32) = nI 45 from rfl, ld_153 h0 (by decide), b1_s, show mI M 153 45 = nI (zplan s).1 from hP, e_in0n x _ (by omega), b2_s]
  split <;> first | exact rz1 M | exact rz0 M
theorem e_canC (hw : WF s) (h : RC s M) (x y z : Int32) : f_X11_canBeAsked 0 x y z M = some (if ixP x (zP s) = true ∧ ixP y (zE s) = true ∧ ixP z 100 = true then 1 else 0, M) := by
  have h0 := h.1
  unfold f_X11_canBeAsked f_X11_canBeAsked_0
  rw [if_pos (cCO h0).1]
  simp only [cCR h0, b1_s, e_hasP hw h, b2_s]
  by_cases h1 : ixP x (zP s) = true
  · simp only [h1, if_true, e_hasE hw h, b2_s, true_and]
    rw [if_neg (by decide)]
    by_cases h2 : ixP y (zE s) = true
    · simp only [h2, if_true, true_and, rz0, rz1]
      rw [if_neg (by decide)]
      by_cases h3 : z < 0
      · rw [if_pos h3, if_neg (fun q => (ix_t.mp q).1 h3)]
      · rw [if_neg h3]
        by_cases h4 : (99 : Int32) < z
        · rw [if_pos h4, if_neg]
          intro q
          have := (ix_t.mp q).2
          rw [fa_lt] at this h4
          rw [nI_toInt (by decide)] at this
          rw [show (99 : Int32).toInt = 99 from by decide] at h4
          omega
        · rw [if_neg h4, if_pos]
          refine ix_t.mpr ⟨h3, ?_⟩
          rw [fa_lt, show (99 : Int32).toInt = 99 from by decide] at h4
          rw [fa_lt, nI_toInt (by decide)]
          omega
    · simp [h2, rz0]
  · simp [h1, rz0]
theorem e_canR (hw : WF s) (h : RR s M) (x y z : Int32) : f_X12_canAsk 143 x y z M = some (if ixP x (zP s) = true ∧ ixP y (zE s) = true ∧ ixP z 100 = true then 1 else 0, M) := by
  have h0 := h.1
  unfold f_X12_canAsk f_X12_canAsk_0
  rw [if_pos (cRO h0).1]
  simp only [e_isP hw h, b2_s]
  by_cases h1 : ixP x (zP s) = true
  · simp only [h1, if_true, e_isE hw h, b2_s, true_and]
    rw [if_neg (by decide)]
    by_cases h2 : ixP y (zE s) = true
    · simp only [h2, if_true, true_and, rz0, rz1, e_in99, b2_s]
      rw [if_neg (by decide)]
      split <;> rfl
    · simp [h2, rz0]
  · simp [h1, rz0]
end ASK

/-! MINUTES: 64-bit words by their bits; sets of minutes -/
def bL (x : Int64) (i : Nat) : Bool := x.toBitVec.getLsbD i
theorem l_ext {x y : Int64} (h : ∀ i, i < 64 → bL x i = bL y i) : x = y := Int64.toBitVec_inj.mp (BitVec.eq_of_getLsbD_eq (fun i hi => h i hi))
theorem l_or (x y : Int64) (i : Nat) : bL (x ||| y) i = (bL x i || bL y i) := by unfold bL; rw [Int64.toBitVec_or, BitVec.getLsbD_or]
theorem l_and (x y : Int64) (i : Nat) : bL (x &&& y) i = (bL x i && bL y i) := by unfold bL; rw [Int64.toBitVec_and, BitVec.getLsbD_and]
theorem l_xor (x y : Int64) (i : Nat) : bL (x ^^^ y) i = (bL x i ^^ bL y i) := by unfold bL; rw [Int64.toBitVec_xor, BitVec.getLsbD_xor]
theorem l_big {x : Int64} {i : Nat} (h : 64 ≤ i) : bL x i = false := BitVec.getLsbD_of_ge _ _ h
theorem l_m1 : ∀ i, i < 64 → bL (-1) i = true := by decide +kernel
theorem l_0 (i : Nat) : bL 0 i = false := BitVec.getLsbD_zero
theorem l_1 (i : Nat) : bL 1 i = decide (i = 0) := by
  rcases Nat.lt_or_ge i 64 with h | h
  · exact (by decide +kernel : ∀ i, i < 64 → bL 1 i = decide (i = 0)) i h
  · rw [l_big h, decide_eq_false (by omega)]
theorem l_not (x : Int64) {i : Nat} (h : i < 64) : bL (x ^^^ (-1)) i = !bL x i := by rw [l_xor, l_m1 i h, Bool.xor_true]
theorem t_l : ∀ n, n < 64 → (((nI n).toInt64 &&& 63).toBitVec.smod 64).toNat = n := by decide +kernel
theorem t_u : ∀ n, n < 64 → (((nI n).toInt64.toUInt64 &&& Int64.toUInt64 63).toBitVec % 64).toNat = n := by decide +kernel
theorem l_shl {n : Nat} (hn : n < 64) (x : Int64) {i : Nat} (hi : i < 64) : bL (lshlv x (nI n)) i = (decide (n ≤ i) && bL x (i - n)) := by
  unfold bL lshlv
  rw [Int64.toBitVec_shiftLeft]
  show (x.toBitVec <<< (((nI n).toInt64 &&& 63).toBitVec.smod 64).toNat).getLsbD i = _
  rw [t_l n hn, BitVec.getLsbD_shiftLeft]
  rcases Nat.lt_or_ge i n with h | h
  · simp [h, Nat.not_le.mpr h]
  · simp [hi, h, Nat.not_lt.mpr h]
theorem l_ush {n : Nat} (hn : n < 64) (x : Int64) (i : Nat) : bL (lushv x (nI n)) i = bL x (n + i) := by
  unfold lushv
  show (x.toUInt64 >>> ((nI n).toInt64.toUInt64 &&& Int64.toUInt64 63)).toBitVec.getLsbD i = x.toUInt64.toBitVec.getLsbD (n + i)
  rw [UInt64.toBitVec_shiftRight]
  show (x.toUInt64.toBitVec >>> (((nI n).toInt64.toUInt64 &&& Int64.toUInt64 63).toBitVec % 64).toNat).getLsbD i = _
  rw [t_u n hn, BitVec.getLsbD_ushiftRight]
theorem t_mask : ∀ n, n < 64 → (lshlv 1 (nI n) - 1).toBitVec = BitVec.ofNat 64 (2 ^ n - 1) := by decide +kernel
theorem l_mask {n : Nat} (hn : n < 64) {i : Nat} (hi : i < 64) : bL (lshlv 1 (nI n) - 1) i = decide (i < n) := by
  unfold bL
  rw [t_mask n hn, BitVec.getLsbD_ofNat, Nat.testBit_two_pow_sub_one, decide_eq_true hi, Bool.true_and]
theorem l_cmp0 (x : Int64) : lg_cmp x 0 = 0 ↔ x = 0 := by
  unfold lg_cmp
  constructor
  · intro h
    by_cases h1 : x > 0
    · rw [if_pos h1] at h; exact absurd h (by decide)
    · rw [if_neg h1] at h
      by_cases h2 : x = 0
      · exact h2
      · rw [if_neg h2] at h; exact absurd h (by decide)
  · rintro rfl
    decide
theorem l_z {x : Int64} : x = 0 ↔ ∀ i, i < 64 → bL x i = false := ⟨fun h i _ => by rw [h, l_0], fun h => l_ext (fun i hi => by rw [h i hi, l_0])⟩
/-- cell c holds the minutes P -/
def MS (M : MM) (c : Nat) (P : Nat → Bool) : Prop := ∀ i, i < 64 → bL (mL M c 0) i = P i ∧ bL (mL M c 1) i = P (i + 64)
theorem MS.cong {M : MM} {c : Nat} {P Q : Nat → Bool} (h : MS M c P) (e : ∀ m, m < 128 → P m = Q m) : MS M c Q := fun i hi => ⟨(h i hi).1.trans (e i (by omega)), (h i hi).2.trans (e (i + 64) (by omega))⟩
/-- only the minutes of W are written -/
def FML (W : Nat → Prop) (M M' : MM) : Prop := mN M' = mN M ∧ mS M' = mS M ∧ mI M' = mI M ∧ mR M' = mR M ∧ ∀ a k, ¬ W a → mL M' a k = mL M a k
theorem FML.rf {W : Nat → Prop} (M : MM) : FML W M M := ⟨rfl, rfl, rfl, rfl, fun _ _ _ => rfl⟩
theorem FML.tr {W : Nat → Prop} {M M1 M2 : MM} (h : FML W M M1) (h2 : FML W M1 M2) : FML W M M2 := ⟨h2.1.trans h.1, h2.2.1.trans h.2.1, h2.2.2.1.trans h.2.2.1, h2.2.2.2.1.trans h.2.2.2.1, fun a k n => (h2.2.2.2.2 a k n).trans (h.2.2.2.2 a k n)⟩
theorem FML.mono {W W' : Nat → Prop} {M M' : MM} (h : FML W M M') (hw : ∀ a, W a → W' a) : FML W' M M' := ⟨h.1, h.2.1, h.2.2.1, h.2.2.2.1, fun a k n => h.2.2.2.2 a k (fun q => n (hw a q))⟩
theorem FML.sh {W : Nat → Prop} {M M' : MM} (h : FML W M M') (hs : Sh M) : Sh M' := ⟨h.1.trans hs.1, fun a ha => by rw [h.2.1]; exact hs.2.1 a ha, fun q hq => by rw [h.2.2.2.1]; exact hs.2.2 q hq⟩
theorem FML.fr {W : Nat → Prop} {M M' : MM} (h : FML W M M') : Fr (fun a _ => W a) M M' := ⟨h.1, h.2.1, fun a k _ => by rw [h.2.2.1], fun a k n => h.2.2.2.2 a k n, fun a k _ => by rw [h.2.2.2.1]⟩
theorem FML.ms {W : Nat → Prop} {M M' : MM} (h : FML W M M') {c : Nat} {P : Nat → Bool} (hm : MS M c P) (hc : ¬ W c) : MS M' c P := fun i hi => by rw [h.2.2.2.2 c 0 hc, h.2.2.2.2 c 1 hc]; exact hm i hi
theorem FML.two (M : MM) (c : Nat) (x y : Int64) : FML (fun a => a = c) M (sL (sL M c 0 x) c 1 y) := ⟨rfl, rfl, rfl, rfl, fun a k n => by rw [mL_w, if_neg (fun q => n q.1), mL_w, if_neg (fun q => n q.1)]⟩
theorem two0 (M : MM) (c : Nat) (x y : Int64) : mL (sL (sL M c 0 x) c 1 y) c 0 = x := by rw [mL_w, if_neg (by omega), mL_w, if_pos ⟨rfl, rfl⟩]
theorem two1 (M : MM) (c : Nat) (x y : Int64) : mL (sL (sL M c 0 x) c 1 y) c 1 = y := by rw [mL_w, if_pos ⟨rfl, rfl⟩]
section MIN
variable {M : MM} {c : Nat}
theorem m_clear (hO : isO 2 c M = true) : ∃ M', f_X2_clear c M = some M' ∧ MS M' c (fun _ => false) ∧ FML (fun a => a = c) M M' := by
  refine ⟨sL (sL M c 0 0) c 1 0, ?_, fun i hi => ?_, FML.two M c 0 0⟩
  · unfold f_X2_clear f_X2_clear_0
    rw [if_pos hO, pL_k 0 _ hO, b1_s, pL_k 1 _ (show isO 2 c (sL M c 0 0) = true from hO), b1_s]
  · rw [two0, two1, l_0]; exact ⟨rfl, rfl⟩
theorem m_fill (hO : isO 2 c M = true) {n : Nat} (hn : n < 128) (h0 : 1 ≤ n) : ∃ M', f_X2_fillTo c (nI n) M = some M' ∧ MS M' c (fun m => decide (m < n)) ∧ FML (fun a => a = c) M M' := by
  have hO1 : ∀ x, isO 2 c (sL M c 0 x) = true := fun x => hO
  unfold f_X2_fillTo f_X2_fillTo_0 f_X2_fillTo_18
  rw [if_pos hO]
  by_cases h : n < 64
  · refine ⟨sL (sL M c 0 (lshlv 1 (nI n) - 1)) c 1 0, ?_, fun i hi => ?_, FML.two M c _ _⟩
    · rw [if_pos (show nI n < (64 : Int32) from nI_lt h (by decide)), pL_k 0 _ hO, b1_s, if_pos (show nI n ≤ (64 : Int32) from nI_le (b := 64) (by omega) (by decide)), pL_k 1 _ (hO1 _), b1_s]
    · rw [two0, two1, l_0, l_mask h hi]
      exact ⟨rfl, (decide_eq_false (by omega)).symm⟩
  · rw [if_neg (show ¬ nI n < (64 : Int32) from nI_nlt (b := 64) (by omega) (by omega)), pL_k 0 _ hO, b1_s]
    by_cases h2 : n = 64
    · refine ⟨sL (sL M c 0 (-1)) c 1 0, ?_, fun i hi => ?_, FML.two M c _ _⟩
      · rw [if_pos (show nI n ≤ (64 : Int32) from nI_le (b := 64) (by omega) (by decide)), pL_k 1 _ (hO1 _), b1_s]
      · rw [two0, two1, l_0, l_m1 i hi]
        exact ⟨(decide_eq_true (by omega)).symm, (decide_eq_false (by omega)).symm⟩
    · refine ⟨sL (sL M c 0 (-1)) c 1 (lshlv 1 (nI (n - 64)) - 1), ?_, fun i hi => ?_, FML.two M c _ _⟩
      · rw [if_neg (show ¬ nI n ≤ (64 : Int32) from nI_ge (show 64 < n by omega) (by omega)), show nI n - (64 : Int32) = nI (n - 64) from pk_sub (a := n) (b := 64) (by omega), pL_k 1 _ (hO1 _), b1_s]
      · rw [two0, two1, l_m1 i hi, l_mask (by omega) hi]
        refine ⟨(decide_eq_true (by omega)).symm, ?_⟩
        rw [decide_eq_decide]; omega
theorem m_add (hO : isO 2 c M = true) {P : Nat → Bool} (h : MS M c P) {o z : Nat} (hz : z < 64) (ho : o + z ≤ 128) (ho2 : o < 128) : ∃ M', f_X2_add c (nI o) (nI z) M = some M' ∧ MS M' c (fun m => P m || decide (o ≤ m ∧ m < o + z)) ∧ FML (fun a => a = c) M M' := by
  have hO1 : ∀ x, isO 2 c (sL M c 0 x) = true := fun x => hO
  unfold f_X2_add f_X2_add_0
  rw [if_pos hO, bn_s]
  by_cases h1 : o < 64
  · rw [if_pos (show nI o < (64 : Int32) from nI_lt h1 (by decide)), gL_k 0 hO, b1_s, pL_k 0 _ hO, b1_s]
    by_cases h2 : o = 0
    · refine ⟨sL M c 0 (mL M c 0 ||| lshlv (lshlv 1 (nI z) - 1) (nI o)), ?_, fun i hi => ?_, rfl, rfl, rfl, rfl, fun a k n => by rw [mL_w, if_neg (fun q => n q.1)]⟩
      · rw [if_pos (by rw [h2]; decide)]
      · rw [mL_w, if_pos ⟨rfl, rfl⟩, mL_w, if_neg (by omega), l_or, l_shl h1 _ hi, (h i hi).1, (h i hi).2, l_mask hz (by omega)]
        constructor
        · congr 1
          rw [Bool.eq_iff_iff]
          simp only [Bool.and_eq_true, decide_eq_true_eq]
          omega
        · dsimp only; rw [decide_eq_false (by omega), Bool.or_false]
    · have h3 : (64 : Int32) - nI o = nI (64 - o) := pk_sub (a := 64) (b := o) (by omega)
      refine ⟨sL (sL M c 0 (mL M c 0 ||| lshlv (lshlv 1 (nI z) - 1) (nI o))) c 1 (mL M c 1 ||| lushv (lshlv 1 (nI z) - 1) (nI (64 - o))), ?_, fun i hi => ?_, FML.two M c _ _⟩
      · rw [if_neg (nI_nle (by omega) (by omega)), gL_k 1 (hO1 _), b1_s, mL_w, if_neg (by omega), h3, pL_k 1 _ (hO1 _), b1_s]
      · rw [two0, two1, l_or, l_or, l_shl h1 _ hi, l_ush (by omega), (h i hi).1, (h i hi).2, l_mask hz (by omega)]
        constructor
        · congr 1
          rw [Bool.eq_iff_iff]
          simp only [Bool.and_eq_true, decide_eq_true_eq]
          omega
        · congr 1
          by_cases h4 : 64 - o + i < 64
          · rw [l_mask hz h4, decide_eq_decide]; omega
          · rw [l_big (by omega), decide_eq_false (by omega)]
  · have h3 : nI o - (64 : Int32) = nI (o - 64) := pk_sub (a := o) (b := 64) (by omega)
    refine ⟨sL M c 1 (mL M c 1 ||| lshlv (lshlv 1 (nI z) - 1) (nI (o - 64))), ?_, fun i hi => ?_, rfl, rfl, rfl, rfl, fun a k n => by rw [mL_w, if_neg (fun q => n q.1)]⟩
    · rw [if_neg (show ¬ nI o < (64 : Int32) from nI_nlt (b := 64) (by omega) (by omega)), gL_k 1 hO, b1_s, h3, pL_k 1 _ hO, b1_s]
    · rw [mL_w, if_neg (by omega), mL_w, if_pos ⟨rfl, rfl⟩, l_or, l_shl (by omega) _ hi, (h i hi).1, (h i hi).2, l_mask hz (by omega)]
      constructor
      · dsimp only; rw [decide_eq_false (by omega), Bool.or_false]
      · congr 1
        rw [Bool.eq_iff_iff]
        simp only [Bool.and_eq_true, decide_eq_true_eq]
        omega
theorem m_has (hO : isO 2 c M = true) {P : Nat → Bool} (h : MS M c P) {m : Nat} (hm : m < 128) : f_X2_has c (nI m) M = some (bI (P m), M) := by
  have key : ∀ x : Int64, (if lg_cmp (x &&& 1) 0 = 0 then rz (0 : Int32) M else rz (1 : Int32) M) = some (bI (bL x 0), M) := by
    intro x
    by_cases hb : bL x 0 = true
    · rw [if_neg, hb, rz1, bI_t]
      rw [l_cmp0]
      intro q
      have := congrArg (fun y => bL y 0) q
      simp only [l_and, hb, l_0] at this
      rw [l_1] at this
      exact absurd this (by decide)
    · have hb' : bL x 0 = false := by cases hx : bL x 0 <;> simp_all
      rw [if_pos, hb', rz0, bI_f]
      rw [l_cmp0, l_z]
      intro i hi
      rw [l_and, l_1]
      by_cases h0 : i = 0
      · rw [h0, hb', Bool.false_and]
      · rw [decide_eq_false h0, Bool.and_false]
  unfold f_X2_has f_X2_has_0 f_X2_has_24
  rw [if_pos hO]
  by_cases h1 : m < 64
  · rw [if_pos (show nI m < (64 : Int32) from nI_lt h1 (by decide)), gL_k 0 hO, b1_s, key, l_ush h1, Nat.add_zero, (h m h1).1]
  · rw [if_neg (show ¬ nI m < (64 : Int32) from nI_nlt (b := 64) (by omega) (by omega)), gL_k 1 hO, b1_s, show nI m - (64 : Int32) = nI (m - 64) from pk_sub (a := m) (b := 64) (by omega), key, l_ush (by omega), Nat.add_zero, (h (m - 64) (by omega)).2, show m - 64 + 64 = m by omega]
theorem m_part (hO : isO 2 c M = true) {P : Nat → Bool} (h : MS M c P) {o z : Nat} (hz : z < 64) (ho : o + z ≤ 128) (ho2 : o < 128) : ∃ x, f_X2_part c (nI o) (nI z) M = some (x, M) ∧ ∀ i, i < 64 → bL x i = (decide (i < z) && P (o + i)) := by
  unfold f_X2_part f_X2_part_0 f_X2_part_24 f_X2_part_47
  rw [if_pos hO]
  by_cases h1 : o < 64
  · rw [if_pos (show nI o < (64 : Int32) from nI_lt h1 (by decide)), gL_k 0 hO, b1_s]
    by_cases h2 : o = 0
    · refine ⟨_, by rw [if_pos (by rw [h2]; decide)], fun i hi => ?_⟩
      rw [l_and, l_ush h1, l_mask hz hi, h2, Nat.zero_add, (h i hi).1, Bool.and_comm]
    · have h3 : (64 : Int32) - nI o = nI (64 - o) := pk_sub (a := 64) (b := o) (by omega)
      refine ⟨_, by rw [if_neg (nI_nle (by omega) (by omega)), if_neg (show ¬ (64 : Int32) ≤ nI o from nI_ge h1 (by decide)), gL_k 1 hO, b1_s, bn_s, h3], fun i hi => ?_⟩
      rw [l_and, l_or, l_ush h1, l_shl (by omega) _ hi, l_mask hz hi, Bool.and_comm]
      congr 1
      by_cases h4 : o + i < 64
      · rw [(h _ h4).1, decide_eq_false (by omega), Bool.false_and, Bool.or_false]
      · rw [l_big (by omega), decide_eq_true (by omega), Bool.false_or, Bool.true_and, (h _ (by omega)).2]
        congr 1
        omega
  · have h3 : nI o - (64 : Int32) = nI (o - 64) := pk_sub (a := o) (b := 64) (by omega)
    refine ⟨_, by rw [if_neg (show ¬ nI o < (64 : Int32) from nI_nlt (b := 64) (by omega) (by omega)), gL_k 1 hO, b1_s, if_neg (nI_nle (by omega) (by omega)), if_pos (show (64 : Int32) ≤ nI o from nI_le (a := 64) (by omega) (by omega))], fun i hi => ?_⟩
    rw [l_and, h3, l_ush (by omega), l_mask hz hi, Bool.and_comm]
    by_cases h4 : i < z
    · rw [(h (o - 64 + i) (by omega)).2, show o - 64 + i + 64 = o + i by omega]
    · rw [decide_eq_false h4, Bool.false_and, Bool.false_and]
theorem m_empty (hO : isO 2 c M = true) {P : Nat → Bool} (h : MS M c P) : f_X2_isEmpty c M = some (bI (!anyB P 128), M) := by
  unfold f_X2_isEmpty f_X2_isEmpty_0
  rw [if_pos hO, gL_k 0 hO, b1_s, gL_k 1 hO, b1_s]
  by_cases ha : anyB P 128 = true
  · obtain ⟨m, hm, hp⟩ := anyB_iff.mp ha
    rw [if_neg, ha, rz0]; rfl
    rw [l_cmp0, l_z]
    intro q
    by_cases h1 : m < 64
    · have := q m h1
      rw [l_or, (h m h1).1, hp] at this
      cases this
    · have := q (m - 64) (by omega)
      rw [l_or, (h (m - 64) (by omega)).2, show m - 64 + 64 = m by omega, hp, Bool.or_true] at this
      cases this
  · rw [if_pos, rz1]
    · rw [show anyB P 128 = false by cases hx : anyB P 128 <;> simp_all]; rfl
    · rw [l_cmp0, l_z]
      intro i hi
      have hf : ∀ m, m < 128 → P m = false := fun m hm => by
        cases hp : P m with
        | false => rfl
        | true => exact absurd (anyB_t hp hm) ha
      rw [l_or, (h i hi).1, (h i hi).2, hf i (by omega), hf (i + 64) (by omega)]; rfl
theorem m_more {d : Nat} (hO : isO 2 c M = true) (hD : isO 2 d M = true) {P Q : Nat → Bool} (h : MS M c P) (h' : MS M d Q) : f_X2_hasMoreThan c d M = some (bI (anyB (fun m => P m && !Q m) 128), M) := by
  unfold f_X2_hasMoreThan f_X2_hasMoreThan_0
  rw [if_pos hO, gL_k 0 hO, b1_s, gL_k 0 hD, b1_s, gL_k 1 hO, b1_s, gL_k 1 hD, b1_s]
  by_cases ha : anyB (fun m => P m && !Q m) 128 = true
  · obtain ⟨m, hm, hp⟩ := anyB_iff.mp ha
    rw [if_neg, ha, rz1]; rfl
    rw [l_cmp0, l_z]
    intro q
    by_cases h1 : m < 64
    · have := q m h1
      rw [l_or, l_and, l_not _ h1, (h m h1).1, (h' m h1).1, hp] at this
      cases this
    · have h2 : m - 64 < 64 := by omega
      have := q (m - 64) h2
      rw [l_or, l_and, l_and, l_not _ h2, l_not _ h2, (h _ h2).2, (h' _ h2).2, show m - 64 + 64 = m by omega, hp, Bool.or_true] at this
      cases this
  · rw [if_pos, rz0]
    · rw [show anyB (fun m => P m && !Q m) 128 = false by cases hx : anyB (fun m => P m && !Q m) 128 <;> simp_all]; rfl
    · rw [l_cmp0, l_z]
      intro i hi
      have hf : ∀ m, m < 128 → (P m && !Q m) = false := fun m hm => by
        cases hp : (P m && !Q m) with
        | false => rfl
        | true => exact absurd (anyB_t (P := fun m => P m && !Q m) hp hm) ha
      rw [l_or, l_and, l_and, l_not _ hi, l_not _ hi, (h i hi).1, (h i hi).2, (h' i hi).1, (h' i hi).2, hf i (by omega), hf (i + 64) (by omega)]; rfl
theorem m_join {d : Nat} (hO : isO 2 c M = true) (hD : isO 2 d M = true) (hcd : d ≠ c) {P Q : Nat → Bool} (h : MS M c P) (h' : MS M d Q) : ∃ M', f_X2_join c d M = some M' ∧ MS M' c (fun m => P m || Q m) ∧ FML (fun a => a = c) M M' := by
  refine ⟨sL (sL M c 0 (mL M c 0 ||| mL M d 0)) c 1 (mL M c 1 ||| mL M d 1), ?_, fun i hi => ?_, FML.two M c _ _⟩
  · unfold f_X2_join f_X2_join_0
    rw [if_pos hO, gL_k 0 hO, b1_s, gL_k 0 hD, b1_s, pL_k 0 _ hO, b1_s, gL_k 1 (show isO 2 c (sL M c 0 (mL M c 0 ||| mL M d 0)) = true from hO), b1_s, gL_k 1 (show isO 2 d (sL M c 0 (mL M c 0 ||| mL M d 0)) = true from hD), b1_s, mL_w, if_neg (by omega), mL_w, if_neg (by omega), pL_k 1 _ (show isO 2 c (sL M c 0 (mL M c 0 ||| mL M d 0)) = true from hO), b1_s]
  · rw [two0, two1, l_or, l_or, (h i hi).1, (h i hi).2, (h' i hi).1, (h' i hi).2]; exact ⟨rfl, rfl⟩
theorem m_with {d : Nat} (hO : isO 2 c M = true) (hD : isO 2 d M = true) (hcd : d ≠ c) {P Q : Nat → Bool} (h : MS M c P) (h' : MS M d Q) : ∃ M', f_X2_without c d M = some M' ∧ MS M' c (fun m => P m && !Q m) ∧ FML (fun a => a = c) M M' := by
  refine ⟨sL (sL M c 0 (mL M c 0 &&& (mL M d 0 ^^^ (-1)))) c 1 (mL M c 1 &&& (mL M d 1 ^^^ (-1))), ?_, fun i hi => ?_, FML.two M c _ _⟩
  · unfold f_X2_without f_X2_without_0
    rw [if_pos hO, gL_k 0 hO, b1_s, gL_k 0 hD, b1_s, pL_k 0 _ hO, b1_s, gL_k 1 (show isO 2 c (sL M c 0 (mL M c 0 &&& (mL M d 0 ^^^ (-1)))) = true from hO), b1_s, gL_k 1 (show isO 2 d (sL M c 0 (mL M c 0 &&& (mL M d 0 ^^^ (-1)))) = true from hD), b1_s, mL_w, if_neg (by omega), mL_w, if_neg (by omega), pL_k 1 _ (show isO 2 c (sL M c 0 (mL M c 0 &&& (mL M d 0 ^^^ (-1)))) = true from hO), b1_s]
  · rw [two0, two1, l_and, l_and, l_not _ hi, l_not _ hi, (h i hi).1, (h i hi).2, (h' i hi).1, (h' i hi).2]; exact ⟨rfl, rfl⟩
theorem m_keep {d : Nat} (hO : isO 2 c M = true) (hD : isO 2 d M = true) (hcd : d ≠ c) {P Q : Nat → Bool} (h : MS M c P) (h' : MS M d Q) : ∃ M', f_X2_keepOnly c d M = some M' ∧ MS M' c (fun m => P m && Q m) ∧ FML (fun a => a = c) M M' := by
  refine ⟨sL (sL M c 0 (mL M c 0 &&& mL M d 0)) c 1 (mL M c 1 &&& mL M d 1), ?_, fun i hi => ?_, FML.two M c _ _⟩
  · unfold f_X2_keepOnly f_X2_keepOnly_0
    rw [if_pos hO, gL_k 0 hO, b1_s, gL_k 0 hD, b1_s, pL_k 0 _ hO, b1_s, gL_k 1 (show isO 2 c (sL M c 0 (mL M c 0 &&& mL M d 0)) = true from hO), b1_s, gL_k 1 (show isO 2 d (sL M c 0 (mL M c 0 &&& mL M d 0)) = true from hD), b1_s, mL_w, if_neg (by omega), mL_w, if_neg (by omega), pL_k 1 _ (show isO 2 c (sL M c 0 (mL M c 0 &&& mL M d 0)) = true from hO), b1_s]
  · rw [two0, two1, l_and, l_and, (h i hi).1, (h i hi).2, (h' i hi).1, (h' i hi).2]; exact ⟨rfl, rfl⟩
end MIN

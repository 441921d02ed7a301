/-! MAY: what hinders a trip -/
def wrB (s : St) (q q' : Pl) (x : Nat) : Bool := watB s q x && !watB s q' x
def mnS (s : St) (q : Pl) (p e m : Nat) : Nat := if whyS s (plAdd q (trp p e m)) q.1 ≠ 0 then whyS s (plAdd q (trp p e m)) q.1 else if anyB (wrB s q (plAdd q (trp p e m))) (zT s) = true then 6 else if q.1 = 12 then 7 else 0
theorem mnS_lt (s : St) (q : Pl) (p e m : Nat) : mnS s q p e m < 8 := by
  unfold mnS
  have := whyS_lt s (plAdd q (trp p e m)) q.1
  split
  · omega
  · split
    · decide
    · split <;> decide
theorem anyB_add {f : Nat → Bool} {g : Nat → Bool} {n : Nat} (h : ∀ k, k < n → f k = g k) : anyB f (n + 1) = (anyB g n || f n) := by rw [anyB, anyB_cong h]
section ADD
variable {s : St} {q : Pl} {p e m : Nat}
theorem ad_o {t k : Nat} (h : k < q.1) : (plAdd q t).2 k = q.2 k := if_neg (by omega)
theorem ad_n {t : Nat} : (plAdd q t).2 q.1 = t := if_pos rfl
theorem aw_add (hp : p < 8) (he : e < 8) (p' x : Nat) : awF s (plAdd q (trp p e m)) (plAdd q (trp p e m)).1 p' x = (awF s q q.1 p' x || decide (p = p' ∧ m ≤ x ∧ x < m + zlen s e)) := by
  have ht := trp_w (m := m) hp he
  show anyB _ (q.1 + 1) = _
  rw [anyB_add (g := awP s q p' x) (fun k hk => by unfold awP; rw [ad_o hk])]
  unfold awF
  congr 1
  unfold awP tback
  rw [ad_n, ht.1, ht.2.1, ht.2.2]
theorem ov_add (hp : p < 8) (he : e < 8) (x : Nat) : ovF s (plAdd q (trp p e m)) (plAdd q (trp p e m)).1 x = (ovF s q q.1 x || (decide (zsee s e = 1) && decide (m + zway s e ≤ x ∧ x < m + zway s e + zlas s e))) := by
  have ht := trp_w (m := m) hp he
  show anyB _ (q.1 + 1) = _
  rw [anyB_add (g := fun i => seeB s (q.2 i) && thB s (q.2 i) x) (fun k hk => by rw [ad_o hk])]
  unfold ovF
  congr 1
  unfold seeB thB
  rw [ad_n, ht.2.1, ht.2.2]
theorem why_add (hp : p < 8) (he : e < 8) : whyS s (plAdd q (trp p e m)) q.1 = if zT s < m + zlen s e then 1 else if opB s e m = false then 2 else if anyB (fun k => decide (tw (q.2 k) = p) && decide (m < tback s (q.2 k) ∧ ts (q.2 k) < m + zlen s e)) q.1 = true then 3 else if thO s q e m = true then 4 else if zshy s p = 0 ∨ coB q p e m = true then 0 else 5 := by
  have ht := trp_w (m := m) hp he
  have h3 : anyB (p3 s (plAdd q (trp p e m)) q.1) (plAdd q (trp p e m)).1 = anyB (fun k => decide (tw (q.2 k) = p) && decide (m < tback s (q.2 k) ∧ ts (q.2 k) < m + zlen s e)) q.1 := by
    show anyB _ (q.1 + 1) = _
    rw [anyB_add (g := fun k => decide (tw (q.2 k) = p) && decide (m < tback s (q.2 k) ∧ ts (q.2 k) < m + zlen s e)) (fun k hk => by
      unfold p3 meetB
      rw [ad_n, ad_o hk, ht.1, decide_eq_true (show k ≠ q.1 by omega), Bool.true_and]
      unfold tback
      rw [ht.2.1, ht.2.2])]
    unfold p3
    rw [decide_eq_false (by omega), Bool.false_and, Bool.or_false]
  have h4 : thO s (plAdd q (trp p e m)) e m = thO s q e m := by
    unfold thO
    congr 1
    show anyB _ (q.1 + 1) = _
    rw [anyB_add (g := thP s q e m) (fun k hk => by unfold thP; rw [ad_o hk])]
    unfold thP
    rw [ad_n, ht.2.1, ht.2.2]
    simp
  have h5 : coB (plAdd q (trp p e m)) p e m = coB q p e m := by
    unfold coB
    show anyB _ (q.1 + 1) = _
    rw [anyB_add (g := coP q p e m) (fun k hk => by unfold coP; rw [ad_o hk])]
    unfold coP
    rw [ad_n, ht.1]
    simp
  unfold whyS
  rw [h3]
  unfold tback
  rw [ad_n, ht.1, ht.2.1, ht.2.2, h4, h5]
end ADD
theorem neF_iff {s : St} {q : Pl} {p n x : Nat} : neF s q p n x = true ↔ x < zT s ∧ ovF s q q.1 x = false ∧ ∀ p', p' < n → p' ≠ p → awF s q q.1 p' x = true := by
  unfold neF
  rw [Bool.and_eq_true, Bool.and_eq_true, allB_iff, decide_eq_true_eq, Bool.not_eq_true', and_assoc]
  constructor
  · rintro ⟨h1, h2, h3⟩
    refine ⟨h1, h2, fun p' hp hne => ?_⟩
    have := h3 p' hp
    rw [decide_eq_false hne, Bool.false_or] at this
    exact this
  · rintro ⟨h1, h2, h3⟩
    refine ⟨h1, h2, fun p' hp => ?_⟩
    by_cases hne : p' = p
    · rw [decide_eq_true hne, Bool.true_or]
    · rw [h3 p' hp hne, Bool.or_true]
theorem wat_iff {s : St} {q : Pl} {x : Nat} : watB s q x = true ↔ ovF s q q.1 x = true ∨ ∃ p, p < zP s ∧ awF s q q.1 p x = false := by
  unfold watB
  rw [Bool.or_eq_true, anyB_iff]
  constructor
  · rintro (h | ⟨p, hp, h⟩)
    · exact Or.inl h
    · exact Or.inr ⟨p, hp, by rw [Bool.not_eq_true'] at h; exact h⟩
  · rintro (h | ⟨p, hp, h⟩)
    · exact Or.inl h
    · exact Or.inr ⟨p, hp, by rw [h]; rfl⟩
theorem wat_f {s : St} {q : Pl} {x : Nat} : watB s q x = false ↔ ovF s q q.1 x = false ∧ ∀ p, p < zP s → awF s q q.1 p x = true := by
  constructor
  · intro h
    have hn : ¬ watB s q x = true := by rw [h]; decide
    rw [wat_iff] at hn
    refine ⟨?_, fun p hp => ?_⟩
    · cases ho : ovF s q q.1 x with
      | false => rfl
      | true => exact absurd (Or.inl ho) hn
    · cases ha : awF s q q.1 p x with
      | true => rfl
      | false => exact absurd (Or.inr ⟨p, hp, ha⟩) hn
  · rintro ⟨h1, h2⟩
    cases hw : watB s q x with
    | false => rfl
    | true =>
      rcases wat_iff.mp hw with h | ⟨p, hp, h⟩
      · rw [h1] at h; cases h
      · rw [h2 p hp] at h; cases h
/-- being missed -/
theorem miss_iff {s : St} {q : Pl} {p e m : Nat} (hP : zP s ≤ 6) (hp : p < zP s) (he : e < 8) (hfree : ∀ i, i < zlen s e → awF s q q.1 p (m + i) = false) : anyB (wrB s q (plAdd q (trp p e m))) (zT s) = true ↔ ∃ i, i < zlen s e ∧ neF s q p (zP s) (m + i) = true ∧ ¬ (zsee s e = 1 ∧ zway s e ≤ i ∧ i < zway s e + zlas s e) := by
  rw [anyB_iff]
  constructor
  · rintro ⟨x, hx, hw⟩
    unfold wrB at hw
    rw [Bool.and_eq_true, Bool.not_eq_true', wat_f] at hw
    obtain ⟨h1, h2, h3⟩ := hw
    rw [ov_add (by omega) he, Bool.or_eq_false_iff] at h2
    rcases wat_iff.mp h1 with ho | ⟨p', hp', ha⟩
    · rw [h2.1] at ho; cases ho
    · have := h3 p' hp'
      rw [aw_add (by omega) he, ha, Bool.false_or, decide_eq_true_eq] at this
      obtain ⟨rfl, hm1, hm2⟩ := this
      refine ⟨x - m, by omega, neF_iff.mpr ⟨by rw [show m + (x - m) = x by omega]; exact hx, by rw [show m + (x - m) = x by omega]; exact h2.1, fun p'' hp'' hne => ?_⟩, ?_⟩
      · have := h3 p'' hp''
        rw [aw_add (by omega) he, decide_eq_false (fun q => hne q.1.symm), Bool.or_false] at this
        rw [show m + (x - m) = x by omega]; exact this
      · rintro ⟨g1, g2, g3⟩
        have := h2.2
        rw [decide_eq_true g1, Bool.true_and, decide_eq_false_iff_not] at this
        omega
  · rintro ⟨i, hi, hn, hs⟩
    obtain ⟨h1, h2, h3⟩ := neF_iff.mp hn
    refine ⟨m + i, h1, ?_⟩
    unfold wrB
    rw [Bool.and_eq_true, Bool.not_eq_true', wat_f]
    refine ⟨wat_iff.mpr (Or.inr ⟨p, hp, hfree i hi⟩), ?_, fun p' hp' => ?_⟩
    · rw [ov_add (by omega) he, h2, Bool.false_or, Bool.and_eq_false_iff]
      by_cases hz : zsee s e = 1
      · right
        rw [decide_eq_false_iff_not]
        intro g
        exact hs ⟨hz, by omega, by omega⟩
      · left
        rw [decide_eq_false hz]
    · rw [aw_add (by omega) he]
      by_cases hne : p' = p
      · rw [decide_eq_true ⟨hne.symm, by omega, by omega⟩, Bool.or_true]
      · rw [h3 p' hp' hne, Bool.true_or]
theorem l_n0 {x : Int64} {P : Nat → Bool} {z : Nat} (hz : z < 64) (h : ∀ i, i < 64 → bL x i = (decide (i < z) && P i)) : lg_cmp x 0 = 0 ↔ ∀ i, i < z → P i = false := by
  rw [l_cmp0, l_z]
  constructor
  · intro g i hi
    have := g i (by omega)
    rw [h i (by omega), decide_eq_true hi, Bool.true_and] at this
    exact this
  · intro g i hi
    rw [h i hi]
    by_cases hiz : i < z
    · rw [g i hiz, Bool.and_false]
    · rw [decide_eq_false hiz, Bool.false_and]
section HIN
variable {s : St} {M : MM} {a L : Nat} {q : Pl}
theorem c_miss (h : CX s M a q) (hl : LX L a) (hk : LK s q M L) {p e m : Nat} (hp : p < zP s) (he : e < zE s) (hm : m < 100) (hfree : ∀ i, i < zlen s e → awF s q q.1 p (m + i) = false) : f_X1_wouldBeMissed L (nI p) (nI e) (nI m) M = some (bI (anyB (wrB s q (plAdd q (trp p e m))) (zT s)), M) := by
  have h0 := h.1
  have hP := h.2.2.1.1
  have hE := h.2.2.1.2.1
  have hB := h.2.2.2.1.2.1 e he
  have hlen : zlen s e ≤ 27 := by unfold zlen; omega
  have hle : zway s e + zlas s e ≤ zlen s e := by unfold zlen; omega
  have mi := miss_iff (q := q) (m := m) hP hp (by omega) hfree
  obtain ⟨x, ex, bx⟩ := m_part (lx_c h0 hl (c := L + 12 + 4 * p) (by omega)) (hk.1 p hp).2.2.2 (o := m) (z := zlen s e) (by omega) (by omega) (by omega)
  have fin : ∀ (y : Int64) (Q : Nat → Bool), (∀ i, i < 64 → bL y i = (decide (i < zlen s e) && Q i)) → ((∃ i, i < zlen s e ∧ Q i = true) ↔ anyB (wrB s q (plAdd q (trp p e m))) (zT s) = true) → (if lg_cmp y 0 = 0 then rz (0 : Int32) M else rz (1 : Int32) M) = some (bI (anyB (wrB s q (plAdd q (trp p e m))) (zT s)), M) := by
    intro y Q hy hQ
    cases hb : anyB (wrB s q (plAdd q (trp p e m))) (zT s) with
    | true =>
      obtain ⟨i, hi, hq⟩ := hQ.mpr hb
      rw [if_neg, rz1, bI_t]
      rw [l_n0 (by omega) hy]
      intro g
      rw [g i hi] at hq; cases hq
    | false =>
      rw [if_pos, rz0, bI_f]
      rw [l_n0 (by omega) hy]
      intro i hi
      cases hq : Q i with
      | false => rfl
      | true => rw [hQ.mp ⟨i, hi, hq⟩] at hb; cases hb
  unfold f_X1_wouldBeMissed f_X1_wouldBeMissed_0 f_X1_wouldBeMissed_64
  rw [if_pos (lx_O h0 hl), (lx_f h0 hl).2.2.2.2.1, b1_s, (lx_ld (p := p) h0 hl (by omega)).2.2.2, b1_s, lx_0 h0 hl, b1_s, e_len h0 h.2.1 h.2.2.1 he, b2_s, ex, b2_s, lx_0 h0 hl, b1_s, sh_R h0 (a := 5) (k := 6) (b := 12) 9 (by decide) rfl (by decide), b1_s, lc_see h0 h.2.1 h.2.2.1 he, b1_s]
  by_cases hs : zsee s e = 1
  · rw [if_neg (nI_ne0 (by omega) (by omega)), b1_s, sh_R h0 (a := 5) (k := 2) (b := 8) 9 (by decide) rfl (by decide), b1_s, lc_las h0 h.2.1 h.2.2.1 he, b1_s, b1_s, sh_R h0 (a := 5) (k := 1) (b := 7) 9 (by decide) rfl (by decide), b1_s, lc_way h0 h.2.1 h.2.2.1 he, b1_s, bn_s]
    refine fin _ (fun i => neF s q p (zP s) (m + i) && !decide (zway s e ≤ i ∧ i < zway s e + zlas s e)) (fun i hi => ?_) ?_
    · rw [l_and, bx i hi, l_not _ hi, l_shl (by omega) _ hi, l_mask (by omega) (by omega), Bool.and_assoc]
      congr 1
      congr 1
      congr 1
      rw [Bool.eq_iff_iff]
      simp only [Bool.and_eq_true, decide_eq_true_eq]
      omega
    · rw [mi]
      constructor
      · rintro ⟨i, hi, hq⟩
        rw [Bool.and_eq_true, Bool.not_eq_true', decide_eq_false_iff_not] at hq
        exact ⟨i, hi, hq.1, fun g => hq.2 g.2⟩
      · rintro ⟨i, hi, hq, hg⟩
        refine ⟨i, hi, ?_⟩
        rw [Bool.and_eq_true, Bool.not_eq_true', decide_eq_false_iff_not]
        exact ⟨hq, fun g => hg ⟨hs, g⟩⟩
  · rw [if_pos (by rw [show zsee s e = 0 by omega]; rfl)]
    refine fin _ (fun i => neF s q p (zP s) (m + i)) bx ?_
    rw [mi]
    constructor
    · rintro ⟨i, hi, hq⟩
      exact ⟨i, hi, hq, fun g => hs g.1⟩
    · rintro ⟨i, hi, hq, _⟩
      exact ⟨i, hi, hq⟩
theorem c_hin (h : CX s M a q) (hl : LX L a) (hk : LK s q M L) {p e m : Nat} (hp : p < zP s) (he : e < zE s) (hm : m < 100) : f_X1_hindrance L (nI p) (nI e) (nI m) M = some (nI (mnS s q p e m), M) := by
  have h0 := h.1
  have hP := h.2.2.1.1
  have hE := h.2.2.1.2.1
  have hT := h.2.2.1.2.2.2.1
  have h12 := h.2.2.2.2.2.2.1
  have hB := h.2.2.2.1.2.1 e he
  have hS := h.2.2.2.1.1 p hp
  have hlen : zlen s e ≤ 27 := by unfold zlen; omega
  have hlen1 : 1 ≤ zlen s e := by unfold zlen; omega
  obtain ⟨x, ex, bx⟩ := m_part (lx_c h0 hl (c := L + 9 + 4 * p) (by omega)) (hk.1 p hp).1 (o := m) (z := zlen s e) (by omega) (by omega) (by omega)
  have e3 : lg_cmp x 0 = 0 ↔ anyB (fun k => decide (tw (q.2 k) = p) && decide (m < tback s (q.2 k) ∧ ts (q.2 k) < m + zlen s e)) q.1 = false := by
    rw [l_n0 (P := fun i => awF s q q.1 p (m + i)) (by omega) bx]
    constructor
    · intro g
      refine anyB_f (fun k hkq => ?_)
      cases hc : (decide (tw (q.2 k) = p) && decide (m < tback s (q.2 k) ∧ ts (q.2 k) < m + zlen s e)) with
      | false => rfl
      | true =>
        rw [Bool.and_eq_true, decide_eq_true_eq, decide_eq_true_eq] at hc
        have hb := tback_b h.2.2.2.1 (h.2.2.2.2.2.2.2 k hkq)
        have := g (max m (ts (q.2 k)) - m) (by omega)
        have ht : awF s q q.1 p (m + (max m (ts (q.2 k)) - m)) = true := anyB_t (k := k) (decide_eq_true ⟨hc.1, by omega, by omega⟩) hkq
        rw [ht] at this; cases this
    · intro g i hi
      refine anyB_f (fun k hkq => ?_)
      unfold awP
      rw [decide_eq_false_iff_not]
      rintro ⟨g1, g2, g3⟩
      have : (decide (tw (q.2 k) = p) && decide (m < tback s (q.2 k) ∧ ts (q.2 k) < m + zlen s e)) = true := by
        rw [Bool.and_eq_true, decide_eq_true_eq, decide_eq_true_eq]
        exact ⟨g1, by omega, by omega⟩
      rw [anyB_t (P := fun k => decide (tw (q.2 k) = p) && decide (m < tback s (q.2 k) ∧ ts (q.2 k) < m + zlen s e)) this hkq] at g; cases g
  have wy := why_add (s := s) (q := q) (p := p) (e := e) (m := m) (by omega) (by omega)
  unfold f_X1_hindrance f_X1_hindrance_0
  rw [if_pos (lx_O h0 hl), lx_0 h0 hl, b1_s, e_ends h0 h.2.1 h.2.2.1 h.2.2.2.1 he (by omega), b2_s]
  by_cases c1 : zT s < m + zlen s e
  · rw [decide_eq_false (by omega), if_pos (show bI false = 0 from rfl)]
    rw [if_pos c1] at wy
    unfold mnS
    rw [wy, if_pos (by decide)]
    rfl
  · rw [if_neg c1] at wy
    rw [decide_eq_true (by omega), if_neg (show ¬ bI true = 0 by decide), lx_0 h0 hl, b1_s, e_open h0 h.2.1 h.2.2.1 h.2.2.2.1 he (by omega), b2_s]
    cases c2 : opB s e m with
    | false =>
      rw [if_pos c2] at wy
      rw [if_pos (show bI false = 0 from rfl)]
      unfold mnS
      rw [wy, if_pos (by decide)]
      rfl
    | true =>
      rw [if_neg (by rw [c2]; decide)] at wy
      rw [if_neg (show ¬ bI true = 0 by decide), (lx_f h0 hl).1, b1_s, (lx_ld (p := p) h0 hl (by omega)).1, b1_s, lx_0 h0 hl, b1_s, e_len h0 h.2.1 h.2.2.1 he, b2_s, ex, b2_s]
      cases c3 : anyB (fun k => decide (tw (q.2 k) = p) && decide (m < tback s (q.2 k) ∧ ts (q.2 k) < m + zlen s e)) q.1 with
      | true =>
        rw [if_pos c3] at wy
        rw [if_neg (fun g => by rw [e3.mp g] at c3; cases c3)]
        unfold mnS
        rw [wy, if_pos (by decide)]
        rfl
      | false =>
        rw [if_neg (by rw [c3]; decide)] at wy
        rw [if_pos (e3.mpr c3), c_thing h hl he hm, b2_s]
        have hfree : ∀ i, i < zlen s e → awF s q q.1 p (m + i) = false := (l_n0 (P := fun i => awF s q q.1 p (m + i)) (by omega) bx).mp (e3.mpr c3)
        cases c4 : thO s q e m with
        | true =>
          rw [if_pos c4] at wy
          rw [if_neg (show ¬ bI true = 0 by decide)]
          unfold mnS
          rw [wy, if_pos (by decide)]
          rfl
        | false =>
          rw [if_neg (by rw [c4]; decide)] at wy
          rw [if_pos (show bI false = 0 from rfl), lx_0 h0 hl, b1_s, sh_R h0 (a := 5) (k := 0) (b := 6) 9 (by decide) rfl (by decide), b1_s, lc_shy h0 h.2.1 h.2.2.1 hp, b1_s]
          have tail : whyS s (plAdd q (trp p e m)) q.1 = 0 → f_X1_hindrance_88 L (nI p) (nI e) (nI m) M = some (nI (mnS s q p e m), M) := by
            intro w0
            unfold f_X1_hindrance_88 mnS
            rw [w0, if_neg (by decide), c_miss h hl hk hp he hm hfree, b2_s]
            cases anyB (wrB s q (plAdd q (trp p e m))) (zT s) with
            | true => rw [if_neg (show ¬ bI true = 0 by decide), if_pos rfl]; rfl
            | false =>
              rw [if_pos (show bI false = 0 from rfl), lx_1 h0 hl, b1_s, c_size h, b1_s, if_neg (show ¬ false = true by decide)]
              by_cases hq : q.1 = 12
              · rw [if_neg (by rw [hq]; decide), if_pos hq]; rfl
              · rw [if_pos (show nI q.1 < (12 : Int32) from nI_lt (b := 12) (by omega) (by decide)), if_neg hq]; rfl
          by_cases c5 : zshy s p = 0
          · rw [if_pos (Or.inl c5)] at wy
            rw [if_pos (by rw [c5]; rfl)]
            exact tail wy
          · rw [if_neg (nI_ne0 (by omega) (by omega)), c_comp h hl (by omega) (by omega) hm, b2_s]
            cases c6 : coB q p e m with
            | true =>
              rw [if_pos (Or.inr c6)] at wy
              rw [if_neg (show ¬ bI true = 0 by decide)]
              exact tail wy
            | false =>
              rw [if_neg (by rw [c6]; rintro (g | g); exact c5 g; cases g)] at wy
              rw [if_pos (show bI false = 0 from rfl)]
              unfold mnS
              rw [wy, if_pos (by decide)]
              rfl
end HIN
/-! the reference -/
theorem r_nw {s : St} {M : MM} {q q' : Pl} (h : RX s M 153 q) (h' : RX s M 154 q') : f_X12_isNoWorse 143 M = some (bI (!anyB (wrB s q q') (zT s)), M) := by
  have h0 := h.1
  have hT := h.2.2.1.2.2.2.1
  have hO := sh_O h0 (a := 143) 12 (by decide) rfl
  unfold f_X12_isNoWorse f_X12_isNoWorse_0
  rw [if_pos hO]
  have this : f_X12_isNoWorse_4 1024 143 (bI (!anyB (wrB s q q') 0)) (nI 0) M = some (bI (!anyB (wrB s q q') (zT s)), M) := by
    refine lpv (fun f k => f_X12_isNoWorse_4 f 143 (bI (!anyB (wrB s q q') k)) (nI k) M) (zT s) _ (fun f k hk => ?_) (fun f => ?_) 1024 0 (by omega) (by omega)
    · show f_X12_isNoWorse_4 (f + 1) _ _ _ _ = _ ∨ f_X12_isNoWorse_4 (f + 1) _ _ _ _ = _
      rw [f_X12_isNoWorse_4, gI_k 6 hO, b1_s, h.2.1.2.2.1, if_neg (nI_ge hk (by omega))]
      cases ha : anyB (wrB s q q') k with
      | true =>
        right
        obtain ⟨j, hj, hw⟩ := anyB_iff.mp ha
        rw [anyB_t hw (show j < zT s by omega), if_pos (show bI (!true) = 0 from rfl), rz_b]
      | false =>
        left
        rw [if_neg (show ¬ bI (!false) = 0 by decide), sh_R h0 (a := 143) (k := 16) (b := 154) 12 (by decide) rfl (by decide), b1_s, r_wat h' (by omega), b2_s, anyB, ha, Bool.false_or]
        unfold f_X12_isNoWorse_40 f_X12_isNoWorse_45 wrB
        cases watB s q' k with
        | true => rw [if_neg (show ¬ bI true = 0 by decide), bn_s, nI_1, Bool.not_true, Bool.and_false]; rfl
        | false =>
          rw [if_pos (show bI false = 0 from rfl), sh_R h0 (a := 143) (k := 15) (b := 153) 12 (by decide) rfl (by decide), b1_s, r_wat h (by omega), b2_s]
          cases watB s q k with
          | true => rw [if_neg (show ¬ bI true = 0 by decide), bn_s, nI_1]; rfl
          | false => rw [if_pos (show bI false = 0 from rfl), bn_s, nI_1]; rfl
    · show f_X12_isNoWorse_4 (f + 1) _ _ _ _ = _
      rw [f_X12_isNoWorse_4, gI_k 6 hO, b1_s, h.2.1.2.2.1, if_pos (nI_le (Nat.le_refl _) (by omega)), rz_b]
  rw [nI_0] at this
  exact this
theorem okPr_add {P E : Nat} {q : Pl} {t : Nat} (h : okPl P E q) (ht : okT P E t) : okPr P E (plAdd q t) := by
  have h1 := h.1
  refine ⟨by show q.1 + 1 ≤ 15; omega, fun i hi => ?_⟩
  have hi' : i < q.1 + 1 := hi
  show okT P E (if i = q.1 then t else q.2 i)
  split
  · exact ht
  · exact h.2 i (by omega)
theorem r_then {s : St} {M : MM} (hw : WF s) (h : RR s M) {p e m : Nat} (hp : p < zP s) (he : e < zE s) (hm : m < 100) : ∃ M1 M2, f_X12_puts 153 154 M = some M1 ∧ f_X12_comes 154 (nI p) (nI e) (nI m) M1 = some M2 ∧ Sh M1 ∧ RX s M2 154 (plAdd (zplan s) (trp p e m)) ∧ RR s M2 ∧ Fr (fun a k => a = 154) M M2 ∧ mR M2 = mR M := by
  have hP := hw.1.1
  have hE := hw.1.2.1
  have h12 := hw.2.2.2.2.1.1
  obtain ⟨M1, e1, p1, f1, r1⟩ := r_puts h.1 (Or.inl rfl : RA 153) (Or.inr (Or.inl rfl) : RA 154) (by decide) h.2.2.2.2.1 (by omega)
  have s1 := f1.sh' r1 h.1
  obtain ⟨M2, e2, p2, f2, r2⟩ := r_comes s1 (Or.inr (Or.inl rfl) : RA 154) p1 (by omega) (p := p) (e := e) (m := m) (by omega) (by omega)
  have s2 := f2.sh' r2 s1
  have f3 : Fr (fun a k => a = 154) M M2 := f1.tr f2
  have c2 : RR s M2 := h.fr (f3.mono (fun a k q => by unfold wR; omega)) s2
  exact ⟨M1, M2, e1, e2, s1, ⟨s2, c2.2.2.2.1, hw.1, hw.2.1, Or.inr (Or.inl rfl), p2, okPr_add hw.2.2.2.2.1 (trp_ok (by omega) (by omega) hp he hm)⟩, c2, f3, r2.trans r1⟩
theorem r_may {s : St} {M : MM} (hw : WF s) (h : RR s M) {p e m : Nat} (hp : p < zP s) (he : e < zE s) (hm : m < 100) : ∃ M', f_X12_mayNot 143 (nI p) (nI e) (nI m) M = some (nI (mnS s (zplan s) p e m), M') ∧ RR s M' ∧ Fr (fun a k => a = 154) M M' ∧ mR M' = mR M := by
  have h12 := hw.2.2.2.2.1.1
  obtain ⟨M1, M2, e1, e2, s1, x2, c2, f2, r2⟩ := r_then hw h hp he hm
  have s2 := c2.1
  refine ⟨M2, ?_, c2, f2, r2⟩
  have hl := whyS_lt s (plAdd (zplan s) (trp p e m)) (zplan s).1
  unfold f_X12_mayNot f_X12_mayNot_0 mnS
  rw [if_pos (sh_O h.1 12 (by decide) rfl), sh_R h.1 (a := 143) (k := 15) (b := 153) 12 (by decide) rfl (by decide), b1_s, sh_R h.1 (a := 143) (k := 16) (b := 154) 12 (by decide) rfl (by decide), b1_s, e1, b1_s, sh_R s1 (a := 143) (k := 16) (b := 154) 12 (by decide) rfl (by decide), b1_s, e2, b1_s, sh_R s2 (a := 143) (k := 16) (b := 154) 12 (by decide) rfl (by decide), b1_s, b1_s, r_size x2, b1_s, nS1 (by show 1 ≤ (zplan s).1 + 1; omega)]
  show b2 (f_X12_whyNot 143 154 (nI ((zplan s).1 + 1 - 1)) M2) _ = _
  rw [Nat.add_sub_cancel, r_why x2 (show (zplan s).1 < (zplan s).1 + 1 by omega), b2_s]
  by_cases hz : whyS s (plAdd (zplan s) (trp p e m)) (zplan s).1 = 0
  · rw [hz, if_pos (by decide), r_nw (c2.rx hw) x2, b2_s, if_neg (show ¬ (0 : Nat) ≠ 0 by decide)]
    cases anyB (wrB s (zplan s) (plAdd (zplan s) (trp p e m))) (zT s) with
    | true => rw [if_pos (show bI (!true) = 0 from rfl), if_pos rfl]; rfl
    | false =>
      rw [if_neg (show ¬ bI (!false) = 0 by decide), sh_R s2 (a := 143) (k := 15) (b := 153) 12 (by decide) rfl (by decide), b1_s, r_size (c2.rx hw), b1_s, if_neg (show ¬ false = true by decide)]
      by_cases hq : (zplan s).1 = 12
      · rw [if_pos (by rw [hq]; rfl), if_pos hq]; rfl
      · rw [if_neg (by rw [show (12 : Int32) = nI 12 from rfl, nI_eq (by omega) (by omega)]; exact hq), if_neg hq]; rfl
  · rw [if_neg (nI_nle (by omega) (by omega)), if_pos hz]
/-! may -/
def cnA (s : St) (x y z : Int32) : Prop := ixP x (zP s) = true ∧ ixP y (zE s) = true ∧ ixP z 100 = true
def a_may (s : St) (x y z : Int32) : Int32 := if ixP x (zP s) = true ∧ ixP y (zE s) = true ∧ ixP z 100 = true then nI (mnS s (zplan s) x.toNatClampNeg y.toNatClampNeg z.toNatClampNeg) else -1
def n_may (s : St) (x y z : Int32) : St := s
theorem W_may {s : St} (hw : WF s) (x y z : Int32) : WF (n_may s x y z) := hw
theorem C_may {s : St} (hw : WF s) (x y z : Int32) : OpC (fun M => f_X11_may 0 x y z M) s (a_may s x y z) (n_may s x y z) := by
  intro M h
  have h0 := h.1
  have hP := hw.1.1
  have hE := hw.1.2.1
  show ∃ M', f_X11_may 0 x y z M = _ ∧ _
  unfold f_X11_may f_X11_may_0
  rw [if_pos (sh_O h0 11 (by decide) rfl), e_canC hw h, b2_s]
  by_cases hc : ixP x (zP s) = true ∧ ixP y (zE s) = true ∧ ixP z 100 = true
  · obtain ⟨p, hp, rfl⟩ := ix_ex (by omega) hc.1
    obtain ⟨e, he, rfl⟩ := ix_ex (by omega) hc.2.1
    obtain ⟨m, hm, rfl⟩ := ix_ex (by omega) hc.2.2
    obtain ⟨M1, e1, c1, k1, f1⟩ := c_looked hw h
    refine ⟨M1, ?_, c1, f1⟩
    rw [show a_may s (nI p) (nI e) (nI m) = nI (mnS s (zplan s) p e m) by unfold a_may; rw [if_pos hc, nI_clamp (by omega), nI_clamp (by omega), nI_clamp (by omega)], if_pos hc, if_neg (by decide), sh_R h0 (a := 0) (k := 5) (b := 18) 11 (by decide) rfl (by decide), b1_s, e1, b1_s, sh_R c1.1 (a := 0) (k := 5) (b := 18) 11 (by decide) rfl (by decide), b1_s, c_hin (c1.cx hw) (Or.inl ⟨rfl, rfl⟩) k1 hp he hm, b2_s]
  · rw [show a_may s x y z = -1 from if_neg hc, if_neg hc, if_pos rfl]
    exact ⟨M, rfl, h, Fr.rf M⟩
theorem R_may {s : St} (hw : WF s) (x y z : Int32) : OpR (fun M => f_X12_may 143 x y z M) s (a_may s x y z) (n_may s x y z) := by
  intro M h
  obtain ⟨N, et, ht, ft, rt, t0, l0⟩ := r_thr0 h
  have hP := hw.1.1
  have hE := hw.1.2.1
  show ∃ M', f_X12_may 143 x y z M = _ ∧ _
  unfold f_X12_may f_X12_may_0
  rw [if_pos (sh_O h.1 12 (by decide) rfl), et, b1_s, e_canR hw ht, b2_s]
  by_cases hc : ixP x (zP s) = true ∧ ixP y (zE s) = true ∧ ixP z 100 = true
  · obtain ⟨p, hp, rfl⟩ := ix_ex (by omega) hc.1
    obtain ⟨e, he, rfl⟩ := ix_ex (by omega) hc.2.1
    obtain ⟨m, hm, rfl⟩ := ix_ex (by omega) hc.2.2
    obtain ⟨M1, e1, c1, f1, r1⟩ := r_may hw ht hp he hm
    refine ⟨M1, ?_, c1, ft.tr (f1.mono (fun a k q => by unfold rW; omega)), r1.trans rt⟩
    rw [show a_may s (nI p) (nI e) (nI m) = nI (mnS s (zplan s) p e m) by unfold a_may; rw [if_pos hc, nI_clamp (by omega), nI_clamp (by omega), nI_clamp (by omega)], if_pos hc, if_neg (by decide), e1, b2_s]
  · rw [show a_may s x y z = -1 from if_neg hc, if_neg hc, if_pos rfl]
    exact ⟨N, rfl, ht, ft, rt⟩
theorem case_12 : CaseOK g_L_12 := by
  intro L xs j K M hL hj hc
  obtain ⟨s, hw, hc, hr⟩ := hc
  obtain ⟨M1, M2, hcp, e1, e2⟩ := asm (C_may hw (xs (j + 1)) (xs (j + 2)) (xs (j + 3))) (R_may hw (xs (j + 1)) (xs (j + 2)) (xs (j + 3))) (W_may hw (xs (j + 1)) (xs (j + 2)) (xs (j + 3))) hc hr
  refine ⟨M2, hcp, ?_⟩
  unfold g_L_12
  simp only [show (nI j + 1 : Int32) = nI (j + 1) from nI_add _ 1, show (nI j + 2 : Int32) = nI (j + 2) from nI_add _ 2, show (nI j + 3 : Int32) = nI (j + 3) from nI_add _ 3, show (nI j + 4 : Int32) = nI (j + 4) from nI_add _ 4, scr_k (show j + 1 < L by omega) hL, scr_k (show j + 2 < L by omega) hL, scr_k (show j + 3 < L by omega) hL, scr_k (show j + 4 < L by omega) hL, b1_s, e1, e2, b2_s, if_true]

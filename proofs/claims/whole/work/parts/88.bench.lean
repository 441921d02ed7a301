/-! WHO IS AT THE BENCH, WHO SEES; both sides -/
theorem b_1 (i : Nat) : bt 1 i = decide (i = 0) := by
  rcases Nat.lt_or_ge i 32 with h | h
  · exact (by decide +kernel : ∀ i, i < 32 → bt 1 i = decide (i = 0)) i h
  · rw [b_big h, decide_eq_false (by omega)]
theorem one_bt {k i : Nat} (hk : k < 32) (hi : i < 32) : bt ((1 : Int32) <<< (nI k &&& 31)) i = decide (i = k) := by
  rw [b_shl k hk 1 hi, b_1, Bool.eq_iff_iff]
  simp only [Bool.and_eq_true, decide_eq_true_eq]
  omega
theorem msk_bt : ∀ n, n ≤ 8 → ∀ i, i < 32 → bt ((1 : Int32) <<< (nI n &&& 31) - 1) i = decide (i < n) := by decide +kernel
theorem orB_bt (P : Nat → Bool) : ∀ n, n ≤ 32 → ∀ i, i < 32 → bt (orB P n) i = (decide (i < n) && P i)
  | 0, _, i, _ => by rw [orB, b_0, decide_eq_false (by omega), Bool.false_and]
  | n + 1, hn, i, hi => by
    rw [orB_s, b_or, orB_bt P n (by omega) i hi]
    by_cases h : i = n
    · subst h
      cases hp : P i with
      | true => rw [if_pos rfl, one_bt (by omega) hi, decide_eq_true (show i = i from rfl), decide_eq_true (show i < i + 1 by omega), Bool.or_true]; rfl
      | false => rw [if_neg (by decide), b_0, Bool.and_false, Bool.and_false]; rfl
    · have e : bt (if P n = true then (1 : Int32) <<< (nI n &&& 31) else 0) i = false := by
        split
        · rw [one_bt (by omega) hi, decide_eq_false h]
        · exact b_0 i
      rw [e, Bool.or_false]
      congr 1
      rw [decide_eq_decide]; omega
theorem orB_c {P Q : Nat → Bool} : ∀ {n : Nat}, (∀ k, k < n → P k = Q k) → orB P n = orB Q n
  | 0, _ => rfl
  | n + 1, h => by rw [orB_s, orB_s, orB_c (fun k hk => h k (by omega)), h n (by omega)]
theorem orB_e {x : Int32} {P : Nat → Bool} {n : Nat} (hn : n ≤ 32) (h : ∀ i, i < 32 → bt x i = (decide (i < n) && P i)) : x = orB P n := b_ext (fun i hi => by rw [h i hi, orB_bt P n hn i hi])
theorem orB_0 {P : Nat → Bool} {n : Nat} (hn : n ≤ 32) : orB P n = 0 ↔ anyB P n = false := by
  constructor
  · intro h
    refine anyB_f (fun k hk => ?_)
    have := orB_bt P n hn k (by omega)
    rw [h, b_0, decide_eq_true hk, Bool.true_and] at this
    exact this.symm
  · intro h
    refine b_ext (fun i hi => ?_)
    rw [orB_bt P n hn i hi, b_0]
    by_cases hk : i < n
    · cases hp : P i with
      | false => rw [Bool.and_false]
      | true => rw [anyB_t hp hk] at h; cases h
    · rw [decide_eq_false hk, Bool.false_and]
def beB (s : St) (q : Pl) (m : Nat) : Int32 := orB (fun p => !awF s q q.1 p m) (zP s)
def seI (s : St) (q : Pl) (m : Nat) : Int32 := orB (fun p => seF s q q.1 p m) (zP s)
def watB (s : St) (q : Pl) (m : Nat) : Bool := ovF s q q.1 m || anyB (fun p => !awF s q q.1 p m) (zP s)
theorem ba_wat (s : St) (q : Pl) (m : Nat) : baF s q (zP s) m = (decide (m < zT s) && !watB s q m) := by
  unfold baF watB
  rw [Bool.not_or, ← Bool.and_assoc]
  congr 1
  rw [Bool.eq_iff_iff, allB_iff, Bool.not_eq_true']
  constructor
  · intro h
    exact anyB_f (fun k hk => by rw [h k hk]; rfl)
  · intro h k hk
    cases hp : awF s q q.1 k m with
    | true => rfl
    | false => rw [anyB_t (P := fun p => !awF s q q.1 p m) (k := k) (by show (!awF s q q.1 k m) = true; rw [hp]; rfl) hk] at h; cases h
section BCH
variable {s : St} {M : MM} {a : Nat} {q : Pl}
theorem r_away (h : RX s M a q) {i : Nat} (hi : i < q.1) {m : Nat} (hm : m < 200) : f_X12_isAway 143 a (nI i) (nI m) M = some (bI (decide (ts (q.2 i) ≤ m ∧ m < tback s (q.2 i))), M) := by
  have h0 := h.1
  have hb := tback_b h.2.2.2.1 (h.2.2.2.2.2.2.2 i hi)
  unfold f_X12_isAway f_X12_isAway_0
  rw [if_pos (sh_O h0 12 (by decide) rfl), r_start h hi, b2_s, r_back h hi, b2_s, nS1 (by omega), e_in32, b2_s]
  by_cases hc : ts (q.2 i) ≤ m ∧ m < tback s (q.2 i)
  · rw [if_pos ⟨nI_le hc.1 (by omega), nI_le (by omega) (by omega)⟩, rz1, decide_eq_true hc, bI_t]
  · rw [if_neg, rz0, decide_eq_false hc, bI_f]
    rw [nI_leI (by omega) (by omega), nI_leI (by omega) (by omega)]
    omega
theorem r_there (h : RX s M a q) {i : Nat} (hi : i < q.1) {m : Nat} (hm : m < 200) : f_X12_isThere 143 a (nI i) (nI m) M = some (bI (thB s (q.2 i) m), M) := by
  have h0 := h.1
  have hb := okT_b (h.2.2.2.2.2.2.2 i hi)
  have hB := h.2.2.2.1.2.1 _ hb.2.2.1
  unfold f_X12_isThere f_X12_isThere_0 thB
  rw [if_pos (sh_O h0 12 (by decide) rfl), r_start h hi, b2_s, sh_R h0 (a := 143) (k := 9) (b := 147) 12 (by decide) rfl (by decide), b1_s, r_what h hi, b2_s, lr_way h0 h.2.1 h.2.2.1 hb.2.2.1, b1_s, nI_add, bn_s, sh_R h0 (a := 143) (k := 10) (b := 148) 12 (by decide) rfl (by decide), b1_s, r_what h hi, b2_s, lr_las h0 h.2.1 h.2.2.1 hb.2.2.1, b1_s, nI_add, nS1 (by omega), e_in32, b2_s]
  by_cases hc : ts (q.2 i) + zway s (te (q.2 i)) ≤ m ∧ m < ts (q.2 i) + zway s (te (q.2 i)) + zlas s (te (q.2 i))
  · rw [if_pos ⟨nI_le hc.1 (by omega), nI_le (by omega) (by omega)⟩, rz1, decide_eq_true hc, bI_t]
  · rw [if_neg, rz0, decide_eq_false hc, bI_f]
    rw [nI_leI (by omega) (by omega), nI_leI (by omega) (by omega)]
    omega
def beR (s : St) (q : Pl) (m : Nat) : Nat → Int32
  | 0 => (1 : Int32) <<< (nI (zP s) &&& 31) - 1
  | k + 1 => beR s q m k &&& (if ts (q.2 k) ≤ m ∧ m < tback s (q.2 k) then ((1 : Int32) <<< (nI (tw (q.2 k)) &&& 31)) ^^^ (-1) else -1)
theorem beR_s (s : St) (q : Pl) (m k : Nat) : beR s q m (k + 1) = beR s q m k &&& (if ts (q.2 k) ≤ m ∧ m < tback s (q.2 k) then ((1 : Int32) <<< (nI (tw (q.2 k)) &&& 31)) ^^^ (-1) else -1) := rfl
theorem not_bt (x : Int32) {i : Nat} (hi : i < 32) : bt (x ^^^ (-1)) i = !bt x i := by rw [b_xor, b_m1 i hi, Bool.xor_true]
theorem beR_bt (hP : zP s ≤ 6) (m : Nat) : ∀ k, (∀ j, j < k → tw (q.2 j) < 8) → ∀ i, i < 32 → bt (beR s q m k) i = (decide (i < zP s) && !awF s q k i m)
  | 0, _, i, hi => by
    rw [beR, msk_bt _ (by omega) i hi]
    show _ = (_ && true)
    rw [Bool.and_true]
  | k + 1, hk, i, hi => by
    rw [beR_s, b_and, beR_bt hP m k (fun j hj => hk j (by omega)) i hi, awF_s, Bool.not_or, Bool.and_assoc]
    congr 1
    congr 1
    unfold awP
    by_cases hc : ts (q.2 k) ≤ m ∧ m < tback s (q.2 k)
    · rw [if_pos hc, not_bt _ hi, one_bt (by have := hk k (by omega); omega) hi]
      congr 1
      rw [decide_eq_decide]
      constructor
      · intro e; exact ⟨e.symm, hc⟩
      · intro e; exact e.1.symm
    · rw [if_neg hc, b_m1 i hi, decide_eq_false (fun e => hc e.2)]; rfl
theorem r_bench (h : RX s M a q) {m : Nat} (hm : m < 200) : f_X12_benchIn 143 a (nI m) M = some (beB s q m, M) := by
  have h0 := h.1
  have hP := h.2.2.1.1
  have h15 := h.2.2.2.2.2.2.1
  unfold f_X12_benchIn f_X12_benchIn_0
  rw [if_pos (sh_O h0 12 (by decide) rfl), gI_k 3 (sh_O h0 12 (by decide) rfl), b1_s, h.2.1.1, bn_s]
  have this : f_X12_benchIn_12 1024 143 a (nI m) (beR s q m 0) (nI 0) M = some (beR s q m q.1, M) := by
    refine lpv (fun f k => f_X12_benchIn_12 f 143 a (nI m) (beR s q m k) (nI k) M) q.1 _ (fun f k hk => Or.inl ?_) (fun f => ?_) 1024 0 (by omega) (by omega)
    · show f_X12_benchIn_12 (f + 1) _ _ _ _ _ _ = _
      rw [f_X12_benchIn_12, r_size h, b1_s, if_neg (nI_ge hk (by omega)), r_away h hk hm, b2_s, beR_s]
      unfold f_X12_benchIn_47
      by_cases hc : ts (q.2 k) ≤ m ∧ m < tback s (q.2 k)
      · rw [decide_eq_true hc, if_neg (by decide), r_who h hk, b2_s, bn_s, bn_s, nI_1, if_pos hc]
      · rw [decide_eq_false hc, if_pos (show bI false = 0 from rfl), bn_s, bn_s, nI_1, if_neg hc]
    · show f_X12_benchIn_12 (f + 1) _ _ _ _ _ _ = _
      rw [f_X12_benchIn_12, r_size h, b1_s, if_pos (nI_le (Nat.le_refl _) (by omega))]
  have e : beR s q m q.1 = beB s q m := orB_e (by omega) (fun i hi => by rw [beR_bt hP m q.1 (fun j hj => by have := okT_b (h.2.2.2.2.2.2.2 j hj); omega) i hi])
  rw [e, nI_0] at this
  exact this
def seR (s : St) (q : Pl) (m : Nat) : Nat → Int32
  | 0 => 0
  | k + 1 => seR s q m k ||| (if (seeB s (q.2 k) && thB s (q.2 k) m) = true then (1 : Int32) <<< (nI (tw (q.2 k)) &&& 31) else 0)
theorem seR_s (s : St) (q : Pl) (m k : Nat) : seR s q m (k + 1) = seR s q m k ||| (if (seeB s (q.2 k) && thB s (q.2 k) m) = true then (1 : Int32) <<< (nI (tw (q.2 k)) &&& 31) else 0) := rfl
theorem seR_bt (m : Nat) : ∀ k, (∀ j, j < k → tw (q.2 j) < 8) → ∀ i, i < 32 → bt (seR s q m k) i = seF s q k i m
  | 0, _, i, hi => b_0 i
  | k + 1, hk, i, hi => by
    rw [seR_s, b_or, seR_bt m k (fun j hj => hk j (by omega)) i hi, seF_s]
    congr 1
    cases h1 : seeB s (q.2 k) with
    | false => rw [Bool.false_and, Bool.false_and, if_neg (by decide), b_0]
    | true =>
      cases h2 : thB s (q.2 k) m with
      | false => rw [Bool.and_false, Bool.and_false, if_neg (by decide), b_0]; rfl
      | true =>
        rw [Bool.and_true, Bool.and_true, Bool.true_and, if_pos rfl, one_bt (by have := hk k (by omega); omega) hi, decide_eq_decide]
        omega
theorem see_n (h : WFh s) {e : Nat} (he : e < zE s) : (nI (zsee s e) = 0) ↔ ¬ zsee s e = 1 := by
  have hB := h.2.1 e he
  by_cases hz : zsee s e = 1
  · rw [hz]
    constructor
    · intro q; exact absurd q (by decide)
    · intro q; exact absurd rfl q
  · rw [show zsee s e = 0 by omega]
    exact ⟨fun _ => by decide, fun _ => rfl⟩
theorem seF_P (h : okPr (zP s) (zE s) q) {p m : Nat} (hp : zP s ≤ p) : seF s q q.1 p m = false := by
  refine anyB_f (fun k hk => ?_)
  have := okT_b (h.2 k hk)
  rw [decide_eq_false (by omega), Bool.false_and, Bool.and_false]
theorem r_seers (h : RX s M a q) {m : Nat} (hm : m < 200) : f_X12_seersIn 143 a (nI m) M = some (seI s q m, M) := by
  have h0 := h.1
  have hP := h.2.2.1.1
  have h15 := h.2.2.2.2.2.2.1
  unfold f_X12_seersIn f_X12_seersIn_0
  rw [if_pos (sh_O h0 12 (by decide) rfl)]
  have this : f_X12_seersIn_5 1024 143 a (nI m) (seR s q m 0) (nI 0) M = some (seR s q m q.1, M) := by
    refine lpv (fun f k => f_X12_seersIn_5 f 143 a (nI m) (seR s q m k) (nI k) M) q.1 _ (fun f k hk => Or.inl ?_) (fun f => ?_) 1024 0 (by omega) (by omega)
    · show f_X12_seersIn_5 (f + 1) _ _ _ _ _ _ = _
      have hb := okT_b (h.2.2.2.2.2.2.2 k hk)
      rw [f_X12_seersIn_5, r_size h, b1_s, if_neg (nI_ge hk (by omega)), sh_R h0 (a := 143) (k := 14) (b := 152) 12 (by decide) rfl (by decide), b1_s, r_what h hk, b2_s, lr_see h0 h.2.1 h.2.2.1 hb.2.2.1, b1_s, r_there h hk hm, b2_s, r_who h hk, b2_s, seR_s]
      unfold f_X12_seersIn_51 f_X12_seersIn_52
      by_cases hc : zsee s (te (q.2 k)) = 1
      · rw [if_neg (by rw [see_n h.2.2.2.1 hb.2.2.1]; exact fun q => q hc), show seeB s (q.2 k) = true from decide_eq_true hc, Bool.true_and]
        cases ht : thB s (q.2 k) m with
        | true => rw [if_neg (by decide), bn_s, bn_s, nI_1, if_pos rfl]
        | false => rw [if_pos (show bI false = 0 from rfl), bn_s, bn_s, nI_1, if_neg (by decide)]
      · rw [if_pos ((see_n h.2.2.2.1 hb.2.2.1).mpr hc), show seeB s (q.2 k) = false from decide_eq_false hc, Bool.false_and, bn_s, bn_s, nI_1, if_neg (by decide)]
    · show f_X12_seersIn_5 (f + 1) _ _ _ _ _ _ = _
      rw [f_X12_seersIn_5, r_size h, b1_s, if_pos (nI_le (Nat.le_refl _) (by omega))]
  have e : seR s q m q.1 = seI s q m := orB_e (by omega) (fun i hi => by
    rw [seR_bt m q.1 (fun j hj => by have := okT_b (h.2.2.2.2.2.2.2 j hj); omega) i hi]
    by_cases hip : i < zP s
    · rw [decide_eq_true hip, Bool.true_and]
    · rw [decide_eq_false hip, Bool.false_and, seF_P h.2.2.2.2.2.2 (by omega)])
  rw [e, nI_0] at this
  exact this
theorem or_0 (x y : Int32) : x ||| y = 0 ↔ x = 0 ∧ y = 0 := by
  constructor
  · intro h
    have hb : ∀ i, (bt x i || bt y i) = false := fun i => by rw [← b_or, h, b_0]
    refine ⟨b_ext (fun i hi => ?_), b_ext (fun i hi => ?_)⟩
    · have := hb i; rw [b_0]; cases hx : bt x i <;> simp_all
    · have := hb i; rw [b_0]; cases hx : bt y i <;> simp_all
  · rintro ⟨rfl, rfl⟩
    decide
theorem ov_se (h : okPr (zP s) (zE s) q) (m : Nat) : anyB (fun p => seF s q q.1 p m) (zP s) = ovF s q q.1 m := by
  rw [Bool.eq_iff_iff]
  constructor
  · intro hx
    obtain ⟨p, hp, hs⟩ := anyB_iff.mp hx
    exact se_ov hs
  · intro hx
    obtain ⟨k, hk, hs⟩ := anyB_iff.mp hx
    have hb := okT_b (h.2 k hk)
    refine anyB_iff.mpr ⟨tw (q.2 k), hb.2.1, anyB_iff.mpr ⟨k, hk, ?_⟩⟩
    simp only [Bool.and_eq_true] at hs ⊢
    exact ⟨hs.1, by decide, hs.2⟩
theorem r_wat (h : RX s M a q) {m : Nat} (hm : m < 200) : f_X12_isWatched 143 a (nI m) M = some (bI (watB s q m), M) := by
  have h0 := h.1
  have hP := h.2.2.1.1
  unfold f_X12_isWatched f_X12_isWatched_0 watB
  rw [if_pos (sh_O h0 12 (by decide) rfl), r_bench h hm, b2_s, r_seers h hm, b2_s]
  have e : (beB s q m ||| seI s q m = 0) ↔ (ovF s q q.1 m || anyB (fun p => !awF s q q.1 p m) (zP s)) = false := by
    rw [or_0, Bool.or_eq_false_iff, ← ov_se h.2.2.2.2.2.2]
    unfold beB seI
    rw [orB_0 (by omega), orB_0 (by omega)]
    exact And.comm
  cases hx : (ovF s q q.1 m || anyB (fun p => !awF s q q.1 p m) (zP s)) with
  | false => rw [if_pos (e.mpr hx), rz0, bI_f]
  | true => rw [if_neg (fun q => by rw [e.mp q] at hx; cases hx), rz1, bI_t]
end BCH
/-! the class -/
section BCC
variable {s : St} {M : MM} {a L : Nat} {q : Pl}
theorem c_bench (h : CX s M a q) (hl : LX L a) (hk : LK s q M L) {m : Nat} (hm : m < 128) : f_X1_benchIn L (nI m) M = some (beB s q m, M) := by
  have h0 := h.1
  have hP := h.2.2.1.1
  unfold f_X1_benchIn f_X1_benchIn_0
  rw [if_pos (lx_O h0 hl)]
  have this : f_X1_benchIn_4 1024 L (nI m) (orB (fun p => !awF s q q.1 p m) 0) (nI 0) M = some (orB (fun p => !awF s q q.1 p m) (zP s), M) := by
    refine lpv (fun f k => f_X1_benchIn_4 f L (nI m) (orB (fun p => !awF s q q.1 p m) k) (nI k) M) (zP s) _ (fun f k hp => Or.inl ?_) (fun f => ?_) 1024 0 (by omega) (by omega)
    · show f_X1_benchIn_4 (f + 1) _ _ _ _ _ = _
      rw [f_X1_benchIn_4, lx_0 h0 hl, b1_s, gI_k 7 (sh_O h0 9 (by decide) rfl), b1_s, h.2.1.1, if_neg (nI_ge hp (by omega)), (lx_f h0 hl).1, b1_s, (lx_ld (p := k) h0 hl (by omega)).1, b1_s, m_has (lx_c h0 hl (by omega)) (hk.1 k hp).1 hm, b2_s, orB_s]
      unfold f_X1_benchIn_36
      cases awF s q q.1 k m with
      | true => rw [if_neg (by decide), bn_s, bn_s, nI_1, if_neg (by decide)]
      | false => rw [if_pos (show bI false = 0 from rfl), bn_s, bn_s, nI_1, if_pos (show (!false) = true from rfl)]
    · show f_X1_benchIn_4 (f + 1) _ _ _ _ _ = _
      rw [f_X1_benchIn_4, lx_0 h0 hl, b1_s, gI_k 7 (sh_O h0 9 (by decide) rfl), b1_s, h.2.1.1, if_pos (nI_le (Nat.le_refl _) (by omega))]
  rw [nI_0] at this
  exact this
/-- how long one is at the bench -/
def atB (s : St) (q : Pl) (p : Nat) : Nat := fb_ct (fun m => !awF s q q.1 p m) (zT s)
theorem atB_le (s : St) (q : Pl) (p : Nat) : atB s q p ≤ zT s := fb_ct_le _ _
theorem c_atB (h : CX s M a q) (hl : LX L a) (hk : LK s q M L) {p : Nat} (hp : p < zP s) : f_X1_atBench L (nI p) M = some (nI (atB s q p), M) := by
  have h0 := h.1
  have hP := h.2.2.1.1
  have hT := h.2.2.1.2.2.2.1
  unfold f_X1_atBench f_X1_atBench_0 atB
  rw [if_pos (lx_O h0 hl)]
  have this : f_X1_atBench_4 1024 L (nI p) (nI (fb_ct (fun m => !awF s q q.1 p m) 0)) (nI 0) M = some (nI (fb_ct (fun m => !awF s q q.1 p m) (zT s)), M) := by
    refine lpv (fun f k => f_X1_atBench_4 f L (nI p) (nI (fb_ct (fun m => !awF s q q.1 p m) k)) (nI k) M) (zT s) _ (fun f k hm => Or.inl ?_) (fun f => ?_) 1024 0 (by omega) (by omega)
    · show f_X1_atBench_4 (f + 1) _ _ _ _ _ = _
      rw [f_X1_atBench_4, lx_0 h0 hl, b1_s, gI_k 9 (sh_O h0 9 (by decide) rfl), b1_s, h.2.1.2.2.1, if_neg (nI_ge hm (by omega)), (lx_f h0 hl).1, b1_s, (lx_ld (p := p) h0 hl (by omega)).1, b1_s, m_has (lx_c h0 hl (by omega)) (hk.1 p hp).1 (by omega), b2_s, fb_ct_succ]
      unfold f_X1_atBench_34
      cases awF s q q.1 p k with
      | true => rw [if_neg (by decide), bn_s, bn_s, nI_1, Int32.add_zero]; rfl
      | false => rw [if_pos (show bI false = 0 from rfl), bn_s, bn_s, nI_1, nI_1]; rfl
    · show f_X1_atBench_4 (f + 1) _ _ _ _ _ = _
      rw [f_X1_atBench_4, lx_0 h0 hl, b1_s, gI_k 9 (sh_O h0 9 (by decide) rfl), b1_s, h.2.1.2.2.1, if_pos (nI_le (Nat.le_refl _) (by omega))]
  have z : nI (fb_ct (fun m => !awF s q q.1 p m) 0) = 0 := rfl
  rw [z, nI_0] at this
  exact this
/-- runs -/
def rnF (P : Nat → Bool) : Nat → Nat
  | 0 => 0
  | k + 1 => if P k = true then rnF P k + 1 else 0
def mxF (P : Nat → Bool) : Nat → Nat
  | 0 => 0
  | k + 1 => max (mxF P k) (rnF P (k + 1))
theorem rnF_s (P : Nat → Bool) (k : Nat) : rnF P (k + 1) = if P k = true then rnF P k + 1 else 0 := rfl
theorem mxF_s (P : Nat → Bool) (k : Nat) : mxF P (k + 1) = max (mxF P k) (rnF P (k + 1)) := rfl
theorem rnF_le (P : Nat → Bool) : ∀ k, rnF P k ≤ k
  | 0 => Nat.le_refl 0
  | k + 1 => by have := rnF_le P k; rw [rnF_s]; split <;> omega
theorem mxF_le (P : Nat → Bool) : ∀ k, mxF P k ≤ k
  | 0 => Nat.le_refl 0
  | k + 1 => by have := mxF_le P k; have := rnF_le P (k + 1); rw [mxF_s]; omega
theorem c_lon (h : CX s M a q) (hl : LX L a) (hk : LK s q M L) {p : Nat} (hp : p < zP s) : f_X1_longestAtBench L (nI p) M = some (nI (mxF (fun m => !awF s q q.1 p m) (zT s)), M) := by
  have h0 := h.1
  have hP := h.2.2.1.1
  have hT := h.2.2.1.2.2.2.1
  unfold f_X1_longestAtBench f_X1_longestAtBench_0
  rw [if_pos (lx_O h0 hl)]
  have this : f_X1_longestAtBench_7 1024 L (nI p) (nI (rnF (fun m => !awF s q q.1 p m) 0)) (nI (mxF (fun m => !awF s q q.1 p m) 0)) (nI 0) M = some (nI (mxF (fun m => !awF s q q.1 p m) (zT s)), M) := by
    refine lpv (fun f k => f_X1_longestAtBench_7 f L (nI p) (nI (rnF (fun m => !awF s q q.1 p m) k)) (nI (mxF (fun m => !awF s q q.1 p m) k)) (nI k) M) (zT s) _ (fun f k hm => Or.inl ?_) (fun f => ?_) 1024 0 (by omega) (by omega)
    · show f_X1_longestAtBench_7 (f + 1) _ _ _ _ _ _ = _
      have r1 := rnF_le (fun m => !awF s q q.1 p m) k
      have r2 := rnF_le (fun m => !awF s q q.1 p m) (k + 1)
      have r3 := mxF_le (fun m => !awF s q q.1 p m) k
      rw [f_X1_longestAtBench_7, lx_0 h0 hl, b1_s, gI_k 9 (sh_O h0 9 (by decide) rfl), b1_s, h.2.1.2.2.1, if_neg (nI_ge hm (by omega)), (lx_f h0 hl).1, b1_s, (lx_ld (p := p) h0 hl (by omega)).1, b1_s, m_has (lx_c h0 hl (by omega)) (hk.1 p hp).1 (by omega), b2_s, mxF_s]
      unfold f_X1_longestAtBench_40
      cases ha : awF s q q.1 p k with
      | true =>
        have e : rnF (fun m => !awF s q q.1 p m) (k + 1) = 0 := if_neg (by dsimp only; rw [ha]; decide)
        rw [if_neg (by decide), bn_s, bn_s, nI_1, e, ← nI_0, maxI_n (by omega) (by omega)]
      | false =>
        have e : rnF (fun m => !awF s q q.1 p m) (k + 1) = rnF (fun m => !awF s q q.1 p m) k + 1 := if_pos (by dsimp only; rw [ha]; rfl)
        rw [if_pos (show bI false = 0 from rfl), bn_s, bn_s, nI_1, nI_1, e, maxI_n (by omega) (by omega)]
    · show f_X1_longestAtBench_7 (f + 1) _ _ _ _ _ _ = _
      rw [f_X1_longestAtBench_7, lx_0 h0 hl, b1_s, gI_k 9 (sh_O h0 9 (by decide) rfl), b1_s, h.2.1.2.2.1, if_pos (nI_le (Nat.le_refl _) (by omega))]
  have z1 : nI (rnF (fun m => !awF s q q.1 p m) 0) = 0 := rfl
  have z2 : nI (mxF (fun m => !awF s q q.1 p m) 0) = 0 := rfl
  rw [z1, z2, nI_0] at this
  exact this
theorem c_bare (h : CX s M a q) (hl : LX L a) (hk : LK s q M L) {m : Nat} (hm : m < zT s) : f_X2_has (L + 4) (nI m) M = some (bI (!watB s q m), M) := by
  have hT := h.2.2.1.2.2.2.1
  rw [m_has (lx_c h.1 hl (by omega)) hk.2.1 (by omega), ba_wat, decide_eq_true hm, Bool.true_and]
end BCC
/-- looked: the class's state is as it was -/
theorem c_looked {s : St} {M : MM} (hw : WF s) (h : RC s M) : ∃ M', f_X1_look 18 M = some M' ∧ RC s M' ∧ LK s (zplan s) M' 18 ∧ Fr cW M M' := by
  obtain ⟨M', e, k, f⟩ := c_look (h.cx hw) (Or.inl ⟨rfl, rfl⟩)
  have f' := f.fr
  exact ⟨M', e, h.fr (f'.mono (fun a k q => by unfold wL at q; unfold wC; omega)) (f.sh h.1), k, f'.mono (fun a k q => by unfold wL at q; unfold cW; omega)⟩
theorem r_hasb {M : MM} {P : Nat → Bool} {n p : Nat} (hn : n ≤ 8) (hp : p < n) : f_X12_has (orB P n) (nI p) M = some (bI (P p), M) := by
  unfold f_X12_has f_X12_has_0
  have e : ((orB P n) >>> (nI p &&& 31)) &&& 1 = bI (P p) := by
    refine b_ext (fun i hi => ?_)
    rw [b_and, b_1, b_sshr p (by omega) _ hi]
    by_cases h0 : i = 0
    · subst h0
      rw [if_pos (by omega), Nat.add_zero, orB_bt P n (by omega) p (by omega), decide_eq_true hp, decide_eq_true rfl, Bool.true_and, Bool.and_true]
      cases P p <;> decide
    · rw [decide_eq_false h0, Bool.and_false]
      cases P p
      · exact (b_0 i).symm
      · rw [bI_t, b_1, decide_eq_false h0]
  rw [e]
  cases P p
  · rw [if_neg (by decide), rz0, bI_f]
  · rw [if_pos (by decide), rz1, bI_t]

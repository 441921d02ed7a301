/-! WHAT A TRIP IS WORTH: the class's loop, the reference's -/
def toP (q : Pl) (i k : Nat) : Bool := decide (te (q.2 k) = te (q.2 i) ∧ ts (q.2 k) = ts (q.2 i))
theorem cn_to {q : Pl} {i : Nat} (hi : i < q.1) : fb_ct (toP q i) q.1 = fb_ct (cnP q i) q.1 + 1 := by
  have h := fb_ct_upd (toP q i) false hi
  have e : fb_ct (fun k => if k = i then false else toP q i k) q.1 = fb_ct (cnP q i) q.1 := by
    refine fb_ct_cong (fun k hk => ?_)
    unfold cnP toP oneB
    by_cases hk : k = i
    · simp [hk]
    · rw [if_neg hk, decide_eq_true hk, Bool.true_and]
      rw [decide_eq_decide]
      omega
  rw [e] at h
  have t : toP q i i = true := by unfold toP; simp
  rw [t] at h
  simp at h
  omega
theorem any_sa {q : Pl} {i : Nat} (hi : i < q.1) : anyB (fun k => decide (k < i) && saP q i k) q.1 = anyB (saP q i) i := by
  rw [Bool.eq_iff_iff, anyB_iff, anyB_iff]
  constructor
  · rintro ⟨k, hk, hp⟩
    simp only [Bool.and_eq_true, decide_eq_true_eq] at hp
    exact ⟨k, hp.1, hp.2⟩
  · rintro ⟨k, hk, hp⟩
    exact ⟨k, by omega, by simp only [Bool.and_eq_true, decide_eq_true_eq]; exact ⟨hk, hp⟩⟩
def wEv (a k : Nat) : Prop := a = 87 ∨ a = 88
def CW (s : St) (M : MM) (q : Pl) : Prop := CX s M 14 q ∧ rcRule s M
theorem CX.frx {s : St} {M M' : MM} {a : Nat} {q : Pl} {W : Nat → Nat → Prop} (h : CX s M a q) (f : Fr W M M') (hs : Sh M') (w : ∀ b k, (b = 5 ∧ 7 ≤ k ∧ k ≤ 9) ∨ (6 ≤ b ∧ b ≤ 13) ∨ b = a ∨ b = a + 1 → ¬ W b k) : CX s M' a q := ⟨hs, h.2.1.fr f (fun b k q => w b k (by omega)), h.2.2.1, h.2.2.2.1, h.2.2.2.2.1, h.2.2.2.2.2.1.frw f (fun b k q => w b k (by omega)), h.2.2.2.2.2.2⟩
theorem CW.fr {s : St} {M M' : MM} {q : Pl} (h : CW s M q) (f : Fr wEv M M') (hr : mR M' = mR M) : CW s M' q := ⟨h.1.frx f (f.sh' hr h.1.1) (fun b k q => by unfold wEv; omega), h.2.fr f (fun b k q => by unfold wEv; omega)⟩
theorem RC.cw {s : St} {M : MM} (h : RC s M) (hw : WF s) : CW s M (zplan s) := ⟨h.cx hw, h.2.2.2.2.2.1⟩
section WO2
variable {s : St} {M : MM} {q : Pl}
theorem of_st (h : CX s M 14 q) {i k : Nat} (hi : i < q.1) (hk : k < q.1) (f c : Nat) (B : Bool) : f_X7_of_54 (f + 1) 84 (nI i) (nI (tw (q.2 i))) (nI (te (q.2 i))) (nI (ts (q.2 i))) (-1 + nI c) (bI B) (nI k) M = f_X7_of_54 f 84 (nI i) (nI (tw (q.2 i))) (nI (te (q.2 i))) (nI (ts (q.2 i))) (-1 + nI (c + if toP q i k = true then 1 else 0)) (bI (B || (decide (k < i) && saP q i k))) (nI (k + 1)) M := by
  have h0 := h.1
  have h12 := h.2.2.2.2.2.2.1
  have hb := okT_b (h.2.2.2.2.2.2.2 i hi)
  have hc := okT_b (h.2.2.2.2.2.2.2 k hk)
  have hP := h.2.2.1.1
  have hE := h.2.2.1.2.1
  have hR1 : gR 7 1 84 M = some 14 := sh_R h0 (a := 84) 7 (by decide) rfl (by decide)
  rw [f_X7_of_54, hR1, b1_s, c_size h, b1_s, if_neg (nI_ge hk (by omega)), b1_s, e_tog h hk (by omega) (by omega), b2_s]
  unfold f_X7_of_88 f_X7_of_127 f_X7_of_129
  simp only [hR1, b1_s, b2_s, bn_s, e_who h hk, e_what h hk, nI_1, bI_0, nI_eq (show tw (q.2 k) < 2 ^ 31 by omega) (show tw (q.2 i) < 2 ^ 31 by omega), nI_eq (show te (q.2 k) < 2 ^ 31 by omega) (show te (q.2 i) < 2 ^ 31 by omega)]
  have e1 : (-1 + nI c + 1 : Int32) = -1 + nI (c + 1) := by rw [Int32.add_assoc, nI_1]
  have e0 : (-1 + nI c + 0 : Int32) = -1 + nI c := Int32.add_zero _
  rw [e1, e0]
  unfold toP saP
  by_cases ht : te (q.2 k) = te (q.2 i) ∧ ts (q.2 k) = ts (q.2 i)
  · rw [decide_eq_true ht, if_neg (by decide), if_pos rfl]
    by_cases hl : k < i
    · rw [if_neg (nI_ge hl (by omega)), decide_eq_true hl, Bool.true_and]
      by_cases hw : tw (q.2 k) = tw (q.2 i)
      · rw [if_pos hw, if_pos ht.1, decide_eq_true ⟨hw, ht.1⟩, Bool.or_true]; rfl
      · rw [if_neg hw, decide_eq_false (fun q => hw q.1), Bool.or_false]
    · rw [if_pos (nI_le (by omega) (by omega)), decide_eq_false hl, Bool.false_and, Bool.or_false]
  · rw [decide_eq_false ht]
    simp only [Bool.false_eq_true, if_false, if_true, Nat.add_zero]
    by_cases hl : k < i
    · rw [if_neg (nI_ge hl (by omega)), decide_eq_true hl, Bool.true_and]
      by_cases hw : tw (q.2 k) = tw (q.2 i)
      · rw [if_pos hw]
        by_cases he : te (q.2 k) = te (q.2 i)
        · rw [if_pos he, decide_eq_true ⟨hw, he⟩, Bool.or_true]; rfl
        · rw [if_neg he, decide_eq_false (fun q => he q.2), Bool.or_false]
      · rw [if_neg hw, decide_eq_false (fun q => hw q.1), Bool.or_false]
    · rw [if_pos (nI_le (by omega) (by omega)), decide_eq_false hl, Bool.false_and, Bool.or_false]
theorem c_of (h : CW s M q) {i : Nat} (hi : i < q.1) : ∃ M', f_X7_of 84 (nI i) M = some (worS s q i, M') ∧ Fr wEv M M' ∧ mR M' = mR M := by
  obtain ⟨hx, n, hn, hsz, hz, hrun⟩ := h
  have h0 := hx.1
  have h12 := hx.2.2.2.2.2.2.1
  have hb := okT_b (hx.2.2.2.2.2.2.2 i hi)
  have hR1 : gR 7 1 84 M = some 14 := sh_R h0 (a := 84) 7 (by decide) rfl (by decide)
  have hR0 : gR 7 0 84 M = some 5 := sh_R h0 (a := 84) 7 (by decide) rfl (by decide)
  have hO := sh_O h0 (a := 84) 7 (by decide) rfl
  unfold f_X7_of f_X7_of_0 worS
  simp only [hO, if_true, hR1, b1_s, e_who hx hi, e_what hx hi, e_first hx hi, b2_s, gI_k 6 hO, hsz, hR0]
  by_cases hz0 : n = 0
  · rw [if_pos (by rw [hz0]; rfl), if_pos (hz.mpr hz0), e_getW hx.1 hx.2.1 hx.2.2.1 hb.2.1 hb.2.2.1, b2_s]
    exact ⟨M, rfl, Fr.rf M, rfl⟩
  · rw [if_neg (nI_ne0 (by omega) (by omega)), if_neg (fun q => hz0 (hz.mp q))]
    obtain ⟨M', e, f, r⟩ := of_end hx hn hsz hi (hrun hz0 (fcS s q i))
    refine ⟨M', ?_, f, r⟩
    have this : f_X7_of_54 1024 84 (nI i) (nI (tw (q.2 i))) (nI (te (q.2 i))) (nI (ts (q.2 i))) (-1 + nI (fb_ct (toP q i) 0)) (bI (anyB (fun k => decide (k < i) && saP q i k) 0)) (nI 0) M = some (clp ((zrule s).2 (fcS s q i)), M') := by
      refine lpv (fun f k => f_X7_of_54 f 84 (nI i) (nI (tw (q.2 i))) (nI (te (q.2 i))) (nI (ts (q.2 i))) (-1 + nI (fb_ct (toP q i) k)) (bI (anyB (fun k => decide (k < i) && saP q i k) k)) (nI k) M) q.1 _ (fun f k hk => Or.inl ?_) (fun f => ?_) 1024 0 (by omega) (by omega)
      · show f_X7_of_54 (f + 1) _ _ _ _ _ _ _ _ _ = _
        rw [of_st hx hi hk, fb_ct_succ, anyB]
      · show f_X7_of_54 (f + 1) _ _ _ _ _ _ _ _ _ = _
        rw [any_sa hi, cn_to hi, Int32.add_comm, pk_m1]
        exact e f
    have z1 : (-1 + nI (fb_ct (toP q i) 0) : Int32) = -1 := Int32.add_zero _
    have z2 : bI (anyB (fun k => decide (k < i) && saP q i k) 0) = 0 := rfl
    rw [z1, z2, nI_0] at this
    exact this
def smI (f : Nat → Int32) : Nat → Int32
  | 0 => 0
  | n + 1 => smI f n + f n
theorem smI_s (f : Nat → Int32) (n : Nat) : smI f (n + 1) = smI f n + f n := rfl
theorem smI_cong {f g : Nat → Int32} : ∀ {n : Nat}, (∀ k, k < n → f k = g k) → smI f n = smI g n
  | 0, _ => rfl
  | n + 1, h => by rw [smI, smI, smI_cong (fun k hk => h k (by omega)), h n (by omega)]
def worAll (s : St) (q : Pl) : Int32 := smI (worS s q) q.1
def worPer (s : St) (q : Pl) (p : Nat) : Int32 := smI (fun i => if tw (q.2 i) = p then worS s q i else 0) q.1
def worTog (s : St) (q : Pl) (e m : Nat) : Int32 := smI (fun i => if te (q.2 i) = e ∧ ts (q.2 i) = m then worS s q i else 0) q.1
theorem c_sum (h : CW s M q) : ∃ r : Int32 × MM, f_X7_sum 84 M = some r ∧ (r.1 = worAll s q ∧ Fr wEv M r.2 ∧ mR r.2 = mR M) := by
  have h12 := h.1.2.2.2.2.2.2.1
  have key : ∃ r : Int32 × MM, f_X7_sum_4 1024 84 (smI (worS s q) 0) (nI 0) M = some r ∧ (r.1 = worAll s q ∧ Fr wEv M r.2 ∧ mR r.2 = mR M) := by
    refine lpm (fun f k M' => f_X7_sum_4 f 84 (smI (worS s q) k) (nI k) M') (fun k M' => Fr wEv M M' ∧ mR M' = mR M) (fun r => r.1 = worAll s q ∧ Fr wEv M r.2 ∧ mR r.2 = mR M) q.1 (fun f k M' hk hi => Or.inl ?_) (fun f M' hi => ?_) 1024 0 M (by omega) (by omega) ⟨Fr.rf M, rfl⟩
    · have hc := h.fr hi.1 hi.2
      obtain ⟨M2, e2, f2, r2⟩ := c_of hc hk
      refine ⟨M2, ?_, hi.1.tr f2, r2.trans hi.2⟩
      rw [f_X7_sum_4, sh_R hc.1.1 (a := 84) (k := 1) (b := 14) 7 (by decide) rfl (by decide), b1_s, c_size hc.1, b1_s, if_neg (nI_ge hk (by omega)), e2, b2_s, bn_s, bn_s, nI_1, smI]
    · have hc := h.fr hi.1 hi.2
      refine ⟨(worAll s q, M'), ?_, rfl, hi⟩
      rw [f_X7_sum_4, sh_R hc.1.1 (a := 84) (k := 1) (b := 14) 7 (by decide) rfl (by decide), b1_s, c_size hc.1, b1_s, if_pos (nI_le (Nat.le_refl _) (by omega))]
      rfl
  rw [nI_0] at key
  unfold f_X7_sum f_X7_sum_0
  rw [if_pos (sh_O h.1.1 7 (by decide) rfl)]
  exact key
theorem c_sumOf (h : CW s M q) {p : Nat} (hp : p < 8) : ∃ r : Int32 × MM, f_X7_sumOf 84 (nI p) M = some r ∧ (r.1 = worPer s q p ∧ Fr wEv M r.2 ∧ mR r.2 = mR M) := by
  have h12 := h.1.2.2.2.2.2.2.1
  have key : ∃ r : Int32 × MM, f_X7_sumOf_4 1024 84 (nI p) (smI (fun i => if tw (q.2 i) = p then worS s q i else 0) 0) (nI 0) M = some r ∧ (r.1 = worPer s q p ∧ Fr wEv M r.2 ∧ mR r.2 = mR M) := by
    refine lpm (fun f k M' => f_X7_sumOf_4 f 84 (nI p) (smI (fun i => if tw (q.2 i) = p then worS s q i else 0) k) (nI k) M') (fun k M' => Fr wEv M M' ∧ mR M' = mR M) (fun r => r.1 = worPer s q p ∧ Fr wEv M r.2 ∧ mR r.2 = mR M) q.1 (fun f k M' hk hi => Or.inl ?_) (fun f M' hi => ?_) 1024 0 M (by omega) (by omega) ⟨Fr.rf M, rfl⟩
    · have hc := h.fr hi.1 hi.2
      have hR1 := sh_R hc.1.1 (a := 84) (k := 1) (b := 14) 7 (by decide) rfl (by decide)
      have hP := hc.1.2.2.1.1
      have hb := okT_b (hc.1.2.2.2.2.2.2.2 k hk)
      rw [smI_s]
      rw [f_X7_sumOf_4, hR1, b1_s, c_size hc.1, b1_s, if_neg (nI_ge hk (by omega)), b1_s, e_who hc.1 hk, b2_s]
      unfold f_X7_sumOf_37
      by_cases hw : tw (q.2 k) = p
      · obtain ⟨M2, e2, f2, r2⟩ := c_of hc hk
        refine ⟨M2, ?_, hi.1.tr f2, r2.trans hi.2⟩
        rw [if_pos (by rw [hw]), if_pos hw, e2, b2_s, bn_s, bn_s, nI_1]
      · refine ⟨M', ?_, hi⟩
        rw [if_neg (by rw [nI_eq (by omega) (by omega)]; exact hw), if_neg hw, bn_s, bn_s, nI_1]
    · have hc := h.fr hi.1 hi.2
      refine ⟨(worPer s q p, M'), ?_, rfl, hi⟩
      rw [f_X7_sumOf_4, sh_R hc.1.1 (a := 84) (k := 1) (b := 14) 7 (by decide) rfl (by decide), b1_s, c_size hc.1, b1_s, if_pos (nI_le (Nat.le_refl _) (by omega))]
      rfl
  rw [nI_0] at key
  unfold f_X7_sumOf f_X7_sumOf_0
  rw [if_pos (sh_O h.1.1 7 (by decide) rfl)]
  exact key
theorem c_sumTog (h : CW s M q) {e m : Nat} (he : e < 8) (hm : m < 200) : ∃ r : Int32 × MM, f_X7_sumTogether 84 (nI e) (nI m) M = some r ∧ (r.1 = worTog s q e m ∧ Fr wEv M r.2 ∧ mR r.2 = mR M) := by
  have h12 := h.1.2.2.2.2.2.2.1
  have key : ∃ r : Int32 × MM, f_X7_sumTogether_5 1024 84 (nI e) (nI m) (smI (fun i => if te (q.2 i) = e ∧ ts (q.2 i) = m then worS s q i else 0) 0) (nI 0) M = some r ∧ (r.1 = worTog s q e m ∧ Fr wEv M r.2 ∧ mR r.2 = mR M) := by
    refine lpm (fun f k M' => f_X7_sumTogether_5 f 84 (nI e) (nI m) (smI (fun i => if te (q.2 i) = e ∧ ts (q.2 i) = m then worS s q i else 0) k) (nI k) M') (fun k M' => Fr wEv M M' ∧ mR M' = mR M) (fun r => r.1 = worTog s q e m ∧ Fr wEv M r.2 ∧ mR r.2 = mR M) q.1 (fun f k M' hk hi => Or.inl ?_) (fun f M' hi => ?_) 1024 0 M (by omega) (by omega) ⟨Fr.rf M, rfl⟩
    · have hc := h.fr hi.1 hi.2
      have hR1 := sh_R hc.1.1 (a := 84) (k := 1) (b := 14) 7 (by decide) rfl (by decide)
      rw [smI_s]
      rw [f_X7_sumTogether_5, hR1, b1_s, c_size hc.1, b1_s, if_neg (nI_ge hk (by omega)), b1_s, e_tog hc.1 hk he hm, b2_s]
      unfold f_X7_sumTogether_42
      by_cases hw : te (q.2 k) = e ∧ ts (q.2 k) = m
      · obtain ⟨M2, e2, f2, r2⟩ := c_of hc hk
        refine ⟨M2, ?_, hi.1.tr f2, r2.trans hi.2⟩
        rw [decide_eq_true hw, if_neg (by decide), if_pos hw, e2, b2_s, bn_s, bn_s, nI_1]
      · refine ⟨M', ?_, hi⟩
        rw [decide_eq_false hw, if_pos (by decide), if_neg hw, bn_s, bn_s, nI_1]
    · have hc := h.fr hi.1 hi.2
      refine ⟨(worTog s q e m, M'), ?_, rfl, hi⟩
      rw [f_X7_sumTogether_5, sh_R hc.1.1 (a := 84) (k := 1) (b := 14) 7 (by decide) rfl (by decide), b1_s, c_size hc.1, b1_s, if_pos (nI_le (Nat.le_refl _) (by omega))]
      rfl
  rw [nI_0] at key
  unfold f_X7_sumTogether f_X7_sumTogether_0
  rw [if_pos (sh_O h.1.1 7 (by decide) rfl)]
  exact key
end WO2

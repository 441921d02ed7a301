/-! CALLS: chance -/
def pwL (b : Int64) : Nat → Int64
  | 0 => 1
  | k + 1 => pwL b k * b
theorem pwL_s (b : Int64) (k : Nat) : pwL b (k + 1) = pwL b k * b := rfl
def m00 : MM := (0, fun _ => (0, 0), fun _ _ => 0, fun _ _ => 0, fun _ _ => none)
theorem gc45_M (x : Int64) (M M' : MM) : f_X11_greatestCommon_45 x M' = (f_X11_greatestCommon_45 x M).map (fun r => (r.1, M')) := by
  unfold f_X11_greatestCommon_45
  split <;> rfl
theorem gc9_M : ∀ n x y k (M M' : MM), f_X11_greatestCommon_9 n x y k M' = (f_X11_greatestCommon_9 n x y k M).map (fun r => (r.1, M'))
  | 0, x, y, k, M, M' => rfl
  | n + 1, x, y, k, M, M' => by
    rw [f_X11_greatestCommon_9, f_X11_greatestCommon_9]
    split
    · exact gc45_M x M M'
    · split
      · exact gc45_M x M M'
      · cases remL x y with
        | none => rfl
        | some v => exact gc9_M n y v _ M M'
theorem cm_M : ∀ n x y (M M' : MM), f_X12_common n x y M' = (f_X12_common n x y M).map (fun r => (r.1, M'))
  | 0, x, y, M, M' => rfl
  | n + 1, x, y, M, M' => by
    rw [f_X12_common, f_X12_common]
    unfold f_X12_common_0
    split
    · rfl
    · cases remL x y with
      | none => rfl
      | some v =>
        rw [b1_s, b1_s, cm_M n y v M M']
        cases f_X12_common n y v M with
        | none => rfl
        | some r => rfl
def gcK (a k : Nat) : Bool := match f_X11_greatestCommon (pwL 10 k) (pwL (lN a) k) m00, f_X12_common 100 (pwL (lN a) k) (pwL 10 k) m00 with
  | some p, some q => decide (p.1 = q.1) && !decide (p.1 = 0)
  | _, _ => false
theorem gcK_all : ∀ a, a < 11 → ∀ k, k < 13 → gcK a k = true := by decide +kernel
theorem gc_ex {a k : Nat} (ha : a < 11) (hk : k < 13) : ∃ g : Int64, g ≠ 0 ∧ (∀ M, f_X11_greatestCommon (pwL 10 k) (pwL (lN a) k) M = some (g, M)) ∧ ∀ M, f_X12_common 100 (pwL (lN a) k) (pwL 10 k) M = some (g, M) := by
  have h := gcK_all a ha k hk
  unfold gcK at h
  cases h1 : f_X11_greatestCommon (pwL 10 k) (pwL (lN a) k) m00 with
  | none => rw [h1] at h; cases h
  | some p =>
    cases h2 : f_X12_common 100 (pwL (lN a) k) (pwL 10 k) m00 with
    | none => rw [h1, h2] at h; cases h
    | some q =>
      rw [h1, h2] at h
      have h' : (decide (p.1 = q.1) && !decide (p.1 = 0)) = true := h
      rw [Bool.and_eq_true, decide_eq_true_eq, Bool.not_eq_true', decide_eq_false_iff_not] at h'
      refine ⟨p.1, h'.2, fun M => ?_, fun M => ?_⟩
      · have := gc9_M 1024 (pwL 10 k) (pwL (lN a) k) 0 m00 M
        refine this.trans ?_
        have e : f_X11_greatestCommon_9 1024 (pwL 10 k) (pwL (lN a) k) 0 m00 = some p := h1
        rw [e]; rfl
      · rw [cm_M 100 _ _ m00 M, h2, h'.1]; rfl
theorem ten_m : ∀ p, p < 11 → Int32.toInt64 ((10 : Int32) - nI p) = lN (10 - p) := by decide +kernel
def chP (s : St) (d : Int32) (i : Nat) : Bool := lwB s i && !decide (d ≤ nI (slN s i))
def chN (s : St) (d : Int32) : Nat := fb_ct (chP s d) (zplan s).1
theorem chN_le {s : St} (hw : WF s) (d : Int32) : chN s d ≤ 12 := Nat.le_trans (fb_ct_le _ _) hw.2.2.2.2.1.1
def gcV (a k : Nat) : Int64 := match f_X11_greatestCommon (pwL 10 k) (pwL (lN a) k) m00 with
  | some p => p.1
  | none => 1
def chI (s : St) (x y : Int32) : Prop := (1 ≤ x ∧ x ≤ 9) ∧ ixP y 11 = true
def chR (s : St) (x : Int32) (p : Nat) : List Int64 := [pwL (lN (10 - p)) (chN s x) / gcV (10 - p) (chN s x), pwL 10 (chN s x) / gcV (10 - p) (chN s x)]
def a_chance (s : St) (x y : Int32) : Int32 := if (1 ≤ x ∧ x ≤ 9) ∧ ixP y 11 = true then 0 else -1
def n_chance (s : St) (x y : Int32) : St := if (1 ≤ x ∧ x ≤ 9) ∧ ixP y 11 = true then zsrow s (rowOf (chR s x y.toNatClampNeg)) else s
theorem W_chance {s : St} (hw : WF s) (x y : Int32) : WF (n_chance s x y) := by
  unfold n_chance
  split
  · exact WF_row hw (by show 2 ≤ 8; decide)
  · exact hw
theorem gcV_e {a k : Nat} {g : Int64} (h : ∀ M, f_X11_greatestCommon (pwL 10 k) (pwL (lN a) k) M = some (g, M)) : gcV a k = g := by unfold gcV; rw [h]
theorem ix10 {v : Int32} : (¬ v < 0 ∧ v ≤ 10) ↔ ixP v 11 = true := by
  rw [ix_t, fa_lt, fa_lt, fa_le, nI_toInt (by decide), show (10 : Int32).toInt = 10 from by decide, show (0 : Int32).toInt = 0 from by decide]
  omega
theorem C_chance {s : St} (hw : WF s) (x y : Int32) : OpC (fun M => f_X11_chance 0 x y M) s (a_chance s x y) (n_chance s x y) := by
  intro M h
  have h0 := h.1
  have h12 := hw.2.2.2.2.1.1
  have hl : LX 18 14 := Or.inl ⟨rfl, rfl⟩
  show ∃ M', f_X11_chance 0 x y M = _ ∧ _
  unfold f_X11_chance f_X11_chance_0
  rw [if_pos (sh_O h0 11 (by decide) rfl)]
  by_cases hc : (1 ≤ x ∧ x ≤ 9) ∧ ixP y 11 = true
  · obtain ⟨p, hp, rfl⟩ := ix_ex (by decide) hc.2
    obtain ⟨M1, e1, c1, v1, f1, r1⟩ := c_lfs hw h
    have s1 := c1.1
    have x1 := c1.cx hw
    have hR5 := sh_R s1 (a := 0) (k := 5) (b := 18) 11 (by decide) rfl (by decide)
    have hR3 := sh_R s1 (a := 0) (k := 3) (b := 14) 11 (by decide) rfl (by decide)
    have g8 : gR 1 8 18 M1 = some 25 := (lx_f s1 hl).2.2.2.2.2.2.1
    have ld : ∀ i, i < (zplan s).1 → ldI 25 (nI i) M1 = some (slvS s (zplan s) i) := fun i hi => by rw [ld_25 s1 (by omega), v1 i hi]
    have sb : ∀ i, slN s i ≤ 99 := fun i => slk_b hw.1 (zplan s) i
    obtain ⟨g, g0, gc, gm⟩ := gc_ex (a := 10 - p) (k := chN s x) (by omega) (by have := chN_le hw x; omega)
    obtain ⟨M2, e2, w2, f2, r2⟩ := c_two s1 (pwL (lN (10 - p)) (chN s x) / g) (pwL 10 (chN s x) / g)
    rw [show a_chance s x (nI p) = 0 from if_pos hc, show n_chance s x (nI p) = zsrow s (rowOf [pwL (lN (10 - p)) (chN s x) / g, pwL 10 (chN s x) / g]) by unfold n_chance chR; rw [if_pos hc, nI_clamp (by omega), gcV_e gc]]
    refine ⟨M2, ?_, c1.row f2 r2 w2, (f1.mono (fun a k q => by unfold cW; omega)).tr (wRow_cW f2)⟩
    rw [if_neg (fun q => (fa_of_lt q).2.1 hc.1.1), if_neg (fun q => (fa_of_lt q).2.1 hc.1.2), if_neg (ix10.mpr hc.2).1, if_pos (ix10.mpr hc.2).2, sh_R h0 (a := 0) (k := 5) (b := 18) 11 (by decide) rfl (by decide), b1_s, e1, b1_s]
    have this : f_X11_chance_38 1024 0 x (nI p) (pwL (lN (10 - p)) (fb_ct (chP s x) 0)) (pwL 10 (fb_ct (chP s x) 0)) (nI 0) M1 = some (0, M2) := by
      refine lpv (fun f k => f_X11_chance_38 f 0 x (nI p) (pwL (lN (10 - p)) (fb_ct (chP s x) k)) (pwL 10 (fb_ct (chP s x) k)) (nI k) M1) (zplan s).1 _ (fun f k hk => Or.inl ?_) (fun f => ?_) 1024 0 (by omega) (by omega)
      · show f_X11_chance_38 (f + 1) _ _ _ _ _ _ _ = _
        have q0 := sb k
        rw [f_X11_chance_38, hR3, b1_s, c_size x1, b1_s, if_neg (nI_ge hk (by omega)), hR5, b1_s, g8, b1_s, ld k hk, b1_s, fb_ct_succ]
        unfold f_X11_chance_93 chP
        cases hp2 : lwB s k with
        | false =>
          rw [slv_f hp2, if_pos (by decide), bn_s, nI_1, Bool.false_and, if_neg (by decide)]
          rfl
        | true =>
          rw [slv_t hp2, if_neg (nI_pos (by omega)), b1_s, g8, b1_s, ld k hk, b1_s, slv_t hp2, Bool.true_and]
          by_cases hd : x ≤ nI (slN s k)
          · rw [if_pos hd, bn_s, nI_1, decide_eq_true hd, if_neg (by decide)]; rfl
          · rw [if_neg hd, bn_s, bn_s, bn_s, nI_1, decide_eq_false hd, if_pos (show (!false) = true from rfl), pwL_s, pwL_s, ten_m p hp]
      · show f_X11_chance_38 (f + 1) _ _ _ _ _ _ _ = _
        rw [f_X11_chance_38, hR3, b1_s, c_size x1, b1_s, if_pos (nI_le (Nat.le_refl _) (by omega))]
        show b2 (f_X11_greatestCommon (pwL 10 (chN s x)) (pwL (lN (10 - p)) (chN s x)) M1) _ = _
        rw [gc, b2_s, sh_R s1 (a := 0) (k := 1) (b := 3) 11 (by decide) rfl (by decide), b1_s, show ∀ z, divL z g = some (z / g) from fun z => if_neg g0, b1_s, show ∀ z, divL z g = some (z / g) from fun z => if_neg g0, b1_s]
        show b1 (f_X6_two 3 (pwL (lN (10 - p)) (chN s x) / g) (pwL 10 (chN s x) / g) M1) _ = _
        rw [e2, b1_s]
    rw [nI_0] at this
    exact this
  · rw [show a_chance s x y = -1 from if_neg hc, show n_chance s x y = s from if_neg hc]
    refine ⟨M, ?_, h, Fr.rf M⟩
    by_cases h1 : x < 1
    · rw [if_pos h1]
    · rw [if_neg h1]
      by_cases h2 : 9 < x
      · rw [if_pos h2]
      · rw [if_neg h2]
        by_cases h3 : y < 0
        · rw [if_pos h3]
        · rw [if_neg h3, if_neg (fun q => hc ⟨⟨fa_of_nlt h1, fa_of_nlt h2⟩, ix10.mp ⟨h3, q⟩⟩)]
theorem R_chance {s : St} (hw : WF s) (x y : Int32) : OpR (fun M => f_X12_chance 143 x y M) s (a_chance s x y) (n_chance s x y) := by
  intro M h
  obtain ⟨N, et, ht, ft, rt, t0, l0⟩ := r_thr0 h
  have h0 := ht.1
  have h12 := hw.2.2.2.2.1.1
  have hx := ht.rx hw
  have hR := sh_R h0 (a := 143) (k := 15) (b := 153) 12 (by decide) rfl (by decide)
  show ∃ M', f_X12_chance 143 x y M = _ ∧ _
  unfold f_X12_chance f_X12_chance_0
  rw [if_pos (sh_O h.1 12 (by decide) rfl), et, b1_s, e_inL x 1 9 _ _ (by decide) (by decide), b2_s]
  by_cases hc : (1 ≤ x ∧ x ≤ 9) ∧ ixP y 11 = true
  · obtain ⟨p, hp, rfl⟩ := ix_ex (by decide) hc.2
    have sb : ∀ i, slN s i ≤ 99 := fun i => slk_b hw.1 (zplan s) i
    obtain ⟨g, g0, gc, gm⟩ := gc_ex (a := 10 - p) (k := chN s x) (by omega) (by have := chN_le hw x; omega)
    obtain ⟨M1, M2, M3, e1, e2, e3, c3, f3, r3⟩ := r_two' ht (pwL (lN (10 - p)) (chN s x) / g) (pwL 10 (chN s x) / g)
    rw [show a_chance s x (nI p) = 0 from if_pos hc, show n_chance s x (nI p) = zsrow s (rowOf [pwL (lN (10 - p)) (chN s x) / g, pwL 10 (chN s x) / g]) by unfold n_chance chR; rw [if_pos hc, nI_clamp (by omega), gcV_e gc]]
    refine ⟨M3, ?_, c3, ft.tr (wRoR_rW f3), r3.trans rt⟩
    rw [if_pos hc.1, if_neg (by decide), show f_X12_in (nI p).toInt64 0 10 N = some (if ixP (nI p) 11 = true then 1 else 0, N) from e_in0n _ 11 (by decide) N, b2_s, if_pos hc.2, if_neg (by decide)]
    have this : f_X12_chance_39 1024 143 x (nI p) (pwL (lN (10 - p)) (fb_ct (chP s x) 0)) (pwL 10 (fb_ct (chP s x) 0)) (nI 0) N = some (0, M3) := by
      refine lpv (fun f k => f_X12_chance_39 f 143 x (nI p) (pwL (lN (10 - p)) (fb_ct (chP s x) k)) (pwL 10 (fb_ct (chP s x) k)) (nI k) N) (zplan s).1 _ (fun f k hk => Or.inl ?_) (fun f => ?_) 1024 0 (by omega) (by omega)
      · show f_X12_chance_39 (f + 1) _ _ _ _ _ _ _ = _
        have q0 := sb k
        rw [f_X12_chance_39, hR, b1_s, r_size hx, b1_s, if_neg (nI_ge hk (by omega)), r_law hx hk, b2_s, fb_ct_succ]
        unfold f_X12_chance_86 chP
        show (if bI (lwB s k) = 0 then _ else _) = _
        cases hp2 : lwB s k with
        | false =>
          rw [if_pos (show bI false = 0 from rfl), bn_s, nI_1, Bool.false_and, if_neg (by decide)]
          rfl
        | true =>
          have sl : f_X12_slackOf 143 (nI k) N = some (nI (slN s k), N) := r_slack hx hk (of_decide_eq_true hp2)
          rw [if_neg (show ¬ bI true = 0 by decide), sl, b2_s, Bool.true_and]
          by_cases hd : x ≤ nI (slN s k)
          · rw [if_pos hd, bn_s, nI_1, decide_eq_true hd, if_neg (by decide)]; rfl
          · rw [if_neg hd, bn_s, bn_s, bn_s, nI_1, decide_eq_false hd, if_pos (show (!false) = true from rfl), pwL_s, pwL_s, ten_m p hp]
      · show f_X12_chance_39 (f + 1) _ _ _ _ _ _ _ = _
        rw [f_X12_chance_39, hR, b1_s, r_size hx, b1_s, if_pos (nI_le (Nat.le_refl _) (by omega))]
        show b2 (f_X12_common 100 (pwL (lN (10 - p)) (chN s x)) (pwL 10 (chN s x)) N) _ = _
        rw [gm, b2_s, e1, b1_s, show ∀ z, divL z g = some (z / g) from fun z => if_neg g0, b1_s]
        show b1 (f_X12_enters 143 (pwL (lN (10 - p)) (chN s x) / g) M1) _ = _
        rw [e2, b1_s, show ∀ z, divL z g = some (z / g) from fun z => if_neg g0, b1_s]
        show b1 (f_X12_enters 143 (pwL 10 (chN s x) / g) M2) _ = _
        rw [e3, b1_s]
    rw [nI_0] at this
    exact this
  · rw [show a_chance s x y = -1 from if_neg hc, show n_chance s x y = s from if_neg hc]
    refine ⟨N, ?_, ht, ft, rt⟩
    by_cases h1 : 1 ≤ x ∧ x ≤ 9
    · rw [if_pos h1, if_neg (by decide), show f_X12_in y.toInt64 0 10 N = some (if ixP y 11 = true then 1 else 0, N) from e_in0n _ 11 (by decide) N, b2_s, if_neg (fun q => hc ⟨h1, q⟩), if_pos rfl]
    · rw [if_neg h1, if_pos rfl]
theorem case_37 : CaseOK g_L_37 := by
  intro L xs j K M hL hj hc
  obtain ⟨s, hw, hc, hr⟩ := hc
  obtain ⟨M1, M2, hcp, e1, e2⟩ := asm (C_chance hw (xs (j + 1)) (xs (j + 2))) (R_chance hw (xs (j + 1)) (xs (j + 2))) (W_chance hw (xs (j + 1)) (xs (j + 2))) hc hr
  refine ⟨M2, hcp, ?_⟩
  unfold g_L_37
  simp only [show (nI j + 1 : Int32) = nI (j + 1) from nI_add _ 1, show (nI j + 2 : Int32) = nI (j + 2) from nI_add _ 2, show (nI j + 3 : Int32) = nI (j + 3) from nI_add _ 3, show (nI j + 4 : Int32) = nI (j + 4) from nI_add _ 4, scr_k (show j + 1 < L by omega) hL, scr_k (show j + 2 < L by omega) hL, scr_k (show j + 3 < L by omega) hL, scr_k (show j + 4 < L by omega) hL, b1_s, e1, e2, b2_s, if_true]

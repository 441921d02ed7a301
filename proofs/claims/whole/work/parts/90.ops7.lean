/-! CALLS: stays, hands, person -/
def bsF (g : Nat → Nat) : Nat → Nat
  | 0 => 0
  | k + 1 => if g (bsF g k) < g k then k else bsF g k
def lsF (g : Nat → Nat) : Nat → Nat
  | 0 => 0
  | k + 1 => if g k < g (lsF g k) then k else lsF g k
theorem bsF_s (g : Nat → Nat) (k : Nat) : bsF g (k + 1) = if g (bsF g k) < g k then k else bsF g k := rfl
theorem lsF_s (g : Nat → Nat) (k : Nat) : lsF g (k + 1) = if g k < g (lsF g k) then k else lsF g k := rfl
theorem bsF_lt (g : Nat → Nat) : ∀ k, 1 ≤ k → bsF g k < k
  | 0, h => absurd h (by decide)
  | 1, _ => by rw [bsF_s]; split <;> first | decide | exact Nat.lt_succ_self 0
  | k + 2, _ => by have := bsF_lt g (k + 1) (by omega); rw [bsF_s]; split <;> omega
theorem lsF_lt (g : Nat → Nat) : ∀ k, 1 ≤ k → lsF g k < k
  | 0, h => absurd h (by decide)
  | 1, _ => by rw [lsF_s]; split <;> first | decide | exact Nat.lt_succ_self 0
  | k + 2, _ => by have := lsF_lt g (k + 1) (by omega); rw [lsF_s]; split <;> omega
theorem bsF_1 (g : Nat → Nat) : bsF g 1 = 0 := by rw [bsF_s]; split <;> rfl
theorem lsF_1 (g : Nat → Nat) : lsF g 1 = 0 := by rw [lsF_s]; split <;> rfl
def g_st (s : St) : Nat → Nat := atB s (zplan s)
def a_stays (s : St) : Int32 := if zP s = 0 then -2 else nI (bsF (g_st s) (zP s))
def n_stays (s : St) : St := if zP s = 0 then s else zsrow s (rowOf [Int32.toInt64 (nI (g_st s (bsF (g_st s) (zP s)))), Int32.toInt64 (nI (lsF (g_st s) (zP s))), Int32.toInt64 (nI (g_st s (lsF (g_st s) (zP s))))])
theorem W_stays {s : St} (hw : WF s) : WF (n_stays s) := by
  unfold n_stays
  split
  · exact hw
  · exact WF_row hw (by show 3 ≤ 8; decide)
theorem C_stays {s : St} (hw : WF s) : OpC (fun M => f_X11_stays 0 M) s (a_stays s) (n_stays s) := by
  intro M h
  have h0 := h.1
  have hP := hw.1.1
  have hT := hw.1.2.2.2.1
  show ∃ M', f_X11_stays 0 M = _ ∧ _
  unfold f_X11_stays f_X11_stays_0
  rw [if_pos (sh_O h0 11 (by decide) rfl), sh_R h0 (a := 0) (k := 2) (b := 5) 11 (by decide) rfl (by decide), b1_s, gI_k 7 (sh_O h0 9 (by decide) rfl), b1_s, h.2.2.2.1.1]
  by_cases hz : zP s = 0
  · rw [show a_stays s = -2 from if_pos hz, show n_stays s = s from if_pos hz, hz, nI_0, if_pos rfl]
    exact ⟨M, rfl, h, Fr.rf M⟩
  · obtain ⟨M1, e1, c1, k1, f1⟩ := c_looked hw h
    have s1 := c1.1
    have x1 := c1.cx hw
    have hR5 := sh_R s1 (a := 0) (k := 5) (b := 18) 11 (by decide) rfl (by decide)
    have at1 : ∀ p, p < zP s → f_X1_atBench 18 (nI p) M1 = some (nI (g_st s p), M1) := fun p hp => c_atB x1 (Or.inl ⟨rfl, rfl⟩) k1 hp
    have gle : ∀ p, g_st s p ≤ 99 := fun p => Nat.le_trans (atB_le s _ p) hT
    obtain ⟨M2, e2, w2, f2, r2⟩ := c_three s1 (Int32.toInt64 (nI (g_st s (bsF (g_st s) (zP s))))) (Int32.toInt64 (nI (lsF (g_st s) (zP s)))) (Int32.toInt64 (nI (g_st s (lsF (g_st s) (zP s)))))
    rw [show a_stays s = _ from if_neg hz, show n_stays s = _ from if_neg hz, if_neg (nI_ne0 (by omega) (by omega)), sh_R h0 (a := 0) (k := 5) (b := 18) 11 (by decide) rfl (by decide), b1_s, e1, b1_s]
    refine ⟨M2, ?_, c1.row f2 r2 w2, f1.tr (wRow_cW f2)⟩
    have this : f_X11_stays_26 1024 0 (nI (bsF (g_st s) 1)) (nI (lsF (g_st s) 1)) (nI 1) M1 = some (nI (bsF (g_st s) (zP s)), M2) := by
      refine lpi (fun f k => f_X11_stays_26 f 0 (nI (bsF (g_st s) k)) (nI (lsF (g_st s) k)) (nI k) M1) (fun k => 1 ≤ k) (zP s) _ (fun f k hk hi => Or.inl ⟨?_, by omega⟩) (fun f _ => ?_) 1024 1 (by omega) (by omega) (Nat.le_refl 1)
      · show f_X11_stays_26 (f + 1) _ _ _ _ _ = _
        have b1' := bsF_lt (g_st s) k hi
        have b2' := lsF_lt (g_st s) k hi
        have q1 := gle k
        have q2 := gle (bsF (g_st s) k)
        have q3 := gle (lsF (g_st s) k)
        rw [f_X11_stays_26, sh_R s1 (a := 0) (k := 2) (b := 5) 11 (by decide) rfl (by decide), b1_s, gI_k 7 (sh_O s1 9 (by decide) rfl), b1_s, c1.2.2.2.1.1, if_neg (nI_ge hk (by omega)), hR5, b1_s, at1 k hk, b2_s, hR5, b1_s, at1 _ (by omega), b2_s, bsF_s, lsF_s]
        have key : ∀ K y, f_X11_stays_61 K 0 (nI (lsF (g_st s) k)) (nI k) y M1 = K 0 y (nI (if g_st s k < g_st s (lsF (g_st s) k) then k else lsF (g_st s) k)) (nI (k + 1)) M1 := by
          intro K y
          unfold f_X11_stays_61 f_X11_stays_86
          rw [hR5, b1_s, at1 k hk, b2_s, hR5, b1_s, at1 _ (by omega), b2_s]
          by_cases hc : g_st s k < g_st s (lsF (g_st s) k)
          · rw [if_neg (nI_ge hc (by omega)), bn_s, nI_1, if_pos hc]
          · rw [if_pos (nI_le (by omega) (by omega)), bn_s, nI_1, if_neg hc]
        by_cases hc : g_st s (bsF (g_st s) k) < g_st s k
        · rw [if_neg (nI_ge hc (by omega)), key, if_pos hc]
        · rw [if_pos (nI_le (by omega) (by omega)), key, if_neg hc]
      · show f_X11_stays_26 (f + 1) _ _ _ _ _ = _
        rw [f_X11_stays_26, sh_R s1 (a := 0) (k := 2) (b := 5) 11 (by decide) rfl (by decide), b1_s, gI_k 7 (sh_O s1 9 (by decide) rfl), b1_s, c1.2.2.2.1.1, if_pos (nI_le (Nat.le_refl _) (by omega)), sh_R s1 (a := 0) (k := 1) (b := 3) 11 (by decide) rfl (by decide), b1_s, hR5, b1_s, at1 _ (bsF_lt _ _ (by omega)), b2_s, hR5, b1_s, at1 _ (lsF_lt _ _ (by omega)), b2_s, e2, b1_s]
    rw [bsF_1, lsF_1, nI_0] at this
    exact this
theorem r_bl {s : St} {M : MM} (h : RX s M 153 (zplan s)) {p : Nat} (hp : p < zP s) : f_X12_benchLong 143 (nI p) M = some (nI (g_st s p), M) := by
  have h0 := h.1
  have hP := h.2.2.1.1
  have hT := h.2.2.1.2.2.2.1
  have hO := sh_O h0 (a := 143) 12 (by decide) rfl
  unfold f_X12_benchLong f_X12_benchLong_0 g_st atB
  rw [if_pos hO]
  have this : f_X12_benchLong_4 1024 143 (nI p) (nI (fb_ct (fun m => !awF s (zplan s) (zplan s).1 p m) 0)) (nI 0) M = some (nI (fb_ct (fun m => !awF s (zplan s) (zplan s).1 p m) (zT s)), M) := by
    refine lpv (fun f k => f_X12_benchLong_4 f 143 (nI p) (nI (fb_ct (fun m => !awF s (zplan s) (zplan s).1 p m) k)) (nI k) M) (zT s) _ (fun f k hm => Or.inl ?_) (fun f => ?_) 1024 0 (by omega) (by omega)
    · show f_X12_benchLong_4 (f + 1) _ _ _ _ _ = _
      rw [f_X12_benchLong_4, gI_k 6 hO, b1_s, h.2.1.2.2.1, if_neg (nI_ge hm (by omega)), sh_R h0 (a := 143) (k := 15) (b := 153) 12 (by decide) rfl (by decide), b1_s, r_bench h (by omega), b2_s]
      unfold beB
      rw [r_hasb (by omega) hp, b2_s, e_flag, b2_s, bn_s, bn_s, nI_1, fb_ct_succ]
      cases awF s (zplan s) (zplan s).1 p k with
      | true => rw [show bI (!true) = 0 from rfl, Int32.add_zero]; rfl
      | false => rw [show bI (!false) = 1 from rfl, nI_1]; rfl
    · show f_X12_benchLong_4 (f + 1) _ _ _ _ _ = _
      rw [f_X12_benchLong_4, gI_k 6 hO, b1_s, h.2.1.2.2.1, if_pos (nI_le (Nat.le_refl _) (by omega))]
  have z : nI (fb_ct (fun m => !awF s (zplan s) (zplan s).1 p m) 0) = 0 := rfl
  rw [z, nI_0] at this
  exact this
theorem R_stays {s : St} (hw : WF s) : OpR (fun M => f_X12_stays 143 M) s (a_stays s) (n_stays s) := by
  intro M h
  obtain ⟨N, et, ht, ft, rt, t0, l0⟩ := r_thr0 h
  have h0 := ht.1
  have hP := hw.1.1
  have hT := hw.1.2.2.2.1
  have hx := ht.rx hw
  have hO := sh_O h0 (a := 143) 12 (by decide) rfl
  show ∃ M', f_X12_stays 143 M = _ ∧ _
  unfold f_X12_stays f_X12_stays_0
  rw [if_pos (sh_O h.1 12 (by decide) rfl), et, b1_s, gI_k 3 hO, b1_s, ht.2.2.2.1.1]
  by_cases hz : zP s = 0
  · rw [show a_stays s = -2 from if_pos hz, show n_stays s = s from if_pos hz, hz, nI_0, if_pos rfl]
    exact ⟨N, rfl, ht, ft, rt⟩
  · have at1 : ∀ p, p < zP s → f_X12_benchLong 143 (nI p) N = some (nI (g_st s p), N) := fun p hp => r_bl hx hp
    have gle : ∀ p, g_st s p ≤ 99 := fun p => Nat.le_trans (atB_le s _ p) hT
    obtain ⟨M1, e1, w1, f1, r1⟩ := r_clr h0
    have s1 := f1.sh' r1 h0
    have x1 : RX s M1 153 (zplan s) := hx.frx f1 s1 (fun b k q => by unfold wRoR; omega)
    obtain ⟨M2, e2, w2, f2, r2⟩ := r_ent s1 w1 (by decide) (Int32.toInt64 (nI (g_st s (bsF (g_st s) (zP s)))))
    have s2 := f2.sh' r2 s1
    obtain ⟨M3, e3, w3, f3, r3⟩ := r_ent s2 w2 (by simp) (Int32.toInt64 (nI (lsF (g_st s) (zP s))))
    have s3 := f3.sh' r3 s2
    have x3 : RX s M3 153 (zplan s) := hx.frx ((f1.tr f2).tr f3) s3 (fun b k q => by unfold wRoR; omega)
    obtain ⟨M4, e4, w4, f4, r4⟩ := r_ent s3 w3 (by simp) (Int32.toInt64 (nI (g_st s (lsF (g_st s) (zP s)))))
    have f5 := ((f1.tr f2).tr f3).tr f4
    have r5 := r4.trans (r3.trans (r2.trans r1))
    rw [show a_stays s = _ from if_neg hz, show n_stays s = _ from if_neg hz, if_neg (nI_ne0 (by omega) (by omega))]
    refine ⟨M4, ?_, ht.row f5 r5 w4, ft.tr (wRoR_rW f5), r5.trans rt⟩
    have this : f_X12_stays_21 1024 143 (nI (bsF (g_st s) 1)) (nI (lsF (g_st s) 1)) (nI 1) N = some (nI (bsF (g_st s) (zP s)), M4) := by
      refine lpi (fun f k => f_X12_stays_21 f 143 (nI (bsF (g_st s) k)) (nI (lsF (g_st s) k)) (nI k) N) (fun k => 1 ≤ k) (zP s) _ (fun f k hk hi => Or.inl ⟨?_, by omega⟩) (fun f _ => ?_) 1024 1 (by omega) (by omega) (Nat.le_refl 1)
      · show f_X12_stays_21 (f + 1) _ _ _ _ _ = _
        have b1' := bsF_lt (g_st s) k hi
        have b2' := lsF_lt (g_st s) k hi
        have q1 := gle k
        have q2 := gle (bsF (g_st s) k)
        have q3 := gle (lsF (g_st s) k)
        rw [f_X12_stays_21, gI_k 3 hO, b1_s, ht.2.2.2.1.1, if_neg (nI_ge hk (by omega)), at1 k hk, b2_s, at1 _ (by omega), b2_s, bsF_s, lsF_s]
        have key : ∀ K y, f_X12_stays_47 K 143 (nI (lsF (g_st s) k)) (nI k) y N = K 143 y (nI (if g_st s k < g_st s (lsF (g_st s) k) then k else lsF (g_st s) k)) (nI (k + 1)) N := by
          intro K y
          unfold f_X12_stays_47 f_X12_stays_66
          rw [at1 k hk, b2_s, at1 _ (by omega), b2_s]
          by_cases hc : g_st s k < g_st s (lsF (g_st s) k)
          · rw [if_neg (nI_ge hc (by omega)), bn_s, nI_1, if_pos hc]
          · rw [if_pos (nI_le (by omega) (by omega)), bn_s, nI_1, if_neg hc]
        by_cases hc : g_st s (bsF (g_st s) k) < g_st s k
        · rw [if_neg (nI_ge hc (by omega)), key, if_pos hc]
        · rw [if_pos (nI_le (by omega) (by omega)), key, if_neg hc]
      · show f_X12_stays_21 (f + 1) _ _ _ _ _ = _
        rw [f_X12_stays_21, gI_k 3 hO, b1_s, ht.2.2.2.1.1, if_pos (nI_le (Nat.le_refl _) (by omega)), e1, b1_s, r_bl x1 (bsF_lt _ _ (by omega)), b2_s, e2, b1_s, e3, b1_s, r_bl x3 (lsF_lt _ _ (by omega)), b2_s, e4, b1_s]
    rw [bsF_1, lsF_1, nI_0] at this
    exact this
theorem case_22 : CaseOK g_L_22 := by
  intro L xs j K M hL hj hc
  obtain ⟨s, hw, hc, hr⟩ := hc
  obtain ⟨M1, M2, hcp, e1, e2⟩ := asm (C_stays hw) (R_stays hw) (W_stays hw) hc hr
  refine ⟨M2, hcp, ?_⟩
  unfold g_L_22
  simp only [show (nI j + 1 : Int32) = nI (j + 1) from nI_add _ 1, show (nI j + 2 : Int32) = nI (j + 2) from nI_add _ 2, show (nI j + 3 : Int32) = nI (j + 3) from nI_add _ 3, show (nI j + 4 : Int32) = nI (j + 4) from nI_add _ 4, scr_k (show j + 1 < L by omega) hL, scr_k (show j + 2 < L by omega) hL, scr_k (show j + 3 < L by omega) hL, scr_k (show j + 4 < L by omega) hL, b1_s, e1, e2, b2_s, if_true]
/-! hands -/
def fndV (P : Nat → Bool) (g : Nat → Int32) (d : Int32) : Nat → Nat → Int32
  | 0, _ => d
  | j + 1, k => if P k = true then g k else fndV P g d j (k + 1)
theorem lpf {M : MM} (F : Nat → Nat → Option (Int32 × MM)) (P : Nat → Bool) (g : Nat → Int32) (d : Int32) (n : Nat) (hs : ∀ f k, k < n → F (f + 1) k = if P k = true then some (g k, M) else F f (k + 1)) (he : ∀ f, F (f + 1) n = some (d, M)) : ∀ j f k, k + j = n → n < f + k → F f k = some (fndV P g d j k, M)
  | 0, f, k, h1, h2 => by
    have : k = n := by omega
    subst this
    cases f with
    | zero => omega
    | succ f => exact he f
  | j + 1, f, k, h1, h2 => by
    cases f with
    | zero => omega
    | succ f =>
      rw [hs f k (by omega), fndV]
      cases hp : P k with
      | true => rw [if_pos rfl, if_pos rfl]
      | false => rw [if_neg (by decide), if_neg (by decide)]; exact lpf F P g d n hs he j f (k + 1) (by omega) (by omega)
def haP (s : St) (t : Int32) (m i : Nat) : Bool := decide (nI (zthi s (te ((zplan s).2 i))) = t) && decide (ts ((zplan s).2 i) ≤ m ∧ m < tback s ((zplan s).2 i))
def a_hands (s : St) (x y : Int32) : Int32 := if (1 ≤ x ∧ x ≤ 2) ∧ ixP y (zT s) = true then fndV (haP s x y.toNatClampNeg) (fun i => nI (tw ((zplan s).2 i))) (-2) (zplan s).1 0 else -1
def n_hands (s : St) (x y : Int32) : St := s
theorem W_hands {s : St} (hw : WF s) (x y : Int32) : WF (n_hands s x y) := hw
theorem C_hands {s : St} (hw : WF s) (x y : Int32) : OpC (fun M => f_X11_hands 0 x y M) s (a_hands s x y) (n_hands s x y) := by
  intro M h
  have h0 := h.1
  have hT := hw.1.2.2.2.1
  have hx := h.cx hw
  have h12 := hw.2.2.2.2.1.1
  have hR3 := sh_R h0 (a := 0) (k := 3) (b := 14) 11 (by decide) rfl (by decide)
  refine ⟨M, ?_, h, Fr.rf M⟩
  show f_X11_hands 0 x y M = _
  unfold f_X11_hands f_X11_hands_0
  rw [if_pos (sh_O h0 11 (by decide) rfl)]
  by_cases hc : (1 ≤ x ∧ x ≤ 2) ∧ ixP y (zT s) = true
  · obtain ⟨m, hm, rfl⟩ := ix_ex (by omega) hc.2
    rw [show a_hands s x (nI m) = fndV (haP s x m) (fun i => nI (tw ((zplan s).2 i))) (-2) (zplan s).1 0 by unfold a_hands; rw [if_pos hc, nI_clamp (by omega)], if_neg (fun q => (fa_of_lt q).2.1 hc.1.1), if_neg (fun q => (fa_of_lt q).2.1 hc.1.2), if_neg (nI_pos (by omega)), sh_R h0 (a := 0) (k := 2) (b := 5) 11 (by decide) rfl (by decide), b1_s, gI_k 9 (sh_O h0 9 (by decide) rfl), b1_s, h.2.2.2.1.2.2.1, if_pos (nI_lt hm (by omega)), ← nI_0]
    refine lpf (fun f k => f_X11_hands_29 f 0 x (nI m) (nI k) M) (haP s x m) _ (-2) (zplan s).1 (fun f k hk => ?_) (fun f => ?_) (zplan s).1 1024 0 (by omega) (by omega)
    · show f_X11_hands_29 (f + 1) _ _ _ _ _ = _
      have hb := okT_b (hw.2.2.2.2.1.2 k hk)
      have hbb := tback_b hw.2.1 (hw.2.2.2.2.1.2 k hk)
      rw [f_X11_hands_29, hR3, b1_s, c_size hx, b1_s, if_neg (nI_ge hk (by omega)), sh_R h0 (a := 0) (k := 2) (b := 5) 11 (by decide) rfl (by decide), b1_s, sh_R h0 (a := 5) (k := 5) (b := 11) 9 (by decide) rfl (by decide), b1_s, b1_s, e_what hx hk, b2_s, lc_thi h0 h.2.2.2.1 hw.1 hb.2.2.1, b1_s]
      unfold f_X11_hands_65 f_X11_hands_105 haP
      by_cases h1 : nI (zthi s (te ((zplan s).2 k))) = x
      · rw [if_pos h1, if_neg (by decide), hR3, b1_s, e_first hx hk, b2_s, decide_eq_true h1, Bool.true_and]
        by_cases h2 : m < ts ((zplan s).2 k)
        · rw [if_pos (nI_lt h2 (by omega)), bn_s, nI_1, decide_eq_false (by omega), if_neg (by decide)]
        · rw [if_neg (nI_nlt (by omega) (by omega)), sh_R h0 (a := 0) (k := 5) (b := 18) 11 (by decide) rfl (by decide), b1_s, c_back hx (Or.inl ⟨rfl, rfl⟩) hk, b2_s]
          by_cases h3 : tback s ((zplan s).2 k) ≤ m
          · rw [if_pos (nI_le h3 (by omega)), bn_s, nI_1, decide_eq_false (by omega), if_neg (by decide)]
          · rw [if_neg (nI_ge (by omega) (by omega)), hR3, b1_s, e_who hx hk, b2_s, decide_eq_true (by omega), if_pos rfl]
      · rw [if_neg h1, if_pos rfl, bn_s, nI_1, decide_eq_false h1, Bool.false_and, if_neg (by decide)]
    · show f_X11_hands_29 (f + 1) _ _ _ _ _ = _
      rw [f_X11_hands_29, hR3, b1_s, c_size hx, b1_s, if_pos (nI_le (Nat.le_refl _) (by omega))]
  · rw [show a_hands s x y = -1 from if_neg hc]
    by_cases h1 : x < 1
    · rw [if_pos h1]
    · rw [if_neg h1]
      by_cases h2 : 2 < x
      · rw [if_pos h2]
      · rw [if_neg h2]
        by_cases h3 : y < 0
        · rw [if_pos h3]
        · rw [if_neg h3, sh_R h0 (a := 0) (k := 2) (b := 5) 11 (by decide) rfl (by decide), b1_s, gI_k 9 (sh_O h0 9 (by decide) rfl), b1_s, h.2.2.2.1.2.2.1, if_neg (fun q => hc ⟨⟨fa_of_nlt h1, fa_of_nlt h2⟩, ix_t.mpr ⟨h3, q⟩⟩)]
theorem R_hands {s : St} (hw : WF s) (x y : Int32) : OpR (fun M => f_X12_hands 143 x y M) s (a_hands s x y) (n_hands s x y) := by
  intro M h
  obtain ⟨N, et, ht, ft, rt, t0, l0⟩ := r_thr0 h
  have h0 := ht.1
  have hT := hw.1.2.2.2.1
  have hx := ht.rx hw
  have h12 := hw.2.2.2.2.1.1
  have hR := sh_R h0 (a := 143) (k := 15) (b := 153) 12 (by decide) rfl (by decide)
  refine ⟨N, ?_, ht, ft, rt⟩
  show f_X12_hands 143 x y M = _
  unfold f_X12_hands f_X12_hands_0
  rw [if_pos (sh_O h.1 12 (by decide) rfl), et, b1_s, e_inL x 1 2 _ _ (by decide) (by decide), b2_s]
  by_cases hc : (1 ≤ x ∧ x ≤ 2) ∧ ixP y (zT s) = true
  · obtain ⟨m, hm, rfl⟩ := ix_ex (by omega) hc.2
    rw [show a_hands s x (nI m) = fndV (haP s x m) (fun i => nI (tw ((zplan s).2 i))) (-2) (zplan s).1 0 by unfold a_hands; rw [if_pos hc, nI_clamp (by omega)], if_pos hc.1, if_neg (by decide), e_isM hw ht, b2_s, if_pos hc.2, if_neg (by decide), ← nI_0]
    refine lpf (fun f k => f_X12_hands_29 f 143 x (nI m) (nI k) N) (haP s x m) _ (-2) (zplan s).1 (fun f k hk => ?_) (fun f => ?_) (zplan s).1 1024 0 (by omega) (by omega)
    · show f_X12_hands_29 (f + 1) _ _ _ _ _ = _
      have hb := okT_b (hw.2.2.2.2.1.2 k hk)
      rw [f_X12_hands_29, hR, b1_s, r_size hx, b1_s, if_neg (nI_ge hk (by omega)), sh_R h0 (a := 143) (k := 13) (b := 151) 12 (by decide) rfl (by decide), b1_s, b1_s, r_what hx hk, b2_s, lr_thi h0 ht.2.2.2.1 hw.1 hb.2.2.1, b1_s]
      unfold f_X12_hands_79 haP
      by_cases h1 : nI (zthi s (te ((zplan s).2 k))) = x
      · rw [if_pos h1, hR, b1_s, r_away hx hk (by omega), b2_s, decide_eq_true h1, Bool.true_and]
        cases decide (ts ((zplan s).2 k) ≤ m ∧ m < tback s ((zplan s).2 k)) with
        | true => rw [if_neg (show ¬ bI true = 0 by decide), hR, b1_s, r_who hx hk, b2_s, if_pos rfl]
        | false => rw [if_pos (show bI false = 0 from rfl), bn_s, nI_1, if_neg (by decide)]
      · rw [if_neg h1, bn_s, nI_1, decide_eq_false h1, Bool.false_and, if_neg (by decide)]
    · show f_X12_hands_29 (f + 1) _ _ _ _ _ = _
      rw [f_X12_hands_29, hR, b1_s, r_size hx, b1_s, if_pos (nI_le (Nat.le_refl _) (by omega))]
  · rw [show a_hands s x y = -1 from if_neg hc]
    by_cases h1 : 1 ≤ x ∧ x ≤ 2
    · rw [if_pos h1, if_neg (by decide), e_isM hw ht, b2_s, if_neg (fun q => hc ⟨h1, q⟩), if_pos rfl]
    · rw [if_neg h1, if_pos rfl]
theorem case_24 : CaseOK g_L_24 := by
  intro L xs j K M hL hj hc
  obtain ⟨s, hw, hc, hr⟩ := hc
  obtain ⟨M1, M2, hcp, e1, e2⟩ := asm (C_hands hw (xs (j + 1)) (xs (j + 2))) (R_hands hw (xs (j + 1)) (xs (j + 2))) (W_hands hw (xs (j + 1)) (xs (j + 2))) hc hr
  refine ⟨M2, hcp, ?_⟩
  unfold g_L_24
  simp only [show (nI j + 1 : Int32) = nI (j + 1) from nI_add _ 1, show (nI j + 2 : Int32) = nI (j + 2) from nI_add _ 2, show (nI j + 3 : Int32) = nI (j + 3) from nI_add _ 3, show (nI j + 4 : Int32) = nI (j + 4) from nI_add _ 4, scr_k (show j + 1 < L by omega) hL, scr_k (show j + 2 < L by omega) hL, scr_k (show j + 3 < L by omega) hL, scr_k (show j + 4 < L by omega) hL, b1_s, e1, e2, b2_s, if_true]

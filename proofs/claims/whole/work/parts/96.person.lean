/-! person -/
def beP (s : St) (p m : Nat) : Bool := !awF s (zplan s) (zplan s).1 p m
def ofP (q : Pl) (p : Nat) : Nat := fb_ct (fun k => decide (tw (q.2 k) = p)) q.1
def o_person (s : St) (x y : Int32) : Option Int32 := if ixP x (zP s) = true ∧ ixP y 6 = true then some (match y.toNatClampNeg with
    | 0 => nI (zshy s x.toNatClampNeg)
    | 1 => nI (ofP (zplan s) x.toNatClampNeg)
    | 2 => nI (zT s) - nI (atB s (zplan s) x.toNatClampNeg)
    | 3 => nI (atB s (zplan s) x.toNatClampNeg)
    | 4 => nI (mxF (beP s x.toNatClampNeg) (zT s))
    | _ => worPer s (zplan s) x.toNatClampNeg) else none
theorem C_person {s : St} (hw : WF s) (x y : Int32) : OpCo (fun M => f_X11_person 0 x y M) s (o_person s x y) := by
  intro M h
  have h0 := h.1
  have hP := hw.1.1
  have h12 := hw.2.2.2.2.1.1
  show ∃ M', f_X11_person 0 x y M = _ ∧ _
  unfold f_X11_person f_X11_person_0 f_X11_person_20
  rw [if_pos (sh_O h0 11 (by decide) rfl), sh_R h0 (a := 0) (k := 2) (b := 5) 11 (by decide) rfl (by decide), b1_s, e_hasP hw h, b2_s]
  by_cases hc : ixP x (zP s) = true ∧ ixP y 6 = true
  · obtain ⟨p, hp, rfl⟩ := ix_ex (by omega) hc.1
    obtain ⟨j, hj, rfl⟩ := ix_ex (by omega) hc.2
    obtain ⟨M1, e1, c1, k1, f1⟩ := c_looked hw h
    have s1 := c1.1
    have x1 := c1.cx hw
    have hB := hw.2.1.1 p hp
    rw [if_pos hc.1, if_neg (by decide), if_neg (ix5.mpr hc.2).1, if_pos (ix5.mpr hc.2).2, sh_R h0 (a := 0) (k := 5) (b := 18) 11 (by decide) rfl (by decide), b1_s, e1, b1_s]
    unfold o_person
    rw [if_pos hc, nI_clamp (by omega), nI_clamp (by omega)]
    match j, hj with
    | 0, _ =>
      refine ⟨M1, ?_, c1, f1⟩
      rw [if_pos (by decide), sh_R s1 (a := 0) (k := 2) (b := 5) 11 (by decide) rfl (by decide), b1_s, sh_R s1 (a := 5) (k := 0) (b := 6) 9 (by decide) rfl (by decide), b1_s, lc_shy s1 c1.2.2.2.1 hw.1 hp, b1_s]
      show _ = some (some (nI (zshy s p)), M1)
      by_cases hz : zshy s p = 0
      · rw [hz, nI_0, if_pos rfl]
      · rw [show zshy s p = 1 by omega, if_neg (by decide)]; rfl
    | 1, _ => exact ⟨M1, (by rw [if_neg (by decide), if_pos (by decide), sh_R s1 (a := 0) (k := 3) (b := 14) 11 (by decide) rfl (by decide), b1_s, c_ofP x1 (by omega), b2_s]; rfl), c1, f1⟩
    | 2, _ => exact ⟨M1, (by rw [if_neg (by decide), if_neg (by decide), if_pos (by decide), sh_R s1 (a := 0) (k := 2) (b := 5) 11 (by decide) rfl (by decide), b1_s, gI_k 9 (sh_O s1 9 (by decide) rfl), b1_s, c1.2.2.2.1.2.2.1, sh_R s1 (a := 0) (k := 5) (b := 18) 11 (by decide) rfl (by decide), b1_s, c_atB x1 (Or.inl ⟨rfl, rfl⟩) k1 hp, b2_s]; rfl), c1, f1⟩
    | 3, _ => exact ⟨M1, (by rw [if_neg (by decide), if_neg (by decide), if_neg (by decide), if_pos (by decide), sh_R s1 (a := 0) (k := 5) (b := 18) 11 (by decide) rfl (by decide), b1_s, c_atB x1 (Or.inl ⟨rfl, rfl⟩) k1 hp, b2_s]; rfl), c1, f1⟩
    | 4, _ => exact ⟨M1, (by rw [if_neg (by decide), if_neg (by decide), if_neg (by decide), if_neg (by decide), if_pos (by decide), sh_R s1 (a := 0) (k := 5) (b := 18) 11 (by decide) rfl (by decide), b1_s, c_lon x1 (Or.inl ⟨rfl, rfl⟩) k1 hp, b2_s]; rfl), c1, f1⟩
    | 5, _ =>
      obtain ⟨⟨r2, M2⟩, e2, er, f2, r3⟩ := c_sumOf (c1.cw hw) (p := p) (by omega)
      have er' : r2 = worPer s (zplan s) p := er
      exact ⟨M2, (by rw [if_neg (by decide), if_neg (by decide), if_neg (by decide), if_neg (by decide), if_neg (by decide), sh_R s1 (a := 0) (k := 7) (b := 84) 11 (by decide) rfl (by decide), b1_s, e2, b2_s, er']; rfl), c1.fr (wEv_wC f2) (f2.sh' r3 s1), f1.tr (wEv_cW f2)⟩
    | n + 6, h => omega
  · refine ⟨M, ?_, h, Fr.rf M⟩
    rw [show o_person s x y = none from if_neg hc]
    by_cases h1 : ixP x (zP s) = true
    · rw [if_pos h1, if_neg (by decide)]
      by_cases h2 : y < 0
      · rw [if_pos h2]
      · rw [if_neg h2, if_neg (fun q => hc ⟨h1, ix5.mp ⟨h2, q⟩⟩)]
    · rw [if_neg h1, if_pos rfl]
theorem r_per1 {s : St} {M : MM} {q : Pl} (h : RW2 s M 153 q) {p : Nat} (hp : p < zP s) (y : Int32) : ∃ M', f_X12_person_38 1024 143 (nI p) y 0 0 0 M = f_X12_person_99 1024 143 (nI p) y (nI (ofP q p)) (worPer s q p) 0 0 0 0 M' ∧ Fr wStk M M' ∧ mR M' = mR M := by
  have h15 := h.1.2.2.2.2.2.2.1
  have hP := h.1.2.2.1.1
  have key := lpt (fun f k N => f_X12_person_38 f 143 (nI p) y (nI (fb_ct (fun k => decide (tw (q.2 k) = p)) k)) (smI (fun i => if tw (q.2 i) = p then worS s q i else 0) k) (nI k) N) (fun N => f_X12_person_99 1024 143 (nI p) y (nI (ofP q p)) (worPer s q p) 0 0 0 0 N) (fun k N => Fr wStk M N ∧ mR N = mR M) (fun N => Fr wStk M N ∧ mR N = mR M) q.1 (fun f k N hk hi => by
    left
    have hN := h.fr hi.1 hi.2
    have h0 := hN.1.1
    have hb := okT_b (h.1.2.2.2.2.2.2.2 k hk)
    have hR := sh_R h0 (a := 143) (k := 15) (b := 153) 12 (by decide) rfl (by decide)
    show ∃ M', f_X12_person_38 (f + 1) _ _ _ _ _ _ _ = _ ∧ _
    rw [f_X12_person_38, hR, b1_s, r_size hN.1, b1_s, if_neg (nI_ge hk (by omega)), b1_s, r_who hN.1 hk, b2_s, fb_ct_succ, smI_s]
    unfold f_X12_person_81
    by_cases hc : tw (q.2 k) = p
    · obtain ⟨⟨r, N1⟩, e1, er, f1, r1⟩ := r_worth hN hk
      have er' : r = worS s q k := er
      refine ⟨N1, ?_, hi.1.tr f1, r1.trans hi.2⟩
      rw [if_pos (by rw [hc]), bn_s, nI_1, hR, b1_s, e1, b2_s, bn_s, bn_s, nI_1, er', decide_eq_true hc, if_pos rfl, if_pos hc]
    · refine ⟨N, ?_, hi⟩
      rw [if_neg (by rw [nI_eq (by omega) (by omega)]; exact hc), bn_s, nI_1, decide_eq_false hc, if_neg (by decide), if_neg hc, Int32.add_zero]; rfl) (fun f N hi => by
    have hN := h.fr hi.1 hi.2
    have h0 := hN.1.1
    refine ⟨N, ?_, hi⟩
    show f_X12_person_38 (f + 1) _ _ _ _ _ _ _ = _
    rw [f_X12_person_38, sh_R h0 (a := 143) (k := 15) (b := 153) 12 (by decide) rfl (by decide), b1_s, r_size hN.1, b1_s, if_pos (nI_le (Nat.le_refl _) (by omega))]
    rfl) 1024 0 M (by omega) (by omega) ⟨Fr.rf M, rfl⟩
  exact key
theorem r_per2 {s : St} {M : MM} (h : RX s M 153 (zplan s)) {p j : Nat} (hp : p < zP s) (hj : j < 6) (c w : Int32) (hc : c = nI (ofP (zplan s) p)) (hw : w = worPer s (zplan s) p) : ∃ v, f_X12_person_99 1024 143 (nI p) (nI j) c w 0 0 0 0 M = some (v, M) ∧ o_person s (nI p) (nI j) = some v := by
  have h0 := h.1
  have hP := h.2.2.1.1
  have hT := h.2.2.1.2.2.2.1
  have hB := h.2.2.2.1.1 p hp
  have hO := sh_O h0 (a := 143) 12 (by decide) rfl
  have cs : ixP (nI p) (zP s) = true ∧ ixP (nI j) 6 = true := ⟨ix_n (by omega) hp, ix_n (by omega) hj⟩
  cases ho : o_person s (nI p) (nI j) with
  | none => unfold o_person at ho; rw [if_pos cs] at ho; cases ho
  | some v =>
    refine ⟨v, ?_, rfl⟩
    have this : f_X12_person_99 1024 143 (nI p) (nI j) c w (nI (fb_ct (beP s p) 0)) (nI (rnF (beP s p) 0)) (nI (mxF (beP s p) 0)) (nI 0) M = some (v, M) := by
      refine lpv (fun f k => f_X12_person_99 f 143 (nI p) (nI j) c w (nI (fb_ct (beP s p) k)) (nI (rnF (beP s p) k)) (nI (mxF (beP s p) k)) (nI k) M) (zT s) _ (fun f k hk => Or.inl ?_) (fun f => ?_) 1024 0 (by omega) (by omega)
      · show f_X12_person_99 (f + 1) _ _ _ _ _ _ _ _ _ _ = _
        have q1 := rnF_le (beP s p) k
        have q2 := mxF_le (beP s p) k
        rw [f_X12_person_99, gI_k 6 hO, b1_s, h.2.1.2.2.1, if_neg (nI_ge hk (by omega)), sh_R h0 (a := 143) (k := 15) (b := 153) 12 (by decide) rfl (by decide), b1_s, r_bench h (by omega), b2_s]
        unfold beB
        rw [r_hasb (by omega) hp, b2_s, fb_ct_succ, mxF_s, rnF_s]
        show (if bI (beP s p k) = 0 then f_X12_person_137 _ _ _ _ _ _ _ _ _ (bI (beP s p k)) _ _ else _) = _
        unfold f_X12_person_137
        rw [e_flag, b2_s]
        cases hb : beP s p k with
        | true =>
          rw [if_neg (show ¬ bI true = 0 by decide), show f_X12_flag (!awF s (zplan s) (zplan s).1 p k |> bI) M = some (bI (beP s p k), M) from e_flag _ _, b2_s, hb, bI_t, bn_s, bn_s, bn_s, nI_1, nI_1, nI_1, if_pos rfl, if_pos rfl, maxI_n (by omega) (by omega)]
        | false =>
          rw [if_pos (show bI false = 0 from rfl), bI_f, bn_s, bn_s, bn_s, nI_1, Int32.add_zero, if_neg (show ¬ false = true by decide), if_neg (show ¬ false = true by decide), ← nI_0, maxI_n (by omega) (by omega)]
          rfl
      · show f_X12_person_99 (f + 1) _ _ _ _ _ _ _ _ _ _ = _
        rw [f_X12_person_99, gI_k 6 hO, b1_s, h.2.1.2.2.1, if_pos (nI_le (Nat.le_refl _) (by omega))]
        unfold o_person at ho
        rw [if_pos cs, nI_clamp (by omega), nI_clamp (by omega)] at ho
        match j, hj with
        | 0, _ =>
          rw [if_pos (by decide), sh_R h0 (a := 143) (k := 7) (b := 145) 12 (by decide) rfl (by decide), b1_s, lr_shy h0 h.2.1 h.2.2.1 hp, b1_s]
          have e : nI (zshy s p) = bI (decide (zshy s p = 1)) := by
            by_cases hz : zshy s p = 1
            · rw [decide_eq_true hz, hz]; rfl
            · rw [decide_eq_false hz, show zshy s p = 0 by omega]; rfl
          rw [e, e_flag, b2_s, ← e]
          rw [← Option.some.inj ho]; rfl
        | 1, _ => rw [if_neg (by decide), if_pos (by decide), hc, ← Option.some.inj ho]; rfl
        | 2, _ => rw [if_neg (by decide), if_neg (by decide), if_pos (by decide), b1_s, ← Option.some.inj ho]; rfl
        | 3, _ => rw [if_neg (by decide), if_neg (by decide), if_neg (by decide), if_pos (by decide), ← Option.some.inj ho]; rfl
        | 4, _ => rw [if_neg (by decide), if_neg (by decide), if_neg (by decide), if_neg (by decide), if_pos (by decide), ← Option.some.inj ho]; rfl
        | 5, _ => rw [if_neg (by decide), if_neg (by decide), if_neg (by decide), if_neg (by decide), if_neg (by decide), hw, ← Option.some.inj ho]; rfl
        | n + 6, h => omega
    have z1 : nI (fb_ct (beP s p) 0) = 0 := rfl
    have z2 : nI (rnF (beP s p) 0) = 0 := rfl
    have z3 : nI (mxF (beP s p) 0) = 0 := rfl
    rw [z1, z2, z3, nI_0] at this
    exact this
theorem R_person {s : St} (hw : WF s) (x y : Int32) : OpRo (fun M => f_X12_person 143 x y M) s (o_person s x y) := by
  intro M h
  obtain ⟨N, et, ht, ft, rt, t0, l0⟩ := r_thr0 h
  have hP := hw.1.1
  show ∃ r M', f_X12_person 143 x y M = _ ∧ _
  unfold f_X12_person f_X12_person_0 f_X12_person_25
  obtain ⟨et2, ht2, ft2, rt2⟩ := r_thr ht 1
  have t1 : mI (sI N 143 0 1) 143 0 = 1 := by rw [mI_w, if_pos ⟨rfl, rfl⟩]
  rw [if_pos (sh_O h.1 12 (by decide) rfl), et, b1_s, e_isP hw ht, b2_s]
  by_cases hc : ixP x (zP s) = true ∧ ixP y 6 = true
  · obtain ⟨p, hp, rfl⟩ := ix_ex (by omega) hc.1
    obtain ⟨j, hj, rfl⟩ := ix_ex (by omega) hc.2
    rw [if_pos hc.1, if_neg (by decide), show f_X12_in (nI j).toInt64 0 5 N = some (if ixP (nI j) 6 = true then 1 else 0, N) from e_in0n _ 6 (by decide) N, b2_s, if_pos hc.2, if_neg (by decide)]
    obtain ⟨M1, e1, f1, r1⟩ := r_per1 (ht.rw hw) hp (nI j)
    have s1 := f1.sh' r1 ht.1
    have c1 : RR s M1 := ht.fr (wStk_wR f1) s1
    obtain ⟨v, e2, e3⟩ := r_per2 (c1.rx hw) hp hj _ _ rfl rfl
    refine ⟨v, M1, by rw [e1, e2], c1, ft.tr (wStk_rW f1), r1.trans rt, (f1.2.2.2.1 183 0 (by unfold wStk; omega)).trans l0, ?_, fun v' hv => ?_⟩
    · rw [f1.2.2.1 143 0 (by unfold wStk; omega), t0, e3]; rfl
    · rw [e3] at hv; exact Option.some.inj hv
  · rw [show o_person s x y = none from if_neg hc]
    refine ⟨0, sI N 143 0 1, ?_, ht2, ft.tr ft2, rt2.trans rt, l0, t1, fun v hv => by cases hv⟩
    by_cases h1 : ixP x (zP s) = true
    · have h2 : ¬ ixP y 6 = true := fun q => hc ⟨h1, q⟩
      rw [if_pos h1, if_neg (by decide), show f_X12_in y.toInt64 0 5 N = some (if ixP y 6 = true then 1 else 0, N) from e_in0n _ 6 (by decide) N, b2_s, if_neg h2, if_pos rfl, r_ref ht, b2_s]
    · rw [if_neg h1, if_pos rfl, r_ref ht, b2_s]
theorem case_6 : CaseOK g_L_6 := by
  intro L xs j K M hL hj hc
  obtain ⟨s, hw, hc, hr⟩ := hc
  obtain ⟨M1, M2, r, hcp, e1, e2, e3, e4⟩ := asmo hw (C_person hw (xs (j + 1)) (xs (j + 2))) (R_person hw (xs (j + 1)) (xs (j + 2))) hc hr (f_L_person 0 (xs (j + 1)) (xs (j + 2)) 183 M) rfl
  refine ⟨M2, hcp, ?_⟩
  unfold g_L_6
  simp only [show (nI j + 1 : Int32) = nI (j + 1) from nI_add _ 1, show (nI j + 2 : Int32) = nI (j + 2) from nI_add _ 2, scr_k (show j + 1 < L by omega) hL, scr_k (show j + 2 < L by omega) hL, b1_s, e1, e2, b2_s, e3, if_true]
  cases ho : o_person s (xs (j + 1)) (xs (j + 2)) with
  | none => rw [if_neg (by decide)]
  | some v => rw [if_pos (show thI (some v) = 0 from rfl), e4 v ho, b1_s, lgc_0, if_pos rfl]

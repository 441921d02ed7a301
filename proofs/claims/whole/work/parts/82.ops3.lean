/-! CALLS THAT MAY THROW: trip, errand, row; count -/
def OpCo (f : MM → Option (Option Int32 × MM)) (s : St) (o : Option Int32) : Prop := ∀ M, RC s M → ∃ M', f M = some (o, M') ∧ RC s M' ∧ Fr cW M M'
def thI (o : Option Int32) : Int32 := match o with
  | none => 1
  | some _ => 0
def OpRo (g : MM → Option (Int32 × MM)) (s : St) (o : Option Int32) : Prop := ∀ M, RR s M → ∃ r M', g M = some (r, M') ∧ RR s M' ∧ Fr rW M M' ∧ mR M' = mR M ∧ mL M' 183 0 = mL M 183 0 ∧ mI M' 143 0 = thI o ∧ (∀ v, o = some v → r = v)
theorem lgc_0 (x : Int64) : lg_cmp x x = 0 := by
  unfold lg_cmp
  rw [if_neg (by rw [gt_iff_lt, fa_lt64]; omega), if_pos rfl]
theorem e_thr {M : MM} (h0 : Sh M) : f_X12_thrown 143 M = some (mI M 143 0, M) := by
  unfold f_X12_thrown f_X12_thrown_0
  rw [if_pos (sh_O h0 12 (by decide) rfl), gI_k 0 (sh_O h0 12 (by decide) rfl), b1_s]
theorem asmo {f : MM → Option (Option Int32 × MM)} {g : MM → Option (Int32 × MM)} {s : St} {o : Option Int32} (hw : WF s) (hc : OpCo f s o) (hr : OpRo g s o) {M : MM} (h1 : RC s M) (h2 : RR s M) (fL : Option (Int32 × MM)) (hfL : fL = b2 (f M) fun r M1 => match r with
    | some v => b1 (stL 183 (0 : Int32) (Int32.toInt64 v) M1) fun M2 => some ((0 : Int32), M2)
    | none => some ((1 : Int32), M1)) : ∃ M' M'' r, Cp M'' ∧ fL = some (thI o, M') ∧ g M' = some (r, M'') ∧ f_X12_thrown 143 M'' = some (thI o, M'') ∧ (∀ v, o = some v → ldL 183 0 M'' = some (Int32.toInt64 r)) := by
  obtain ⟨M1, e1, c1, f1⟩ := hc M h1
  have r1 : RR s M1 := h2.fr (f1.mono (fun a k h => Or.inl h)) c1.1
  cases o with
  | none =>
    obtain ⟨r, M2, e2, c2, f2, f3, f4, f5, f6⟩ := hr M1 r1
    refine ⟨M1, M2, r, ⟨s, hw, c1.fr (f2.mono (fun a k h => Or.inl h)) c2.1, c2⟩, ?_, e2, ?_, fun v hv => by cases hv⟩
    · rw [hfL, e1, b2_s]; rfl
    · rw [e_thr c2.1, f5]
  | some v =>
    have h183 : stL 183 0 (Int32.toInt64 v) M1 = some (sL M1 183 0 (Int32.toInt64 v)) := by rw [← nI_0]; exact st_183 c1.1 _ (by decide)
    have r3 : RR s (sL M1 183 0 (Int32.toInt64 v)) := r1.fr ((Fr.rf M1).sL (by unfold wR; omega)) r1.1
    have c3 : RC s (sL M1 183 0 (Int32.toInt64 v)) := c1.fr ((Fr.rf M1).sL (by unfold wC; omega)) c1.1
    obtain ⟨r, M2, e2, c2, f2, f3, f4, f5, f6⟩ := hr _ r3
    refine ⟨sL M1 183 0 (Int32.toInt64 v), M2, r, ⟨s, hw, c3.fr (f2.mono (fun a k h => Or.inl h)) c2.1, c2⟩, ?_, e2, ?_, fun v' hv => ?_⟩
    · rw [hfL, e1, b2_s]
      show b1 (stL 183 0 (Int32.toInt64 v) M1) _ = _
      rw [h183, b1_s]; rfl
    · rw [e_thr c2.1, f5]
    · rw [← nI_0, ld_183 c2.1 (by decide), f4, mL_w, if_pos ⟨rfl, rfl⟩, f6 v rfl]
theorem r_thr0 {s : St} {M : MM} (h : RR s M) : ∃ N, pI 12 0 143 0 M = some N ∧ RR s N ∧ Fr rW M N ∧ mR N = mR M ∧ mI N 143 0 = 0 ∧ mL N 183 0 = mL M 183 0 := by
  obtain ⟨et, ht, ft, rt⟩ := r_thr h 0
  exact ⟨_, et, ht, ft, rt, by rw [mI_w, if_pos ⟨rfl, rfl⟩], rfl⟩
/-! trip -/
def o_trip (s : St) (x y : Int32) : Option Int32 := if ixP x (zplan s).1 = true ∧ ixP y 6 = true then some (match y.toNatClampNeg with
    | 0 => nI (tw ((zplan s).2 x.toNatClampNeg))
    | 1 => nI (te ((zplan s).2 x.toNatClampNeg))
    | 2 => nI (ts ((zplan s).2 x.toNatClampNeg))
    | 3 => nI (tback s ((zplan s).2 x.toNatClampNeg))
    | 4 => worS s (zplan s) x.toNatClampNeg
    | _ => nI (whyS s (zplan s) x.toNatClampNeg)) else none
theorem ix5 {v : Int32} : (¬ v < 0 ∧ v ≤ 5) ↔ ixP v 6 = true := by
  rw [ix_t, fa_lt, fa_lt, fa_le, nI_toInt (by decide), show (5 : Int32).toInt = 5 from by decide, show (0 : Int32).toInt = 0 from by decide]
  omega
theorem ix6 {v : Int32} : (¬ v < 0 ∧ v ≤ 6) ↔ ixP v 7 = true := by
  rw [ix_t, fa_lt, fa_lt, fa_le, nI_toInt (by decide), show (6 : Int32).toInt = 6 from by decide, show (0 : Int32).toInt = 0 from by decide]
  omega
theorem C_trip {s : St} (hw : WF s) (x y : Int32) : OpCo (fun M => f_X11_trip 0 x y M) s (o_trip s x y) := by
  intro M h
  have h0 := h.1
  have hx := h.cx hw
  have h12 := hx.2.2.2.2.2.2.1
  have hR3 := sh_R h0 (a := 0) (k := 3) (b := 14) 11 (by decide) rfl (by decide)
  have hR5 := sh_R h0 (a := 0) (k := 5) (b := 18) 11 (by decide) rfl (by decide)
  have hR7 := sh_R h0 (a := 0) (k := 7) (b := 84) 11 (by decide) rfl (by decide)
  show ∃ M', f_X11_trip 0 x y M = _ ∧ _
  unfold f_X11_trip f_X11_trip_0 f_X11_trip_20
  rw [if_pos (sh_O h0 11 (by decide) rfl), hR3, b1_s, e_has hx, b2_s]
  by_cases hc : ixP x (zplan s).1 = true ∧ ixP y 6 = true
  · obtain ⟨i, hi, rfl⟩ := ix_ex (by omega) hc.1
    obtain ⟨j, hj, rfl⟩ := ix_ex (by omega) hc.2
    rw [if_pos hc.1, if_neg (by decide), if_neg (ix5.mpr hc.2).1, if_pos (ix5.mpr hc.2).2]
    unfold o_trip
    rw [if_pos hc, nI_clamp (by omega), nI_clamp (by omega)]
    match j, hj with
    | 0, _ => exact ⟨M, (by rw [if_pos (by decide), hR3, b1_s, e_who hx hi, b2_s]; rfl), h, Fr.rf M⟩
    | 1, _ => exact ⟨M, (by rw [if_neg (by decide), if_pos (by decide), hR3, b1_s, e_what hx hi, b2_s]; rfl), h, Fr.rf M⟩
    | 2, _ => exact ⟨M, (by rw [if_neg (by decide), if_neg (by decide), if_pos (by decide), hR3, b1_s, e_first hx hi, b2_s]; rfl), h, Fr.rf M⟩
    | 3, _ => exact ⟨M, (by rw [if_neg (by decide), if_neg (by decide), if_neg (by decide), if_pos (by decide), hR5, b1_s, c_back hx (Or.inl ⟨rfl, rfl⟩) hi, b2_s]; rfl), h, Fr.rf M⟩
    | 4, _ =>
      obtain ⟨M', e, f, r⟩ := c_of (h.cw hw) hi
      exact ⟨M', (by rw [if_neg (by decide), if_neg (by decide), if_neg (by decide), if_neg (by decide), if_pos (by decide), hR7, b1_s, e, b2_s]; rfl), h.fr (wEv_wC f) (f.sh' r h0), wEv_cW f⟩
    | 5, _ => exact ⟨M, (by rw [if_neg (by decide), if_neg (by decide), if_neg (by decide), if_neg (by decide), if_neg (by decide), hR5, b1_s, c_why hx (Or.inl ⟨rfl, rfl⟩) hi, b2_s]; rfl), h, Fr.rf M⟩
    | n + 6, h => omega
  · refine ⟨M, ?_, h, Fr.rf M⟩
    rw [show o_trip s x y = none from if_neg hc]
    by_cases h1 : ixP x (zplan s).1 = true
    · rw [if_pos h1, if_neg (by decide)]
      by_cases h2 : y < 0
      · rw [if_pos h2]
      · rw [if_neg h2, if_neg (fun q => hc ⟨h1, ix5.mp ⟨h2, q⟩⟩)]
    · rw [if_neg h1, if_pos rfl]
theorem r_ref {s : St} {M : MM} (h : RR s M) : f_X12_refuse 143 M = some (0, sI M 143 0 1) := by
  unfold f_X12_refuse f_X12_refuse_0
  rw [if_pos (sh_O h.1 12 (by decide) rfl), pI_k 0 1 (sh_O h.1 12 (by decide) rfl), b1_s]
theorem R_trip {s : St} (hw : WF s) (x y : Int32) : OpRo (fun M => f_X12_trip 143 x y M) s (o_trip s x y) := by
  intro M h
  obtain ⟨N, et, ht, ft, rt, t0, l0⟩ := r_thr0 h
  show ∃ r M', f_X12_trip 143 x y M = _ ∧ _
  unfold f_X12_trip f_X12_trip_0 f_X12_trip_25
  rw [if_pos (sh_O h.1 12 (by decide) rfl), et, b1_s]
  have h0 := ht.1
  have hx := ht.rx hw
  have h15 := hx.2.2.2.2.2.2.1
  have hR := sh_R h0 (a := 143) (k := 15) (b := 153) 12 (by decide) rfl (by decide)
  obtain ⟨et2, ht2, ft2, rt2⟩ := r_thr ht 1
  have t1 : mI (sI N 143 0 1) 143 0 = 1 := by rw [mI_w, if_pos ⟨rfl, rfl⟩]
  rw [e_isT hw ht, b2_s]
  by_cases hc : ixP x (zplan s).1 = true ∧ ixP y 6 = true
  · obtain ⟨i, hi, rfl⟩ := ix_ex (by omega) hc.1
    obtain ⟨j, hj, rfl⟩ := ix_ex (by omega) hc.2
    rw [if_pos hc.1, if_neg (by decide), show f_X12_in (nI j).toInt64 0 5 N = some (if ixP (nI j) 6 = true then 1 else 0, N) from e_in0n _ 6 (by decide) N, b2_s, if_pos hc.2, if_neg (by decide), hR]
    unfold o_trip
    rw [if_pos hc, nI_clamp (by omega), nI_clamp (by omega)]
    have p := ht.2.2.2.2.1.2 i hi
    simp only [Nat.zero_add] at p
    match j, hj with
    | 0, _ => exact ⟨_, N, by rw [if_neg (by decide), if_neg (by decide), if_neg (by decide), b1_s, n3m, nI_add, ld_153 h0 (by omega), b1_s, Nat.add_zero, p.1], ht, ft, rt, l0, t0, fun v hv => by cases hv; rfl⟩
    | 1, _ => exact ⟨_, N, by rw [if_neg (by decide), if_neg (by decide), if_neg (by decide), b1_s, n3m, nI_add, ld_153 h0 (by omega), b1_s, p.2.1], ht, ft, rt, l0, t0, fun v hv => by cases hv; rfl⟩
    | 2, _ => exact ⟨_, N, by rw [if_neg (by decide), if_neg (by decide), if_neg (by decide), b1_s, n3m, nI_add, ld_153 h0 (by omega), b1_s, p.2.2], ht, ft, rt, l0, t0, fun v hv => by cases hv; rfl⟩
    | 3, _ => exact ⟨_, N, by rw [if_pos (by decide), b1_s, r_back hx hi, b2_s], ht, ft, rt, l0, t0, fun v hv => by cases hv; rfl⟩
    | 4, _ =>
      obtain ⟨⟨r, M'⟩, e, er, f, r3⟩ := r_worth (ht.rw hw) hi
      refine ⟨r, M', by rw [if_neg (by decide), if_pos (by decide), b1_s, e, b2_s], ht.fr (wStk_wR f) (f.sh' r3 h0), ft.tr (wStk_rW f), r3.trans rt, (f.2.2.2.1 183 0 (by unfold wStk; omega)).trans l0, (f.2.2.1 143 0 (by unfold wStk; omega)).trans t0, fun v hv => by cases hv; exact er⟩
    | 5, _ => exact ⟨_, N, by rw [if_neg (by decide), if_neg (by decide), if_pos (by decide), b1_s, r_why hx hi, b2_s], ht, ft, rt, l0, t0, fun v hv => by cases hv; rfl⟩
    | n + 6, h => omega
  · rw [show o_trip s x y = none from if_neg hc]
    refine ⟨0, sI N 143 0 1, ?_, ht2, ft.tr ft2, rt2.trans rt, l0, t1, fun v hv => by cases hv⟩
    by_cases h1 : ixP x (zplan s).1 = true
    · have h2 : ¬ ixP y 6 = true := fun q => hc ⟨h1, q⟩
      rw [if_pos h1, if_neg (by decide), show f_X12_in y.toInt64 0 5 N = some (if ixP y 6 = true then 1 else 0, N) from e_in0n _ 6 (by decide) N, b2_s, if_neg h2, if_pos rfl, r_ref ht, b2_s]
    · rw [if_neg h1, if_pos rfl, r_ref ht, b2_s]
theorem case_8 : CaseOK g_L_8 := by
  intro L xs j K M hL hj hc
  obtain ⟨s, hw, hc, hr⟩ := hc
  obtain ⟨M1, M2, r, hcp, e1, e2, e3, e4⟩ := asmo hw (C_trip hw (xs (j + 1)) (xs (j + 2))) (R_trip hw (xs (j + 1)) (xs (j + 2))) hc hr (f_L_trip 0 (xs (j + 1)) (xs (j + 2)) 183 M) rfl
  refine ⟨M2, hcp, ?_⟩
  unfold g_L_8
  simp only [show (nI j + 1 : Int32) = nI (j + 1) from nI_add _ 1, show (nI j + 2 : Int32) = nI (j + 2) from nI_add _ 2, scr_k (show j + 1 < L by omega) hL, scr_k (show j + 2 < L by omega) hL, b1_s, e1, e2, b2_s, e3, if_true]
  cases ho : o_trip s (xs (j + 1)) (xs (j + 2)) with
  | none => rw [if_neg (by decide)]
  | some v => rw [if_pos (show thI (some v) = 0 from rfl), e4 v ho, b1_s, lgc_0, if_pos rfl]
/-! errand -/
def ofE (q : Pl) (e : Nat) : Nat := fb_ct (fun k => decide (te (q.2 k) = e)) q.1
def o_errand (s : St) (x y : Int32) : Option Int32 := if ixP x (zE s) = true ∧ ixP y 7 = true then some (match y.toNatClampNeg with
    | 0 => nI (zway s x.toNatClampNeg)
    | 1 => nI (zlas s x.toNatClampNeg)
    | 2 => nI (zfro s x.toNatClampNeg)
    | 3 => nI (ztil s x.toNatClampNeg)
    | 4 => nI (zthi s x.toNatClampNeg)
    | 5 => nI (zsee s x.toNatClampNeg)
    | _ => nI (ofE (zplan s) x.toNatClampNeg)) else none
theorem c_ofE {s : St} {M : MM} {a : Nat} {q : Pl} (h : CX s M a q) {e : Nat} (he : e < 8) : f_X5_ofErrand a (nI e) M = some (nI (ofE q e), M) := by
  have h0 := h.1
  have h12 := h.2.2.2.2.2.2.1
  have hE := h.2.2.1.2.1
  unfold f_X5_ofErrand f_X5_ofErrand_0 ofE
  rw [if_pos (pa_O h0 h.2.2.2.2.1)]
  have this : f_X5_ofErrand_4 1024 a (nI e) (nI (fb_ct (fun k => decide (te (q.2 k) = e)) 0)) (nI 0) M = some (nI (fb_ct (fun k => decide (te (q.2 k) = e)) q.1), M) := by
    refine lpv (fun f k => f_X5_ofErrand_4 f a (nI e) (nI (fb_ct (fun k => decide (te (q.2 k) = e)) k)) (nI k) M) q.1 _ (fun f k hk => Or.inl ?_) (fun f => ?_) 1024 0 (by omega) (by omega)
    · show f_X5_ofErrand_4 (f + 1) _ _ _ _ _ = _
      have hc := okT_b (h.2.2.2.2.2.2.2 k hk)
      rw [f_X5_ofErrand_4, c_size h, b1_s, if_neg (nI_ge hk (by omega)), e_what h hk, b2_s]
      unfold f_X5_ofErrand_27
      rw [fb_ct_succ]
      by_cases h1 : te (q.2 k) = e
      · rw [if_pos (by rw [h1]), bn_s, bn_s, nI_1, nI_1, decide_eq_true h1]; rfl
      · rw [if_neg (by rw [nI_eq (by omega) (by omega)]; exact h1), bn_s, bn_s, nI_1, decide_eq_false h1, Int32.add_zero]; rfl
    · show f_X5_ofErrand_4 (f + 1) _ _ _ _ _ = _
      rw [f_X5_ofErrand_4, c_size h, b1_s, if_pos (nI_le (Nat.le_refl _) (by omega))]
  have z : nI (fb_ct (fun k => decide (te (q.2 k) = e)) 0) = 0 := rfl
  rw [z, nI_0] at this
  exact this
theorem c_ofP {s : St} {M : MM} {a : Nat} {q : Pl} (h : CX s M a q) {p : Nat} (he : p < 8) : f_X5_ofPerson a (nI p) M = some (nI (fb_ct (fun k => decide (tw (q.2 k) = p)) q.1), M) := by
  have h0 := h.1
  have h12 := h.2.2.2.2.2.2.1
  have hE := h.2.2.1.1
  unfold f_X5_ofPerson f_X5_ofPerson_0
  rw [if_pos (pa_O h0 h.2.2.2.2.1)]
  have this : f_X5_ofPerson_4 1024 a (nI p) (nI (fb_ct (fun k => decide (tw (q.2 k) = p)) 0)) (nI 0) M = some (nI (fb_ct (fun k => decide (tw (q.2 k) = p)) q.1), M) := by
    refine lpv (fun f k => f_X5_ofPerson_4 f a (nI p) (nI (fb_ct (fun k => decide (tw (q.2 k) = p)) k)) (nI k) M) q.1 _ (fun f k hk => Or.inl ?_) (fun f => ?_) 1024 0 (by omega) (by omega)
    · show f_X5_ofPerson_4 (f + 1) _ _ _ _ _ = _
      have hc := okT_b (h.2.2.2.2.2.2.2 k hk)
      rw [f_X5_ofPerson_4, c_size h, b1_s, if_neg (nI_ge hk (by omega)), e_who h hk, b2_s]
      unfold f_X5_ofPerson_27
      rw [fb_ct_succ]
      by_cases h1 : tw (q.2 k) = p
      · rw [if_pos (by rw [h1]), bn_s, bn_s, nI_1, nI_1, decide_eq_true h1]; rfl
      · rw [if_neg (by rw [nI_eq (by omega) (by omega)]; exact h1), bn_s, bn_s, nI_1, decide_eq_false h1, Int32.add_zero]; rfl
    · show f_X5_ofPerson_4 (f + 1) _ _ _ _ _ = _
      rw [f_X5_ofPerson_4, c_size h, b1_s, if_pos (nI_le (Nat.le_refl _) (by omega))]
  have z : nI (fb_ct (fun k => decide (tw (q.2 k) = p)) 0) = 0 := rfl
  rw [z, nI_0] at this
  exact this
theorem r_ofE {s : St} {M : MM} {q : Pl} (h : RX s M 153 q) {e : Nat} (he : e < 8) : f_X12_errand_118 1024 143 (nI e) 0 0 M = some (nI (ofE q e), M) := by
  have h0 := h.1
  have h15 := h.2.2.2.2.2.2.1
  have hE := h.2.2.1.2.1
  have hR := sh_R h0 (a := 143) (k := 15) (b := 153) 12 (by decide) rfl (by decide)
  unfold ofE
  have this : f_X12_errand_118 1024 143 (nI e) (nI (fb_ct (fun k => decide (te (q.2 k) = e)) 0)) (nI 0) M = some (nI (fb_ct (fun k => decide (te (q.2 k) = e)) q.1), M) := by
    refine lpv (fun f k => f_X12_errand_118 f 143 (nI e) (nI (fb_ct (fun k => decide (te (q.2 k) = e)) k)) (nI k) M) q.1 _ (fun f k hk => Or.inl ?_) (fun f => ?_) 1024 0 (by omega) (by omega)
    · show f_X12_errand_118 (f + 1) _ _ _ _ _ = _
      have hc := okT_b (h.2.2.2.2.2.2.2 k hk)
      rw [f_X12_errand_118, hR, b1_s, r_size h, b1_s, if_neg (nI_ge hk (by omega)), b1_s, r_what h hk, b2_s]
      unfold f_X12_errand_149
      rw [fb_ct_succ]
      by_cases h1 : te (q.2 k) = e
      · rw [if_pos (by rw [h1]), show (1 : Int32) = bI true from rfl, e_flag, b2_s, bn_s, bn_s, bI_t, nI_1, nI_1, decide_eq_true h1]; rfl
      · rw [if_neg (by rw [nI_eq (by omega) (by omega)]; exact h1), show (0 : Int32) = bI false from rfl, e_flag, b2_s, bn_s, bn_s, nI_1, decide_eq_false h1, bI_f, Int32.add_zero]; rfl
    · show f_X12_errand_118 (f + 1) _ _ _ _ _ = _
      rw [f_X12_errand_118, hR, b1_s, r_size h, b1_s, if_pos (nI_le (Nat.le_refl _) (by omega))]
  have z : nI (fb_ct (fun k => decide (te (q.2 k) = e)) 0) = 0 := rfl
  rw [z, nI_0] at this
  exact this
theorem C_errand {s : St} (hw : WF s) (x y : Int32) : OpCo (fun M => f_X11_errand 0 x y M) s (o_errand s x y) := by
  intro M h
  have h0 := h.1
  have hx := h.cx hw
  have hE := hw.1.2.1
  have hR2 := sh_R h0 (a := 0) (k := 2) (b := 5) 11 (by decide) rfl (by decide)
  have hR3 := sh_R h0 (a := 0) (k := 3) (b := 14) 11 (by decide) rfl (by decide)
  refine ⟨M, ?_, h, Fr.rf M⟩
  show f_X11_errand 0 x y M = _
  unfold f_X11_errand f_X11_errand_0 f_X11_errand_21
  rw [if_pos (sh_O h0 11 (by decide) rfl), hR2, b1_s, e_hasE hw h, b2_s]
  by_cases hc : ixP x (zE s) = true ∧ ixP y 7 = true
  · obtain ⟨i, hi, rfl⟩ := ix_ex (by omega) hc.1
    obtain ⟨j, hj, rfl⟩ := ix_ex (by omega) hc.2
    have hB := hw.2.1.2.1 i hi
    rw [if_pos hc.1, if_neg (by decide), if_neg (ix6.mpr hc.2).1, if_pos (ix6.mpr hc.2).2]
    unfold o_errand
    rw [if_pos hc, nI_clamp (by omega), nI_clamp (by omega)]
    match j, hj with
    | 0, _ => rw [if_pos (by decide), hR2, b1_s, sh_R h0 (a := 5) (k := 1) (b := 7) 9 (by decide) rfl (by decide), b1_s, lc_way h0 h.2.2.2.1 hw.1 hi, b1_s]; rfl
    | 1, _ => rw [if_neg (by decide), if_pos (by decide), hR2, b1_s, sh_R h0 (a := 5) (k := 2) (b := 8) 9 (by decide) rfl (by decide), b1_s, lc_las h0 h.2.2.2.1 hw.1 hi, b1_s]; rfl
    | 2, _ => rw [if_neg (by decide), if_neg (by decide), if_pos (by decide), hR2, b1_s, sh_R h0 (a := 5) (k := 3) (b := 9) 9 (by decide) rfl (by decide), b1_s, lc_fro h0 h.2.2.2.1 hw.1 hi, b1_s]; rfl
    | 3, _ => rw [if_neg (by decide), if_neg (by decide), if_neg (by decide), if_pos (by decide), hR2, b1_s, sh_R h0 (a := 5) (k := 4) (b := 10) 9 (by decide) rfl (by decide), b1_s, lc_til h0 h.2.2.2.1 hw.1 hi, b1_s]; rfl
    | 4, _ => rw [if_neg (by decide), if_neg (by decide), if_neg (by decide), if_neg (by decide), if_pos (by decide), hR2, b1_s, sh_R h0 (a := 5) (k := 5) (b := 11) 9 (by decide) rfl (by decide), b1_s, lc_thi h0 h.2.2.2.1 hw.1 hi, b1_s]; rfl
    | 5, _ =>
      rw [if_neg (by decide), if_neg (by decide), if_neg (by decide), if_neg (by decide), if_neg (by decide), if_pos (by decide), hR2, b1_s, sh_R h0 (a := 5) (k := 6) (b := 12) 9 (by decide) rfl (by decide), b1_s, lc_see h0 h.2.2.2.1 hw.1 hi, b1_s]
      show _ = some (some (nI (zsee s i)), M)
      by_cases hz : zsee s i = 0
      · rw [hz]; rfl
      · rw [show zsee s i = 1 by omega]; rfl
    | 6, _ => rw [if_neg (by decide), if_neg (by decide), if_neg (by decide), if_neg (by decide), if_neg (by decide), if_neg (by decide), hR3, b1_s, c_ofE hx (by omega), b2_s]; rfl
    | n + 7, h => omega
  · rw [show o_errand s x y = none from if_neg hc]
    by_cases h1 : ixP x (zE s) = true
    · rw [if_pos h1, if_neg (by decide)]
      by_cases h2 : y < 0
      · rw [if_pos h2]
      · rw [if_neg h2, if_neg (fun q => hc ⟨h1, ix6.mp ⟨h2, q⟩⟩)]
    · rw [if_neg h1, if_pos rfl]
theorem R_errand {s : St} (hw : WF s) (x y : Int32) : OpRo (fun M => f_X12_errand 143 x y M) s (o_errand s x y) := by
  intro M h
  obtain ⟨N, et, ht, ft, rt, t0, l0⟩ := r_thr0 h
  show ∃ r M', f_X12_errand 143 x y M = _ ∧ _
  unfold f_X12_errand f_X12_errand_0 f_X12_errand_25
  rw [if_pos (sh_O h.1 12 (by decide) rfl), et, b1_s]
  have h0 := ht.1
  have hx := ht.rx hw
  have hE := hw.1.2.1
  obtain ⟨et2, ht2, ft2, rt2⟩ := r_thr ht 1
  have t1 : mI (sI N 143 0 1) 143 0 = 1 := by rw [mI_w, if_pos ⟨rfl, rfl⟩]
  rw [e_isE hw ht, b2_s]
  by_cases hc : ixP x (zE s) = true ∧ ixP y 7 = true
  · obtain ⟨i, hi, rfl⟩ := ix_ex (by omega) hc.1
    obtain ⟨j, hj, rfl⟩ := ix_ex (by omega) hc.2
    have hB := hw.2.1.2.1 i hi
    rw [if_pos hc.1, if_neg (by decide), show f_X12_in (nI j).toInt64 0 6 N = some (if ixP (nI j) 7 = true then 1 else 0, N) from e_in0n _ 7 (by decide) N, b2_s, if_pos hc.2, if_neg (by decide)]
    unfold o_errand
    rw [if_pos hc, nI_clamp (by omega), nI_clamp (by omega)]
    refine ⟨_, N, ?_, ht, ft, rt, l0, t0, fun v hv => (Option.some.inj hv)⟩
    match j, hj with
    | 0, _ => rw [if_pos (by decide), sh_R h0 (a := 143) (k := 9) (b := 147) 12 (by decide) rfl (by decide), b1_s, lr_way h0 ht.2.2.2.1 hw.1 hi, b1_s]; rfl
    | 1, _ => rw [if_neg (by decide), if_pos (by decide), sh_R h0 (a := 143) (k := 10) (b := 148) 12 (by decide) rfl (by decide), b1_s, lr_las h0 ht.2.2.2.1 hw.1 hi, b1_s]; rfl
    | 2, _ => rw [if_neg (by decide), if_neg (by decide), if_pos (by decide), sh_R h0 (a := 143) (k := 11) (b := 149) 12 (by decide) rfl (by decide), b1_s, lr_fro h0 ht.2.2.2.1 hw.1 hi, b1_s]; rfl
    | 3, _ => rw [if_neg (by decide), if_neg (by decide), if_neg (by decide), if_pos (by decide), sh_R h0 (a := 143) (k := 12) (b := 150) 12 (by decide) rfl (by decide), b1_s, lr_til h0 ht.2.2.2.1 hw.1 hi, b1_s]; rfl
    | 4, _ => rw [if_neg (by decide), if_neg (by decide), if_neg (by decide), if_neg (by decide), if_pos (by decide), sh_R h0 (a := 143) (k := 13) (b := 151) 12 (by decide) rfl (by decide), b1_s, lr_thi h0 ht.2.2.2.1 hw.1 hi, b1_s]; rfl
    | 5, _ =>
      rw [if_neg (by decide), if_neg (by decide), if_neg (by decide), if_neg (by decide), if_neg (by decide), if_pos (by decide), sh_R h0 (a := 143) (k := 14) (b := 152) 12 (by decide) rfl (by decide), b1_s, lr_see h0 ht.2.2.2.1 hw.1 hi, b1_s]
      have e : nI (zsee s i) = bI (decide (zsee s i = 1)) := by
        by_cases hz : zsee s i = 1
        · rw [decide_eq_true hz, hz]; rfl
        · rw [decide_eq_false hz, show zsee s i = 0 by omega]; rfl
      show b2 (f_X12_flag (nI (zsee s i)) N) _ = some (nI (zsee s i), N)
      rw [e, e_flag, b2_s]
    | 6, _ => rw [if_neg (by decide), if_neg (by decide), if_neg (by decide), if_neg (by decide), if_neg (by decide), if_neg (by decide), r_ofE hx (by omega)]; rfl
    | n + 7, h => omega
  · rw [show o_errand s x y = none from if_neg hc]
    refine ⟨0, sI N 143 0 1, ?_, ht2, ft.tr ft2, rt2.trans rt, l0, t1, fun v hv => by cases hv⟩
    by_cases h1 : ixP x (zE s) = true
    · have h2 : ¬ ixP y 7 = true := fun q => hc ⟨h1, q⟩
      rw [if_pos h1, if_neg (by decide), show f_X12_in y.toInt64 0 6 N = some (if ixP y 7 = true then 1 else 0, N) from e_in0n _ 7 (by decide) N, b2_s, if_neg h2, if_pos rfl, r_ref ht, b2_s]
    · rw [if_neg h1, if_pos rfl, r_ref ht, b2_s]
theorem case_7 : CaseOK g_L_7 := by
  intro L xs j K M hL hj hc
  obtain ⟨s, hw, hc, hr⟩ := hc
  obtain ⟨M1, M2, r, hcp, e1, e2, e3, e4⟩ := asmo hw (C_errand hw (xs (j + 1)) (xs (j + 2))) (R_errand hw (xs (j + 1)) (xs (j + 2))) hc hr (f_L_errand 0 (xs (j + 1)) (xs (j + 2)) 183 M) rfl
  refine ⟨M2, hcp, ?_⟩
  unfold g_L_7
  simp only [show (nI j + 1 : Int32) = nI (j + 1) from nI_add _ 1, show (nI j + 2 : Int32) = nI (j + 2) from nI_add _ 2, scr_k (show j + 1 < L by omega) hL, scr_k (show j + 2 < L by omega) hL, b1_s, e1, e2, b2_s, e3, if_true]
  cases ho : o_errand s (xs (j + 1)) (xs (j + 2)) with
  | none => rw [if_neg (by decide)]
  | some v => rw [if_pos (show thI (some v) = 0 from rfl), e4 v ho, b1_s, lgc_0, if_pos rfl]

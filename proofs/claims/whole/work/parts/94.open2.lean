/-! open -/
def soB (s : St) (q : Pl) (e p : Nat) : Bool := decide (erN s q p e < 100)
def gnB (s : St) (e : Nat) : Bool := anyB (fun i => decide (te ((zplan s).2 i) = e)) (zplan s).1
def caB (s : St) (e : Nat) : Bool := !gnB s e && anyB (soB s (zplan s) e) (zP s)
def noB (s : St) (e : Nat) : Bool := !gnB s e && !anyB (soB s (zplan s) e) (zP s)
theorem ofE_gn (s : St) (e : Nat) : ofE (zplan s) e = 0 ↔ gnB s e = false := by
  unfold ofE gnB
  rw [fb_ct_zero]
  constructor
  · intro h; exact anyB_f h
  · intro h k hk
    cases hd : decide (te ((zplan s).2 k) = e) with
    | false => rfl
    | true => rw [anyB_t (P := fun i => decide (te ((zplan s).2 i) = e)) hd hk] at h; cases h
def a_open (s : St) : Int32 := orB (caB s) (zE s)
def n_open (s : St) : St := zsrow s (rowOf [Int32.toInt64 (orB (noB s) (zE s))])
theorem W_open {s : St} (hw : WF s) : WF (n_open s) := WF_row hw (by show 1 ≤ 8; decide)
theorem c_some {s : St} {M : MM} {q : Pl} (h : CX s M 14 q) (hk : LK s q M 18) {e : Nat} (he : e < zE s) : f_X3_someone 89 (nI e) M = some (bI (anyB (soB s q e) (zP s)), M) := by
  have h0 := h.1
  have hP := h.2.2.1.1
  unfold f_X3_someone f_X3_someone_0
  rw [if_pos (sh_O h0 3 (by decide) rfl), ← nI_0]
  refine lpa (fun f k => f_X3_someone_2 f 89 (nI e) (nI k) M) (soB s q e) (zP s) (fun f k hp => ?_) (fun f => ?_) 1024 (by omega)
  · show f_X3_someone_2 (f + 1) _ _ _ _ = _
    rw [f_X3_someone_2, sh_R h0 (a := 89) (k := 0) (b := 5) 3 (by decide) rfl (by decide), b1_s, gI_k 7 (sh_O h0 9 (by decide) rfl), b1_s, h.2.1.1, if_neg (nI_ge hp (by omega)), c_soon h hk hp he, b2_s]
    unfold erI soB
    by_cases hn : erN s q k e < 100
    · rw [if_pos hn, if_neg (nI_pos (by omega)), rz1, decide_eq_true hn, if_pos rfl]
    · rw [if_neg hn, if_pos (by decide), bn_s, nI_1, decide_eq_false hn, if_neg (by decide)]
  · show f_X3_someone_2 (f + 1) _ _ _ _ = _
    rw [f_X3_someone_2, sh_R h0 (a := 89) (k := 0) (b := 5) 3 (by decide) rfl (by decide), b1_s, gI_k 7 (sh_O h0 9 (by decide) rfl), b1_s, h.2.1.1, if_pos (nI_le (Nat.le_refl _) (by omega)), rz0]
theorem C_open {s : St} (hw : WF s) : OpC (fun M => f_X11_open 0 M) s (a_open s) (n_open s) := by
  intro M h
  have h0 := h.1
  have hE := hw.1.2.1
  have h12 := hw.2.2.2.2.1.1
  obtain ⟨M1, e1, c1, k1, f1⟩ := c_looked hw h
  have s1 := c1.1
  have x1 := c1.cx hw
  obtain ⟨M2, e2, w2, f2, r2⟩ := c_one s1 (Int32.toInt64 (orB (noB s) (zE s)))
  refine ⟨M2, ?_, c1.row f2 r2 w2, f1.tr (wRow_cW f2)⟩
  show f_X11_open 0 M = _
  unfold f_X11_open f_X11_open_0
  rw [if_pos (sh_O h0 11 (by decide) rfl), sh_R h0 (a := 0) (k := 5) (b := 18) 11 (by decide) rfl (by decide), b1_s, e1, b1_s]
  have this : f_X11_open_13 1024 0 (orB (caB s) 0) (orB (noB s) 0) (nI 0) M1 = some (a_open s, M2) := by
    refine lpv (fun f k => f_X11_open_13 f 0 (orB (caB s) k) (orB (noB s) k) (nI k) M1) (zE s) _ (fun f k hk => Or.inl ?_) (fun f => ?_) 1024 0 (by omega) (by omega)
    · show f_X11_open_13 (f + 1) _ _ _ _ _ = _
      have hle : ofE (zplan s) k ≤ 12 := by unfold ofE; have := fb_ct_le (fun i => decide (te ((zplan s).2 i) = k)) (zplan s).1; omega
      rw [f_X11_open_13, sh_R s1 (a := 0) (k := 2) (b := 5) 11 (by decide) rfl (by decide), b1_s, gI_k 8 (sh_O s1 9 (by decide) rfl), b1_s, c1.2.2.2.1.2.1, if_neg (nI_ge hk (by omega)), sh_R s1 (a := 0) (k := 3) (b := 14) 11 (by decide) rfl (by decide), b1_s, c_ofE x1 (by omega), b2_s, orB_s, orB_s]
      unfold f_X11_open_64 caB noB
      by_cases hg : ofE (zplan s) k = 0
      · rw [hg, if_pos (by decide), sh_R s1 (a := 0) (k := 8) (b := 89) 11 (by decide) rfl (by decide), b1_s, c_some x1 k1 hk, b2_s, (ofE_gn s k).mp hg]
        cases anyB (soB s (zplan s) k) (zP s) with
        | true => rw [if_neg (show ¬ bI true = 0 by decide), bn_s, bn_s, nI_1, if_pos (show (!false && true) = true from rfl), if_neg (show ¬ (!false && !true) = true by decide), Int32.or_zero]
        | false => rw [if_pos (show bI false = 0 from rfl), bn_s, bn_s, nI_1, if_neg (show ¬ (!false && false) = true by decide), if_pos (show (!false && !false) = true from rfl), Int32.or_zero]
      · have hgt : gnB s k = true := by
          cases hx : gnB s k with
          | true => rfl
          | false => exact absurd ((ofE_gn s k).mpr hx) hg
        rw [if_neg (nI_nle (by omega) (by omega)), bn_s, nI_1, hgt, Bool.not_true, Bool.false_and, Bool.false_and, if_neg (by decide), Int32.or_zero, Int32.or_zero]
    · show f_X11_open_13 (f + 1) _ _ _ _ _ = _
      rw [f_X11_open_13, sh_R s1 (a := 0) (k := 2) (b := 5) 11 (by decide) rfl (by decide), b1_s, gI_k 8 (sh_O s1 9 (by decide) rfl), b1_s, c1.2.2.2.1.2.1, if_pos (nI_le (Nat.le_refl _) (by omega)), sh_R s1 (a := 0) (k := 1) (b := 3) 11 (by decide) rfl (by decide), b1_s, e2, b1_s]
      rfl
  rw [nI_0] at this
  exact this
theorem o116 (K : Nat → Int32 → Int32 → Int32 → MM → Option (Int32 × MM)) (x1 x2 : Int32) (e : Nat) (g c : Bool) (M : MM) : f_X12_open_116 K 143 x1 x2 (nI e) (bI g) (bI c) M = K 143 (x1 ||| (if (!g && c) = true then (1 : Int32) <<< (nI e &&& 31) else 0)) (x2 ||| (if (!g && !c) = true then (1 : Int32) <<< (nI e &&& 31) else 0)) (nI (e + 1)) M := by
  unfold f_X12_open_116 f_X12_open_133 f_X12_open_134 f_X12_open_153 f_X12_open_154
  simp only [bn_s, nI_1]
  cases g <;> cases c <;> rfl
theorem r_open1 {s : St} {M : MM} (hw : WF s) (h : RR s M) {e : Nat} (he : e < zE s) (K : Nat → Int32 → Int32 → Int32 → MM → Option (Int32 × MM)) (x1 x2 : Int32) : ∃ M', f_X12_open_25 K 1024 143 x1 x2 (nI e) 0 0 M = K 143 (x1 ||| (if caB s e = true then (1 : Int32) <<< (nI e &&& 31) else 0)) (x2 ||| (if noB s e = true then (1 : Int32) <<< (nI e &&& 31) else 0)) (nI (e + 1)) M' ∧ RR s M' ∧ Fr (fun a k => a = 154) M M' ∧ mR M' = mR M := by
  have h0 := h.1
  have hP := hw.1.1
  have hE := hw.1.2.1
  have h12 := hw.2.2.2.2.1.1
  have hx := h.rx hw
  have hR := sh_R h0 (a := 143) (k := 15) (b := 153) 12 (by decide) rfl (by decide)
  have g1 : f_X12_open_25 K 1024 143 x1 x2 (nI e) 0 0 M = f_X12_open_74 K 1024 143 x1 x2 (nI e) (bI (gnB s e)) 0 0 M := by
    obtain ⟨M', e1, e2⟩ := lpt (fun f k N => f_X12_open_25 K f 143 x1 x2 (nI e) (bI (anyB (fun i => decide (te ((zplan s).2 i) = e)) k)) (nI k) N) (fun N => f_X12_open_74 K 1024 143 x1 x2 (nI e) (bI (gnB s e)) 0 0 N) (fun k N => N = M) (fun N => N = M) (zplan s).1 (fun f k N hk hi => by
      subst hi
      left
      refine ⟨N, ?_, rfl⟩
      show f_X12_open_25 K (f + 1) _ _ _ _ _ _ _ = _
      have hb := okT_b (hw.2.2.2.2.1.2 k hk)
      rw [f_X12_open_25, hR, b1_s, r_size hx, b1_s, if_neg (nI_ge hk (by omega))]
      unfold f_X12_open_55 f_X12_open_60
      rw [anyB]
      cases anyB (fun i => decide (te ((zplan s).2 i) = e)) k with
      | true => rw [if_neg (show ¬ bI true = 0 by decide), bn_s, nI_1, Bool.true_or]; rfl
      | false =>
        rw [if_pos (show bI false = 0 from rfl), b1_s, r_what hx hk, b2_s, Bool.false_or]
        by_cases hc : te ((zplan s).2 k) = e
        · rw [if_pos (by rw [hc]), bn_s, nI_1, decide_eq_true hc]; rfl
        · rw [if_neg (by rw [nI_eq (by omega) (by omega)]; exact hc), bn_s, nI_1, decide_eq_false hc]; rfl) (fun f N hi => by
      subst hi
      refine ⟨N, ?_, rfl⟩
      show f_X12_open_25 K (f + 1) _ _ _ _ _ _ _ = _
      rw [f_X12_open_25, hR, b1_s, r_size hx, b1_s, if_pos (nI_le (Nat.le_refl _) (by omega))]
      rfl) 1024 0 M (by omega) (by omega) rfl
    subst e2
    exact e1
  rw [g1]
  obtain ⟨M', e1, c1, f1, r1⟩ := lpt (fun f k N => f_X12_open_74 K f 143 x1 x2 (nI e) (bI (gnB s e)) (bI (!gnB s e && anyB (soB s (zplan s) e) k)) (nI k) N) (fun N => f_X12_open_116 K 143 x1 x2 (nI e) (bI (gnB s e)) (bI (!gnB s e && anyB (soB s (zplan s) e) (zP s))) N) (fun k N => RR s N ∧ Fr (fun a k => a = 154) M N ∧ mR N = mR M) (fun N => RR s N ∧ Fr (fun a k => a = 154) M N ∧ mR N = mR M) (zP s) (fun f k N hk hi => by
    have hO := sh_O hi.1.1 (a := 143) 12 (by decide) rfl
    show (∃ M', f_X12_open_74 K (f + 1) _ _ _ _ _ _ _ _ = _ ∧ _) ∨ ∃ M', f_X12_open_74 K (f + 1) _ _ _ _ _ _ _ _ = _ ∧ _
    rw [f_X12_open_74, gI_k 3 hO, b1_s, hi.1.2.2.2.1.1, if_neg (nI_ge hk (by omega))]
    cases hg : gnB s e with
    | true =>
      right
      exact ⟨N, by rw [if_neg (show ¬ bI true = 0 by decide), Bool.not_true, Bool.false_and, Bool.false_and], hi⟩
    | false =>
      rw [if_pos (show bI false = 0 from rfl), Bool.not_false, Bool.true_and]
      cases ha : anyB (soB s (zplan s) e) k with
      | true =>
        right
        obtain ⟨j, hj, hw'⟩ := anyB_iff.mp ha
        exact ⟨N, by rw [if_neg (show ¬ bI true = 0 by decide), anyB_t hw' (show j < zP s by omega), Bool.true_and], hi⟩
      | false =>
        left
        obtain ⟨⟨r1, N1⟩, e1, er, c1, f1, q1⟩ := r_soon hw hi.1 hk he
        have er' : r1 = erI s (zplan s) k e (-2) := er
        refine ⟨N1, ?_, c1, hi.2.1.tr f1, q1.trans hi.2.2⟩
        rw [if_pos (show bI false = 0 from rfl), e1, b2_s, er', anyB, ha, Bool.false_or, Bool.true_and]
        unfold f_X12_open_108 erI soB
        by_cases hn : erN s (zplan s) k e < 100
        · rw [if_pos hn, if_neg (nI_pos (by omega)), bn_s, nI_1, decide_eq_true hn]; rfl
        · rw [if_neg hn, if_pos (by decide), bn_s, nI_1, decide_eq_false hn]; rfl) (fun f N hi => by
    have hO := sh_O hi.1.1 (a := 143) 12 (by decide) rfl
    refine ⟨N, ?_, hi⟩
    show f_X12_open_74 K (f + 1) _ _ _ _ _ _ _ _ = _
    rw [f_X12_open_74, gI_k 3 hO, b1_s, hi.1.2.2.2.1.1, if_pos (nI_le (Nat.le_refl _) (by omega))]) 1024 0 M (by omega) (by omega) ⟨h, Fr.rf M, rfl⟩
  refine ⟨M', ?_, c1, f1, r1⟩
  have z : bI (!gnB s e && anyB (soB s (zplan s) e) 0) = 0 := by show bI (_ && false) = 0; rw [Bool.and_false]; rfl
  rw [z, nI_0, o116] at e1
  rw [e1]
  unfold caB noB
  cases gnB s e <;> cases anyB (soB s (zplan s) e) (zP s) <;> rfl
theorem R_open {s : St} (hw : WF s) : OpR (fun M => f_X12_open 143 M) s (a_open s) (n_open s) := by
  intro M h
  obtain ⟨N, et, ht, ft, rt, t0, l0⟩ := r_thr0 h
  have hE := hw.1.2.1
  show ∃ M', f_X12_open 143 M = _ ∧ _
  unfold f_X12_open f_X12_open_0
  rw [if_pos (sh_O h.1 12 (by decide) rfl), et, b1_s]
  obtain ⟨r, e1, er, c1, f1, r1⟩ := lpm (fun f k N' => f_X12_open_11 f 143 (orB (caB s) k) (orB (noB s) k) (nI k) N') (fun k N' => RR s N' ∧ Fr rW N N' ∧ mR N' = mR N) (fun r => r.1 = a_open s ∧ RR (n_open s) r.2 ∧ Fr rW N r.2 ∧ mR r.2 = mR N) (zE s) (fun f k N' hk hi => by
    left
    obtain ⟨N1, e1, c1, f1, r1⟩ := r_open1 hw hi.1 hk (f_X12_open_11 f) (orB (caB s) k) (orB (noB s) k)
    refine ⟨N1, ?_, c1, hi.2.1.tr (f1.mono (fun a k q => by unfold rW; omega)), r1.trans hi.2.2⟩
    show f_X12_open_11 (f + 1) _ _ _ _ _ = _
    rw [f_X12_open_11, gI_k 4 (sh_O hi.1.1 12 (by decide) rfl), b1_s, hi.1.2.2.2.1.2.1, if_neg (nI_ge hk (by omega)), e1]
    rfl) (fun f N' hi => by
    obtain ⟨M1, M2, e1, e2, c2, f2, r2⟩ := r_one' hi.1 (Int32.toInt64 (orB (noB s) (zE s)))
    refine ⟨(a_open s, M2), ?_, rfl, c2, hi.2.1.tr (wRoR_rW f2), r2.trans hi.2.2⟩
    show f_X12_open_11 (f + 1) _ _ _ _ _ = _
    rw [f_X12_open_11, gI_k 4 (sh_O hi.1.1 12 (by decide) rfl), b1_s, hi.1.2.2.2.1.2.1, if_pos (nI_le (Nat.le_refl _) (by omega)), e1, b1_s, e2, b1_s]
    rfl) 1024 0 N (by omega) (by omega) ⟨ht, Fr.rf N, rfl⟩
  refine ⟨r.2, ?_, c1, ft.tr f1, r1.trans rt⟩
  rw [nI_0] at e1
  exact e1.trans (by rw [← er])
theorem case_29 : CaseOK g_L_29 := by
  intro L xs j K M hL hj hc
  obtain ⟨s, hw, hc, hr⟩ := hc
  obtain ⟨M1, M2, hcp, e1, e2⟩ := asm (C_open hw) (R_open hw) (W_open hw) hc hr
  refine ⟨M2, hcp, ?_⟩
  unfold g_L_29
  simp only [show (nI j + 1 : Int32) = nI (j + 1) from nI_add _ 1, show (nI j + 2 : Int32) = nI (j + 2) from nI_add _ 2, show (nI j + 3 : Int32) = nI (j + 3) from nI_add _ 3, show (nI j + 4 : Int32) = nI (j + 4) from nI_add _ 4, scr_k (show j + 1 < L by omega) hL, scr_k (show j + 2 < L by omega) hL, scr_k (show j + 3 < L by omega) hL, scr_k (show j + 4 < L by omega) hL, b1_s, e1, e2, b2_s, if_true]

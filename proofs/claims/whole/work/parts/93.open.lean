/-! CALLS: earliest, latest, open -/
theorem lpt {R : Type} (F : Nat → Nat → MM → Option R) (T : MM → Option R) (I : Nat → MM → Prop) (Q : MM → Prop) (n : Nat) (hs : ∀ f k M, k < n → I k M → (∃ M', F (f + 1) k M = F f (k + 1) M' ∧ I (k + 1) M') ∨ ∃ M', F (f + 1) k M = T M' ∧ Q M') (he : ∀ f M, I n M → ∃ M', F (f + 1) n M = T M' ∧ Q M') : ∀ f k M, k ≤ n → n < f + k → I k M → ∃ M', F f k M = T M' ∧ Q M' := by
  intro f
  induction f with
  | zero => intro k M h1 h2; omega
  | succ f ih =>
    intro k M h1 h2 hi
    by_cases hk : k = n
    · subst hk; exact he f M hi
    · rcases hs f k M (by omega) hi with ⟨M', h, hi'⟩ | h
      · rw [h]; exact ih (k + 1) M' (by omega) (by omega) hi'
      · exact h
def mIx (k : Nat) : Int32 := if k ≤ 99 then nI (99 - k) else -1
theorem mIx_l {k : Nat} (h : k < 100) : mIx k = nI (99 - k) := if_pos (by omega)
theorem nP1 {a : Nat} (h : 1 ≤ a) : nI a + (-1) = nI (a - 1) := by rw [← Int32.sub_eq_add_neg]; exact nS1 h
theorem mIx_s {k : Nat} (h : k < 100) : nI (99 - k) + (-1) = mIx (k + 1) := by
  unfold mIx
  by_cases hk : k + 1 ≤ 99
  · rw [if_pos hk, nP1 (by omega)]; congr 1
  · rw [if_neg hk, show 99 - k = 0 by omega]; decide
theorem c_last {s : St} {M : MM} {q : Pl} (h : CX s M 14 q) (hk : LK s q M 18) {p e : Nat} (hp : p < zP s) (he : e < zE s) : f_X3_last 89 (nI p) (nI e) M = some (laI s q p e (-1), M) := by
  have h0 := h.1
  have hP := h.2.2.1.1
  have hE := h.2.2.1.2.1
  have hB := h.2.2.2.1.2.1 e he
  have lt := lsO_t h.2.2.2.1 he
  unfold f_X3_last f_X3_last_0
  rw [if_pos (sh_O h0 3 (by decide) rfl), c_lst h he, b2_s]
  by_cases hneg : (ztil s e : Int) - zway s e - zlas s e < 0
  · rw [show 1024 = 1023 + 1 from rfl, f_X3_last_6, c_fst h he, b2_s, if_pos]
    · have : laN s q p e = 100 := fa_none' (fun j hj => mz_f (by omega) (by omega) (by omega))
      unfold laI
      rw [this, if_neg (by decide)]
    · rw [fa_lt, lt, nI_toInt (by unfold fsO; omega)]
      split <;> omega
  · have hh : lsO s e = nI (min 99 (ztil s e - zway s e - zlas s e)) := by
      rw [fa_eq, lt, nI_toInt (by omega)]
      split <;> omega
    have hs0 : lsO s e = mIx (99 - min 99 (ztil s e - zway s e - zlas s e)) := by rw [hh, mIx_l (by omega)]; congr 1; omega
    rw [hs0]
    refine lpi (fun f k => f_X3_last_6 f 89 (nI p) (nI e) (mIx k) M) (fun k => ∀ j, j < k → mzB s q p e (99 - j) = false) 100 _ (fun f k hk' hi => ?_) (fun f hi => ?_) 1024 (99 - min 99 (ztil s e - zway s e - zlas s e)) (by omega) (by omega) (fun j hj => mz_f (by omega) (by omega) (by omega))
    · show (f_X3_last_6 (f + 1) _ _ _ _ _ = _ ∧ _) ∨ f_X3_last_6 (f + 1) _ _ _ _ _ = _
      rw [f_X3_last_6, c_fst h he, b2_s, mIx_l hk']
      by_cases hc : 99 - k < fsO s e
      · right
        rw [if_pos (nI_lt hc (by unfold fsO; omega))]
        have : laN s q p e = 100 := fa_none' (fun j hj => by
          by_cases hjk : j < k
          · exact hi j hjk
          · exact mz_f (by omega) (by omega) (by unfold fsO at hc; omega))
        unfold laI
        rw [this, if_neg (by decide)]
      · rw [if_neg (nI_nlt (by omega) (by omega)), sh_R h0 (a := 89) (k := 2) (b := 18) 3 (by decide) rfl (by decide), b1_s, c_hin h (Or.inl ⟨rfl, rfl⟩) hk hp he (by omega), b2_s]
        cases hz : mzB s q p e (99 - k) with
        | true =>
          right
          rw [if_pos (mz_n.mpr hz)]
          have : laN s q p e = k := fa_eq' (P := fun j => mzB s q p e (99 - j)) hk' hz hi
          unfold laI
          rw [this, if_pos hk']
        | false =>
          left
          rw [if_neg (fun g => by rw [mz_n.mp g] at hz; cases hz), bn_s, mIx_s hk']
          refine ⟨rfl, fun j hj => ?_⟩
          by_cases hjk : j = k
          · rw [hjk]; exact hz
          · exact hi j (by omega)
    · show f_X3_last_6 (f + 1) _ _ _ _ _ = _
      rw [f_X3_last_6, c_fst h he, b2_s, if_pos]
      · have : laN s q p e = 100 := fa_none' hi
        unfold laI
        rw [this, if_neg (by decide)]
      · show mIx 100 < _
        rw [fa_lt, nI_toInt (by unfold fsO; omega), show (mIx 100).toInt = -1 from by decide]
        omega
theorem r_last {s : St} {M : MM} (hw : WF s) (h : RR s M) {p e : Nat} (hp : p < zP s) (he : e < zE s) : ∃ r : Int32 × MM, f_X12_latestFor 143 (nI p) (nI e) M = some r ∧ (r.1 = laI s (zplan s) p e (-2) ∧ RR s r.2 ∧ Fr (fun a k => a = 154) M r.2 ∧ mR r.2 = mR M) := by
  have hP := hw.1.1
  have hE := hw.1.2.1
  unfold f_X12_latestFor f_X12_latestFor_0
  rw [if_pos (sh_O h.1 12 (by decide) rfl), show (99 : Int32) = mIx 0 by decide]
  refine lpm (fun f k N => f_X12_latestFor_3 f 143 (nI p) (nI e) (mIx k) N) (fun k N => (∀ j, j < k → mzB s (zplan s) p e (99 - j) = false) ∧ RR s N ∧ Fr (fun a k => a = 154) M N ∧ mR N = mR M) _ 100 (fun f k N hk hi => ?_) (fun f N hi => ?_) 1024 0 M (by omega) (by omega) ⟨fun j hj => absurd hj (Nat.not_lt_zero j), h, Fr.rf M, rfl⟩
  · show (∃ M', f_X12_latestFor_3 (f + 1) _ _ _ _ _ = _ ∧ _) ∨ ∃ r, f_X12_latestFor_3 (f + 1) _ _ _ _ _ = _ ∧ _
    obtain ⟨N1, e1, c1, f1, r1⟩ := r_may hw hi.2.1 hp he (show 99 - k < 100 by omega)
    rw [f_X12_latestFor_3, mIx_l hk, if_neg (nI_pos (by omega)), e1, b2_s]
    cases hz : mzB s (zplan s) p e (99 - k) with
    | true =>
      right
      have : laN s (zplan s) p e = k := fa_eq' (P := fun j => mzB s (zplan s) p e (99 - j)) hk hz hi.1
      refine ⟨_, by rw [if_pos (mz_n.mpr hz)], ?_, c1, hi.2.2.1.tr f1, r1.trans hi.2.2.2⟩
      unfold laI
      rw [this, if_pos hk]
    | false =>
      left
      refine ⟨N1, by rw [if_neg (fun g => by rw [mz_n.mp g] at hz; cases hz), bn_s, mIx_s hk], fun j hj => ?_, c1, hi.2.2.1.tr f1, r1.trans hi.2.2.2⟩
      by_cases hjk : j = k
      · rw [hjk]; exact hz
      · exact hi.1 j (by omega)
  · show ∃ r, f_X12_latestFor_3 (f + 1) _ _ _ _ _ = _ ∧ _
    rw [f_X12_latestFor_3, if_pos (show mIx 100 < 0 by decide)]
    refine ⟨_, rfl, ?_, hi.2⟩
    have : laN s (zplan s) p e = 100 := fa_none' hi.1
    unfold laI
    rw [this, if_neg (by decide)]
/-- the minute told -/
theorem c_tell {s : St} {M : MM} (hw : WF s) (h : RC s M) {e m : Nat} (he : e < zE s) (hm : m < 100) : ∃ M', f_X11_tellMinute 0 (nI e) (nI m) M = some (nI m, M') ∧ RC (zsrow s (rowOf [Int32.toInt64 (nI (m + zlen s e))])) M' ∧ Fr cW M M' := by
  obtain ⟨M1, e1, w1, f1, r1⟩ := c_one h.1 (Int32.toInt64 (nI (m + zlen s e)))
  refine ⟨M1, ?_, h.row f1 r1 w1, wRow_cW f1⟩
  unfold f_X11_tellMinute f_X11_tellMinute_0
  rw [if_pos (sh_O h.1 11 (by decide) rfl), if_pos (nI_pos' (by omega)), sh_R h.1 (a := 0) (k := 1) (b := 3) 11 (by decide) rfl (by decide), b1_s, sh_R h.1 (a := 0) (k := 2) (b := 5) 11 (by decide) rfl (by decide), b1_s, e_len h.1 h.2.2.2.1 hw.1 he, b2_s, nI_add, e1, b1_s]
theorem r_tell {s : St} {M : MM} (hw : WF s) (h : RR s M) {e m : Nat} (he : e < zE s) (hm : m < 100) : ∃ M', f_X12_tellsBack 143 (nI e) (nI m) M = some (nI m, M') ∧ RR (zsrow s (rowOf [Int32.toInt64 (nI (m + zlen s e))])) M' ∧ Fr rW M M' ∧ mR M' = mR M := by
  obtain ⟨M1, e1, w1, f1, r1⟩ := r_clr h.1
  have s1 := f1.sh' r1 h.1
  obtain ⟨M2, e2, w2, f2, r2⟩ := r_ent s1 w1 (by decide) (Int32.toInt64 (nI (m + zlen s e)))
  refine ⟨M2, ?_, h.row (f1.tr f2) (r2.trans r1) w2, wRoR_rW (f1.tr f2), r2.trans r1⟩
  unfold f_X12_tellsBack f_X12_tellsBack_0
  rw [if_pos (sh_O h.1 12 (by decide) rfl), if_neg (nI_pos (by omega)), e1, b1_s, e_along s1 (h.2.2.2.1.fr f1 (fun a k q => by unfold wRoR; omega)) hw.1 he, b2_s, nI_add, e2, b1_s]
def a_earliest (s : St) (x y : Int32) : Int32 := if ixP x (zP s) = true ∧ ixP y (zE s) = true then erI s (zplan s) x.toNatClampNeg y.toNatClampNeg (-2) else -1
def n_earliest (s : St) (x y : Int32) : St := if (ixP x (zP s) = true ∧ ixP y (zE s) = true) ∧ erN s (zplan s) x.toNatClampNeg y.toNatClampNeg < 100 then zsrow s (rowOf [Int32.toInt64 (nI (erN s (zplan s) x.toNatClampNeg y.toNatClampNeg + zlen s y.toNatClampNeg))]) else s
def a_latest (s : St) (x y : Int32) : Int32 := if ixP x (zP s) = true ∧ ixP y (zE s) = true then laI s (zplan s) x.toNatClampNeg y.toNatClampNeg (-2) else -1
def n_latest (s : St) (x y : Int32) : St := if (ixP x (zP s) = true ∧ ixP y (zE s) = true) ∧ laN s (zplan s) x.toNatClampNeg y.toNatClampNeg < 100 then zsrow s (rowOf [Int32.toInt64 (nI (99 - laN s (zplan s) x.toNatClampNeg y.toNatClampNeg + zlen s y.toNatClampNeg))]) else s
theorem W_earliest {s : St} (hw : WF s) (x y : Int32) : WF (n_earliest s x y) := by
  unfold n_earliest
  split
  · exact WF_row hw (by show 1 ≤ 8; decide)
  · exact hw
theorem W_latest {s : St} (hw : WF s) (x y : Int32) : WF (n_latest s x y) := by
  unfold n_latest
  split
  · exact WF_row hw (by show 1 ≤ 8; decide)
  · exact hw
theorem C_earliest {s : St} (hw : WF s) (x y : Int32) : OpC (fun M => f_X11_earliest 0 x y M) s (a_earliest s x y) (n_earliest s x y) := by
  intro M h
  have h0 := h.1
  have hP := hw.1.1
  have hE := hw.1.2.1
  have hR2 := sh_R h0 (a := 0) (k := 2) (b := 5) 11 (by decide) rfl (by decide)
  show ∃ M', f_X11_earliest 0 x y M = _ ∧ _
  unfold f_X11_earliest f_X11_earliest_0
  rw [if_pos (sh_O h0 11 (by decide) rfl), hR2, b1_s, e_hasP hw h, b2_s]
  by_cases hc : ixP x (zP s) = true ∧ ixP y (zE s) = true
  · obtain ⟨p, hp, rfl⟩ := ix_ex (by omega) hc.1
    obtain ⟨e, he, rfl⟩ := ix_ex (by omega) hc.2
    obtain ⟨M1, e1, c1, k1, f1⟩ := c_looked hw h
    rw [if_pos hc.1, if_neg (by decide), hR2, b1_s, e_hasE hw h, b2_s, if_pos hc.2, if_neg (by decide), sh_R h0 (a := 0) (k := 5) (b := 18) 11 (by decide) rfl (by decide), b1_s, e1, b1_s, sh_R c1.1 (a := 0) (k := 8) (b := 89) 11 (by decide) rfl (by decide), b1_s, c_soon (c1.cx hw) k1 hp he, b2_s]
    unfold a_earliest n_earliest
    rw [if_pos hc, nI_clamp (by omega), nI_clamp (by omega)]
    unfold erI
    by_cases hn : erN s (zplan s) p e < 100
    · obtain ⟨M2, e2, c2, f2⟩ := c_tell hw c1 he hn
      rw [if_pos hn, if_pos hn, if_pos ⟨hc, hn⟩]
      exact ⟨M2, by rw [e2, b2_s], c2, f1.tr f2⟩
    · rw [if_neg hn, if_neg hn, if_neg (fun g => hn g.2)]
      refine ⟨M1, ?_, c1, f1⟩
      unfold f_X11_tellMinute f_X11_tellMinute_0
      rw [if_pos (sh_O c1.1 11 (by decide) rfl), if_neg (by decide), b2_s]
  · rw [show a_earliest s x y = -1 from if_neg hc, show n_earliest s x y = s from if_neg (fun g => hc g.1)]
    refine ⟨M, ?_, h, Fr.rf M⟩
    by_cases h1 : ixP x (zP s) = true
    · rw [if_pos h1, if_neg (by decide), hR2, b1_s, e_hasE hw h, b2_s, if_neg (fun g => hc ⟨h1, g⟩), if_pos rfl]
    · rw [if_neg h1, if_pos rfl]
theorem R_earliest {s : St} (hw : WF s) (x y : Int32) : OpR (fun M => f_X12_earliest 143 x y M) s (a_earliest s x y) (n_earliest s x y) := by
  intro M h
  obtain ⟨N, et, ht, ft, rt, t0, l0⟩ := r_thr0 h
  have hP := hw.1.1
  have hE := hw.1.2.1
  show ∃ M', f_X12_earliest 143 x y M = _ ∧ _
  unfold f_X12_earliest f_X12_earliest_0
  rw [if_pos (sh_O h.1 12 (by decide) rfl), et, b1_s, e_isP hw ht, b2_s]
  by_cases hc : ixP x (zP s) = true ∧ ixP y (zE s) = true
  · obtain ⟨p, hp, rfl⟩ := ix_ex (by omega) hc.1
    obtain ⟨e, he, rfl⟩ := ix_ex (by omega) hc.2
    obtain ⟨⟨r1, M1⟩, e1, er, c1, f1, q1⟩ := r_soon hw ht hp he
    have f1' : Fr rW N M1 := f1.mono (fun a k q => by unfold rW; omega)
    rw [if_pos hc.1, if_neg (by decide), e_isE hw ht, b2_s, if_pos hc.2, if_neg (by decide), e1, b2_s]
    have er' : r1 = erI s (zplan s) p e (-2) := er
    rw [er']
    unfold a_earliest n_earliest
    rw [if_pos hc, nI_clamp (by omega), nI_clamp (by omega)]
    unfold erI
    by_cases hn : erN s (zplan s) p e < 100
    · obtain ⟨M2, e2, c2, f2, q2⟩ := r_tell hw c1 he hn
      rw [if_pos hn, if_pos ⟨hc, hn⟩]
      exact ⟨M2, by rw [e2, b2_s], c2, (ft.tr f1').tr f2, q2.trans (q1.trans rt)⟩
    · rw [if_neg hn, if_neg (fun g => hn g.2)]
      refine ⟨M1, ?_, c1, ft.tr f1', q1.trans rt⟩
      unfold f_X12_tellsBack f_X12_tellsBack_0
      rw [if_pos (sh_O c1.1 12 (by decide) rfl), if_pos (by decide), b2_s]
  · rw [show a_earliest s x y = -1 from if_neg hc, show n_earliest s x y = s from if_neg (fun g => hc g.1)]
    refine ⟨N, ?_, ht, ft, rt⟩
    by_cases h1 : ixP x (zP s) = true
    · rw [if_pos h1, if_neg (by decide), e_isE hw ht, b2_s, if_neg (fun g => hc ⟨h1, g⟩), if_pos rfl]
    · rw [if_neg h1, if_pos rfl]
theorem case_25 : CaseOK g_L_25 := by
  intro L xs j K M hL hj hc
  obtain ⟨s, hw, hc, hr⟩ := hc
  obtain ⟨M1, M2, hcp, e1, e2⟩ := asm (C_earliest hw (xs (j + 1)) (xs (j + 2))) (R_earliest hw (xs (j + 1)) (xs (j + 2))) (W_earliest hw (xs (j + 1)) (xs (j + 2))) hc hr
  refine ⟨M2, hcp, ?_⟩
  unfold g_L_25
  simp only [show (nI j + 1 : Int32) = nI (j + 1) from nI_add _ 1, show (nI j + 2 : Int32) = nI (j + 2) from nI_add _ 2, show (nI j + 3 : Int32) = nI (j + 3) from nI_add _ 3, show (nI j + 4 : Int32) = nI (j + 4) from nI_add _ 4, scr_k (show j + 1 < L by omega) hL, scr_k (show j + 2 < L by omega) hL, scr_k (show j + 3 < L by omega) hL, scr_k (show j + 4 < L by omega) hL, b1_s, e1, e2, b2_s, if_true]
theorem C_latest {s : St} (hw : WF s) (x y : Int32) : OpC (fun M => f_X11_latest 0 x y M) s (a_latest s x y) (n_latest s x y) := by
  intro M h
  have h0 := h.1
  have hP := hw.1.1
  have hE := hw.1.2.1
  have hR2 := sh_R h0 (a := 0) (k := 2) (b := 5) 11 (by decide) rfl (by decide)
  show ∃ M', f_X11_latest 0 x y M = _ ∧ _
  unfold f_X11_latest f_X11_latest_0
  rw [if_pos (sh_O h0 11 (by decide) rfl), hR2, b1_s, e_hasP hw h, b2_s]
  by_cases hc : ixP x (zP s) = true ∧ ixP y (zE s) = true
  · obtain ⟨p, hp, rfl⟩ := ix_ex (by omega) hc.1
    obtain ⟨e, he, rfl⟩ := ix_ex (by omega) hc.2
    obtain ⟨M1, e1, c1, k1, f1⟩ := c_looked hw h
    rw [if_pos hc.1, if_neg (by decide), hR2, b1_s, e_hasE hw h, b2_s, if_pos hc.2, if_neg (by decide), sh_R h0 (a := 0) (k := 5) (b := 18) 11 (by decide) rfl (by decide), b1_s, e1, b1_s, sh_R c1.1 (a := 0) (k := 8) (b := 89) 11 (by decide) rfl (by decide), b1_s, c_last (c1.cx hw) k1 hp he, b2_s]
    unfold a_latest n_latest
    rw [if_pos hc, nI_clamp (by omega), nI_clamp (by omega)]
    unfold laI
    by_cases hn : laN s (zplan s) p e < 100
    · obtain ⟨M2, e2, c2, f2⟩ := c_tell hw c1 he (show 99 - laN s (zplan s) p e < 100 by omega)
      rw [if_pos hn, if_pos hn, if_pos ⟨hc, hn⟩]
      exact ⟨M2, by rw [e2, b2_s], c2, f1.tr f2⟩
    · rw [if_neg hn, if_neg hn, if_neg (fun g => hn g.2)]
      refine ⟨M1, ?_, c1, f1⟩
      unfold f_X11_tellMinute f_X11_tellMinute_0
      rw [if_pos (sh_O c1.1 11 (by decide) rfl), if_neg (by decide), b2_s]
  · rw [show a_latest s x y = -1 from if_neg hc, show n_latest s x y = s from if_neg (fun g => hc g.1)]
    refine ⟨M, ?_, h, Fr.rf M⟩
    by_cases h1 : ixP x (zP s) = true
    · rw [if_pos h1, if_neg (by decide), hR2, b1_s, e_hasE hw h, b2_s, if_neg (fun g => hc ⟨h1, g⟩), if_pos rfl]
    · rw [if_neg h1, if_pos rfl]
theorem R_latest {s : St} (hw : WF s) (x y : Int32) : OpR (fun M => f_X12_latest 143 x y M) s (a_latest s x y) (n_latest s x y) := by
  intro M h
  obtain ⟨N, et, ht, ft, rt, t0, l0⟩ := r_thr0 h
  have hP := hw.1.1
  have hE := hw.1.2.1
  show ∃ M', f_X12_latest 143 x y M = _ ∧ _
  unfold f_X12_latest f_X12_latest_0
  rw [if_pos (sh_O h.1 12 (by decide) rfl), et, b1_s, e_isP hw ht, b2_s]
  by_cases hc : ixP x (zP s) = true ∧ ixP y (zE s) = true
  · obtain ⟨p, hp, rfl⟩ := ix_ex (by omega) hc.1
    obtain ⟨e, he, rfl⟩ := ix_ex (by omega) hc.2
    obtain ⟨⟨r1, M1⟩, e1, er, c1, f1, q1⟩ := r_last hw ht hp he
    have f1' : Fr rW N M1 := f1.mono (fun a k q => by unfold rW; omega)
    rw [if_pos hc.1, if_neg (by decide), e_isE hw ht, b2_s, if_pos hc.2, if_neg (by decide), e1, b2_s]
    have er' : r1 = laI s (zplan s) p e (-2) := er
    rw [er']
    unfold a_latest n_latest
    rw [if_pos hc, nI_clamp (by omega), nI_clamp (by omega)]
    unfold laI
    by_cases hn : laN s (zplan s) p e < 100
    · obtain ⟨M2, e2, c2, f2, q2⟩ := r_tell hw c1 he (show 99 - laN s (zplan s) p e < 100 by omega)
      rw [if_pos hn, if_pos ⟨hc, hn⟩]
      exact ⟨M2, by rw [e2, b2_s], c2, (ft.tr f1').tr f2, q2.trans (q1.trans rt)⟩
    · rw [if_neg hn, if_neg (fun g => hn g.2)]
      refine ⟨M1, ?_, c1, ft.tr f1', q1.trans rt⟩
      unfold f_X12_tellsBack f_X12_tellsBack_0
      rw [if_pos (sh_O c1.1 12 (by decide) rfl), if_pos (by decide), b2_s]
  · rw [show a_latest s x y = -1 from if_neg hc, show n_latest s x y = s from if_neg (fun g => hc g.1)]
    refine ⟨N, ?_, ht, ft, rt⟩
    by_cases h1 : ixP x (zP s) = true
    · rw [if_pos h1, if_neg (by decide), e_isE hw ht, b2_s, if_neg (fun g => hc ⟨h1, g⟩), if_pos rfl]
    · rw [if_neg h1, if_pos rfl]
theorem case_26 : CaseOK g_L_26 := by
  intro L xs j K M hL hj hc
  obtain ⟨s, hw, hc, hr⟩ := hc
  obtain ⟨M1, M2, hcp, e1, e2⟩ := asm (C_latest hw (xs (j + 1)) (xs (j + 2))) (R_latest hw (xs (j + 1)) (xs (j + 2))) (W_latest hw (xs (j + 1)) (xs (j + 2))) hc hr
  refine ⟨M2, hcp, ?_⟩
  unfold g_L_26
  simp only [show (nI j + 1 : Int32) = nI (j + 1) from nI_add _ 1, show (nI j + 2 : Int32) = nI (j + 2) from nI_add _ 2, show (nI j + 3 : Int32) = nI (j + 3) from nI_add _ 3, show (nI j + 4 : Int32) = nI (j + 4) from nI_add _ 4, scr_k (show j + 1 < L by omega) hL, scr_k (show j + 2 < L by omega) hL, scr_k (show j + 3 < L by omega) hL, scr_k (show j + 4 < L by omega) hL, b1_s, e1, e2, b2_s, if_true]

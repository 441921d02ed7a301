/-! turn -/
def ltB (P : Nat) (T : Nat → Nat) (k : Nat) : Bool := decide (97 ≤ T k ∧ T k < 97 + P)
def isD (T : Nat → Nat) (p k : Nat) : Bool := decide (T k = 97 + p)
def tuJ (s : St) : Nat := fa_first (fun k => !ltB (zP s) (ztap s) k) (min (zL s) 40)
def tuK (s : St) : Prop := 0 < zL s ∧ tuJ s = min (zL s) 40 ∧ min (zL s) 40 = zL s
def dyN (T : Nat → Nat) (l p : Nat) : Nat := fb_ct (isD T p) l
def dyL (T : Nat → Nat) (l p : Nat) : Int32 := lstB (isD T p) l
def btP (T : Nat → Nat) (l k j : Nat) : Prop := dyN T l k < dyN T l j ∨ (dyN T l k = dyN T l j ∧ ¬ dyL T l j ≤ dyL T l k)
noncomputable def tnF (T : Nat → Nat) (l : Nat) : Nat → Nat := by classical exact fun k => Nat.rec 0 (fun k r => if btP T l k r then k else r) k
theorem tnF_0 (T : Nat → Nat) (l : Nat) : tnF T l 0 = 0 := rfl
theorem tnF_t {T : Nat → Nat} {l k : Nat} (h : btP T l k (tnF T l k)) : tnF T l (k + 1) = k := if_pos h
theorem tnF_f {T : Nat → Nat} {l k : Nat} (h : ¬ btP T l k (tnF T l k)) : tnF T l (k + 1) = tnF T l k := if_neg h
theorem tnF_1 (T : Nat → Nat) (l : Nat) : tnF T l 1 = 0 := by
  by_cases h : btP T l 0 (tnF T l 0)
  · exact tnF_t h
  · exact tnF_f h
theorem tnF_lt (T : Nat → Nat) (l : Nat) : ∀ k, 1 ≤ k → tnF T l k < k
  | 0, h => absurd h (by decide)
  | 1, _ => by rw [tnF_1]; decide
  | k + 2, _ => by
    have := tnF_lt T l (k + 1) (by omega)
    by_cases h : btP T l (k + 1) (tnF T l (k + 1))
    · rw [tnF_t h]; omega
    · rw [tnF_f h]; omega
def mxD (T : Nat → Nat) (l : Nat) : Nat → Nat
  | 0 => 0
  | k + 1 => max (mxD T l k) (dyN T l k)
theorem mxD_le (T : Nat → Nat) (l : Nat) : ∀ k, mxD T l k ≤ l
  | 0 => Nat.zero_le _
  | k + 1 => by have := mxD_le T l k; have := fb_ct_le (isD T k) l; show max _ (dyN T l k) ≤ l; unfold dyN; omega
noncomputable def a_turn (s : St) : Int32 := by classical exact if zP s = 0 then -100 else if tuK s then nI (tnF (ztap s) (zL s) (zP s)) else -1 - nI (tuJ s)
noncomputable def n_turn (s : St) : St := by classical exact if zP s ≠ 0 ∧ tuK s then zsrow (z0 s) (rowOf [Int32.toInt64 (nI (dyN (ztap s) (zL s) (tnF (ztap s) (zL s) (zP s)))), Int32.toInt64 (nI (mxD (ztap s) (zL s) (zP s)))]) else z0 s
theorem tu_0 {s : St} (h : zP s = 0) : a_turn s = -100 ∧ n_turn s = z0 s := ⟨if_pos h, if_neg (fun g => g.1 h)⟩
theorem tu_n {s : St} (h : zP s ≠ 0) (h2 : ¬ tuK s) : a_turn s = -1 - nI (tuJ s) ∧ n_turn s = z0 s := ⟨(if_neg h).trans (if_neg h2), if_neg (fun g => h2 g.2)⟩
theorem tu_k {s : St} (h : zP s ≠ 0) (h2 : tuK s) : a_turn s = nI (tnF (ztap s) (zL s) (zP s)) ∧ n_turn s = zsrow (z0 s) (rowOf [Int32.toInt64 (nI (dyN (ztap s) (zL s) (tnF (ztap s) (zL s) (zP s)))), Int32.toInt64 (nI (mxD (ztap s) (zL s) (zP s)))]) := ⟨(if_neg h).trans (if_pos h2), if_pos ⟨h, h2⟩⟩
theorem W_turn {s : St} (hw : WF s) : WF (n_turn s) := by
  by_cases h : zP s = 0
  · rw [(tu_0 h).2]; exact W_z0 hw
  · by_cases h2 : tuK s
    · rw [(tu_k h h2).2]; exact WF_row (W_z0 hw) (by show 2 ≤ 8; decide)
    · rw [(tu_n h h2).2]; exact W_z0 hw
theorem tuJ_le (s : St) : tuJ s ≤ min (zL s) 40 := fa_first_le _ _
theorem tuJ_y {s : St} {k : Nat} (hk : k < tuJ s) : ltB (zP s) (ztap s) k = true := by
  have := fa_first_no (fun k => !ltB (zP s) (ztap s) k) (min (zL s) 40) k hk
  cases hd : ltB (zP s) (ztap s) k with
  | true => rfl
  | false => rw [hd] at this; cases this
theorem tuJ_n {s : St} (h : tuJ s < min (zL s) 40) : ltB (zP s) (ztap s) (tuJ s) = false := by
  have := fa_first_yes (fun k => !ltB (zP s) (ztap s) k) (min (zL s) 40) h
  have g : (!ltB (zP s) (ztap s) (tuJ s)) = true := this
  cases hd : ltB (zP s) (ztap s) (tuJ s) with
  | false => rfl
  | true => rw [hd] at g; cases g
theorem c_times {s : St} {T : Nat → Nat} {n l a : Nat} {M : MM} (h : TC s T n l a M) {p : Nat} (hp : p < 8) : f_X10_times 1 (nI (97 + p)) M = some (nI (dyN T l p), M) := by
  obtain ⟨b1, b2, b3, b4⟩ := h.2.2.2.2.2
  unfold f_X10_times f_X10_times_0
  rw [if_pos (tc_O h)]
  have this : f_X10_times_4 1024 1 (nI (97 + p)) (nI (fb_ct (isD T p) 0)) (nI 0) M = some (nI (fb_ct (isD T p) l), M) := by
    refine lpv (fun f k => f_X10_times_4 f 1 (nI (97 + p)) (nI (fb_ct (isD T p) k)) (nI k) M) l _ (fun f k hk => Or.inl ?_) (fun f => ?_) 1024 0 (by omega) (by omega)
    · show f_X10_times_4 (f + 1) _ _ _ _ _ = _
      have := b4 k hk
      rw [f_X10_times_4, gI_k 3 (tc_O h), b1_s, h.2.2.1, if_neg (nI_ge hk (by omega)), sh_R h.1.1 (a := 1) (k := 0) (b := 2) 10 (by decide) rfl (by decide), b1_s, ld_2 h.1.1 (by omega), b1_s, h.2.2.2.2.1 k hk, fb_ct_succ]
      unfold f_X10_times_28 isD
      by_cases hc : T k = 97 + p
      · rw [if_pos (by rw [hc]), bn_s, bn_s, nI_1, nI_1, decide_eq_true hc]; rfl
      · rw [if_neg (by rw [nI_eq (by omega) (by omega)]; exact hc), bn_s, bn_s, nI_1, Int32.add_zero, decide_eq_false hc]; rfl
    · show f_X10_times_4 (f + 1) _ _ _ _ _ = _
      rw [f_X10_times_4, gI_k 3 (tc_O h), b1_s, h.2.2.1, if_pos (nI_le (Nat.le_refl _) (by omega))]
  have z : nI (fb_ct (isD T p) 0) = 0 := rfl
  rw [z, nI_0] at this
  exact this
theorem c_lastT {s : St} {T : Nat → Nat} {n l a : Nat} {M : MM} (h : TC s T n l a M) {p : Nat} (hp : p < 8) : f_X10_lastTime 1 (nI (97 + p)) M = some (dyL T l p, M) := by
  obtain ⟨b1, b2, b3, b4⟩ := h.2.2.2.2.2
  unfold f_X10_lastTime f_X10_lastTime_0
  rw [if_pos (tc_O h)]
  have this : f_X10_lastTime_4 1024 1 (nI (97 + p)) (lstB (isD T p) 0) (nI 0) M = some (lstB (isD T p) l, M) := by
    refine lpv (fun f k => f_X10_lastTime_4 f 1 (nI (97 + p)) (lstB (isD T p) k) (nI k) M) l _ (fun f k hk => Or.inl ?_) (fun f => ?_) 1024 0 (by omega) (by omega)
    · show f_X10_lastTime_4 (f + 1) _ _ _ _ _ = _
      have := b4 k hk
      rw [f_X10_lastTime_4, gI_k 3 (tc_O h), b1_s, h.2.2.1, if_neg (nI_ge hk (by omega)), sh_R h.1.1 (a := 1) (k := 0) (b := 2) 10 (by decide) rfl (by decide), b1_s, ld_2 h.1.1 (by omega), b1_s, h.2.2.2.2.1 k hk, lstB_s]
      unfold f_X10_lastTime_27 isD
      by_cases hc : T k = 97 + p
      · rw [if_pos (by rw [hc]), bn_s, nI_1, decide_eq_true hc, if_pos rfl]
      · rw [if_neg (by rw [nI_eq (by omega) (by omega)]; exact hc), bn_s, nI_1, decide_eq_false hc, if_neg (by decide)]
    · show f_X10_lastTime_4 (f + 1) _ _ _ _ _ = _
      rw [f_X10_lastTime_4, gI_k 3 (tc_O h), b1_s, h.2.2.1, if_pos (nI_le (Nat.le_refl _) (by omega))]
  rw [nI_0] at this
  exact this
theorem n97 (p : Nat) : (97 : Int32) + nI p = nI (97 + p) := nI_add 97 p
theorem c_days {s : St} {M : MM} (hw : WF s) (h : TC (z0 s) (ztap s) (zL s) (min (zL s) 40) 0 M) : ∃ M', f_X11_readDays 0 M = some (bI (decide (tuJ s = min (zL s) 40 ∧ min (zL s) 40 = zL s)), M') ∧ TC (z0 s) (ztap s) (zL s) (min (zL s) 40) (tuJ s) M' ∧ Fr w14 M M' ∧ mR M' = mR M := by
  have hP := hw.1.1
  have hwz := W_z0 hw
  have hJ := tuJ_le s
  obtain ⟨b1, b2, b3, b4⟩ := h.2.2.2.2.2
  obtain ⟨r, e, er, c, f, q⟩ := lpm (fun f k N => f_X11_readDays_2 f 0 (nI k) N) (fun k N => TC (z0 s) (ztap s) (zL s) (min (zL s) 40) k N ∧ Fr w14 M N ∧ mR N = mR M) (fun r => r.1 = bI (decide (tuJ s = min (zL s) 40 ∧ min (zL s) 40 = zL s)) ∧ TC (z0 s) (ztap s) (zL s) (min (zL s) 40) (tuJ s) r.2 ∧ Fr w14 M r.2 ∧ mR r.2 = mR M) (tuJ s) (fun f k N hk hi => by
    left
    have hlt := of_decide_eq_true (tuJ_y hk)
    have ix := (pk_sub_ix (T := ztap s) (l := min (zL s) 40) (a := k) (m := zP s) (c := 97) b4 (by omega) (by decide)).mpr ⟨by omega, hlt⟩
    refine ⟨sI N 1 4 (nI (k + 1)), ?_, hi.1.mv (by omega), hi.2.1.tr (frmv N _), hi.2.2⟩
    show f_X11_readDays_2 (f + 1) _ _ _ = _
    rw [f_X11_readDays_2, if_neg (show ¬ (40 : Int32) ≤ nI k from nI_ge (b := 40) (by omega) (by decide)), sh_R hi.1.1.1 (a := 0) (k := 0) (b := 1) 11 (by decide) rfl (by decide), b1_s, tc_end hi.1, b2_s, decide_eq_false (by omega), if_pos (show bI false = 0 from rfl), sh_R hi.1.1.1 (a := 0) (k := 2) (b := 5) 11 (by decide) rfl (by decide), b1_s, sh_R hi.1.1.1 (a := 0) (k := 0) (b := 1) 11 (by decide) rfl (by decide), b1_s, tc_peek hi.1, b2_s, e_hasP hwz hi.1.1, b2_s]
    have ix' : ixP (pkI (ztap s) (min (zL s) 40) k - 97) (zP (z0 s)) = true := ix
    rw [if_pos ix', if_neg (by decide), sh_R hi.1.1.1 (a := 0) (k := 0) (b := 1) 11 (by decide) rfl (by decide), b1_s, tc_skip hi.1 (by omega), b1_s, bn_s, nI_1]) (fun f N hi => by
    show ∃ r, f_X11_readDays_2 (f + 1) _ _ _ = _ ∧ _
    have r53 : tuJ s = min (zL s) 40 → f_X11_readDays_53 0 N = some (bI (decide (tuJ s = min (zL s) 40 ∧ min (zL s) 40 = zL s)), N) := by
      intro hj
      unfold f_X11_readDays_53
      rw [sh_R hi.1.1.1 (a := 0) (k := 0) (b := 1) 11 (by decide) rfl (by decide), b1_s, tc_more hi.1, b2_s]
      by_cases hmo : min (zL s) 40 < zL s
      · rw [decide_eq_true hmo, if_neg (show ¬ bI true = 0 by decide), rz0, decide_eq_false (by omega)]; rfl
      · rw [decide_eq_false hmo, if_pos (show bI false = 0 from rfl), rz1, decide_eq_true ⟨hj, by omega⟩]; rfl
    rw [f_X11_readDays_2]
    by_cases h40 : 40 ≤ tuJ s
    · have hj : tuJ s = min (zL s) 40 := by omega
      rw [if_pos (show (40 : Int32) ≤ nI (tuJ s) from nI_le (a := 40) h40 (by omega)), r53 hj]
      exact ⟨_, rfl, rfl, hi⟩
    · rw [if_neg (show ¬ (40 : Int32) ≤ nI (tuJ s) from nI_ge (b := 40) (by omega) (by decide)), sh_R hi.1.1.1 (a := 0) (k := 0) (b := 1) 11 (by decide) rfl (by decide), b1_s, tc_end hi.1, b2_s]
      by_cases hj : tuJ s = min (zL s) 40
      · rw [decide_eq_true (by omega), if_neg (show ¬ bI true = 0 by decide), r53 hj]
        exact ⟨_, rfl, rfl, hi⟩
      · have hn := tuJ_n (s := s) (by omega)
        have ix : ¬ ixP (pkI (ztap s) (min (zL s) 40) (tuJ s) - 97) (zP (z0 s)) = true := fun g => by
          have := ((pk_sub_ix (T := ztap s) (l := min (zL s) 40) (a := tuJ s) (m := zP s) (c := 97) b4 (by omega) (by decide)).mp g).2
          exact of_decide_eq_false hn this
        rw [decide_eq_false (by omega), if_pos (show bI false = 0 from rfl), sh_R hi.1.1.1 (a := 0) (k := 2) (b := 5) 11 (by decide) rfl (by decide), b1_s, sh_R hi.1.1.1 (a := 0) (k := 0) (b := 1) 11 (by decide) rfl (by decide), b1_s, tc_peek hi.1, b2_s, e_hasP hwz hi.1.1, b2_s, if_neg ix, if_pos rfl, rz0, decide_eq_false (show ¬ (tuJ s = min (zL s) 40 ∧ min (zL s) 40 = zL s) from fun g => hj g.1)]
        exact ⟨_, rfl, rfl, hi⟩) 1024 0 M (by omega) (by omega) ⟨h, Fr.rf M, rfl⟩
  refine ⟨r.2, ?_, c, f, q⟩
  unfold f_X11_readDays f_X11_readDays_0
  rw [if_pos (sh_O h.1.1 11 (by decide) rfl)]
  rw [nI_0] at e
  exact e.trans (by rw [← er])
theorem C_turn {s : St} (hw : WF s) : OpC (fun M => f_X11_turn 0 M) s (a_turn s) (n_turn s) := by
  intro M h
  have h0 := h.1
  have hP := hw.1.1
  have hL := hw.1.2.2.2.2.2.2.1
  obtain ⟨M1, e1, c1, f1, r1⟩ := c_begin' hw h (m := 40) (by decide)
  have s1 := c1.1.1
  have hJ := tuJ_le s
  show ∃ M', f_X11_turn 0 M = _ ∧ _
  unfold f_X11_turn f_X11_turn_0 f_X11_turn_39
  rw [if_pos (sh_O h0 11 (by decide) rfl), sh_R h0 (a := 0) (k := 0) (b := 1) 11 (by decide) rfl (by decide), b1_s, show (40 : Int32) = nI 40 from rfl, e1, b1_s, sh_R s1 (a := 0) (k := 2) (b := 5) 11 (by decide) rfl (by decide), b1_s, gI_k 7 (sh_O s1 9 (by decide) rfl), b1_s, c1.1.2.2.2.1.1]
  show ∃ M', (if nI (zP s) = 0 then _ else _) = _ ∧ _
  by_cases hz : zP s = 0
  · rw [hz, nI_0, if_pos rfl, (tu_0 hz).1, (tu_0 hz).2]
    exact ⟨M1, rfl, c1.1, f1⟩
  · rw [if_neg (nI_ne0 (by omega) (by omega)), sh_R s1 (a := 0) (k := 0) (b := 1) 11 (by decide) rfl (by decide), b1_s, tc_emp c1, b2_s]
    by_cases hn : zL s = 0
    · have hk : ¬ tuK s := fun g => by have := g.1; omega
      rw [decide_eq_true hn, if_neg (show ¬ bI true = 0 by decide), (tu_n hz hk).1, (tu_n hz hk).2, sh_R s1 (a := 0) (k := 0) (b := 1) 11 (by decide) rfl (by decide), b1_s, tc_ref c1, b2_s, show tuJ s = 0 by omega]
      exact ⟨M1, rfl, c1.1, f1⟩
    · obtain ⟨M2, e2, c2, f2, r2⟩ := c_days hw c1
      have s2 := c2.1.1
      rw [decide_eq_false hn, if_pos (show bI false = 0 from rfl), e2, b2_s]
      by_cases hk : tuJ s = min (zL s) 40 ∧ min (zL s) 40 = zL s
      · have hK : tuK s := ⟨by omega, hk⟩
        have R0 := sh_R s2 (a := 0) (k := 0) (b := 1) 11 (by decide) rfl (by decide)
        have c2' := c2
        rw [hk.2] at c2'
        have dle : ∀ p, dyN (ztap s) (zL s) p ≤ 80 := fun p => Nat.le_trans (fb_ct_le _ _) hL
        have mle := mxD_le (ztap s) (zL s)
        rw [decide_eq_true hk, if_neg (show ¬ bI true = 0 by decide), R0, b1_s, show (97 : Int32) = nI (97 + 0) from rfl, c_times c2' (by decide), b2_s, (tu_k hz hK).1, (tu_k hz hK).2]
        obtain ⟨M3, e3, w3, f3, r3⟩ := c_two s2 (Int32.toInt64 (nI (dyN (ztap s) (zL s) (tnF (ztap s) (zL s) (zP s))))) (Int32.toInt64 (nI (mxD (ztap s) (zL s) (zP s))))
        refine ⟨M3, ?_, c2.1.row f3 r3 w3, (f1.tr (w14_cW f2)).tr (wRow_cW f3)⟩
        have this : f_X11_turn_61 1024 0 (nI (tnF (ztap s) (zL s) 1)) (nI (mxD (ztap s) (zL s) 1)) (nI 1) M2 = some (nI (tnF (ztap s) (zL s) (zP s)), M3) := by
          refine lpi (fun f k => f_X11_turn_61 f 0 (nI (tnF (ztap s) (zL s) k)) (nI (mxD (ztap s) (zL s) k)) (nI k) M2) (fun k => 1 ≤ k) (zP s) _ (fun f k hk' hi => Or.inl ⟨?_, by omega⟩) (fun f hi => ?_) 1024 1 (by omega) (by omega) (Nat.le_refl 1)
          · show f_X11_turn_61 (f + 1) _ _ _ _ _ = _
            have tl := tnF_lt (ztap s) (zL s) k hi
            have d1 := dle k
            have d2 := dle (tnF (ztap s) (zL s) k)
            have m1 := mle k
            rw [f_X11_turn_61, sh_R s2 (a := 0) (k := 2) (b := 5) 11 (by decide) rfl (by decide), b1_s, gI_k 7 (sh_O s2 9 (by decide) rfl), b1_s, c2.1.2.2.2.1.1]
            show (if nI (zP s) ≤ nI k then _ else _) = _
            rw [if_neg (nI_ge hk' (by omega)), R0, b1_s, n97, c_times c2' (by omega), b2_s, R0, b1_s, n97, c_times c2' (by omega), b2_s, R0, b1_s, c_lastT c2' (by omega), b2_s, R0, b1_s, c_lastT c2' (by omega), b2_s]
            have k154 : ∀ y, f_X11_turn_154 (f_X11_turn_61 f) 0 (nI (mxD (ztap s) (zL s) k)) (nI k) (nI (dyN (ztap s) (zL s) k)) y M2 = f_X11_turn_61 f 0 y (nI (mxD (ztap s) (zL s) (k + 1))) (nI (k + 1)) M2 := by
              intro y
              unfold f_X11_turn_154
              rw [bn_s, bn_s, nI_1, maxI_n (by omega) (by omega)]
              rfl
            have k128 : ∀ b : Bool, (b = true ↔ ¬ dyL (ztap s) (zL s) (tnF (ztap s) (zL s) k) ≤ dyL (ztap s) (zL s) k) → f_X11_turn_128 (f_X11_turn_61 f) 0 (nI (tnF (ztap s) (zL s) k)) (nI (mxD (ztap s) (zL s) k)) (nI k) (nI (dyN (ztap s) (zL s) k)) (nI (dyN (ztap s) (zL s) (tnF (ztap s) (zL s) k))) (bI b) M2 = f_X11_turn_61 f 0 (nI (tnF (ztap s) (zL s) (k + 1))) (nI (mxD (ztap s) (zL s) (k + 1))) (nI (k + 1)) M2 := by
              intro b hb
              unfold f_X11_turn_128 f_X11_turn_149 f_X11_turn_153
              by_cases hlt : dyN (ztap s) (zL s) k < dyN (ztap s) (zL s) (tnF (ztap s) (zL s) k)
              · rw [if_pos (nI_lt hlt (by omega)), k154, tnF_t (Or.inl hlt)]
              · rw [if_neg (nI_nlt (by omega) (by omega))]
                by_cases heq : dyN (ztap s) (zL s) k = dyN (ztap s) (zL s) (tnF (ztap s) (zL s) k)
                · rw [if_pos (by rw [heq])]
                  cases b with
                  | true => rw [if_neg (show ¬ bI true = 0 by decide), k154, tnF_t (Or.inr ⟨heq, hb.mp rfl⟩)]
                  | false => rw [if_pos (show bI false = 0 from rfl), k154, tnF_f (fun g => by rcases g with g | g; exact hlt g; have := hb.mpr g.2; cases this)]
                · rw [if_neg (by rw [nI_eq (by omega) (by omega)]; exact heq), k154, tnF_f (fun g => by rcases g with g | g; exact hlt g; exact heq g.1)]
            by_cases hc : dyL (ztap s) (zL s) (tnF (ztap s) (zL s) k) ≤ dyL (ztap s) (zL s) k
            · rw [if_pos hc]
              exact k128 false ⟨(fun g => by cases g), fun g => absurd hc g⟩
            · rw [if_neg hc]
              exact k128 true ⟨fun _ => hc, fun _ => rfl⟩
          · show f_X11_turn_61 (f + 1) _ _ _ _ _ = _
            have tl := tnF_lt (ztap s) (zL s) (zP s) (by omega)
            rw [f_X11_turn_61, sh_R s2 (a := 0) (k := 2) (b := 5) 11 (by decide) rfl (by decide), b1_s, gI_k 7 (sh_O s2 9 (by decide) rfl), b1_s, c2.1.2.2.2.1.1]
            show (if nI (zP s) ≤ nI (zP s) then _ else _) = _
            rw [if_pos (nI_le (Nat.le_refl _) (by omega)), sh_R s2 (a := 0) (k := 1) (b := 3) 11 (by decide) rfl (by decide), b1_s, R0, b1_s, n97, c_times c2' (by omega), b2_s, e3, b1_s]
        have m1 : mxD (ztap s) (zL s) 1 = dyN (ztap s) (zL s) 0 := Nat.zero_max _
        rw [tnF_1, m1] at this
        exact this
      · have hK : ¬ tuK s := fun g => hk g.2
        rw [decide_eq_false hk, if_pos (show bI false = 0 from rfl), sh_R s2 (a := 0) (k := 0) (b := 1) 11 (by decide) rfl (by decide), b1_s, tc_ref c2, b2_s, (tu_n hz hK).1, (tu_n hz hK).2]
        exact ⟨M2, rfl, c2.1, f1.tr (w14_cW f2)⟩
theorem lpx {R : Type} (F : Nat → Nat → MM → Option R) (I : Nat → MM → Prop) (n : Nat) (hs : ∀ f k M, k < n → I k M → ∃ M', F (f + 1) k M = F f (k + 1) M' ∧ I (k + 1) M') : ∀ (j f k : Nat) (M : MM), k + j = n → I k M → ∃ M', F (f + j) k M = F f n M' ∧ I n M'
  | 0, f, k, M, h1, hi => by
    have : k = n := by omega
    subst this
    exact ⟨M, rfl, hi⟩
  | j + 1, f, k, M, h1, hi => by
    obtain ⟨M1, e1, i1⟩ := hs (f + j) k M (by omega) hi
    obtain ⟨M2, e2, i2⟩ := lpx F I n hs j f (k + 1) M1 (by omega) i1
    exact ⟨M2, e1.trans e2, i2⟩
theorem R_turn {s : St} (hw : WF s) : OpR (fun M => f_X12_turn 143 M) s (a_turn s) (n_turn s) := by
  intro M h
  obtain ⟨N, et, ht, ft, rt, t0, l0⟩ := r_thr0 h
  have hP := hw.1.1
  have hL := hw.1.2.2.2.2.2.2.1
  have hJ := tuJ_le s
  obtain ⟨M1, e1, c1, n1, f1, r1⟩ := r_begin' hw ht (m := 40) (by decide)
  have s1 := c1.1.1
  show ∃ M', f_X12_turn 143 M = _ ∧ _
  unfold f_X12_turn f_X12_turn_0
  rw [if_pos (sh_O h.1 12 (by decide) rfl), et, b1_s, show (40 : Int32) = nI 40 from rfl, e1, b2_s, gI_k 3 (tr_O c1), b1_s, c1.1.2.2.2.1.1]
  show ∃ M', (if nI (zP s) = 0 then _ else _) = _ ∧ _
  by_cases hz : zP s = 0
  · rw [hz, nI_0, if_pos rfl, (tu_0 hz).1, (tu_0 hz).2]
    exact ⟨M1, rfl, c1.1, ft.tr f1, r1.trans rt⟩
  · rw [if_neg (nI_ne0 (by omega) (by omega))]
    have wDy : ∀ a k, (a = 171 ∨ a = 172) → wR a k := fun a k g => by unfold wR; omega
    obtain ⟨f', M2, e2, c2, d2, l2, f2, r2⟩ := lpg (fun f k N' => f_X12_turn_24 f 143 (nI (zL s)) (nI k) N') (fun k N' => TR (z0 s) (ztap s) (zL s) (min (zL s) 40) 0 N' ∧ (∀ p, p < k → mI N' 171 p = 0) ∧ (∀ p, p < k → mI N' 172 p = -1) ∧ Fr rW M1 N' ∧ mR N' = mR M1) (zP s) (fun f k N' hk hi => by
      have hs := hi.1.1.1
      have fa : Fr (fun a j => a = 171 ∨ a = 172) N' (sI (sI N' 171 k 0) 172 k (-1)) := ((Fr.rf N').sI (Or.inl rfl)).sI (Or.inr rfl)
      refine ⟨sI (sI N' 171 k 0) 172 k (-1), ?_, hi.1.fr' fa rfl wDy (fun a k g => by omega), fun p hp => ?_, fun p hp => ?_, hi.2.2.2.1.tr (fa.mono (fun a k g => by unfold rW; omega)), hi.2.2.2.2⟩
      · show f_X12_turn_24 (f + 1) _ _ _ _ = _
        have s' : Sh (sI N' 171 k 0) := hs
        rw [f_X12_turn_24, gI_k 3 (tr_O hi.1), b1_s, hi.1.1.2.2.2.1.1]
        show (if nI (zP s) ≤ nI k then _ else _) = _
        rw [if_neg (nI_ge hk (by omega)), sh_R hs (a := 143) (k := 45) (b := 171) 12 (by decide) rfl (by decide), b1_s, st_171 hs _ (by omega), b1_s, sh_R s' (a := 143) (k := 46) (b := 172) 12 (by decide) rfl (by decide), b1_s, st_172 s' _ (by omega), b1_s, bn_s, nI_1]
      · rw [mI_w, if_neg (by omega), mI_w]
        by_cases hpk : p = k
        · rw [if_pos ⟨rfl, hpk⟩]
        · rw [if_neg (fun q => hpk q.2)]; exact hi.2.1 p (by omega)
      · rw [mI_w]
        by_cases hpk : p = k
        · rw [if_pos ⟨rfl, hpk⟩]
        · rw [if_neg (fun q => hpk q.2), mI_w, if_neg (by omega)]; exact hi.2.2.1 p (by omega)) 1024 0 M1 (by omega) (by omega) ⟨c1, fun p hp => absurd hp (Nat.not_lt_zero p), fun p hp => absurd hp (Nat.not_lt_zero p), Fr.rf M1, rfl⟩
    have e2' : f_X12_turn_24 1024 143 (nI (zL s)) 0 M1 = f_X12_turn_56 1024 143 (nI (zL s)) 0 1 M2 := by
      have : f_X12_turn_24 1024 143 (nI (zL s)) (nI 0) M1 = f_X12_turn_24 (f' + 1) 143 (nI (zL s)) (nI (zP s)) M2 := e2
      rw [nI_0] at this
      rw [this, f_X12_turn_24, gI_k 3 (tr_O c2), b1_s, c2.1.2.2.2.1.1]
      show (if nI (zP s) ≤ nI (zP s) then _ else _) = _
      rw [if_pos (nI_le (Nat.le_refl _) (by omega))]
    rw [e2']
    obtain ⟨M3, e3, c3, d3, l3, f3, r3⟩ := lpx (fun f k N' => f_X12_turn_56 f 143 (nI (zL s)) (nI k) 1 N') (fun k N' => TR (z0 s) (ztap s) (zL s) (min (zL s) 40) k N' ∧ (∀ p, p < zP s → mI N' 171 p = nI (fb_ct (isD (ztap s) p) k)) ∧ (∀ p, p < zP s → mI N' 172 p = lstB (isD (ztap s) p) k) ∧ Fr rW M1 N' ∧ mR N' = mR M1) (tuJ s) (fun f k N' hk hi => by
      have hs := hi.1.1.1
      have hlt := of_decide_eq_true (tuJ_y hk)
      obtain ⟨N1, g1, k1, j1, o1⟩ := tr_let hi.1 (m := zP s) (by omega)
      have hlo : ltO (ztap s) (min (zL s) 40) k (zP s) = some (ztap s k - 97) := if_pos ⟨by omega, hlt⟩
      rw [hlo] at g1 k1
      have k1' : TR (z0 s) (ztap s) (zL s) (min (zL s) 40) (k + 1) N1 := k1
      have t1 := k1.1.1
      have hct : ∀ p, fb_ct (isD (ztap s) p) k ≤ k := fun p => fb_ct_le _ _
      have v171 : mI N1 171 (ztap s k - 97) = nI (fb_ct (isD (ztap s) (ztap s k - 97)) k) := by rw [j1.2.2.1 171 _ (by unfold w19; omega)]; exact hi.2.1 _ (by omega)
      have fa : Fr (fun a j => a = 171 ∨ a = 172) N1 (sI (sI N1 171 (ztap s k - 97) (nI (fb_ct (isD (ztap s) (ztap s k - 97)) k + 1))) 172 (ztap s k - 97) (nI k)) := ((Fr.rf N1).sI (Or.inl rfl)).sI (Or.inr rfl)
      refine ⟨sI (sI N1 171 (ztap s k - 97) (nI (fb_ct (isD (ztap s) (ztap s k - 97)) k + 1))) 172 (ztap s k - 97) (nI k), ?_, k1'.fr' fa rfl wDy (fun a k g => by omega), fun p hp => ?_, fun p hp => ?_, (hi.2.2.2.1.tr (w19_rW j1)).tr (fa.mono (fun a k g => by unfold rW; omega)), o1.trans hi.2.2.2.2⟩
      · show f_X12_turn_56 (f + 1) _ _ _ _ _ = _
        have t1' : Sh (sI N1 171 (ztap s k - 97) (nI (fb_ct (isD (ztap s) (ztap s k - 97)) k + 1))) := t1
        rw [f_X12_turn_56, if_neg (by decide), gI_k 3 (tr_O hi.1), b1_s, hi.1.1.2.2.2.1.1]
        show b2 (f_X12_letter 143 (nI (zP s)) N') _ = _
        rw [g1, b2_s]
        show (if nI (ztap s k - 97) < 0 then _ else _) = _
        rw [if_neg (nI_pos (by omega))]
        unfold f_X12_turn_80 f_X12_turn_107
        rw [if_neg (by decide), sh_R t1 (a := 143) (k := 45) (b := 171) 12 (by decide) rfl (by decide), b1_s]
        show b1 (ldI 171 (nI (ztap s k - 97)) N1) (fun v2 => b1 (stI 171 (nI (ztap s k - 97)) (v2 + 1) N1) _) = _
        rw [ld_171 t1 (by omega), b1_s, v171, nI_1, st_171 t1 _ (by omega), b1_s, sh_R t1' (a := 143) (k := 46) (b := 172) 12 (by decide) rfl (by decide), b1_s]
        show b1 (stI 172 (nI (ztap s k - 97)) (nI k) _) _ = _
        rw [st_172 t1' _ (by omega), b1_s, bn_s, nI_1]
      · rw [mI_w, if_neg (by omega), mI_w, fb_ct_succ]
        by_cases hpk : p = ztap s k - 97
        · rw [if_pos ⟨rfl, hpk⟩, ← hpk, show isD (ztap s) p k = true from decide_eq_true (by omega)]; rfl
        · rw [if_neg (fun q => hpk q.2), show isD (ztap s) p k = false from decide_eq_false (by omega), j1.2.2.1 171 p (by unfold w19; omega)]; exact hi.2.1 p hp
      · rw [mI_w, lstB_s]
        by_cases hpk : p = ztap s k - 97
        · rw [if_pos ⟨rfl, hpk⟩, show isD (ztap s) p k = true from decide_eq_true (by omega), if_pos rfl]
        · rw [if_neg (fun q => hpk q.2), mI_w, if_neg (by omega), show isD (ztap s) p k = false from decide_eq_false (by omega), if_neg (by decide), j1.2.2.1 172 p (by unfold w19; omega)]; exact hi.2.2.1 p hp) (tuJ s) (1022 - tuJ s + 2) 0 M2 (by omega) ⟨c2, (fun p hp => by rw [d2 p hp]; rfl), (fun p hp => by rw [l2 p hp]; rfl), f2, r2⟩
    have hc3 := c3
    have s3 := c3.1.1
    have fr3 : Fr rW M M3 := (ft.tr f1).tr f3
    have rr3 := r3.trans (r1.trans rt)
    have e3' : f_X12_turn_56 1024 143 (nI (zL s)) 0 1 M2 = f_X12_turn_56 (1022 - tuJ s + 2) 143 (nI (zL s)) (nI (tuJ s)) 1 M3 := by
      have : f_X12_turn_56 (1022 - tuJ s + 2 + tuJ s) 143 (nI (zL s)) (nI 0) 1 M2 = f_X12_turn_56 (1022 - tuJ s + 2) 143 (nI (zL s)) (nI (tuJ s)) 1 M3 := e3
      rw [nI_0, show 1022 - tuJ s + 2 + tuJ s = 1024 by omega] at this
      exact this
    rw [e3']
    have hno : ltO (ztap s) (min (zL s) 40) (tuJ s) (zP s) = none := if_neg (fun g => by
      have := tuJ_n (s := s) g.1
      exact of_decide_eq_false this g.2)
    obtain ⟨N4, g4, k4, j4, o4⟩ := tr_let c3 (m := zP s) (by omega)
    rw [hno] at g4 k4
    have k4' : TR (z0 s) (ztap s) (zL s) (min (zL s) 40) (tuJ s) N4 := k4
    have s4 := k4.1.1
    have stp : f_X12_turn_56 (1022 - tuJ s + 2) 143 (nI (zL s)) (nI (tuJ s)) 1 M3 = f_X12_turn_56 (1022 - tuJ s + 1) 143 (nI (zL s)) (nI (tuJ s)) 0 N4 := by
      rw [f_X12_turn_56, if_neg (by decide), gI_k 3 (tr_O c3), b1_s, c3.1.2.2.2.1.1]
      show b2 (f_X12_letter 143 (nI (zP s)) M3) _ = _
      rw [g4, b2_s]
      show (if (-1 : Int32) < 0 then _ else _) = _
      unfold f_X12_turn_80 f_X12_turn_107
      rw [if_pos (by decide), if_pos rfl]
    have stp2 : f_X12_turn_56 (1022 - tuJ s + 1) 143 (nI (zL s)) (nI (tuJ s)) 0 N4 = f_X12_turn_123 143 (bI (decide (0 < tuJ s))) (nI 40) (nI (zL s)) 143 N4 := by
      rw [f_X12_turn_56, if_pos rfl]
      by_cases h0 : 0 < tuJ s
      · rw [if_neg (nI_nle h0 (by omega)), decide_eq_true h0]; rfl
      · rw [show tuJ s = 0 by omega, if_pos (by decide)]; rfl
    rw [stp, stp2]
    unfold f_X12_turn_123
    rw [r_fault k4' (m := 40) (by decide) rfl, b2_s]
    have fr4 := fr3.tr (w19_rW j4)
    have rr4 := o4.trans rr3
    by_cases hK : tuK s
    · have hk := hK.2
      have h0 := hK.1
      rw [if_pos (c := decide (0 < tuJ s) = true ∧ tuJ s = min (zL s) 40 ∧ min (zL s) 40 = zL s) ⟨decide_eq_true (by omega), hk⟩, if_pos (show (0 : Int32) ≤ 0 by decide), (tu_k hz hK).1, (tu_k hz hK).2]
      have dd : ∀ p, p < zP s → mI N4 171 p = nI (dyN (ztap s) (zL s) p) := fun p hp => by rw [j4.2.2.1 171 p (by unfold w19; omega), d3 p hp]; unfold dyN; rw [hk.1, hk.2]
      have ll : ∀ p, p < zP s → mI N4 172 p = dyL (ztap s) (zL s) p := fun p hp => by rw [j4.2.2.1 172 p (by unfold w19; omega), l3 p hp]; unfold dyL; rw [hk.1, hk.2]
      have dle : ∀ p, dyN (ztap s) (zL s) p ≤ 80 := fun p => Nat.le_trans (fb_ct_le _ _) hL
      have mle := mxD_le (ztap s) (zL s)
      obtain ⟨M5, e5, w5, f5, r5⟩ := r_clr s4
      have s5 := f5.sh' r5 s4
      obtain ⟨M6, e6, w6, f6, r6⟩ := r_ent s5 w5 (by decide) (Int32.toInt64 (nI (dyN (ztap s) (zL s) (tnF (ztap s) (zL s) (zP s)))))
      have s6 := f6.sh' r6 s5
      obtain ⟨M7, e7, w7, f7, r7⟩ := r_ent s6 w6 (by simp) (Int32.toInt64 (nI (mxD (ztap s) (zL s) (zP s))))
      have f57 := (f5.tr f6).tr f7
      have r57 := r7.trans (r6.trans r5)
      refine ⟨M7, ?_, k4.1.row f57 r57 w7, fr4.tr (wRoR_rW f57), r57.trans rr4⟩
      have tlt : ∀ k, k < zP s → tnF (ztap s) (zL s) k < zP s := fun k hk' => by
        by_cases h1 : 1 ≤ k
        · have := tnF_lt (ztap s) (zL s) k h1; omega
        · rw [show k = 0 by omega, tnF_0]; omega
      have R45 := sh_R s4 (a := 143) (k := 45) (b := 171) 12 (by decide) rfl (by decide)
      have R46 := sh_R s4 (a := 143) (k := 46) (b := 172) 12 (by decide) rfl (by decide)
      have l171 : ∀ p, p < zP s → ldI 171 (nI p) N4 = some (nI (dyN (ztap s) (zL s) p)) := fun p hp => by rw [ld_171 s4 (by omega), dd p hp]
      have l172 : ∀ p, p < zP s → ldI 172 (nI p) N4 = some (dyL (ztap s) (zL s) p) := fun p hp => by rw [ld_172 s4 (by omega), ll p hp]
      have this : f_X12_turn_145 1024 143 (nI (tnF (ztap s) (zL s) 0)) (nI (mxD (ztap s) (zL s) 0)) (nI 0) N4 = some (nI (tnF (ztap s) (zL s) (zP s)), M7) := by
        refine lpv (fun f k => f_X12_turn_145 f 143 (nI (tnF (ztap s) (zL s) k)) (nI (mxD (ztap s) (zL s) k)) (nI k) N4) (zP s) _ (fun f k hk' => Or.inl ?_) (fun f => ?_) 1024 0 (by omega) (by omega)
        · show f_X12_turn_145 (f + 1) _ _ _ _ _ = _
          have tl := tlt k hk'
          have d1 := dle k
          have d2 := dle (tnF (ztap s) (zL s) k)
          have m1 := mle k
          rw [f_X12_turn_145, gI_k 3 (tr_O k4'), b1_s, k4.1.2.2.2.1.1]
          show (if nI (zP s) ≤ nI k then _ else _) = _
          rw [if_neg (nI_ge hk' (by omega)), R45, b1_s, l171 k hk', b1_s, b1_s, l171 _ tl, b1_s]
          have k212 : ∀ y, f_X12_turn_212 (f_X12_turn_145 f) 143 (nI (mxD (ztap s) (zL s) k)) (nI k) y N4 = f_X12_turn_145 f 143 y (nI (mxD (ztap s) (zL s) (k + 1))) (nI (k + 1)) N4 := by
            intro y
            unfold f_X12_turn_212
            rw [R45, b1_s, l171 k hk', b1_s, bn_s, bn_s, nI_1, maxI_n (by omega) (by omega)]
            rfl
          unfold f_X12_turn_205 f_X12_turn_210
          by_cases hlt : dyN (ztap s) (zL s) k < dyN (ztap s) (zL s) (tnF (ztap s) (zL s) k)
          · rw [if_pos (nI_lt hlt (by omega)), k212, tnF_t (Or.inl hlt)]
          · rw [if_neg (nI_nlt (by omega) (by omega)), b1_s, l171 k hk', b1_s, b1_s, l171 _ tl, b1_s]
            by_cases heq : dyN (ztap s) (zL s) k = dyN (ztap s) (zL s) (tnF (ztap s) (zL s) k)
            · rw [if_pos (by rw [heq]), R46, b1_s, l172 k hk', b1_s, b1_s, l172 _ tl, b1_s]
              by_cases hc : dyL (ztap s) (zL s) (tnF (ztap s) (zL s) k) ≤ dyL (ztap s) (zL s) k
              · rw [if_pos hc, k212, tnF_f (fun g => by rcases g with g | g; exact hlt g; exact g.2 hc)]
              · rw [if_neg hc, k212, tnF_t (Or.inr ⟨heq, hc⟩)]
            · rw [if_neg (by rw [nI_eq (by omega) (by omega)]; exact heq), k212, tnF_f (fun g => by rcases g with g | g; exact hlt g; exact heq g.1)]
        · show f_X12_turn_145 (f + 1) _ _ _ _ _ = _
          have tl := tnF_lt (ztap s) (zL s) (zP s) (by omega)
          rw [f_X12_turn_145, gI_k 3 (tr_O k4'), b1_s, k4.1.2.2.2.1.1]
          show (if nI (zP s) ≤ nI (zP s) then _ else _) = _
          have l171' : ldI 171 (nI (tnF (ztap s) (zL s) (zP s))) M5 = some (nI (dyN (ztap s) (zL s) (tnF (ztap s) (zL s) (zP s)))) := by rw [ld_171 s5 (by omega), f5.2.2.1 171 _ (by unfold wRoR; omega), dd _ tl]
          rw [if_pos (nI_le (Nat.le_refl _) (by omega)), e5, b1_s, sh_R s5 (a := 143) (k := 45) (b := 171) 12 (by decide) rfl (by decide), b1_s, l171', b1_s, e6, b1_s, e7, b1_s]
      rw [tnF_0, show mxD (ztap s) (zL s) 0 = 0 from rfl, nI_0] at this
      exact this
    · rw [if_neg (c := decide (0 < tuJ s) = true ∧ tuJ s = min (zL s) 40 ∧ min (zL s) 40 = zL s) (fun g => hK ⟨by have := of_decide_eq_true g.1; omega, g.2⟩), (tu_n hz hK).1, (tu_n hz hK).2, if_neg]
      · exact ⟨N4, rfl, k4.1, fr4, rr4⟩
      · rw [fa_le, fb_subI (by rw [nI_toInt (by omega), show (-1 : Int32).toInt = -1 from by decide]; omega) (by rw [nI_toInt (by omega), show (-1 : Int32).toInt = -1 from by decide]; omega), nI_toInt (by omega), show (-1 : Int32).toInt = -1 from by decide, show (0 : Int32).toInt = 0 from by decide]
        omega
theorem case_32 : CaseOK g_L_32 := by
  intro L xs j K M hL hj hc
  obtain ⟨s, hw, hc, hr⟩ := hc
  obtain ⟨M1, M2, hcp, e1, e2⟩ := asm (C_turn hw) (R_turn hw) (W_turn hw) hc hr
  refine ⟨M2, hcp, ?_⟩
  unfold g_L_32
  simp only [show (nI j + 1 : Int32) = nI (j + 1) from nI_add _ 1, show (nI j + 2 : Int32) = nI (j + 2) from nI_add _ 2, show (nI j + 3 : Int32) = nI (j + 3) from nI_add _ 3, show (nI j + 4 : Int32) = nI (j + 4) from nI_add _ 4, scr_k (show j + 1 < L by omega) hL, scr_k (show j + 2 < L by omega) hL, scr_k (show j + 3 < L by omega) hL, scr_k (show j + 4 < L by omega) hL, b1_s, e1, e2, b2_s, if_true]

/-! stayed, since -/
def adf (a b : Nat) : Nat := if a < b then b - a else a - b
theorem abs_n {a b : Nat} (ha : a < 1000) (hb : b < 1000) : absI (nI a - nI b) = nI (adf a b) := by
  have t : (nI a - nI b).toInt = (a : Int) - b := by rw [fb_subI (by rw [nI_toInt (by omega), nI_toInt (by omega)]; omega) (by rw [nI_toInt (by omega), nI_toInt (by omega)]; omega), nI_toInt (by omega), nI_toInt (by omega)]
  unfold absI adf
  by_cases h : a < b
  · rw [if_neg (by rw [fa_le, t, show (0 : Int32).toInt = 0 from by decide]; omega), if_pos h, fa_eq, fb_subI (by rw [t, show (0 : Int32).toInt = 0 from by decide]; omega) (by rw [t, show (0 : Int32).toInt = 0 from by decide]; omega), t, nI_toInt (by omega), show (0 : Int32).toInt = 0 from by decide]
    omega
  · rw [if_pos (by rw [fa_le, t, show (0 : Int32).toInt = 0 from by decide]; omega), if_neg h, pk_sub (by omega)]
def nrB (s : St) (m k : Nat) : Bool := decide (adf (zsm s k) m ≤ zway s (zse s k))
def stP (s : St) (m p k : Nat) : Bool := decide (zsw s k = p) && nrB s m k
def stB (s : St) (m n p : Nat) : Bool := anyB (stP s m p) n
def a_stayed (s : St) (x : Int32) : Int32 := if ixP x 100 = true then orB (fun p => !stB s x.toNatClampNeg (zS s) p) (zP s) else -1
def n_stayed (s : St) (x : Int32) : St := s
theorem W_stayed {s : St} (hw : WF s) (x : Int32) : WF (n_stayed s x) := hw
theorem ix99 {v : Int32} : (¬ v < 0 ∧ v ≤ 99) ↔ ixP v 100 = true := by
  rw [ix_t, fa_lt, fa_lt, fa_le, nI_toInt (by decide), show (99 : Int32).toInt = 99 from by decide, show (0 : Int32).toInt = 0 from by decide]
  omega
theorem adf_b {a b : Nat} (ha : a < 1000) (hb : b < 1000) : adf a b < 1000 := by unfold adf; split <;> omega
theorem c_ab {s : St} {M : MM} (hw : WF s) (h : RC s M) {p m : Nat} (hp : p < zP s) (hm : m < 100) : f_X8_allowBench 133 (nI p) (nI m) M = some (bI (!stB s m (zS s) p), M) := by
  have h0 := h.1
  have hP := hw.1.1
  have hS := hw.1.2.2.2.2.2.1
  unfold f_X8_allowBench f_X8_allowBench_0
  rw [if_pos (sh_O h0 8 (by decide) rfl), ← nI_0]
  refine lpi (fun f k => f_X8_allowBench_2 f 133 (nI p) (nI m) (nI k) M) (fun k => anyB (stP s m p) k = false) (zS s) _ (fun f k hk hi => ?_) (fun f hi => ?_) 1024 0 (by omega) (by omega) rfl
  · show (f_X8_allowBench_2 (f + 1) _ _ _ _ _ = _ ∧ _) ∨ f_X8_allowBench_2 (f + 1) _ _ _ _ _ = _
    have hs := hw.2.2.2.1 k hk
    have hB := hw.2.1.2.1 _ hs.2.1
    have l := lc_sw hw h hk
    have ab := adf_b (a := zsm s k) (b := m) (by omega) (by omega)
    rw [f_X8_allowBench_2, gI_k 4 (sh_O h0 8 (by decide) rfl), b1_s, h.2.2.2.2.2.2.2.2.1, if_neg (nI_ge hk (by omega)), sh_R h0 (a := 133) (k := 1) (b := 134) 8 (by decide) rfl (by decide), b1_s, l.1, b1_s, anyB, hi, Bool.false_or]
    unfold f_X8_allowBench_50
    by_cases h1 : zsw s k = p
    · rw [if_pos (by rw [h1]), sh_R h0 (a := 133) (k := 3) (b := 136) 8 (by decide) rfl (by decide), b1_s, l.2.2, b1_s, sh_R h0 (a := 133) (k := 0) (b := 5) 8 (by decide) rfl (by decide), b1_s, sh_R h0 (a := 5) (k := 1) (b := 7) 9 (by decide) rfl (by decide), b1_s, sh_R h0 (a := 133) (k := 2) (b := 135) 8 (by decide) rfl (by decide), b1_s, l.2.1, b1_s, lc_way h0 h.2.2.2.1 hw.1 hs.2.1, b1_s, abs_n (by omega) (by omega)]
      by_cases h2 : zway s (zse s k) < adf (zsm s k) m
      · left
        rw [if_pos (nI_lt h2 (by omega)), bn_s, nI_1]
        refine ⟨rfl, ?_⟩
        unfold stP nrB
        rw [decide_eq_false (show ¬ adf (zsm s k) m ≤ zway s (zse s k) by omega), Bool.and_false]
      · right
        rw [if_neg (nI_nlt (by omega) (by omega)), rz0]
        have : stB s m (zS s) p = true := anyB_t (k := k) (by unfold stP nrB; rw [decide_eq_true h1, decide_eq_true (show adf (zsm s k) m ≤ zway s (zse s k) by omega)]; rfl) hk
        rw [this]; rfl
    · left
      rw [if_neg (by rw [nI_eq (by omega) (by omega)]; exact h1), bn_s, nI_1]
      refine ⟨rfl, ?_⟩
      unfold stP
      rw [decide_eq_false h1, Bool.false_and]
  · show f_X8_allowBench_2 (f + 1) _ _ _ _ _ = _
    rw [f_X8_allowBench_2, gI_k 4 (sh_O h0 8 (by decide) rfl), b1_s, h.2.2.2.2.2.2.2.2.1, if_pos (nI_le (Nat.le_refl _) (by omega)), rz1]
    have : stB s m (zS s) p = false := hi
    rw [this]; rfl
theorem C_stayed {s : St} (hw : WF s) (x : Int32) : OpC (fun M => f_X11_stayed 0 x M) s (a_stayed s x) (n_stayed s x) := by
  intro M h
  have h0 := h.1
  have hP := hw.1.1
  refine ⟨M, ?_, h, Fr.rf M⟩
  show f_X11_stayed 0 x M = _
  unfold f_X11_stayed f_X11_stayed_0
  rw [if_pos (sh_O h0 11 (by decide) rfl)]
  by_cases hc : ixP x 100 = true
  · obtain ⟨m, hm, rfl⟩ := ix_ex (by decide) hc
    rw [if_neg (ix99.mpr hc).1, if_pos (ix99.mpr hc).2, show a_stayed s (nI m) = orB (fun p => !stB s m (zS s) p) (zP s) by unfold a_stayed; rw [if_pos hc, nI_clamp (by omega)]]
    have this : f_X11_stayed_16 1024 0 (nI m) (orB (fun p => !stB s m (zS s) p) 0) (nI 0) M = some (orB (fun p => !stB s m (zS s) p) (zP s), M) := by
      refine lpv (fun f k => f_X11_stayed_16 f 0 (nI m) (orB (fun p => !stB s m (zS s) p) k) (nI k) M) (zP s) _ (fun f k hk => Or.inl ?_) (fun f => ?_) 1024 0 (by omega) (by omega)
      · show f_X11_stayed_16 (f + 1) _ _ _ _ _ = _
        rw [f_X11_stayed_16, sh_R h0 (a := 0) (k := 2) (b := 5) 11 (by decide) rfl (by decide), b1_s, gI_k 7 (sh_O h0 9 (by decide) rfl), b1_s, h.2.2.2.1.1, if_neg (nI_ge hk (by omega)), sh_R h0 (a := 0) (k := 10) (b := 133) 11 (by decide) rfl (by decide), b1_s, c_ab hw h hk hm, b2_s, orB_s]
        unfold f_X11_stayed_47
        cases stB s m (zS s) k with
        | true => rw [if_pos (show bI (!true) = 0 from rfl), bn_s, bn_s, nI_1, if_neg (by decide)]
        | false => rw [if_neg (show ¬ bI (!false) = 0 by decide), bn_s, bn_s, nI_1, if_pos (show (!false) = true from rfl)]
      · show f_X11_stayed_16 (f + 1) _ _ _ _ _ = _
        rw [f_X11_stayed_16, sh_R h0 (a := 0) (k := 2) (b := 5) 11 (by decide) rfl (by decide), b1_s, gI_k 7 (sh_O h0 9 (by decide) rfl), b1_s, h.2.2.2.1.1, if_pos (nI_le (Nat.le_refl _) (by omega))]
    rw [nI_0] at this
    exact this
  · rw [show a_stayed s x = -1 from if_neg hc]
    by_cases h1 : x < 0
    · rw [if_pos h1]
    · rw [if_neg h1, if_neg (fun q => hc (ix99.mp ⟨h1, q⟩))]
def syR (s : St) (m : Nat) : Nat → Int32
  | 0 => (1 : Int32) <<< (nI (zP s) &&& 31) - 1
  | k + 1 => syR s m k &&& (if nrB s m k = true then ((1 : Int32) <<< (nI (zsw s k) &&& 31)) ^^^ (-1) else -1)
theorem syR_s (s : St) (m k : Nat) : syR s m (k + 1) = syR s m k &&& (if nrB s m k = true then ((1 : Int32) <<< (nI (zsw s k) &&& 31)) ^^^ (-1) else -1) := rfl
theorem syR_bt {s : St} (hP : zP s ≤ 6) (m : Nat) : ∀ k, (∀ j, j < k → zsw s j < 8) → ∀ i, i < 32 → bt (syR s m k) i = (decide (i < zP s) && !stB s m k i)
  | 0, _, i, hi => by
    rw [syR, msk_bt _ (by omega) i hi]
    show _ = (_ && true)
    rw [Bool.and_true]
  | k + 1, hk, i, hi => by
    rw [syR_s, b_and, syR_bt hP m k (fun j hj => hk j (by omega)) i hi]
    unfold stB
    rw [anyB, Bool.not_or, ← Bool.and_assoc]
    congr 1
    unfold stP
    cases nrB s m k with
    | true =>
      rw [if_pos rfl, not_bt _ hi, one_bt (by have := hk k (by omega); omega) hi, Bool.and_true]
      congr 1
      rw [decide_eq_decide]; omega
    | false => rw [if_neg (by decide), b_m1 i hi, Bool.and_false]; rfl
theorem R_stayed {s : St} (hw : WF s) (x : Int32) : OpR (fun M => f_X12_stayed 143 x M) s (a_stayed s x) (n_stayed s x) := by
  intro M h
  obtain ⟨N, et, ht, ft, rt, t0, l0⟩ := r_thr0 h
  have h0 := ht.1
  have hP := hw.1.1
  have hS := hw.1.2.2.2.2.2.1
  have hO := sh_O h0 (a := 143) 12 (by decide) rfl
  refine ⟨N, ?_, ht, ft, rt⟩
  show f_X12_stayed 143 x M = _
  unfold f_X12_stayed f_X12_stayed_0
  rw [if_pos (sh_O h.1 12 (by decide) rfl), et, b1_s, e_in99, b2_s]
  by_cases hc : ixP x 100 = true
  · obtain ⟨m, hm, rfl⟩ := ix_ex (by decide) hc
    rw [if_pos hc, if_neg (by decide), gI_k 3 hO, b1_s, ht.2.2.2.1.1, bn_s, show a_stayed s (nI m) = orB (fun p => !stB s m (zS s) p) (zP s) by unfold a_stayed; rw [if_pos hc, nI_clamp (by omega)]]
    have this : f_X12_stayed_30 1024 143 (nI m) (syR s m 0) (nI 0) N = some (syR s m (zS s), N) := by
      refine lpv (fun f k => f_X12_stayed_30 f 143 (nI m) (syR s m k) (nI k) N) (zS s) _ (fun f k hk => Or.inl ?_) (fun f => ?_) 1024 0 (by omega) (by omega)
      · show f_X12_stayed_30 (f + 1) _ _ _ _ _ = _
        have hs := hw.2.2.2.1 k hk
        have hB := hw.2.1.2.1 _ hs.2.1
        have l := lr_sw hw ht hk
        have ab := adf_b (a := zsm s k) (b := m) (by omega) (by omega)
        rw [f_X12_stayed_30, gI_k 51 hO, b1_s, ht.2.2.2.2.2.2.2.2.1, if_neg (nI_ge hk (by omega)), sh_R h0 (a := 143) (k := 54) (b := 178) 12 (by decide) rfl (by decide), b1_s, l.2.2, b1_s, sh_R h0 (a := 143) (k := 9) (b := 147) 12 (by decide) rfl (by decide), b1_s, sh_R h0 (a := 143) (k := 53) (b := 177) 12 (by decide) rfl (by decide), b1_s, l.2.1, b1_s, lr_way h0 ht.2.2.2.1 hw.1 hs.2.1, b1_s, abs_n (by omega) (by omega), syR_s]
        unfold f_X12_stayed_78 nrB
        by_cases h2 : zway s (zse s k) < adf (zsm s k) m
        · rw [if_pos (nI_lt h2 (by omega)), bn_s, bn_s, nI_1, decide_eq_false (show ¬ adf (zsm s k) m ≤ zway s (zse s k) by omega), if_neg (by decide)]
        · rw [if_neg (nI_nlt (by omega) (by omega)), sh_R h0 (a := 143) (k := 52) (b := 176) 12 (by decide) rfl (by decide), b1_s, l.1, b1_s, bn_s, bn_s, nI_1, decide_eq_true (show adf (zsm s k) m ≤ zway s (zse s k) by omega), if_pos rfl]
      · show f_X12_stayed_30 (f + 1) _ _ _ _ _ = _
        rw [f_X12_stayed_30, gI_k 51 hO, b1_s, ht.2.2.2.2.2.2.2.2.1, if_pos (nI_le (Nat.le_refl _) (by omega))]
    have e : syR s m (zS s) = orB (fun p => !stB s m (zS s) p) (zP s) := orB_e (by omega) (fun i hi => by rw [syR_bt hP m (zS s) (fun j hj => by have := (hw.2.2.2.1 j hj).1; omega) i hi])
    rw [nI_0, e] at this
    exact this
  · rw [show a_stayed s x = -1 from if_neg hc, if_neg hc, if_pos rfl]
theorem case_42 : CaseOK g_L_42 := by
  intro L xs j K M hL hj hc
  obtain ⟨s, hw, hc, hr⟩ := hc
  obtain ⟨M1, M2, hcp, e1, e2⟩ := asm (C_stayed hw (xs (j + 1))) (R_stayed hw (xs (j + 1))) (W_stayed hw (xs (j + 1))) hc hr
  refine ⟨M2, hcp, ?_⟩
  unfold g_L_42
  simp only [show (nI j + 1 : Int32) = nI (j + 1) from nI_add _ 1, show (nI j + 2 : Int32) = nI (j + 2) from nI_add _ 2, show (nI j + 3 : Int32) = nI (j + 3) from nI_add _ 3, show (nI j + 4 : Int32) = nI (j + 4) from nI_add _ 4, scr_k (show j + 1 < L by omega) hL, scr_k (show j + 2 < L by omega) hL, scr_k (show j + 3 < L by omega) hL, scr_k (show j + 4 < L by omega) hL, b1_s, e1, e2, b2_s, if_true]
/-! since -/
def bdB (s : St) (p e m k : Nat) : Bool := decide (zsw s k = p) && (if zse s k = e then !thM s e m (zsm s k) else decide (m ≤ zsm s k ∧ zsm s k < m + zlen s e))
def siB (s : St) (p e m : Nat) : Bool := (decide (m + zlen s e ≤ zT s) && opB s e m) && !anyB (bdB s p e m) (zS s)
def lstB (P : Nat → Bool) : Nat → Int32
  | 0 => -1
  | k + 1 => if P k = true then nI k else lstB P k
theorem lstB_s (P : Nat → Bool) (k : Nat) : lstB P (k + 1) = if P k = true then nI k else lstB P k := rfl
def a_since (s : St) (x y : Int32) : Int32 := if ixP x (zP s) = true ∧ ixP y (zE s) = true then nI (fb_ct (siB s x.toNatClampNeg y.toNatClampNeg) 100) else -1
def n_since (s : St) (x y : Int32) : St := if ixP x (zP s) = true ∧ ixP y (zE s) = true then zsrow s (rowOf [Int32.toInt64 (fstB (siB s x.toNatClampNeg y.toNatClampNeg) 100), Int32.toInt64 (lstB (siB s x.toNatClampNeg y.toNatClampNeg) 100)]) else s
theorem W_since {s : St} (hw : WF s) (x y : Int32) : WF (n_since s x y) := by
  unfold n_since
  split
  · exact WF_row hw (by show 2 ≤ 8; decide)
  · exact hw
theorem c_allow {s : St} {M : MM} (hw : WF s) (h : RC s M) {p e m : Nat} (hp : p < zP s) (he : e < zE s) (hm : m < 100) : f_X8_allow 133 (nI p) (nI e) (nI m) M = some (bI (!anyB (bdB s p e m) (zS s)), M) := by
  have h0 := h.1
  have hP := hw.1.1
  have hE := hw.1.2.1
  have hS := hw.1.2.2.2.2.2.1
  have hB := hw.2.1.2.1 e he
  have hlen : zlen s e ≤ 27 := by unfold zlen; omega
  unfold f_X8_allow f_X8_allow_0
  rw [if_pos (sh_O h0 8 (by decide) rfl), ← nI_0]
  refine lpi (fun f k => f_X8_allow_3 f 133 (nI p) (nI e) (nI m) (nI k) M) (fun k => anyB (bdB s p e m) k = false) (zS s) _ (fun f k hk hi => ?_) (fun f hi => ?_) 1024 0 (by omega) (by omega) rfl
  · show (f_X8_allow_3 (f + 1) _ _ _ _ _ _ = _ ∧ _) ∨ f_X8_allow_3 (f + 1) _ _ _ _ _ _ = _
    have hs := hw.2.2.2.1 k hk
    have l := lc_sw hw h hk
    have R3 := sh_R h0 (a := 133) (k := 3) (b := 136) 8 (by decide) rfl (by decide)
    rw [f_X8_allow_3, gI_k 4 (sh_O h0 8 (by decide) rfl), b1_s, h.2.2.2.2.2.2.2.2.1, if_neg (nI_ge hk (by omega)), sh_R h0 (a := 133) (k := 1) (b := 134) 8 (by decide) rfl (by decide), b1_s, l.1, b1_s, anyB, hi, Bool.false_or]
    by_cases h1 : zsw s k = p
    · have fin : ∀ b : Bool, b = decide (m ≤ zsm s k ∧ zsm s k < m + zlen s e) → (f_X8_allow_62 (f_X8_allow_3 f) 133 (nI p) (nI e) (nI m) (nI k) (bI b) M = f_X8_allow_3 f 133 (nI p) (nI e) (nI m) (nI (k + 1)) M ∧ bdB s p e m k = false) ∨ f_X8_allow_62 (f_X8_allow_3 f) 133 (nI p) (nI e) (nI m) (nI k) (bI b) M = some (bI (!anyB (bdB s p e m) (zS s)), M) := by
        intro b hb
        unfold f_X8_allow_62 f_X8_allow_101
        rw [sh_R h0 (a := 133) (k := 2) (b := 135) 8 (by decide) rfl (by decide), b1_s, l.2.1, b1_s]
        have bad : bdB s p e m k = true → (bI (!anyB (bdB s p e m) (zS s))) = 0 := fun g => by rw [anyB_t g hk]; rfl
        by_cases h2 : zse s k = e
        · rw [if_pos (by rw [h2]), R3, b1_s, l.2.2, b1_s, c_th8 hw h he (by omega) (by omega), b2_s]
          cases h3 : thM s e m (zsm s k) with
          | true =>
            left
            rw [if_neg (show ¬ bI true = 0 by decide), bn_s, nI_1]
            refine ⟨rfl, ?_⟩
            unfold bdB
            rw [if_pos h2, h3]; simp
          | false =>
            right
            rw [if_pos (show bI false = 0 from rfl), rz0, bad (by unfold bdB; rw [if_pos h2, h3, decide_eq_true h1]; rfl)]
        · rw [if_neg (by rw [nI_eq (by omega) (by omega)]; exact h2)]
          cases b with
          | true =>
            right
            rw [if_neg (show ¬ bI true = 0 by decide), rz0, bad (by unfold bdB; rw [if_neg h2, ← hb, decide_eq_true h1]; rfl)]
          | false =>
            left
            rw [if_pos (show bI false = 0 from rfl), bn_s, nI_1]
            refine ⟨rfl, ?_⟩
            unfold bdB
            rw [if_neg h2, ← hb, Bool.and_false]
      unfold f_X8_allow_61
      rw [if_pos (by rw [h1]), R3, b1_s, l.2.2, b1_s]
      by_cases h4 : zsm s k < m
      · rw [if_pos (nI_lt h4 (by omega))]
        exact fin false (decide_eq_false (by omega)).symm
      · rw [if_neg (nI_nlt (by omega) (by omega)), b1_s, l.2.2, b1_s, sh_R h0 (a := 133) (k := 0) (b := 5) 8 (by decide) rfl (by decide), b1_s, e_len h0 h.2.2.2.1 hw.1 he, b2_s, nI_add]
        by_cases h5 : m + zlen s e ≤ zsm s k
        · rw [if_pos (nI_le h5 (by omega))]
          exact fin false (decide_eq_false (by omega)).symm
        · rw [if_neg (nI_ge (by omega) (by omega))]
          exact fin true (decide_eq_true (by omega)).symm
    · left
      unfold f_X8_allow_101
      rw [if_neg (by rw [nI_eq (by omega) (by omega)]; exact h1), bn_s, nI_1]
      refine ⟨rfl, ?_⟩
      unfold bdB
      rw [decide_eq_false h1, Bool.false_and]
  · show f_X8_allow_3 (f + 1) _ _ _ _ _ _ = _
    rw [f_X8_allow_3, gI_k 4 (sh_O h0 8 (by decide) rfl), b1_s, h.2.2.2.2.2.2.2.2.1, if_pos (nI_le (Nat.le_refl _) (by omega)), rz1, hi]
    rfl
theorem C_since {s : St} (hw : WF s) (x y : Int32) : OpC (fun M => f_X11_since 0 x y M) s (a_since s x y) (n_since s x y) := by
  intro M h
  have h0 := h.1
  have hP := hw.1.1
  have hE := hw.1.2.1
  have hR2 := sh_R h0 (a := 0) (k := 2) (b := 5) 11 (by decide) rfl (by decide)
  show ∃ M', f_X11_since 0 x y M = _ ∧ _
  unfold f_X11_since f_X11_since_0
  rw [if_pos (sh_O h0 11 (by decide) rfl), hR2, b1_s, e_hasP hw h, b2_s]
  by_cases hc : ixP x (zP s) = true ∧ ixP y (zE s) = true
  · obtain ⟨p, hp, rfl⟩ := ix_ex (by omega) hc.1
    obtain ⟨e, he, rfl⟩ := ix_ex (by omega) hc.2
    obtain ⟨M2, e2, w2, f2, r2⟩ := c_two h0 (Int32.toInt64 (fstB (siB s p e) 100)) (Int32.toInt64 (lstB (siB s p e) 100))
    rw [show a_since s (nI p) (nI e) = nI (fb_ct (siB s p e) 100) by unfold a_since; rw [if_pos hc, nI_clamp (by omega), nI_clamp (by omega)], show n_since s (nI p) (nI e) = zsrow s (rowOf [Int32.toInt64 (fstB (siB s p e) 100), Int32.toInt64 (lstB (siB s p e) 100)]) by unfold n_since; rw [if_pos hc, nI_clamp (by omega), nI_clamp (by omega)]]
    refine ⟨M2, ?_, h.row f2 r2 w2, wRow_cW f2⟩
    rw [if_pos hc.1, if_neg (by decide), hR2, b1_s, e_hasE hw h, b2_s, if_pos hc.2, if_neg (by decide)]
    have this : f_X11_since_35 1024 0 (nI p) (nI e) (nI (fb_ct (siB s p e) 0)) (fstB (siB s p e) 0) (lstB (siB s p e) 0) (nI 0) M = some (nI (fb_ct (siB s p e) 100), M2) := by
      refine lpv (fun f k => f_X11_since_35 f 0 (nI p) (nI e) (nI (fb_ct (siB s p e) k)) (fstB (siB s p e) k) (lstB (siB s p e) k) (nI k) M) 100 _ (fun f k hk => Or.inl ?_) (fun f => ?_) 1024 0 (by omega) (by omega)
      · show f_X11_since_35 (f + 1) _ _ _ _ _ _ _ _ = _
        rw [f_X11_since_35, if_neg (show ¬ (99 : Int32) < nI k from nI_nlt (a := 99) (by omega) (by decide)), hR2, b1_s, e_ends h0 h.2.2.2.1 hw.1 hw.2.1 he (by omega), b2_s, fstB_s, lstB_s, fb_ct_succ]
        unfold f_X11_since_72 f_X11_since_73 f_X11_since_110 f_X11_since_116
        have no : siB s p e k = false → f_X11_since_35 f 0 (nI p) (nI e) (nI (fb_ct (siB s p e) k)) (fstB (siB s p e) k) (lstB (siB s p e) k) (nI (k + 1)) M = f_X11_since_35 f 0 (nI p) (nI e) (nI (fb_ct (siB s p e) k + if siB s p e k = true then 1 else 0)) (if fstB (siB s p e) k = -1 ∧ siB s p e k = true then nI k else fstB (siB s p e) k) (if siB s p e k = true then nI k else lstB (siB s p e) k) (nI (k + 1)) M := fun g => by
          rw [g]
          simp only [Bool.false_eq_true, and_false, if_false, Nat.add_zero]
        cases h1 : decide (k + zlen s e ≤ zT s) with
        | false =>
          rw [if_pos (show bI false = 0 from rfl), if_pos rfl, bn_s, nI_1]
          exact no (by unfold siB; rw [h1]; rfl)
        | true =>
          rw [if_neg (show ¬ bI true = 0 by decide), hR2, b1_s, e_open h0 h.2.2.2.1 hw.1 hw.2.1 he (by omega), b2_s]
          cases h2 : opB s e k with
          | false =>
            rw [if_pos (show bI false = 0 from rfl), if_pos rfl, bn_s, nI_1]
            exact no (by unfold siB; rw [h1, h2]; rfl)
          | true =>
            rw [if_neg (show ¬ bI true = 0 by decide), if_neg (by decide), sh_R h0 (a := 0) (k := 10) (b := 133) 11 (by decide) rfl (by decide), b1_s, c_allow hw h hp he hk, b2_s]
            cases h3 : anyB (bdB s p e k) (zS s) with
            | true =>
              rw [if_pos (show bI (!true) = 0 from rfl), bn_s, nI_1]
              exact no (by unfold siB; rw [h1, h2, h3]; rfl)
            | false =>
              have g : siB s p e k = true := by unfold siB; rw [h1, h2, h3]; rfl
              rw [if_neg (show ¬ bI (!false) = 0 by decide), bn_s, nI_1, g]
              simp only [and_true, if_true]
              by_cases hf : fstB (siB s p e) k = -1
              · rw [if_pos hf, if_pos hf, bn_s, nI_1]
              · rw [if_neg hf, if_neg hf, bn_s, nI_1]
      · show f_X11_since_35 (f + 1) _ _ _ _ _ _ _ _ = _
        rw [f_X11_since_35, if_pos (show (99 : Int32) < nI 100 by decide), sh_R h0 (a := 0) (k := 1) (b := 3) 11 (by decide) rfl (by decide), b1_s, e2, b1_s]
    have z1 : nI (fb_ct (siB s p e) 0) = 0 := rfl
    rw [z1, nI_0] at this
    exact this
  · rw [show a_since s x y = -1 from if_neg hc, show n_since s x y = s from if_neg hc]
    refine ⟨M, ?_, h, Fr.rf M⟩
    by_cases h1 : ixP x (zP s) = true
    · rw [if_pos h1, if_neg (by decide), hR2, b1_s, e_hasE hw h, b2_s, if_neg (fun g => hc ⟨h1, g⟩), if_pos rfl]
    · rw [if_neg h1, if_pos rfl]
theorem r_chg {s : St} {M : MM} (hw : WF s) (h : RR s M) {p e m : Nat} (hp : p < zP s) (he : e < zE s) (hm : m < 100) : ∃ M', f_X12_canHaveGone 143 (nI p) (nI e) (nI m) M = some (bI (siB s p e m), M') ∧ RR s M' ∧ Fr (fun a k => a = 154) M M' ∧ mR M' = mR M := by
  have h0 := h.1
  have hP := hw.1.1
  have hE := hw.1.2.1
  have hT := hw.1.2.2.2.1
  have hS := hw.1.2.2.2.2.2.1
  have hB := hw.2.1.2.1 e he
  have hlen : zlen s e ≤ 27 := by unfold zlen; omega
  have tt := trp_w (p := p) (e := e) (m := m) (by omega) (by omega)
  have s1 : Sh (sI M 154 45 0) := h0
  have p0 : PR (sI M 154 45 0) 154 0 ((0, fun _ => 0) : Pl) := ⟨by rw [mI_w, if_pos ⟨rfl, rfl⟩]; rfl, fun i hi => absurd hi (Nat.not_lt_zero i)⟩
  obtain ⟨M2, e2, p2, f2, r2⟩ := r_comes s1 (Or.inr (Or.inl rfl) : RA 154) p0 (by decide) (p := p) (e := e) (m := m) (by omega) (by omega)
  have s2 := f2.sh' r2 s1
  have fa : Fr (fun a k => a = 154) M (sI M 154 45 0) := (Fr.rf M).sI rfl
  have f02 : Fr (fun a k => a = 154) M M2 := fa.tr f2
  have c2 : RR s M2 := h.fr (f02.mono (fun a k q => by unfold wR; omega)) s2
  have x2 : RX s M2 154 (plAdd ((0, fun _ => 0) : Pl) (trp p e m)) := ⟨s2, c2.2.2.2.1, hw.1, hw.2.1, Or.inr (Or.inl rfl), p2, by show 0 + 1 ≤ 15; decide, fun i hi => by
    have hi' : i < 0 + 1 := hi
    have : i = 0 := by omega
    subst this
    exact trp_ok (by omega) (by omega) hp he hm⟩
  have q0 : (plAdd ((0, fun _ => 0) : Pl) (trp p e m)).2 0 = trp p e m := rfl
  have hO := sh_O s2 (a := 143) 12 (by decide) rfl
  refine ⟨M2, ?_, c2, f02, r2⟩
  unfold f_X12_canHaveGone f_X12_canHaveGone_0
  rw [if_pos (sh_O h0 12 (by decide) rfl), sh_R h0 (a := 143) (k := 16) (b := 154) 12 (by decide) rfl (by decide), b1_s, n45, st_154 h0 _ (by decide), b1_s, sh_R s1 (a := 143) (k := 16) (b := 154) 12 (by decide) rfl (by decide), b1_s, e2, b1_s, e_along s2 c2.2.2.2.1 hw.1 he, b2_s, gI_k 6 hO, b1_s, c2.2.2.2.1.2.2.1, nI_add]
  have loop : ∀ b : Bool, f_X12_canHaveGone_51 1024 143 (nI p) (nI e) (bI b) 0 M2 = some (bI (b && !anyB (bdB s p e m) (zS s)), M2) := by
    intro b
    have this : f_X12_canHaveGone_51 1024 143 (nI p) (nI e) (bI (b && !anyB (bdB s p e m) 0)) (nI 0) M2 = some (bI (b && !anyB (bdB s p e m) (zS s)), M2) := by
      refine lpv (fun f k => f_X12_canHaveGone_51 f 143 (nI p) (nI e) (bI (b && !anyB (bdB s p e m) k)) (nI k) M2) (zS s) _ (fun f k hk => ?_) (fun f => ?_) 1024 0 (by omega) (by omega)
      · show f_X12_canHaveGone_51 (f + 1) _ _ _ _ _ _ = _ ∨ f_X12_canHaveGone_51 (f + 1) _ _ _ _ _ _ = _
        have hs := hw.2.2.2.1 k hk
        have l := lr_sw hw c2 hk
        rw [f_X12_canHaveGone_51, gI_k 51 hO, b1_s, c2.2.2.2.2.2.2.2.2.1, if_neg (nI_ge hk (by omega))]
        cases b with
        | false =>
          right
          rw [Bool.false_and, if_pos (show bI false = 0 from rfl), rz_b, Bool.false_and]
        | true =>
          rw [Bool.true_and]
          cases ha : anyB (bdB s p e m) k with
          | true =>
            right
            obtain ⟨j, hj, hb⟩ := anyB_iff.mp ha
            rw [if_pos (show bI (!true) = 0 from rfl), rz_b, anyB_t hb (show j < zS s by omega)]; rfl
          | false =>
            left
            rw [if_neg (show ¬ bI (!false) = 0 by decide), sh_R s2 (a := 143) (k := 52) (b := 176) 12 (by decide) rfl (by decide), b1_s, l.1, b1_s, anyB, ha, Bool.false_or, Bool.true_and]
            unfold f_X12_canHaveGone_128 f_X12_canHaveGone_132 f_X12_canHaveGone_133 bdB
            by_cases h1 : zsw s k = p
            · rw [if_pos (by rw [h1]), sh_R s2 (a := 143) (k := 53) (b := 177) 12 (by decide) rfl (by decide), b1_s, l.2.1, b1_s, decide_eq_true h1, Bool.true_and]
              by_cases h2 : zse s k = e
              · have e3 : f_X12_isThere 143 154 (nI 0) (nI (zsm s k)) M2 = some (bI (thM s e m (zsm s k)), M2) := by
                  rw [r_there x2 (show 0 < 0 + 1 by decide) (by omega), q0]
                  unfold thB thM
                  rw [tt.2.1, tt.2.2]
                rw [if_pos (by rw [h2]), sh_R s2 (a := 143) (k := 16) (b := 154) 12 (by decide) rfl (by decide), b1_s, sh_R s2 (a := 143) (k := 54) (b := 178) 12 (by decide) rfl (by decide), b1_s, l.2.2, b1_s, ← nI_0, e3, b2_s, if_pos h2]
                cases thM s e m (zsm s k) with
                | true => rw [nI_0, if_neg (show ¬ bI true = 0 by decide), bn_s, nI_1]; rfl
                | false => rw [nI_0, if_pos (show bI false = 0 from rfl), bn_s, nI_1]; rfl
              · have e3 : f_X12_isAway 143 154 (nI 0) (nI (zsm s k)) M2 = some (bI (decide (m ≤ zsm s k ∧ zsm s k < m + zlen s e)), M2) := by
                  rw [r_away x2 (show 0 < 0 + 1 by decide) (by omega), q0]
                  unfold tback
                  rw [tt.2.1, tt.2.2]
                rw [if_neg (by rw [nI_eq (by omega) (by omega)]; exact h2), sh_R s2 (a := 143) (k := 16) (b := 154) 12 (by decide) rfl (by decide), b1_s, sh_R s2 (a := 143) (k := 54) (b := 178) 12 (by decide) rfl (by decide), b1_s, l.2.2, b1_s, ← nI_0, e3, b2_s, if_neg h2]
                cases decide (m ≤ zsm s k ∧ zsm s k < m + zlen s e) with
                | true => rw [nI_0, if_neg (show ¬ bI true = 0 by decide), bn_s, nI_1]; rfl
                | false => rw [nI_0, if_pos (show bI false = 0 from rfl), bn_s, nI_1]; rfl
            · rw [if_neg (by rw [nI_eq (by omega) (by omega)]; exact h1), bn_s, nI_1, decide_eq_false h1, Bool.false_and]; rfl
      · show f_X12_canHaveGone_51 (f + 1) _ _ _ _ _ _ = _
        rw [f_X12_canHaveGone_51, gI_k 51 hO, b1_s, c2.2.2.2.2.2.2.2.2.1, if_pos (nI_le (Nat.le_refl _) (by omega)), rz_b]
    have z : (b && !anyB (bdB s p e m) 0) = b := by show (b && true) = b; rw [Bool.and_true]
    rw [z, nI_0] at this
    exact this
  unfold f_X12_canHaveGone_45 f_X12_canHaveGone_46 siB
  by_cases h1 : zT s < m + zlen s e
  · rw [if_pos (nI_lt h1 (by omega)), decide_eq_false (by omega), Bool.false_and]
    exact loop false
  · rw [if_neg (nI_nlt (by omega) (by omega)), e_fits s2 c2.2.2.2.1 hw.1 hw.2.1 he hm, b2_s, decide_eq_true (by omega), Bool.true_and]
    cases opB s e m with
    | false => rw [if_pos (show bI false = 0 from rfl)]; exact loop false
    | true => rw [if_neg (show ¬ bI true = 0 by decide)]; exact loop true
theorem R_since {s : St} (hw : WF s) (x y : Int32) : OpR (fun M => f_X12_since 143 x y M) s (a_since s x y) (n_since s x y) := by
  intro M h
  obtain ⟨N, et, ht, ft, rt, t0, l0⟩ := r_thr0 h
  have hP := hw.1.1
  have hE := hw.1.2.1
  show ∃ M', f_X12_since 143 x y M = _ ∧ _
  unfold f_X12_since f_X12_since_0
  rw [if_pos (sh_O h.1 12 (by decide) rfl), et, b1_s, e_isP hw ht, b2_s]
  by_cases hc : ixP x (zP s) = true ∧ ixP y (zE s) = true
  · obtain ⟨p, hp, rfl⟩ := ix_ex (by omega) hc.1
    obtain ⟨e, he, rfl⟩ := ix_ex (by omega) hc.2
    rw [if_pos hc.1, if_neg (by decide), e_isE hw ht, b2_s, if_pos hc.2, if_neg (by decide), show a_since s (nI p) (nI e) = nI (fb_ct (siB s p e) 100) by unfold a_since; rw [if_pos hc, nI_clamp (by omega), nI_clamp (by omega)], show n_since s (nI p) (nI e) = zsrow s (rowOf [Int32.toInt64 (fstB (siB s p e) 100), Int32.toInt64 (lstB (siB s p e) 100)]) by unfold n_since; rw [if_pos hc, nI_clamp (by omega), nI_clamp (by omega)]]
    obtain ⟨r, e1, er, c1, f1, r1⟩ := lpm (fun f k N' => f_X12_since_34 f 143 (nI p) (nI e) (nI (fb_ct (siB s p e) k)) (fstB (siB s p e) k) (lstB (siB s p e) k) (nI k) N') (fun k N' => RR s N' ∧ Fr (fun a k => a = 154) N N' ∧ mR N' = mR N) (fun r => r.1 = nI (fb_ct (siB s p e) 100) ∧ RR (zsrow s (rowOf [Int32.toInt64 (fstB (siB s p e) 100), Int32.toInt64 (lstB (siB s p e) 100)])) r.2 ∧ Fr rW N r.2 ∧ mR r.2 = mR N) 100 (fun f k N' hk hi => by
      left
      obtain ⟨N1, e1, c1, f1, r1⟩ := r_chg hw hi.1 hp he hk
      refine ⟨N1, ?_, c1, hi.2.1.tr f1, r1.trans hi.2.2⟩
      show f_X12_since_34 (f + 1) _ _ _ _ _ _ _ _ = _
      rw [f_X12_since_34, if_neg (show ¬ (99 : Int32) < nI k from nI_nlt (a := 99) (by omega) (by decide)), e1, b2_s, fstB_s, lstB_s, fb_ct_succ]
      unfold f_X12_since_64 f_X12_since_73
      cases hg : siB s p e k with
      | false =>
        rw [if_pos (show bI false = 0 from rfl), bn_s, nI_1]
        simp only [Bool.false_eq_true, and_false, if_false, Nat.add_zero]
      | true =>
        rw [if_neg (show ¬ bI true = 0 by decide)]
        simp only [and_true, if_true]
        rcases fstB_c (siB s p e) k (by omega) with hf | ⟨j, hj, hf⟩
        · rw [if_neg (show ¬ (0 : Int32) ≤ fstB (siB s p e) k by rw [hf]; decide), if_pos hf, bn_s, bn_s, nI_1, nI_1]
        · rw [if_pos (show (0 : Int32) ≤ fstB (siB s p e) k by rw [hf]; exact nI_pos' (by omega)), if_neg (show ¬ fstB (siB s p e) k = -1 by rw [hf]; exact nI_m1 (by omega)), bn_s, bn_s, nI_1, nI_1]) (fun f N' hi => by
      obtain ⟨M1, M2, M3, e1, e2, e3, c3, f3, r3⟩ := r_two' hi.1 (Int32.toInt64 (fstB (siB s p e) 100)) (Int32.toInt64 (lstB (siB s p e) 100))
      refine ⟨(nI (fb_ct (siB s p e) 100), M3), ?_, rfl, c3, (hi.2.1.mono (fun a k q => by unfold rW; omega)).tr (wRoR_rW f3), r3.trans hi.2.2⟩
      show f_X12_since_34 (f + 1) _ _ _ _ _ _ _ _ = _
      rw [f_X12_since_34, if_pos (show (99 : Int32) < nI 100 by decide), e1, b1_s, e2, b1_s, e3, b1_s]) 1024 0 N (by omega) (by omega) ⟨ht, Fr.rf N, rfl⟩
    refine ⟨r.2, ?_, c1, ft.tr f1, r1.trans rt⟩
    have z1 : nI (fb_ct (siB s p e) 0) = 0 := rfl
    rw [z1, nI_0] at e1
    exact e1.trans (by rw [← er])
  · rw [show a_since s x y = -1 from if_neg hc, show n_since s x y = s from if_neg hc]
    refine ⟨N, ?_, ht, ft, rt⟩
    by_cases h1 : ixP x (zP s) = true
    · rw [if_pos h1, if_neg (by decide), e_isE hw ht, b2_s, if_neg (fun g => hc ⟨h1, g⟩), if_pos rfl]
    · rw [if_neg h1, if_pos rfl]
theorem case_41 : CaseOK g_L_41 := by
  intro L xs j K M hL hj hc
  obtain ⟨s, hw, hc, hr⟩ := hc
  obtain ⟨M1, M2, hcp, e1, e2⟩ := asm (C_since hw (xs (j + 1)) (xs (j + 2))) (R_since hw (xs (j + 1)) (xs (j + 2))) (W_since hw (xs (j + 1)) (xs (j + 2))) hc hr
  refine ⟨M2, hcp, ?_⟩
  unfold g_L_41
  simp only [show (nI j + 1 : Int32) = nI (j + 1) from nI_add _ 1, show (nI j + 2 : Int32) = nI (j + 2) from nI_add _ 2, show (nI j + 3 : Int32) = nI (j + 3) from nI_add _ 3, show (nI j + 4 : Int32) = nI (j + 4) from nI_add _ 4, scr_k (show j + 1 < L by omega) hL, scr_k (show j + 2 < L by omega) hL, scr_k (show j + 3 < L by omega) hL, scr_k (show j + 4 < L by omega) hL, b1_s, e1, e2, b2_s, if_true]

/-! WHAT A TRIP IS WORTH: the reference -/
section WOR
variable {s : St} {M : MM} {a : Nat} {q : Pl}
theorem e_flag (b : Bool) (M : MM) : f_X12_flag (bI b) M = some (bI b, M) := by
  unfold f_X12_flag f_X12_flag_0
  cases b <;> rfl
theorem t87 (h : RX s M a q) {i : Nat} (hi : i < q.1) : f_X12_thingOf_87 1024 a (nI i) 0 0 M = some (nI (fb_ct (cnP q i) q.1), M) := by
  have h15 := h.2.2.2.2.2.2.1
  have this : f_X12_thingOf_87 1024 a (nI i) (nI (fb_ct (cnP q i) 0)) (nI 0) M = some (nI (fb_ct (cnP q i) q.1), M) := by
    refine lpv (fun f k => f_X12_thingOf_87 f a (nI i) (nI (fb_ct (cnP q i) k)) (nI k) M) q.1 _ (fun f k hk => Or.inl ?_) (fun f => ?_) 1024 0 (by omega) (by omega)
    · show f_X12_thingOf_87 (f + 1) _ _ _ _ _ = _
      rw [f_X12_thingOf_87, r_size h, b1_s, if_neg (nI_ge hk (by omega)), fb_ct_succ]
      unfold f_X12_thingOf_118 f_X12_thingOf_119 cnP
      by_cases hne : k = i
      · rw [if_pos (by rw [hne]), show (0 : Int32) = bI false from rfl, e_flag, b2_s, bn_s, bn_s, nI_1, hne]
        simp only [ne_eq, not_true_eq_false, decide_false, Bool.false_and, Bool.false_eq_true, if_false, Nat.add_zero, bI_f]
        rw [Int32.add_zero]
      · rw [if_neg (by rw [nI_eq (by omega) (by omega)]; exact hne), r_one h hi hk, b2_s]
        rw [decide_eq_true hne, Bool.true_and]
        cases oneB (q.2 i) (q.2 k)
        · rw [if_pos (by decide), show (0 : Int32) = bI false from rfl, e_flag, b2_s, bn_s, bn_s, nI_1, bI_f, Int32.add_zero]
          rfl
        · rw [if_neg (by decide), show (1 : Int32) = bI true from rfl, e_flag, b2_s, bn_s, bn_s, bI_t, nI_1, nI_1]
          rfl
    · show f_X12_thingOf_87 (f + 1) _ _ _ _ _ = _
      rw [f_X12_thingOf_87, r_size h, b1_s, if_pos (nI_le (Nat.le_refl _) (by omega))]
  have z : nI (fb_ct (cnP q i) 0) = 0 := rfl
  rw [z, nI_0] at this
  exact this
theorem t163 (h : RX s M a q) {i : Nat} (hi : i < q.1) : f_X12_thingOf_163 1024 a (nI i) 0 0 M = some (bI (anyB (saP q i) i), M) := by
  have h15 := h.2.2.2.2.2.2.1
  have hP := h.2.2.1.1
  have hE := h.2.2.1.2.1
  have this : f_X12_thingOf_163 1024 a (nI i) (nI (fb_ct (saP q i) 0)) (nI 0) M = some (bI (anyB (saP q i) i), M) := by
    refine lpv (fun f k => f_X12_thingOf_163 f a (nI i) (nI (fb_ct (saP q i) k)) (nI k) M) i _ (fun f k hk => Or.inl ?_) (fun f => ?_) 1024 0 (by omega) (by omega)
    · show f_X12_thingOf_163 (f + 1) _ _ _ _ _ = _
      have hb := okT_b (h.2.2.2.2.2.2.2 i hi)
      have hc := okT_b (h.2.2.2.2.2.2.2 k (by omega))
      rw [f_X12_thingOf_163, if_neg (nI_ge hk (by omega)), fb_ct_succ]
      unfold f_X12_thingOf_203 f_X12_thingOf_204 saP
      simp only [r_who h hi, r_who h (show k < q.1 by omega), r_what h hi, r_what h (show k < q.1 by omega), b2_s, bn_s, nI_1]
      by_cases h1 : tw (q.2 k) = tw (q.2 i)
      · rw [if_pos (by rw [h1])]
        by_cases h2 : te (q.2 k) = te (q.2 i)
        · rw [if_pos (by rw [h2]), show (1 : Int32) = bI true from rfl, e_flag, b2_s, decide_eq_true ⟨h1, h2⟩, bI_t, nI_1]
          rfl
        · rw [if_neg (by rw [nI_eq (by omega) (by omega)]; exact h2), show (0 : Int32) = bI false from rfl, e_flag, b2_s, decide_eq_false (fun q => h2 q.2), bI_f, Int32.add_zero]
          rfl
      · rw [if_neg (by rw [nI_eq (by omega) (by omega)]; exact h1), show (0 : Int32) = bI false from rfl, e_flag, b2_s, decide_eq_false (fun q => h1 q.1), bI_f, Int32.add_zero]
        rfl
    · show f_X12_thingOf_163 (f + 1) _ _ _ _ _ = _
      have hle := fb_ct_le (saP q i) i
      rw [f_X12_thingOf_163, if_pos (nI_le (Nat.le_refl _) (by omega))]
      unfold f_X12_thingOf_226
      by_cases hz : 0 < fb_ct (saP q i) i
      · obtain ⟨k, hk, hp⟩ := fb_ct_pos.mp hz
        rw [if_neg (nI_nle hz (by omega)), show (1 : Int32) = bI true from rfl, e_flag, b2_s, anyB_t hp hk]
      · rw [if_pos (show nI (fb_ct (saP q i) i) ≤ (0 : Int32) from nI_le (b := 0) (by omega) (by decide)), show (0 : Int32) = bI false from rfl, e_flag, b2_s, anyB_f (fun k hk => by
          cases hp : saP q i k with
          | false => rfl
          | true => exact absurd (fb_ct_pos.mpr ⟨k, hk, hp⟩) hz)]
  have z : nI (fb_ct (saP q i) 0) = 0 := rfl
  rw [z, nI_0] at this
  exact this
theorem e_thing (h : RX s M a q) {i j : Nat} (hi : i < q.1) (hj : j < 8) : f_X12_thingOf 143 a (nI i) (nI j) M = some (fcS s q i j, M) := by
  have h0 := h.1
  have hP := h.2.2.1.1
  have hE := h.2.2.1.2.1
  have hb := okT_b (h.2.2.2.2.2.2.2 i hi)
  have hy := h.2.2.2.1.1 _ hb.2.1
  have hO := sh_O h0 (a := 143) 12 (by decide) rfl
  unfold f_X12_thingOf f_X12_thingOf_0
  rw [if_pos hO]
  match j, hj with
  | 0, _ =>
    rw [if_pos (by decide), sh_R h0 (a := 143) (k := 8) (b := 146) 12 (by decide) rfl (by decide), b1_s, r_who h hi, b2_s, r_what h hi, b2_s, n8m, nI_add, ld_146 h0 (by omega), b1_s, h.2.1.2.2.2.2.2 _ _ hb.2.1 (by omega)]
    rfl
  | 1, _ =>
    rw [if_neg (by decide), if_pos (by decide), r_what h hi, b2_s, e_along h.1 h.2.1 h.2.2.1 hb.2.2.1, b2_s]
    rfl
  | 2, _ =>
    rw [if_neg (by decide), if_neg (by decide), if_pos (by decide), r_start h hi, b2_s]
    rfl
  | 3, _ =>
    rw [if_neg (by decide), if_neg (by decide), if_neg (by decide), if_pos (by decide), t87 h hi]
    rfl
  | 4, _ =>
    rw [if_neg (by decide), if_neg (by decide), if_neg (by decide), if_neg (by decide), if_pos (by decide), r_who h hi, b2_s]
    rfl
  | 5, _ =>
    rw [if_neg (by decide), if_neg (by decide), if_neg (by decide), if_neg (by decide), if_neg (by decide), if_pos (by decide), r_what h hi, b2_s]
    rfl
  | 6, _ =>
    rw [if_neg (by decide), if_neg (by decide), if_neg (by decide), if_neg (by decide), if_neg (by decide), if_neg (by decide), if_pos (by decide), sh_R h0 (a := 143) (k := 7) (b := 145) 12 (by decide) rfl (by decide), b1_s, r_who h hi, b2_s, lr_shy h.1 h.2.1 h.2.2.1 hb.2.1, b1_s]
    have e : nI (zshy s (tw (q.2 i))) = bI (decide (zshy s (tw (q.2 i)) = 1)) := by
      by_cases hz : zshy s (tw (q.2 i)) = 1
      · rw [decide_eq_true hz, hz]; rfl
      · rw [decide_eq_false hz, show zshy s (tw (q.2 i)) = 0 by omega]; rfl
    show b2 (f_X12_flag (nI (zshy s (tw (q.2 i)))) M) _ = some (nI (zshy s (tw (q.2 i))), M)
    rw [e, e_flag, b2_s]
  | 7, _ =>
    rw [if_neg (by decide), if_neg (by decide), if_neg (by decide), if_neg (by decide), if_neg (by decide), if_neg (by decide), if_neg (by decide), t163 h hi]
    rfl
  | n + 8, h => omega
def wStk (a k : Nat) : Prop := a = 161
def RW2 (s : St) (M : MM) (a : Nat) (q : Pl) : Prop := RX s M a q ∧ rrRule s M
theorem RX.frx {M' : MM} {W : Nat → Nat → Prop} (h : RX s M a q) (f : Fr W M M') (hs : Sh M') (w : ∀ b k, (b = 143 ∧ (k = 3 ∨ k = 4 ∨ k = 6)) ∨ (145 ≤ b ∧ b ≤ 152) ∨ b = a → ¬ W b k) : RX s M' a q := ⟨hs, h.2.1.fr f (fun b k q => w b k (by omega)), h.2.2.1, h.2.2.2.1, h.2.2.2.2.1, h.2.2.2.2.2.1.frw f (fun b k q => w b k (by omega)), h.2.2.2.2.2.2⟩
theorem RW2.fr {M' : MM} (h : RW2 s M a q) (f : Fr wStk M M') (hr : mR M' = mR M) : RW2 s M' a q := ⟨h.1.frx f (f.sh' hr h.1.1) (fun b k q => by have := h.1.2.2.2.2.1; unfold RA at this; unfold wStk; omega), h.2.fr f (fun b k q => by unfold wStk; omega)⟩
theorem RR.rw {s : St} {M : MM} (h : RR s M) (hw : WF s) : RW2 s M 153 (zplan s) := ⟨h.rx hw, h.2.2.2.2.2.1⟩
theorem wo_neg (g0 : Sh M) (f : Nat) (i k : Int32) {x : Int32} {r : List Int32} (hl : r.length < 79) (hsk : SK M 161 (x :: r)) : ∃ M', (b1 (ldI 161 (nI (r.length + 1) - 1) M) fun v10 => b1 (stI 161 (nI (r.length + 1) - 1) (-v10) M) fun M11 => f_X12_worthOf_5 f 143 a i (nI (r.length + 1)) k M11) = f_X12_worthOf_5 f 143 a i (nI (r.length + 1)) k M' ∧ SK M' 161 (-x :: r) ∧ Fr wStk M M' ∧ mR M' = mR M := by
  refine ⟨sI M 161 r.length (-x), ?_, ⟨by rw [mI_w, if_pos ⟨rfl, rfl⟩], SK_w hsk.2 (Nat.le_refl _)⟩, (Fr.rf M).sI rfl, rfl⟩
  rw [nI_pred, ld_161 g0 (show r.length < 80 by omega), b1_s, hsk.1, st_161 g0 _ (show r.length < 80 by omega), b1_s]
theorem wo_bin (g0 : Sh M) (f : Nat) (i k : Int32) {j : Nat} (hj : j < 7) {x y : Int32} {r : List Int32} (hl : r.length < 79) (hsk : SK M 161 (y :: x :: r)) : ∃ M', (b1 (ldI 161 (nI (r.length + 1 + 1) + -1 - 1) M) fun v4 => b1 (ldI 161 (nI (r.length + 1 + 1) + -1) M) fun v6 => b2 (f_X12_worked (nI j) v4 v6 M) fun r8 M7 => b1 (stI 161 (nI (r.length + 1 + 1) + -1 - 1) r8 M7) fun M9 => f_X12_worthOf_5 f 143 a i (nI (r.length + 1 + 1) + -1) k M9) = f_X12_worthOf_5 f 143 a i (nI (r.length + 1)) k M' ∧ SK M' 161 (wrk j x y :: r) ∧ Fr wStk M M' ∧ mR M' = mR M := by
  refine ⟨sI M 161 r.length (wrk j x y), ?_, ⟨by rw [mI_w, if_pos ⟨rfl, rfl⟩], SK_w hsk.2.2 (Nat.le_refl _)⟩, (Fr.rf M).sI rfl, rfl⟩
  have e1 : mI M 161 (r.length + 1) = y := hsk.1
  rw [pk_m1, nI_pred, ld_161 g0 (show r.length < 80 by omega), b1_s, ld_161 g0 (show r.length + 1 < 80 by omega), b1_s, e1, hsk.2.1, e_work j hj, b2_s, st_161 g0 _ (show r.length < 80 by omega), b1_s]
theorem wo_push (g0 : Sh M) (f : Nat) (i k : Int32) {v : Int32} {st : List Int32} (hl : st.length < 80) (hsk : SK M 161 st) : ∃ M', (b1 (stI 161 (nI st.length) v M) fun M11 => f_X12_worthOf_5 f 143 a i (nI (st.length + 1)) k M11) = f_X12_worthOf_5 f 143 a i (nI (st.length + 1)) k M' ∧ SK M' 161 (v :: st) ∧ Fr wStk M M' ∧ mR M' = mR M := by
  refine ⟨sI M 161 st.length v, ?_, SK_p hsk, (Fr.rf M).sI rfl, rfl⟩
  rw [st_161 g0 _ hl, b1_s]
theorem sub_ix {c : Int32} {b : Int32} {n m : Nat} (hb : b.toInt = m) (hm : m < 5000) (hn : n < 5000) (h1 : ¬ c < b) (h2 : c.toInt < m + n) : ∃ j, j < n ∧ c - b = nI j := by
  have h3 : (m : Int) ≤ c.toInt := by rw [fa_lt, hb] at h1; omega
  have e8 : (c - b).toInt = c.toInt - m := by
    rw [fb_subI (by rw [hb]; have := fb_rng c; omega) (by rw [hb]; have := fb_rng c; omega), hb]
  exact ix_ex (x := c - b) (n := n) (by omega) (ix_t.mpr ⟨by rw [fa_lt, e8, show (0 : Int32).toInt = 0 from by decide]; omega, by rw [fa_lt, e8, nI_toInt (by omega)]; omega⟩)
theorem wo_step (h : RX s M a q) {i : Nat} (hi : i < q.1) {n : Nat} (hn : n ≤ 80) (hsz : mI M 143 29 = nI n) {k : Nat} (hk : k < n) {c : Int32} (hcd : mI M 159 k = c) {st st2 : List Int32} (hl : st.length ≤ k) (hsk : SK M 161 st) (hstep : stepR (fcS s q i) c st = some st2) (f : Nat) : ∃ M', f_X12_worthOf_5 (f + 1) 143 a (nI i) (nI st.length) (nI k) M = f_X12_worthOf_5 f 143 a (nI i) (nI st2.length) (nI (k + 1)) M' ∧ SK M' 161 st2 ∧ Fr wStk M M' ∧ mR M' = mR M := by
  have g0 := h.1
  have hR31 := sh_R g0 (a := 143) (k := 31) (b := 161) 12 (by decide) rfl (by decide)
  rw [f_X12_worthOf_5, gI_k 29 (sh_O g0 12 (by decide) rfl), b1_s, hsz, if_neg (nI_ge hk (by omega))]
  rw [sh_R g0 (a := 143) (k := 27) (b := 159) 12 (by decide) rfl (by decide), b1_s, ld_159 g0 (show k < 80 by omega), b1_s, hcd]
  unfold f_X12_worthOf_126 f_X12_worthOf_130
  simp only [hR31, b1_s, bn_s, nI_1]
  unfold stepR at hstep
  by_cases cneg : c = 3000
  · rw [if_pos cneg] at hstep
    rw [if_pos cneg]
    cases st with
    | nil => cases hstep
    | cons x r =>
      cases hstep
      have hl2 : r.length + 1 ≤ k := hl
      simp only [List.length_cons]
      exact wo_neg g0 f _ _ (by omega) hsk
  · rw [if_neg cneg] at hstep
    rw [if_neg cneg]
    by_cases c2 : c < 2000
    · rw [if_pos c2] at hstep
      rw [if_pos c2]
      by_cases c1 : c < 1000
      · rw [if_pos c1] at hstep
        rw [if_pos c1]
        cases hstep
        exact wo_push g0 f _ _ (by omega) hsk
      · rw [if_neg c1] at hstep
        rw [if_neg c1]
        by_cases c3 : c < 1008
        · rw [if_pos c3] at hstep
          obtain ⟨j, hj, ej⟩ := sub_ix (c := c) (b := 1000) (n := 8) (m := 1000) (by decide) (by decide) (by decide) c1 (by rw [fa_lt, show (1008 : Int32).toInt = 1008 from by decide] at c3; omega)
          rw [ej, nI_clamp (by omega)] at hstep
          cases hstep
          rw [ej, e_thing h hi hj, b2_s]
          exact wo_push g0 f _ _ (by omega) hsk
        · rw [if_neg c3] at hstep; cases hstep
    · rw [if_neg c2] at hstep
      rw [if_neg c2]
      by_cases c3 : c < 2007
      · rw [if_pos c3] at hstep
        obtain ⟨j, hj, ej⟩ := sub_ix (c := c) (b := 2000) (n := 7) (m := 2000) (by decide) (by decide) (by decide) c2 (by rw [fa_lt, show (2007 : Int32).toInt = 2007 from by decide] at c3; omega)
        rw [ej, nI_clamp (by omega)] at hstep
        cases st with
        | nil => cases hstep
        | cons y r =>
          cases r with
          | nil => cases hstep
          | cons x r =>
            cases hstep
            have hl2 : r.length + 1 + 1 ≤ k := hl
            simp only [List.length_cons, ej]
            exact wo_bin g0 f _ _ hj (by omega) hsk
      · rw [if_neg c3] at hstep; cases hstep
theorem clp_small {n : Nat} (h : n ≤ 999) : clp (nI n) = nI n := by
  unfold clp maxI minI
  by_cases hq : nI n < 999
  · rw [if_pos hq, if_pos]
    rw [fa_lt, nI_toInt (by omega), show (-999 : Int32).toInt = -999 from by decide]
    omega
  · have : n = 999 := by
      rw [fa_lt, nI_toInt (by omega), show (999 : Int32).toInt = 999 from by decide] at hq
      omega
    subst this
    decide
theorem r_worth (h : RW2 s M a q) {i : Nat} (hi : i < q.1) : ∃ r : Int32 × MM, f_X12_worthOf 143 a (nI i) M = some r ∧ (r.1 = worS s q i ∧ Fr wStk M r.2 ∧ mR r.2 = mR M) := by
  obtain ⟨hx, n, hn, hsz, hz, hrun⟩ := h
  have h0 := hx.1
  have hO := sh_O h0 (a := 143) 12 (by decide) rfl
  have hb := okT_b (hx.2.2.2.2.2.2.2 i hi)
  have hE := hx.2.2.1.2.1
  have hwi := hx.2.2.2.1.2.2 _ (te (q.2 i)) hb.2.1 (by omega)
  unfold f_X12_worthOf f_X12_worthOf_0
  rw [if_pos hO]
  by_cases hz0 : n = 0
  · subst hz0
    refine ⟨(worS s q i, M), ?_, rfl, Fr.rf M, rfl⟩
    unfold worS
    rw [if_pos (hz.mpr rfl), f_X12_worthOf_5, gI_k 29 hO, b1_s, hsz, nI_0, if_pos (by decide), b1_s, if_pos rfl, ← nI_0, e_thing hx hi (by decide), b2_s]
    show some (clp (nI (zwis s (8 * tw (q.2 i) + te (q.2 i)))), M) = _
    rw [clp_small (by omega)]
  · have hrun := hrun hz0 (fcS s q i)
    have key : ∃ r : Int32 × MM, f_X12_worthOf_5 1024 143 a (nI i) (nI (gSt (runR (fcS s q i) (mI M 159) 0)).length) (nI 0) M = some r ∧ (r.1 = worS s q i ∧ Fr wStk M r.2 ∧ mR r.2 = mR M) := by
      refine lpm (fun f k M' => f_X12_worthOf_5 f 143 a (nI i) (nI (gSt (runR (fcS s q i) (mI M 159) k)).length) (nI k) M') (fun k M' => SK M' 161 (gSt (runR (fcS s q i) (mI M 159) k)) ∧ Fr wStk M M' ∧ mR M' = mR M) (fun r => r.1 = worS s q i ∧ Fr wStk M r.2 ∧ mR r.2 = mR M) n (fun f k M' hk hi2 => Or.inl ?_) (fun f M' hi2 => ?_) 1024 0 M (by omega) (by omega) ⟨trivial, Fr.rf M, rfl⟩
      · obtain ⟨hsk, hf, hr⟩ := hi2
        have hx' : RX s M' a q := hx.frx hf (hf.sh' hr h0) (fun b k q => by have := hx.2.2.2.2.1; unfold RA at this; unfold wStk; omega)
        obtain ⟨st, hst⟩ := runR_pre hrun (show k ≤ n by omega)
        obtain ⟨st2, hst2⟩ := runR_pre hrun (show k + 1 ≤ n by omega)
        have hstep : stepR (fcS s q i) (mI M 159 k) st = some st2 := by rw [runR, hst] at hst2; exact hst2
        rw [hst] at hsk
        obtain ⟨M2, e2, k2, f2, r2⟩ := wo_step hx' hi hn ((hf.2.2.1 143 29 (by unfold wStk; omega)).trans hsz) hk (hf.2.2.1 159 k (by unfold wStk; omega)) (runR_len hst) hsk hstep f
        rw [hst, hst2]
        exact ⟨M2, e2, k2, hf.tr f2, r2.trans hr⟩
      · obtain ⟨hsk, hf, hr⟩ := hi2
        have g0 : Sh M' := hf.sh' hr h0
        have hsz' : mI M' 143 29 = nI n := (hf.2.2.1 143 29 (by unfold wStk; omega)).trans hsz
        rw [hrun] at hsk
        refine ⟨(worS s q i, M'), ?_, rfl, hf, hr⟩
        unfold worS
        rw [hrun, if_neg (fun q => hz0 (hz.mp q))]
        have e1 : mI M' 161 0 = (zrule s).2 (fcS s q i) := hsk.1
        rw [f_X12_worthOf_5, gI_k 29 (sh_O g0 12 (by decide) rfl), b1_s, hsz', if_pos (nI_le (Nat.le_refl _) (by omega)), b1_s, if_neg (nI_ne0 (by omega) (by omega)), sh_R g0 (a := 143) (k := 31) (b := 161) 12 (by decide) rfl (by decide), b1_s, ← nI_0, ld_161 g0 (show 0 < 80 by omega), b1_s, e1]
        rfl
    have z0 : (gSt (runR (fcS s q i) (mI M 159) 0)).length = 0 := rfl
    rw [z0, nI_0] at key
    exact key
theorem r_all (h : RW2 s M a q) : ∃ r : Int32 × MM, f_X12_worthAll 143 a M = some r ∧ (r.1 = worAll s q ∧ Fr wStk M r.2 ∧ mR r.2 = mR M) := by
  have h15 := h.1.2.2.2.2.2.2.1
  have key : ∃ r : Int32 × MM, f_X12_worthAll_4 1024 143 a (smI (worS s q) 0) (nI 0) M = some r ∧ (r.1 = worAll s q ∧ Fr wStk M r.2 ∧ mR r.2 = mR M) := by
    refine lpm (fun f k M' => f_X12_worthAll_4 f 143 a (smI (worS s q) k) (nI k) M') (fun k M' => Fr wStk M M' ∧ mR M' = mR M) (fun r => r.1 = worAll s q ∧ Fr wStk M r.2 ∧ mR r.2 = mR M) q.1 (fun f k M' hk hi => Or.inl ?_) (fun f M' hi => ?_) 1024 0 M (by omega) (by omega) ⟨Fr.rf M, rfl⟩
    · have hc := h.fr hi.1 hi.2
      obtain ⟨⟨r2, M2⟩, e2, er, f2, r3⟩ := r_worth hc hk
      refine ⟨M2, ?_, hi.1.tr f2, r3.trans hi.2⟩
      rw [f_X12_worthAll_4, r_size hc.1, b1_s, if_neg (nI_ge hk (by omega)), e2, b2_s, bn_s, bn_s, nI_1, smI_s]
      rw [show r2 = worS s q k from er]
    · have hc := h.fr hi.1 hi.2
      refine ⟨(worAll s q, M'), ?_, rfl, hi⟩
      rw [f_X12_worthAll_4, r_size hc.1, b1_s, if_pos (nI_le (Nat.le_refl _) (by omega))]
      rfl
  rw [nI_0] at key
  unfold f_X12_worthAll f_X12_worthAll_0
  rw [if_pos (sh_O h.1.1 12 (by decide) rfl)]
  exact key
end WOR

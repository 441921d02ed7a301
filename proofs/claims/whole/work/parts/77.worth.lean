/-! WHAT A TRIP IS WORTH -/
def SK (M : MM) (c : Nat) : List Int32 → Prop
  | [] => True
  | x :: r => mI M c r.length = x ∧ SK M c r
theorem SK_w {M : MM} {c k : Nat} {v : Int32} : ∀ {st : List Int32}, SK M c st → st.length ≤ k → SK (sI M c k v) c st
  | [], _, _ => trivial
  | x :: r, h, hk => by
    have hk2 : r.length + 1 ≤ k := hk
    refine ⟨?_, SK_w h.2 (by omega)⟩
    rw [mI_w, if_neg (by omega)]
    exact h.1
theorem SK_p {M : MM} {c : Nat} {v : Int32} {st : List Int32} (h : SK M c st) : SK (sI M c st.length v) c (v :: st) := ⟨by rw [mI_w, if_pos ⟨rfl, rfl⟩], SK_w h (Nat.le_refl _)⟩
theorem stepC_len {fc : Nat → Int32} {c : Int32} {st st' : List Int32} (h : stepC fc c st = some st') : st'.length ≤ st.length + 1 := by
  unfold stepC at h
  split at h
  · split at h
    · cases st with
      | nil => cases h
      | cons a r => cases h; simp
    · split at h
      · cases st with
        | nil => cases h
        | cons b r =>
          cases r with
          | nil => cases h
          | cons a r => cases h; simp
      · cases h
  · split at h
    · cases h; simp
    · cases h; simp
theorem runC_len {fc : Nat → Int32} {code : Nat → Int32} : ∀ {k : Nat} {st : List Int32}, runC fc code k = some st → st.length ≤ k
  | 0, st, h => by cases h; simp
  | k + 1, st, h => by
    rw [runC] at h
    cases hr : runC fc code k with
    | none => rw [hr] at h; cases h
    | some st0 =>
      rw [hr] at h
      have := stepC_len (show stepC fc (code k) st0 = some st from h)
      have := runC_len hr
      omega
theorem runC_pre {fc : Nat → Int32} {code : Nat → Int32} {k : Nat} : ∀ {n : Nat} {st : List Int32}, runC fc code n = some st → k ≤ n → ∃ st', runC fc code k = some st'
  | 0, st, h, hk => by have : k = 0 := by omega
                       subst this; exact ⟨st, h⟩
  | n + 1, st, h, hk => by
    by_cases e : k = n + 1
    · subst e; exact ⟨st, h⟩
    · rw [runC] at h
      cases hr : runC fc code n with
      | none => rw [hr] at h; cases h
      | some st0 => exact runC_pre hr (by omega)
theorem stepR_len {fc : Nat → Int32} {c : Int32} {st st' : List Int32} (h : stepR fc c st = some st') : st'.length ≤ st.length + 1 := by
  unfold stepR at h
  split at h
  · cases st with
    | nil => cases h
    | cons a r => cases h; simp
  · split at h
    · split at h
      · cases h; simp
      · split at h
        · cases h; simp
        · cases h
    · split at h
      · cases st with
        | nil => cases h
        | cons b r =>
          cases r with
          | nil => cases h
          | cons a r => cases h; simp
      · cases h
theorem runR_len {fc : Nat → Int32} {code : Nat → Int32} : ∀ {k : Nat} {st : List Int32}, runR fc code k = some st → st.length ≤ k
  | 0, st, h => by cases h; simp
  | k + 1, st, h => by
    rw [runR] at h
    cases hr : runR fc code k with
    | none => rw [hr] at h; cases h
    | some st0 =>
      rw [hr] at h
      have := stepR_len (show stepR fc (code k) st0 = some st from h)
      have := runR_len hr
      omega
theorem runR_pre {fc : Nat → Int32} {code : Nat → Int32} {k : Nat} : ∀ {n : Nat} {st : List Int32}, runR fc code n = some st → k ≤ n → ∃ st', runR fc code k = some st'
  | 0, st, h, hk => by have : k = 0 := by omega
                       subst this; exact ⟨st, h⟩
  | n + 1, st, h, hk => by
    by_cases e : k = n + 1
    · subst e; exact ⟨st, h⟩
    · rw [runR] at h
      cases hr : runR fc code n with
      | none => rw [hr] at h; cases h
      | some st0 => exact runR_pre hr (by omega)
theorem e_comb (c a b : Int32) (M : MM) (hc : c = -160 ∨ c = -162 ∨ c = -161 ∨ c = -143 ∨ c = -145 ∨ c = -142 ∨ c = -147) : f_X7_combine (-100 - c) a b M = some (wrk (opC c) a b, M) := by
  unfold f_X7_combine f_X7_combine_0 divI
  rcases hc with rfl | rfl | rfl | rfl | rfl | rfl | rfl
  · simp only [show (-100 - (-160) : Int32) = 60 from rfl, show opC (-160) = 0 from rfl, wrk]
    rw [if_neg (by decide), if_neg (by decide), if_neg (by decide), if_neg (by decide), if_pos trivial]
    by_cases h : a < b
    · rw [if_pos h, if_neg (fa_of_lt h).2.1]
    · rw [if_neg h, if_pos (fa_of_nlt h)]
  · simp only [show (-100 - (-162) : Int32) = 62 from rfl, show opC (-162) = 1 from rfl, wrk]
    rw [if_neg (by decide), if_neg (by decide), if_neg (by decide), if_neg (by decide), if_neg (by decide), if_pos trivial]
    by_cases h : b < a
    · rw [if_pos h, if_neg (fa_of_lt h).2.1]
    · rw [if_neg h, if_pos (fa_of_nlt h)]
  · simp only [show (-100 - (-161) : Int32) = 61 from rfl, show opC (-161) = 2 from rfl, wrk]
    rw [if_neg (by decide), if_neg (by decide), if_neg (by decide), if_neg (by decide), if_neg (by decide), if_neg (by decide)]
    by_cases h : a = b
    · rw [if_pos h, if_pos h]
    · rw [if_neg h, if_neg h]
  · rfl
  · rfl
  · rfl
  · simp only [show (-100 - (-147) : Int32) = 47 from rfl, show opC (-147) = 6 from rfl, wrk]
    rw [if_neg (by decide), if_neg (by decide), if_neg (by decide), if_pos trivial]
    by_cases h : b = 0
    · rw [if_pos h, if_pos h]
    · rw [if_neg h, if_neg h, if_neg h]; rfl
theorem e_work (j : Nat) (hj : j < 7) (a b : Int32) (M : MM) : f_X12_worked (nI j) a b M = some (wrk j a b, M) := by
  unfold f_X12_worked f_X12_worked_0 divI f_X12_worked_50 f_X12_worked_64 f_X12_worked_78 f_X12_flag f_X12_flag_0
  match j, hj with
  | 0, _ =>
    rw [if_pos (by decide)]
    show _ = some (if a < b then 1 else 0, M)
    by_cases h : a < b
    · rw [if_pos h, if_neg (fa_of_lt h).2.1]; rfl
    · rw [if_neg h, if_pos (fa_of_nlt h)]; rfl
  | 1, _ =>
    rw [if_neg (by decide), if_pos (by decide)]
    show _ = some (if b < a then 1 else 0, M)
    by_cases h : b < a
    · rw [if_pos h, if_neg (fa_of_lt h).2.1]; rfl
    · rw [if_neg h, if_pos (fa_of_nlt h)]; rfl
  | 2, _ =>
    rw [if_neg (by decide), if_neg (by decide), if_pos (by decide)]
    show _ = some (if a = b then 1 else 0, M)
    by_cases h : a = b
    · rw [if_pos h, if_pos h]; rfl
    · rw [if_neg h, if_neg h]; rfl
  | 3, _ => rfl
  | 4, _ => rfl
  | 5, _ => rfl
  | 6, _ =>
    rw [if_neg (by decide), if_neg (by decide), if_neg (by decide), if_neg (by decide), if_neg (by decide), if_neg (by decide)]
    show _ = some (if b = 0 then 0 else a / b, M)
    by_cases h : b = 0
    · rw [if_pos h, if_pos h]
    · rw [if_neg h, if_neg h, if_neg h]; rfl
  | n + 7, h => omega
def gSt (o : Option (List Int32)) : List Int32 := match o with
  | some l => l
  | none => []
theorem ev_neg {M : MM} (g0 : Sh M) (f : Nat) (k : Int32) {a : Int32} {r : List Int32} (hl : r.length < 40) (hsk : SK M 87 (a :: r)) : ∃ M', (b1 (ldI 87 (nI (r.length + 1) - 1) M) fun v10 => b1 (stI 87 (nI (r.length + 1) - 1) (-v10) M) fun M11 => f_X7_evaluate_4 f 84 (nI (r.length + 1)) k M11) = f_X7_evaluate_4 f 84 (nI (r.length + 1)) k M' ∧ SK M' 87 (-a :: r) ∧ Fr (fun a k => a = 87) M M' ∧ mR M' = mR M := by
  refine ⟨sI M 87 r.length (-a), ?_, ⟨by rw [mI_w, if_pos ⟨rfl, rfl⟩], SK_w hsk.2 (Nat.le_refl _)⟩, (Fr.rf M).sI rfl, rfl⟩
  rw [nI_pred, ld_87 g0 (show r.length < 41 by omega), b1_s, hsk.1, st_87 g0 _ (show r.length < 41 by omega), b1_s]
theorem ev_bin {M : MM} (g0 : Sh M) (f : Nat) (k c : Int32) {a b : Int32} {r : List Int32} (hl : r.length < 39) (hsk : SK M 87 (b :: a :: r)) (cop : c = -160 ∨ c = -162 ∨ c = -161 ∨ c = -143 ∨ c = -145 ∨ c = -142 ∨ c = -147) : ∃ M', (b1 (ldI 87 (nI (r.length + 1 + 1) + -1 - 1) M) fun v4 => b1 (ldI 87 (nI (r.length + 1 + 1) + -1) M) fun v6 => b2 (f_X7_combine (-100 - c) v4 v6 M) fun r8 M7 => b1 (stI 87 (nI (r.length + 1 + 1) + -1 - 1) r8 M7) fun M9 => f_X7_evaluate_4 f 84 (nI (r.length + 1 + 1) + -1) k M9) = f_X7_evaluate_4 f 84 (nI (r.length + 1)) k M' ∧ SK M' 87 (wrk (opC c) a b :: r) ∧ Fr (fun a k => a = 87) M M' ∧ mR M' = mR M := by
  refine ⟨sI M 87 r.length (wrk (opC c) a b), ?_, ⟨by rw [mI_w, if_pos ⟨rfl, rfl⟩], SK_w hsk.2.2 (Nat.le_refl _)⟩, (Fr.rf M).sI rfl, rfl⟩
  have e1 : mI M 87 (r.length + 1) = b := hsk.1
  rw [pk_m1, nI_pred, ld_87 g0 (show r.length < 41 by omega), b1_s, ld_87 g0 (show r.length + 1 < 41 by omega), b1_s, e1, hsk.2.1, e_comb c a b M cop, b2_s, st_87 g0 _ (show r.length < 41 by omega), b1_s]
theorem ev_push {M : MM} (g0 : Sh M) (f : Nat) (k : Int32) {v : Int32} {st : List Int32} (hl : st.length < 41) (hsk : SK M 87 st) : ∃ M', (b1 (stI 87 (nI st.length) v M) fun M11 => f_X7_evaluate_4 f 84 (nI (st.length + 1)) k M11) = f_X7_evaluate_4 f 84 (nI (st.length + 1)) k M' ∧ SK M' 87 (v :: st) ∧ Fr (fun a k => a = 87) M M' ∧ mR M' = mR M := by
  refine ⟨sI M 87 st.length v, ?_, SK_p hsk, (Fr.rf M).sI rfl, rfl⟩
  rw [st_87 g0 _ hl, b1_s]
theorem ev_fix {c : Int32} (c8 : ¬ c < -8) (cz : c < 0) : ∃ j, j < 8 ∧ -1 - c = nI j := by
  have e8 : (-1 - c).toInt = -1 - c.toInt := by
    have hc := fb_rng c
    have e9 : (-1 : Int32).toInt = -1 := by decide
    rw [fb_subI (by rw [e9]; omega) (by rw [e9]; omega), e9]
  have c9 : ¬ c.toInt < -8 := by rw [fa_lt, show (-8 : Int32).toInt = -8 from by decide] at c8; exact c8
  have c10 : c.toInt < 0 := by rw [fa_lt, show (0 : Int32).toInt = 0 from by decide] at cz; exact cz
  exact ix_ex (x := -1 - c) (n := 8) (by decide) (ix_t.mpr ⟨by rw [fa_lt, e8, show (0 : Int32).toInt = 0 from by decide]; omega, by rw [fa_lt, e8, nI_toInt (by decide)]; omega⟩)
theorem ev_step {M : MM} (g0 : Sh M) {n : Nat} (hn : n ≤ 40) (hsz : mI M 84 6 = nI n) {fc : Nat → Int32} (hfc : ∀ j, j < 8 → mI M 88 j = fc j) {k : Nat} (hk : k < n) {c : Int32} (hcd : mI M 85 k = c) {st st2 : List Int32} (hl : st.length ≤ k) (hsk : SK M 87 st) (hstep : stepC fc c st = some st2) (f : Nat) : ∃ M', f_X7_evaluate_4 (f + 1) 84 (nI st.length) (nI k) M = f_X7_evaluate_4 f 84 (nI st2.length) (nI (k + 1)) M' ∧ SK M' 87 st2 ∧ Fr (fun a k => a = 87) M M' ∧ mR M' = mR M := by
  rw [f_X7_evaluate_4, gI_k 6 (sh_O g0 7 (by decide) rfl), b1_s, hsz, if_neg (nI_ge hk (by omega))]
  rw [sh_R g0 (a := 84) (k := 2) (b := 85) 7 (by decide) rfl (by decide), b1_s, ld_85 g0 (show k < 40 by omega), b1_s, hcd]
  unfold f_X7_evaluate_87 f_X7_evaluate_46 f_X7_evaluate_124 f_X7_operator f_X7_operator_0
  have hR4 := sh_R g0 (a := 84) (k := 4) (b := 87) 7 (by decide) rfl (by decide)
  rw [hR4, sh_R g0 (a := 84) (k := 5) (b := 88) 7 (by decide) rfl (by decide)]
  simp only [b2_s, bn_s, nI_1, b1_s]
  unfold stepC at hstep
  by_cases c8 : c < -8
  · rw [if_pos c8] at hstep
    rw [if_pos c8]
    by_cases cneg : c = -226
    · rw [if_pos cneg] at hstep
      rw [if_pos (show c = -100 - 126 by rw [cneg]; rfl)]
      cases st with
      | nil => cases hstep
      | cons a r =>
        cases hstep
        have hl2 : r.length + 1 ≤ k := hl
        simp only [List.length_cons]
        rw [if_neg (show ¬ nI (r.length + 1) < 1 from nI_nlt (b := 1) (by omega) (by omega))]
        simp only [hR4, b1_s]
        exact ev_neg g0 f _ (by omega) hsk
    · rw [if_neg cneg] at hstep
      rw [if_neg (show ¬ c = -100 - 126 from fun q => cneg (by rw [q]; rfl))]
      by_cases cop : c = -160 ∨ c = -162 ∨ c = -161 ∨ c = -143 ∨ c = -145 ∨ c = -142 ∨ c = -147
      · rw [if_pos cop] at hstep
        cases st with
        | nil => cases hstep
        | cons b r =>
          cases r with
          | nil => cases hstep
          | cons a r =>
            cases hstep
            have hl2 : r.length + 1 + 1 ≤ k := hl
            simp only [List.length_cons]
            rw [if_neg (show ¬ nI (r.length + 1 + 1) < 2 from nI_nlt (b := 2) (by omega) (by omega))]
            simp only [hR4, b1_s]
            exact ev_bin g0 f _ c (by omega) hsk cop
      · rw [if_neg cop] at hstep; cases hstep
  · rw [if_neg c8] at hstep
    rw [if_neg c8]
    by_cases cz : c < 0
    · rw [if_pos cz] at hstep
      rw [if_pos cz]
      obtain ⟨j, hj, ej⟩ := ev_fix c8 cz
      rw [ej, nI_clamp (by omega)] at hstep
      cases hstep
      rw [ej, ld_88 g0 hj, b1_s, hfc j hj]
      exact ev_push g0 f _ (by omega) hsk
    · rw [if_neg cz] at hstep
      rw [if_neg cz]
      cases hstep
      exact ev_push g0 f _ (by omega) hsk
theorem c_eval {M : MM} (h0 : Sh M) {n : Nat} (hn : n ≤ 40) (hsz : mI M 84 6 = nI n) {fc : Nat → Int32} (hfc : ∀ j, j < 8 → mI M 88 j = fc j) {v : Int32} (hrun : runC fc (mI M 85) n = some [v]) : ∃ r : Int32 × MM, f_X7_evaluate 84 M = some r ∧ (r.1 = v ∧ Fr (fun a k => a = 87) M r.2 ∧ mR r.2 = mR M) := by
  have key : ∃ r : Int32 × MM, f_X7_evaluate_4 1024 84 (nI (gSt (runC fc (mI M 85) 0)).length) (nI 0) M = some r ∧ (r.1 = v ∧ Fr (fun a k => a = 87) M r.2 ∧ mR r.2 = mR M) := by
    refine lpm (fun f k M' => f_X7_evaluate_4 f 84 (nI (gSt (runC fc (mI M 85) k)).length) (nI k) M') (fun k M' => SK M' 87 (gSt (runC fc (mI M 85) k)) ∧ Fr (fun a k => a = 87) M M' ∧ mR M' = mR M) (fun r => r.1 = v ∧ Fr (fun a k => a = 87) M r.2 ∧ mR r.2 = mR M) n (fun f k M' hk hi => Or.inl ?_) (fun f M' hi => ?_) 1024 0 M (by omega) (by omega) ⟨trivial, Fr.rf M, rfl⟩
    · obtain ⟨hsk, hf, hr⟩ := hi
      obtain ⟨st, hst⟩ := runC_pre hrun (show k ≤ n by omega)
      obtain ⟨st2, hst2⟩ := runC_pre hrun (show k + 1 ≤ n by omega)
      have hstep : stepC fc (mI M 85 k) st = some st2 := by rw [runC, hst] at hst2; exact hst2
      rw [hst] at hsk
      obtain ⟨M2, e2, k2, f2, r2⟩ := ev_step (hf.sh' hr h0) hn ((hf.2.2.1 84 6 (by omega)).trans hsz) (fun j hj => (hf.2.2.1 88 j (by omega)).trans (hfc j hj)) hk (hf.2.2.1 85 k (by omega)) (runC_len hst) hsk hstep f
      rw [hst, hst2]
      exact ⟨M2, e2, k2, hf.tr f2, r2.trans hr⟩
    · obtain ⟨hsk, hf, hr⟩ := hi
      have g0 : Sh M' := hf.sh' hr h0
      have hsz' : mI M' 84 6 = nI n := (hf.2.2.1 84 6 (by omega)).trans hsz
      rw [hrun] at hsk
      refine ⟨(v, M'), ?_, rfl, hf, hr⟩
      rw [hrun]
      have e1 : mI M' 87 0 = v := hsk.1
      have e2 : (gSt (some [v])).length = 1 := rfl
      rw [e2, f_X7_evaluate_4, gI_k 6 (sh_O g0 7 (by decide) rfl), b1_s, hsz', if_pos (nI_le (Nat.le_refl _) (by omega)), if_neg (by decide), sh_R g0 (a := 84) (k := 4) (b := 87) 7 (by decide) rfl (by decide), b1_s, ← nI_0, ld_87 g0 (show 0 < 41 by omega), b1_s, e1]
  have z0 : (gSt (runC fc (mI M 85) 0)).length = 0 := rfl
  rw [z0, nI_0] at key
  unfold f_X7_evaluate f_X7_evaluate_0
  rw [if_pos (sh_O h0 7 (by decide) rfl)]
  exact key
/-! the facts of a trip -/
def cnP (q : Pl) (i k : Nat) : Bool := decide (k ≠ i) && oneB (q.2 i) (q.2 k)
def saP (q : Pl) (i k : Nat) : Bool := decide (tw (q.2 k) = tw (q.2 i) ∧ te (q.2 k) = te (q.2 i))
def fcS (s : St) (q : Pl) (i j : Nat) : Int32 := match j with
  | 0 => nI (zwis s (8 * tw (q.2 i) + te (q.2 i)))
  | 1 => nI (zlen s (te (q.2 i)))
  | 2 => nI (ts (q.2 i))
  | 3 => nI (fb_ct (cnP q i) q.1)
  | 4 => nI (tw (q.2 i))
  | 5 => nI (te (q.2 i))
  | 6 => nI (zshy s (tw (q.2 i)))
  | _ => bI (anyB (saP q i) i)
def clp (x : Int32) : Int32 := maxI (-999) (minI 999 x)
def worS (s : St) (q : Pl) (i : Nat) : Int32 := if (zrule s).1 = 0 then nI (zwis s (8 * tw (q.2 i) + te (q.2 i))) else clp ((zrule s).2 (fcS s q i))
section WOC
variable {s : St} {M : MM} {q : Pl}
theorem e_getW (h0 : Sh M) (hh : rcHall s M) (hn : WFn s) {p e : Nat} (hp : p < zP s) (he : e < zE s) : f_X9_getWish 5 (nI p) (nI e) M = some (nI (zwis s (8 * p + e)), M) := by
  have hP := hn.1
  have hE := hn.2.1
  have oO := sh_O h0 (a := 5) 9 (by decide) rfl
  unfold f_X9_getWish f_X9_getWish_0 f_X9_hasPerson f_X9_hasPerson_0 f_X9_hasErrand f_X9_hasErrand_0
  simp only [oO, if_true, gI_k 7 oO, gI_k 8 oO, b1_s, hh.1, hh.2.1, rz1, rz0, if_neg (nI_pos (show p < 2 ^ 31 by omega)), if_neg (nI_pos (show e < 2 ^ 31 by omega)), if_neg (nI_ge hp (show zP s < 2 ^ 31 by omega)), if_neg (nI_ge he (show zE s < 2 ^ 31 by omega)), b2_s, cCR h0]
  rw [if_neg (by decide), if_neg (by decide), nm8, nI_add, ld_13 h0 (by omega), b1_s, hh.2.2.2.2.2.1 p e hp (by omega)]
theorem f88 {M : MM} (h0 : Sh M) {j : Nat} (hj : j < 8) (v : Int32) : ∃ M1, stI 88 (nI j) v M = some M1 ∧ Sh M1 ∧ mI M1 88 j = v ∧ (∀ k, k ≠ j → mI M1 88 k = mI M 88 k) ∧ Fr (fun a k => a = 88) M M1 ∧ mR M1 = mR M := ⟨sI M 88 j v, st_88 h0 v hj, h0, by rw [mI_w, if_pos ⟨rfl, rfl⟩], fun k hk => by rw [mI_w, if_neg (fun q => hk q.2)], (Fr.rf M).sI rfl, rfl⟩
theorem of_219 (h0 : Sh M) {n : Nat} (hn : n ≤ 40) (hsz : mI M 84 6 = nI n) {fc : Nat → Int32} (hfc : ∀ j, j < 6 → mI M 88 j = fc j) {v : Int32} (hrun : runC fc (mI M 85) n = some [v]) (x6 x7 : Int32) (e6 : x6 = fc 6) (e7 : x7 = fc 7) : ∃ M', f_X7_of_219 84 x7 x6 6 88 M = some (clp v, M') ∧ Fr (fun a k => a = 87 ∨ a = 88) M M' ∧ mR M' = mR M := by
  unfold f_X7_of_219
  obtain ⟨M1, s1, g1, v1, o1, f1, r1⟩ := f88 h0 (show 6 < 8 by decide) x6
  obtain ⟨M2, s2, g2, v2, o2, f2, r2⟩ := f88 g1 (show 7 < 8 by decide) x7
  obtain ⟨r, e, er, hf, hr⟩ := c_eval g2 hn (((f1.tr f2).2.2.1 84 6 (by omega)).trans hsz) (fc := fc) (v := v) (fun j hj => by
    by_cases h7 : j = 7
    · rw [h7, v2, e7]
    · rw [o2 j h7]
      by_cases h6 : j = 6
      · rw [h6, v1, e6]
      · rw [o1 j h6]; exact hfc j (by omega)) (by
    rw [← hrun]
    exact runC_eq (fun k _ => (f1.tr f2).2.2.1 85 k (by omega)))
  rw [show (6 : Int32) = nI 6 from rfl, s1, b1_s, sh_R g1 (a := 84) (k := 5) (b := 88) 7 (by decide) rfl (by decide), b1_s, show (7 : Int32) = nI 7 from rfl, s2, b1_s, e]
  refine ⟨r.2, ?_, ((f1.tr f2).mono (fun a k q => Or.inr q)).tr (hf.mono (fun a k q => Or.inl q)), hr.trans (r2.trans r1)⟩
  show some (clp r.1, r.2) = _
  rw [er]
theorem of_end (h : CX s M 14 q) {n : Nat} (hn : n ≤ 40) (hsz : mI M 84 6 = nI n) {i : Nat} (hi : i < q.1) {v : Int32} (hrun : runC (fcS s q i) (mI M 85) n = some [v]) : ∃ M', (∀ f, f_X7_of_54 (f + 1) 84 (nI i) (nI (tw (q.2 i))) (nI (te (q.2 i))) (nI (ts (q.2 i))) (nI (fb_ct (cnP q i) q.1)) (bI (anyB (saP q i) i)) (nI q.1) M = some (clp v, M')) ∧ Fr (fun a k => a = 87 ∨ a = 88) M M' ∧ mR M' = mR M := by
  have h0 := h.1
  have h12 := h.2.2.2.2.2.2.1
  have hb := okT_b (h.2.2.2.2.2.2.2 i hi)
  have hy := h.2.2.2.1.1 _ hb.2.1
  have hR5 : ∀ {M : MM}, Sh M → gR 7 5 84 M = some 88 := fun g => sh_R g (a := 84) 7 (by decide) rfl (by decide)
  have hR0 : ∀ {M : MM}, Sh M → gR 7 0 84 M = some 5 := fun g => sh_R g (a := 84) 7 (by decide) rfl (by decide)
  have hR1 : ∀ {M : MM}, Sh M → gR 7 1 84 M = some 14 := fun g => sh_R g (a := 84) 7 (by decide) rfl (by decide)
  have hS0 : ∀ {M : MM}, Sh M → gR 9 0 5 M = some 6 := fun g => sh_R g (a := 5) 9 (by decide) rfl (by decide)
  obtain ⟨M0, s0, g0, v0, o0, f0, r0⟩ := f88 h0 (show 0 < 8 by decide) (nI (zwis s (8 * tw (q.2 i) + te (q.2 i))))
  obtain ⟨M1, s1, g1, v1, o1, f1, r1⟩ := f88 g0 (show 1 < 8 by decide) (nI (zlen s (te (q.2 i))))
  obtain ⟨M2, s2, g2, v2, o2, f2, r2⟩ := f88 g1 (show 2 < 8 by decide) (nI (ts (q.2 i)))
  obtain ⟨M3, s3, g3, v3, o3, f3, r3⟩ := f88 g2 (show 3 < 8 by decide) (nI (fb_ct (cnP q i) q.1))
  obtain ⟨M4, s4, g4, v4, o4, f4, r4⟩ := f88 g3 (show 4 < 8 by decide) (nI (tw (q.2 i)))
  obtain ⟨M5, s5, g5, v5, o5, f5, r5⟩ := f88 g4 (show 5 < 8 by decide) (nI (te (q.2 i)))
  have f05 := ((((f0.tr f1).tr f2).tr f3).tr f4).tr f5
  have hshy : nI (zshy s (tw (q.2 i))) = if zshy s (tw (q.2 i)) = 0 then 0 else 1 := by
    by_cases hz : zshy s (tw (q.2 i)) = 0
    · rw [if_pos hz, hz]; rfl
    · rw [if_neg hz, show zshy s (tw (q.2 i)) = 1 by omega]; rfl
  obtain ⟨M', e, hf, hr⟩ := of_219 g5 hn ((f05.2.2.1 84 6 (by omega)).trans hsz) (fc := fcS s q i) (v := v) (fun j hj => by
    match j, hj with
    | 0, _ => rw [o5 _ (by decide), o4 _ (by decide), o3 _ (by decide), o2 _ (by decide), o1 _ (by decide), v0]; rfl
    | 1, _ => rw [o5 _ (by decide), o4 _ (by decide), o3 _ (by decide), o2 _ (by decide), v1]; rfl
    | 2, _ => rw [o5 _ (by decide), o4 _ (by decide), o3 _ (by decide), v2]; rfl
    | 3, _ => rw [o5 _ (by decide), o4 _ (by decide), v3]; rfl
    | 4, _ => rw [o5 _ (by decide), v4]; rfl
    | 5, _ => rw [v5]; rfl
    | n + 6, h => omega) (by
    rw [← hrun]
    exact runC_eq (fun k _ => f05.2.2.1 85 k (by omega))) (nI (zshy s (tw (q.2 i)))) (bI (anyB (saP q i) i)) rfl rfl
  refine ⟨M', fun f => ?_, (f05.mono (fun a k q => Or.inr q)).tr hf, hr.trans (r5.trans (r4.trans (r3.trans (r2.trans (r1.trans r0)))))⟩
  rw [f_X7_of_54, hR1 h0, b1_s, c_size h, b1_s, if_pos (nI_le (Nat.le_refl _) (by omega)), hR5 h0, b1_s, hR0 h0, b1_s, e_getW h.1 h.2.1 h.2.2.1 hb.2.1 hb.2.2.1, b2_s, show (0 : Int32) = nI 0 from rfl, s0, b1_s, hR5 g0, b1_s, hR0 g0, b1_s, e_len g0 (h.2.1.fr f0 (fun a k q => by omega)) h.2.2.1 hb.2.2.1, b2_s, show (1 : Int32) = nI 1 from rfl, s1, b1_s, hR5 g1, b1_s, show (2 : Int32) = nI 2 from rfl, s2, b1_s, hR5 g2, b1_s, show (3 : Int32) = nI 3 from rfl, s3, b1_s, hR5 g3, b1_s, show (4 : Int32) = nI 4 from rfl, s4, b1_s, hR5 g4, b1_s, show (5 : Int32) = nI 5 from rfl, s5, b1_s, hR5 g5, b1_s, hR0 g5, b1_s, hS0 g5, b1_s, lc_shy g5 (h.2.1.fr f05 (fun a k q => by omega)) h.2.2.1 hb.2.1, b1_s]
  rw [hshy] at e
  by_cases hz : zshy s (tw (q.2 i)) = 0
  · rw [hz, if_pos rfl]
    rw [if_pos hz] at e
    exact e
  · have h1 : zshy s (tw (q.2 i)) = 1 := by omega
    rw [h1, if_neg (by decide)]
    rw [if_neg hz] at e
    exact e
end WOC

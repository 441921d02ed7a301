/-! CALLS: tight, chance -/
theorem c_lfs {s : St} {M : MM} (hw : WF s) (h : RC s M) : ∃ M', f_X1_lookForSlack 18 M = some M' ∧ RC s M' ∧ (∀ i, i < (zplan s).1 → mI M' 25 i = slvS s (zplan s) i) ∧ Fr (fun a k => a = 25) M M' ∧ mR M' = mR M := by
  have h0 := h.1
  have h12 := hw.2.2.2.2.1.1
  have hl : LX 18 14 := Or.inl ⟨rfl, rfl⟩
  obtain ⟨f', M', e, ⟨i1, i2, i3⟩⟩ := lpg (fun f k N => f_X1_lookForSlack_2 f 18 (nI k) N) (fun k N => (∀ i, i < k → mI N 25 i = slvS s (zplan s) i) ∧ Fr (fun a k => a = 25) M N ∧ mR N = mR M) (zplan s).1 (fun f k N hk hi => by
    have sN := hi.2.1.sh' hi.2.2 h0
    have cN : RC s N := h.fr (hi.2.1.mono (fun a k q => by unfold wC; omega)) sN
    have xN := cN.cx hw
    refine ⟨sI N 25 k (slvS s (zplan s) k), ?_, fun i hik => ?_, hi.2.1.sI rfl, hi.2.2⟩
    · show f_X1_lookForSlack_2 (f + 1) _ _ _ = _
      rw [f_X1_lookForSlack_2, lx_1 sN hl, b1_s, c_size xN, b1_s, if_neg (nI_ge hk (by omega)), (lx_f sN hl).2.2.2.2.2.2.1, b1_s, c_slack xN hl hk, b2_s]
      show b1 (stI 25 (nI k) _ N) _ = _
      rw [st_25 sN _ (by omega), b1_s, bn_s, nI_1]
    · rw [mI_w]
      by_cases hik2 : i = k
      · rw [if_pos ⟨rfl, hik2⟩, hik2]
      · rw [if_neg (fun q => hik2 q.2)]; exact hi.1 i (by omega)) 1024 0 M (by omega) (by omega) ⟨fun i hi => absurd hi (Nat.not_lt_zero i), Fr.rf M, rfl⟩
  have s' := i2.sh' i3 h0
  have c' : RC s M' := h.fr (i2.mono (fun a k q => by unfold wC; omega)) s'
  refine ⟨M', ?_, c', i1, i2, i3⟩
  unfold f_X1_lookForSlack f_X1_lookForSlack_0
  rw [if_pos (lx_O h0 hl), ← nI_0]
  refine e.trans ?_
  show f_X1_lookForSlack_2 (f' + 1) _ _ _ = _
  rw [f_X1_lookForSlack_2, lx_1 s' hl, b1_s, c_size (c'.cx hw), b1_s, if_pos (nI_le (Nat.le_refl _) (by omega))]
def lwB (s : St) (i : Nat) : Bool := decide (whyS s (zplan s) i = 0)
def slN (s : St) (i : Nat) : Nat := slkS s (zplan s) i
theorem slv_t {s : St} {i : Nat} (h : lwB s i = true) : slvS s (zplan s) i = nI (slN s i) := if_pos (of_decide_eq_true h)
theorem slv_f {s : St} {i : Nat} (h : lwB s i = false) : slvS s (zplan s) i = -1 := if_neg (of_decide_eq_false h)
def tlF (g : Nat → Nat) (P : Nat → Bool) : Nat → Option Nat
  | 0 => none
  | k + 1 => if P k = true then (match tlF g P k with
      | none => some k
      | some j => if g k < g j then some k else some j) else tlF g P k
def tmF (g : Nat → Nat) (P : Nat → Bool) : Nat → Option Nat
  | 0 => none
  | k + 1 => if P k = true then (match tmF g P k with
      | none => some k
      | some j => if g j < g k then some k else some j) else tmF g P k
theorem tlF_t {g : Nat → Nat} {P : Nat → Bool} {k : Nat} (h : P k = true) : tlF g P (k + 1) = (match tlF g P k with
      | none => some k
      | some j => if g k < g j then some k else some j) := if_pos h
theorem tlF_f {g : Nat → Nat} {P : Nat → Bool} {k : Nat} (h : P k = false) : tlF g P (k + 1) = tlF g P k := if_neg (by rw [h]; decide)
theorem tmF_t {g : Nat → Nat} {P : Nat → Bool} {k : Nat} (h : P k = true) : tmF g P (k + 1) = (match tmF g P k with
      | none => some k
      | some j => if g j < g k then some k else some j) := if_pos h
theorem tmF_f {g : Nat → Nat} {P : Nat → Bool} {k : Nat} (h : P k = false) : tmF g P (k + 1) = tmF g P k := if_neg (by rw [h]; decide)
theorem tlF_b {g : Nat → Nat} {P : Nat → Bool} : ∀ {k j}, tlF g P k = some j → j < k ∧ P j = true
  | 0, j, h => by cases h
  | k + 1, j, h => by
    cases hp : P k with
    | false => rw [tlF_f hp] at h; have := tlF_b h; exact ⟨by omega, this.2⟩
    | true =>
      rw [tlF_t hp] at h
      cases ht : tlF g P k with
      | none => rw [ht] at h; cases h; exact ⟨by omega, hp⟩
      | some i =>
        rw [ht] at h
        have := tlF_b ht
        by_cases hc : g k < g i
        · have h' : some k = some j := by have := h; simp only [hc, if_true] at this; exact this
          cases h'; exact ⟨by omega, hp⟩
        · have h' : some i = some j := by have := h; simp only [hc, if_false] at this; exact this
          cases h'; exact ⟨by omega, this.2⟩
theorem tmF_b {g : Nat → Nat} {P : Nat → Bool} : ∀ {k j}, tmF g P k = some j → j < k ∧ P j = true
  | 0, j, h => by cases h
  | k + 1, j, h => by
    cases hp : P k with
    | false => rw [tmF_f hp] at h; have := tmF_b h; exact ⟨by omega, this.2⟩
    | true =>
      rw [tmF_t hp] at h
      cases ht : tmF g P k with
      | none => rw [ht] at h; cases h; exact ⟨by omega, hp⟩
      | some i =>
        rw [ht] at h
        have := tmF_b ht
        by_cases hc : g i < g k
        · have h' : some k = some j := by have := h; simp only [hc, if_true] at this; exact this
          cases h'; exact ⟨by omega, hp⟩
        · have h' : some i = some j := by have := h; simp only [hc, if_false] at this; exact this
          cases h'; exact ⟨by omega, this.2⟩
theorem tlm {g : Nat → Nat} {P : Nat → Bool} : ∀ k, tlF g P k = none ↔ tmF g P k = none
  | 0 => ⟨fun _ => rfl, fun _ => rfl⟩
  | k + 1 => by
    cases hp : P k with
    | false => rw [tlF_f hp, tmF_f hp]; exact tlm k
    | true =>
      rw [tlF_t hp, tmF_t hp]
      constructor
      · intro h
        cases ht : tlF g P k with
        | none => rw [ht] at h; cases h
        | some i =>
          rw [ht] at h
          by_cases hc : g k < g i
          · simp only [hc, if_true] at h; cases h
          · simp only [hc, if_false] at h; cases h
      · intro h
        cases ht : tmF g P k with
        | none => rw [ht] at h; cases h
        | some i =>
          rw [ht] at h
          by_cases hc : g i < g k
          · simp only [hc, if_true] at h; cases h
          · simp only [hc, if_false] at h; cases h
def enO (d : Int32) (o : Option Nat) : Int32 := match o with
  | none => d
  | some j => nI j
def a_tight (s : St) : Int32 := enO (-2) (tlF (slN s) (lwB s) (zplan s).1)
def n_tight (s : St) : St := match tlF (slN s) (lwB s) (zplan s).1, tmF (slN s) (lwB s) (zplan s).1 with
  | some i, some j => zsrow s (rowOf [Int32.toInt64 (nI (slN s i)), Int32.toInt64 (nI j), Int32.toInt64 (nI (slN s j))])
  | _, _ => s
theorem W_tight {s : St} (hw : WF s) : WF (n_tight s) := by
  unfold n_tight
  split
  · exact WF_row hw (by show 3 ≤ 8; decide)
  · exact hw
theorem C_tight {s : St} (hw : WF s) : OpC (fun M => f_X11_tight 0 M) s (a_tight s) (n_tight s) := by
  intro M h
  have h0 := h.1
  have h12 := hw.2.2.2.2.1.1
  have hl : LX 18 14 := Or.inl ⟨rfl, rfl⟩
  obtain ⟨M1, e1, c1, v1, f1, r1⟩ := c_lfs hw h
  have s1 := c1.1
  have x1 := c1.cx hw
  have hR5 := sh_R s1 (a := 0) (k := 5) (b := 18) 11 (by decide) rfl (by decide)
  have hR3 := sh_R s1 (a := 0) (k := 3) (b := 14) 11 (by decide) rfl (by decide)
  have g8 : gR 1 8 18 M1 = some 25 := (lx_f s1 hl).2.2.2.2.2.2.1
  have ld : ∀ i, i < (zplan s).1 → ldI 25 (nI i) M1 = some (slvS s (zplan s) i) := fun i hi => by rw [ld_25 s1 (by omega), v1 i hi]
  have sb : ∀ i, slN s i ≤ 99 := fun i => slk_b hw.1 (zplan s) i
  have f1' : Fr cW M M1 := f1.mono (fun a k q => by unfold cW; omega)
  show ∃ M', f_X11_tight 0 M = _ ∧ _
  unfold f_X11_tight f_X11_tight_0
  rw [if_pos (sh_O h0 11 (by decide) rfl), sh_R h0 (a := 0) (k := 5) (b := 18) 11 (by decide) rfl (by decide), b1_s, e1, b1_s]
  have step : ∀ f k, k < (zplan s).1 → f_X11_tight_13 (f + 1) 0 (enO (-1) (tlF (slN s) (lwB s) k)) (enO (-1) (tmF (slN s) (lwB s) k)) (nI k) M1 = f_X11_tight_13 f 0 (enO (-1) (tlF (slN s) (lwB s) (k + 1))) (enO (-1) (tmF (slN s) (lwB s) (k + 1))) (nI (k + 1)) M1 := by
    intro f k hk
    have q0 := sb k
    rw [f_X11_tight_13, hR3, b1_s, c_size x1, b1_s, if_neg (nI_ge hk (by omega)), hR5, b1_s, g8, b1_s, ld k hk, b1_s]
    cases hp : lwB s k with
    | false =>
      rw [slv_f hp, if_pos (by decide), tlF_f hp, tmF_f hp]
      unfold f_X11_tight_90
      rw [bn_s, nI_1]
    | true =>
      rw [slv_t hp, if_neg (nI_pos (by omega)), tlF_t hp, tmF_t hp]
      have key : ∀ K x, f_X11_tight_64 K 0 (enO (-1) (tmF (slN s) (lwB s) k)) (nI k) (nI (slN s k)) x M1 = K 0 x (enO (-1) (match tmF (slN s) (lwB s) k with
          | none => some k
          | some j => if slN s j < slN s k then some k else some j)) (nI (k + 1)) M1 := by
        intro K x
        unfold f_X11_tight_64 f_X11_tight_84 f_X11_tight_89 f_X11_tight_90
        cases ht : tmF (slN s) (lwB s) k with
        | none => rw [if_pos (show enO (-1) none = -1 from rfl), bn_s, nI_1]; rfl
        | some j =>
          have hj := tmF_b ht
          have q1 := sb j
          show (if nI j = -1 then _ else _) = _
          rw [if_neg (nI_m1 (by omega)), hR5, b1_s, g8, b1_s]
          show b1 (ldI 25 (nI j) M1) _ = _
          rw [ld j (by omega), b1_s, slv_t hj.2]
          show _ = K 0 x (enO (-1) (if slN s j < slN s k then some k else some j)) (nI (k + 1)) M1
          by_cases hc : slN s j < slN s k
          · rw [if_neg (nI_ge hc (by omega)), bn_s, nI_1, if_pos hc]; rfl
          · rw [if_pos (nI_le (by omega) (by omega)), bn_s, nI_1, if_neg hc]
      unfold f_X11_tight_59
      cases ht : tlF (slN s) (lwB s) k with
      | none => rw [if_pos (show enO (-1) none = -1 from rfl), key]; rfl
      | some j =>
        have hj := tlF_b ht
        have q1 := sb j
        show (if nI j = -1 then _ else _) = _
        rw [if_neg (nI_m1 (by omega)), b1_s, g8, b1_s]
        show b1 (ldI 25 (nI j) M1) _ = _
        rw [ld j (by omega), b1_s, slv_t hj.2]
        show _ = f_X11_tight_13 f 0 (enO (-1) (if slN s k < slN s j then some k else some j)) _ (nI (k + 1)) M1
        by_cases hc : slN s k < slN s j
        · rw [if_neg (nI_ge hc (by omega)), key, if_pos hc]; rfl
        · rw [if_pos (nI_le (by omega) (by omega))]
          show f_X11_tight_64 _ 0 _ _ _ (nI j) M1 = _
          rw [key, if_neg hc]; rfl
  have fin : ∀ r, (∀ f, f_X11_tight_13 (f + 1) 0 (enO (-1) (tlF (slN s) (lwB s) (zplan s).1)) (enO (-1) (tmF (slN s) (lwB s) (zplan s).1)) (nI (zplan s).1) M1 = some r) → f_X11_tight_13 1024 0 (-1) (-1) 0 M1 = some r := by
    intro r hr
    have := lpv (fun f k => f_X11_tight_13 f 0 (enO (-1) (tlF (slN s) (lwB s) k)) (enO (-1) (tmF (slN s) (lwB s) k)) (nI k) M1) (zplan s).1 r (fun f k hk => Or.inl (step f k hk)) hr 1024 0 (by omega) (by omega)
    rw [nI_0] at this
    exact this
  have hend : ∀ f x y, f_X11_tight_13 (f + 1) 0 x y (nI (zplan s).1) M1 = if x = (-1 : Int32) then some ((-2 : Int32), M1) else if y = (-1 : Int32) then some ((-2 : Int32), M1) else b1 (gR 11 1 0 M1) fun v3 => b1 (gR 11 5 0 M1) fun v4 => b1 (gR 1 8 v4 M1) fun v5 => b1 (ldI v5 x M1) fun v6 => b1 (gR 11 5 0 M1) fun v7 => b1 (gR 1 8 v7 M1) fun v8 => b1 (ldI v8 y M1) fun v9 => b1 (f_X6_three v3 (Int32.toInt64 v6) (Int32.toInt64 y) (Int32.toInt64 v9) M1) fun M10 => some (x, M10) := by
    intro f x y
    rw [f_X11_tight_13, hR3, b1_s, c_size x1, b1_s, if_pos (nI_le (Nat.le_refl _) (by omega))]
  unfold a_tight n_tight
  cases ht : tlF (slN s) (lwB s) (zplan s).1 with
  | none =>
    refine ⟨M1, fin _ (fun f => ?_), c1, f1'⟩
    rw [hend, ht, if_pos (show enO (-1) none = -1 from rfl)]; rfl
  | some i =>
    cases ht2 : tmF (slN s) (lwB s) (zplan s).1 with
    | none => rw [(tlm _).mpr ht2] at ht; cases ht
    | some j =>
      have hi := tlF_b ht
      have hj := tmF_b ht2
      obtain ⟨M2, e2, w2, f2, r2⟩ := c_three s1 (Int32.toInt64 (nI (slN s i))) (Int32.toInt64 (nI j)) (Int32.toInt64 (nI (slN s j)))
      refine ⟨M2, fin _ (fun f => ?_), c1.row f2 r2 w2, f1'.tr (wRow_cW f2)⟩
      rw [hend, ht, ht2]
      show (if nI i = -1 then _ else if nI j = -1 then _ else _) = _
      rw [if_neg (nI_m1 (by omega)), if_neg (nI_m1 (by omega)), sh_R s1 (a := 0) (k := 1) (b := 3) 11 (by decide) rfl (by decide), b1_s, hR5, b1_s, g8, b1_s]
      show b1 (ldI 25 (nI i) M1) _ = _
      rw [ld i hi.1, b1_s, b1_s, g8, b1_s]
      show b1 (ldI 25 (nI j) M1) _ = _
      rw [ld j hj.1, b1_s, slv_t hi.2, slv_t hj.2]
      show b1 (f_X6_three 3 (nI (slN s i)).toInt64 (nI j).toInt64 (nI (slN s j)).toInt64 M1) _ = _
      rw [e2, b1_s]
      rfl
theorem R_tight {s : St} (hw : WF s) : OpR (fun M => f_X12_tight 143 M) s (a_tight s) (n_tight s) := by
  intro M h
  obtain ⟨N, et, ht, ft, rt, t0, l0⟩ := r_thr0 h
  have h0 := ht.1
  have h12 := hw.2.2.2.2.1.1
  have hx := ht.rx hw
  have hR := sh_R h0 (a := 143) (k := 15) (b := 153) 12 (by decide) rfl (by decide)
  have sb : ∀ i, slN s i ≤ 99 := fun i => slk_b hw.1 (zplan s) i
  have sl : ∀ i, i < (zplan s).1 → lwB s i = true → f_X12_slackOf 143 (nI i) N = some (nI (slN s i), N) := fun i hi hp => r_slack hx hi (of_decide_eq_true hp)
  show ∃ M', f_X12_tight 143 M = _ ∧ _
  unfold f_X12_tight f_X12_tight_0
  rw [if_pos (sh_O h.1 12 (by decide) rfl), et, b1_s]
  have step : ∀ f k, k < (zplan s).1 → f_X12_tight_13 (f + 1) 143 (enO (-2) (tlF (slN s) (lwB s) k)) (enO (-2) (tmF (slN s) (lwB s) k)) (nI k) N = f_X12_tight_13 f 143 (enO (-2) (tlF (slN s) (lwB s) (k + 1))) (enO (-2) (tmF (slN s) (lwB s) (k + 1))) (nI (k + 1)) N := by
    intro f k hk
    have q0 := sb k
    rw [f_X12_tight_13, hR, b1_s, r_size hx, b1_s, if_neg (nI_ge hk (by omega)), r_law hx hk, b2_s]
    show (if bI (lwB s k) = 0 then _ else _) = _
    cases hp : lwB s k with
    | false =>
      rw [if_pos (show bI false = 0 from rfl), tlF_f hp, tmF_f hp]
      unfold f_X12_tight_78
      rw [bn_s, nI_1]
    | true =>
      rw [if_neg (show ¬ bI true = 0 by decide), tlF_t hp, tmF_t hp]
      have key : ∀ K x, f_X12_tight_54 K 143 (enO (-2) (tmF (slN s) (lwB s) k)) (nI k) x N = K 143 x (enO (-2) (match tmF (slN s) (lwB s) k with
          | none => some k
          | some j => if slN s j < slN s k then some k else some j)) (nI (k + 1)) N := by
        intro K x
        unfold f_X12_tight_54 f_X12_tight_72 f_X12_tight_77 f_X12_tight_78
        cases ht : tmF (slN s) (lwB s) k with
        | none => rw [if_pos (show enO (-2) none < 0 by decide), bn_s, nI_1]; rfl
        | some j =>
          have hj := tmF_b ht
          have q1 := sb j
          show (if nI j < 0 then _ else _) = _
          rw [if_neg (nI_pos (by omega)), sl k hk hp, b2_s]
          show b2 (f_X12_slackOf 143 (nI j) N) _ = _
          rw [sl j (by omega) hj.2, b2_s]
          show _ = K 143 x (enO (-2) (if slN s j < slN s k then some k else some j)) (nI (k + 1)) N
          by_cases hc : slN s j < slN s k
          · rw [if_neg (nI_ge hc (by omega)), bn_s, nI_1, if_pos hc]; rfl
          · rw [if_pos (nI_le (by omega) (by omega)), bn_s, nI_1, if_neg hc]
      unfold f_X12_tight_49
      cases ht : tlF (slN s) (lwB s) k with
      | none => rw [if_pos (show enO (-2) none < 0 by decide), key]; rfl
      | some j =>
        have hj := tlF_b ht
        have q1 := sb j
        show (if nI j < 0 then _ else _) = _
        rw [if_neg (nI_pos (by omega)), sl k hk hp, b2_s]
        show b2 (f_X12_slackOf 143 (nI j) N) _ = _
        rw [sl j (by omega) hj.2, b2_s]
        show _ = f_X12_tight_13 f 143 (enO (-2) (if slN s k < slN s j then some k else some j)) _ (nI (k + 1)) N
        by_cases hc : slN s k < slN s j
        · rw [if_neg (nI_ge hc (by omega)), key, if_pos hc]; rfl
        · rw [if_pos (nI_le (by omega) (by omega))]
          show f_X12_tight_54 _ 143 _ _ (nI j) N = _
          rw [key, if_neg hc]; rfl
  have fin : ∀ r, (∀ f, f_X12_tight_13 (f + 1) 143 (enO (-2) (tlF (slN s) (lwB s) (zplan s).1)) (enO (-2) (tmF (slN s) (lwB s) (zplan s).1)) (nI (zplan s).1) N = some r) → f_X12_tight_13 1024 143 (-2) (-2) 0 N = some r := by
    intro r hr
    have := lpv (fun f k => f_X12_tight_13 f 143 (enO (-2) (tlF (slN s) (lwB s) k)) (enO (-2) (tmF (slN s) (lwB s) k)) (nI k) N) (zplan s).1 r (fun f k hk => Or.inl (step f k hk)) hr 1024 0 (by omega) (by omega)
    rw [nI_0] at this
    exact this
  unfold a_tight n_tight
  cases ht1 : tlF (slN s) (lwB s) (zplan s).1 with
  | none =>
    refine ⟨N, fin _ (fun f => ?_), ht, ft, rt⟩
    rw [f_X12_tight_13, hR, b1_s, r_size hx, b1_s, if_pos (nI_le (Nat.le_refl _) (by omega)), ht1, if_neg (show ¬ (0 : Int32) ≤ enO (-2) none by decide)]; rfl
  | some i =>
    cases ht2 : tmF (slN s) (lwB s) (zplan s).1 with
    | none => rw [(tlm _).mpr ht2] at ht1; cases ht1
    | some j =>
      have hi := tlF_b ht1
      have hj := tmF_b ht2
      obtain ⟨M1, e1, w1, f1, r1⟩ := r_clr h0
      have s1 := f1.sh' r1 h0
      have x1 : RX s M1 153 (zplan s) := hx.frx f1 s1 (fun b k q => by unfold wRoR; omega)
      obtain ⟨M2, e2, w2, f2, r2⟩ := r_ent s1 w1 (by decide) (Int32.toInt64 (nI (slN s i)))
      have s2 := f2.sh' r2 s1
      obtain ⟨M3, e3, w3, f3, r3⟩ := r_ent s2 w2 (by simp) (Int32.toInt64 (nI j))
      have s3 := f3.sh' r3 s2
      have x3 : RX s M3 153 (zplan s) := hx.frx ((f1.tr f2).tr f3) s3 (fun b k q => by unfold wRoR; omega)
      obtain ⟨M4, e4, w4, f4, r4⟩ := r_ent s3 w3 (by simp) (Int32.toInt64 (nI (slN s j)))
      have f5 := ((f1.tr f2).tr f3).tr f4
      have r5 := r4.trans (r3.trans (r2.trans r1))
      refine ⟨M4, fin _ (fun f => ?_), ht.row f5 r5 w4, ft.tr (wRoR_rW f5), r5.trans rt⟩
      rw [f_X12_tight_13, hR, b1_s, r_size hx, b1_s, if_pos (nI_le (Nat.le_refl _) (by omega)), ht1, ht2]
      show (if (0 : Int32) ≤ nI i then _ else _) = _
      rw [if_pos (nI_pos' (by omega)), e1, b1_s]
      show b2 (f_X12_slackOf 143 (nI i) M1) _ = _
      have g1 : f_X12_slackOf 143 (nI i) M1 = some (nI (slN s i), M1) := r_slack x1 hi.1 (of_decide_eq_true hi.2)
      have g3 : f_X12_slackOf 143 (nI j) M3 = some (nI (slN s j), M3) := r_slack x3 hj.1 (of_decide_eq_true hj.2)
      rw [g1, b2_s, e2, b1_s]
      show b1 (f_X12_enters 143 (nI j).toInt64 M2) _ = _
      rw [e3, b1_s]
      show b2 (f_X12_slackOf 143 (nI j) M3) _ = _
      rw [g3, b2_s, e4, b1_s]
theorem case_36 : CaseOK g_L_36 := by
  intro L xs j K M hL hj hc
  obtain ⟨s, hw, hc, hr⟩ := hc
  obtain ⟨M1, M2, hcp, e1, e2⟩ := asm (C_tight hw) (R_tight hw) (W_tight hw) hc hr
  refine ⟨M2, hcp, ?_⟩
  unfold g_L_36
  simp only [show (nI j + 1 : Int32) = nI (j + 1) from nI_add _ 1, show (nI j + 2 : Int32) = nI (j + 2) from nI_add _ 2, show (nI j + 3 : Int32) = nI (j + 3) from nI_add _ 3, show (nI j + 4 : Int32) = nI (j + 4) from nI_add _ 4, scr_k (show j + 1 < L by omega) hL, scr_k (show j + 2 < L by omega) hL, scr_k (show j + 3 < L by omega) hL, scr_k (show j + 4 < L by omega) hL, b1_s, e1, e2, b2_s, if_true]

/-! LOOPS -/
theorem lpv {R : Type} (F : Nat → Nat → Option R) (n : Nat) (r : R) (hs : ∀ f k, k < n → F (f + 1) k = F f (k + 1) ∨ F (f + 1) k = some r) (he : ∀ f, F (f + 1) n = some r) : ∀ f k, k ≤ n → n < f + k → F f k = some r := by
  intro f
  induction f with
  | zero => intro k h1 h2; omega
  | succ f ih =>
    intro k h1 h2
    by_cases hk : k = n
    · subst hk; exact he f
    · rcases hs f k (by omega) with h | h
      · rw [h]; exact ih (k + 1) (by omega) (by omega)
      · exact h
theorem lpi {R : Type} (F : Nat → Nat → Option R) (I : Nat → Prop) (n : Nat) (r : R) (hs : ∀ f k, k < n → I k → (F (f + 1) k = F f (k + 1) ∧ I (k + 1)) ∨ F (f + 1) k = some r) (he : ∀ f, I n → F (f + 1) n = some r) : ∀ f k, k ≤ n → n < f + k → I k → F f k = some r := by
  intro f
  induction f with
  | zero => intro k h1 h2; omega
  | succ f ih =>
    intro k h1 h2 hi
    by_cases hk : k = n
    · subst hk; exact he f hi
    · rcases hs f k (by omega) hi with h | h
      · rw [h.1]; exact ih (k + 1) (by omega) (by omega) h.2
      · exact h
theorem lpm {R : Type} (F : Nat → Nat → MM → Option R) (I : Nat → MM → Prop) (Q : R → Prop) (n : Nat) (hs : ∀ f k M, k < n → I k M → (∃ M', F (f + 1) k M = F f (k + 1) M' ∧ I (k + 1) M') ∨ ∃ r, F (f + 1) k M = some r ∧ Q r) (he : ∀ f M, I n M → ∃ r, F (f + 1) n M = some r ∧ Q r) : ∀ f k M, k ≤ n → n < f + k → I k M → ∃ r, F f k M = some r ∧ Q r := by
  intro f
  induction f with
  | zero => intro k M h1 h2; omega
  | succ f ih =>
    intro k M h1 h2 hi
    by_cases hk : k = n
    · subst hk; exact he f M hi
    · rcases hs f k M (by omega) hi with ⟨M', h, hi'⟩ | h
      · rw [h]; exact ih (k + 1) M' (by omega) (by omega) hi'
      · exact h
def anyB (P : Nat → Bool) : Nat → Bool
  | 0 => false
  | k + 1 => anyB P k || P k
theorem anyB_t {P : Nat → Bool} {k : Nat} (hk : P k = true) : ∀ {n : Nat}, k < n → anyB P n = true
  | 0, h => absurd h (Nat.not_lt_zero k)
  | n + 1, h => by
    rw [anyB]
    by_cases e : k = n
    · subst e; rw [hk, Bool.or_true]
    · rw [anyB_t hk (by omega), Bool.true_or]
theorem anyB_f {P : Nat → Bool} : ∀ {n : Nat}, (∀ k, k < n → P k = false) → anyB P n = false
  | 0, _ => rfl
  | n + 1, h => by rw [anyB, anyB_f (fun k hk => h k (by omega)), h n (by omega)]; rfl
theorem anyB_iff {P : Nat → Bool} {n : Nat} : anyB P n = true ↔ ∃ k, k < n ∧ P k = true := by
  constructor
  · intro h
    apply Classical.byContradiction
    intro q
    rw [anyB_f (fun k hk => by
      cases hp : P k with
      | false => rfl
      | true => exact absurd ⟨k, hk, hp⟩ q)] at h
    cases h
  · rintro ⟨k, hk, hp⟩
    exact anyB_t hp hk
theorem anyB_cong {P Q : Nat → Bool} : ∀ {n : Nat}, (∀ k, k < n → P k = Q k) → anyB P n = anyB Q n
  | 0, _ => rfl
  | n + 1, h => by rw [anyB, anyB, anyB_cong (fun k hk => h k (by omega)), h n (by omega)]
def bI (b : Bool) : Int32 := if b = true then 1 else 0
theorem bI_t : bI true = 1 := rfl
theorem bI_f : bI false = 0 := rfl
theorem bI_0 (b : Bool) : (bI b = 0) ↔ b = false := by cases b <;> decide
theorem bI_nI (b : Bool) : bI b = nI (if b = true then 1 else 0) := by cases b <;> rfl
theorem rz_b (b : Bool) (M : MM) : rz (bI b) M = some (bI b, M) := by cases b <;> first | exact rz0 M | exact rz1 M
theorem bI_if (c : Prop) [Decidable c] : bI (decide c) = if c then 1 else 0 := by unfold bI; simp
/-- a loop that answers 1 at the first that is so, else 0 -/
theorem lpa {M : MM} (F : Nat → Nat → Option (Int32 × MM)) (P : Nat → Bool) (n : Nat) (hs : ∀ f k, k < n → F (f + 1) k = if P k = true then some (1, M) else F f (k + 1)) (he : ∀ f, F (f + 1) n = some (0, M)) (f : Nat) (hf : n < f) : F f 0 = some (bI (anyB P n), M) := by
  refine lpi F (fun k => anyB P k = false) n _ (fun f k hk hi => ?_) (fun f hi => ?_) f 0 (by omega) (by omega) rfl
  · rw [hs f k hk]
    cases hp : P k with
    | true => right; rw [if_pos rfl, anyB_t hp hk]; rfl
    | false => left; exact ⟨if_neg (by decide), by rw [anyB, hi, hp]; rfl⟩
  · rw [he f, hi]; rfl
/-! NUMBERS BY LITERALS -/
theorem n2m (a : Nat) : (2 : Int32) * nI a = nI (2 * a) := pk_mul 2 a
theorem n3m (a : Nat) : (3 : Int32) * nI a = nI (3 * a) := pk_mul 3 a
theorem n8m (a : Nat) : (8 : Int32) * nI a = nI (8 * a) := pk_mul 8 a
theorem nm8 (a : Nat) : nI a * (8 : Int32) = nI (8 * a) := by rw [show (8 : Int32) = nI 8 from rfl, pk_mul, Nat.mul_comm]
theorem n6m (a : Nat) : (6 : Int32) * nI a = nI (6 * a) := pk_mul 6 a
theorem n10m (a : Nat) : (10 : Int32) * nI a = nI (10 * a) := pk_mul 10 a
theorem n46m (a : Nat) : (46 : Int32) * nI a = nI (46 * a) := pk_mul 46 a
theorem nI_2 (a : Nat) : nI a + 2 = nI (a + 2) := nI_add a 2
theorem nI_3 (a : Nat) : nI a + 3 = nI (a + 3) := nI_add a 3
theorem nI_4 (a : Nat) : nI a + 4 = nI (a + 4) := nI_add a 4
theorem nI_5 (a : Nat) : nI a + 5 = nI (a + 5) := nI_add a 5
theorem ns3 {t : Nat} (h : t < 2 ^ 31) : nI t >>> ((3 : Int32) &&& 31) = nI (t / 8) := pk_shrN h _ 3 (by decide)
theorem ns6 {t : Nat} (h : t < 2 ^ 31) : nI t >>> ((6 : Int32) &&& 31) = nI (t / 64) := pk_shrN h _ 6 (by decide)
theorem nl3 {t : Nat} (h : t < 2 ^ 28) : nI t <<< ((3 : Int32) &&& 31) = nI (t * 8) := pk_shlN _ 3 (by decide) (by omega)
theorem nl6 {t : Nat} (h : t < 2 ^ 25) : nI t <<< ((6 : Int32) &&& 31) = nI (t * 64) := pk_shlN _ 6 (by decide) (by omega)
theorem na7 {t : Nat} (h : t < 2 ^ 31) : nI t &&& (7 : Int32) = nI (t % 8) := pk_andN (by omega) 3 (by decide)
theorem nor3 {a b : Nat} (h : a < 8) : nI a ||| nI (b * 8) = nI (a + 8 * b) := by
  rw [show b * 8 = 2 ^ 3 * b from by omega, show nI a ||| nI (2 ^ 3 * b) = nI (2 ^ 3 * b) ||| nI a from Int32.or_comm .., fa_or_sum b (show a < 2 ^ 3 from h)]
  rw [show 2 ^ 3 * b + a = a + 8 * b from by omega]
/-! CONTEXTS -/
def PA (a : Nat) : Prop := a < 183 ∧ (S0 a).1 = 5
theorem pa_tab0 : ∀ a, a < 183 → (!(decide ((S0 a).1 = 5)) || (decide (S0 (a + 1) = (20, 12)) && rfT.any (fun q => decide (q = (a, 0, a + 1))))) = true := by decide +kernel
theorem pa_tab (a : Nat) (h : a < 183) (h5 : (S0 a).1 = 5) : (S0 (a + 1)) = (20, 12) ∧ (a, 0, a + 1) ∈ rfT := by
  have := pa_tab0 a h
  rw [h5] at this
  simp only [decide_true, Bool.not_true, Bool.false_or, Bool.and_eq_true, decide_eq_true_eq, List.any_eq_true] at this
  obtain ⟨h1, q, h2, rfl⟩ := this
  exact ⟨h1, h2⟩
theorem pa_O {M : MM} {a : Nat} (h : Sh M) (ha : PA a) : isO 5 a M = true := sh_O h 5 (by have := ha.1; omega) ha.2
theorem pa_R {M : MM} {a : Nat} (h : Sh M) (ha : PA a) : gR 5 0 a M = some (a + 1) := sh_R h 5 (by have := ha.1; omega) ha.2 (pa_tab a ha.1 ha.2).2
theorem pa_A {M : MM} {a : Nat} (h : Sh M) (ha : PA a) : isO 20 (a + 1) M = true := sh_O h 20 (by have := ha.1; omega) (by rw [(pa_tab a ha.1 ha.2).1])
theorem pa_N {M : MM} {a : Nat} (h : Sh M) (ha : PA a) : (mS M (a + 1)).2 = 12 := sh_N h 12 (by have := ha.1; omega) (by rw [(pa_tab a ha.1 ha.2).1])
theorem pa_ld {M : MM} {a : Nat} (h : Sh M) (ha : PA a) {j : Nat} (hj : j < 12) : ldI (a + 1) (nI j) M = some (mI M (a + 1) j) := ldI_k (pa_A h ha) (pa_N h ha) hj (by decide)
theorem pa_st {M : MM} {a : Nat} (h : Sh M) (ha : PA a) {j : Nat} (v : Int32) (hj : j < 12) : stI (a + 1) (nI j) v M = some (sI M (a + 1) j v) := stI_k v (pa_A h ha) (pa_N h ha) hj (by decide)
theorem PA14 : PA 14 := ⟨by decide, rfl⟩
theorem PA16 : PA 16 := ⟨by decide, rfl⟩
theorem PA97 : ∀ j, j < 15 → PA (97 + 2 * j) := by unfold PA; decide +kernel
theorem PA127 : ∀ j, j < 3 → PA (127 + 2 * j) := by unfold PA; decide +kernel
def tw (t : Nat) : Nat := t % 8
def te (t : Nat) : Nat := t / 8 % 8
def ts (t : Nat) : Nat := t / 64
def zlen (s : St) (e : Nat) : Nat := 2 * zway s e + zlas s e
def tback (s : St) (t : Nat) : Nat := ts t + zlen s (te t)
theorem okT_b {P E t : Nat} (h : okT P E t) : t < 6400 ∧ tw t < P ∧ te t < E ∧ ts t < 100 := by
  obtain ⟨h1, h2, h3⟩ := h
  exact ⟨by omega, h1, h2, h3⟩
/-- the class's ground for asking of a plan at cell a -/
def CX (s : St) (M : MM) (a : Nat) (q : Pl) : Prop := Sh M ∧ rcHall s M ∧ WFn s ∧ WFh s ∧ PA a ∧ PL M a q ∧ okPl (zP s) (zE s) q
def RA (a : Nat) : Prop := a = 153 ∨ a = 154 ∨ a = 162
def okPr (P E : Nat) (q : Pl) : Prop := q.1 ≤ 15 ∧ ∀ i, i < q.1 → okT P E (q.2 i)
def RX (s : St) (M : MM) (a : Nat) (q : Pl) : Prop := Sh M ∧ rrHall s M ∧ WFn s ∧ WFh s ∧ RA a ∧ PR M a 0 q ∧ okPr (zP s) (zE s) q
theorem RC.cx {s : St} {M : MM} (h : RC s M) (hw : WF s) : CX s M 14 (zplan s) := ⟨h.1, h.2.2.2.1, hw.1, hw.2.1, PA14, h.2.2.2.2.1, hw.2.2.2.2.1⟩
theorem RR.rx {s : St} {M : MM} (h : RR s M) (hw : WF s) : RX s M 153 (zplan s) := ⟨h.1, h.2.2.2.1, hw.1, hw.2.1, Or.inl rfl, h.2.2.2.2.1, by have := hw.2.2.2.2.1.1; omega, hw.2.2.2.2.1.2⟩
section HALL
variable {s : St} {M : MM}
theorem lc_way (h0 : Sh M) (hh : rcHall s M) (hn : WFn s) {e : Nat} (he : e < zE s) : ldI 7 (nI e) M = some (nI (zway s e)) := by rw [ld_7 h0 (by have := hn.2.1; omega), (hh.2.2.2.2.1 e he).1]
theorem lc_las (h0 : Sh M) (hh : rcHall s M) (hn : WFn s) {e : Nat} (he : e < zE s) : ldI 8 (nI e) M = some (nI (zlas s e)) := by rw [ld_8 h0 (by have := hn.2.1; omega), (hh.2.2.2.2.1 e he).2.1]
theorem lc_fro (h0 : Sh M) (hh : rcHall s M) (hn : WFn s) {e : Nat} (he : e < zE s) : ldI 9 (nI e) M = some (nI (zfro s e)) := by rw [ld_9 h0 (by have := hn.2.1; omega), (hh.2.2.2.2.1 e he).2.2.1]
theorem lc_til (h0 : Sh M) (hh : rcHall s M) (hn : WFn s) {e : Nat} (he : e < zE s) : ldI 10 (nI e) M = some (nI (ztil s e)) := by rw [ld_10 h0 (by have := hn.2.1; omega), (hh.2.2.2.2.1 e he).2.2.2.1]
theorem lc_thi (h0 : Sh M) (hh : rcHall s M) (hn : WFn s) {e : Nat} (he : e < zE s) : ldI 11 (nI e) M = some (nI (zthi s e)) := by rw [ld_11 h0 (by have := hn.2.1; omega), (hh.2.2.2.2.1 e he).2.2.2.2.1]
theorem lc_see (h0 : Sh M) (hh : rcHall s M) (hn : WFn s) {e : Nat} (he : e < zE s) : ldZ 12 (nI e) M = some (nI (zsee s e)) := by rw [ld_12 h0 (by have := hn.2.1; omega), (hh.2.2.2.2.1 e he).2.2.2.2.2]
theorem lc_shy (h0 : Sh M) (hh : rcHall s M) (hn : WFn s) {p : Nat} (hp : p < zP s) : ldZ 6 (nI p) M = some (nI (zshy s p)) := by rw [ld_6 h0 (by have := hn.1; omega), hh.2.2.2.1 p hp]
theorem lr_way (h0 : Sh M) (hh : rrHall s M) (hn : WFn s) {e : Nat} (he : e < zE s) : ldI 147 (nI e) M = some (nI (zway s e)) := by rw [ld_147 h0 (by have := hn.2.1; omega), (hh.2.2.2.2.1 e he).1]
theorem lr_las (h0 : Sh M) (hh : rrHall s M) (hn : WFn s) {e : Nat} (he : e < zE s) : ldI 148 (nI e) M = some (nI (zlas s e)) := by rw [ld_148 h0 (by have := hn.2.1; omega), (hh.2.2.2.2.1 e he).2.1]
theorem lr_fro (h0 : Sh M) (hh : rrHall s M) (hn : WFn s) {e : Nat} (he : e < zE s) : ldI 149 (nI e) M = some (nI (zfro s e)) := by rw [ld_149 h0 (by have := hn.2.1; omega), (hh.2.2.2.2.1 e he).2.2.1]
theorem lr_til (h0 : Sh M) (hh : rrHall s M) (hn : WFn s) {e : Nat} (he : e < zE s) : ldI 150 (nI e) M = some (nI (ztil s e)) := by rw [ld_150 h0 (by have := hn.2.1; omega), (hh.2.2.2.2.1 e he).2.2.2.1]
theorem lr_thi (h0 : Sh M) (hh : rrHall s M) (hn : WFn s) {e : Nat} (he : e < zE s) : ldI 151 (nI e) M = some (nI (zthi s e)) := by rw [ld_151 h0 (by have := hn.2.1; omega), (hh.2.2.2.2.1 e he).2.2.2.2.1]
theorem lr_see (h0 : Sh M) (hh : rrHall s M) (hn : WFn s) {e : Nat} (he : e < zE s) : ldZ 152 (nI e) M = some (nI (zsee s e)) := by rw [ld_152 h0 (by have := hn.2.1; omega), (hh.2.2.2.2.1 e he).2.2.2.2.2]
theorem lr_shy (h0 : Sh M) (hh : rrHall s M) (hn : WFn s) {p : Nat} (hp : p < zP s) : ldZ 145 (nI p) M = some (nI (zshy s p)) := by rw [ld_145 h0 (by have := hn.1; omega), hh.2.2.2.1 p hp]
theorem e_len (h0 : Sh M) (hh : rcHall s M) (hn : WFn s) {e : Nat} (he : e < zE s) : f_X9_length 5 (nI e) M = some (nI (zlen s e), M) := by
  unfold f_X9_length f_X9_length_0
  simp only [gI, pI, gL, pL, b1_s, b2_s, bn_s, rz0, rz1, isO_sI, isO_sL, isO_cI, gR_sI, gR_sL, gR_cI, ldR_sI, ldR_sL, mI_w, mL_w, mI_sL, mL_sI, mI_cI, mR_sI, mR_sL, mR_cI, mL_cI, if_true, if_false, true_and, and_true, false_and, and_false, and_self, eq_self, not_true_eq_false, not_false_eq_true, Nat.reduceEqDiff, reduceCtorEq, Nat.succ_ne_self, Nat.reduceAdd, Nat.reduceMul, cCO h0, cCR h0, lc_way h0 hh hn he, lc_las h0 hh hn he, n2m, nI_add]
  rfl
theorem e_ends (h0 : Sh M) (hh : rcHall s M) (hn : WFn s) (hq : WFh s) {e m : Nat} (he : e < zE s) (hm : m < 200) : f_X9_endsInTime 5 (nI e) (nI m) M = some (bI (decide (m + zlen s e ≤ zT s)), M) := by
  have hB := hq.2.1 e he
  have hl : zlen s e ≤ 27 := by unfold zlen; omega
  have hT := hn.2.2.2.1
  unfold f_X9_endsInTime f_X9_endsInTime_0
  simp only [gI, pI, gL, pL, b1_s, b2_s, bn_s, rz0, rz1, isO_sI, isO_sL, isO_cI, gR_sI, gR_sL, gR_cI, ldR_sI, ldR_sL, mI_w, mL_w, mI_sL, mL_sI, mI_cI, mR_sI, mR_sL, mR_cI, mL_cI, if_true, if_false, true_and, and_true, false_and, and_false, and_self, eq_self, not_true_eq_false, not_false_eq_true, Nat.reduceEqDiff, reduceCtorEq, Nat.succ_ne_self, Nat.reduceAdd, Nat.reduceMul, cCO h0, cCR h0, e_len h0 hh hn he, nI_add, hh.2.2.1]
  by_cases h : zT s < m + zlen s e
  · rw [if_pos (nI_lt h (by omega)), decide_eq_false (by omega), bI_f]
  · rw [if_neg (nI_nlt (by omega) (by omega)), decide_eq_true (by omega), bI_t]
def opB (s : St) (e m : Nat) : Bool := decide (zfro s e ≤ m + zway s e ∧ m + zway s e + zlas s e ≤ ztil s e)
theorem e_open (h0 : Sh M) (hh : rcHall s M) (hn : WFn s) (hq : WFh s) {e m : Nat} (he : e < zE s) (hm : m < 200) : f_X9_isOpen 5 (nI e) (nI m) M = some (bI (opB s e m), M) := by
  have hB := hq.2.1 e he
  unfold f_X9_isOpen f_X9_isOpen_0 opB
  simp only [gI, pI, gL, pL, b1_s, b2_s, bn_s, rz0, rz1, isO_sI, isO_sL, isO_cI, gR_sI, gR_sL, gR_cI, ldR_sI, ldR_sL, mI_w, mL_w, mI_sL, mL_sI, mI_cI, mR_sI, mR_sL, mR_cI, mL_cI, if_true, if_false, true_and, and_true, false_and, and_false, and_self, eq_self, not_true_eq_false, not_false_eq_true, Nat.reduceEqDiff, reduceCtorEq, Nat.succ_ne_self, Nat.reduceAdd, Nat.reduceMul, cCO h0, cCR h0, lc_way h0 hh hn he, lc_las h0 hh hn he, lc_fro h0 hh hn he, lc_til h0 hh hn he, nI_add]
  by_cases h : m + zway s e < zfro s e
  · rw [if_pos (nI_lt h (by omega)), decide_eq_false (by omega), bI_f]
  · rw [if_neg (nI_nlt (by omega) (by omega))]
    by_cases h2 : ztil s e < m + zway s e + zlas s e
    · rw [if_pos (nI_lt h2 (by omega)), decide_eq_false (by omega), bI_f]
    · rw [if_neg (nI_nlt (by omega) (by omega)), decide_eq_true (by omega), bI_t]
theorem e_along (h0 : Sh M) (hh : rrHall s M) (hn : WFn s) {e : Nat} (he : e < zE s) : f_X12_awayLong 143 (nI e) M = some (nI (zlen s e), M) := by
  unfold f_X12_awayLong f_X12_awayLong_0
  simp only [gI, pI, gL, pL, b1_s, b2_s, bn_s, rz0, rz1, isO_sI, isO_sL, isO_cI, gR_sI, gR_sL, gR_cI, ldR_sI, ldR_sL, mI_w, mL_w, mI_sL, mL_sI, mI_cI, mR_sI, mR_sL, mR_cI, mL_cI, if_true, if_false, true_and, and_true, false_and, and_false, and_self, eq_self, not_true_eq_false, not_false_eq_true, Nat.reduceEqDiff, reduceCtorEq, Nat.succ_ne_self, Nat.reduceAdd, Nat.reduceMul, cRO h0, cRR h0, lr_way h0 hh hn he, lr_las h0 hh hn he, n2m, nI_add]
  rfl
theorem e_fits (h0 : Sh M) (hh : rrHall s M) (hn : WFn s) (hq : WFh s) {e m : Nat} (he : e < zE s) (hm : m < 100) : f_X12_fitsIn 143 (nI e) (nI m) M = some (bI (opB s e m), M) := by
  have hB := hq.2.1 e he
  unfold f_X12_fitsIn f_X12_fitsIn_0 opB
  simp only [gI, pI, gL, pL, b1_s, b2_s, bn_s, rz0, rz1, isO_sI, isO_sL, isO_cI, gR_sI, gR_sL, gR_cI, ldR_sI, ldR_sL, mI_w, mL_w, mI_sL, mL_sI, mI_cI, mR_sI, mR_sL, mR_cI, mL_cI, if_true, if_false, true_and, and_true, false_and, and_false, and_self, eq_self, not_true_eq_false, not_false_eq_true, Nat.reduceEqDiff, reduceCtorEq, Nat.succ_ne_self, Nat.reduceAdd, Nat.reduceMul, cRO h0, cRR h0, lr_way h0 hh hn he, lr_las h0 hh hn he, lr_fro h0 hh hn he, lr_til h0 hh hn he, nI_add]
  rw [e_inL _ (nI (zfro s e)) (nI 198) _ _ rfl (by decide), b2_s]
  by_cases h : m + zway s e < zfro s e
  · rw [if_neg (c := nI (zfro s e) ≤ _ ∧ _) (fun q => nI_ge h (by omega) q.1), if_pos rfl, decide_eq_false (by omega), bI_f]
  · rw [if_pos (c := nI (zfro s e) ≤ _ ∧ _) ⟨nI_le (by omega) (by omega), nI_le (by omega) (by omega)⟩, if_neg (by decide)]
    simp only [gI, pI, gL, pL, b1_s, b2_s, bn_s, rz0, rz1, isO_sI, isO_sL, isO_cI, gR_sI, gR_sL, gR_cI, ldR_sI, ldR_sL, mI_w, mL_w, mI_sL, mL_sI, mI_cI, mR_sI, mR_sL, mR_cI, mL_cI, if_true, if_false, true_and, and_true, false_and, and_false, and_self, eq_self, not_true_eq_false, not_false_eq_true, Nat.reduceEqDiff, reduceCtorEq, Nat.succ_ne_self, Nat.reduceAdd, Nat.reduceMul, cRO h0, cRR h0, lr_way h0 hh hn he, lr_las h0 hh hn he, lr_fro h0 hh hn he, lr_til h0 hh hn he, nI_add]
    by_cases h2 : ztil s e < m + zway s e + zlas s e
    · rw [if_pos (nI_lt h2 (by omega)), decide_eq_false (by omega), bI_f]
    · rw [if_neg (nI_nlt (by omega) (by omega)), decide_eq_true (by omega), bI_t]
end HALL
/-! TRIPS, class -/
section TRC
variable {s : St} {M : MM} {a : Nat} {q : Pl}
theorem e_who (h : CX s M a q) {i : Nat} (hi : i < q.1) : f_X5_who a (nI i) M = some (nI (tw (q.2 i)), M) := by
  obtain ⟨h0, hh, hn, hwh, ha, hp, hk⟩ := h
  have hb := okT_b (hk.2 i hi)
  have h12 := hk.1
  unfold f_X5_who f_X5_who_0
  rw [if_pos (pa_O h0 ha), if_neg (nI_pos (by omega)), gI_k 1 (pa_O h0 ha), b1_s, hp.1, if_neg (nI_ge hi (by omega)), pa_R h0 ha, b1_s, pa_ld h0 ha (by omega), b1_s, hp.2 i hi, na7 (by omega)]
  rfl
theorem e_what (h : CX s M a q) {i : Nat} (hi : i < q.1) : f_X5_what a (nI i) M = some (nI (te (q.2 i)), M) := by
  obtain ⟨h0, hh, hn, hwh, ha, hp, hk⟩ := h
  have hb := okT_b (hk.2 i hi)
  have h12 := hk.1
  unfold f_X5_what f_X5_what_0
  rw [if_pos (pa_O h0 ha), if_neg (nI_pos (by omega)), gI_k 1 (pa_O h0 ha), b1_s, hp.1, if_neg (nI_ge hi (by omega)), pa_R h0 ha, b1_s, pa_ld h0 ha (by omega), b1_s, hp.2 i hi, ns3 (by omega), na7 (by omega)]
  rfl
theorem e_first (h : CX s M a q) {i : Nat} (hi : i < q.1) : f_X5_first a (nI i) M = some (nI (ts (q.2 i)), M) := by
  obtain ⟨h0, hh, hn, hwh, ha, hp, hk⟩ := h
  have hb := okT_b (hk.2 i hi)
  have h12 := hk.1
  unfold f_X5_first f_X5_first_0
  rw [if_pos (pa_O h0 ha), if_neg (nI_pos (by omega)), gI_k 1 (pa_O h0 ha), b1_s, hp.1, if_neg (nI_ge hi (by omega)), pa_R h0 ha, b1_s, pa_ld h0 ha (by omega), b1_s, hp.2 i hi, ns6 (by omega)]
  rfl
theorem e_has (h : CX s M a q) (x : Int32) : f_X5_has a x M = some (if ixP x q.1 = true then 1 else 0, M) := by
  obtain ⟨h0, hh, hn, hwh, ha, hp, hk⟩ := h
  have h12 := hk.1
  unfold f_X5_has f_X5_has_0
  rw [if_pos (pa_O h0 ha), gI_k 1 (pa_O h0 ha), b1_s, hp.1, rz0, rz1]
  by_cases h1 : x < 0
  · rw [if_pos h1, if_neg (fun q => (ix_t.mp q).1 h1)]
  · rw [if_neg h1]
    by_cases h2 : nI q.1 ≤ x
    · rw [if_pos h2, if_neg (fun q => (fa_of_lt (ix_t.mp q).2).2.1 h2)]
    · rw [if_neg h2, if_pos (ix_t.mpr ⟨h1, fa_of_nle h2⟩)]
theorem e_tog (h : CX s M a q) {i e m : Nat} (hi : i < q.1) (he : e < 8) (hm : m < 200) : f_X5_goTogether a (nI i) (nI e) (nI m) M = some (bI (decide (te (q.2 i) = e ∧ ts (q.2 i) = m)), M) := by
  have hh := e_has h (nI i)
  obtain ⟨h0, _, hn, hwh, ha, hp, hk⟩ := h
  have hb := okT_b (hk.2 i hi)
  have h12 := hk.1
  unfold f_X5_goTogether f_X5_goTogether_0
  rw [if_pos (pa_O h0 ha), hh, ix_n (by omega) hi, if_pos rfl, b2_s, if_neg (by decide), pa_R h0 ha, b1_s, pa_ld h0 ha (by omega), b1_s, hp.2 i hi, ns3 (by omega), nl3 (by omega), nor3 he]
  unfold te ts at *
  by_cases hc : q.2 i / 8 = e + 8 * m
  · rw [if_pos (by rw [hc]), rz1, decide_eq_true (by omega), bI_t]
  · rw [if_neg (by rw [nI_eq (by omega) (by omega)]; exact hc), rz0, decide_eq_false (by omega), bI_f]
end TRC
section TRR
variable {s : St} {M : MM} {a : Nat} {q : Pl}
theorem ra_O (h0 : Sh M) (ha : RA a) : isO 20 a M = true := by rcases ha with rfl | rfl | rfl <;> simp only [cRO h0]
theorem ra_N (h0 : Sh M) (ha : RA a) : (mS M a).2 = 46 := by rcases ha with rfl | rfl | rfl <;> simp only [cRN h0]
theorem ra_ld (h0 : Sh M) (ha : RA a) {j : Nat} (hj : j < 46) : ldI a (nI j) M = some (mI M a j) := ldI_k (ra_O h0 ha) (ra_N h0 ha) hj (by decide)
theorem ra_st (h0 : Sh M) (ha : RA a) {j : Nat} (v : Int32) (hj : j < 46) : stI a (nI j) v M = some (sI M a j v) := stI_k v (ra_O h0 ha) (ra_N h0 ha) hj (by decide)
theorem r_size (h : RX s M a q) : ldI a 45 M = some (nI q.1) := by
  obtain ⟨h0, hh, hn, hwh, ha, hp, hk⟩ := h
  rw [show (45 : Int32) = nI 45 from rfl, ra_ld h0 ha (by decide)]
  have := hp.1
  rw [Nat.zero_add] at this
  rw [this]
theorem r_who (h : RX s M a q) {i : Nat} (hi : i < q.1) : f_X12_who a (nI i) M = some (nI (tw (q.2 i)), M) := by
  obtain ⟨h0, hh, hn, hwh, ha, hp, hk⟩ := h
  have h15 := hk.1
  have e := (hp.2 i hi).1
  rw [Nat.zero_add] at e
  unfold f_X12_who f_X12_who_0
  rw [n3m, ra_ld h0 ha (by omega), b1_s, e]
  rfl
theorem r_what (h : RX s M a q) {i : Nat} (hi : i < q.1) : f_X12_what a (nI i) M = some (nI (te (q.2 i)), M) := by
  obtain ⟨h0, hh, hn, hwh, ha, hp, hk⟩ := h
  have h15 := hk.1
  have e := (hp.2 i hi).2.1
  rw [Nat.zero_add] at e
  unfold f_X12_what f_X12_what_0
  rw [n3m, nI_1, ra_ld h0 ha (by omega), b1_s, e]
  rfl
theorem r_start (h : RX s M a q) {i : Nat} (hi : i < q.1) : f_X12_start a (nI i) M = some (nI (ts (q.2 i)), M) := by
  obtain ⟨h0, hh, hn, hwh, ha, hp, hk⟩ := h
  have h15 := hk.1
  have e := (hp.2 i hi).2.2
  rw [Nat.zero_add] at e
  unfold f_X12_start f_X12_start_0
  rw [n3m, nI_2, ra_ld h0 ha (by omega), b1_s, e]
  rfl
theorem r_back (h : RX s M a q) {i : Nat} (hi : i < q.1) : f_X12_back 143 a (nI i) M = some (nI (tback s (q.2 i)), M) := by
  have hb := okT_b (h.2.2.2.2.2.2.2 i hi)
  have h0 := h.1
  unfold f_X12_back f_X12_back_0
  simp only [gI, pI, gL, pL, b1_s, b2_s, bn_s, rz0, rz1, isO_sI, isO_sL, isO_cI, gR_sI, gR_sL, gR_cI, ldR_sI, ldR_sL, mI_w, mL_w, mI_sL, mL_sI, mI_cI, mR_sI, mR_sL, mR_cI, mL_cI, if_true, if_false, true_and, and_true, false_and, and_false, and_self, eq_self, not_true_eq_false, not_false_eq_true, Nat.reduceEqDiff, reduceCtorEq, Nat.succ_ne_self, Nat.reduceAdd, Nat.reduceMul, cRO h0, cRR h0, r_start h hi, r_what h hi, e_along h.1 h.2.1 h.2.2.1 hb.2.2.1, nI_add]
  rfl
def meetB (s : St) (t u : Nat) : Bool := decide (ts t < tback s u ∧ ts u < tback s t)
def oneB (t u : Nat) : Bool := decide (te t = te u ∧ ts t = ts u)
theorem tback_b (hwh : WFh s) {P t : Nat} (ht : okT P (zE s) t) : ts t < tback s t ∧ tback s t < 127 := by
  have hb := okT_b ht
  have hB := hwh.2.1 _ hb.2.2.1
  unfold tback zlen
  omega
theorem r_meet (h : RX s M a q) {i k : Nat} (hi : i < q.1) (hk : k < q.1) : f_X12_meet 143 a (nI i) (nI k) M = some (bI (meetB s (q.2 i) (q.2 k)), M) := by
  have hb := tback_b h.2.2.2.1 (h.2.2.2.2.2.2.2 i hi)
  have hc := tback_b h.2.2.2.1 (h.2.2.2.2.2.2.2 k hk)
  have h0 := h.1
  unfold f_X12_meet f_X12_meet_0 meetB
  simp only [gI, pI, gL, pL, b1_s, b2_s, bn_s, rz0, rz1, isO_sI, isO_sL, isO_cI, gR_sI, gR_sL, gR_cI, ldR_sI, ldR_sL, mI_w, mL_w, mI_sL, mL_sI, mI_cI, mR_sI, mR_sL, mR_cI, mL_cI, if_true, if_false, true_and, and_true, false_and, and_false, and_self, eq_self, not_true_eq_false, not_false_eq_true, Nat.reduceEqDiff, reduceCtorEq, Nat.succ_ne_self, Nat.reduceAdd, Nat.reduceMul, cRO h0, cRR h0, r_start h hi, r_start h hk, r_back h hi, r_back h hk]
  by_cases h1 : tback s (q.2 k) ≤ ts (q.2 i)
  · rw [if_pos (nI_le h1 (by omega)), decide_eq_false (by omega), bI_f]
  · rw [if_neg (nI_ge (by omega) (by omega))]
    by_cases h2 : tback s (q.2 i) ≤ ts (q.2 k)
    · rw [if_pos (nI_le h2 (by omega)), decide_eq_false (by omega), bI_f]
    · rw [if_neg (nI_ge (by omega) (by omega)), decide_eq_true (by omega), bI_t]
theorem r_one (h : RX s M a q) {i k : Nat} (hi : i < q.1) (hk : k < q.1) : f_X12_areOne a (nI i) (nI k) M = some (bI (oneB (q.2 i) (q.2 k)), M) := by
  have hb := okT_b (h.2.2.2.2.2.2.2 i hi)
  have hc := okT_b (h.2.2.2.2.2.2.2 k hk)
  have hE := h.2.2.1.2.1
  have h0 := h.1
  unfold f_X12_areOne f_X12_areOne_0 oneB
  simp only [gI, pI, gL, pL, b1_s, b2_s, bn_s, rz0, rz1, isO_sI, isO_sL, isO_cI, gR_sI, gR_sL, gR_cI, ldR_sI, ldR_sL, mI_w, mL_w, mI_sL, mL_sI, mI_cI, mR_sI, mR_sL, mR_cI, mL_cI, if_true, if_false, true_and, and_true, false_and, and_false, and_self, eq_self, not_true_eq_false, not_false_eq_true, Nat.reduceEqDiff, reduceCtorEq, Nat.succ_ne_self, Nat.reduceAdd, Nat.reduceMul, cRO h0, cRR h0, r_start h hi, r_start h hk, r_what h hi, r_what h hk]
  by_cases h1 : te (q.2 i) = te (q.2 k)
  · rw [if_pos (by rw [h1])]
    by_cases h2 : ts (q.2 i) = ts (q.2 k)
    · rw [if_pos (by rw [h2]), decide_eq_true ⟨h1, h2⟩, bI_t]
    · rw [if_neg (by rw [nI_eq (by omega) (by omega)]; exact h2), decide_eq_false (fun q => h2 q.2), bI_f]
  · rw [if_neg (by rw [nI_eq (by omega) (by omega)]; exact h1), decide_eq_false (fun q => h1 q.1), bI_f]
end TRR

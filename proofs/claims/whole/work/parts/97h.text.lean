/-! READING THE TEXT -/
def z0 (s : St) : St := zset s 0 5 0
theorem W_z0 {s : St} (hw : WF s) : WF (z0 s) := by
  obtain ⟨⟨a1, a2, a3, a4, a5, a6, a7, a8⟩, b, c, d, e⟩ := hw
  exact ⟨⟨a1, a2, a3, a4, a5, a6, Nat.zero_le _, a8⟩, b, fun k hk => absurd hk (Nat.not_lt_zero k), d, e⟩
def TB (T : Nat → Nat) (n l a : Nat) : Prop := n ≤ 80 ∧ l ≤ n ∧ a ≤ l ∧ ∀ k, k < l → T k < 256
def TC (s : St) (T : Nat → Nat) (n l a : Nat) (M : MM) : Prop := RC s M ∧ mI M 1 2 = nI n ∧ mI M 1 3 = nI l ∧ mI M 1 4 = nI a ∧ (∀ k, k < l → mI M 2 k = nI (T k)) ∧ TB T n l a
def TR (s : St) (T : Nat → Nat) (n l a : Nat) (M : MM) : Prop := RR s M ∧ mI M 143 20 = nI l ∧ mI M 143 19 = nI a ∧ (∀ k, k < l → mI M 155 k = nI (T k)) ∧ TB T n l a
def w14 (a k : Nat) : Prop := a = 1 ∧ k = 4
def w19 (a k : Nat) : Prop := a = 143 ∧ k = 19
theorem w14_cW {M M' : MM} (f : Fr w14 M M') : Fr cW M M' := f.mono (fun a k q => by unfold w14 at q; unfold cW; omega)
theorem w19_rW {M M' : MM} (f : Fr w19 M M') : Fr rW M M' := f.mono (fun a k q => by unfold w19 at q; unfold rW; omega)
theorem TB.mv {T : Nat → Nat} {n l a : Nat} (h : TB T n l a) {a' : Nat} (ha : a' ≤ l) : TB T n l a' := ⟨h.1, h.2.1, ha, h.2.2.2⟩
theorem TC.mv {s : St} {T : Nat → Nat} {n l a : Nat} {M : MM} (h : TC s T n l a M) {a' : Nat} (ha : a' ≤ l) : TC s T n l a' (sI M 1 4 (nI a')) := ⟨h.1.fr ((Fr.rf M).sI (by unfold wC; omega)) h.1.1, by rw [mI_w, if_neg (by omega)]; exact h.2.1, by rw [mI_w, if_neg (by omega)]; exact h.2.2.1, by rw [mI_w, if_pos ⟨rfl, rfl⟩], fun k hk => by rw [mI_w, if_neg (by omega)]; exact h.2.2.2.2.1 k hk, h.2.2.2.2.2.mv ha⟩
theorem TR.mv {s : St} {T : Nat → Nat} {n l a : Nat} {M : MM} (h : TR s T n l a M) {a' : Nat} (ha : a' ≤ l) : TR s T n l a' (sI M 143 19 (nI a')) := ⟨h.1.fr ((Fr.rf M).sI (by unfold wR; omega)) h.1.1, by rw [mI_w, if_neg (by omega)]; exact h.2.1, by rw [mI_w, if_pos ⟨rfl, rfl⟩], fun k hk => by rw [mI_w, if_neg (by omega)]; exact h.2.2.2.1 k hk, h.2.2.2.2.mv ha⟩
theorem frmv (M : MM) (v : Int32) : Fr w14 M (sI M 1 4 v) := (Fr.rf M).sI ⟨rfl, rfl⟩
theorem frmr (M : MM) (v : Int32) : Fr w19 M (sI M 143 19 v) := (Fr.rf M).sI ⟨rfl, rfl⟩
theorem c_begin' {s : St} {M : MM} (hw : WF s) (h : RC s M) {m : Nat} (hm : m ≤ 80) : ∃ M', f_X10_begin 1 (nI m) M = some M' ∧ TC (z0 s) (ztap s) (zL s) (min (zL s) m) 0 M' ∧ Fr cW M M' ∧ mR M' = mR M := by
  have h0 := h.1
  have hL := hw.1.2.2.2.2.2.2.1
  have hO := sh_O h0 (a := 1) 10 (by decide) rfl
  have hf : Fr (fun a k => a = 1 ∧ 1 ≤ k) M (sI (sI (sI (sI M 1 2 (nI (zL s))) 1 1 0) 1 3 (nI (min (zL s) m))) 1 4 0) := ((((Fr.rf M).sI ⟨rfl, by decide⟩).sI ⟨rfl, by decide⟩).sI ⟨rfl, by decide⟩).sI ⟨rfl, by decide⟩
  refine ⟨sI (sI (sI (sI M 1 2 (nI (zL s))) 1 1 0) 1 3 (nI (min (zL s) m))) 1 4 0, ?_, ⟨?_, ?_, ?_, ?_, fun k hk => ?_, hL, Nat.min_le_left _ _, Nat.zero_le _, fun k hk => hw.2.2.1 k (by omega)⟩, hf.mono (fun a k q => by unfold cW; omega), rfl⟩
  · unfold f_X10_begin f_X10_begin_0
    rw [if_pos hO, gI_k 1 hO, b1_s, h.2.1.1, pI_k 2 _ hO, b1_s, pI_k 1 _ (show isO 10 1 (sI M 1 2 (nI (zL s))) = true from hO), b1_s, gI_k 2 (show isO 10 1 (sI (sI M 1 2 (nI (zL s))) 1 1 0) = true from hO), b1_s, mI_w, if_neg (by omega), mI_w, if_pos ⟨rfl, rfl⟩, minI_n (by omega) (by omega), pI_k 3 _ (show isO 10 1 (sI (sI M 1 2 (nI (zL s))) 1 1 0) = true from hO), b1_s, pI_k 4 _ (show isO 10 1 (sI (sI (sI M 1 2 (nI (zL s))) 1 1 0) 1 3 (nI (min (zL s) m))) = true from hO), b1_s]
  · exact ⟨h0, ⟨by rw [mI_w, if_neg (by omega), mI_w, if_neg (by omega), mI_w, if_pos ⟨rfl, rfl⟩]; rfl, fun k hk => absurd hk (Nat.not_lt_zero k)⟩, h.2.2.1.fr hf (fun a k q => by omega), h.2.2.2.1.fr hf (fun a k q => by omega), h.2.2.2.2.1.frw hf (fun a k q => by omega), h.2.2.2.2.2.1.fr hf (fun a k q => by omega), h.2.2.2.2.2.2.1.fr hf (fun a k q => by omega), h.2.2.2.2.2.2.2.1.fr hf (fun a k q => by omega), h.2.2.2.2.2.2.2.2.fr hf (fun a k q => by omega)⟩
  · rw [mI_w, if_neg (by omega), mI_w, if_neg (by omega), mI_w, if_neg (by omega), mI_w, if_pos ⟨rfl, rfl⟩]
  · rw [mI_w, if_neg (by omega), mI_w, if_pos ⟨rfl, rfl⟩]
  · rw [mI_w, if_pos ⟨rfl, rfl⟩]; rfl
  · rw [hf.2.2.1 2 k (by omega)]; exact h.2.1.2 k (by omega)
theorem r_begin' {s : St} {M : MM} (hw : WF s) (h : RR s M) {m : Nat} (hm : m ≤ 80) : ∃ M', f_X12_begins 143 (nI m) M = some (nI (zL s), M') ∧ TR (z0 s) (ztap s) (zL s) (min (zL s) m) 0 M' ∧ mI M' 143 21 = 0 ∧ Fr rW M M' ∧ mR M' = mR M := by
  have h0 := h.1
  have hL := hw.1.2.2.2.2.2.2.1
  have hO := sh_O h0 (a := 143) 12 (by decide) rfl
  have hf : Fr (fun a k => a = 143 ∧ 18 ≤ k ∧ k ≤ 21) M (sI (sI (sI (sI M 143 18 0) 143 19 0) 143 21 0) 143 20 (nI (min (zL s) m))) := ((((Fr.rf M).sI ⟨rfl, by decide⟩).sI ⟨rfl, by decide⟩).sI ⟨rfl, by decide⟩).sI ⟨rfl, by decide⟩
  refine ⟨sI (sI (sI (sI M 143 18 0) 143 19 0) 143 21 0) 143 20 (nI (min (zL s) m)), ?_, ⟨?_, ?_, ?_, fun k hk => ?_, hL, Nat.min_le_left _ _, Nat.zero_le _, fun k hk => hw.2.2.1 k (by omega)⟩, ?_, hf.mono (fun a k q => by unfold rW; omega), rfl⟩
  · unfold f_X12_begins f_X12_begins_0
    rw [if_pos hO, gI_k 18 hO, b1_s, h.2.1.1, pI_k 18 _ hO, b1_s, pI_k 19 _ (show isO 12 143 (sI M 143 18 0) = true from hO), b1_s, pI_k 21 _ (show isO 12 143 (sI (sI M 143 18 0) 143 19 0) = true from hO), b1_s, minI_n (by omega) (by omega), pI_k 20 _ (show isO 12 143 (sI (sI (sI M 143 18 0) 143 19 0) 143 21 0) = true from hO), b1_s]
  · exact ⟨h0, ⟨by rw [mI_w, if_neg (by omega), mI_w, if_neg (by omega), mI_w, if_neg (by omega), mI_w, if_pos ⟨rfl, rfl⟩]; rfl, fun k hk => absurd hk (Nat.not_lt_zero k)⟩, h.2.2.1.fr hf (fun a k q => by omega), h.2.2.2.1.fr hf (fun a k q => by omega), h.2.2.2.2.1.frw hf (fun a k q => by omega), h.2.2.2.2.2.1.fr hf (fun a k q => by omega), h.2.2.2.2.2.2.1.fr hf (fun a k q => by omega), h.2.2.2.2.2.2.2.1.fr hf (fun a k q => by omega), h.2.2.2.2.2.2.2.2.fr hf (fun a k q => by omega)⟩
  · rw [mI_w, if_pos ⟨rfl, rfl⟩]
  · rw [mI_w, if_neg (by omega), mI_w, if_neg (by omega), mI_w, if_pos ⟨rfl, rfl⟩]; rfl
  · rw [hf.2.2.1 155 k (by omega)]; exact h.2.1.2 k (by omega)
  · rw [mI_w, if_neg (by omega), mI_w, if_pos ⟨rfl, rfl⟩]
def tkB (T : Nat → Nat) (l a c : Nat) : Bool := decide (a < l ∧ T a = c)
def adv (b : Bool) (a : Nat) : Nat := if b = true then a + 1 else a
theorem adv_le {T : Nat → Nat} {l a c : Nat} (h : a ≤ l) : adv (tkB T l a c) a ≤ l := by
  unfold adv
  split
  · rename_i g; have := (of_decide_eq_true g).1; omega
  · exact h
def dB (T : Nat → Nat) (l a : Nat) : Bool := decide (a < l ∧ 48 ≤ T a ∧ T a ≤ 57)
def dgO (T : Nat → Nat) (l a lo hi : Nat) : Option Nat := if a < l ∧ 48 + lo ≤ T a ∧ T a ≤ 48 + hi then some (T a - 48) else none
def dgA (T : Nat → Nat) (l a lo hi : Nat) : Nat := if a < l ∧ 48 + lo ≤ T a ∧ T a ≤ 48 + hi then a + 1 else a
def nmL (T : Nat → Nat) (l : Nat) : Nat → Nat → Nat → Nat × Nat
  | 0, a, v => (v, a)
  | k + 1, a, v => if dB T l a = true then nmL T l k (a + 1) (10 * v + (T a - 48)) else (v, a)
theorem nmL_s (T : Nat → Nat) (l k a v : Nat) : nmL T l (k + 1) a v = if dB T l a = true then nmL T l k (a + 1) (10 * v + (T a - 48)) else (v, a) := rfl
def nmO (T : Nat → Nat) (l a k : Nat) : Option Nat := if dB T l a = true then some (nmL T l k a 0).1 else none
def nmA (T : Nat → Nat) (l a k : Nat) : Nat := if dB T l a = true then (nmL T l k a 0).2 else a
theorem nmL_b {T : Nat → Nat} {l : Nat} : ∀ {k a v B : Nat}, a ≤ l → v < B → (nmL T l k a v).2 ≤ l ∧ a ≤ (nmL T l k a v).2 ∧ (nmL T l k a v).1 < B * 10 ^ k
  | 0, a, v, B, ha, hv => ⟨ha, Nat.le_refl _, by rw [Nat.pow_zero, Nat.mul_one]; exact hv⟩
  | k + 1, a, v, B, ha, hv => by
    rw [nmL_s]
    by_cases hd : dB T l a = true
    · rw [if_pos hd]
      have h := of_decide_eq_true hd
      have := nmL_b (T := T) (l := l) (k := k) (a := a + 1) (v := 10 * v + (T a - 48)) (B := B * 10) (by omega) (by omega)
      refine ⟨this.1, by omega, ?_⟩
      rw [Nat.pow_succ, Nat.mul_comm (10 ^ k) 10, ← Nat.mul_assoc]
      exact this.2.2
    · rw [if_neg hd]
      refine ⟨ha, Nat.le_refl _, Nat.lt_of_lt_of_le hv (Nat.le_mul_of_pos_right _ (Nat.pow_pos (by decide)))⟩
theorem nmO_b {T : Nat → Nat} {l a k v : Nat} (ha : a ≤ l) (h : nmO T l a k = some v) : v < 10 ^ k := by
  unfold nmO at h
  split at h
  · cases h
    have := (nmL_b (T := T) (l := l) (k := k) (a := a) (v := 0) (B := 1) ha (by decide)).2.2
    rw [Nat.one_mul] at this
    exact this
  · cases h
theorem nmA_b {T : Nat → Nat} {l a k : Nat} (ha : a ≤ l) : nmA T l a k ≤ l := by
  unfold nmA
  split
  · exact (nmL_b (T := T) (l := l) (k := k) (a := a) (v := 0) (B := 1) ha (by decide)).1
  · exact ha
theorem dgA_b {T : Nat → Nat} {l a lo hi : Nat} (ha : a ≤ l) : dgA T l a lo hi ≤ l := by
  unfold dgA
  split <;> omega
section TXC
variable {s : St} {T : Nat → Nat} {n l a : Nat} {M : MM}
theorem tc_O (h : TC s T n l a M) : isO 10 1 M = true := sh_O h.1.1 10 (by decide) rfl
theorem tc_end (h : TC s T n l a M) : f_X10_atEnd 1 M = some (bI (decide (l ≤ a)), M) := by
  have hb := h.2.2.2.2.2
  unfold f_X10_atEnd f_X10_atEnd_0
  rw [if_pos (tc_O h), gI_k 4 (tc_O h), b1_s, gI_k 3 (tc_O h), b1_s, h.2.2.1, h.2.2.2.1]
  obtain ⟨b1, b2, b3, b4⟩ := hb
  by_cases hc : a < l
  · rw [if_pos (nI_lt hc (by omega)), rz0, decide_eq_false (by omega), bI_f]
  · rw [if_neg (nI_nlt (by omega) (by omega)), rz1, decide_eq_true (by omega), bI_t]
theorem tc_more (h : TC s T n l a M) : f_X10_hasMore 1 M = some (bI (decide (l < n)), M) := by
  obtain ⟨b1, b2, b3, b4⟩ := h.2.2.2.2.2
  unfold f_X10_hasMore f_X10_hasMore_0
  rw [if_pos (tc_O h), gI_k 2 (tc_O h), b1_s, gI_k 3 (tc_O h), b1_s, h.2.1, h.2.2.1]
  by_cases hc : l < n
  · rw [if_neg (nI_ge hc (by omega)), rz1, decide_eq_true hc, bI_t]
  · rw [if_pos (nI_le (by omega) (by omega)), rz0, decide_eq_false hc, bI_f]
theorem tc_emp (h : TC s T n l a M) : f_X10_isEmpty 1 M = some (bI (decide (n = 0)), M) := by
  obtain ⟨b1, b2, b3, b4⟩ := h.2.2.2.2.2
  unfold f_X10_isEmpty f_X10_isEmpty_0
  rw [if_pos (tc_O h), gI_k 2 (tc_O h), b1_s, h.2.1]
  by_cases hc : n = 0
  · rw [hc, nI_0, if_pos rfl, rz1, decide_eq_true rfl, bI_t]
  · rw [if_neg (nI_ne0 (by omega) (by omega)), rz0, decide_eq_false hc, bI_f]
theorem tc_ref (h : TC s T n l a M) : f_X10_refusal 1 M = some ((-1 : Int32) - nI a, M) := by
  unfold f_X10_refusal f_X10_refusal_0
  rw [if_pos (tc_O h), gI_k 4 (tc_O h), b1_s, h.2.2.2.1]
def pkI (T : Nat → Nat) (l a : Nat) : Int32 := if a < l then nI (T a) else -1
theorem tc_peek (h : TC s T n l a M) : f_X10_peek 1 M = some (pkI T l a, M) := by
  obtain ⟨b1, b2, b3, b4⟩ := h.2.2.2.2.2
  unfold f_X10_peek f_X10_peek_0 pkI
  rw [if_pos (tc_O h), gI_k 4 (tc_O h), b1_s, h.2.2.2.1, if_neg (nI_pos (by omega)), b1_s, gI_k 3 (tc_O h), b1_s, h.2.2.1]
  by_cases hc : a < l
  · rw [if_neg (nI_ge hc (by omega)), sh_R h.1.1 (a := 1) (k := 0) (b := 2) 10 (by decide) rfl (by decide), b1_s, b1_s, ld_2 h.1.1 (by omega), b1_s, h.2.2.2.2.1 a hc, if_pos hc]
  · rw [if_pos (nI_le (by omega) (by omega)), if_neg hc]
theorem tc_skip (h : TC s T n l a M) (hc : a < l) : f_X10_skip 1 M = some (sI M 1 4 (nI (a + 1))) := by
  obtain ⟨b1, b2, b3, b4⟩ := h.2.2.2.2.2
  unfold f_X10_skip f_X10_skip_0
  rw [if_pos (tc_O h), gI_k 4 (tc_O h), b1_s, b1_s, gI_k 3 (tc_O h), b1_s, h.2.2.1, h.2.2.2.1, if_neg (nI_ge hc (by omega)), nI_1, pI_k 4 _ (tc_O h), b1_s]
theorem tc_take (h : TC s T n l a M) {c : Nat} (hc : c < 256) : ∃ M', f_X10_take 1 (nI c) M = some (bI (tkB T l a c), M') ∧ TC s T n l (adv (tkB T l a c) a) M' ∧ Fr w14 M M' ∧ mR M' = mR M := by
  obtain ⟨b1, b2, b3, b4⟩ := h.2.2.2.2.2
  unfold f_X10_take f_X10_take_0
  rw [if_pos (tc_O h), tc_peek h, b2_s]
  by_cases hk : a < l ∧ T a = c
  · have e : tkB T l a c = true := decide_eq_true hk
    rw [e]
    refine ⟨sI M 1 4 (nI (a + 1)), ?_, h.mv (a' := a + 1) (by omega), frmv M _, rfl⟩
    unfold pkI
    rw [if_pos hk.1, if_pos (by rw [hk.2]), tc_skip h hk.1, b1_s, rz1, bI_t]
  · have e : tkB T l a c = false := decide_eq_false hk
    rw [e]
    refine ⟨M, ?_, h, Fr.rf M, rfl⟩
    unfold pkI
    by_cases ha : a < l
    · have := b4 a ha
      rw [if_pos ha, if_neg (by rw [nI_eq (by omega) (by omega)]; exact fun g => hk ⟨ha, g⟩), rz0, bI_f]
    · rw [if_neg ha, if_neg (nI_neg1 (by omega)), rz0, bI_f]
theorem tc_digit (h : TC s T n l a M) {lo : Nat} (hlo : lo ≤ 9) : ∃ M', f_X10_digit 1 (nI lo) M = some (enO (-1) (dgO T l a lo 9), M') ∧ TC s T n l (dgA T l a lo 9) M' ∧ Fr w14 M M' ∧ mR M' = mR M := by
  obtain ⟨b1, b2, b3, b4⟩ := h.2.2.2.2.2
  unfold f_X10_digit f_X10_digit_0 f_X10_digit_33 f_X10_digit_34 dgO dgA
  rw [if_pos (tc_O h), gI_k 4 (tc_O h), b1_s, h.2.2.2.1, if_neg (nI_pos (by omega)), b1_s, gI_k 3 (tc_O h), b1_s, h.2.2.1]
  by_cases ha : a < l
  · have hT := b4 a ha
    have t : (nI (T a) - 48).toInt = (T a : Int) - 48 := by rw [fb_subI (by rw [nI_toInt (by omega), show (48 : Int32).toInt = 48 from by decide]; omega) (by rw [nI_toInt (by omega), show (48 : Int32).toInt = 48 from by decide]; omega), nI_toInt (by omega), show (48 : Int32).toInt = 48 from by decide]
    rw [if_neg (nI_ge ha (by omega)), sh_R h.1.1 (a := 1) (k := 0) (b := 2) 10 (by decide) rfl (by decide), b1_s, b1_s, ld_2 h.1.1 (by omega), b1_s, h.2.2.2.2.1 a ha]
    by_cases hd : a < l ∧ 48 + lo ≤ T a ∧ T a ≤ 48 + 9
    · refine ⟨sI M 1 4 (nI (a + 1)), ?_, by rw [if_pos hd]; exact h.mv (by omega), frmv M _, rfl⟩
      rw [if_neg (by rw [fa_lt, t, nI_toInt (by omega)]; omega), if_pos (by rw [fa_le, t, show (9 : Int32).toInt = 9 from by decide]; omega), b1_s, nI_1, pI_k 4 _ (tc_O h), b1_s, if_pos hd, show nI (T a) - 48 = nI (T a - 48) from pk_sub (a := T a) (b := 48) (by omega)]
      rfl
    · refine ⟨M, ?_, by rw [if_neg hd]; exact h, Fr.rf M, rfl⟩
      rw [if_neg hd]
      by_cases h1 : T a < 48 + lo
      · rw [if_pos (by rw [fa_lt, t, nI_toInt (by omega)]; omega)]; rfl
      · rw [if_neg (by rw [fa_lt, t, nI_toInt (by omega)]; omega), if_neg (by rw [fa_le, t, show (9 : Int32).toInt = 9 from by decide]; omega)]; rfl
  · refine ⟨M, ?_, by rw [if_neg (fun g => ha g.1)]; exact h, Fr.rf M, rfl⟩
    rw [if_pos (nI_le (by omega) (by omega)), if_pos (by rw [fa_lt, nI_toInt (by omega)]; show (-1 : Int) < _; omega), if_neg (fun g => ha g.1)]
    rfl
theorem dg_d (T : Nat → Nat) (l a : Nat) : dgO T l a 0 9 = (if dB T l a = true then some (T a - 48) else none) ∧ dgA T l a 0 9 = (if dB T l a = true then a + 1 else a) := by
  unfold dgO dgA dB
  by_cases hd : a < l ∧ 48 ≤ T a ∧ T a ≤ 57
  · rw [decide_eq_true hd, if_pos hd, if_pos hd, if_pos rfl, if_pos rfl]; exact ⟨rfl, rfl⟩
  · rw [decide_eq_false hd, if_neg hd, if_neg hd, if_neg (by decide), if_neg (by decide)]; exact ⟨rfl, rfl⟩
theorem tc_num (h : TC s T n l a M) {k : Nat} (hk1 : 1 ≤ k) (hk : k ≤ 3) : ∃ M', f_X10_number 1 (nI k) M = some (enO (-1) (nmO T l a k), M') ∧ TC s T n l (nmA T l a k) M' ∧ Fr w14 M M' ∧ mR M' = mR M := by
  obtain ⟨M1, e1, c1, f1, r1⟩ := tc_digit h (lo := 0) (by decide)
  unfold f_X10_number f_X10_number_0
  rw [if_pos (tc_O h), show (0 : Int32) = nI 0 from rfl, e1, b2_s]
  unfold nmO nmA
  rw [(dg_d T l a).1]
  rw [(dg_d T l a).2] at c1
  have loop : ∀ (j i v : Nat) (f : Nat) (a : Nat) (N : MM), i + j = k → j < f → v < 10 ^ i → TC s T n l a N → ∃ N', f_X10_number_8 f 1 (nI k) (nI v) (nI i) N = some (nI (nmL T l j a v).1, N') ∧ TC s T n l (nmL T l j a v).2 N' ∧ Fr w14 N N' ∧ mR N' = mR N := by
    intro j
    induction j with
    | zero =>
      intro i v f a N hi hf hv hN
      cases f with
      | zero => omega
      | succ f =>
        refine ⟨N, ?_, hN, Fr.rf N, rfl⟩
        rw [f_X10_number_8, if_pos (nI_le (by omega) (by omega))]
        rfl
    | succ j ih =>
      intro i v f a N hi hf hv hN
      cases f with
      | zero => omega
      | succ f =>
        have hv3 : v < 1000 := Nat.lt_of_lt_of_le hv (Nat.le_trans (Nat.pow_le_pow_right (by decide) (show i ≤ 3 by omega)) (by decide))
        obtain ⟨N1, e1, c1, f1, r1⟩ := tc_digit hN (lo := 0) (by decide)
        rw [f_X10_number_8, if_neg (nI_ge (by omega) (by omega)), if_neg (nI_pos (by omega)), show (0 : Int32) = nI 0 from rfl, e1, b2_s, nmL_s, (dg_d T l a).1]
        rw [(dg_d T l a).2] at c1
        by_cases hd : dB T l a = true
        · have hdd := of_decide_eq_true hd
          rw [if_pos hd] at c1
          rw [if_pos hd, if_pos hd, nI_0]
          have e10 : (10 : Int32) * nI v + nI (T a - 48) = nI (10 * v + (T a - 48)) := by rw [n10m, nI_add]
          obtain ⟨N2, e2, c2, f2, r2⟩ := ih (i + 1) (10 * v + (T a - 48)) f (a + 1) N1 (by omega) (by omega) (by rw [Nat.pow_succ]; omega) c1
          refine ⟨N2, ?_, c2, f1.tr f2, r2.trans r1⟩
          show (if (0 : Int32) ≤ nI (T a - 48) then bn ((10 : Int32) * nI v + nI (T a - 48)) _ else _) = _
          rw [if_pos (nI_pos' (by omega)), bn_s, bn_s, e10, nI_1, e2]
        · rw [if_neg hd] at c1
          rw [if_neg hd, if_neg hd]
          refine ⟨N1, ?_, c1, f1, r1⟩
          show (if nI 0 ≤ (-1 : Int32) then _ else _) = _
          rw [if_neg (by decide)]
  by_cases hd : dB T l a = true
  · have hdd := of_decide_eq_true hd
    rw [if_pos hd] at c1
    rw [if_pos hd, if_pos hd, if_pos hd]
    obtain ⟨N2, e2, c2, f2, r2⟩ := loop (k - 1) 1 (T a - 48) 1024 (a + 1) M1 (by omega) (by omega) (by omega) c1
    have en : nmL T l k a 0 = nmL T l (k - 1) (a + 1) (T a - 48) := by
      have : k = (k - 1) + 1 := by omega
      rw [this, nmL_s, if_pos hd, Nat.mul_zero, Nat.zero_add, Nat.add_sub_cancel]
    rw [en]
    exact ⟨N2, e2, c2, f1.tr f2, r2.trans r1⟩
  · rw [if_neg hd] at c1
    rw [if_neg hd, if_neg hd, if_neg hd]
    refine ⟨M1, ?_, c1, f1, r1⟩
    show f_X10_number_8 1024 1 (nI k) (-1) 1 M1 = some (-1, M1)
    rw [show 1024 = 1023 + 1 from rfl, f_X10_number_8]
    split
    · rfl
    · rw [if_pos (by decide)]
theorem lt_nI {c : Int32} {m : Nat} (hc : c = nI m) : c = nI m := hc
end TXC
section TXR
variable {s : St} {T : Nat → Nat} {n l a : Nat} {M : MM}
theorem tr_O (h : TR s T n l a M) : isO 12 143 M = true := sh_O h.1.1 12 (by decide) rfl
theorem tr_take (h : TR s T n l a M) {c : Nat} (hc : c < 256) : ∃ M', f_X12_takes 143 (nI c) M = some (bI (tkB T l a c), M') ∧ TR s T n l (adv (tkB T l a c) a) M' ∧ Fr w19 M M' ∧ mR M' = mR M := by
  obtain ⟨b1, b2, b3, b4⟩ := h.2.2.2.2
  have key : ∀ b : Bool, (b = true → a < l) → b = tkB T l a c → ∃ M', f_X12_takes_29 143 (bI b) M = some (bI (tkB T l a c), M') ∧ TR s T n l (adv (tkB T l a c) a) M' ∧ Fr w19 M M' ∧ mR M' = mR M := by
    intro b hb hbe
    rw [← hbe]
    unfold f_X12_takes_29
    rw [gI_k 19 (tr_O h), b1_s, h.2.2.1, e_flag, b2_s, pI_k 19 _ (tr_O h), b1_s]
    refine ⟨_, rz_b b _, ?_, frmr M _, rfl⟩
    cases b with
    | true => rw [bI_t, nI_1]; exact h.mv (a' := a + 1) (by have := hb rfl; omega)
    | false => rw [bI_f, Int32.add_zero]; exact h.mv (a' := a) (by omega)
  unfold f_X12_takes f_X12_takes_0 f_X12_takes_28
  rw [if_pos (tr_O h), gI_k 19 (tr_O h), b1_s, gI_k 20 (tr_O h), b1_s, h.2.1, h.2.2.1]
  by_cases ha : a < l
  · have hT := b4 a ha
    rw [if_neg (nI_ge ha (by omega)), sh_R h.1.1 (a := 143) (k := 17) (b := 155) 12 (by decide) rfl (by decide), b1_s, b1_s, ld_155 h.1.1 (by omega), b1_s, h.2.2.2.1 a ha]
    by_cases hk : T a = c
    · rw [if_pos (by rw [hk])]
      exact key true (fun _ => ha) (decide_eq_true ⟨ha, hk⟩).symm
    · rw [if_neg (by rw [nI_eq (by omega) (by omega)]; exact hk)]
      exact key false (fun g => by cases g) (decide_eq_false (fun g => hk g.2)).symm
  · rw [if_pos (nI_le (by omega) (by omega))]
    exact key false (fun g => by cases g) (decide_eq_false (fun g => ha g.1)).symm
theorem tr_isd (h : TR s T n l a M) : f_X12_isDigit 143 M = some (bI (dB T l a), M) := by
  obtain ⟨b1, b2, b3, b4⟩ := h.2.2.2.2
  unfold f_X12_isDigit f_X12_isDigit_0 dB
  rw [if_pos (tr_O h), gI_k 19 (tr_O h), b1_s, gI_k 20 (tr_O h), b1_s, h.2.1, h.2.2.1]
  by_cases ha : a < l
  · have hT := b4 a ha
    rw [if_neg (nI_ge ha (by omega)), sh_R h.1.1 (a := 143) (k := 17) (b := 155) 12 (by decide) rfl (by decide), b1_s, b1_s, ld_155 h.1.1 (by omega), b1_s, h.2.2.2.1 a ha, e_inL (nI (T a)) (nI 48) (nI 57) _ _ (by decide) (by decide), b2_s]
    by_cases hd : 48 ≤ T a ∧ T a ≤ 57
    · rw [if_pos (c := nI 48 ≤ nI (T a) ∧ nI (T a) ≤ nI 57) ⟨nI_le hd.1 (by omega), nI_le hd.2 (by decide)⟩, if_neg (by decide), rz1, decide_eq_true ⟨ha, hd⟩, bI_t]
    · rw [if_neg (c := nI 48 ≤ nI (T a) ∧ nI (T a) ≤ nI 57) (by rw [nI_leI (by decide) (by omega), nI_leI (by omega) (by decide)]; exact hd), if_pos rfl, rz0, decide_eq_false (fun g => hd g.2), bI_f]
  · rw [if_pos (nI_le (by omega) (by omega)), rz0, decide_eq_false (fun g => ha g.1), bI_f]
theorem tr_digit (h : TR s T n l a M) {lo hi : Nat} (hlo : lo ≤ 9) (hhi : hi ≤ 9) : ∃ M', f_X12_digit 143 (nI lo) (nI hi) M = some (enO (-1) (dgO T l a lo hi), M') ∧ TR s T n l (dgA T l a lo hi) M' ∧ Fr w19 M M' ∧ mR M' = mR M := by
  obtain ⟨b1, b2, b3, b4⟩ := h.2.2.2.2
  unfold f_X12_digit f_X12_digit_0 dgO dgA
  rw [if_pos (tr_O h), tr_isd h, b2_s]
  by_cases hd : dB T l a = true
  · have hdd := of_decide_eq_true hd
    rw [hd, if_neg (show ¬ bI true = 0 by decide), sh_R h.1.1 (a := 143) (k := 17) (b := 155) 12 (by decide) rfl (by decide), b1_s, gI_k 19 (tr_O h), b1_s, h.2.2.1, ld_155 h.1.1 (by omega), b1_s, h.2.2.2.1 a hdd.1, show nI (T a) - 48 = nI (T a - 48) from pk_sub (a := T a) (b := 48) (by omega), e_in32, b2_s]
    by_cases hr : a < l ∧ 48 + lo ≤ T a ∧ T a ≤ 48 + hi
    · have m := h.mv (a' := a + 1) (by omega)
      refine ⟨sI M 143 19 (nI (a + 1)), ?_, by rw [if_pos hr]; exact m, frmr M _, rfl⟩
      rw [if_pos (c := nI lo ≤ nI (T a - 48) ∧ nI (T a - 48) ≤ nI hi) ⟨nI_le (by omega) (by omega), nI_le (by omega) (by omega)⟩, if_neg (by decide), gI_k 19 (tr_O h), b1_s, h.2.2.1, nI_1, pI_k 19 _ (tr_O h), b1_s, sh_R m.1.1 (a := 143) (k := 17) (b := 155) 12 (by decide) rfl (by decide), b1_s, gI_k 19 (tr_O m), b1_s, m.2.2.1, nS1 (by omega), Nat.add_sub_cancel, ld_155 m.1.1 (by omega), b1_s, m.2.2.2.1 a hdd.1, if_pos hr, show nI (T a) - 48 = nI (T a - 48) from pk_sub (a := T a) (b := 48) (by omega)]
      rfl
    · refine ⟨M, ?_, by rw [if_neg hr]; exact h, Fr.rf M, rfl⟩
      rw [if_neg (c := nI lo ≤ nI (T a - 48) ∧ nI (T a - 48) ≤ nI hi) (by rw [nI_leI (by omega) (by omega), nI_leI (by omega) (by omega)]; omega), if_pos rfl, if_neg hr]
      rfl
  · have hr : ¬ (a < l ∧ 48 + lo ≤ T a ∧ T a ≤ 48 + hi) := fun g => hd (decide_eq_true ⟨g.1, by omega, by omega⟩)
    refine ⟨M, ?_, by rw [if_neg hr]; exact h, Fr.rf M, rfl⟩
    rw [show dB T l a = false by cases hx : dB T l a <;> simp_all, if_pos (show bI false = 0 from rfl), if_neg hr]
    rfl
theorem tr_num (h : TR s T n l a M) {k : Nat} (hk1 : 1 ≤ k) (hk : k ≤ 3) : ∃ M', f_X12_number 143 (nI k) M = some (enO (-1) (nmO T l a k), M') ∧ TR s T n l (nmA T l a k) M' ∧ Fr w19 M M' ∧ mR M' = mR M := by
  unfold f_X12_number f_X12_number_0 nmO nmA
  rw [if_pos (tr_O h), tr_isd h, b2_s]
  have loop : ∀ (j i v : Nat) (f : Nat) (a : Nat) (N : MM), i + j = k → j < f → v < 10 ^ i → TR s T n l a N → ∃ N', f_X12_number_13 f 143 (nI k) (nI v) (nI i) N = some (nI (nmL T l j a v).1, N') ∧ TR s T n l (nmL T l j a v).2 N' ∧ Fr w19 N N' ∧ mR N' = mR N := by
    intro j
    induction j with
    | zero =>
      intro i v f a N hi hf hv hN
      cases f with
      | zero => omega
      | succ f =>
        refine ⟨N, ?_, hN, Fr.rf N, rfl⟩
        rw [f_X12_number_13, if_pos (nI_le (by omega) (by omega))]
        rfl
    | succ j ih =>
      intro i v f a N hi hf hv hN
      cases f with
      | zero => omega
      | succ f =>
        obtain ⟨b1, b2, b3, b4⟩ := hN.2.2.2.2
        have hv3 : v < 1000 := Nat.lt_of_lt_of_le hv (Nat.le_trans (Nat.pow_le_pow_right (by decide) (show i ≤ 3 by omega)) (by decide))
        rw [f_X12_number_13, if_neg (nI_ge (by omega) (by omega)), tr_isd hN, b2_s, nmL_s]
        by_cases hd : dB T l a = true
        · have hdd := of_decide_eq_true hd
          obtain ⟨N2, e2, c2, f2, r2⟩ := ih (i + 1) (10 * v + (T a - 48)) f (a + 1) (sI N 143 19 (nI (a + 1))) (by omega) (by omega) (by rw [Nat.pow_succ]; omega) (hN.mv (by omega))
          refine ⟨N2, ?_, by rw [if_pos hd]; exact c2, (frmr N _).tr f2, r2⟩
          rw [if_pos hd, hd, if_neg (show ¬ bI true = 0 by decide), sh_R hN.1.1 (a := 143) (k := 17) (b := 155) 12 (by decide) rfl (by decide), b1_s, gI_k 19 (tr_O hN), b1_s, hN.2.2.1, ld_155 hN.1.1 (by omega), b1_s, hN.2.2.2.1 a hdd.1, bn_s, b1_s, nI_1, pI_k 19 _ (tr_O hN), b1_s, bn_s, nI_1, show (10 : Int32) * nI v + nI (T a) - 48 = nI (10 * v + (T a - 48)) by rw [n10m, nI_add, show nI (10 * v + T a) - (48 : Int32) = nI (10 * v + T a - 48) from pk_sub (a := 10 * v + T a) (b := 48) (by omega)]; congr 1; omega, e2]
        · refine ⟨N, ?_, by rw [if_neg hd]; exact hN, Fr.rf N, rfl⟩
          rw [if_neg hd, show dB T l a = false by cases hx : dB T l a <;> simp_all, if_pos (show bI false = 0 from rfl)]
  by_cases hd : dB T l a = true
  · rw [hd, if_neg (show ¬ bI true = 0 by decide), if_pos rfl, if_pos rfl, ← nI_0]
    exact loop k 0 0 1024 a M (by omega) (by omega) (by decide) h
  · rw [show dB T l a = false by cases hx : dB T l a <;> simp_all, if_pos (show bI false = 0 from rfl), if_neg (by decide), if_neg (by decide)]
    exact ⟨M, rfl, h, Fr.rf M, rfl⟩
end TXR

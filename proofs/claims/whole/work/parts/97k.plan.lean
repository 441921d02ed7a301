/-! plan -/
theorem TC.fr' {s : St} {T : Nat → Nat} {n l a : Nat} {M M' : MM} {W : Nat → Nat → Prop} (h : TC s T n l a M) (f : Fr W M M') (hr : mR M' = mR M) (w1 : ∀ a k, W a k → wC a k) (w2 : ∀ a k, a = 1 ∨ a = 2 → ¬ W a k) : TC s T n l a M' := ⟨h.1.fr (f.mono w1) (f.sh' hr h.1.1), (f.2.2.1 1 2 (w2 _ _ (by omega))).trans h.2.1, (f.2.2.1 1 3 (w2 _ _ (by omega))).trans h.2.2.1, (f.2.2.1 1 4 (w2 _ _ (by omega))).trans h.2.2.2.1, fun k hk => (f.2.2.1 2 k (w2 _ _ (by omega))).trans (h.2.2.2.2.1 k hk), h.2.2.2.2.2⟩
theorem TR.fr' {s : St} {T : Nat → Nat} {n l a : Nat} {M M' : MM} {W : Nat → Nat → Prop} (h : TR s T n l a M) (f : Fr W M M') (hr : mR M' = mR M) (w1 : ∀ a k, W a k → wR a k) (w2 : ∀ a k, (a = 143 ∧ (k = 19 ∨ k = 20)) ∨ a = 155 → ¬ W a k) : TR s T n l a M' := ⟨h.1.fr (f.mono w1) (f.sh' hr h.1.1), (f.2.2.1 143 20 (w2 _ _ (by omega))).trans h.2.1, (f.2.2.1 143 19 (w2 _ _ (by omega))).trans h.2.2.1, fun k hk => (f.2.2.1 155 k (w2 _ _ (by omega))).trans (h.2.2.2.1 k hk), h.2.2.2.2⟩
def ltO (T : Nat → Nat) (l a m : Nat) : Option Nat := if a < l ∧ 97 ≤ T a ∧ T a < 97 + m then some (T a - 97) else none
def deO (T : Nat → Nat) (l a m : Nat) : Option Nat := if a < l ∧ 48 ≤ T a ∧ T a < 48 + m then some (T a - 48) else none
def adO (o : Option Nat) (a : Nat) : Nat := match o with
  | none => a
  | some _ => a + 1
theorem tr_let {s : St} {T : Nat → Nat} {n l a : Nat} {M : MM} (h : TR s T n l a M) {m : Nat} (hm : m ≤ 8) : ∃ M', f_X12_letter 143 (nI m) M = some (enO (-1) (ltO T l a m), M') ∧ TR s T n l (adO (ltO T l a m) a) M' ∧ Fr w19 M M' ∧ mR M' = mR M := by
  obtain ⟨b1, b2, b3, b4⟩ := h.2.2.2.2
  unfold f_X12_letter f_X12_letter_0 ltO
  rw [if_pos (tr_O h), gI_k 19 (tr_O h), b1_s, gI_k 20 (tr_O h), b1_s, h.2.1, h.2.2.1]
  by_cases ha : a < l
  · have hT := b4 a ha
    rw [if_neg (nI_ge ha (by omega)), sh_R h.1.1 (a := 143) (k := 17) (b := 155) 12 (by decide) rfl (by decide), b1_s, b1_s, ld_155 h.1.1 (by omega), b1_s, h.2.2.2.1 a ha, show (97 : Int32) + nI m - 1 = nI (97 + m - 1) by rw [show (97 : Int32) = nI 97 from rfl, nI_add, nS1 (by omega)], e_inL (nI (T a)) (nI 97) (nI (97 + m - 1)) _ _ (by decide) rfl, b2_s]
    by_cases hd : a < l ∧ 97 ≤ T a ∧ T a < 97 + m
    · have mv := h.mv (a' := a + 1) (by omega)
      rw [if_pos hd, if_pos (c := nI 97 ≤ nI (T a) ∧ nI (T a) ≤ nI (97 + m - 1)) ⟨nI_le hd.2.1 (by omega), nI_le (by omega) (by omega)⟩, if_neg (by decide), gI_k 19 (tr_O h), b1_s, h.2.2.1, nI_1, pI_k 19 _ (tr_O h), b1_s]
      refine ⟨sI M 143 19 (nI (a + 1)), ?_, mv, frmr M _, rfl⟩
      rw [sh_R mv.1.1 (a := 143) (k := 17) (b := 155) 12 (by decide) rfl (by decide), b1_s, gI_k 19 (tr_O mv), b1_s, mv.2.2.1, nS1 (by omega), Nat.add_sub_cancel, ld_155 mv.1.1 (by omega), b1_s, mv.2.2.2.1 a ha, show nI (T a) - 97 = nI (T a - 97) from pk_sub (a := T a) (b := 97) (by omega)]
      rfl
    · rw [if_neg hd, if_neg (c := nI 97 ≤ nI (T a) ∧ nI (T a) ≤ nI (97 + m - 1)) (by rw [nI_leI (by decide) (by omega), nI_leI (by omega) (by omega)]; omega), if_pos rfl]
      exact ⟨M, rfl, h, Fr.rf M, rfl⟩
  · rw [if_pos (nI_le (by omega) (by omega)), if_neg (fun g => ha g.1)]
    exact ⟨M, rfl, h, Fr.rf M, rfl⟩
theorem tr_dig {s : St} {T : Nat → Nat} {n l a : Nat} {M : MM} (h : TR s T n l a M) {m : Nat} (hm : m ≤ 8) : ∃ M', f_X12_digit 143 0 (nI m - 1) M = some (enO (-1) (deO T l a m), M') ∧ TR s T n l (adO (deO T l a m) a) M' ∧ Fr w19 M M' ∧ mR M' = mR M := by
  obtain ⟨b1, b2, b3, b4⟩ := h.2.2.2.2
  unfold f_X12_digit f_X12_digit_0 deO
  rw [if_pos (tr_O h), tr_isd h, b2_s]
  by_cases hd : dB T l a = true
  · have hdd := of_decide_eq_true hd
    have ein := e_in0n (nI (T a - 48)) m (by omega) M
    rw [hd, if_neg (show ¬ bI true = 0 by decide), sh_R h.1.1 (a := 143) (k := 17) (b := 155) 12 (by decide) rfl (by decide), b1_s, gI_k 19 (tr_O h), b1_s, h.2.2.1, ld_155 h.1.1 (by omega), b1_s, h.2.2.2.1 a hdd.1, show nI (T a) - 48 = nI (T a - 48) from pk_sub (a := T a) (b := 48) (by omega), show Int32.toInt64 (0 : Int32) = (0 : Int64) from by decide, ein, b2_s]
    by_cases hr : a < l ∧ 48 ≤ T a ∧ T a < 48 + m
    · have mv := h.mv (a' := a + 1) (by omega)
      rw [if_pos hr, ix_n (by omega) (show T a - 48 < m by omega), if_pos rfl, if_neg (by decide), gI_k 19 (tr_O h), b1_s, h.2.2.1, nI_1, pI_k 19 _ (tr_O h), b1_s]
      refine ⟨sI M 143 19 (nI (a + 1)), ?_, mv, frmr M _, rfl⟩
      rw [sh_R mv.1.1 (a := 143) (k := 17) (b := 155) 12 (by decide) rfl (by decide), b1_s, gI_k 19 (tr_O mv), b1_s, mv.2.2.1, nS1 (by omega), Nat.add_sub_cancel, ld_155 mv.1.1 (by omega), b1_s, mv.2.2.2.1 a hdd.1, show nI (T a) - 48 = nI (T a - 48) from pk_sub (a := T a) (b := 48) (by omega)]
      rfl
    · have hx : ¬ ixP (nI (T a - 48)) m = true := fun g => by
        have g2 := (ix_t.mp g).2
        rw [nI_ltI (by omega) (by omega)] at g2
        exact hr ⟨hdd.1, hdd.2.1, by omega⟩
      rw [if_neg hr, if_neg hx, if_pos rfl]
      exact ⟨M, rfl, h, Fr.rf M, rfl⟩
  · have hr : ¬ (a < l ∧ 48 ≤ T a ∧ T a < 48 + m) := fun g => hd (decide_eq_true ⟨g.1, by omega, by omega⟩)
    rw [show dB T l a = false by cases hx : dB T l a <;> simp_all, if_pos (show bI false = 0 from rfl), if_neg hr]
    exact ⟨M, rfl, h, Fr.rf M, rfl⟩
theorem r_fault {s : St} {T : Nat → Nat} {n l a : Nat} {M : MM} (h : TR s T n l a M) {m : Nat} (hm : m ≤ 80) (hl : l = min n m) (b : Bool) : f_X12_faultOf 143 (nI n) (nI m) (bI b) M = some (if b = true ∧ a = l ∧ l = n then 0 else -1 - nI a, M) := by
  obtain ⟨b1, b2, b3, b4⟩ := h.2.2.2.2
  unfold f_X12_faultOf f_X12_faultOf_0 f_X12_faultOf_19
  have k20 : ∀ c : Bool, (c = true → a = l) → (b = true ∧ a = l → c = true) → (c = true → b = true) → f_X12_faultOf_20 143 (nI n) (nI m) (bI c) M = some (if b = true ∧ a = l ∧ l = n then 0 else -1 - nI a, M) := by
    intro c hc1 hc2 hc3
    unfold f_X12_faultOf_20 f_X12_faultOf_44
    by_cases hn : n ≤ m
    · rw [if_pos (nI_le hn (by omega))]
      cases c with
      | true => rw [if_neg (show ¬ bI true = 0 by decide), if_pos ⟨hc3 rfl, hc1 rfl, by omega⟩]
      | false => rw [if_pos (show bI false = 0 from rfl), gI_k 19 (tr_O h), b1_s, h.2.2.1, if_neg (fun g => by have := hc2 ⟨g.1, g.2.1⟩; cases this)]
    · rw [if_neg (nI_ge (by omega) (by omega)), if_neg (c := b = true ∧ a = l ∧ l = n) (fun g => by have := g.2.2; omega)]
      cases c with
      | true => rw [if_neg (show ¬ bI true = 0 by decide), show a = m by have := hc1 rfl; omega]
      | false =>
        rw [if_pos (show bI false = 0 from rfl), gI_k 19 (tr_O h), b1_s, h.2.2.1]
        by_cases ham : a < m
        · rw [if_pos (nI_lt ham (by omega)), if_pos (show bI false = 0 from rfl), b1_s]
        · rw [if_neg (nI_nlt (by omega) (by omega)), show a = m by omega]
  rw [if_pos (tr_O h)]
  cases b with
  | false =>
    rw [if_pos (show bI false = 0 from rfl)]
    exact k20 false (fun g => by cases g) (fun g => g.1) (fun g => g)
  | true =>
    rw [if_neg (show ¬ bI true = 0 by decide), gI_k 19 (tr_O h), b1_s, gI_k 20 (tr_O h), b1_s, h.2.1, h.2.2.1]
    by_cases hal : a = l
    · rw [if_pos (by rw [hal])]
      exact k20 true (fun _ => hal) (fun _ => rfl) (fun _ => rfl)
    · rw [if_neg (by rw [nI_eq (by omega) (by omega)]; exact hal)]
      exact k20 false (fun g => by cases g) (fun g => absurd g.2 hal) (fun g => by cases g)
/-- one trip told -/
def trO (P E : Nat) (T : Nat → Nat) (l a : Nat) : Option Nat × Nat := match ltO T l a P with
  | none => (none, a)
  | some p => match deO T l (a + 1) E with
    | none => (none, a + 1)
    | some e => if tkB T l (a + 2) 64 = true then (match nmO T l (a + 3) 2 with
        | none => (none, a + 3)
        | some v => (some (trp p e v), nmA T l (a + 3) 2)) else (none, a + 2)
def plF (P E : Nat) (T : Nat → Nat) (n l : Nat) : Nat → Nat → Pl → Option Pl × Nat
  | 0, a, _ => (none, a)
  | j + 1, a, q => match trO P E T l a with
    | (none, a1) => (none, a1)
    | (some t, a1) => if l ≤ a1 then (if l < n then (none, a1) else (some (plAdd q t), a1)) else if tkB T l a1 59 = true then plF P E T n l j (a1 + 1) (plAdd q t) else (none, a1)
theorem plF_s (P E : Nat) (T : Nat → Nat) (n l j a : Nat) (q : Pl) : plF P E T n l (j + 1) a q = match trO P E T l a with
    | (none, a1) => (none, a1)
    | (some t, a1) => if l ≤ a1 then (if l < n then (none, a1) else (some (plAdd q t), a1)) else if tkB T l a1 59 = true then plF P E T n l j (a1 + 1) (plAdd q t) else (none, a1) := rfl
theorem trO_ok {P E : Nat} {T : Nat → Nat} {l a t : Nat} (hP : P ≤ 8) (hE : E ≤ 8) (ha : a ≤ l) (h : (trO P E T l a).1 = some t) : okT P E t := by
  unfold trO at h
  cases h1 : ltO T l a P with
  | none => rw [h1] at h; cases h
  | some p =>
    rw [h1] at h
    dsimp only at h
    cases h2 : deO T l (a + 1) E with
    | none => rw [h2] at h; cases h
    | some e =>
      rw [h2] at h
      dsimp only at h
      by_cases h3 : tkB T l (a + 2) 64 = true
      · rw [if_pos h3] at h
        have ha3 := (of_decide_eq_true h3).1
        cases h4 : nmO T l (a + 3) 2 with
        | none => rw [h4] at h; cases h
        | some v =>
          rw [h4] at h
          cases h
          have hv := nmO_b (by omega) h4
          unfold ltO at h1
          unfold deO at h2
          split at h1
          · split at h2
            · cases h1; cases h2
              exact trp_ok hP hE (by omega) (by omega) hv
            · cases h2
          · cases h1
      · rw [if_neg h3] at h; cases h
def plR (s : St) : Option Pl × Nat := if zL s = 0 then (some (0, fun _ => 0), 0) else plF (zP s) (zE s) (ztap s) (zL s) (min (zL s) 72) 12 0 (0, fun _ => 0)
def a_plan (s : St) : Int32 := match (plR s).1 with
  | none => -1 - nI (plR s).2
  | some q => nI q.1
def n_plan (s : St) : St := match (plR s).1 with
  | none => z0 s
  | some q => zpush (z0 s) q
theorem plF_ok {P E : Nat} {T : Nat → Nat} {n l : Nat} (hP : P ≤ 8) (hE : E ≤ 8) : ∀ {j a : Nat} {q q' : Pl}, a ≤ l → q.1 + j = 12 → okPl P E q → (plF P E T n l j a q).1 = some q' → okPl P E q'
  | 0, a, q, q', _, _, _, h => by cases h
  | j + 1, a, q, q', ha, hj, hq, h => by
    rw [plF_s] at h
    cases ht : trO P E T l a with
    | mk o a1 =>
      rw [ht] at h
      cases o with
      | none => cases h
      | some t =>
        have hk : okT P E t := trO_ok hP hE ha (by rw [ht])
        have hadd := okPl_add hq (by omega) hk
        dsimp only at h
        by_cases h1 : l ≤ a1
        · rw [if_pos h1] at h
          by_cases h2 : l < n
          · rw [if_pos h2] at h; cases h
          · rw [if_neg h2] at h; cases h; exact hadd
        · rw [if_neg h1] at h
          by_cases h3 : tkB T l a1 59 = true
          · rw [if_pos h3] at h
            exact plF_ok hP hE (by omega) (by show q.1 + 1 + j = 12; omega) hadd h
          · rw [if_neg h3] at h; cases h
theorem plR_ok {s : St} (hw : WF s) {q : Pl} (h : (plR s).1 = some q) : okPl (zP s) (zE s) q := by
  have hP := hw.1.1
  have hE := hw.1.2.1
  unfold plR at h
  by_cases hz : zL s = 0
  · rw [if_pos hz] at h; cases h; exact ⟨by decide, fun i hi => absurd hi (Nat.not_lt_zero i)⟩
  · rw [if_neg hz] at h
    exact plF_ok (by omega) (by omega) (Nat.zero_le _) rfl ⟨by decide, fun i hi => absurd hi (Nat.not_lt_zero i)⟩ h
theorem W_plan {s : St} (hw : WF s) : WF (n_plan s) := by
  unfold n_plan
  cases h : (plR s).1 with
  | none => exact W_z0 hw
  | some q => exact WF_push (W_z0 hw) (plR_ok hw h)
/-- the class reads one trip -/
theorem pk_P {T : Nat → Nat} {l a : Nat} (h : a < l) : pkI T l a = nI (T a) := if_pos h
theorem pk_sub_ix {T : Nat → Nat} {l a m c : Nat} (hT : ∀ k, k < l → T k < 256) (hm : m ≤ 8) (hc : c < 200) : ixP (pkI T l a - nI c) m = true ↔ a < l ∧ c ≤ T a ∧ T a < c + m := by
  rw [ix_t, fa_lt, fa_lt, show (0 : Int32).toInt = 0 from by decide, nI_toInt (by omega)]
  unfold pkI
  by_cases h : a < l
  · have := hT a h
    rw [if_pos h, fb_subI (by rw [nI_toInt (by omega), nI_toInt (by omega)]; omega) (by rw [nI_toInt (by omega), nI_toInt (by omega)]; omega), nI_toInt (by omega), nI_toInt (by omega)]
    omega
  · rw [if_neg h, fb_subI (by rw [nI_toInt (by omega), show (-1 : Int32).toInt = -1 from by decide]; omega) (by rw [nI_toInt (by omega), show (-1 : Int32).toInt = -1 from by decide]; omega), nI_toInt (by omega), show (-1 : Int32).toInt = -1 from by decide]
    omega
theorem c_rtr {s : St} {T : Nat → Nat} {n l : Nat} (hw : WF s) : ∀ (j a f : Nat) (q : Pl) (N : MM), q.1 + j = 12 → j < f → okPl (zP s) (zE s) q → TC s T n l a N → PL N 16 q → ∃ N', f_X11_readTrips_2 f 0 (nI q.1) N = some (bI (plF (zP s) (zE s) T n l j a q).1.isSome, N') ∧ TC s T n l (plF (zP s) (zE s) T n l j a q).2 N' ∧ (∀ q', (plF (zP s) (zE s) T n l j a q).1 = some q' → PL N' 16 q') ∧ Fr cW N N' ∧ mR N' = mR N
  | 0, a, f, q, N, hj, hf, hq, h, hp => by
    cases f with
    | zero => omega
    | succ f =>
      refine ⟨N, ?_, h, (fun q' g => by cases g), Fr.rf N, rfl⟩
      rw [f_X11_readTrips_2, if_pos (show (12 : Int32) ≤ nI q.1 from nI_le (a := 12) (by omega) (by omega)), rz0]
      rfl
  | j + 1, a, f, q, N, hj, hf, hq, h, hp => by
    have hP := hw.1.1
    have hE := hw.1.2.1
    cases f with
    | zero => omega
    | succ f =>
      obtain ⟨b1', b2', b3', b4'⟩ := h.2.2.2.2.2
      have R0 : ∀ {N : MM}, Sh N → gR 11 0 0 N = some 1 := fun g => sh_R g (a := 0) (k := 0) (b := 1) 11 (by decide) rfl (by decide)
      have R2 : ∀ {N : MM}, Sh N → gR 11 2 0 N = some 5 := fun g => sh_R g (a := 0) (k := 2) (b := 5) 11 (by decide) rfl (by decide)
      have ix1 := pk_sub_ix (T := T) (l := l) (a := a) (m := zP s) (c := 97) b4' (by omega) (by decide)
      rw [f_X11_readTrips_2, if_neg (show ¬ (12 : Int32) ≤ nI q.1 from nI_ge (b := 12) (by omega) (by decide)), R0 h.1.1, b1_s, tc_peek h, b2_s, bn_s, R2 h.1.1, b1_s, e_hasP hw h.1, b2_s, plF_s]
      have et : trO (zP s) (zE s) T l a = trO (zP s) (zE s) T l a := rfl
      conv at et => rhs; unfold trO
      unfold ltO at et
      by_cases h1 : a < l ∧ 97 ≤ T a ∧ T a < 97 + zP s
      · have i1 : ixP (pkI T l a - 97) (zP s) = true := ix1.mpr h1
        rw [if_pos h1] at et
        dsimp only at et
        have m1 := h.mv (a' := a + 1) (by omega)
        have ix2 := pk_sub_ix (T := T) (l := l) (a := a + 1) (m := zE s) (c := 48) b4' (by omega) (by decide)
        rw [if_pos i1, if_neg (by decide), R0 h.1.1, b1_s, tc_skip h h1.1, b1_s, R0 m1.1.1, b1_s, tc_peek m1, b2_s, bn_s, R2 m1.1.1, b1_s, e_hasE hw m1.1, b2_s]
        unfold deO at et
        by_cases h2 : a + 1 < l ∧ 48 ≤ T (a + 1) ∧ T (a + 1) < 48 + zE s
        · have i2 : ixP (pkI T l (a + 1) - 48) (zE s) = true := ix2.mpr h2
          rw [if_pos h2] at et
          dsimp only at et
          have m2 := m1.mv (a' := a + 2) (by omega)
          obtain ⟨N3, e3, c3, f3, r3⟩ := tc_take m2 (c := 64) (by decide)
          have ev1 : pkI T l a - 97 = nI (T a - 97) := by rw [pk_P h1.1]; exact pk_sub (a := T a) (b := 97) (by omega)
          have ev2 : pkI T l (a + 1) - 48 = nI (T (a + 1) - 48) := by rw [pk_P h2.1]; exact pk_sub (a := T (a + 1)) (b := 48) (by omega)
          have fr3 : Fr w14 N N3 := ((frmv N _).tr (frmv _ _)).tr f3
          rw [if_pos i2, if_neg (by decide), R0 m1.1.1, b1_s, tc_skip m1 h2.1, b1_s, R0 m2.1.1, b1_s, show (64 : Int32) = nI 64 from rfl, e3, b2_s]
          unfold f_X11_readTrips_94
          cases htk : tkB T l (a + 2) 64 with
          | false =>
            rw [htk] at c3 et
            rw [if_neg (by decide)] at et
            rw [et, if_pos (show bI false = 0 from rfl), if_neg (by decide), rz0]
            exact ⟨N3, rfl, c3, (fun q' g => by cases g), w14_cW fr3, r3⟩
          | true =>
            rw [htk] at c3 et
            rw [if_pos rfl] at et
            have c3' : TC s T n l (a + 3) N3 := c3
            obtain ⟨N4, e4, c4, f4, r4⟩ := tc_num c3' (k := 2) (by decide) (by decide)
            rw [if_neg (show ¬ bI true = 0 by decide), R0 c3.1.1, b1_s, show (2 : Int32) = nI 2 from rfl, e4, b2_s]
            cases hv : nmO T l (a + 3) 2 with
            | none =>
              rw [hv] at et
              rw [nm_none hv] at c4
              dsimp only at et
              rw [et]
              show ∃ N', (if (0 : Int32) ≤ -1 then _ else _) = _ ∧ _
              rw [if_neg (by decide), rz0]
              exact ⟨N4, rfl, c4, (fun q' g => by cases g), (w14_cW fr3).tr (w14_cW f4), r4.trans r3⟩
            | some v =>
              rw [hv] at et
              dsimp only at et
              have hvb : v < 100 := nmO_b c3'.2.2.2.2.2.2.2.1 hv
              rw [et]
              dsimp only
              have p4 : PL N4 16 q := (hp.frw fr3 (fun b k g => by unfold w14; omega)).frw f4 (fun b k g => by unfold w14; omega)
              obtain ⟨N5, e5, p5, f5, r5⟩ := c_add c4.1.1 PA16 p4 (by omega) (p := T a - 97) (e := T (a + 1) - 48) (m := v) (by omega) (by omega) hvb
              have c5 := c4.fr' f5 r5 (fun a k g => by unfold wPl at g; unfold wC; omega) (fun a k g => by unfold wPl; omega)
              have fr5 : Fr cW N N5 := ((w14_cW fr3).tr (w14_cW f4)).tr (f5.mono (fun a k g => by unfold wPl at g; unfold cW; omega))
              show ∃ N', (if (0 : Int32) ≤ nI v then _ else _) = _ ∧ _
              rw [if_pos (nI_pos' (by omega)), sh_R c4.1.1 (a := 0) (k := 4) (b := 16) 11 (by decide) rfl (by decide), b1_s, ev1, ev2, show enO (-1) (some v) = nI v from rfl, e5, b1_s, R0 c5.1.1, b1_s, tc_end c5, b2_s]
              by_cases hend : l ≤ nmA T l (a + 3) 2
              · rw [decide_eq_true hend, if_neg (show ¬ bI true = 0 by decide), if_pos hend, R0 c5.1.1, b1_s, tc_more c5, b2_s]
                by_cases hmo : l < n
                · rw [decide_eq_true hmo, if_neg (show ¬ bI true = 0 by decide), if_pos hmo, rz0]
                  exact ⟨N5, rfl, c5, (fun q' g => by cases g), fr5, r5.trans (r4.trans r3)⟩
                · rw [decide_eq_false hmo, if_pos (show bI false = 0 from rfl), if_neg hmo, rz1]
                  exact ⟨N5, rfl, c5, (fun q' g => by cases g; exact p5), fr5, r5.trans (r4.trans r3)⟩
              · obtain ⟨N6, e6, c6, f6, r6⟩ := tc_take c5 (c := 59) (by decide)
                rw [decide_eq_false hend, if_pos (show bI false = 0 from rfl), if_neg hend, R0 c5.1.1, b1_s, show (59 : Int32) = nI 59 from rfl, e6, b2_s]
                cases htk2 : tkB T l (nmA T l (a + 3) 2) 59 with
                | false =>
                  rw [htk2] at c6
                  rw [if_pos (show bI false = 0 from rfl), if_neg (by decide), rz0]
                  exact ⟨N6, rfl, c6, (fun q' g => by cases g), fr5.tr (w14_cW f6), r6.trans (r5.trans (r4.trans r3))⟩
                | true =>
                  rw [htk2] at c6
                  have hok : okT (zP s) (zE s) (trp (T a - 97) (T (a + 1) - 48) v) := trp_ok (by omega) (by omega) (by omega) (by omega) hvb
                  obtain ⟨N7, e7, c7, g7, f7, r7⟩ := c_rtr hw j (nmA T l (a + 3) 2 + 1) f (plAdd q (trp (T a - 97) (T (a + 1) - 48) v)) N6 (by show q.1 + 1 + j = 12; omega) (by omega) (okPl_add hq (by omega) hok) c6 (p5.frw f6 (fun b k g => by unfold w14; omega))
                  rw [if_neg (show ¬ bI true = 0 by decide), bn_s, nI_1, if_pos rfl]
                  exact ⟨N7, e7, c7, g7, (fr5.tr (w14_cW f6)).tr f7, r7.trans (r6.trans (r5.trans (r4.trans r3)))⟩
        · have i2 : ¬ ixP (pkI T l (a + 1) - 48) (zE s) = true := fun g => h2 (ix2.mp g)
          rw [if_neg h2] at et
          dsimp only at et
          rw [et, if_neg i2, if_pos rfl, rz0]
          exact ⟨_, rfl, m1, (fun q' g => by cases g), w14_cW (frmv N _), rfl⟩
      · have i1 : ¬ ixP (pkI T l a - 97) (zP s) = true := fun g => h1 (ix1.mp g)
        rw [if_neg h1] at et
        dsimp only at et
        rw [et, if_neg i1, if_pos rfl, rz0]
        exact ⟨N, rfl, h, (fun q' g => by cases g), Fr.rf N, rfl⟩
theorem C_plan {s : St} (hw : WF s) : OpC (fun M => f_X11_plan 0 M) s (a_plan s) (n_plan s) := by
  intro M h
  have h0 := h.1
  have hL := hw.1.2.2.2.2.2.2.1
  have hwz := W_z0 hw
  obtain ⟨M1, e1, c1, f1, r1⟩ := c_begin' hw h (m := 72) (by decide)
  have s1 := c1.1.1
  have f2 : Fr (wPl 16) M1 (sI M1 16 1 0) := (Fr.rf M1).sI (Or.inl rfl)
  have c2 : TC (z0 s) (ztap s) (zL s) (min (zL s) 72) 0 (sI M1 16 1 0) := c1.fr' f2 rfl (fun a k g => by unfold wPl at g; unfold wC; omega) (fun a k g => by unfold wPl; omega)
  have p2 : PL (sI M1 16 1 0) 16 ((0, fun _ => 0) : Pl) := ⟨by rw [mI_w, if_pos ⟨rfl, rfl⟩]; rfl, fun i hi => absurd hi (Nat.not_lt_zero i)⟩
  have fr2 : Fr cW M (sI M1 16 1 0) := f1.tr (f2.mono (fun a k g => by unfold wPl at g; unfold cW; omega))
  have fin : ∀ (N : MM) (q : Pl) (a : Nat), TC (z0 s) (ztap s) (zL s) (min (zL s) 72) a N → PL N 16 q → okPl (zP s) (zE s) q → ∃ N', f_X11_plan_42 0 N = some (nI q.1, N') ∧ RC (zpush (z0 s) q) N' ∧ Fr cW N N' := by
    intro N q a c p hq
    have sN := c.1.1
    obtain ⟨N1, g1, p1, k1, q1⟩ := c_push sN PA14 (by decide) c.1.2.2.2.2.1 hwz.2.2.2.2.1.1 (n := zU (z0 s)) (u := zund (z0 s)) c.1.2.2.2.2.2.2.1
    have t1 := sh93 k1 q1 sN
    have p16 : PL N1 16 q := p.frw k1 (fun b k g => by unfold wPa; omega)
    obtain ⟨N2, g2, p2', k2, q2⟩ := c_copy t1 PA14 PA16 (by decide) p16 hq.1
    have t2 := k2.sh' q2 t1
    have kk : Fr wPP N N2 := (k1.mono (fun a k g => by unfold wPa at g; unfold wPP; omega)).tr (k2.mono (fun a k g => by unfold wPl at g; unfold wPP; omega))
    refine ⟨N2, ?_, RC.pp c.1 kk t2 p2' (PastC.cut p1 (Nat.le_refl _) (by rw [k2.2.2.1 92 4 (by unfold wPl; omega)]; exact p1.1) k2 (fun a k g => by unfold wPl; omega)), (k1.mono (fun a k g => by unfold wPa at g; unfold cW; omega)).tr (k2.mono (fun a k g => by unfold wPl at g; unfold cW; omega))⟩
    unfold f_X11_plan_42
    rw [sh_R sN (a := 0) (k := 9) (b := 92) 11 (by decide) rfl (by decide), b1_s, sh_R sN (a := 0) (k := 3) (b := 14) 11 (by decide) rfl (by decide), b1_s, g1, b1_s, sh_R t1 (a := 0) (k := 3) (b := 14) 11 (by decide) rfl (by decide), b1_s, sh_R t1 (a := 0) (k := 4) (b := 16) 11 (by decide) rfl (by decide), b1_s, g2, b1_s, sh_R t2 (a := 0) (k := 3) (b := 14) 11 (by decide) rfl (by decide), b1_s, gI_k 1 (sh_O t2 5 (by decide) rfl), b1_s, p2'.1]
  show ∃ M', f_X11_plan 0 M = _ ∧ _
  unfold f_X11_plan f_X11_plan_0
  rw [if_pos (sh_O h0 11 (by decide) rfl), sh_R h0 (a := 0) (k := 0) (b := 1) 11 (by decide) rfl (by decide), b1_s, show (72 : Int32) = nI 72 from rfl, e1, b1_s, sh_R s1 (a := 0) (k := 4) (b := 16) 11 (by decide) rfl (by decide), b1_s, pI_k 1 _ (sh_O s1 5 (by decide) rfl), b1_s, sh_R c2.1.1 (a := 0) (k := 0) (b := 1) 11 (by decide) rfl (by decide), b1_s, tc_emp c2, b2_s]
  by_cases hz : zL s = 0
  · have hp : plR s = (some (0, fun _ => 0), 0) := if_pos hz
    obtain ⟨N', g1, g2, g3⟩ := fin _ _ _ c2 p2 ⟨by decide, fun i hi => absurd hi (Nat.not_lt_zero i)⟩
    unfold a_plan n_plan
    rw [hp, decide_eq_true hz, if_neg (show ¬ bI true = 0 by decide), g1]
    exact ⟨N', rfl, g2, fr2.tr g3⟩
  · have hp : plR s = plF (zP s) (zE s) (ztap s) (zL s) (min (zL s) 72) 12 0 (0, fun _ => 0) := if_neg hz
    have okq := fun q => plR_ok hw (q := q)
    obtain ⟨N3, e3, c3, g3, f3, r3⟩ := c_rtr hwz 12 0 1024 (0, fun _ => 0) _ rfl (by decide) ⟨by decide, fun i hi => absurd hi (Nat.not_lt_zero i)⟩ c2 p2
    have e3' : f_X11_readTrips_2 1024 0 (nI 0) (sI M1 16 1 0) = some (bI (plR s).1.isSome, N3) := by rw [hp]; exact e3
    have c3' : TC (z0 s) (ztap s) (zL s) (min (zL s) 72) (plR s).2 N3 := by rw [hp]; exact c3
    have g3' : ∀ q', (plR s).1 = some q' → PL N3 16 q' := by rw [hp]; exact g3
    have er : f_X11_readTrips 0 (sI M1 16 1 0) = some (bI (plR s).1.isSome, N3) := by
      unfold f_X11_readTrips f_X11_readTrips_0
      rw [if_pos (sh_O c2.1.1 11 (by decide) rfl)]
      rw [nI_0] at e3'
      exact e3'
    rw [decide_eq_false hz, if_pos (show bI false = 0 from rfl), er, b2_s]
    unfold a_plan n_plan
    cases hr : (plR s).1 with
    | none =>
      refine ⟨N3, ?_, c3.1, fr2.tr f3⟩
      rw [if_pos (show bI (none : Option Pl).isSome = 0 from rfl), sh_R c3.1.1 (a := 0) (k := 0) (b := 1) 11 (by decide) rfl (by decide), b1_s, tc_ref c3', b2_s]
    | some q =>
      obtain ⟨N', k1, k2, k3⟩ := fin N3 q _ c3' (g3' q hr) (okq q hr)
      rw [if_neg (show ¬ bI (some q).isSome = 0 from by show ¬ bI true = 0; decide), k1]
      exact ⟨N', rfl, k2, (fr2.tr f3).tr k3⟩
/-! the reference -/
theorem r_rt1 {s : St} {T : Nat → Nat} {n l a : Nat} {N : MM} {q : Pl} (hw : WF s) (h : TR s T n l a N) (hp : PR N 162 0 q) (hq : q.1 < 12) : ∃ N', f_X12_readsTrip 143 N = some (bI (trO (zP s) (zE s) T l a).1.isSome, N') ∧ TR s T n l (trO (zP s) (zE s) T l a).2 N' ∧ (∀ t, (trO (zP s) (zE s) T l a).1 = some t → PR N' 162 0 (plAdd q t)) ∧ Fr rW N N' ∧ mR N' = mR N := by
  have hP := hw.1.1
  have hE := hw.1.2.1
  obtain ⟨b1', b2', b3', b4'⟩ := h.2.2.2.2
  have e45 := hp.1
  rw [Nat.zero_add] at e45
  obtain ⟨N1, e1, c1, f1, r1⟩ := tr_let h (m := zP s) (by omega)
  unfold f_X12_readsTrip f_X12_readsTrip_0
  rw [if_pos (tr_O h), sh_R h.1.1 (a := 143) (k := 32) (b := 162) 12 (by decide) rfl (by decide), b1_s, n45, ld_162 h.1.1 (by decide), b1_s, e45, if_neg (by rw [show (12 : Int32) = nI 12 from rfl, nI_eq (by omega) (by omega)]; omega), gI_k 3 (tr_O h), b1_s, h.1.2.2.2.1.1, e1, b2_s]
  have et : trO (zP s) (zE s) T l a = trO (zP s) (zE s) T l a := rfl
  conv at et => rhs; unfold trO
  cases h1 : ltO T l a (zP s) with
  | none =>
    rw [h1] at et c1
    dsimp only at et
    rw [et]
    show ∃ N', (if (0 : Int32) ≤ -1 then _ else _) = _ ∧ _
    rw [if_neg (by decide), rz0]
    exact ⟨N1, rfl, c1, (fun t g => by cases g), w19_rW f1, r1⟩
  | some p =>
    rw [h1] at et c1
    dsimp only at et
    have hp1 : a < l ∧ 97 ≤ T a ∧ T a < 97 + zP s ∧ p = T a - 97 := by
      unfold ltO at h1
      split at h1
      · rename_i g; cases h1; exact ⟨g.1, g.2.1, g.2.2, rfl⟩
      · cases h1
    have c1' : TR s T n l (a + 1) N1 := c1
    obtain ⟨N2, e2, c2, f2, r2⟩ := tr_dig c1' (m := zE s) (by omega)
    show ∃ N', (if (0 : Int32) ≤ nI p then _ else _) = _ ∧ _
    rw [if_pos (nI_pos' (by omega)), gI_k 4 (tr_O c1'), b1_s, c1.1.2.2.2.1.2.1, e2, b2_s]
    cases h2 : deO T l (a + 1) (zE s) with
    | none =>
      rw [h2] at et c2
      dsimp only at et
      rw [et]
      show ∃ N', (if (-1 : Int32) < 0 then _ else _) = _ ∧ _
      rw [if_pos (by decide), rz0]
      exact ⟨N2, rfl, c2, (fun t g => by cases g), w19_rW (f1.tr f2), r2.trans r1⟩
    | some e =>
      rw [h2] at et c2
      dsimp only at et
      have hp2 : a + 1 < l ∧ 48 ≤ T (a + 1) ∧ T (a + 1) < 48 + zE s ∧ e = T (a + 1) - 48 := by
        unfold deO at h2
        split at h2
        · rename_i g; cases h2; exact ⟨g.1, g.2.1, g.2.2, rfl⟩
        · cases h2
      have c2' : TR s T n l (a + 2) N2 := c2
      obtain ⟨N3, e3, c3, f3, r3⟩ := tr_take c2' (c := 64) (by decide)
      show ∃ N', (if nI e < 0 then _ else _) = _ ∧ _
      rw [if_neg (nI_pos (by omega)), show (64 : Int32) = nI 64 from rfl, e3, b2_s]
      cases htk : tkB T l (a + 2) 64 with
      | false =>
        rw [htk] at et c3
        rw [if_neg (by decide)] at et
        rw [et, if_pos (show bI false = 0 from rfl), rz0]
        exact ⟨N3, rfl, c3, (fun t g => by cases g), w19_rW ((f1.tr f2).tr f3), r3.trans (r2.trans r1)⟩
      | true =>
        rw [htk] at et c3
        rw [if_pos rfl] at et
        have c3' : TR s T n l (a + 3) N3 := c3
        obtain ⟨N4, e4, c4, f4, r4⟩ := tr_num c3' (k := 2) (by decide) (by decide)
        have fr4 : Fr w19 N N4 := ((f1.tr f2).tr f3).tr f4
        rw [if_neg (show ¬ bI true = 0 by decide), show (2 : Int32) = nI 2 from rfl, e4, b2_s]
        cases hv : nmO T l (a + 3) 2 with
        | none =>
          rw [hv] at et
          rw [nm_none hv] at c4
          dsimp only at et
          rw [et]
          show ∃ N', (if (0 : Int32) ≤ -1 then _ else _) = _ ∧ _
          rw [if_neg (by decide), rz0]
          exact ⟨N4, rfl, c4, (fun t g => by cases g), w19_rW fr4, r4.trans (r3.trans (r2.trans r1))⟩
        | some v =>
          rw [hv] at et
          dsimp only at et
          have hvb : v < 100 := nmO_b c3'.2.2.2.2.2.2.1 hv
          have p4 : PR N4 162 0 q := hp.frw fr4 (fun b k g => by unfold w19; omega)
          obtain ⟨N5, e5, p5, f5, r5⟩ := r_comes c4.1.1 (Or.inr (Or.inr rfl) : RA 162) p4 (by omega) (p := p) (e := e) (m := v) (by omega) (by omega)
          have c5 := c4.fr' f5 r5 (fun a k g => by unfold wR; omega) (fun a k g => by omega)
          rw [et]
          show ∃ N', (if (0 : Int32) ≤ nI v then _ else _) = _ ∧ _
          rw [if_pos (nI_pos' (by omega)), sh_R c4.1.1 (a := 143) (k := 32) (b := 162) 12 (by decide) rfl (by decide), b1_s]
          show ∃ N', b1 (f_X12_comes 162 (nI p) (nI e) (nI v) N4) _ = _ ∧ _
          rw [e5, b1_s, rz1]
          exact ⟨N5, rfl, c5, (fun t g => by cases g; exact p5), (w19_rW fr4).tr (f5.mono (fun a k g => by unfold rW; omega)), r5.trans (r4.trans (r3.trans (r2.trans r1)))⟩
theorem r_rtr {s : St} {T : Nat → Nat} {n l : Nat} (hw : WF s) (hl : l = min n 72) : ∀ (j a f : Nat) (q : Pl) (N : MM), q.1 + j = 12 → j + 1 < f → okPl (zP s) (zE s) q → TR s T n l a N → PR N 162 0 q → ∃ f' N' b, f_X12_plan_32 f 143 (nI n) 1 1 N = f_X12_plan_32 (f' + 1) 143 (nI n) (bI b) 0 N' ∧ TR s T n l (plF (zP s) (zE s) T n l j a q).2 N' ∧ ((plF (zP s) (zE s) T n l j a q).1 = none → ¬ (b = true ∧ (plF (zP s) (zE s) T n l j a q).2 = l ∧ l = n)) ∧ (∀ q', (plF (zP s) (zE s) T n l j a q).1 = some q' → PR N' 162 0 q' ∧ b = true ∧ (plF (zP s) (zE s) T n l j a q).2 = l ∧ l = n) ∧ Fr rW N N' ∧ mR N' = mR N
  | 0, a, f, q, N, hj, hf, hq, h, hp => by
    cases f with
    | zero => omega
    | succ f =>
      cases f with
      | zero => omega
      | succ f =>
        have e45 := hp.1
        rw [Nat.zero_add] at e45
        refine ⟨f, N, false, ?_, h, (fun _ g => by cases g.1), (fun q' g => by cases g), Fr.rf N, rfl⟩
        rw [f_X12_plan_32, if_neg (by decide)]
        unfold f_X12_readsTrip f_X12_readsTrip_0
        rw [if_pos (tr_O h), sh_R h.1.1 (a := 143) (k := 32) (b := 162) 12 (by decide) rfl (by decide), b1_s, n45, ld_162 h.1.1 (by decide), b1_s, e45, if_pos (by rw [show q.1 = 12 by omega]; rfl), rz0, b2_s, if_pos rfl]
        rfl
  | j + 1, a, f, q, N, hj, hf, hq, h, hp => by
    have hP := hw.1.1
    have hE := hw.1.2.1
    have ha := h.2.2.2.2.2.2.1
    cases f with
    | zero => omega
    | succ f =>
      obtain ⟨N1, e1, c1, g1, f1, r1⟩ := r_rt1 hw h hp (by omega)
      rw [f_X12_plan_32, if_neg (by decide), e1, b2_s, plF_s]
      unfold f_X12_plan_58 f_X12_plan_59
      cases ht : trO (zP s) (zE s) T l a with
      | mk o a1 =>
        rw [ht] at c1 g1
        cases o with
        | none =>
          cases f with
          | zero => omega
          | succ f =>
            rw [if_pos (show bI (none : Option Nat).isSome = 0 from rfl)]
            exact ⟨f, N1, false, rfl, c1, (fun _ g => by cases g.1), (fun q' g => by cases g), f1, r1⟩
        | some t =>
          have hk : okT (zP s) (zE s) t := trO_ok (by omega) (by omega) ha (by rw [ht])
          have hadd := okPl_add hq (by omega) hk
          have p1 := g1 t rfl
          have c1' : TR s T n l a1 N1 := c1
          obtain ⟨N2, e2, c2, f2, r2⟩ := tr_take c1' (c := 59) (by decide)
          have b1'' := c1'.2.2.2.2.2.2.1
          dsimp only
          rw [if_neg (show ¬ bI (some t).isSome = 0 from by show ¬ bI true = 0; decide), show (59 : Int32) = nI 59 from rfl, e2, b2_s]
          by_cases hend : l ≤ a1
          · have htk : tkB T l a1 59 = false := decide_eq_false (by omega)
            rw [htk] at c2 ⊢
            rw [if_pos (show bI false = 0 from rfl), if_pos hend]
            cases f with
            | zero => omega
            | succ f =>
              by_cases hmo : l < n
              · rw [if_pos hmo]
                exact ⟨f, N2, true, rfl, c2, (fun _ g => by omega), (fun q' g => by cases g), f1.tr (w19_rW f2), r2.trans r1⟩
              · rw [if_neg hmo]
                exact ⟨f, N2, true, rfl, c2, (fun g => by cases g), (fun q' g => by cases g; exact ⟨p1.frw f2 (fun b k g => by unfold w19; omega), rfl, by show a1 = l; omega, by have := c1'.2.2.2.2.2.1; omega⟩), f1.tr (w19_rW f2), r2.trans r1⟩
          · rw [if_neg hend]
            cases htk : tkB T l a1 59 with
            | false =>
              rw [htk] at c2
              rw [if_pos (show bI false = 0 from rfl), if_neg (by decide)]
              cases f with
              | zero => omega
              | succ f => exact ⟨f, N2, true, rfl, c2, (fun _ g => by have := g.2.1; have : a1 = l := this; omega), (fun q' g => by cases g), f1.tr (w19_rW f2), r2.trans r1⟩
            | true =>
              rw [htk] at c2
              rw [if_neg (show ¬ bI true = 0 by decide), if_pos rfl]
              obtain ⟨f', N3, b, e3, c3, g3, k3, f3, r3⟩ := r_rtr hw hl j (a1 + 1) f (plAdd q t) N2 (by show q.1 + 1 + j = 12; omega) (by omega) hadd c2 (p1.frw f2 (fun b k g => by unfold w19; omega))
              exact ⟨f', N3, b, e3, c3, g3, k3, (f1.tr (w19_rW f2)).tr f3, r3.trans (r2.trans r1)⟩
theorem R_plan {s : St} (hw : WF s) : OpR (fun M => f_X12_plan 143 M) s (a_plan s) (n_plan s) := by
  intro M h
  obtain ⟨N, et, ht, ft, rt, t0, l0⟩ := r_thr0 h
  have hL := hw.1.2.2.2.2.2.2.1
  have hwz := W_z0 hw
  obtain ⟨M1, e1, c1, n1, f1, r1⟩ := r_begin' hw ht (m := 72) (by decide)
  have s1 := c1.1.1
  have f2 : Fr (fun a k => a = 162) M1 (sI M1 162 45 0) := (Fr.rf M1).sI rfl
  have c2 : TR (z0 s) (ztap s) (zL s) (min (zL s) 72) 0 (sI M1 162 45 0) := c1.fr' f2 rfl (fun a k g => by unfold wR; omega) (fun a k g => by omega)
  have p2 : PR (sI M1 162 45 0) 162 0 ((0, fun _ => 0) : Pl) := ⟨by rw [mI_w, if_pos ⟨rfl, rfl⟩]; rfl, fun i hi => absurd hi (Nat.not_lt_zero i)⟩
  have fr2 : Fr rW M (sI M1 162 45 0) := (ft.tr f1).tr (f2.mono (fun a k g => by unfold rW; omega))
  have fin : ∀ (f : Nat) (N : MM) (q : Pl), TR (z0 s) (ztap s) (zL s) (min (zL s) 72) (min (zL s) 72) N → min (zL s) 72 = zL s → PR N 162 0 q → okPl (zP s) (zE s) q → ∃ N', f_X12_plan_32 (f + 1) 143 (nI (zL s)) (bI true) 0 N = some (nI q.1, N') ∧ RR (zpush (z0 s) q) N' ∧ Fr rW N N' ∧ mR N' = mR N := by
    intro f N q c hmn p hq
    have hq12 := hq.1
    obtain ⟨N1, g1, k1, q1, j1, o1⟩ := r_spare hwz c.1
    have t1 := k1.1
    obtain ⟨N1', g1', p1', q1', j1', o1'⟩ := r_putsBy c.1.1 (n := zU (z0 s)) (u := zund (z0 s)) c.1.2.2.2.2.2.2.1 hwz.1.2.2.2.2.1 (fun j hj => by have := (hwz.2.2.2.2.2.1 j hj).1; omega) c.1.2.2.2.2.1 (by have := hwz.2.2.2.2.1.1; omega)
    have e11 : N1 = N1' := Option.some.inj (g1.symm.trans g1')
    have p162 : PR N1 162 0 q := by rw [e11]; exact p.frw j1' (fun b k g => by omega)
    obtain ⟨N2, g2, p2', k2, o2⟩ := r_puts t1 (Or.inr (Or.inr rfl) : RA 162) (Or.inl rfl : RA 153) (by decide) p162 (by omega)
    have t2 := k2.sh' o2 t1
    have c2 : RR (zsplan (z0 s) q) N2 := k1.pl (k2.mono (fun a k g => by unfold wQ1; omega)) t2 p2'
    have e45 := p2'.1
    rw [Nat.zero_add] at e45
    obtain ⟨N3, g3, c3, k3, o3⟩ := r_rememb hwz c2 (q1.frw k2 (fun b k g => by omega)) (nI q.1)
    refine ⟨N3, ?_, c3, (j1.tr (k2.mono (fun a k g => by unfold rW; omega))).tr k3, o3.trans (o2.trans o1)⟩
    rw [f_X12_plan_32, if_pos rfl, show (72 : Int32) = nI 72 from rfl, r_fault c (m := 72) (by decide) rfl true, b2_s, if_pos (c := true = true ∧ min (zL s) 72 = min (zL s) 72 ∧ min (zL s) 72 = zL s) ⟨rfl, rfl, hmn⟩, if_pos (show (0 : Int32) ≤ 0 by decide), g1, b1_s, sh_R t1 (a := 143) (k := 32) (b := 162) 12 (by decide) rfl (by decide), b1_s, sh_R t1 (a := 143) (k := 15) (b := 153) 12 (by decide) rfl (by decide), b1_s, g2, b1_s, sh_R t2 (a := 143) (k := 15) (b := 153) 12 (by decide) rfl (by decide), b1_s, n45, ld_153 t2 (by decide), b1_s, e45, g3, b2_s]
  show ∃ M', f_X12_plan 143 M = _ ∧ _
  unfold f_X12_plan f_X12_plan_0 f_X12_plan_31
  rw [if_pos (sh_O h.1 12 (by decide) rfl), et, b1_s, show (72 : Int32) = nI 72 from rfl, e1, b2_s, sh_R s1 (a := 143) (k := 32) (b := 162) 12 (by decide) rfl (by decide), b1_s, n45, st_162 s1 _ (by decide), b1_s]
  by_cases hz : zL s = 0
  · have hp : plR s = (some (0, fun _ => 0), 0) := if_pos hz
    have c2' : TR (z0 s) (ztap s) (zL s) (min (zL s) 72) (min (zL s) 72) (sI M1 162 45 0) := by
      have : min (zL s) 72 = 0 := by omega
      rw [this] at c2 ⊢; exact c2
    obtain ⟨N', g1, g2, g3, g4⟩ := fin 1023 _ _ c2' (by omega) p2 ⟨by decide, fun i hi => absurd hi (Nat.not_lt_zero i)⟩
    unfold a_plan n_plan
    rw [hp, if_pos (by rw [hz]; decide)]
    have g1' : f_X12_plan_32 1024 143 (nI (zL s)) 1 0 (sI M1 162 45 0) = some (nI 0, N') := g1
    rw [g1']
    exact ⟨N', rfl, g2, fr2.tr g3, g4.trans (r1.trans rt)⟩
  · have hp : plR s = plF (zP s) (zE s) (ztap s) (zL s) (min (zL s) 72) 12 0 (0, fun _ => 0) := if_neg hz
    obtain ⟨f', N3, b, e3, c3, g3, k3, f3, r3⟩ := r_rtr hwz (T := ztap s) (n := zL s) rfl 12 0 1024 (0, fun _ => 0) _ rfl (by decide) ⟨by decide, fun i hi => absurd hi (Nat.not_lt_zero i)⟩ c2 p2
    have c3' : TR (z0 s) (ztap s) (zL s) (min (zL s) 72) (plR s).2 N3 := by rw [hp]; exact c3
    have g3' : (plR s).1 = none → ¬ (b = true ∧ (plR s).2 = min (zL s) 72 ∧ min (zL s) 72 = zL s) := by rw [hp]; exact g3
    have k3' : ∀ q', (plR s).1 = some q' → PR N3 162 0 q' ∧ b = true ∧ (plR s).2 = min (zL s) 72 ∧ min (zL s) 72 = zL s := by rw [hp]; exact k3
    rw [if_neg (nI_nle (by omega) (by omega)), e3]
    unfold a_plan n_plan
    cases hr : (plR s).1 with
    | none =>
      refine ⟨N3, ?_, c3.1, fr2.tr f3, r3.trans (r1.trans rt)⟩
      have ha := c3'.2.2.2.2.2.2.1
      rw [f_X12_plan_32, if_pos rfl, show (72 : Int32) = nI 72 from rfl, r_fault c3' (m := 72) (by decide) rfl b, b2_s, if_neg (g3' hr), if_neg]
      rw [fa_le, fb_subI (by rw [nI_toInt (by omega), show (-1 : Int32).toInt = -1 from by decide]; omega) (by rw [nI_toInt (by omega), show (-1 : Int32).toInt = -1 from by decide]; omega), nI_toInt (by omega), show (-1 : Int32).toInt = -1 from by decide, show (0 : Int32).toInt = 0 from by decide]
      omega
    | some q =>
      obtain ⟨p3, rfl, ha3, hmn⟩ := k3' q hr
      rw [ha3] at c3'
      obtain ⟨N', g1, g2, g3, g4⟩ := fin f' N3 q c3' hmn p3 (plR_ok hw hr)
      rw [g1]
      exact ⟨N', rfl, g2, (fr2.tr f3).tr g3, g4.trans (r3.trans (r1.trans rt))⟩
theorem case_5 : CaseOK g_L_5 := by
  intro L xs j K M hL hj hc
  obtain ⟨s, hw, hc, hr⟩ := hc
  obtain ⟨M1, M2, hcp, e1, e2⟩ := asm (C_plan hw) (R_plan hw) (W_plan hw) hc hr
  refine ⟨M2, hcp, ?_⟩
  unfold g_L_5
  simp only [show (nI j + 1 : Int32) = nI (j + 1) from nI_add _ 1, show (nI j + 2 : Int32) = nI (j + 2) from nI_add _ 2, show (nI j + 3 : Int32) = nI (j + 3) from nI_add _ 3, show (nI j + 4 : Int32) = nI (j + 4) from nI_add _ 4, scr_k (show j + 1 < L by omega) hL, scr_k (show j + 2 < L by omega) hL, scr_k (show j + 3 < L by omega) hL, scr_k (show j + 4 < L by omega) hL, b1_s, e1, e2, b2_s, if_true]

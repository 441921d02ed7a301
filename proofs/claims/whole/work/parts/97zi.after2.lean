/-! afternoon: the reference -/
theorem nm1 {T : Nat → Nat} {l a : Nat} : nmO T l a 1 = dgO T l a 0 9 ∧ nmA T l a 1 = dgA T l a 0 9 := by
  have k := dg_d T l a
  unfold nmO nmA
  rw [k.1, k.2]
  by_cases h : dB T l a = true
  · rw [if_pos h, if_pos h, if_pos h, if_pos h, nmL_s, if_pos h]
    show some (10 * 0 + (T a - 48)) = _ ∧ _
    rw [Nat.mul_zero, Nat.zero_add]
    exact ⟨rfl, rfl⟩
  · rw [if_neg h, if_neg h, if_neg h, if_neg h]
    exact ⟨rfl, rfl⟩
def RAc (N : MM) (k : Nat) (x : Ak) : Prop := mI N 164 k = nI x.1 ∧ mI N 165 k = x.2.1 ∧ (x.1 ≠ 1 → mI N 166 k = x.2.2.1) ∧ (x.1 = 0 → mI N 167 k = x.2.2.2)
theorem RAc.fr {N N' : MM} {k : Nat} {x : Ak} {W : Nat → Nat → Prop} (h : RAc N k x) (f : Fr W N N') (w : ∀ a, 164 ≤ a → a ≤ 167 → ¬ W a k) : RAc N' k x := ⟨(f.2.2.1 164 k (w 164 (by omega) (by omega))).trans h.1, (f.2.2.1 165 k (w 165 (by omega) (by omega))).trans h.2.1, fun g => (f.2.2.1 166 k (w 166 (by omega) (by omega))).trans (h.2.2.1 g), fun g => (f.2.2.1 167 k (w 167 (by omega) (by omega))).trans (h.2.2.2 g)⟩
def wAr (k a j : Nat) : Prop := (a = 143 ∧ (j = 19 ∨ j = 39)) ∨ (164 ≤ a ∧ a ≤ 167 ∧ j = k)
theorem w19_Ar {k : Nat} {M M' : MM} (f : Fr w19 M M') : Fr (wAr k) M M' := f.mono (fun a j q => by unfold w19 at q; unfold wAr; omega)
theorem sAr {k c : Nat} {v : Int32} (M : MM) (h1 : 164 ≤ c) (h2 : c ≤ 167) : Fr (wAr k) M (sI M c k v) := (Fr.rf (W := wAr k) M).sI (Or.inr ⟨h1, h2, rfl⟩)
theorem TR.sA {s : St} {T : Nat → Nat} {n l a c k : Nat} {v : Int32} {M : MM} (h : TR s T n l a M) (h1 : 164 ≤ c) (h2 : c ≤ 167) : TR s T n l a (sI M c k v) := h.fr' (W := fun a k => a = c) ((Fr.rf M).sI rfl) rfl (fun a k q => by unfold wR; omega) (fun a k q => by omega)
theorem R164 {M : MM} (h : Sh M) : gR 12 35 143 M = some 164 ∧ gR 12 36 143 M = some 165 ∧ gR 12 37 143 M = some 166 ∧ gR 12 38 143 M = some 167 := ⟨sh_R h 12 (by decide) rfl (by decide), sh_R h 12 (by decide) rfl (by decide), sh_R h 12 (by decide) rfl (by decide), sh_R h 12 (by decide) rfl (by decide)⟩
theorem ix7s : ∀ c, c < 256 → ixS 7 c = if c = 103 then some 0 else if c = 120 then some 1 else if c = 115 then some 2 else none := by decide +kernel
theorem ix5s : ∀ c, c < 256 → ixS 5 c = if c = 43 then some 0 else if c = 45 then some 1 else none := by decide +kernel
section ACR
variable {s : St} {T : Nat → Nat} {n l : Nat}
/-- the first number of an act was read: -1 -/
theorem r_67n {a k z : Nat} {N : MM} (h : TR s T n l a N) (hk : k < 60) : ∃ N', f_X12_readsAct_67 143 (nI k) (-1) (nI k) 165 N = some (0, N') ∧ TR s T n l a N' ∧ Fr (wAr k) N N' ∧ mR N' = mR N := by
  have s0 := h.1.1
  have c1 : TR s T n l a (sI N 165 k (-1)) := h.sA (by omega) (by omega)
  have s1 := c1.1.1
  refine ⟨sI N 165 k (-1), ?_, c1, sAr N (by omega) (by omega), rfl⟩
  unfold f_X12_readsAct_67 f_X12_readsAct_87
  rw [st_165 s0 _ hk, b1_s, (R164 s1).2.1, b1_s, ld_165 s1 hk, b1_s, mI_self, if_pos (by decide), b1_s, ld_165 s1 hk, b1_s, mI_self, if_pos (by decide), rz0]
theorem r_67x {a k i : Nat} {N : MM} (h : TR s T n l a N) (hk : k < 60) (hi : i < 100) (h4 : mI N 164 k = nI 1) : ∃ N', f_X12_readsAct_67 143 (nI k) (nI i) (nI k) 165 N = some (1, N') ∧ TR s T n l a N' ∧ RAc N' k (1, nI i, 0, 0) ∧ Fr (wAr k) N N' ∧ mR N' = mR N := by
  have s0 := h.1.1
  have c1 : TR s T n l a (sI N 165 k (nI i)) := h.sA (by omega) (by omega)
  have s1 := c1.1.1
  have h4' : mI (sI N 165 k (nI i)) 164 k = nI 1 := by rw [mI_w, if_neg (by omega)]; exact h4
  refine ⟨sI N 165 k (nI i), ?_, c1, ⟨h4', mI_self _ _ _ _, fun g => absurd rfl g, fun g => by cases g⟩, sAr N (by omega) (by omega), rfl⟩
  unfold f_X12_readsAct_67 f_X12_readsAct_87
  rw [st_165 s0 _ hk, b1_s, (R164 s1).2.1, b1_s, ld_165 s1 hk, b1_s, mI_self, if_neg (nI_pos (by omega)), (R164 s1).1, b1_s, ld_164 s1 hk, b1_s, h4', if_pos (show nI 1 = 1 from rfl), b1_s, ld_165 s1 hk, b1_s, mI_self, if_neg (nI_pos (by omega)), rz1]
theorem r_67g {a k p : Nat} {N : MM} (h : TR s T n l a N) (hk : k < 60) (hp : p < 100) (h4 : mI N 164 k = nI 0) : ∃ N', f_X12_readsAct_67 143 (nI k) (nI p) (nI k) 165 N = some (bI (acG2 T l a p).1.isSome, N') ∧ TR s T n l (acG2 T l a p).2 N' ∧ (∀ x, (acG2 T l a p).1 = some x → RAc N' k x) ∧ Fr (wAr k) N N' ∧ mR N' = mR N := by
  have ha := h.2.2.2.2.2.2.1
  have s0 := h.1.1
  have c1 : TR s T n l a (sI N 165 k (nI p)) := h.sA (by omega) (by omega)
  have s1 := c1.1.1
  have fr1 : Fr (wAr k) N (sI N 165 k (nI p)) := sAr N (by omega) (by omega)
  have h4' : mI (sI N 165 k (nI p)) 164 k = nI 0 := by rw [mI_w, if_neg (by omega)]; exact h4
  obtain ⟨N2, e2, c2, f2, r2⟩ := tr_num c1 (k := 1) (by decide) (by decide)
  rw [nm1.1] at e2
  rw [nm1.2] at c2
  have e2 : f_X12_number 143 1 (sI N 165 k (nI p)) = some (enO (-1) (dgO T l a 0 9), N2) := e2
  unfold f_X12_readsAct_67 acG2
  rw [st_165 s0 _ hk, b1_s, (R164 s1).2.1, b1_s, ld_165 s1 hk, b1_s, mI_self, if_neg (nI_pos (by omega)), (R164 s1).1, b1_s, ld_164 s1 hk, b1_s, h4', if_neg (show ¬ nI 0 = 1 by decide), b1_s, ld_164 s1 hk, b1_s, h4', if_pos (show nI 0 = 0 from rfl), (R164 s1).2.2.1, b1_s, e2, b2_s, st_166 c2.1.1 _ hk, b1_s]
  cases hd : dgO T l a 0 9 with
  | none =>
    rw [dg_n hd] at c2
    have c3 : TR s T n l a (sI N2 166 k (-1)) := c2.sA (by omega) (by omega)
    rw [show enO (-1) (none : Option Nat) = -1 from rfl, (R164 c3.1.1).2.2.1, b1_s, ld_166 c3.1.1 hk, b1_s, mI_self, if_pos (by decide), rz0]
    exact ⟨_, rfl, c3, (fun x g => by cases g), (fr1.tr (w19_Ar f2)).tr (sAr N2 (by omega) (by omega)), r2⟩
  | some e =>
    have he := dg_b hd
    rw [he.2.2.2] at c2
    have c3 : TR s T n l (a + 1) (sI N2 166 k (nI e)) := c2.sA (by omega) (by omega)
    have s3 := c3.1.1
    have fr3 : Fr (wAr k) N (sI N2 166 k (nI e)) := (fr1.tr (w19_Ar f2)).tr (sAr N2 (by omega) (by omega))
    obtain ⟨N4, e4, c4, f4, r4⟩ := tr_take c3 (c := 64) (by decide)
    rw [show enO (-1) (some e) = nI e from rfl, (R164 s3).2.2.1, b1_s, ld_166 s3 hk, b1_s, mI_self, if_neg (nI_pos (by omega)), show (64 : Int32) = nI 64 from rfl, e4, b2_s]
    dsimp only
    unfold acG3
    cases htk : tkB T l (a + 1) 64 with
    | false =>
      rw [htk] at c4
      rw [if_pos (show bI false = 0 from rfl), if_neg (c := false = true) (by decide), rz0]
      exact ⟨N4, rfl, c4, (fun x g => by cases g), fr3.tr (w19_Ar f4), r4.trans r2⟩
    | true =>
      rw [htk] at c4
      have htk' := (of_decide_eq_true htk).1
      have c4' : TR s T n l (a + 1 + 1) N4 := c4
      obtain ⟨N5, e5, c5, f5, r5⟩ := tr_num c4' (k := 2) (by decide) (by decide)
      have e5 : f_X12_number 143 2 N4 = some (enO (-1) (nmO T l (a + 1 + 1) 2), N5) := e5
      rw [if_neg (show ¬ bI true = 0 by decide), if_pos rfl, (R164 c4.1.1).2.2.2, b1_s, e5, b2_s, st_167 c5.1.1 _ hk, b1_s]
      cases hm : nmO T l (a + 1 + 1) 2 with
      | none =>
        rw [nm_none hm] at c5
        have c6 : TR s T n l (a + 1 + 1) (sI N5 167 k (-1)) := c5.sA (by omega) (by omega)
        rw [show enO (-1) (none : Option Nat) = -1 from rfl, (R164 c6.1.1).2.2.2, b1_s, ld_167 c6.1.1 hk, b1_s, mI_self, if_pos (by decide), rz0]
        exact ⟨_, rfl, c6, (fun x g => by cases g), ((fr3.tr (w19_Ar f4)).tr (w19_Ar f5)).tr (sAr N5 (by omega) (by omega)), r5.trans (r4.trans r2)⟩
      | some m =>
        have hmb : m < 100 := nmO_b (by omega) hm
        have c6 : TR s T n l (nmA T l (a + 1 + 1) 2) (sI N5 167 k (nI m)) := c5.sA (by omega) (by omega)
        rw [show enO (-1) (some m) = nI m from rfl, (R164 c6.1.1).2.2.2, b1_s, ld_167 c6.1.1 hk, b1_s, mI_self, if_neg (nI_pos (by omega)), rz1]
        refine ⟨_, rfl, c6, fun x g => ?_, ((fr3.tr (w19_Ar f4)).tr (w19_Ar f5)).tr (sAr N5 (by omega) (by omega)), r5.trans (r4.trans r2)⟩
        have g : some ((0, nI p, nI e, nI m) : Ak) = some x := g
        cases g
        refine ⟨?_, ?_, fun _ => ?_, fun _ => mI_self _ _ _ _⟩
        · rw [mI_w, if_neg (by omega), f5.2.2.1 164 k (by unfold w19; omega), f4.2.2.1 164 k (by unfold w19; omega), mI_w, if_neg (by omega), f2.2.2.1 164 k (by unfold w19; omega)]; exact h4'
        · rw [mI_w, if_neg (by omega), f5.2.2.1 165 k (by unfold w19; omega), f4.2.2.1 165 k (by unfold w19; omega), mI_w, if_neg (by omega), f2.2.2.1 165 k (by unfold w19; omega), mI_self]
        · rw [mI_w, if_neg (by omega), f5.2.2.1 166 k (by unfold w19; omega), f4.2.2.1 166 k (by unfold w19; omega), mI_self]
def acS1 (T : Nat → Nat) (l a i : Nat) : Option Ak × Nat := if tkB T l a 43 = true then acS2 T l (a + 1) i true else if tkB T l a 45 = true then acS2 T l (a + 1) i false else (none, a)
theorem r_67s {a k i : Nat} {N : MM} (h : TR s T n l a N) (hk : k < 60) (hi : i < 100) (h4 : mI N 164 k = nI 2) : ∃ N', f_X12_readsAct_67 143 (nI k) (nI i) (nI k) 165 N = some (bI (acS1 T l a i).1.isSome, N') ∧ TR s T n l (acS1 T l a i).2 N' ∧ (∀ x, (acS1 T l a i).1 = some x → RAc N' k x) ∧ Fr (wAr k) N N' ∧ mR N' = mR N := by
  obtain ⟨b1', b2', ha, b4'⟩ := h.2.2.2.2
  have s0 := h.1.1
  have c1 : TR s T n l a (sI N 165 k (nI i)) := h.sA (by omega) (by omega)
  have s1 := c1.1.1
  have fr1 : Fr (wAr k) N (sI N 165 k (nI i)) := sAr N (by omega) (by omega)
  have h4' : mI (sI N 165 k (nI i)) 164 k = nI 2 := by rw [mI_w, if_neg (by omega)]; exact h4
  obtain ⟨N2, e2, c2, f2, r2⟩ := r_tkOf c1 (k := 5) (by decide)
  unfold f_X12_readsAct_67 acS1
  rw [st_165 s0 _ hk, b1_s, (R164 s1).2.1, b1_s, ld_165 s1 hk, b1_s, mI_self, if_neg (nI_pos (by omega)), (R164 s1).1, b1_s, ld_164 s1 hk, b1_s, h4', if_neg (show ¬ nI 2 = 1 by decide), b1_s, ld_164 s1 hk, b1_s, h4', if_neg (show ¬ nI 2 = 0 by decide), e2, b2_s]
  have fin : ∀ (b : Bool) (x9 : Int32), x9 = (if b = true then 0 else 1) → a < l → TR s T n l (a + 1) N2 → ∃ N', (b2 (f_X12_number 143 (2 : Int32) N2) fun r11 M10 => b1 (gR 12 37 143 M10) fun v12 => if x9 = (1 : Int32) then f_X12_readsAct_204 r11 (-r11) (nI k) v12 M10 else f_X12_readsAct_204 r11 r11 (nI k) v12 M10) = some (bI (acS2 T l (a + 1) i b).1.isSome, N') ∧ TR s T n l (acS2 T l (a + 1) i b).2 N' ∧ (∀ x, (acS2 T l (a + 1) i b).1 = some x → RAc N' k x) ∧ Fr (wAr k) N N' ∧ mR N' = mR N := by
    intro b x9 hx9 hal c2'
    obtain ⟨N3, e3, c3, f3, r3⟩ := tr_num c2' (k := 2) (by decide) (by decide)
    have e3 : f_X12_number 143 2 N2 = some (enO (-1) (nmO T l (a + 1) 2), N3) := e3
    have fr3 : Fr (wAr k) N N3 := (fr1.tr (w19_Ar f2)).tr (w19_Ar f3)
    unfold f_X12_readsAct_204 acS2
    rw [e3, b2_s, (R164 c3.1.1).2.2.1, b1_s]
    have kk : ∀ v : Int32, (if x9 = 1 then b1 (stI 166 (nI k) (-v) N3) (fun M1 => if v < 0 then rz 0 M1 else rz 1 M1) else b1 (stI 166 (nI k) v N3) (fun M1 => if v < 0 then rz 0 M1 else rz 1 M1)) = if v < 0 then some (0, sI N3 166 k (if b = true then v else -v)) else some (1, sI N3 166 k (if b = true then v else -v)) := by
      intro v
      cases b with
      | true => rw [hx9, if_neg (show ¬ (if true = true then (0 : Int32) else 1) = 1 by decide), st_166 c3.1.1 _ hk, b1_s, rz0, rz1, if_pos (c := true = true) rfl]
      | false => rw [hx9, if_pos (show (if false = true then (0 : Int32) else 1) = 1 by decide), st_166 c3.1.1 _ hk, b1_s, rz0, rz1, if_neg (c := false = true) (by decide)]
    rw [kk]
    cases hv : nmO T l (a + 1) 2 with
    | none =>
      rw [nm_none hv] at c3
      rw [show enO (-1) (none : Option Nat) = -1 from rfl, if_pos (by decide)]
      exact ⟨_, rfl, c3.sA (by omega) (by omega), (fun x g => by cases g), fr3.tr (sAr N3 (by omega) (by omega)), r3.trans r2⟩
    | some v =>
      have hvb : v < 100 := nmO_b (by omega) hv
      rw [show enO (-1) (some v) = nI v from rfl, if_neg (nI_pos (by omega))]
      refine ⟨_, rfl, c3.sA (by omega) (by omega), fun x g => ?_, fr3.tr (sAr N3 (by omega) (by omega)), r3.trans r2⟩
      have g : some ((2, nI i, (if b = true then nI v else -(nI v)), 0) : Ak) = some x := g
      cases g
      refine ⟨?_, ?_, fun _ => mI_self _ _ _ _, fun q => by cases q⟩
      · rw [mI_w, if_neg (by omega), f3.2.2.1 164 k (by unfold w19; omega), f2.2.2.1 164 k (by unfold w19; omega)]; exact h4'
      · rw [mI_w, if_neg (by omega), f3.2.2.1 165 k (by unfold w19; omega), f2.2.2.1 165 k (by unfold w19; omega), mI_self]
  by_cases h43 : tkB T l a 43 = true
  · have h43' := of_decide_eq_true h43
    have hx : ixP1 T l a 5 = some 0 := by unfold ixP1; rw [if_pos h43'.1, h43'.2]; rfl
    rw [hx] at c2
    rw [hx, if_pos h43, if_pos (show (0 : Int32) ≤ enO (-1) (some 0) by decide)]
    exact fin true (enO (-1) (some 0)) rfl h43'.1 c2
  · rw [if_neg (c := tkB T l a 43 = true) h43]
    by_cases h45 : tkB T l a 45 = true
    · have h45' := of_decide_eq_true h45
      have hx : ixP1 T l a 5 = some 1 := by unfold ixP1; rw [if_pos h45'.1, h45'.2]; rfl
      rw [hx] at c2
      rw [hx, if_pos h45, if_pos (show (0 : Int32) ≤ enO (-1) (some 1) by decide)]
      exact fin false (enO (-1) (some 1)) rfl h45'.1 c2
    · have hx : ixP1 T l a 5 = none := by
        unfold ixP1
        by_cases hl : a < l
        · rw [if_pos hl, ix5s _ (b4' a hl), if_neg (fun g => h43 (decide_eq_true ⟨hl, g⟩)), if_neg (fun g => h45 (decide_eq_true ⟨hl, g⟩))]
        · rw [if_neg hl]
      rw [hx] at c2
      rw [hx, if_neg (c := tkB T l a 45 = true) h45, if_neg (show ¬ (0 : Int32) ≤ enO (-1) (none : Option Nat) by decide), rz0]
      exact ⟨N2, rfl, c2, (fun x g => by cases g), fr1.tr (w19_Ar f2), r2⟩
theorem r_act {a k : Nat} {N : MM} (h : TR s T n l a N) (hk : k < 60) (h39 : mI N 143 39 = nI k) : ∃ N', f_X12_readsAct 143 N = some (bI (acO T l a).1.isSome, N') ∧ TR s T n l (acO T l a).2 N' ∧ (∀ x, (acO T l a).1 = some x → RAc N' k x) ∧ mI N' 143 39 = nI (k + 1) ∧ Fr (wAr k) N N' ∧ mR N' = mR N := by
  obtain ⟨b1', b2', ha, b4'⟩ := h.2.2.2.2
  have s0 := h.1.1
  obtain ⟨N1, e1, c1, f1, r1⟩ := r_tkOf h (k := 7) (by decide)
  have c2 : TR s T n l (adO (ixP1 T l a 7) a) (sI N1 164 k (enO (-1) (ixP1 T l a 7))) := c1.sA (by omega) (by omega)
  have s2 := c2.1.1
  have f3 : Fr (fun a j => a = 143 ∧ j = 39) (sI N1 164 k (enO (-1) (ixP1 T l a 7))) (sI (sI N1 164 k (enO (-1) (ixP1 T l a 7))) 143 39 (nI (k + 1))) := (Fr.rf (W := fun a j => a = 143 ∧ j = 39) _).sI ⟨rfl, rfl⟩
  have c3 : TR s T n l (adO (ixP1 T l a 7) a) (sI (sI N1 164 k (enO (-1) (ixP1 T l a 7))) 143 39 (nI (k + 1))) := c2.fr' f3 rfl (fun a k q => by unfold wR; omega) (fun a k q => by omega)
  have s3 := c3.1.1
  have e39 : mI (sI N1 164 k (enO (-1) (ixP1 T l a 7))) 143 39 = nI k := by rw [mI_w, if_neg (by omega), f1.2.2.1 143 39 (by unfold w19; omega)]; exact h39
  have e164 : mI (sI (sI N1 164 k (enO (-1) (ixP1 T l a 7))) 143 39 (nI (k + 1))) 164 k = enO (-1) (ixP1 T l a 7) := by rw [mI_w, if_neg (by omega), mI_self]
  have q39 : mI (sI (sI N1 164 k (enO (-1) (ixP1 T l a 7))) 143 39 (nI (k + 1))) 143 39 = nI (k + 1) := mI_self _ _ _ _
  have fr3 : Fr (wAr k) N (sI (sI N1 164 k (enO (-1) (ixP1 T l a 7))) 143 39 (nI (k + 1))) := ((w19_Ar f1).tr (sAr N1 (by omega) (by omega))).tr (f3.mono (fun a j q => by unfold wAr; omega))
  unfold f_X12_readsAct f_X12_readsAct_0
  rw [if_pos (tr_O h), gI_k 39 (tr_O h), b1_s, h39, (R164 s0).1, b1_s, e1, b2_s, st_164 c1.1.1 _ hk, b1_s, gI_k 39 (tr_O c2), b1_s, e39, nI_1, pI_k 39 _ (tr_O c2), b1_s]
  generalize (sI (sI N1 164 k (enO (-1) (ixP1 T l a 7))) 143 39 (nI (k + 1))) = Q at c3 s3 e164 q39 fr3
  rw [(R164 s3).1, b1_s, ld_164 s3 hk, b1_s, e164]
  have keep : ∀ {Q2 : MM} {q : Nat}, Fr (wAr k) Q Q2 → mI Q2 143 39 = mI Q2 143 39 := fun _ => rfl
  unfold acO
  by_cases h1 : tkB T l a 103 = true
  · have h1' := of_decide_eq_true h1
    have hx : ixP1 T l a 7 = some 0 := by unfold ixP1; rw [if_pos h1'.1, h1'.2]; rfl
    rw [hx] at c3 e164
    have c3' : TR s T n l (a + 1) Q := c3
    obtain ⟨N4, e4, c4, f4, r4⟩ := tr_let c3' (m := 6) (by decide)
    have e4 : f_X12_letter 143 6 Q = some (enO (-1) (ltO T l (a + 1) 6), N4) := e4
    have h44 : mI N4 164 k = nI 0 := (f4.2.2.1 164 k (by unfold w19; omega)).trans e164
    have h49 : mI N4 143 39 = nI (k + 1) := (f4.2.2.1 143 39 (by unfold w19; omega)).trans q39
    rw [hx, if_pos (show (0 : Int32) ≤ enO (-1) (some 0) by decide), (R164 s3).2.1, b1_s, b1_s, ld_164 s3 hk, b1_s, e164, if_pos (show enO (-1) (some 0) = 0 from rfl), e4, b2_s, if_pos h1]
    unfold acG
    sorry
  · sorry
end ACR

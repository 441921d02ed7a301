/-! afternoon: the reference -/
theorem nm1 {T : Nat → Nat} {l a : Nat} : nmO T l a 1 = dgO T l a 0 9 ∧ nmA T l a 1 = dgA T l a 0 9 := by
  have k := dg_d T l a
  unfold nmO nmA
  rw [k.1, k.2]
  by_cases h : dB T l a = true
  · rw [if_pos h, if_pos h, if_pos h, if_pos h, nmL_s, if_pos h]
    show some (10 * 0 + (T a - 48)) = _ ∧ _
    rw [Nat.mul_zero, Nat.zero_add]
    exact ⟨rfl, rfl⟩
  · rw [if_neg h, if_neg h, if_neg h, if_neg h]
    exact ⟨rfl, rfl⟩
def RAc (N : MM) (k : Nat) (x : Ak) : Prop := mI N 164 k = nI x.1 ∧ mI N 165 k = x.2.1 ∧ (x.1 ≠ 1 → mI N 166 k = x.2.2.1) ∧ (x.1 = 0 → mI N 167 k = x.2.2.2)
theorem RAc.fr {N N' : MM} {k : Nat} {x : Ak} {W : Nat → Nat → Prop} (h : RAc N k x) (f : Fr W N N') (w : ∀ a, 164 ≤ a → a ≤ 167 → ¬ W a k) : RAc N' k x := ⟨(f.2.2.1 164 k (w 164 (by omega) (by omega))).trans h.1, (f.2.2.1 165 k (w 165 (by omega) (by omega))).trans h.2.1, fun g => (f.2.2.1 166 k (w 166 (by omega) (by omega))).trans (h.2.2.1 g), fun g => (f.2.2.1 167 k (w 167 (by omega) (by omega))).trans (h.2.2.2 g)⟩
def wAr (k a j : Nat) : Prop := (a = 143 ∧ (j = 19 ∨ j = 39)) ∨ (164 ≤ a ∧ a ≤ 167 ∧ j = k)
theorem w19_Ar {k : Nat} {M M' : MM} (f : Fr w19 M M') : Fr (wAr k) M M' := f.mono (fun a j q => by unfold w19 at q; unfold wAr; omega)
theorem sAr {k c : Nat} {v : Int32} (M : MM) (h1 : 164 ≤ c) (h2 : c ≤ 167) : Fr (wAr k) M (sI M c k v) := (Fr.rf (W := wAr k) M).sI (Or.inr ⟨h1, h2, rfl⟩)
theorem TR.sA {s : St} {T : Nat → Nat} {n l a c k : Nat} {v : Int32} {M : MM} (h : TR s T n l a M) (h1 : 164 ≤ c) (h2 : c ≤ 167) : TR s T n l a (sI M c k v) := h.fr' (W := fun a k => a = c) ((Fr.rf M).sI rfl) rfl (fun a k q => by unfold wR; omega) (fun a k q => by omega)
theorem R164 {M : MM} (h : Sh M) : gR 12 35 143 M = some 164 ∧ gR 12 36 143 M = some 165 ∧ gR 12 37 143 M = some 166 ∧ gR 12 38 143 M = some 167 := ⟨sh_R h 12 (by decide) rfl (by decide), sh_R h 12 (by decide) rfl (by decide), sh_R h 12 (by decide) rfl (by decide), sh_R h 12 (by decide) rfl (by decide)⟩
theorem ix7s : ∀ c, c < 256 → ixS 7 c = if c = 103 then some 0 else if c = 120 then some 1 else if c = 115 then some 2 else none := by decide +kernel
theorem ix5s : ∀ c, c < 256 → ixS 5 c = if c = 43 then some 0 else if c = 45 then some 1 else none := by decide +kernel
def wAq (k a j : Nat) : Prop := (a = 143 ∧ j = 19) ∨ (164 ≤ a ∧ a ≤ 167 ∧ j = k)
theorem w19_Aq {k : Nat} {M M' : MM} (f : Fr w19 M M') : Fr (wAq k) M M' := f.mono (fun a j q => by unfold w19 at q; unfold wAq; omega)
theorem sAq {k c : Nat} {v : Int32} (M : MM) (h1 : 164 ≤ c) (h2 : c ≤ 167) : Fr (wAq k) M (sI M c k v) := (Fr.rf (W := wAq k) M).sI (Or.inr ⟨h1, h2, rfl⟩)
theorem wAq_r {k : Nat} {M M' : MM} (f : Fr (wAq k) M M') : Fr (wAr k) M M' := f.mono (fun a j q => by unfold wAq at q; unfold wAr; omega)
section ACR
variable {s : St} {T : Nat → Nat} {n l : Nat}
/-- the first number of an act was read: -1 -/
theorem r_67n {a k : Nat} {N : MM} (h : TR s T n l a N) (hk : k < 60) : ∃ N', f_X12_readsAct_67 143 (nI k) (-1) (nI k) 165 N = some (0, N') ∧ TR s T n l a N' ∧ Fr (wAq k) N N' ∧ mR N' = mR N := by
  have s0 := h.1.1
  have c1 : TR s T n l a (sI N 165 k (-1)) := h.sA (by omega) (by omega)
  have s1 := c1.1.1
  refine ⟨sI N 165 k (-1), ?_, c1, sAq N (by omega) (by omega), rfl⟩
  unfold f_X12_readsAct_67 f_X12_readsAct_87
  rw [st_165 s0 _ hk, b1_s, (R164 s1).2.1, b1_s, ld_165 s1 hk, b1_s, mI_self, if_pos (by decide), b1_s, ld_165 s1 hk, b1_s, mI_self, if_pos (by decide), rz0]
theorem r_67x {a k i : Nat} {N : MM} (h : TR s T n l a N) (hk : k < 60) (hi : i < 100) (h4 : mI N 164 k = nI 1) : ∃ N', f_X12_readsAct_67 143 (nI k) (nI i) (nI k) 165 N = some (1, N') ∧ TR s T n l a N' ∧ RAc N' k (1, nI i, 0, 0) ∧ Fr (wAq k) N N' ∧ mR N' = mR N := by
  have s0 := h.1.1
  have c1 : TR s T n l a (sI N 165 k (nI i)) := h.sA (by omega) (by omega)
  have s1 := c1.1.1
  have h4' : mI (sI N 165 k (nI i)) 164 k = nI 1 := by rw [mI_w, if_neg (by omega)]; exact h4
  refine ⟨sI N 165 k (nI i), ?_, c1, ⟨h4', mI_self _ _ _ _, fun g => absurd rfl g, fun g => by cases g⟩, sAq N (by omega) (by omega), rfl⟩
  unfold f_X12_readsAct_67 f_X12_readsAct_87
  rw [st_165 s0 _ hk, b1_s, (R164 s1).2.1, b1_s, ld_165 s1 hk, b1_s, mI_self, if_neg (nI_pos (by omega)), (R164 s1).1, b1_s, ld_164 s1 hk, b1_s, h4', if_pos (show nI 1 = 1 from rfl), b1_s, ld_165 s1 hk, b1_s, mI_self, if_neg (nI_pos (by omega)), rz1]
theorem r_67g {a k p : Nat} {N : MM} (h : TR s T n l a N) (hk : k < 60) (hp : p < 100) (h4 : mI N 164 k = nI 0) : ∃ N', f_X12_readsAct_67 143 (nI k) (nI p) (nI k) 165 N = some (bI (acG2 T l a p).1.isSome, N') ∧ TR s T n l (acG2 T l a p).2 N' ∧ (∀ x, (acG2 T l a p).1 = some x → RAc N' k x) ∧ Fr (wAq k) N N' ∧ mR N' = mR N := by
  have ha := h.2.2.2.2.2.2.1
  have s0 := h.1.1
  have c1 : TR s T n l a (sI N 165 k (nI p)) := h.sA (by omega) (by omega)
  have s1 := c1.1.1
  have fr1 : Fr (wAq k) N (sI N 165 k (nI p)) := sAq N (by omega) (by omega)
  have h4' : mI (sI N 165 k (nI p)) 164 k = nI 0 := by rw [mI_w, if_neg (by omega)]; exact h4
  obtain ⟨N2, e2, c2, f2, r2⟩ := tr_num c1 (k := 1) (by decide) (by decide)
  rw [nm1.1] at e2
  rw [nm1.2] at c2
  have e2 : f_X12_number 143 1 (sI N 165 k (nI p)) = some (enO (-1) (dgO T l a 0 9), N2) := e2
  unfold f_X12_readsAct_67 acG2
  rw [st_165 s0 _ hk, b1_s, (R164 s1).2.1, b1_s, ld_165 s1 hk, b1_s, mI_self, if_neg (nI_pos (by omega)), (R164 s1).1, b1_s, ld_164 s1 hk, b1_s, h4', if_neg (show ¬ nI 0 = 1 by decide), b1_s, ld_164 s1 hk, b1_s, h4', if_pos (show nI 0 = 0 from rfl), (R164 s1).2.2.1, b1_s, e2, b2_s, st_166 c2.1.1 _ hk, b1_s]
  cases hd : dgO T l a 0 9 with
  | none =>
    rw [dg_n hd] at c2
    have c3 : TR s T n l a (sI N2 166 k (-1)) := c2.sA (by omega) (by omega)
    rw [show enO (-1) (none : Option Nat) = -1 from rfl, (R164 c3.1.1).2.2.1, b1_s, ld_166 c3.1.1 hk, b1_s, mI_self, if_pos (by decide), rz0]
    exact ⟨_, rfl, c3, (fun x g => by cases g), (fr1.tr (w19_Aq f2)).tr (sAq N2 (by omega) (by omega)), r2⟩
  | some e =>
    have he := dg_b hd
    rw [he.2.2.2] at c2
    have c3 : TR s T n l (a + 1) (sI N2 166 k (nI e)) := c2.sA (by omega) (by omega)
    have s3 := c3.1.1
    have fr3 : Fr (wAq k) N (sI N2 166 k (nI e)) := (fr1.tr (w19_Aq f2)).tr (sAq N2 (by omega) (by omega))
    obtain ⟨N4, e4, c4, f4, r4⟩ := tr_take c3 (c := 64) (by decide)
    rw [show enO (-1) (some e) = nI e from rfl, (R164 s3).2.2.1, b1_s, ld_166 s3 hk, b1_s, mI_self, if_neg (nI_pos (by omega)), show (64 : Int32) = nI 64 from rfl, e4, b2_s]
    dsimp only
    unfold acG3
    cases htk : tkB T l (a + 1) 64 with
    | false =>
      rw [htk] at c4
      rw [if_pos (show bI false = 0 from rfl), if_neg (c := false = true) (by decide), rz0]
      exact ⟨N4, rfl, c4, (fun x g => by cases g), fr3.tr (w19_Aq f4), r4.trans r2⟩
    | true =>
      rw [htk] at c4
      have htk' := (of_decide_eq_true htk).1
      have c4' : TR s T n l (a + 1 + 1) N4 := c4
      obtain ⟨N5, e5, c5, f5, r5⟩ := tr_num c4' (k := 2) (by decide) (by decide)
      have e5 : f_X12_number 143 2 N4 = some (enO (-1) (nmO T l (a + 1 + 1) 2), N5) := e5
      rw [if_neg (show ¬ bI true = 0 by decide), if_pos rfl, (R164 c4.1.1).2.2.2, b1_s, e5, b2_s, st_167 c5.1.1 _ hk, b1_s]
      cases hm : nmO T l (a + 1 + 1) 2 with
      | none =>
        rw [nm_none hm] at c5
        have c6 : TR s T n l (a + 1 + 1) (sI N5 167 k (-1)) := c5.sA (by omega) (by omega)
        rw [show enO (-1) (none : Option Nat) = -1 from rfl, (R164 c6.1.1).2.2.2, b1_s, ld_167 c6.1.1 hk, b1_s, mI_self, if_pos (by decide), rz0]
        exact ⟨_, rfl, c6, (fun x g => by cases g), ((fr3.tr (w19_Aq f4)).tr (w19_Aq f5)).tr (sAq N5 (by omega) (by omega)), r5.trans (r4.trans r2)⟩
      | some m =>
        have hmb : m < 100 := nmO_b (by omega) hm
        have c6 : TR s T n l (nmA T l (a + 1 + 1) 2) (sI N5 167 k (nI m)) := c5.sA (by omega) (by omega)
        rw [show enO (-1) (some m) = nI m from rfl, (R164 c6.1.1).2.2.2, b1_s, ld_167 c6.1.1 hk, b1_s, mI_self, if_neg (nI_pos (by omega)), rz1]
        refine ⟨_, rfl, c6, fun x g => ?_, ((fr3.tr (w19_Aq f4)).tr (w19_Aq f5)).tr (sAq N5 (by omega) (by omega)), r5.trans (r4.trans r2)⟩
        have g : some ((0, nI p, nI e, nI m) : Ak) = some x := g
        cases g
        refine ⟨?_, ?_, fun _ => ?_, fun _ => mI_self _ _ _ _⟩
        · rw [mI_w, if_neg (by omega), f5.2.2.1 164 k (by unfold w19; omega), f4.2.2.1 164 k (by unfold w19; omega), mI_w, if_neg (by omega), f2.2.2.1 164 k (by unfold w19; omega)]; exact h4'
        · rw [mI_w, if_neg (by omega), f5.2.2.1 165 k (by unfold w19; omega), f4.2.2.1 165 k (by unfold w19; omega), mI_w, if_neg (by omega), f2.2.2.1 165 k (by unfold w19; omega), mI_self]
        · rw [mI_w, if_neg (by omega), f5.2.2.1 166 k (by unfold w19; omega), f4.2.2.1 166 k (by unfold w19; omega), mI_self]
def acS1 (T : Nat → Nat) (l a i : Nat) : Option Ak × Nat := if tkB T l a 43 = true then acS2 T l (a + 1) i true else if tkB T l a 45 = true then acS2 T l (a + 1) i false else (none, a)
theorem r_67s {a k i : Nat} {N : MM} (h : TR s T n l a N) (hk : k < 60) (hi : i < 100) (h4 : mI N 164 k = nI 2) : ∃ N', f_X12_readsAct_67 143 (nI k) (nI i) (nI k) 165 N = some (bI (acS1 T l a i).1.isSome, N') ∧ TR s T n l (acS1 T l a i).2 N' ∧ (∀ x, (acS1 T l a i).1 = some x → RAc N' k x) ∧ Fr (wAq k) N N' ∧ mR N' = mR N := by
  obtain ⟨b1', b2', ha, b4'⟩ := h.2.2.2.2
  have s0 := h.1.1
  have c1 : TR s T n l a (sI N 165 k (nI i)) := h.sA (by omega) (by omega)
  have s1 := c1.1.1
  have fr1 : Fr (wAq k) N (sI N 165 k (nI i)) := sAq N (by omega) (by omega)
  have h4' : mI (sI N 165 k (nI i)) 164 k = nI 2 := by rw [mI_w, if_neg (by omega)]; exact h4
  obtain ⟨N2, e2, c2, f2, r2⟩ := r_tkOf c1 (k := 5) (by decide)
  unfold f_X12_readsAct_67 acS1
  rw [st_165 s0 _ hk, b1_s, (R164 s1).2.1, b1_s, ld_165 s1 hk, b1_s, mI_self, if_neg (nI_pos (by omega)), (R164 s1).1, b1_s, ld_164 s1 hk, b1_s, h4', if_neg (show ¬ nI 2 = 1 by decide), b1_s, ld_164 s1 hk, b1_s, h4', if_neg (show ¬ nI 2 = 0 by decide), e2, b2_s]
  have fin : ∀ (b : Bool) (x9 : Int32), x9 = (if b = true then 0 else 1) → a < l → TR s T n l (a + 1) N2 → ∃ N', (b2 (f_X12_number 143 (2 : Int32) N2) fun r11 M10 => b1 (gR 12 37 143 M10) fun v12 => if x9 = (1 : Int32) then f_X12_readsAct_204 r11 (-r11) (nI k) v12 M10 else f_X12_readsAct_204 r11 r11 (nI k) v12 M10) = some (bI (acS2 T l (a + 1) i b).1.isSome, N') ∧ TR s T n l (acS2 T l (a + 1) i b).2 N' ∧ (∀ x, (acS2 T l (a + 1) i b).1 = some x → RAc N' k x) ∧ Fr (wAq k) N N' ∧ mR N' = mR N := by
    intro b x9 hx9 hal c2'
    obtain ⟨N3, e3, c3, f3, r3⟩ := tr_num c2' (k := 2) (by decide) (by decide)
    have e3 : f_X12_number 143 2 N2 = some (enO (-1) (nmO T l (a + 1) 2), N3) := e3
    have fr3 : Fr (wAq k) N N3 := (fr1.tr (w19_Aq f2)).tr (w19_Aq f3)
    unfold f_X12_readsAct_204 acS2
    rw [e3, b2_s, (R164 c3.1.1).2.2.1, b1_s]
    have kk : ∀ v : Int32, (if x9 = 1 then b1 (stI 166 (nI k) (-v) N3) (fun M1 => if v < 0 then rz 0 M1 else rz 1 M1) else b1 (stI 166 (nI k) v N3) (fun M1 => if v < 0 then rz 0 M1 else rz 1 M1)) = if v < 0 then some (0, sI N3 166 k (if b = true then v else -v)) else some (1, sI N3 166 k (if b = true then v else -v)) := by
      intro v
      cases b with
      | true => rw [hx9, if_neg (show ¬ (if true = true then (0 : Int32) else 1) = 1 by decide), st_166 c3.1.1 _ hk, b1_s, rz0, rz1, if_pos (c := true = true) rfl]
      | false => rw [hx9, if_pos (show (if false = true then (0 : Int32) else 1) = 1 by decide), st_166 c3.1.1 _ hk, b1_s, rz0, rz1, if_neg (c := false = true) (by decide)]
    rw [kk]
    cases hv : nmO T l (a + 1) 2 with
    | none =>
      rw [nm_none hv] at c3
      rw [show enO (-1) (none : Option Nat) = -1 from rfl, if_pos (by decide)]
      exact ⟨_, rfl, c3.sA (by omega) (by omega), (fun x g => by cases g), fr3.tr (sAq N3 (by omega) (by omega)), r3.trans r2⟩
    | some v =>
      have hvb : v < 100 := nmO_b (by omega) hv
      rw [show enO (-1) (some v) = nI v from rfl, if_neg (nI_pos (by omega))]
      refine ⟨_, rfl, c3.sA (by omega) (by omega), fun x g => ?_, fr3.tr (sAq N3 (by omega) (by omega)), r3.trans r2⟩
      have g : some ((2, nI i, (if b = true then nI v else -(nI v)), 0) : Ak) = some x := g
      cases g
      refine ⟨?_, ?_, fun _ => mI_self _ _ _ _, fun q => by cases q⟩
      · rw [mI_w, if_neg (by omega), f3.2.2.1 164 k (by unfold w19; omega), f2.2.2.1 164 k (by unfold w19; omega)]; exact h4'
      · rw [mI_w, if_neg (by omega), f3.2.2.1 165 k (by unfold w19; omega), f2.2.2.1 165 k (by unfold w19; omega), mI_self]
  by_cases h43 : tkB T l a 43 = true
  · have h43' := of_decide_eq_true h43
    have hx : ixP1 T l a 5 = some 0 := by unfold ixP1; rw [if_pos h43'.1, h43'.2]; rfl
    rw [hx] at c2
    rw [hx, if_pos h43, if_pos (show (0 : Int32) ≤ enO (-1) (some 0) by decide)]
    exact fin true (enO (-1) (some 0)) rfl h43'.1 c2
  · rw [if_neg (c := tkB T l a 43 = true) h43]
    by_cases h45 : tkB T l a 45 = true
    · have h45' := of_decide_eq_true h45
      have hx : ixP1 T l a 5 = some 1 := by unfold ixP1; rw [if_pos h45'.1, h45'.2]; rfl
      rw [hx] at c2
      rw [hx, if_pos h45, if_pos (show (0 : Int32) ≤ enO (-1) (some 1) by decide)]
      exact fin false (enO (-1) (some 1)) rfl h45'.1 c2
    · have hx : ixP1 T l a 5 = none := by
        unfold ixP1
        by_cases hl : a < l
        · rw [if_pos hl, ix5s _ (b4' a hl), if_neg (fun g => h43 (decide_eq_true ⟨hl, g⟩)), if_neg (fun g => h45 (decide_eq_true ⟨hl, g⟩))]
        · rw [if_neg hl]
      rw [hx] at c2
      rw [hx, if_neg (c := tkB T l a 45 = true) h45, if_neg (show ¬ (0 : Int32) ≤ enO (-1) (none : Option Nat) by decide), rz0]
      exact ⟨N2, rfl, c2, (fun x g => by cases g), fr1.tr (w19_Aq f2), r2⟩
theorem r_act {a k : Nat} {N : MM} (h : TR s T n l a N) (hk : k < 60) (h39 : mI N 143 39 = nI k) : ∃ N', f_X12_readsAct 143 N = some (bI (acO T l a).1.isSome, N') ∧ TR s T n l (acO T l a).2 N' ∧ (∀ x, (acO T l a).1 = some x → RAc N' k x) ∧ mI N' 143 39 = nI (k + 1) ∧ Fr (wAr k) N N' ∧ mR N' = mR N := by
  obtain ⟨b1', b2', ha, b4'⟩ := h.2.2.2.2
  have s0 := h.1.1
  obtain ⟨N1, e1, c1, f1, r1⟩ := r_tkOf h (k := 7) (by decide)
  have c2 : TR s T n l (adO (ixP1 T l a 7) a) (sI N1 164 k (enO (-1) (ixP1 T l a 7))) := c1.sA (by omega) (by omega)
  have s2 := c2.1.1
  have f3 : Fr (fun a j => a = 143 ∧ j = 39) (sI N1 164 k (enO (-1) (ixP1 T l a 7))) (sI (sI N1 164 k (enO (-1) (ixP1 T l a 7))) 143 39 (nI (k + 1))) := (Fr.rf (W := fun a j => a = 143 ∧ j = 39) _).sI ⟨rfl, rfl⟩
  have c3 : TR s T n l (adO (ixP1 T l a 7) a) (sI (sI N1 164 k (enO (-1) (ixP1 T l a 7))) 143 39 (nI (k + 1))) := c2.fr' f3 rfl (fun a k q => by unfold wR; omega) (fun a k q => by omega)
  have s3 := c3.1.1
  have e39 : mI (sI N1 164 k (enO (-1) (ixP1 T l a 7))) 143 39 = nI k := by rw [mI_w, if_neg (by omega), f1.2.2.1 143 39 (by unfold w19; omega)]; exact h39
  have e164 : mI (sI (sI N1 164 k (enO (-1) (ixP1 T l a 7))) 143 39 (nI (k + 1))) 164 k = enO (-1) (ixP1 T l a 7) := by rw [mI_w, if_neg (by omega), mI_self]
  have q39 : mI (sI (sI N1 164 k (enO (-1) (ixP1 T l a 7))) 143 39 (nI (k + 1))) 143 39 = nI (k + 1) := mI_self _ _ _ _
  have fr3 : Fr (wAr k) N (sI (sI N1 164 k (enO (-1) (ixP1 T l a 7))) 143 39 (nI (k + 1))) := ((w19_Ar f1).tr (sAr N1 (by omega) (by omega))).tr (f3.mono (fun a j q => by unfold wAr; omega))
  have rQ : mR (sI (sI N1 164 k (enO (-1) (ixP1 T l a 7))) 143 39 (nI (k + 1))) = mR N := r1
  unfold f_X12_readsAct f_X12_readsAct_0
  rw [if_pos (tr_O h), gI_k 39 (tr_O h), b1_s, h39, (R164 s0).1, b1_s, e1, b2_s, st_164 c1.1.1 _ hk, b1_s, gI_k 39 (tr_O c2), b1_s, e39, nI_1, pI_k 39 _ (tr_O c2), b1_s]
  generalize (sI (sI N1 164 k (enO (-1) (ixP1 T l a 7))) 143 39 (nI (k + 1))) = Q at c3 s3 e164 q39 fr3 rQ
  rw [(R164 s3).1, b1_s, ld_164 s3 hk, b1_s, e164]
  unfold acO
  by_cases h1 : tkB T l a 103 = true
  · have h1' := of_decide_eq_true h1
    have hx : ixP1 T l a 7 = some 0 := by unfold ixP1; rw [if_pos h1'.1, h1'.2]; rfl
    rw [hx] at c3 e164
    have c3' : TR s T n l (a + 1) Q := c3
    obtain ⟨N4, e4, c4, f4, r4⟩ := tr_let c3' (m := 6) (by decide)
    have e4 : f_X12_letter 143 6 Q = some (enO (-1) (ltO T l (a + 1) 6), N4) := e4
    have h44 : mI N4 164 k = nI 0 := (f4.2.2.1 164 k (by unfold w19; omega)).trans e164
    have h49 : mI N4 143 39 = nI (k + 1) := (f4.2.2.1 143 39 (by unfold w19; omega)).trans q39
    rw [hx, if_pos (show (0 : Int32) ≤ enO (-1) (some 0) by decide), (R164 s3).2.1, b1_s, b1_s, ld_164 s3 hk, b1_s, e164, if_pos (show enO (-1) (some 0) = 0 from rfl), e4, b2_s, if_pos h1]
    unfold acG
    cases hp : ltO T l (a + 1) 6 with
    | none =>
      rw [hp] at c4
      have c4' : TR s T n l (a + 1) N4 := c4
      obtain ⟨N5, e5, c5, f5, r5⟩ := r_67n c4' hk
      rw [show enO (-1) (none : Option Nat) = -1 from rfl, e5]
      exact ⟨N5, rfl, c5, (fun x g => by cases g), (f5.2.2.1 143 39 (by unfold wAq; omega)).trans h49, (fr3.tr (w19_Ar f4)).tr (wAq_r f5), r5.trans (r4.trans rQ)⟩
    | some p =>
      have hpb := (lt_b hp).2
      rw [hp] at c4
      have c4' : TR s T n l (a + 1 + 1) N4 := c4
      obtain ⟨N5, e5, c5, k5, f5, r5⟩ := r_67g c4' hk (p := p) (by omega) h44
      rw [show enO (-1) (some p) = nI p from rfl, e5]
      exact ⟨N5, rfl, c5, k5, (f5.2.2.1 143 39 (by unfold wAq; omega)).trans h49, (fr3.tr (w19_Ar f4)).tr (wAq_r f5), r5.trans (r4.trans rQ)⟩
  · rw [if_neg (c := tkB T l a 103 = true) h1]
    by_cases h2 : tkB T l a 120 = true
    · have h2' := of_decide_eq_true h2
      have hx : ixP1 T l a 7 = some 1 := by unfold ixP1; rw [if_pos h2'.1, h2'.2]; rfl
      rw [hx] at c3 e164
      have c3' : TR s T n l (a + 1) Q := c3
      obtain ⟨N4, e4, c4, f4, r4⟩ := tr_num c3' (k := 2) (by decide) (by decide)
      have e4 : f_X12_number 143 2 Q = some (enO (-1) (nmO T l (a + 1) 2), N4) := e4
      have h44 : mI N4 164 k = nI 1 := (f4.2.2.1 164 k (by unfold w19; omega)).trans e164
      have h49 : mI N4 143 39 = nI (k + 1) := (f4.2.2.1 143 39 (by unfold w19; omega)).trans q39
      rw [hx, if_pos (show (0 : Int32) ≤ enO (-1) (some 1) by decide), (R164 s3).2.1, b1_s, b1_s, ld_164 s3 hk, b1_s, e164, if_neg (show ¬ enO (-1) (some 1) = 0 by decide), e4, b2_s, if_pos h2]
      unfold acX
      cases hp : nmO T l (a + 1) 2 with
      | none =>
        rw [nm_none hp] at c4
        obtain ⟨N5, e5, c5, f5, r5⟩ := r_67n c4 hk
        rw [show enO (-1) (none : Option Nat) = -1 from rfl, e5]
        exact ⟨N5, rfl, c5, (fun x g => by cases g), (f5.2.2.1 143 39 (by unfold wAq; omega)).trans h49, (fr3.tr (w19_Ar f4)).tr (wAq_r f5), r5.trans (r4.trans rQ)⟩
      | some i =>
        have hib : i < 100 := nmO_b (by omega) hp
        obtain ⟨N5, e5, c5, k5, f5, r5⟩ := r_67x c4 hk hib h44
        rw [show enO (-1) (some i) = nI i from rfl, e5]
        exact ⟨N5, rfl, c5, (fun x g => by cases g; exact k5), (f5.2.2.1 143 39 (by unfold wAq; omega)).trans h49, (fr3.tr (w19_Ar f4)).tr (wAq_r f5), r5.trans (r4.trans rQ)⟩
    · rw [if_neg (c := tkB T l a 120 = true) h2]
      by_cases h3 : tkB T l a 115 = true
      · have h3' := of_decide_eq_true h3
        have hx : ixP1 T l a 7 = some 2 := by unfold ixP1; rw [if_pos h3'.1, h3'.2]; rfl
        rw [hx] at c3 e164
        have c3' : TR s T n l (a + 1) Q := c3
        obtain ⟨N4, e4, c4, f4, r4⟩ := tr_num c3' (k := 2) (by decide) (by decide)
        have e4 : f_X12_number 143 2 Q = some (enO (-1) (nmO T l (a + 1) 2), N4) := e4
        have h44 : mI N4 164 k = nI 2 := (f4.2.2.1 164 k (by unfold w19; omega)).trans e164
        have h49 : mI N4 143 39 = nI (k + 1) := (f4.2.2.1 143 39 (by unfold w19; omega)).trans q39
        rw [hx, if_pos (show (0 : Int32) ≤ enO (-1) (some 2) by decide), (R164 s3).2.1, b1_s, b1_s, ld_164 s3 hk, b1_s, e164, if_neg (show ¬ enO (-1) (some 2) = 0 by decide), e4, b2_s, if_pos h3]
        unfold acS
        cases hp : nmO T l (a + 1) 2 with
        | none =>
          rw [nm_none hp] at c4
          obtain ⟨N5, e5, c5, f5, r5⟩ := r_67n c4 hk
          rw [show enO (-1) (none : Option Nat) = -1 from rfl, e5]
          exact ⟨N5, rfl, c5, (fun x g => by cases g), (f5.2.2.1 143 39 (by unfold wAq; omega)).trans h49, (fr3.tr (w19_Ar f4)).tr (wAq_r f5), r5.trans (r4.trans rQ)⟩
        | some i =>
          have hib : i < 100 := nmO_b (by omega) hp
          obtain ⟨N5, e5, c5, k5, f5, r5⟩ := r_67s c4 hk hib h44
          rw [show enO (-1) (some i) = nI i from rfl, e5]
          exact ⟨N5, rfl, c5, k5, (f5.2.2.1 143 39 (by unfold wAq; omega)).trans h49, (fr3.tr (w19_Ar f4)).tr (wAq_r f5), r5.trans (r4.trans rQ)⟩
      · have hx : ixP1 T l a 7 = none := by
          unfold ixP1
          by_cases hl : a < l
          · rw [if_pos hl, ix7s _ (b4' a hl), if_neg (fun g => h1 (decide_eq_true ⟨hl, g⟩)), if_neg (fun g => h2 (decide_eq_true ⟨hl, g⟩)), if_neg (fun g => h3 (decide_eq_true ⟨hl, g⟩))]
          · rw [if_neg hl]
        rw [hx] at c3
        rw [hx, if_neg (show ¬ (0 : Int32) ≤ enO (-1) (none : Option Nat) by decide), rz0, if_neg (c := tkB T l a 115 = true) h3]
        exact ⟨Q, rfl, c3, (fun x g => by cases g), q39, fr3, rQ⟩
/-! the acts in their rows -/
def RAl (N : MM) : Nat → List Ak → Prop
  | _, [] => True
  | k, x :: L => RAc N k x ∧ RAl N (k + 1) L
theorem RAl.fr {N N' : MM} {W : Nat → Nat → Prop} (f : Fr W N N') (w : ∀ a j, 164 ≤ a → a ≤ 167 → ¬ W a j) : ∀ {L : List Ak} {k : Nat}, RAl N k L → RAl N' k L
  | [], k, _ => True.intro
  | x :: L, k, h => ⟨h.1.fr f (fun a h1 h2 => w a k h1 h2), RAl.fr f w h.2⟩
def wAs (k a j : Nat) : Prop := (a = 143 ∧ (j = 19 ∨ j = 39)) ∨ (164 ≤ a ∧ a ≤ 167 ∧ k ≤ j)
theorem wAs_rW {k : Nat} {M M' : MM} (f : Fr (wAs k) M M') : Fr rW M M' := f.mono (fun a j q => by unfold wAs at q; unfold rW; omega)
theorem r_acts (hl : l = min n 60) : ∀ (j a k fu : Nat) (N : MM), l < j + a → 2 * k ≤ a → j + 1 < fu → TR s T n l a N → mI N 143 39 = nI k → ∃ f' N' b, f_X12_afternoon_29 fu 143 (nI n) 1 1 N = f_X12_afternoon_29 (f' + 1) 143 (nI n) (bI b) 0 N' ∧ TR s T n l (acF T n l j a).2 N' ∧ ((acF T n l j a).1 = none → ¬ (b = true ∧ (acF T n l j a).2 = l ∧ l = n)) ∧ (∀ L, (acF T n l j a).1 = some L → RAl N' k L ∧ mI N' 143 39 = nI (k + L.length) ∧ b = true ∧ (acF T n l j a).2 = l ∧ l = n) ∧ Fr (wAs k) N N' ∧ mR N' = mR N
  | 0, a, k, fu, N, h1, h2, h3, h, h39 => by
    have := h.2.2.2.2.2.2.1
    omega
  | j + 1, a, k, fu, N, h1, h2, h3, h, h39 => by
    have ha := h.2.2.2.2.2.2.1
    have hln := h.2.2.2.2.2.1
    cases fu with
    | zero => omega
    | succ fu =>
      obtain ⟨N1, e1, c1, k1, q1, f1, r1⟩ := r_act h (k := k) (by omega) h39
      have fr1 : Fr (wAs k) N N1 := f1.mono (fun a j q => by unfold wAr at q; unfold wAs; omega)
      rw [f_X12_afternoon_29, if_neg (by decide), e1, b2_s]
      unfold f_X12_afternoon_55 f_X12_afternoon_56
      cases ho : acO T l a with
      | mk o a1 =>
        rw [ho] at c1 k1
        have c1' : TR s T n l a1 N1 := c1
        cases o with
        | none =>
          rw [if_pos (show bI (none : Option Ak).isSome = 0 from rfl), acF_n ho]
          cases fu with
          | zero => omega
          | succ fu => exact ⟨fu, N1, false, rfl, c1', (fun _ g => by cases g.1), (fun L g => by cases g), fr1, r1⟩
        | some x =>
          have kx := k1 x rfl
          have hg := acO_gt ho
          have ha1 := c1'.2.2.2.2.2.2.1
          obtain ⟨N2, e2, c2, f2, r2⟩ := tr_take c1' (c := 59) (by decide)
          have fr2 : Fr (wAs k) N N2 := fr1.tr (f2.mono (fun a j q => by unfold w19 at q; unfold wAs; omega))
          have q2 : mI N2 143 39 = nI (k + 1) := (f2.2.2.1 143 39 (by unfold w19; omega)).trans q1
          have kx2 : RAc N2 k x := kx.fr f2 (fun a _ _ => by unfold w19; omega)
          rw [if_neg (show ¬ bI (some x).isSome = 0 from by show ¬ bI true = 0; decide), show (59 : Int32) = nI 59 from rfl, e2, b2_s, acF_s ho]
          by_cases hend : l ≤ a1
          · have htk : tkB T l a1 59 = false := decide_eq_false (by omega)
            rw [htk] at c2 ⊢
            rw [if_pos hend, if_pos (show bI false = 0 from rfl)]
            cases fu with
            | zero => omega
            | succ fu =>
              by_cases hmo : l < n
              · rw [if_pos hmo]
                exact ⟨fu, N2, true, rfl, c2, (fun _ g => by have := g.2.2; omega), (fun L g => by cases g), fr2, r2.trans r1⟩
              · rw [if_neg hmo]
                exact ⟨fu, N2, true, rfl, c2, (fun g => by cases g), (fun L g => by cases g; exact ⟨⟨kx2, True.intro⟩, q2, rfl, by show a1 = l; omega, by omega⟩), fr2, r2.trans r1⟩
          · rw [if_neg hend]
            cases htk : tkB T l a1 59 with
            | false =>
              rw [htk] at c2
              rw [if_pos (show bI false = 0 from rfl), if_neg (c := false = true) (by decide)]
              cases fu with
              | zero => omega
              | succ fu => exact ⟨fu, N2, true, rfl, c2, (fun _ g => by have g1 : a1 = l := g.2.1; omega), (fun L g => by cases g), fr2, r2.trans r1⟩
            | true =>
              rw [htk] at c2
              have c2' : TR s T n l (a1 + 1) N2 := c2
              obtain ⟨f', N3, b, e3, c3, g3, k3, f3, r3⟩ := r_acts hl j (a1 + 1) (k + 1) fu N2 (by omega) (by omega) (by omega) c2' q2
              rw [if_neg (show ¬ bI true = 0 by decide), if_pos rfl]
              have kx3 : RAc N3 k x := kx2.fr f3 (fun a _ _ => by unfold wAs; omega)
              refine ⟨f', N3, b, e3, c3, fun g => ?_, fun L g => ?_, fr2.tr (f3.mono (fun a j q => by unfold wAs at *; omega)), r3.trans (r2.trans r1)⟩
              · have g : (acF T n l j (a1 + 1)).1.map (fun L => x :: L) = none := g
                cases hx : (acF T n l j (a1 + 1)).1 with
                | none => exact g3 hx
                | some L => rw [hx] at g; cases g
              · have g : (acF T n l j (a1 + 1)).1.map (fun L => x :: L) = some L := g
                cases hx : (acF T n l j (a1 + 1)).1 with
                | none => rw [hx] at g; cases g
                | some L' =>
                  rw [hx] at g
                  cases g
                  obtain ⟨m1, m2, m3, m4, m5⟩ := k3 L' hx
                  refine ⟨⟨kx3, m1⟩, ?_, m3, m4, m5⟩
                  rw [m2]
                  show nI (k + 1 + L'.length) = nI (k + (L'.length + 1))
                  rw [Nat.add_assoc, Nat.add_comm 1]
end ACR

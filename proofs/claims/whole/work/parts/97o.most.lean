/-! most: pure -/
def itr {α : Type} (g : Nat → α → α) : Nat → α → α
  | 0, x => x
  | n + 1, x => g n (itr g n x)
theorem itr_0 {α : Type} (g : Nat → α → α) (x : α) : itr g 0 x = x := rfl
theorem itr_s {α : Type} (g : Nat → α → α) (n : Nat) (x : α) : itr g (n + 1) x = g n (itr g n x) := rfl
theorem itr_2 {α β : Type} {P : α → β → Prop} {g : Nat → α → α} {h : Nat → β → β} {x : α} {y : β} : ∀ {n : Nat}, (∀ k, k < n → ∀ x y, P x y → P (g k x) (h k y)) → P x y → P (itr g n x) (itr h n y)
  | 0, _, p => p
  | n + 1, hs, p => hs n (by omega) _ _ (itr_2 (fun k hk => hs k (by omega)) p)
theorem itr_3 {α β γ : Type} {P : α → β → γ → Prop} {g : Nat → α → α} {h : Nat → β → β} {i : Nat → γ → γ} {x : α} {y : β} {z : γ} : ∀ {n : Nat}, (∀ k, k < n → ∀ x y z, P x y z → P (g k x) (h k y) (i k z)) → P x y z → P (itr g n x) (itr h n y) (itr i n z)
  | 0, _, p => p
  | n + 1, hs, p => hs n (by omega) _ _ _ (itr_3 (fun k hk => hs k (by omega)) p)
abbrev Bx : Type := Int32 × Nat × (Nat → Nat)
def upC (X : Bx) (g : Int32) (nb : Nat) (r : Nat → Nat) : Bx := if g ≤ X.1 then X else (g, nb, r)
def upR (X : Bx) (g : Int32) (nb : Nat) (r : Nat → Nat) : Bx := if X.1 < g then (g, nb, r) else if g = X.1 then (if X.2.1 ≤ nb then X else (g, nb, r)) else X
def mg (A B : Bx) : Bx := if B.1 ≤ A.1 then A else B
theorem i_nle {a b : Int32} : ¬ a ≤ b ↔ b < a := by rw [Int32.le_iff_toInt_le, Int32.lt_iff_toInt_lt]; omega
theorem i_le {a b : Int32} : a ≤ b ↔ a.toInt ≤ b.toInt := Int32.le_iff_toInt_le
theorem i_lt {a b : Int32} : a < b ↔ a.toInt < b.toInt := Int32.lt_iff_toInt_lt
theorem i_eq {a b : Int32} : a = b ↔ a.toInt = b.toInt := Int32.toInt_inj.symm
theorem upC_mg (A B : Bx) (g : Int32) (nb : Nat) (r : Nat → Nat) : upC (mg A B) g nb r = mg A (upC B g nb r) := by
  unfold upC mg
  by_cases h1 : B.1 ≤ A.1 <;> by_cases h2 : g ≤ B.1 <;> by_cases h3 : g ≤ A.1 <;> simp only [h1, h2, h3, if_true, if_false] <;> (rw [i_le] at h1 h2 h3; exfalso; omega)
theorem upR_1 {A B : Bx} (hA : A.2.1 ≤ 1) (hB : B.2.1 = 2) (g : Int32) (r : Nat → Nat) : upR (mg A B) g 1 r = mg (upC A g 1 r) B := by
  unfold upR upC mg
  by_cases h1 : B.1 ≤ A.1
  · rw [if_pos h1]
    by_cases h2 : g ≤ A.1
    · rw [if_pos h2, if_pos h1, if_neg (fun q => by rw [i_lt] at q; rw [i_le] at h2; omega)]
      split
      · first | rw [if_pos hA] | rfl
      · rfl
    · rw [if_neg h2, if_pos (i_nle.mp h2)]
      show _ = if B.1 ≤ g then _ else _
      rw [if_pos (by rw [i_le] at *; omega)]
  · rw [if_neg h1]
    by_cases h2 : g ≤ A.1
    · rw [if_pos h2, if_neg h1, if_neg (fun q => by rw [i_lt] at q; rw [i_le] at h1 h2; omega), if_neg (fun q => by rw [i_eq] at q; rw [i_le] at h1 h2; omega)]
    · rw [if_neg h2]
      show _ = if B.1 ≤ g then _ else _
      by_cases h3 : B.1 ≤ g
      · rw [if_pos h3]
        by_cases h4 : B.1 < g
        · rw [if_pos h4]
        · rw [if_neg h4, if_pos (by rw [i_eq]; rw [i_lt] at h4; rw [i_le] at h3; omega), if_neg (by omega)]
      · rw [if_neg h3, if_neg (fun q => by rw [i_lt] at q; rw [i_le] at h3; omega), if_neg (fun q => by rw [i_eq] at q; rw [i_le] at h3; omega)]
theorem upR_2 {A B : Bx} (hA : A.2.1 ≤ 1) (hB : B.2.1 = 2) (g : Int32) (r : Nat → Nat) : upR (mg A B) g 2 r = upC (mg A B) g 2 r := by
  have hm : (mg A B).2.1 ≤ 2 := by unfold mg; split <;> omega
  unfold upR upC
  by_cases h2 : g ≤ (mg A B).1
  · rw [if_pos h2, if_neg (fun q => by rw [i_lt] at q; rw [i_le] at h2; omega)]
    split
    · first | rw [if_pos hm] | rfl
    · rfl
  · rw [if_neg h2, if_pos (i_nle.mp h2)]
theorem upR_c {A : Bx} (hA : A.2.1 ≤ 1) (g : Int32) (r : Nat → Nat) : upR A g 1 r = upC A g 1 r := by
  unfold upR upC
  by_cases h2 : g ≤ A.1
  · rw [if_pos h2, if_neg (fun q => by rw [i_lt] at q; rw [i_le] at h2; omega)]
    split
    · first | rw [if_pos hA] | rfl
    · rfl
  · rw [if_neg h2, if_pos (i_nle.mp h2)]
theorem upC_k {X : Bx} {n nb : Nat} {g : Int32} {r : Nat → Nat} (h : X.2.1 ≤ n) (hb : nb ≤ n) : (upC X g nb r).2.1 ≤ n := by unfold upC; split <;> assumption
theorem upC_2 {X : Bx} {g : Int32} {r : Nat → Nat} (h : X.2.1 = 2) : (upC X g 2 r).2.1 = 2 := by unfold upC; split; exact h; rfl
def r1 (p e m k : Nat) : Nat := if k = 0 then p else if k = 1 then e else m
def r2 (r : Nat → Nat) (p e m k : Nat) : Nat := if k < 3 then r k else r1 p e m (k - 3)
def gn (s : St) (q q' : Pl) : Int32 := worAll s q' - worAll s q
def qa (s : St) (q : Pl) (p e : Nat) : Pl := plAdd q (trp p e (erN s q p e))
def lq2 (s : St) (g : Nat → Nat → Bx → Bx) (X : Bx) : Bx := itr (fun p => itr (fun e => g p e) (zE s)) (zP s) X
def on (s : St) (q : Pl) (g : Nat → Nat → Bx → Bx) (p e : Nat) (X : Bx) : Bx := if erN s q p e < 100 then g p e X else X
theorem on_t {s : St} {q : Pl} {g : Nat → Nat → Bx → Bx} {p e : Nat} {X : Bx} (h : erN s q p e < 100) : on s q g p e X = g p e X := if_pos h
theorem on_f {s : St} {q : Pl} {g : Nat → Nat → Bx → Bx} {p e : Nat} {X : Bx} (h : ¬ erN s q p e < 100) : on s q g p e X = X := if_neg h
def g1 (s : St) (q : Pl) (up : Bx → Int32 → Nat → (Nat → Nat) → Bx) (p e : Nat) (X : Bx) : Bx := up X (gn s q (qa s q p e)) 1 (r1 p e (erN s q p e))
def g2 (s : St) (q q1 : Pl) (r : Nat → Nat) (up : Bx → Int32 → Nat → (Nat → Nat) → Bx) (p e : Nat) (X : Bx) : Bx := up X (gn s q (qa s q1 p e)) 2 (r2 r p e (erN s q1 p e))
def l2 (s : St) (q : Pl) (up : Bx → Int32 → Nat → (Nat → Nat) → Bx) (p e : Nat) (X : Bx) : Bx := lq2 s (on s (qa s q p e) (g2 s q (qa s q p e) (r1 p e (erN s q p e)) up)) X
def X0 : Bx := (0, 0, fun _ => 0)
def moC (s : St) (q : Pl) (n : Nat) : Bx := match n with
  | 0 => X0
  | 1 => lq2 s (on s q (g1 s q upC)) X0
  | _ => lq2 s (on s q (l2 s q upC)) (lq2 s (on s q (g1 s q upC)) X0)
def moR (s : St) (q : Pl) (n : Nat) : Bx := match n with
  | 0 => X0
  | 1 => lq2 s (on s q (g1 s q upR)) X0
  | _ => lq2 s (on s q (fun p e X => l2 s q upR p e (g1 s q upR p e X))) X0
theorem lq2_2 {s : St} {P : Bx → Bx → Prop} {g h : Nat → Nat → Bx → Bx} {X Y : Bx} (hs : ∀ p e X Y, P X Y → P (g p e X) (h p e Y)) (h0 : P X Y) : P (lq2 s g X) (lq2 s h Y) := itr_2 (fun p _ X Y hp => itr_2 (fun e _ X Y hp => hs p e X Y hp) hp) h0
theorem lq2_3 {s : St} {P : Bx → Bx → Bx → Prop} {g h i : Nat → Nat → Bx → Bx} {X Y Z : Bx} (hs : ∀ p e X Y Z, P X Y Z → P (g p e X) (h p e Y) (i p e Z)) (h0 : P X Y Z) : P (lq2 s g X) (lq2 s h Y) (lq2 s i Z) := itr_3 (fun p _ X Y Z hp => itr_3 (fun e _ X Y Z hp => hs p e X Y Z hp) hp) h0
theorem on_2 {s : St} {q : Pl} {P : Bx → Bx → Prop} {g h : Nat → Nat → Bx → Bx} (hs : ∀ p e X Y, P X Y → P (g p e X) (h p e Y)) (p e : Nat) (X Y : Bx) (h0 : P X Y) : P (on s q g p e X) (on s q h p e Y) := by
  unfold on
  split
  · exact hs _ _ _ _ h0
  · exact h0
theorem on_3 {s : St} {q : Pl} {P : Bx → Bx → Bx → Prop} {g h i : Nat → Nat → Bx → Bx} (hs : ∀ p e X Y Z, P X Y Z → P (g p e X) (h p e Y) (i p e Z)) (p e : Nat) (X Y Z : Bx) (h0 : P X Y Z) : P (on s q g p e X) (on s q h p e Y) (on s q i p e Z) := by
  unfold on
  split
  · exact hs _ _ _ _ _ h0
  · exact h0
def B0 : Bx := (0, 2, fun _ => 0)
def R3 (S A B : Bx) : Prop := S = mg A B ∧ A.2.1 ≤ 1 ∧ B.2.1 = 2
theorem g1_e (s : St) (q : Pl) (up : Bx → Int32 → Nat → (Nat → Nat) → Bx) (p e : Nat) (X : Bx) : g1 s q up p e X = up X (gn s q (qa s q p e)) 1 (r1 p e (erN s q p e)) := rfl
theorem g2_e (s : St) (q q1 : Pl) (r : Nat → Nat) (up : Bx → Int32 → Nat → (Nat → Nat) → Bx) (p e : Nat) (X : Bx) : g2 s q q1 r up p e X = up X (gn s q (qa s q1 p e)) 2 (r2 r p e (erN s q1 p e)) := rfl
theorem l2_e (s : St) (q : Pl) (up : Bx → Int32 → Nat → (Nat → Nat) → Bx) (p e : Nat) (X : Bx) : l2 s q up p e X = lq2 s (on s (qa s q p e) (g2 s q (qa s q p e) (r1 p e (erN s q p e)) up)) X := rfl
theorem moR_1 (s : St) (q : Pl) : moR s q 1 = lq2 s (on s q (g1 s q upR)) X0 := rfl
theorem moC_1 (s : St) (q : Pl) : moC s q 1 = lq2 s (on s q (g1 s q upC)) X0 := rfl
theorem moR_2 (s : St) (q : Pl) (n : Nat) : moR s q (n + 2) = lq2 s (on s q (fun p e X => l2 s q upR p e (g1 s q upR p e X))) X0 := rfl
theorem moC_2 (s : St) (q : Pl) (n : Nat) : moC s q (n + 2) = lq2 s (on s q (l2 s q upC)) (lq2 s (on s q (g1 s q upC)) X0) := rfl
theorem mo_a (s : St) (q : Pl) : lq2 s (on s q (g1 s q upR)) X0 = lq2 s (on s q (g1 s q upC)) X0 := by
  have : (fun S A : Bx => S = A ∧ A.2.1 ≤ 1) (lq2 s (on s q (g1 s q upR)) X0) (lq2 s (on s q (g1 s q upC)) X0) := lq2_2 (s := s) (P := fun S A : Bx => S = A ∧ A.2.1 ≤ 1) (on_2 (s := s) (q := q) (P := fun S A : Bx => S = A ∧ A.2.1 ≤ 1) (fun p e X Y h => by
      obtain ⟨rfl, h⟩ := h
      rw [g1_e, g1_e]
      exact ⟨upR_c h _ _, upC_k h (Nat.le_refl _)⟩)) ⟨rfl, by decide⟩
  exact this.1
theorem mo_b {s : St} {q : Pl} {A S B : Bx} (p e : Nat) (h : R3 S A B) : R3 (l2 s q upR p e S) A (l2 s q upC p e B) := by
  rw [l2_e, l2_e]
  exact lq2_2 (s := s) (P := fun S B => R3 S A B) (on_2 (s := s) (P := fun S B => R3 S A B) (fun p' e' S B h => by
    obtain ⟨hS, hA, hB⟩ := h
    rw [g2_e, g2_e]
    refine ⟨?_, hA, upC_2 hB⟩
    rw [hS]
    exact (upR_2 hA hB _ _).trans (upC_mg A B _ _ _))) h
theorem mo_c (s : St) (q : Pl) : R3 (lq2 s (on s q (fun p e X => l2 s q upR p e (g1 s q upR p e X))) X0) (lq2 s (on s q (g1 s q upC)) X0) (lq2 s (on s q (l2 s q upC)) B0) := lq2_3 (s := s) (P := R3) (on_3 (s := s) (q := q) (P := R3) (fun p e S A B h => by
  obtain ⟨hS, hA, hB⟩ := h
  refine mo_b p e ?_
  rw [g1_e, g1_e]
  exact ⟨by rw [hS]; exact upR_1 hA hB _ _, upC_k hA (Nat.le_refl _), hB⟩)) ⟨rfl, by decide, rfl⟩
theorem mo_d (s : St) (q : Pl) (A : Bx) (hA : mg A B0 = A) : lq2 s (on s q (l2 s q upC)) A = mg A (lq2 s (on s q (l2 s q upC)) B0) := lq2_2 (s := s) (P := fun S B => S = mg A B) (on_2 (s := s) (q := q) (P := fun S B => S = mg A B) (fun p e S B h => by
  rw [l2_e, l2_e]
  exact lq2_2 (s := s) (P := fun S B => S = mg A B) (on_2 (s := s) (P := fun S B => S = mg A B) (fun p' e' S B h => by
    rw [h, g2_e, g2_e]
    exact upC_mg A B _ _ _)) h)) hA.symm
theorem upC_0 {X : Bx} {g : Int32} {nb : Nat} {r : Nat → Nat} (h : (0 : Int32) ≤ X.1) : (0 : Int32) ≤ (upC X g nb r).1 := by
  unfold upC
  split
  · exact h
  · rename_i hh
    rw [i_le] at *
    show _ ≤ g.toInt
    omega
theorem mo_e (s : St) (q : Pl) : (0 : Int32) ≤ (lq2 s (on s q (g1 s q upC)) X0).1 := lq2_2 (s := s) (P := fun A _ : Bx => (0 : Int32) ≤ A.1) (h := on s q (g1 s q upC)) (Y := X0) (on_2 (s := s) (q := q) (h := g1 s q upC) (P := fun A _ : Bx => (0 : Int32) ≤ A.1) (fun p e X Y h => by
  rw [g1_e]
  exact upC_0 h)) (by decide)
theorem mg_0 {A : Bx} (h : (0 : Int32) ≤ A.1) : mg A B0 = A := if_pos h
theorem mo_f (s : St) (q : Pl) : lq2 s (on s q (fun p e X => l2 s q upR p e (g1 s q upR p e X))) X0 = lq2 s (on s q (l2 s q upC)) (lq2 s (on s q (g1 s q upC)) X0) := (mo_c s q).1.trans (mo_d s q _ (mg_0 (mo_e s q))).symm
theorem moRC1 (s : St) (q : Pl) : moR s q 1 = moC s q 1 := (moR_1 s q).trans ((mo_a s q).trans (moC_1 s q).symm)
theorem moRC2 (s : St) (q : Pl) (n : Nat) : moR s q (n + 2) = moC s q (n + 2) := (moR_2 s q n).trans ((mo_f s q).trans (moC_2 s q n).symm)
theorem moR_0 (s : St) (q : Pl) : moR s q 0 = X0 := rfl
theorem moC_0 (s : St) (q : Pl) : moC s q 0 = X0 := rfl
theorem moRC0 (s : St) (q : Pl) : moR s q 0 = moC s q 0 := (moR_0 s q).trans (moC_0 s q).symm
theorem moRC (s : St) (q : Pl) (n : Nat) : moR s q n = moC s q n := by
  match n with
  | 0 => exact moRC0 s q
  | 1 => exact moRC1 s q
  | n + 2 => exact moRC2 s q n
/-! what changes by one more trip -/
theorem wor_add {s : St} {q : Pl} {t i : Nat} (hi : i < q.1) (hn : ¬ (te (q.2 i) = te t ∧ ts (q.2 i) = ts t)) : worS s (plAdd q t) i = worS s q i := by
  have e2 : ∀ j, j < q.1 → (plAdd q t).2 j = q.2 j := fun j hj => if_neg (by omega)
  have et : (plAdd q t).2 q.1 = t := if_pos rfl
  have ef : fcS s (plAdd q t) i = fcS s q i := by
    funext j
    unfold fcS
    rw [e2 i hi]
    have c1 : fb_ct (cnP (plAdd q t) i) (plAdd q t).1 = fb_ct (cnP q i) q.1 := by
      show fb_ct (cnP (plAdd q t) i) (q.1 + 1) = _
      rw [fb_ct_succ]
      have z : cnP (plAdd q t) i q.1 = false := by
        unfold cnP oneB
        rw [e2 i hi, et, decide_eq_false hn, Bool.and_false]
      rw [z, fb_ct_cong (fun k hk => show cnP (plAdd q t) i k = cnP q i k by unfold cnP; rw [e2 i hi, e2 k hk])]
      rfl
    have c2 : anyB (saP (plAdd q t) i) i = anyB (saP q i) i := anyB_cong (fun k hk => by unfold saP; rw [e2 i hi, e2 k (by omega)])
    rw [c1, c2]
  unfold worS
  rw [ef, e2 i hi]
theorem smI_sub (f g : Nat → Int32) : ∀ n, smI f n - smI g n = smI (fun i => f i - g i) n
  | 0 => Int32.sub_self 0
  | n + 1 => by
    rw [smI_s, smI_s, smI_s, ← smI_sub f g n]
    apply Int32.toBitVec_inj.mp
    simp only [Int32.toBitVec_add, Int32.toBitVec_sub]
    generalize (smI f n).toBitVec = a
    generalize (smI g n).toBitVec = b
    generalize (f n).toBitVec = c
    generalize (g n).toBitVec = d
    rw [BitVec.sub_eq_add_neg, BitVec.sub_eq_add_neg, BitVec.sub_eq_add_neg, BitVec.neg_add, BitVec.sub_eq_add_neg]
    ac_rfl
theorem i_asub (a b c : Int32) : a + b - c = a - c + b := by
  apply Int32.toBitVec_inj.mp
  simp only [Int32.toBitVec_add, Int32.toBitVec_sub]
  rw [BitVec.sub_eq_add_neg, BitVec.sub_eq_add_neg]
  ac_rfl
theorem i_tel (a b c : Int32) : (b - a) + (c - b) = c - a := by
  apply Int32.toBitVec_inj.mp
  simp only [Int32.toBitVec_add, Int32.toBitVec_sub]
  rw [BitVec.sub_eq_add_neg, BitVec.sub_eq_add_neg, BitVec.sub_eq_add_neg]
  generalize a.toBitVec = a
  generalize b.toBitVec = b
  generalize c.toBitVec = c
  rw [show b + -a + (c + -b) = (b + -b) + (c + -a) by ac_rfl, BitVec.add_right_neg, BitVec.zero_add]
theorem tog_gn (s : St) (q : Pl) (t : Nat) : worTog s (plAdd q t) (te t) (ts t) - worTog s q (te t) (ts t) = gn s q (plAdd q t) := by
  unfold worTog gn worAll
  show smI _ (q.1 + 1) - _ = smI _ (q.1 + 1) - _
  rw [smI_s, smI_s, i_asub, i_asub, smI_sub, smI_sub]
  have et : (plAdd q t).2 q.1 = t := if_pos rfl
  rw [et, if_pos ⟨rfl, rfl⟩]
  congr 1
  refine smI_cong (fun k hk => ?_)
  have ek : (plAdd q t).2 k = q.2 k := if_neg (by omega)
  rw [ek]
  by_cases h : te (q.2 k) = te t ∧ ts (q.2 k) = ts t
  · rw [if_pos h, if_pos h]
  · rw [if_neg h, if_neg h, wor_add hk h]
    rw [Int32.sub_self, Int32.sub_self]

/-! most: the class -/
def wSe (a k : Nat) : Prop := a = 14 ∨ a = 15 ∨ (18 ≤ a ∧ a ≤ 50) ∨ (87 ≤ a ∧ a ≤ 91)
def SI (M0 M : MM) (q : Pl) : Prop := Fr wSe M0 M ∧ mR M = mR M0 ∧ PL M 14 q
theorem SI.sh {s : St} {M0 M : MM} {q : Pl} (hi : SI M0 M q) (h : RC s M0) : Sh M := hi.1.sh' hi.2.1 h.1
theorem SI.cw {s : St} {M0 M : MM} {q : Pl} (hi : SI M0 M q) (hw : WF s) (h : RC s M0) (ok : okPl (zP s) (zE s) q) : CW s M q := ⟨⟨hi.sh h, h.2.2.2.1.fr hi.1 (fun a k q => by unfold wSe; omega), hw.1, hw.2.1, PA14, hi.2.2, ok⟩, h.2.2.2.2.2.1.fr hi.1 (fun a k q => by unfold wSe; omega)⟩
def FD (M : MM) (X : Bx) : Prop := mI M 89 7 = X.1 ∧ mI M 89 6 = nI X.2.1 ∧ (∀ k, k < 3 * X.2.1 → mI M 90 k = nI (X.2.2 k)) ∧ X.2.1 ≤ 2
theorem FD.fr {M M' : MM} {X : Bx} {W : Nat → Nat → Prop} (h : FD M X) (f : Fr W M M') (w : ∀ a k, a = 89 ∨ a = 90 → ¬ W a k) : FD M' X := ⟨(f.2.2.1 89 7 (w 89 7 (Or.inl rfl))).trans h.1, (f.2.2.1 89 6 (w 89 6 (Or.inl rfl))).trans h.2.1, fun k hk => (f.2.2.1 90 k (w 90 k (Or.inr rfl))).trans (h.2.2.1 k hk), h.2.2.2⟩
def wPu (pl a k : Nat) : Prop := a = 14 ∨ a = 15 ∨ a = 87 ∨ a = 88 ∨ (a = 91 ∧ pl ≤ k)
theorem c_put {s : St} {M0 M : MM} {q : Pl} (hw : WF s) (h : RC s M0) (hi : SI M0 M q) (ok : okPl (zP s) (zE s) q) (hq : q.1 < 12) {p e m pl : Nat} (hp : p < zP s) (he : e < zE s) (hm : m < 100) (hpl : pl + 2 < 6) : ∃ M', f_X3_put 89 (nI p) (nI e) (nI m) (nI pl) M = some (gn s q (plAdd q (trp p e m)), M') ∧ SI M0 M' (plAdd q (trp p e m)) ∧ (∀ k, k < 3 → mI M' 91 (pl + k) = nI (r1 p e m k)) ∧ Fr (wPu pl) M M' := by
  have hP := hw.1.1
  have hE := hw.1.2.1
  have cw := hi.cw hw h ok
  have h0 := cw.1.1
  obtain ⟨⟨v1, M1⟩, e1, er1, f1, q1⟩ := c_sumTog cw (e := e) (m := m) (by omega) (by omega)
  have f1 : Fr wEv M M1 := f1
  have q1 : mR M1 = mR M := q1
  have s1 := f1.sh' q1 h0
  obtain ⟨M2, e2, p2, f2, q2⟩ := c_add s1 PA14 (hi.2.2.frw f1 (fun b k q => by unfold wEv; omega)) hq (p := p) (e := e) (m := m) (by omega) (by omega) hm
  have s2 := f2.sh' q2 s1
  have ok2 := okPl_add ok hq (trp_ok (by omega) (by omega) hp he hm)
  have f3 : Fr (fun a k => a = 91 ∧ pl ≤ k) M2 (sI (sI (sI M2 91 pl (nI p)) 91 (pl + 1) (nI e)) 91 (pl + 2) (nI m)) := (((Fr.rf (W := fun a k => a = 91 ∧ pl ≤ k) M2).sI ⟨rfl, by omega⟩).sI ⟨rfl, by omega⟩).sI ⟨rfl, by omega⟩
  have fr3 : Fr (wPu pl) M (sI (sI (sI M2 91 pl (nI p)) 91 (pl + 1) (nI e)) 91 (pl + 2) (nI m)) := ((f1.mono (fun a k q => by unfold wEv at q; unfold wPu; omega)).tr (f2.mono (fun a k q => by unfold wPl at q; unfold wPu; omega))).tr (f3.mono (fun a k q => by unfold wPu; omega))
  have si3 : SI M0 (sI (sI (sI M2 91 pl (nI p)) 91 (pl + 1) (nI e)) 91 (pl + 2) (nI m)) (plAdd q (trp p e m)) := ⟨hi.1.tr (fr3.mono (fun a k q => by unfold wPu at q; unfold wSe; omega)), q2.trans (q1.trans hi.2.1), p2.frw f3 (fun b k q => by omega)⟩
  have cw3 := si3.cw hw h ok2
  obtain ⟨⟨v4, M4⟩, e4, er4, f4, q4⟩ := c_sumTog cw3 (e := e) (m := m) (by omega) (by omega)
  have f4 : Fr wEv _ M4 := f4
  have q4 : mR M4 = _ := q4
  have hv : v4 - v1 = gn s q (plAdd q (trp p e m)) := by
    have t := trp_w (p := p) (e := e) (m := m) (by omega) (by omega)
    have := tog_gn s q (trp p e m)
    rw [t.2.1, t.2.2] at this
    rw [← this, show v4 = worTog s (plAdd q (trp p e m)) e m from er4, show v1 = worTog s q e m from er1]
  have R := fun N (sN : Sh N) => sh_R sN (a := 89) (k := 5) (b := 91) 3 (by decide) rfl (by decide)
  refine ⟨M4, ?_, ⟨si3.1.tr (f4.mono (fun a k q => by unfold wEv at q; unfold wSe; omega)), q4.trans si3.2.1, si3.2.2.frw f4 (fun b k q => by unfold wEv; omega)⟩, fun k hk => ?_, fr3.tr (f4.mono (fun a k q => by unfold wEv at q; unfold wPu; omega))⟩
  · unfold f_X3_put f_X3_put_0
    rw [if_pos (sh_O h0 3 (by decide) rfl), sh_R h0 (a := 89) (k := 3) (b := 84) 3 (by decide) rfl (by decide), b1_s, e1, b2_s, sh_R s1 (a := 89) (k := 1) (b := 14) 3 (by decide) rfl (by decide), b1_s, e2, b1_s, R M2 s2, b1_s, st_91 s2 _ (by omega), b1_s, R (sI M2 91 pl (nI p)) s2, b1_s, nI_1, st_91 (M := sI M2 91 pl (nI p)) s2 _ (by omega), b1_s, R (sI (sI M2 91 pl (nI p)) 91 (pl + 1) (nI e)) s2, b1_s, nI_2, st_91 (M := sI (sI M2 91 pl (nI p)) 91 (pl + 1) (nI e)) s2 _ (by omega), b1_s, sh_R (M := sI (sI (sI M2 91 pl (nI p)) 91 (pl + 1) (nI e)) 91 (pl + 2) (nI m)) s2 (a := 89) (k := 3) (b := 84) 3 (by decide) rfl (by decide), b1_s, e4, b2_s, hv]
  · rw [f4.2.2.1 91 (pl + k) (by unfold wEv; omega), mI_w, mI_w, mI_w]
    unfold r1
    rcases (show k = 0 ∨ k = 1 ∨ k = 2 by omega) with rfl | rfl | rfl
    · rw [if_neg (by omega), if_neg (by omega), if_pos ⟨rfl, rfl⟩, if_pos rfl]
    · rw [if_neg (by omega), if_pos ⟨rfl, rfl⟩, if_neg (by decide), if_pos rfl]
    · rw [if_pos ⟨rfl, rfl⟩, if_neg (by decide), if_neg (by decide)]
theorem c_tk {M : MM} {X : Bx} {g : Int32} {nb : Nat} {r : Nat → Nat} (h0 : Sh M) (hf : FD M X) (ht : ∀ k, k < 3 * nb → mI M 91 k = nI (r k)) (hn : nb ≤ 2) : ∃ M', f_X3_take 89 g (nI nb) M = some M' ∧ FD M' (upC X g nb r) ∧ Fr (fun a k => a = 89 ∨ a = 90) M M' ∧ mR M' = mR M := by
  have hO := sh_O h0 (a := 89) 3 (by decide) rfl
  unfold f_X3_take f_X3_take_0 upC
  rw [if_pos hO, gI_k 7 hO, b1_s, hf.1]
  by_cases hg : g ≤ X.1
  · rw [if_pos hg, if_pos hg]
    exact ⟨M, rfl, hf, Fr.rf M, rfl⟩
  · rw [if_neg hg, if_neg hg, pI_k 7 _ hO, b1_s, pI_k 6 _ (show isO 3 89 (sI M 89 7 g) = true from hO), b1_s, sh_R (M := sI (sI M 89 7 g) 89 6 (nI nb)) h0 (a := 89) (k := 5) (b := 91) 3 (by decide) rfl (by decide), b1_s, sh_R (M := sI (sI M 89 7 g) 89 6 (nI nb)) h0 (a := 89) (k := 4) (b := 90) 3 (by decide) rfl (by decide), b1_s]
    have ec : cpI 91 (nI 0) 90 (nI 0) (nI 6) (sI (sI M 89 7 g) 89 6 (nI nb)) = some (cI (sI (sI M 89 7 g) 89 6 (nI nb)) 91 0 90 0 6) := cpI_k (M := sI (sI M 89 7 g) 89 6 (nI nb)) (sh_O (M := sI (sI M 89 7 g) 89 6 (nI nb)) h0 20 (by decide) rfl) (sh_O (M := sI (sI M 89 7 g) 89 6 (nI nb)) h0 20 (by decide) rfl) (sh_N (M := sI (sI M 89 7 g) 89 6 (nI nb)) h0 6 (by decide) rfl) (sh_N (M := sI (sI M 89 7 g) 89 6 (nI nb)) h0 6 (by decide) rfl) (by omega) (by omega) (by decide) (by decide)
    have ec' : cpI 91 0 90 0 6 (sI (sI M 89 7 g) 89 6 (nI nb)) = some (cI (sI (sI M 89 7 g) 89 6 (nI nb)) 91 0 90 0 6) := ec
    rw [ec', b1_s]
    refine ⟨_, rfl, ⟨?_, ?_, fun k hk => ?_, hn⟩, (((Fr.rf (W := fun a k => a = 89 ∨ a = 90) M).sI (Or.inl rfl)).sI (Or.inl rfl)).cI (fun k _ _ => Or.inr rfl), rfl⟩
    · rw [mI_cI, if_neg (by omega), mI_w, if_neg (by omega), mI_w, if_pos ⟨rfl, rfl⟩]
    · rw [mI_cI, if_neg (by omega), mI_w, if_pos ⟨rfl, rfl⟩]
    · have hk' : k < 3 * nb := hk
      rw [mI_cI, if_pos ⟨rfl, by omega, by omega⟩, mI_w, if_neg (by omega), mI_w, if_neg (by omega), show 0 + (k - 0) = k by omega]
      exact ht k hk'
theorem SI.tr {M0 M M' : MM} {q q' : Pl} {W : Nat → Nat → Prop} (h : SI M0 M q) (f : Fr W M M') (hr : mR M' = mR M) (w : ∀ a k, W a k → wSe a k) (hp : PL M' 14 q') : SI M0 M' q' := ⟨h.1.tr (f.mono w), hr.trans h.2.1, hp⟩
theorem c_try2 {s : St} {M0 M : MM} {q qa1 : Pl} {r : Nat → Nat} {X : Bx} (hw : WF s) (h : RC s M0) (hi : SI M0 M qa1) (ok : okPl (zP s) (zE s) qa1) (ht : ∀ k, k < 3 → mI M 91 k = nI (r k)) (hf : FD M X) : ∃ M', f_X3_trySecond 89 (gn s q qa1) M = some M' ∧ SI M0 M' qa1 ∧ FD M' (lq2 s (on s qa1 (g2 s q qa1 r upC)) X) := by
  have hP := hw.1.1
  have hE := hw.1.2.1
  have h12 := ok.1
  have cw := hi.cw hw h ok
  have h0 := cw.1.1
  obtain ⟨M1, e1, k1, f1⟩ := c_look cw.1 (Or.inl ⟨rfl, rfl⟩)
  have f1' := f1.fr
  have hi1 : SI M0 M1 qa1 := hi.tr f1' f1.2.2.2.1 (fun a k q => by unfold wL at q; unfold wSe; omega) (hi.2.2.frw f1' (fun b k q => by unfold wL; omega))
  have ht1 : ∀ k, k < 3 → mI M1 91 k = nI (r k) := fun k hk => by rw [f1.2.2.1]; exact ht k hk
  have hf1 : FD M1 X := hf.fr f1' (fun a k q => by unfold wL; omega)
  have inner : ∀ (K9 : Nat → Int32 → Int32 → MM → Option MM) (p : Nat) (X : Bx) (N : MM), p < zP s → SI M0 N qa1 ∧ LK s qa1 N 18 ∧ (∀ k, k < 3 → mI N 91 k = nI (r k)) ∧ FD N X → ∃ N', f_X3_trySecond_22 K9 1024 89 (gn s q qa1) (nI p) 0 N = K9 89 (gn s q qa1) (nI (p + 1)) N' ∧ SI M0 N' qa1 ∧ LK s qa1 N' 18 ∧ (∀ k, k < 3 → mI N' 91 k = nI (r k)) ∧ FD N' (itr (fun e => on s qa1 (g2 s q qa1 r upC) p e) (zE s) X) := by
    intro K9 p X N hp hI
    obtain ⟨f', N', e', i'⟩ := lpg (fun f k N => f_X3_trySecond_22 K9 f 89 (gn s q qa1) (nI p) (nI k) N) (fun k N => SI M0 N qa1 ∧ LK s qa1 N 18 ∧ (∀ k, k < 3 → mI N 91 k = nI (r k)) ∧ FD N (itr (fun e => on s qa1 (g2 s q qa1 r upC) p e) k X)) (zE s) (fun f k N hk hI => by
      obtain ⟨i1, i2, i3, i4⟩ := hI
      have cN := i1.cw hw h ok
      have sN := cN.1.1
      show ∃ M', f_X3_trySecond_22 K9 (f + 1) _ _ _ _ _ = _ ∧ _
      rw [f_X3_trySecond_22, sh_R sN (a := 89) (k := 0) (b := 5) 3 (by decide) rfl (by decide), b1_s, gI_k 8 (sh_O sN 9 (by decide) rfl), b1_s, cN.1.2.1.2.1, if_neg (nI_ge hk (by omega)), c_soon cN.1 i2 hp hk, b2_s]
      unfold f_X3_trySecond_69 erI
      rw [itr_s]
      generalize itr (fun e => on s qa1 (g2 s q qa1 r upC) p e) k X = Y at i4
      by_cases he : erN s qa1 p k < 100
      · have hz := (mn0 (er_mz he)).2.2
        have hq : qa1.1 < 12 := by omega
        obtain ⟨N1, a1, b1', t1, f1⟩ := c_put hw h i1 ok hq hp hk he (pl := 3) (by decide)
        have s1 := b1'.sh h
        have t1' : ∀ j, j < 3 * 2 → mI N1 91 j = nI (r2 r p k (erN s qa1 p k) j) := by
          intro j hj
          unfold r2
          by_cases hc : j < 3
          · rw [if_pos hc, f1.2.2.1 91 j (by unfold wPu; omega)]
            exact i3 j hc
          · rw [if_neg hc]
            have := t1 (j - 3) (by omega)
            rw [show 3 + (j - 3) = j by omega] at this
            exact this
        obtain ⟨N2, a2, d2, f2, q2⟩ := c_tk s1 (i4.fr f1 (fun a k q => by unfold wPu; omega)) t1' (g := gn s q (qa s qa1 p k)) (Nat.le_refl 2)
        have s2 := f2.sh' q2 s1
        obtain ⟨a3, p3⟩ := c_rml s2 (b1'.2.2.frw f2 (fun b k q => by omega)) (by omega)
        have f3 : Fr (fun a k => a = 14) N2 (sI N2 14 1 (nI qa1.1)) := (Fr.rf N2).sI rfl
        have fall : Fr (fun a k => wPu 3 a k ∨ a = 89 ∨ a = 90) N (sI N2 14 1 (nI qa1.1)) := ((f1.mono (fun a k q => Or.inl q)).tr (f2.mono (fun a k q => Or.inr q))).tr (f3.mono (fun a k q => Or.inl (Or.inl q)))
        have hg : gn s q qa1 + gn s qa1 (plAdd qa1 (trp p k (erN s qa1 p k))) = gn s q (qa s qa1 p k) := i_tel _ _ _
        have a1' : f_X3_put 89 (nI p) (nI k) (nI (erN s qa1 p k)) 3 N = some (gn s qa1 (plAdd qa1 (trp p k (erN s qa1 p k))), N1) := a1
        have a2' : f_X3_take 89 (gn s q (qa s qa1 p k)) 2 N1 = some N2 := a2
        rw [if_pos he, if_neg (nI_pos (by omega)), a1', b2_s, hg, a2', b1_s, sh_R s2 (a := 89) (k := 1) (b := 14) 3 (by decide) rfl (by decide), b1_s, a3, b1_s, bn_s, nI_1, on_t he]
        refine ⟨_, rfl, ?_, i2.fr fall (fun a k h1 h2 => by unfold wPu; omega) hP, fun j hj => ?_, d2.fr f3 (fun a k q => by omega)⟩
        · exact i1.tr fall (q2.trans (b1'.2.1.trans i1.2.1.symm)) (fun a k q => by unfold wPu at q; unfold wSe; omega) p3
        · rw [fall.2.2.1 91 j (by unfold wPu; omega)]
          exact i3 j hj
      · rw [if_neg he, if_pos (by decide), bn_s, nI_1, on_f he]
        exact ⟨N, rfl, i1, i2, i3, i4⟩) 1024 0 N (by omega) (by omega) hI
    have cN := i'.1.cw hw h ok
    refine ⟨N', ?_, i'⟩
    have e'' : f_X3_trySecond_22 K9 1024 89 (gn s q qa1) (nI p) (nI 0) N = _ := e'
    rw [nI_0] at e''
    rw [e'']
    show f_X3_trySecond_22 K9 (f' + 1) _ _ _ _ _ = _
    rw [f_X3_trySecond_22, sh_R cN.1.1 (a := 89) (k := 0) (b := 5) 3 (by decide) rfl (by decide), b1_s, gI_k 8 (sh_O cN.1.1 9 (by decide) rfl), b1_s, cN.1.2.1.2.1, if_pos (nI_le (Nat.le_refl _) (by omega)), bn_s, nI_1]
  obtain ⟨f', N', e', i'⟩ := lpg (fun f k N => f_X3_trySecond_9 f 89 (gn s q qa1) (nI k) N) (fun k N => SI M0 N qa1 ∧ LK s qa1 N 18 ∧ (∀ k, k < 3 → mI N 91 k = nI (r k)) ∧ FD N (itr (fun p => itr (fun e => on s qa1 (g2 s q qa1 r upC) p e) (zE s)) k X)) (zP s) (fun f k N hk hI => by
    have cN := hI.1.cw hw h ok
    obtain ⟨N', e', i'⟩ := inner (f_X3_trySecond_9 f) k _ N hk hI
    refine ⟨N', ?_, i'.1, i'.2.1, i'.2.2.1, by rw [itr_s]; exact i'.2.2.2⟩
    show f_X3_trySecond_9 (f + 1) _ _ _ _ = _
    rw [f_X3_trySecond_9, sh_R cN.1.1 (a := 89) (k := 0) (b := 5) 3 (by decide) rfl (by decide), b1_s, gI_k 7 (sh_O cN.1.1 9 (by decide) rfl), b1_s, cN.1.2.1.1, if_neg (nI_ge hk (by omega))]
    exact e') 1024 0 M1 (by omega) (by omega) ⟨hi1, k1, ht1, hf1⟩
  have cN := i'.1.cw hw h ok
  refine ⟨N', ?_, i'.1, i'.2.2.2⟩
  unfold f_X3_trySecond f_X3_trySecond_0
  rw [if_pos (sh_O h0 3 (by decide) rfl), sh_R h0 (a := 89) (k := 2) (b := 18) 3 (by decide) rfl (by decide), b1_s, e1, b1_s]
  have e'' : f_X3_trySecond_9 1024 89 (gn s q qa1) (nI 0) M1 = _ := e'
  rw [nI_0] at e''
  rw [e'']
  show f_X3_trySecond_9 (f' + 1) _ _ _ _ = _
  rw [f_X3_trySecond_9, sh_R cN.1.1 (a := 89) (k := 0) (b := 5) 3 (by decide) rfl (by decide), b1_s, gI_k 7 (sh_O cN.1.1 9 (by decide) rfl), b1_s, cN.1.2.1.1, if_pos (nI_le (Nat.le_refl _) (by omega))]

def gD (s : St) (q : Pl) (d : Nat) : Nat → Nat → Bx → Bx := if d = 1 then g1 s q upC else l2 s q upC
theorem c_se33 {s : St} {M0 : MM} {q : Pl} (hw : WF s) (h : RC s M0) (ok : okPl (zP s) (zE s) q) {d : Nat} (hd : d = 1 ∨ d = 2) (K12 : Nat → Int32 → Int32 → MM → Option MM) (K19 : Nat → Int32 → Int32 → Int32 → MM → Option MM) (x1 : Int32) {p e fu : Nat} {N : MM} {Y : Bx} (hp : p < zP s) (he : e < zE s) (hi : SI M0 N q) (hf : FD N Y) : ∃ M', f_X3_search_33 K12 K19 (fu + 1) 89 x1 (nI d) (nI p) (nI e) N = f_X3_search_33 K12 K19 fu 89 x1 (nI d) (nI p) (nI (e + 1)) M' ∧ SI M0 M' q ∧ FD M' (on s q (gD s q d) p e Y) := by
  have hP := hw.1.1
  have hE := hw.1.2.1
  have h12 := ok.1
  have cN := hi.cw hw h ok
  have sN := cN.1.1
  obtain ⟨M1, e1, k1, f1⟩ := c_look cN.1 (Or.inl ⟨rfl, rfl⟩)
  have f1' := f1.fr
  have hi1 : SI M0 M1 q := hi.tr f1' f1.2.2.2.1 (fun a k q => by unfold wL at q; unfold wSe; omega) (hi.2.2.frw f1' (fun b k q => by unfold wL; omega))
  have hf1 : FD M1 Y := hf.fr f1' (fun a k q => by unfold wL; omega)
  have c1 := hi1.cw hw h ok
  rw [f_X3_search_33, sh_R sN (a := 89) (k := 0) (b := 5) 3 (by decide) rfl (by decide), b1_s, gI_k 8 (sh_O sN 9 (by decide) rfl), b1_s, cN.1.2.1.2.1, if_neg (nI_ge he (by omega)), sh_R sN (a := 89) (k := 2) (b := 18) 3 (by decide) rfl (by decide), b1_s, e1, b1_s, c_soon c1.1 k1 hp he, b2_s]
  unfold f_X3_search_102 f_X3_search_109 erI
  by_cases hr : erN s q p e < 100
  · have hz := (mn0 (er_mz hr)).2.2
    have hq : q.1 < 12 := by omega
    obtain ⟨N1, a1, b1', t1, g1'⟩ := c_put hw h hi1 ok hq hp he hr (pl := 0) (by decide)
    have s1 := b1'.sh h
    have a1' : f_X3_put 89 (nI p) (nI e) (nI (erN s q p e)) 0 M1 = some (gn s q (qa s q p e), N1) := a1
    have t1' : ∀ k, k < 3 → mI N1 91 k = nI (r1 p e (erN s q p e) k) := fun k hk => by have := t1 k hk; rw [Nat.zero_add] at this; exact this
    have hf2 := hf1.fr g1' (fun a k q => by unfold wPu; omega)
    have ok1 : okPl (zP s) (zE s) (qa s q p e) := okPl_add ok hq (trp_ok (by omega) (by omega) hp he hr)
    rw [if_pos hr, if_pos (nI_pos' (by omega)), a1', b2_s, on_t hr]
    have fin : ∀ N2 Z, SI M0 N2 (qa s q p e) → FD N2 Z → ∃ M', (b1 (gR 3 1 89 N2) fun v1 => b1 (f_X5_removeLast v1 N2) fun M2 => bn (nI e + 1 : Int32) fun y1 => f_X3_search_33 K12 K19 fu 89 x1 (nI d) (nI p) y1 M2) = f_X3_search_33 K12 K19 fu 89 x1 (nI d) (nI p) (nI (e + 1)) M' ∧ SI M0 M' q ∧ FD M' Z := by
      intro N2 Z i2 d2
      have s2 := i2.sh h
      obtain ⟨a3, p3⟩ := c_rml s2 i2.2.2 (by omega)
      have f3 : Fr (fun a k => a = 14) N2 (sI N2 14 1 (nI q.1)) := (Fr.rf N2).sI rfl
      rw [sh_R s2 (a := 89) (k := 1) (b := 14) 3 (by decide) rfl (by decide), b1_s, a3, b1_s, bn_s, nI_1]
      exact ⟨_, rfl, i2.tr f3 rfl (fun a k q => by unfold wSe; omega) p3, d2.fr f3 (fun a k q => by omega)⟩
    rcases hd with rfl | rfl
    · obtain ⟨N2, a2, d2, f2, q2⟩ := c_tk s1 hf2 (nb := 1) t1' (g := gn s q (qa s q p e)) (by decide)
      have a2' : f_X3_take 89 (gn s q (qa s q p e)) 1 N1 = some N2 := a2
      rw [if_pos (by decide), a2', b1_s]
      have eg : gD s q 1 p e Y = upC Y (gn s q (qa s q p e)) 1 (r1 p e (erN s q p e)) := by unfold gD; rw [if_pos rfl, g1_e]
      rw [eg]
      exact fin N2 _ (b1'.tr f2 q2 (fun a k q => by unfold wSe; omega) (b1'.2.2.frw f2 (fun b k q => by omega))) d2
    · obtain ⟨N2, a2, i2, d2⟩ := c_try2 (q := q) hw h b1' ok1 t1' hf2
      have a2' : f_X3_trySecond 89 (gn s q (qa s q p e)) N1 = some N2 := a2
      rw [if_neg (by decide), a2', b1_s]
      have eg : gD s q 2 p e Y = l2 s q upC p e Y := by unfold gD; rw [if_neg (by decide)]
      rw [eg, l2_e]
      exact fin N2 _ i2 d2
  · rw [if_neg hr, if_neg (by decide), on_f hr, bn_s, nI_1]
    exact ⟨M1, rfl, hi1, hf1⟩
theorem c_se19 {s : St} {M0 : MM} {q : Pl} (hw : WF s) (h : RC s M0) (ok : okPl (zP s) (zE s) q) {d : Nat} (hd : d = 1 ∨ d = 2) (K12 : Nat → Int32 → Int32 → MM → Option MM) (x1 : Int32) {N : MM} {Y : Bx} (hi : SI M0 N q) (hf : FD N Y) : ∃ M', f_X3_search_19 K12 1024 89 x1 (nI d) 0 N = K12 89 x1 (nI (d + 1)) M' ∧ SI M0 M' q ∧ FD M' (lq2 s (on s q (gD s q d)) Y) := by
  have hP := hw.1.1
  have hE := hw.1.2.1
  obtain ⟨f', N', e', i'⟩ := lpg (fun f k N => f_X3_search_19 K12 f 89 x1 (nI d) (nI k) N) (fun k N => SI M0 N q ∧ FD N (itr (fun p => itr (fun e => on s q (gD s q d) p e) (zE s)) k Y)) (zP s) (fun f k N hk hI => by
    have cN := hI.1.cw hw h ok
    obtain ⟨f2, N2, e2, i2⟩ := lpg (fun fu j N => f_X3_search_33 K12 (f_X3_search_19 K12 f) fu 89 x1 (nI d) (nI k) (nI j) N) (fun j N => SI M0 N q ∧ FD N (itr (fun e => on s q (gD s q d) k e) j (itr (fun p => itr (fun e => on s q (gD s q d) p e) (zE s)) k Y))) (zE s) (fun fu j N hj hI => by
      obtain ⟨M', e', i1, i2⟩ := c_se33 hw h ok hd K12 (f_X3_search_19 K12 f) x1 (fu := fu) hk hj hI.1 hI.2
      exact ⟨M', e', i1, by rw [itr_s]; exact i2⟩) 1024 0 N (by omega) (by omega) ⟨hI.1, by rw [itr_0]; exact hI.2⟩
    have c2 := i2.1.cw hw h ok
    refine ⟨N2, ?_, i2.1, by rw [itr_s]; exact i2.2⟩
    have e2' : f_X3_search_33 K12 (f_X3_search_19 K12 f) 1024 89 x1 (nI d) (nI k) (nI 0) N = f_X3_search_33 K12 (f_X3_search_19 K12 f) (f2 + 1) 89 x1 (nI d) (nI k) (nI (zE s)) N2 := e2
    rw [nI_0] at e2'
    show f_X3_search_19 K12 (f + 1) _ _ _ _ _ = _
    rw [f_X3_search_19, sh_R cN.1.1 (a := 89) (k := 0) (b := 5) 3 (by decide) rfl (by decide), b1_s, gI_k 7 (sh_O cN.1.1 9 (by decide) rfl), b1_s, cN.1.2.1.1, if_neg (nI_ge hk (by omega)), e2', f_X3_search_33, sh_R c2.1.1 (a := 89) (k := 0) (b := 5) 3 (by decide) rfl (by decide), b1_s, gI_k 8 (sh_O c2.1.1 9 (by decide) rfl), b1_s, c2.1.2.1.2.1, if_pos (nI_le (Nat.le_refl _) (by omega)), bn_s, nI_1]) 1024 0 N (by omega) (by omega) ⟨hi, hf⟩
  have cN := i'.1.cw hw h ok
  refine ⟨N', ?_, i'⟩
  have e'' : f_X3_search_19 K12 1024 89 x1 (nI d) (nI 0) N = f_X3_search_19 K12 (f' + 1) 89 x1 (nI d) (nI (zP s)) N' := e'
  rw [nI_0] at e''
  rw [e'', f_X3_search_19, sh_R cN.1.1 (a := 89) (k := 0) (b := 5) 3 (by decide) rfl (by decide), b1_s, gI_k 7 (sh_O cN.1.1 9 (by decide) rfl), b1_s, cN.1.2.1.1, if_pos (nI_le (Nat.le_refl _) (by omega)), bn_s, nI_1]
theorem c_search {s : St} {M : MM} (hw : WF s) (h : RC s M) {n : Nat} (hn : n < 3) : ∃ M', f_X3_search 89 (nI n) M = some M' ∧ SI M M' (zplan s) ∧ FD M' (moC s (zplan s) n) := by
  have h0 := h.1
  have hO := sh_O h0 (a := 89) 3 (by decide) rfl
  have ok := hw.2.2.2.2.1
  have f0 : Fr wSe M (sI (sI M 89 6 0) 89 7 0) := ((Fr.rf (W := wSe) M).sI (by unfold wSe; omega)).sI (by unfold wSe; omega)
  have i0 : SI M (sI (sI M 89 6 0) 89 7 0) (zplan s) := ⟨f0, rfl, h.2.2.2.2.1⟩
  have d0 : FD (sI (sI M 89 6 0) 89 7 0) X0 := ⟨by rw [mI_w, if_pos ⟨rfl, rfl⟩]; rfl, by rw [mI_w, if_neg (by decide), mI_w, if_pos ⟨rfl, rfl⟩]; rfl, fun k hk => absurd hk (by show ¬ k < 0; omega), by decide⟩
  have st : f_X3_search 89 (nI n) M = f_X3_search_12 1024 89 (nI n) (nI 1) (sI (sI M 89 6 0) 89 7 0) := by
    unfold f_X3_search f_X3_search_0
    rw [if_pos hO, pI_k 6 _ hO, b1_s, pI_k 7 _ (show isO 3 89 (sI M 89 6 0) = true from hO), b1_s]
    rfl
  rw [st]
  match n, hn with
  | 0, _ =>
    refine ⟨_, ?_, i0, d0⟩
    rw [f_X3_search_12, if_pos (by decide)]
  | 1, _ =>
    obtain ⟨M1, e1, i1, d1⟩ := c_se19 hw h ok (d := 1) (Or.inl rfl) (f_X3_search_12 1023) (nI 1) i0 d0
    refine ⟨M1, ?_, i1, ?_⟩
    · rw [f_X3_search_12, if_neg (by decide), e1, f_X3_search_12, if_pos (by decide)]
    · rw [moC_1]
      have eg : gD s (zplan s) 1 = g1 s (zplan s) upC := if_pos rfl
      rw [eg] at d1
      exact d1
  | 2, _ =>
    obtain ⟨M1, e1, i1, d1⟩ := c_se19 hw h ok (d := 1) (Or.inl rfl) (f_X3_search_12 1023) (nI 2) i0 d0
    obtain ⟨M2, e2, i2, d2⟩ := c_se19 hw h ok (d := 2) (Or.inr rfl) (f_X3_search_12 1022) (nI 2) i1 d1
    refine ⟨M2, ?_, i2, ?_⟩
    · rw [f_X3_search_12, if_neg (by decide), e1, f_X3_search_12, if_neg (by decide)]
      show f_X3_search_19 (f_X3_search_12 1022) 1024 89 (nI 2) (nI 2) 0 M1 = _
      rw [e2, f_X3_search_12, if_pos (by decide)]
    · rw [moC_2 s (zplan s) 0]
      have eg : gD s (zplan s) 1 = g1 s (zplan s) upC := if_pos rfl
      have eg2 : gD s (zplan s) 2 = l2 s (zplan s) upC := if_neg (by decide)
      rw [eg, eg2] at d2
      exact d2
def rwX (X : Bx) (k : Nat) : List Int64 := (List.range k).map (fun j => Int32.toInt64 (nI (X.2.2 j)))
theorem rwX_s (X : Bx) (k : Nat) : rwX X (k + 1) = rwX X k ++ [Int32.toInt64 (nI (X.2.2 k))] := by unfold rwX; rw [List.range_succ, List.map_append]; rfl
theorem rwX_l (X : Bx) (k : Nat) : (rwX X k).length = k := by unfold rwX; rw [List.length_map, List.length_range]
def a_most (s : St) (x : Int32) : Int32 := if ixP x 3 = true then (moC s (zplan s) x.toNatClampNeg).1 else -1
def moS (s : St) (X : Bx) : St := zsrow s (rowOf (rwX X (3 * X.2.1)))
def n_most (s : St) (x : Int32) : St := if ixP x 3 = true then moS s (moC s (zplan s) x.toNatClampNeg) else s
theorem mo_n2 {s : St} {q : Pl} {n : Nat} : (moC s q n).2.1 ≤ 2 := by
  have key : ∀ (g : Nat → Nat → Bx → Bx) (X : Bx), (∀ p e X, X.2.1 ≤ 2 → (g p e X).2.1 ≤ 2) → X.2.1 ≤ 2 → (lq2 s g X).2.1 ≤ 2 := fun g X hs h0 => lq2_2 (s := s) (P := fun A _ : Bx => A.2.1 ≤ 2) (h := g) (Y := X) (fun p e X Y h => hs p e X h) h0
  have ko : ∀ (q : Pl) (g : Nat → Nat → Bx → Bx), (∀ p e X, X.2.1 ≤ 2 → (g p e X).2.1 ≤ 2) → (∀ p e X, X.2.1 ≤ 2 → (on s q g p e X).2.1 ≤ 2) := fun q g hs p e X h => by
    by_cases he : erN s q p e < 100
    · rw [on_t he]; exact hs p e X h
    · rw [on_f he]; exact h
  have k1 : (lq2 s (on s q (g1 s q upC)) X0).2.1 ≤ 2 := key _ _ (ko _ _ (fun p e X h => by rw [g1_e]; exact upC_k h (by decide))) (by decide)
  match n with
  | 0 => exact (by decide : (0 : Nat) ≤ 2)
  | 1 => rw [moC_1]; exact k1
  | n + 2 =>
    rw [moC_2]
    exact key _ _ (ko _ _ (fun p e X h => by rw [l2_e]; exact key _ _ (ko _ _ (fun p' e' X h => by rw [g2_e]; exact upC_k h (by decide))) h)) k1
theorem W_most {s : St} (hw : WF s) (x : Int32) : WF (n_most s x) := by
  unfold n_most
  split
  · refine WF_row hw ?_
    rw [rwX_l]
    have := mo_n2 (s := s) (q := zplan s) (n := x.toNatClampNeg)
    omega
  · exact hw
theorem C_most {s : St} (hw : WF s) (x : Int32) : OpC (fun M => f_X11_most 0 x M) s (a_most s x) (n_most s x) := by
  intro M h
  have h0 := h.1
  show ∃ M', f_X11_most 0 x M = _ ∧ _
  unfold f_X11_most f_X11_most_0
  rw [if_pos (sh_O h0 11 (by decide) rfl)]
  by_cases hc : ixP x 3 = true
  · obtain ⟨n, hn, rfl⟩ := ix_ex (by omega) hc
    obtain ⟨M1, e1, i1, d1⟩ := c_search hw h hn
    have s1 := i1.sh h
    have c1 : RC s M1 := h.p0 (i1.1.mono (fun a k q => by unfold wSe at q; unfold wP0 wC; omega)) s1 i1.2.2
    have hb := mo_n2 (s := s) (q := zplan s) (n := n)
    rw [show a_most s (nI n) = (moC s (zplan s) n).1 by unfold a_most; rw [if_pos hc, nI_clamp (by omega)], show n_most s (nI n) = moS s (moC s (zplan s) n) by unfold n_most; rw [if_pos hc, nI_clamp (by omega)]]
    rw [if_neg (nI_pos (by omega)), if_pos (show nI n ≤ 2 from nI_le (b := 2) (by omega) (by omega)), sh_R h0 (a := 0) (k := 8) (b := 89) 11 (by decide) rfl (by decide), b1_s, e1, b1_s]
    generalize moC s (zplan s) n = X at d1 hb
    obtain ⟨M2, e2, w2, f2, r2⟩ := c_clr s1
    obtain ⟨r, e3, er, w3, f3, q3⟩ := lpm (fun f k N => f_X11_most_28 f 0 (nI k) N) (fun k N => RowC N (rwX X k) ∧ Fr wRow M1 N ∧ mR N = mR M1) (fun r => r.1 = X.1 ∧ RowC r.2 (rwX X (3 * X.2.1)) ∧ Fr wRow M1 r.2 ∧ mR r.2 = mR M1) (3 * X.2.1) (fun f k N hk hi => by
      left
      obtain ⟨i1, i2, i3⟩ := hi
      have sN := i2.sh' i3 s1
      have dN := d1.fr i2 (fun a k q => by unfold wRow; omega)
      obtain ⟨M', e', w', f', r'⟩ := c_radd sN i1 (by rw [rwX_l]; omega) (Int32.toInt64 (nI (X.2.2 k)))
      show ∃ M', f_X11_most_28 (f + 1) _ _ _ = _ ∧ _
      rw [f_X11_most_28, sh_R sN (a := 0) (k := 8) (b := 89) 11 (by decide) rfl (by decide), b1_s, gI_k 6 (sh_O sN 3 (by decide) rfl), b1_s, dN.2.1, n3m, if_neg (nI_ge hk (by omega)), sh_R sN (a := 0) (k := 1) (b := 3) 11 (by decide) rfl (by decide), b1_s, b1_s, sh_R sN (a := 89) (k := 4) (b := 90) 3 (by decide) rfl (by decide), b1_s, ld_90 sN (by omega), b1_s, dN.2.2.1 k hk, e', b1_s, bn_s, nI_1]
      exact ⟨M', rfl, by rw [rwX_s]; exact w', i2.tr f', r'.trans i3⟩) (fun f N hi => by
      have sN := hi.2.1.sh' hi.2.2 s1
      have dN := d1.fr hi.2.1 (fun a k q => by unfold wRow; omega)
      refine ⟨(X.1, N), ?_, rfl, hi⟩
      show f_X11_most_28 (f + 1) _ _ _ = _
      rw [f_X11_most_28, sh_R sN (a := 0) (k := 8) (b := 89) 11 (by decide) rfl (by decide), b1_s, gI_k 6 (sh_O sN 3 (by decide) rfl), b1_s, dN.2.1, n3m, if_pos (nI_le (Nat.le_refl _) (by omega)), b1_s, gI_k 7 (sh_O sN 3 (by decide) rfl), b1_s, dN.1]) 1024 0 M2 (by omega) (by omega) ⟨w2, f2, r2⟩
    refine ⟨r.2, ?_, c1.row f3 q3 w3, (i1.1.mono (fun a k q => by unfold wSe at q; unfold cW; omega)).tr (wRow_cW f3)⟩
    have e3' : f_X11_most_28 1024 0 (nI 0) M2 = some r := e3
    rw [nI_0] at e3'
    rw [sh_R s1 (a := 0) (k := 1) (b := 3) 11 (by decide) rfl (by decide), b1_s, e2, b1_s, e3']
    show some (r.1, r.2) = _
    rw [er]
  · rw [show a_most s x = -1 from if_neg hc, show n_most s x = s from if_neg hc]
    refine ⟨M, ?_, h, Fr.rf M⟩
    by_cases h1 : x < 0
    · rw [if_pos h1]
    · rw [if_neg h1, if_neg (fun g => hc (ix3.mp ⟨h1, by rw [i_lt]; rw [i_le] at g; have : (2 : Int32).toInt = 2 := rfl; have : (3 : Int32).toInt = 3 := rfl; omega⟩))]

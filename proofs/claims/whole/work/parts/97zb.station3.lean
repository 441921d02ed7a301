/-! station: the class's lines -/
def CAs (s : St) (N : MM) (A : Ac) : Prop := mI N 5 11 = nI (zP s + A.1) ∧ mI N 5 12 = nI (zE s + A.2.1) ∧ (∀ i, i < A.1 → mI N 6 (zP s + i) = nI (A.2.2 0 i)) ∧ ∀ j, j < A.2.1 → CE N (zE s + j) (fun c => A.2.2 c j)
theorem CE.fr {N N' : MM} {e : Nat} {r : Nat → Nat} {W : Nat → Nat → Prop} (h : CE N e r) (f : Fr W N N') (w : ∀ a, 7 ≤ a → a ≤ 12 → ¬ W a e) : CE N' e r := ⟨(f.2.2.1 7 e (w 7 (by omega) (by omega))).trans h.1, (f.2.2.1 8 e (w 8 (by omega) (by omega))).trans h.2.1, (f.2.2.1 9 e (w 9 (by omega) (by omega))).trans h.2.2.1, (f.2.2.1 10 e (w 10 (by omega) (by omega))).trans h.2.2.2.1, (f.2.2.1 11 e (w 11 (by omega) (by omega))).trans h.2.2.2.2.1, (f.2.2.1 12 e (w 12 (by omega) (by omega))).trans h.2.2.2.2.2⟩
theorem CE.cg {N : MM} {e : Nat} {r r' : Nat → Nat} (h : CE N e r) (w : ∀ c, 1 ≤ c → r' c = r c) : CE N e r' := by
  unfold CE
  rw [w 1 (by omega), w 2 (by omega), w 3 (by omega), w 4 (by omega), w 5 (by omega), w 6 (by omega)]
  exact h
theorem CAs.fr {s : St} {N N' : MM} {A : Ac} (h : CAs s N A) (f : Fr w14 N N') : CAs s N' A := ⟨(f.2.2.1 5 11 (by unfold w14; omega)).trans h.1, (f.2.2.1 5 12 (by unfold w14; omega)).trans h.2.1, fun i hi => (f.2.2.1 6 _ (by unfold w14; omega)).trans (h.2.2.1 i hi), fun j hj => (h.2.2.2 j hj).fr f (fun a _ _ => by unfold w14; omega)⟩
def wSt (a k : Nat) : Prop := a = 1 ∨ (5 ≤ a ∧ a ≤ 12)
def L2 (E : Nat) (T : Nat → Nat) (l a : Nat) (A : Ac) : Option Ac × Nat := if tkB T l a 101 = true then (if E + A.2.1 < 8 then ((erO T l (a + 1)).1.map (acE A), (erO T l (a + 1)).2) else (none, a)) else (none, a)
section STL
variable {s : St} {T : Nat → Nat} {n l : Nat}
theorem c_45 {a : Nat} {N : MM} {A : Ac} (h : TC s T n l a N) (hA : CAs s N A) (ok : okA (zP s) (zE s) A) : ∃ N', f_X9_readLine_45 5 1 N = some (bI (L2 (zE s) T l a A).1.isSome, N') ∧ TC s T n l (L2 (zE s) T l a A).2 N' ∧ (∀ A', (L2 (zE s) T l a A).1 = some A' → CAs s N' A') ∧ Fr wSt N N' ∧ mR N' = mR N := by
  have s0 := h.1.1
  obtain ⟨o1, o2, o3, o4⟩ := ok
  unfold f_X9_readLine_45 L2
  rw [gI_k 12 (O5 s0), b1_s, hA.2.1]
  by_cases hf : zE s + A.2.1 < 8
  · rw [if_neg (show ¬ (8 : Int32) ≤ nI (zE s + A.2.1) from nI_ge (b := 8) hf (by decide)), if_pos hf]
    obtain ⟨N1, e1, c1, f1, r1⟩ := tc_take h (c := 101) (by decide)
    have A1 := hA.fr f1
    rw [show (101 : Int32) = nI 101 from rfl, e1, b2_s]
    cases htk : tkB T l a 101 with
    | false =>
      rw [htk] at c1
      rw [if_pos (show bI false = 0 from rfl), if_neg (by decide)]
      exact ⟨N1, rz0 N1, c1, (fun A' g => by cases g), f1.mono (fun a k q => by unfold w14 at q; unfold wSt; omega), r1⟩
    | true =>
      rw [htk] at c1
      have c1' : TC s T n l (a + 1) N1 := c1
      obtain ⟨N2, e2, c2, k2, f2, r2⟩ := c_errand c1' (e := zE s + A.2.1) hf (by omega) A1.2.1
      have fr2 : Fr wSt N N2 := (f1.mono (fun a k q => by unfold w14 at q; unfold wSt; omega)).tr (f2.mono (fun a k q => by unfold wK at q; unfold wSt; omega))
      rw [if_neg (show ¬ bI true = 0 by decide), if_pos rfl, gI_k 12 (O5 c1.1.1), b1_s, A1.2.1, e2, b2_s]
      cases hr : (erO T l (a + 1)).1 with
      | none =>
        rw [if_pos (show bI (none : Option (Nat → Nat)).isSome = 0 from rfl)]
        exact ⟨N2, rz0 N2, c2, (fun A' g => by cases g), fr2, r2.trans r1⟩
      | some r =>
        have k2' := k2 r hr
        rw [if_neg (show ¬ bI (some r).isSome = 0 from by show ¬ bI true = 0; decide)]
        refine ⟨N2, rz1 N2, c2, fun A' g => ?_, fr2, r2.trans r1⟩
        have g : some (acE A r) = some A' := g
        cases g
        refine ⟨?_, k2'.2, fun i hi => ?_, fun j hj => ?_⟩
        · exact (f2.2.2.1 5 11 (by unfold wK; omega)).trans A1.1
        · have e0 : (acE A r).2.2 0 i = A.2.2 0 i := by show (if 1 ≤ 0 ∧ i = A.2.1 then r 0 else A.2.2 0 i) = _; rw [if_neg (by omega)]
          rw [e0]
          exact (f2.2.2.1 6 _ (by unfold wK; omega)).trans (A1.2.2.1 i hi)
        · have hj : j < A.2.1 + 1 := hj
          by_cases e : j = A.2.1
          · rw [e]
            exact k2'.1.cg (fun c hc => if_pos ⟨hc, rfl⟩)
          · have := (A1.2.2.2 j (by omega)).fr f2 (fun a _ _ => by unfold wK; omega)
            exact this.cg (fun c hc => if_neg (fun q => e q.2))
  · rw [if_pos (show (8 : Int32) ≤ nI (zE s + A.2.1) from nI_le (a := 8) (by omega) (by omega)), if_neg hf]
    have e : (if tkB T l a 101 = true then ((none, a) : Option Ac × Nat) else (none, a)) = (none, a) := by split <;> rfl
    rw [e]
    exact ⟨N, rz0 N, h, (fun A' g => by cases g), Fr.rf N, rfl⟩
theorem c_line {a : Nat} {N : MM} {A : Ac} (h : TC s T n l a N) (hA : CAs s N A) (ok : okA (zP s) (zE s) A) : ∃ N', f_X9_readLine 5 1 N = some (bI (liO (zP s) (zE s) T l a A).1.isSome, N') ∧ TC s T n l (liO (zP s) (zE s) T l a A).2 N' ∧ (∀ A', (liO (zP s) (zE s) T l a A).1 = some A' → CAs s N' A') ∧ Fr wSt N N' ∧ mR N' = mR N := by
  have s0 := h.1.1
  have o1 := ok.1
  have o2 := ok.2.1
  unfold f_X9_readLine f_X9_readLine_0
  rw [if_pos (O5 s0), gI_k 11 (O5 s0), b1_s, hA.1]
  by_cases hf : zP s + A.1 < 6
  · rw [if_neg (show ¬ (6 : Int32) ≤ nI (zP s + A.1) from nI_ge (b := 6) hf (by decide))]
    obtain ⟨N1, e1, c1, f1, r1⟩ := tc_take h (c := 112) (by decide)
    have A1 := hA.fr f1
    have fr1 : Fr wSt N N1 := f1.mono (fun a k q => by unfold w14 at q; unfold wSt; omega)
    rw [show (112 : Int32) = nI 112 from rfl, e1, b2_s]
    cases htk : tkB T l a 112 with
    | false =>
      rw [htk] at c1
      have ep : liO (zP s) (zE s) T l a A = L2 (zE s) T l a A := if_neg (by rw [htk]; decide)
      obtain ⟨N2, e2, c2, k2, f2, r2⟩ := c_45 c1 A1 ok
      rw [ep, if_pos (show bI false = 0 from rfl)]
      exact ⟨N2, e2, c2, k2, fr1.tr f2, r2.trans r1⟩
    | true =>
      rw [htk] at c1
      have c1' : TC s T n l (a + 1) N1 := c1
      have ep : liO (zP s) (zE s) T l a A = (some (acP A (b2n (tkB T l (a + 1) 33))), adv (tkB T l (a + 1) 33) (a + 1)) := (if_pos htk).trans (if_pos hf)
      obtain ⟨N2, e2, c2, f2, r2⟩ := tc_take c1' (c := 33) (by decide)
      have A2 := A1.fr f2
      have c3 : TC s T n l (adv (tkB T l (a + 1) 33) (a + 1)) (sI N2 6 (zP s + A.1) (bI (tkB T l (a + 1) 33))) := c2.sS (by unfold wS; omega)
      have h11 : mI (sI N2 6 (zP s + A.1) (bI (tkB T l (a + 1) 33))) 5 11 = nI (zP s + A.1) := by rw [mI_w, if_neg (by omega)]; exact A2.1
      have c4 : TC s T n l (adv (tkB T l (a + 1) 33) (a + 1)) (sI (sI N2 6 (zP s + A.1) (bI (tkB T l (a + 1) 33))) 5 11 (nI (zP s + A.1 + 1))) := c3.sS (by unfold wS; omega)
      have f4 : Fr (fun a k => (a = 6 ∧ k = zP s + A.1) ∨ (a = 5 ∧ k = 11)) N2 (sI (sI N2 6 (zP s + A.1) (bI (tkB T l (a + 1) 33))) 5 11 (nI (zP s + A.1 + 1))) := ((Fr.rf (W := fun a k => (a = 6 ∧ k = zP s + A.1) ∨ (a = 5 ∧ k = 11)) N2).sI (Or.inl ⟨rfl, rfl⟩)).sI (Or.inr ⟨rfl, rfl⟩)
      rw [ep, if_neg (show ¬ bI true = 0 by decide), (R5 c1.1.1).1, b1_s, gI_k 11 (O5 c1.1.1), b1_s, A1.1, show (33 : Int32) = nI 33 from rfl, e2, b2_s, st_6 c2.1.1 _ hf, b1_s, nz_b, gI_k 11 (O5 c3.1.1), b1_s, h11, nI_1, pI_k 11 _ (O5 c3.1.1), b1_s]
      refine ⟨_, rz1 _, c4, fun A' g => ?_, (fr1.tr (f2.mono (fun a k q => by unfold w14 at q; unfold wSt; omega))).tr (f4.mono (fun a k q => by unfold wSt; omega)), r2.trans r1⟩
      have g : some (acP A (b2n (tkB T l (a + 1) 33))) = some A' := g
      cases g
      refine ⟨by rw [mI_w, if_pos ⟨rfl, rfl⟩]; rfl, (f4.2.2.1 5 12 (by omega)).trans A2.2.1, fun i hi => ?_, fun j hj => (A2.2.2.2 j hj).fr f4 (fun a _ _ => by omega)⟩
      have hi : i < A.1 + 1 := hi
      show _ = nI (if 0 = 0 ∧ i = A.1 then b2n (tkB T l (a + 1) 33) else A.2.2 0 i)
      by_cases e : i = A.1
      · rw [if_pos ⟨rfl, e⟩, e, mI_w, if_neg (by omega), mI_w, if_pos ⟨rfl, rfl⟩, bI_b2n]
      · rw [if_neg (fun q => e q.2), f4.2.2.1 6 _ (by omega)]
        exact A2.2.2.1 i (by omega)
  · rw [if_pos (show (6 : Int32) ≤ nI (zP s + A.1) from nI_le (a := 6) (by omega) (by omega))]
    have ep : liO (zP s) (zE s) T l a A = L2 (zE s) T l a A := by
      unfold liO
      by_cases htk : tkB T l a 112 = true
      · have h1 := of_decide_eq_true htk
        have h2 : tkB T l a 101 = false := decide_eq_false (fun g => by have := g.2; omega)
        rw [if_pos htk, if_neg hf]
        unfold L2
        rw [if_neg (by rw [h2]; decide)]
      · rw [if_neg htk]; rfl
    rw [ep]
    exact c_45 h hA ok
theorem erO_gt {a : Nat} {r : Nat → Nat} (h : (erO T l a).1 = some r) : a ≤ (erO T l a).2 := by
  unfold erO at h ⊢
  cases h1 : dgO T l a 0 9 with
  | none => rw [h1] at h; cases h
  | some w =>
    rw [h1] at h
    have b1x := dg_b h1
    dsimp only at h ⊢
    unfold er1 at h ⊢
    cases h2 : dgO T l (a + 1) 1 9 with
    | none => rw [h2] at h; cases h
    | some la =>
      rw [h2] at h
      have b2x := dg_b h2
      dsimp only at h ⊢
      unfold er2 at h ⊢
      by_cases h3 : tkB T l (a + 1 + 1) 64 = true
      · rw [if_pos h3] at h ⊢
        have h3x := (of_decide_eq_true h3).1
        cases h4 : nmO T l (a + 1 + 1 + 1) 2 with
        | none => rw [h4] at h; cases h
        | some fr =>
          rw [h4] at h
          have g4 : a + 1 + 1 + 1 < l ∧ a + 1 + 1 + 1 + 1 ≤ nmA T l (a + 1 + 1 + 1) 2 := nmA_gt (k := 1) (by omega) h4
          dsimp only at h ⊢
          unfold er3 at h ⊢
          by_cases h5 : tkB T l (nmA T l (a + 1 + 1 + 1) 2) 45 = true
          · rw [if_pos h5] at h ⊢
            have h5x := (of_decide_eq_true h5).1
            cases h6 : nmO T l (nmA T l (a + 1 + 1 + 1) 2 + 1) 2 with
            | none => rw [h6] at h; cases h
            | some ti =>
              rw [h6] at h
              have g6 : nmA T l (a + 1 + 1 + 1) 2 + 1 < l ∧ nmA T l (a + 1 + 1 + 1) 2 + 1 + 1 ≤ nmA T l (nmA T l (a + 1 + 1 + 1) 2 + 1) 2 := nmA_gt (k := 1) (by omega) h6
              dsimp only at h ⊢
              unfold erT at h ⊢
              by_cases h7 : ti < fr
              · rw [if_pos h7] at h; cases h
              · rw [if_neg h7]
                show a ≤ adv _ (thA T l _)
                unfold adv thA adO
                split <;> split <;> omega
          · rw [if_neg h5] at h; cases h
      · rw [if_neg h3] at h; cases h
theorem liO_gt {P E a a1 : Nat} {A A' : Ac} (h : liO P E T l a A = (some A', a1)) : a + 1 ≤ a1 := by
  unfold liO at h
  by_cases h1 : tkB T l a 112 = true
  · rw [if_pos h1] at h
    by_cases h2 : P + A.1 < 6
    · rw [if_pos h2] at h
      cases h
      unfold adv
      split <;> omega
    · rw [if_neg h2] at h; cases h
  · rw [if_neg h1] at h
    by_cases h3 : tkB T l a 101 = true
    · rw [if_pos h3] at h
      by_cases h4 : E + A.2.1 < 8
      · rw [if_pos h4] at h
        have e2 : (erO T l (a + 1)).2 = a1 := congrArg Prod.snd h
        have e1 : ∃ r, (erO T l (a + 1)).1 = some r := by
          have := congrArg Prod.fst h
          cases hx : (erO T l (a + 1)).1 with
          | none =>
            have this : (erO T l (a + 1)).1.map (acE A) = some A' := this
            rw [hx] at this; cases this
          | some r => exact ⟨r, rfl⟩
        obtain ⟨r, hr⟩ := e1
        have := erO_gt hr
        omega
      · rw [if_neg h4] at h; cases h
    · rw [if_neg h3] at h; cases h
end STL

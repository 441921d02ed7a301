/-! station: the reference's lines -/
theorem ix1s : ∀ c, c < 256 → ixS 1 c = if c = 112 then some 0 else none := by decide +kernel
theorem ix2s : ∀ c, c < 256 → ixS 2 c = if c = 101 then some 0 else none := by decide +kernel
theorem TR.s156 {s : St} {T : Nat → Nat} {n l a k : Nat} {v : Int32} {M : MM} (h : TR s T n l a M) : TR s T n l a (sI M 156 k v) := h.fr' (W := fun a k => a = 156) ((Fr.rf M).sI rfl) rfl (fun a k q => by unfold wR; omega) (fun a k q => by omega)
def wLn (a k : Nat) : Prop := (a = 143 ∧ (k = 19 ∨ k = 24 ∨ k = 25)) ∨ a = 156 ∨ a = 157
section STR3
variable {s : St} {T : Nat → Nat} {n l : Nat}
theorem r_line {a : Nat} {N : MM} {A : Ac} (hw : WF s) (h : TR s T n l a N) (hA : RAs N A) (ok : okA (zP s) (zE s) A) : ∃ N', f_X12_readsLine 143 N = some (bI (liO (zP s) (zE s) T l a A).1.isSome, N') ∧ TR s T n l (liO (zP s) (zE s) T l a A).2 N' ∧ (∀ A', (liO (zP s) (zE s) T l a A).1 = some A' → RAs N' A') ∧ Fr wLn N N' ∧ mR N' = mR N := by
  obtain ⟨b1', b2', b3', b4'⟩ := h.2.2.2.2
  obtain ⟨o1, o2, o3, o4⟩ := ok
  have s0 := h.1.1
  have hP := h.1.2.2.2.1.1
  have am1 : f_X12_among 143 (sB + 1) N = some (enO (-1) (ixP1 T l a 1), N) := r_among h (by decide)
  have am2 : f_X12_among 143 (sB + 2) N = some (enO (-1) (ixP1 T l a 2), N) := r_among h (by decide)
  unfold f_X12_readsLine f_X12_readsLine_0
  rw [if_pos (tr_O h), am1, b2_s]
  by_cases htk : tkB T l a 112 = true
  · have htk' := of_decide_eq_true htk
    have hx : ixP1 T l a 1 = some 0 := by
      unfold ixP1
      rw [if_pos htk'.1, htk'.2]
      rfl
    rw [hx, if_pos (show enO (-1) (some 0) = 0 from rfl)]
    unfold f_X12_readsPerson f_X12_readsPerson_0
    rw [if_pos (tr_O h), gI_k 3 (tr_O h), b1_s, gI_k 24 (tr_O h), b1_s, hP, hA.1, nI_add]
    by_cases hf : zP s + A.1 < 6
    · have ep : liO (zP s) (zE s) T l a A = (some (acP A (b2n (tkB T l (a + 1) 33))), adv (tkB T l (a + 1) 33) (a + 1)) := (if_pos htk).trans (if_pos hf)
      have c1 := h.mv (a' := a + 1) (by omega)
      have A1 := hA.fr (frmr N (nI (a + 1)))
      obtain ⟨N2, e2, c2, f2, r2⟩ := tr_take c1 (c := 33) (by decide)
      have A2 := A1.fr f2
      have c3 : TR s T n l (adv (tkB T l (a + 1) 33) (a + 1)) (sI N2 156 A.1 (bI (tkB T l (a + 1) 33))) := c2.s156
      have h24 : mI (sI N2 156 A.1 (bI (tkB T l (a + 1) 33))) 143 24 = nI A.1 := by rw [mI_w, if_neg (by omega)]; exact A2.1
      have f4 : Fr (fun a k => a = 143 ∧ k = 24) (sI N2 156 A.1 (bI (tkB T l (a + 1) 33))) (sI (sI N2 156 A.1 (bI (tkB T l (a + 1) 33))) 143 24 (nI (A.1 + 1))) := (Fr.rf (W := fun a k => a = 143 ∧ k = 24) _).sI ⟨rfl, rfl⟩
      have f5 : Fr (fun a k => (a = 143 ∧ k = 24) ∨ (a = 156 ∧ k = A.1)) N2 (sI (sI N2 156 A.1 (bI (tkB T l (a + 1) 33))) 143 24 (nI (A.1 + 1))) := ((Fr.rf (W := fun a k => (a = 143 ∧ k = 24) ∨ (a = 156 ∧ k = A.1)) N2).sI (Or.inr ⟨rfl, rfl⟩)).sI (Or.inl ⟨rfl, rfl⟩)
      rw [ep, if_neg (show ¬ nI (zP s + A.1) = 6 by rw [show (6 : Int32) = nI 6 from rfl, nI_eq (by omega) (by omega)]; omega), gI_k 19 (tr_O h), b1_s, h.2.2.1, nI_1, pI_k 19 _ (tr_O h), b1_s, sh_R c1.1.1 (a := 143) (k := 22) (b := 156) 12 (by decide) rfl (by decide), b1_s, gI_k 24 (tr_O c1), b1_s, A1.1, show (33 : Int32) = nI 33 from rfl, e2, b2_s, st_156 c2.1.1 _ (by omega), b1_s, nz_b, gI_k 24 (tr_O c3), b1_s, h24, nI_1, pI_k 24 _ (tr_O c3), b1_s, rz1, b2_s]
      refine ⟨_, rz1 _, c3.fr' f4 rfl (fun a k q => by unfold wR; omega) (fun a k q => by omega), fun A' g => ?_, (((frmr N _).mono (fun a k q => by unfold w19 at q; unfold wLn; omega)).tr (f2.mono (fun a k q => by unfold w19 at q; unfold wLn; omega))).tr (f5.mono (fun a k q => by unfold wLn; omega)), r2⟩
      have g : some (acP A (b2n (tkB T l (a + 1) 33))) = some A' := g
      cases g
      refine ⟨by rw [mI_w, if_pos ⟨rfl, rfl⟩]; rfl, (f5.2.2.1 143 25 (by omega)).trans A2.2.1, fun i hi => ?_, fun j hj => (A2.2.2.2 j hj).fr f5 (fun k _ => by omega)⟩
      have hi : i < A.1 + 1 := hi
      show _ = nI (if 0 = 0 ∧ i = A.1 then b2n (tkB T l (a + 1) 33) else A.2.2 0 i)
      by_cases e : i = A.1
      · rw [if_pos ⟨rfl, e⟩, e, mI_w, if_neg (by omega), mI_w, if_pos ⟨rfl, rfl⟩, bI_b2n]
      · rw [if_neg (fun q => e q.2), f5.2.2.1 156 _ (by omega)]
        exact A2.2.2.1 i (by omega)
    · have ep : liO (zP s) (zE s) T l a A = (none, a) := (if_pos htk).trans (if_neg hf)
      rw [ep, if_pos (show nI (zP s + A.1) = 6 by rw [show zP s + A.1 = 6 by omega]; rfl), rz0, b2_s]
      exact ⟨N, rz0 N, h, (fun A' g => by cases g), Fr.rf N, rfl⟩
  · have hx : ixP1 T l a 1 = none := by
      unfold ixP1
      by_cases hl : a < l
      · rw [if_pos hl, ix1s _ (b4' a hl), if_neg (fun g => htk (decide_eq_true ⟨hl, g⟩))]
      · rw [if_neg hl]
    rw [hx, if_neg (show ¬ enO (-1) (none : Option Nat) = 0 by decide), am2, b2_s]
    by_cases htk2 : tkB T l a 101 = true
    · have htk' := of_decide_eq_true htk2
      have hx2 : ixP1 T l a 2 = some 0 := by
        unfold ixP1
        rw [if_pos htk'.1, htk'.2]
        rfl
      rw [hx2, if_pos (show enO (-1) (some 0) = 0 from rfl)]
      by_cases hf : zE s + A.2.1 < 8
      · have ep : liO (zP s) (zE s) T l a A = ((erO T l (a + 1)).1.map (acE A), (erO T l (a + 1)).2) := (if_neg htk).trans ((if_pos htk2).trans (if_pos hf))
        obtain ⟨N2, e2, c2, k2, f2, r2⟩ := r_errand hw h htk'.1 hf hA.2.1
        have fr2 : Fr wLn N N2 := f2.mono (fun a k q => by unfold wE at q; unfold wLn; omega)
        rw [ep, e2, b2_s, Option.isSome_map]
        cases hr : (erO T l (a + 1)).1 with
        | none =>
          rw [if_pos (show bI (none : Option (Nat → Nat)).isSome = 0 from rfl)]
          exact ⟨N2, rz0 N2, c2, (fun A' g => by cases g), fr2, r2⟩
        | some r =>
          have k2' := k2 r hr
          rw [if_neg (show ¬ bI (some r).isSome = 0 from by show ¬ bI true = 0; decide)]
          refine ⟨N2, rz1 N2, c2, fun A' g => ?_, fr2, r2⟩
          have g : some (acE A r) = some A' := g
          cases g
          refine ⟨(f2.2.2.1 143 24 (by unfold wE; omega)).trans hA.1, k2'.2, fun i hi => ?_, fun j hj => ?_⟩
          · have e0 : (acE A r).2.2 0 i = A.2.2 0 i := by show (if 1 ≤ 0 ∧ i = A.2.1 then r 0 else A.2.2 0 i) = _; rw [if_neg (by omega)]
            rw [e0]
            exact (f2.2.2.1 156 _ (by unfold wE; omega)).trans (hA.2.2.1 i hi)
          · have hj : j < A.2.1 + 1 := hj
            by_cases e : j = A.2.1
            · rw [e]
              exact k2'.1.cg (fun c hc => if_pos ⟨hc, rfl⟩)
            · have := (hA.2.2.2 j (by omega)).fr f2 (fun k _ => by unfold wE; omega)
              exact this.cg (fun c hc => if_neg (fun q => e q.2))
      · have ep : liO (zP s) (zE s) T l a A = (none, a) := (if_neg htk).trans ((if_pos htk2).trans (if_neg hf))
        have hE := h.1.2.2.2.1.2.1
        unfold f_X12_readsErrand f_X12_readsErrand_0
        rw [ep, if_pos (tr_O h), gI_k 4 (tr_O h), b1_s, gI_k 25 (tr_O h), b1_s, hE, hA.2.1, nI_add, if_pos (show nI (zE s + A.2.1) = 8 by rw [show zE s + A.2.1 = 8 by omega]; rfl), rz0, b2_s, if_pos rfl]
        exact ⟨N, rz0 N, h, (fun A' g => by cases g), Fr.rf N, rfl⟩
    · have hx2 : ixP1 T l a 2 = none := by
        unfold ixP1
        by_cases hl : a < l
        · rw [if_pos hl, ix2s _ (b4' a hl), if_neg (fun g => htk2 (decide_eq_true ⟨hl, g⟩))]
        · rw [if_neg hl]
      have ep : liO (zP s) (zE s) T l a A = (none, a) := (if_neg htk).trans (if_neg htk2)
      rw [ep, hx2, if_neg (show ¬ enO (-1) (none : Option Nat) = 0 by decide)]
      exact ⟨N, rz0 N, h, (fun A' g => by cases g), Fr.rf N, rfl⟩
theorem wLn_rW {M M' : MM} (f : Fr wLn M M') : Fr rW M M' := f.mono (fun a k q => by unfold wLn at q; unfold rW; omega)
theorem r_stl (hw : WF s) (hl : l = min n 76) : ∀ (j a fu : Nat) (A : Ac) (N : MM), l < j + a → j + 1 < fu → okA (zP s) (zE s) A → TR s T n l a N → RAs N A → ∃ f' N' b, f_X12_station_34 fu 143 (nI n) 1 1 N = f_X12_station_34 (f' + 1) 143 (nI n) (bI b) 0 N' ∧ TR s T n l (stF (zP s) (zE s) T n l j a A).2 N' ∧ ((stF (zP s) (zE s) T n l j a A).1 = none → ¬ (b = true ∧ (stF (zP s) (zE s) T n l j a A).2 = l ∧ l = n)) ∧ (∀ A', (stF (zP s) (zE s) T n l j a A).1 = some A' → RAs N' A' ∧ b = true ∧ (stF (zP s) (zE s) T n l j a A).2 = l ∧ l = n) ∧ Fr rW N N' ∧ mR N' = mR N
  | 0, a, fu, A, N, h1, h2, ok, h, hA => by
    have := h.2.2.2.2.2.2.1
    omega
  | j + 1, a, fu, A, N, h1, h2, ok, h, hA => by
    have ha := h.2.2.2.2.2.2.1
    have hln := h.2.2.2.2.2.1
    cases fu with
    | zero => omega
    | succ fu =>
      obtain ⟨N1, e1, c1, k1, f1, r1⟩ := r_line hw h hA ok
      have fr1 := wLn_rW f1
      rw [f_X12_station_34, if_neg (by decide), e1, b2_s]
      unfold f_X12_station_60 f_X12_station_61
      cases hli : liO (zP s) (zE s) T l a A with
      | mk o a1 =>
        rw [hli] at c1 k1
        have c1' : TR s T n l a1 N1 := c1
        cases o with
        | none =>
          rw [if_pos (show bI (none : Option Ac).isSome = 0 from rfl), stF_n hli]
          cases fu with
          | zero => omega
          | succ fu => exact ⟨fu, N1, false, rfl, c1', (fun _ g => by cases g.1), (fun A' g => by cases g), fr1, r1⟩
        | some B =>
          have kB := k1 B rfl
          have hgt := liO_gt hli
          have okB := liO_ok ok (by rw [hli])
          have ha1 := c1'.2.2.2.2.2.2.1
          obtain ⟨N2, e2, c2, f2, r2⟩ := tr_take c1' (c := 59) (by decide)
          have fr2 : Fr rW N N2 := fr1.tr (w19_rW f2)
          rw [if_neg (show ¬ bI (some B).isSome = 0 from by show ¬ bI true = 0; decide), show (59 : Int32) = nI 59 from rfl, e2, b2_s, stF_s hli]
          by_cases hend : l ≤ a1 ∧ ¬ l < n
          · have htk : tkB T l a1 59 = false := decide_eq_false (by omega)
            rw [htk] at c2 ⊢
            rw [if_pos hend, if_pos (show bI false = 0 from rfl)]
            cases fu with
            | zero => omega
            | succ fu => exact ⟨fu, N2, true, rfl, c2, (fun g => by cases g), (fun A' g => by cases g; exact ⟨kB.fr f2, rfl, by show a1 = l; omega, by omega⟩), fr2, r2.trans r1⟩
          · rw [if_neg hend]
            cases htk : tkB T l a1 59 with
            | false =>
              rw [htk] at c2
              rw [if_pos (show bI false = 0 from rfl), if_neg (by decide)]
              cases fu with
              | zero => omega
              | succ fu => exact ⟨fu, N2, true, rfl, c2, (fun _ g => by have g1 : a1 = l := g.2.1; have g2 := g.2.2; omega), (fun A' g => by cases g), fr2, r2.trans r1⟩
            | true =>
              rw [htk] at c2
              have c2' : TR s T n l (a1 + 1) N2 := c2
              obtain ⟨f', N3, b, e3, c3, g3, k3, f3, r3⟩ := r_stl hw hl j (a1 + 1) fu B N2 (by omega) (by omega) okB.1 c2' (kB.fr f2)
              rw [if_neg (show ¬ bI true = 0 by decide), if_pos rfl]
              exact ⟨f', N3, b, e3, c3, g3, k3, fr2.tr f3, r3.trans (r2.trans r1)⟩
end STR3

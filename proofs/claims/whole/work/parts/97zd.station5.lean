/-! station: the reference reads -/
def RE (N : MM) (j : Nat) (r : Nat → Nat) : Prop := mI N 157 (6 * j) = nI (r 1) ∧ mI N 157 (6 * j + 1) = nI (r 2) ∧ mI N 157 (6 * j + 2) = nI (r 3) ∧ mI N 157 (6 * j + 3) = nI (r 4) ∧ mI N 157 (6 * j + 4) = nI (r 5) ∧ mI N 157 (6 * j + 5) = nI (r 6)
def RAs (N : MM) (A : Ac) : Prop := mI N 143 24 = nI A.1 ∧ mI N 143 25 = nI A.2.1 ∧ (∀ i, i < A.1 → mI N 156 i = nI (A.2.2 0 i)) ∧ ∀ j, j < A.2.1 → RE N j (fun c => A.2.2 c j)
theorem RE.fr {N N' : MM} {j : Nat} {r : Nat → Nat} {W : Nat → Nat → Prop} (h : RE N j r) (f : Fr W N N') (w : ∀ k, k < 6 * j + 6 → ¬ W 157 k) : RE N' j r := ⟨(f.2.2.1 157 _ (w _ (by omega))).trans h.1, (f.2.2.1 157 _ (w _ (by omega))).trans h.2.1, (f.2.2.1 157 _ (w _ (by omega))).trans h.2.2.1, (f.2.2.1 157 _ (w _ (by omega))).trans h.2.2.2.1, (f.2.2.1 157 _ (w _ (by omega))).trans h.2.2.2.2.1, (f.2.2.1 157 _ (w _ (by omega))).trans h.2.2.2.2.2⟩
theorem RE.cg {N : MM} {e : Nat} {r r' : Nat → Nat} (h : RE N e r) (w : ∀ c, 1 ≤ c → r' c = r c) : RE N e r' := by
  unfold RE
  rw [w 1 (by omega), w 2 (by omega), w 3 (by omega), w 4 (by omega), w 5 (by omega), w 6 (by omega)]
  exact h
theorem RAs.fr {N N' : MM} {A : Ac} (h : RAs N A) (f : Fr w19 N N') : RAs N' A := ⟨(f.2.2.1 143 24 (by unfold w19; omega)).trans h.1, (f.2.2.1 143 25 (by unfold w19; omega)).trans h.2.1, fun i hi => (f.2.2.1 156 _ (by unfold w19; omega)).trans (h.2.2.1 i hi), fun j hj => (h.2.2.2 j hj).fr f (fun k _ => by unfold w19; omega)⟩
def wE (c ne a k : Nat) : Prop := (a = 143 ∧ (k = 19 ∨ k = 25)) ∨ (a = 157 ∧ 6 * ne + c ≤ k)
theorem wE_m {c c' ne : Nat} {M M' : MM} (f : Fr (wE c ne) M M') (h : c' ≤ c) : Fr (wE c' ne) M M' := f.mono (fun a k q => by unfold wE at *; omega)
theorem w19_E {c ne : Nat} {M M' : MM} (f : Fr w19 M M') : Fr (wE c ne) M M' := f.mono (fun a k q => by unfold w19 at q; unfold wE; omega)
theorem sE {c ne k : Nat} {v : Int32} (M : MM) (h : 6 * ne + c ≤ k) : Fr (wE c ne) M (sI M 157 k v) := (Fr.rf (W := wE c ne) M).sI (by unfold wE; omega)
theorem TR.s157 {s : St} {T : Nat → Nat} {n l a k : Nat} {v : Int32} {M : MM} (h : TR s T n l a M) : TR s T n l a (sI M 157 k v) := h.fr' (W := fun a k => a = 157) ((Fr.rf M).sI rfl) rfl (fun a k q => by unfold wR; omega) (fun a k q => by omega)
theorem R157 {M : MM} (h : Sh M) : gR 12 23 143 M = some 157 := sh_R h 12 (by decide) rfl (by decide)
theorem e_th {T : Nat → Nat} {l q : Nat} : (1 : Int32) + enO (-1) (ixP1 T l q 3) = nI (thV T l q) := by
  unfold thV
  cases h : ixP1 T l q 3 with
  | none => decide
  | some i => show nI 1 + nI i = nI (i + 1); rw [nI_add, Nat.add_comm]
section STR2
variable {s : St} {T : Nat → Nat} {n l : Nat}
theorem r_etl {q ne w la fr ti : Nat} {N : MM} (h : TR s T n l q N) (hq : 1 ≤ q) (he : ne < 8) (h2 : mI N 157 (6 * ne + 2) = nI fr) (h3 : mI N 157 (6 * ne + 3) = nI ti) (hfr : fr < 100) (hti : ti < 100) (h25 : mI N 143 25 = nI ne) : ∃ N', (b1 (gR 12 23 143 N) fun v33 => b1 (ldI v33 (nI (6 * ne) + (3 : Int32)) N) fun v34 => b1 (gR 12 23 143 N) fun v35 => b1 (ldI v35 (nI (6 * ne) + (2 : Int32)) N) fun v36 => if v36 ≤ v34 then b1 (gR 12 23 143 N) fun v37 => b2 (f_X12_takesOf 143 (sB + 3) N) fun r39 M38 => b1 (stI v37 (nI (6 * ne) + (4 : Int32)) ((1 : Int32) + r39) M38) fun M40 => b1 (gR 12 23 143 M40) fun v41 => b2 (f_X12_takes 143 (94 : Int32) M40) fun r43 M42 => b2 (f_X12_flag r43 M42) fun r45 M44 => b1 (stI v41 (nI (6 * ne) + (5 : Int32)) r45 M44) fun M46 => b1 (gI 12 25 143 M46) fun v47 => b1 (pI 12 25 143 (v47 + (1 : Int32)) M46) fun M48 => rz (1 : Int32) M48 else b1 (gI 12 19 143 N) fun v49 => b1 (gR 12 23 143 N) fun v50 => b1 (ldI v50 (nI (6 * ne) + (3 : Int32)) N) fun v51 => if v51 < 0 then f_X12_readsErrand_183 (0 : Int32) v49 143 N else f_X12_readsErrand_183 (1 : Int32) v49 143 N) = some (bI (erT T l q w la fr ti).1.isSome, N') ∧ TR s T n l (erT T l q w la fr ti).2 N' ∧ (∀ r, (erT T l q w la fr ti).1 = some r → mI N' 157 (6 * ne + 4) = nI (r 5) ∧ mI N' 157 (6 * ne + 5) = nI (r 6) ∧ mI N' 143 25 = nI (ne + 1)) ∧ Fr (wE 4 ne) N N' ∧ mR N' = mR N := by
  obtain ⟨b1', b2', b3', b4'⟩ := h.2.2.2.2
  have s0 := h.1.1
  rw [R157 s0, b1_s, nI_3, ld_157 s0 (by omega), b1_s, h3, b1_s, nI_2, ld_157 s0 (by omega), b1_s, h2]
  by_cases hc : ti < fr
  · have et : erT T l q w la fr ti = (none, q - 1) := if_pos hc
    rw [et, if_neg (nI_ge hc (by omega)), gI_k 19 (tr_O h), b1_s, h.2.2.1, b1_s, ld_157 s0 (by omega), b1_s, h3, if_neg (nI_pos (by omega))]
    unfold f_X12_readsErrand_183
    rw [show f_X12_flag 1 N = some (1, N) from e_flag true N, b2_s, nS1 hq, pI_k 19 _ (tr_O h), b1_s, rz0]
    exact ⟨_, rfl, h.mv (by omega), (fun r g => by cases g), w19_E (frmr N _), rfl⟩
  · have et : erT T l q w la fr ti = (some (rec6 w la fr ti (thV T l q) (b2n (tkB T l (thA T l q) 94))), adv (tkB T l (thA T l q) 94) (thA T l q)) := if_neg hc
    obtain ⟨N1, e1, c1, f1, r1⟩ := r_tkOf h (k := 3) (by decide)
    have c1' : TR s T n l (thA T l q) N1 := c1
    have c2 : TR s T n l (thA T l q) (sI N1 157 (6 * ne + 4) (nI (thV T l q))) := c1'.s157
    obtain ⟨N3, e3, c3, f3, r3⟩ := tr_take c2 (c := 94) (by decide)
    have c4 : TR s T n l (adv (tkB T l (thA T l q) 94) (thA T l q)) (sI N3 157 (6 * ne + 5) (bI (tkB T l (thA T l q) 94))) := c3.s157
    have h25' : mI (sI N3 157 (6 * ne + 5) (bI (tkB T l (thA T l q) 94))) 143 25 = nI ne := by
      rw [mI_w, if_neg (by omega), f3.2.2.1 143 25 (by unfold w19; omega), mI_w, if_neg (by omega), f1.2.2.1 143 25 (by unfold w19; omega)]
      exact h25
    have f5 : Fr (fun a k => a = 143 ∧ k = 25) (sI N3 157 (6 * ne + 5) (bI (tkB T l (thA T l q) 94))) (sI (sI N3 157 (6 * ne + 5) (bI (tkB T l (thA T l q) 94))) 143 25 (nI (ne + 1))) := (Fr.rf (W := fun a k => a = 143 ∧ k = 25) _).sI ⟨rfl, rfl⟩
    rw [et, if_pos (nI_le (by omega) (by omega)), b1_s, e1, b2_s, e_th, nI_4, st_157 c1.1.1 _ (by omega), b1_s, R157 c2.1.1, b1_s, show (94 : Int32) = nI 94 from rfl, e3, b2_s, e_flag, b2_s, nI_5, st_157 c3.1.1 _ (by omega), b1_s, gI_k 25 (tr_O c4), b1_s, h25', nI_1, pI_k 25 _ (tr_O c4), b1_s, rz1]
    refine ⟨_, rfl, c4.fr' f5 rfl (fun a k q => by unfold wR; omega) (fun a k q => by omega), fun r g => ?_, ((((w19_E f1).tr (sE N1 (by omega))).tr (w19_E f3)).tr (sE N3 (by omega))).tr (f5.mono (fun a k q => by unfold wE; omega)), r3.trans r1⟩
    have g : some (rec6 w la fr ti (thV T l q) (b2n (tkB T l (thA T l q) 94))) = some r := g
    cases g
    refine ⟨?_, ?_, by rw [mI_w, if_pos ⟨rfl, rfl⟩]⟩
    · rw [mI_w, if_neg (by omega), mI_w, if_neg (by omega), f3.2.2.1 157 _ (by unfold w19; omega), mI_w, if_pos ⟨rfl, rfl⟩]; rfl
    · rw [mI_w, if_neg (by omega), mI_w, if_pos ⟨rfl, rfl⟩, bI_b2n]; rfl
theorem r_errand {a ne : Nat} {N : MM} (hw : WF s) (h : TR s T n l a N) (ha : a < l) (he : zE s + ne < 8) (h25 : mI N 143 25 = nI ne) : ∃ N', f_X12_readsErrand 143 N = some (bI (erO T l (a + 1)).1.isSome, N') ∧ TR s T n l (erO T l (a + 1)).2 N' ∧ (∀ r, (erO T l (a + 1)).1 = some r → RE N' ne r ∧ mI N' 143 25 = nI (ne + 1)) ∧ Fr (wE 0 ne) N N' ∧ mR N' = mR N := by
  obtain ⟨b1', b2', b3', b4'⟩ := h.2.2.2.2
  have s0 := h.1.1
  have hE := h.1.2.2.2.1.2.1
  have c1 := h.mv (a' := a + 1) (by omega)
  have s1 := c1.1.1
  have f1 : Fr w19 N (sI N 143 19 (nI (a + 1))) := frmr N _
  obtain ⟨N2, e2, c2, f2, r2⟩ := tr_digit c1 (lo := 0) (hi := 9) (by decide) (by decide)
  have e2 : f_X12_digit 143 0 9 (sI N 143 19 (nI (a + 1))) = some (enO (-1) (dgO T l (a + 1) 0 9), N2) := e2
  have fr2 : Fr (wE 0 ne) N N2 := (w19_E f1).tr (w19_E f2)
  unfold f_X12_readsErrand f_X12_readsErrand_0 erO
  rw [if_pos (tr_O h), gI_k 4 (tr_O h), b1_s, gI_k 25 (tr_O h), b1_s, hE, h25, nI_add, if_neg (show ¬ nI (zE s + ne) = 8 by rw [show (8 : Int32) = nI 8 from rfl, nI_eq (by omega) (by omega)]; omega), b1_s, n6m, bn_s, gI_k 19 (tr_O h), b1_s, h.2.2.1, nI_1, pI_k 19 _ (tr_O h), b1_s, R157 s1, b1_s, e2, b2_s, st_157 c2.1.1 _ (by omega), b1_s]
  cases hx1 : dgO T l (a + 1) 0 9 with
  | none =>
    rw [dg_n hx1] at c2
    have c3 : TR s T n l (a + 1) (sI N2 157 (6 * ne) (-1)) := c2.s157
    rw [show enO (-1) (none : Option Nat) = -1 from rfl, R157 c3.1.1, b1_s, ld_157 c3.1.1 (by omega), b1_s, show mI (sI N2 157 (6 * ne) (-1)) 157 (6 * ne) = -1 from if_pos ⟨rfl, rfl⟩, if_neg (by decide), rz0]
    exact ⟨_, rfl, c3, (fun r g => by cases g), fr2.tr (sE N2 (by omega)), r2⟩
  | some w =>
    have hwb := dg_b hx1
    rw [hwb.2.2.2] at c2
    have c3 : TR s T n l (a + 1 + 1) (sI N2 157 (6 * ne) (nI w)) := c2.s157
    have s3 := c3.1.1
    obtain ⟨N4, e4, c4, f4, r4⟩ := tr_digit c3 (lo := 1) (hi := 9) (by decide) (by decide)
    have e4 : f_X12_digit 143 1 9 (sI N2 157 (6 * ne) (nI w)) = some (enO (-1) (dgO T l (a + 1 + 1) 1 9), N4) := e4
    have fr4 : Fr (wE 0 ne) N N4 := (fr2.tr (sE N2 (by omega))).tr (w19_E f4)
    rw [show enO (-1) (some w) = nI w from rfl, R157 s3, b1_s, ld_157 s3 (by omega), b1_s, show mI (sI N2 157 (6 * ne) (nI w)) 157 (6 * ne) = nI w from if_pos ⟨rfl, rfl⟩, if_pos (nI_pos' (by omega)), b1_s, e4, b2_s, nI_1, st_157 c4.1.1 _ (by omega), b1_s]
    dsimp only
    unfold er1
    cases hx2 : dgO T l (a + 1 + 1) 1 9 with
    | none =>
      rw [dg_n hx2] at c4
      have c5 : TR s T n l (a + 1 + 1) (sI N4 157 (6 * ne + 1) (-1)) := c4.s157
      rw [show enO (-1) (none : Option Nat) = -1 from rfl, R157 c5.1.1, b1_s, ld_157 c5.1.1 (by omega), b1_s, show mI (sI N4 157 (6 * ne + 1) (-1)) 157 (6 * ne + 1) = -1 from if_pos ⟨rfl, rfl⟩, if_pos (by decide), rz0]
      exact ⟨_, rfl, c5, (fun r g => by cases g), fr4.tr (sE N4 (by omega)), r4.trans r2⟩
    | some la =>
      have hlb := dg_b hx2
      rw [hlb.2.2.2] at c4
      have c5 : TR s T n l (a + 1 + 1 + 1) (sI N4 157 (6 * ne + 1) (nI la)) := c4.s157
      have s5 := c5.1.1
      have g3 : Fr (wE 1 ne) (sI N2 157 (6 * ne) (nI w)) (sI N4 157 (6 * ne + 1) (nI la)) := (w19_E f4).tr (sE N4 (by omega))
      obtain ⟨N6, e6, c6, f6, r6⟩ := tr_take c5 (c := 64) (by decide)
      have fr6 : Fr (wE 0 ne) N N6 := (fr4.tr (sE N4 (by omega))).tr (w19_E f6)
      rw [show enO (-1) (some la) = nI la from rfl, R157 s5, b1_s, ld_157 s5 (by omega), b1_s, show mI (sI N4 157 (6 * ne + 1) (nI la)) 157 (6 * ne + 1) = nI la from if_pos ⟨rfl, rfl⟩, if_neg (nI_pos (by omega)), show (64 : Int32) = nI 64 from rfl, e6, b2_s]
      dsimp only
      unfold er2
      cases htk : tkB T l (a + 1 + 1 + 1) 64 with
      | false =>
        rw [htk] at c6
        rw [if_pos (show bI false = 0 from rfl), if_neg (by decide)]
        exact ⟨N6, rz0 N6, c6, (fun r g => by cases g), fr6, r6.trans (r4.trans r2)⟩
      | true =>
        rw [htk] at c6
        have htk' := (of_decide_eq_true htk).1
        have c6' : TR s T n l (a + 1 + 1 + 1 + 1) N6 := c6
        obtain ⟨N7, e7, c7, f7, r7⟩ := tr_num c6' (k := 2) (by decide) (by decide)
        have e7 : f_X12_number 143 2 N6 = some (enO (-1) (nmO T l (a + 1 + 1 + 1 + 1) 2), N7) := e7
        have fr7 : Fr (wE 0 ne) N N7 := fr6.tr (w19_E f7)
        rw [if_neg (show ¬ bI true = 0 by decide), if_pos rfl, R157 c6.1.1, b1_s, e7, b2_s, nI_2, st_157 c7.1.1 _ (by omega), b1_s]
        cases hfr : nmO T l (a + 1 + 1 + 1 + 1) 2 with
        | none =>
          rw [nm_none hfr] at c7
          have c8 : TR s T n l (a + 1 + 1 + 1 + 1) (sI N7 157 (6 * ne + 2) (-1)) := c7.s157
          rw [show enO (-1) (none : Option Nat) = -1 from rfl, R157 c8.1.1, b1_s, ld_157 c8.1.1 (by omega), b1_s, show mI (sI N7 157 (6 * ne + 2) (-1)) 157 (6 * ne + 2) = -1 from if_pos ⟨rfl, rfl⟩, if_pos (by decide), rz0]
          exact ⟨_, rfl, c8, (fun r g => by cases g), fr7.tr (sE N7 (by omega)), r7.trans (r6.trans (r4.trans r2))⟩
        | some fr =>
          have hfb : fr < 100 := nmO_b (by omega) hfr
          have hg7 : a + 1 + 1 + 1 + 1 < l ∧ a + 1 + 1 + 1 + 1 + 1 ≤ nmA T l (a + 1 + 1 + 1 + 1) 2 := nmA_gt (k := 1) (by omega) hfr
          have c8 : TR s T n l (nmA T l (a + 1 + 1 + 1 + 1) 2) (sI N7 157 (6 * ne + 2) (nI fr)) := c7.s157
          have s8 := c8.1.1
          have g5 : Fr (wE 2 ne) (sI N4 157 (6 * ne + 1) (nI la)) (sI N7 157 (6 * ne + 2) (nI fr)) := ((w19_E f6).tr (w19_E f7)).tr (sE N7 (by omega))
          obtain ⟨N9, e9, c9, f9, r9⟩ := tr_take c8 (c := 45) (by decide)
          have fr9 : Fr (wE 0 ne) N N9 := (fr7.tr (sE N7 (by omega))).tr (w19_E f9)
          rw [show enO (-1) (some fr) = nI fr from rfl, R157 s8, b1_s, ld_157 s8 (by omega), b1_s, show mI (sI N7 157 (6 * ne + 2) (nI fr)) 157 (6 * ne + 2) = nI fr from if_pos ⟨rfl, rfl⟩, if_neg (nI_pos (by omega)), show (45 : Int32) = nI 45 from rfl, e9, b2_s]
          dsimp only
          unfold er3
          cases htk2 : tkB T l (nmA T l (a + 1 + 1 + 1 + 1) 2) 45 with
          | false =>
            rw [htk2] at c9
            rw [if_pos (show bI false = 0 from rfl), if_neg (by decide)]
            exact ⟨N9, rz0 N9, c9, (fun r g => by cases g), fr9, r9.trans (r7.trans (r6.trans (r4.trans r2)))⟩
          | true =>
            rw [htk2] at c9
            have htk2' := (of_decide_eq_true htk2).1
            have c9' : TR s T n l (nmA T l (a + 1 + 1 + 1 + 1) 2 + 1) N9 := c9
            obtain ⟨N10, e10, c10, f10, r10⟩ := tr_num c9' (k := 2) (by decide) (by decide)
            have e10 : f_X12_number 143 2 N9 = some (enO (-1) (nmO T l (nmA T l (a + 1 + 1 + 1 + 1) 2 + 1) 2), N10) := e10
            have fr10 : Fr (wE 0 ne) N N10 := fr9.tr (w19_E f10)
            rw [if_neg (show ¬ bI true = 0 by decide), if_pos rfl, R157 c9.1.1, b1_s, e10, b2_s, nI_3, st_157 c10.1.1 _ (by omega), b1_s]
            cases hti : nmO T l (nmA T l (a + 1 + 1 + 1 + 1) 2 + 1) 2 with
            | none =>
              rw [nm_none hti] at c10
              have c11 : TR s T n l (nmA T l (a + 1 + 1 + 1 + 1) 2 + 1) (sI N10 157 (6 * ne + 3) (-1)) := c10.s157
              have s11 := c11.1.1
              have h2 : mI (sI N10 157 (6 * ne + 3) (-1)) 157 (6 * ne + 2) = nI fr := by
                rw [mI_w, if_neg (by omega), f10.2.2.1 157 _ (by unfold w19; omega), f9.2.2.1 157 _ (by unfold w19; omega), mI_w, if_pos ⟨rfl, rfl⟩]
              rw [show enO (-1) (none : Option Nat) = -1 from rfl, R157 s11, b1_s, ld_157 s11 (by omega), b1_s, b1_s, ld_157 s11 (by omega), b1_s, h2, show mI (sI N10 157 (6 * ne + 3) (-1)) 157 (6 * ne + 3) = -1 from if_pos ⟨rfl, rfl⟩, if_neg (show ¬ nI fr ≤ -1 by rw [fa_le, nI_toInt (by omega), show (-1 : Int32).toInt = -1 from by decide]; omega), gI_k 19 (tr_O c11), b1_s, c11.2.2.1, b1_s, ld_157 s11 (by omega), b1_s, show mI (sI N10 157 (6 * ne + 3) (-1)) 157 (6 * ne + 3) = -1 from if_pos ⟨rfl, rfl⟩, if_pos (by decide)]
              unfold f_X12_readsErrand_183
              rw [show f_X12_flag 0 (sI N10 157 (6 * ne + 3) (-1)) = some (0, _) from e_flag false _, b2_s, Int32.sub_zero, pI_k 19 _ (tr_O c11), b1_s, rz0]
              exact ⟨_, rfl, c11.mv (a' := nmA T l (a + 1 + 1 + 1 + 1) 2 + 1) (by omega), (fun r g => by cases g), (fr10.tr (sE N10 (by omega))).tr (w19_E (frmr _ _)), r10.trans (r9.trans (r7.trans (r6.trans (r4.trans r2))))⟩
            | some ti =>
              have htb : ti < 100 := nmO_b (by omega) hti
              have hg10 : nmA T l (a + 1 + 1 + 1 + 1) 2 + 1 < l ∧ nmA T l (a + 1 + 1 + 1 + 1) 2 + 1 + 1 ≤ nmA T l (nmA T l (a + 1 + 1 + 1 + 1) 2 + 1) 2 := nmA_gt (k := 1) (by omega) hti
              have c11 : TR s T n l (nmA T l (nmA T l (a + 1 + 1 + 1 + 1) 2 + 1) 2) (sI N10 157 (6 * ne + 3) (nI ti)) := c10.s157
              have g8 : Fr (wE 3 ne) (sI N7 157 (6 * ne + 2) (nI fr)) (sI N10 157 (6 * ne + 3) (nI ti)) := ((w19_E f9).tr (w19_E f10)).tr (sE N10 (by omega))
              have fr11 : Fr (wE 0 ne) N (sI N10 157 (6 * ne + 3) (nI ti)) := fr10.tr (sE N10 (by omega))
              have h2 : mI (sI N10 157 (6 * ne + 3) (nI ti)) 157 (6 * ne + 2) = nI fr := by rw [g8.2.2.1 157 _ (by unfold wE; omega), mI_w, if_pos ⟨rfl, rfl⟩]
              have h25' : mI (sI N10 157 (6 * ne + 3) (nI ti)) 143 25 = nI ne := by
                rw [mI_w, if_neg (by omega), f10.2.2.1 143 25 (by unfold w19; omega), f9.2.2.1 143 25 (by unfold w19; omega), mI_w, if_neg (by omega), f7.2.2.1 143 25 (by unfold w19; omega), f6.2.2.1 143 25 (by unfold w19; omega), mI_w, if_neg (by omega), f4.2.2.1 143 25 (by unfold w19; omega), mI_w, if_neg (by omega), f2.2.2.1 143 25 (by unfold w19; omega), f1.2.2.1 143 25 (by unfold w19; omega)]
                exact h25
              obtain ⟨N12, e12, c12, k12, f12, r12⟩ := r_etl (w := w) (la := la) (fr := fr) (ti := ti) (ne := ne) c11 (by omega) (by omega) h2 (by rw [mI_w, if_pos ⟨rfl, rfl⟩]) hfb htb h25'
              rw [nI_3, nI_2] at e12
              rw [show enO (-1) (some ti) = nI ti from rfl, e12]
              dsimp only
              refine ⟨N12, rfl, c12, fun r hr => ?_, fr11.tr (wE_m f12 (by omega)), r12.trans (r10.trans (r9.trans (r7.trans (r6.trans (r4.trans r2)))))⟩
              obtain ⟨k1, k2, k3⟩ := k12 r hr
              obtain ⟨q1, q2, q3, q4⟩ := erT_r hr
              have G9 : Fr (wE 3 ne) (sI N7 157 (6 * ne + 2) (nI fr)) N12 := g8.tr (wE_m f12 (by omega))
              have G8 : Fr (wE 2 ne) (sI N4 157 (6 * ne + 1) (nI la)) N12 := g5.tr (wE_m G9 (by omega))
              have G7 : Fr (wE 1 ne) (sI N2 157 (6 * ne) (nI w)) N12 := g3.tr (wE_m G8 (by omega))
              refine ⟨⟨?_, ?_, ?_, ?_, k1, k2⟩, k3⟩
              · rw [G7.2.2.1 157 _ (by unfold wE; omega), mI_w, if_pos ⟨rfl, rfl⟩, q1]
              · rw [G8.2.2.1 157 _ (by unfold wE; omega), mI_w, if_pos ⟨rfl, rfl⟩, q2]
              · rw [G9.2.2.1 157 _ (by unfold wE; omega), mI_w, if_pos ⟨rfl, rfl⟩, q3]
              · rw [f12.2.2.1 157 _ (by unfold wE; omega), mI_w, if_pos ⟨rfl, rfl⟩, q4]
end STR2

/-! station: the class -/
def wS (s : St) (a k : Nat) : Prop := (a = 5 ∧ 11 ≤ k) ∨ (a = 6 ∧ zP s ≤ k) ∨ (7 ≤ a ∧ a ≤ 12 ∧ zE s ≤ k)
theorem rcHall.frs {s : St} {M M' : MM} (h : rcHall s M) (f : Fr (wS s) M M') : rcHall s M' := by
  obtain ⟨a1, a2, a3, a4, a5, a6, a7⟩ := h
  have hI := f.2.2.1
  refine ⟨(hI 5 7 (by unfold wS; omega)).trans a1, (hI 5 8 (by unfold wS; omega)).trans a2, (hI 5 9 (by unfold wS; omega)).trans a3, fun p hp => (hI 6 p (by unfold wS; omega)).trans (a4 p hp), fun e he => ?_, fun p e hp he => (hI 13 _ (by unfold wS; omega)).trans (a6 p e hp he), fun p e hp hq he => (hI 13 _ (by unfold wS; omega)).trans (a7 p e hp hq he)⟩
  rw [hI 7 _ (by unfold wS; omega), hI 8 _ (by unfold wS; omega), hI 9 _ (by unfold wS; omega), hI 10 _ (by unfold wS; omega), hI 11 _ (by unfold wS; omega), hI 12 _ (by unfold wS; omega)]
  exact a5 e he
theorem RC.frs {s : St} {M M' : MM} (h : RC s M) (f : Fr (wS s) M M') (hr : mR M' = mR M) : RC s M' := ⟨f.sh' hr h.1, h.2.1.fr f (fun a k q => by unfold wS; omega), h.2.2.1.fr f (fun a k q => by unfold wS; omega), h.2.2.2.1.frs f, h.2.2.2.2.1.frw f (fun a k q => by unfold wS; omega), h.2.2.2.2.2.1.fr f (fun a k q => by unfold wS; omega), h.2.2.2.2.2.2.1.fr f (fun a k q => by unfold wS; omega), h.2.2.2.2.2.2.2.1.fr f (fun a k q => by unfold wS; omega), h.2.2.2.2.2.2.2.2.fr f (fun a k q => by unfold wS; omega)⟩
theorem TC.frs {s : St} {T : Nat → Nat} {n l a : Nat} {M M' : MM} (h : TC s T n l a M) (f : Fr (wS s) M M') (hr : mR M' = mR M) : TC s T n l a M' := ⟨h.1.frs f hr, (f.2.2.1 1 2 (by unfold wS; omega)).trans h.2.1, (f.2.2.1 1 3 (by unfold wS; omega)).trans h.2.2.1, (f.2.2.1 1 4 (by unfold wS; omega)).trans h.2.2.2.1, fun k hk => (f.2.2.1 2 k (by unfold wS; omega)).trans (h.2.2.2.2.1 k hk), h.2.2.2.2.2⟩
theorem TC.sS {s : St} {T : Nat → Nat} {n l a c k : Nat} {v : Int32} {M : MM} (h : TC s T n l a M) (hw : wS s c k) : TC s T n l a (sI M c k v) := h.frs ((Fr.rf M).sI hw) rfl
theorem R5 {M : MM} (h : Sh M) : gR 9 0 5 M = some 6 ∧ gR 9 1 5 M = some 7 ∧ gR 9 2 5 M = some 8 ∧ gR 9 3 5 M = some 9 ∧ gR 9 4 5 M = some 10 ∧ gR 9 5 5 M = some 11 ∧ gR 9 6 5 M = some 12 := ⟨sh_R h 9 (by decide) rfl (by decide), sh_R h 9 (by decide) rfl (by decide), sh_R h 9 (by decide) rfl (by decide), sh_R h 9 (by decide) rfl (by decide), sh_R h 9 (by decide) rfl (by decide), sh_R h 9 (by decide) rfl (by decide), sh_R h 9 (by decide) rfl (by decide)⟩
theorem O5 {M : MM} (h : Sh M) : isO 9 5 M = true := sh_O h 9 (by decide) rfl
theorem nz_b (b : Bool) : nz (bI b) = bI b := by cases b; exact nz0; exact nz1
theorem bI_b2n (b : Bool) : bI b = nI (b2n b) := by cases b <;> rfl
theorem c_f100 {N : MM} {e : Nat} (h0 : Sh N) (he : e < 8) : f_X9_readErrand_100 5 1 (nI e) (-1) (nI e) 10 N = some (0, sI N 10 e (-1)) := by
  have h1 : Sh (sI N 10 e (-1)) := h0
  unfold f_X9_readErrand_100
  rw [st_10 h0 _ he, b1_s, (R5 h1).2.2.2.2.1, b1_s, ld_10 h1 he, b1_s, show mI (sI N 10 e (-1)) 10 e = -1 from if_pos ⟨rfl, rfl⟩, if_neg (by decide), rz0]
theorem c_f67 {N : MM} {e : Nat} (h0 : Sh N) (he : e < 8) : f_X9_readErrand_67 5 1 (nI e) (-1) (nI e) 9 N = some (0, sI (sI N 9 e (-1)) 10 e (-1)) := by
  have h1 : Sh (sI N 9 e (-1)) := h0
  unfold f_X9_readErrand_67 f_X9_readErrand_99
  rw [st_9 h0 _ he, b1_s, (R5 h1).2.2.2.2.1, b1_s, (R5 h1).2.2.2.1, b1_s, ld_9 h1 he, b1_s, show mI (sI N 9 e (-1)) 9 e = -1 from if_pos ⟨rfl, rfl⟩, if_pos (by decide), c_f100 h1 he]
theorem c_f34 {N : MM} {e : Nat} (h0 : Sh N) (he : e < 8) : f_X9_readErrand_34 5 1 (nI e) (-1) (nI e) 8 N = some (0, sI (sI (sI N 8 e (-1)) 9 e (-1)) 10 e (-1)) := by
  have h1 : Sh (sI N 8 e (-1)) := h0
  unfold f_X9_readErrand_34 f_X9_readErrand_66
  rw [st_8 h0 _ he, b1_s, (R5 h1).2.2.2.1, b1_s, (R5 h1).2.2.1, b1_s, ld_8 h1 he, b1_s, show mI (sI N 8 e (-1)) 8 e = -1 from if_pos ⟨rfl, rfl⟩, if_pos (by decide), c_f67 h1 he]
def wK (c e a k : Nat) : Prop := (a = 1 ∧ k = 4) ∨ (c ≤ a ∧ a ≤ 12 ∧ k = e) ∨ (a = 5 ∧ k = 12)
theorem wK_m {c c' e : Nat} {M M' : MM} (f : Fr (wK c e) M M') (h : c' ≤ c) : Fr (wK c' e) M M' := f.mono (fun a k q => by unfold wK at *; omega)
theorem w14_K {c e : Nat} {M M' : MM} (f : Fr w14 M M') : Fr (wK c e) M M' := f.mono (fun a k q => by unfold w14 at q; unfold wK; omega)
theorem sK {c c' e : Nat} {v : Int32} (M : MM) (h : c ≤ c') (h2 : c' ≤ 12) : Fr (wK c e) M (sI M c' e v) := (Fr.rf (W := wK c e) M).sI (by unfold wK; omega)
section STC
variable {s : St} {T : Nat → Nat} {n l : Nat}
theorem tc_back {q : Nat} {N : MM} (h : TC s T n l q N) (hq : 1 ≤ q) : f_X10_stepBack 1 N = some (sI N 1 4 (nI (q - 1))) := by
  obtain ⟨b1', b2', b3', b4'⟩ := h.2.2.2.2.2
  unfold f_X10_stepBack f_X10_stepBack_0
  rw [if_pos (tc_O h), gI_k 4 (tc_O h), b1_s, b1_s, h.2.2.2.1, if_neg (nI_nle (by omega) (by omega)), nS1 hq, pI_k 4 _ (tc_O h), b1_s]
/-- the end of an errand -/
theorem c_e100 {q e w la fr ti : Nat} {N : MM} (h : TC s T n l q N) (hq : 1 ≤ q) (he : e < 8) (heE : zE s ≤ e) (h9 : mI N 9 e = nI fr) (hfr : fr < 100) (hti : ti < 100) (h12 : mI N 5 12 = nI e) : ∃ N', f_X9_readErrand_100 5 1 (nI e) (nI ti) (nI e) 10 N = some (bI (erT T l q w la fr ti).1.isSome, N') ∧ TC s T n l (erT T l q w la fr ti).2 N' ∧ (∀ r, (erT T l q w la fr ti).1 = some r → mI N' 10 e = nI ti ∧ mI N' 11 e = nI (r 5) ∧ mI N' 12 e = nI (r 6) ∧ mI N' 5 12 = nI (e + 1)) ∧ Fr (wK 10 e) N N' ∧ mR N' = mR N := by
  obtain ⟨b1', b2', b3', b4'⟩ := h.2.2.2.2.2
  have c1 : TC s T n l q (sI N 10 e (nI ti)) := h.sS (by unfold wS; omega)
  have s0 := h.1.1
  have s1 := c1.1.1
  have f1 : Fr (wK 10 e) N (sI N 10 e (nI ti)) := sK N (by omega) (by omega)
  have h9' : mI (sI N 10 e (nI ti)) 9 e = nI fr := by rw [mI_w, if_neg (by omega)]; exact h9
  unfold f_X9_readErrand_100
  rw [st_10 s0 _ he, b1_s, (R5 s1).2.2.2.2.1, b1_s, ld_10 s1 he, b1_s, show mI (sI N 10 e (nI ti)) 10 e = nI ti from if_pos ⟨rfl, rfl⟩, if_pos (nI_pos' (by omega)), b1_s, ld_10 s1 he, b1_s, (R5 s1).2.2.2.1, b1_s, ld_9 s1 he, b1_s, show mI (sI N 10 e (nI ti)) 10 e = nI ti from if_pos ⟨rfl, rfl⟩, h9']
  by_cases hc : ti < fr
  · have et : erT T l q w la fr ti = (none, q - 1) := if_pos hc
    rw [et, if_neg (nI_ge hc (by omega)), tc_back c1 hq, b1_s, rz0]
    exact ⟨_, rfl, c1.mv (by omega), (fun r g => by cases g), f1.tr (w14_K (frmv _ _)), rfl⟩
  · have et : erT T l q w la fr ti = (some (rec6 w la fr ti (thV T l q) (b2n (tkB T l (thA T l q) 94))), adv (tkB T l (thA T l q) 94) (thA T l q)) := if_neg hc
    rw [et, if_pos (nI_le (by omega) (by omega)), (R5 s1).2.2.2.2.2.1, b1_s]
    have fin : ∀ (N2 : MM), TC s T n l (thA T l q) N2 → Fr w14 (sI N 10 e (nI ti)) N2 → mR N2 = mR N → ∃ N', f_X9_readErrand_165 5 1 (nI e) (nI (thV T l q)) (nI e) 11 N2 = some (bI true, N') ∧ TC s T n l (adv (tkB T l (thA T l q) 94) (thA T l q)) N' ∧ (mI N' 10 e = nI ti ∧ mI N' 11 e = nI (thV T l q) ∧ mI N' 12 e = nI (b2n (tkB T l (thA T l q) 94)) ∧ mI N' 5 12 = nI (e + 1)) ∧ Fr (wK 10 e) N N' ∧ mR N' = mR N := by
      intro N2 c2 f2 r2
      have c3 : TC s T n l (thA T l q) (sI N2 11 e (nI (thV T l q))) := c2.sS (by unfold wS; omega)
      obtain ⟨N4, e4, c4, f4, r4⟩ := tc_take c3 (c := 94) (by decide)
      have c5 : TC s T n l (adv (tkB T l (thA T l q) 94) (thA T l q)) (sI N4 12 e (bI (tkB T l (thA T l q) 94))) := c4.sS (by unfold wS; omega)
      have h12' : mI (sI N4 12 e (bI (tkB T l (thA T l q) 94))) 5 12 = nI e := by
        rw [mI_w, if_neg (by omega), f4.2.2.1 5 12 (by unfold w14; omega), mI_w, if_neg (by omega), f2.2.2.1 5 12 (by unfold w14; omega), mI_w, if_neg (by omega)]
        exact h12
      refine ⟨sI (sI N4 12 e (bI (tkB T l (thA T l q) 94))) 5 12 (nI (e + 1)), ?_, c5.sS (by unfold wS; omega), ⟨?_, ?_, ?_, ?_⟩, ((((f1.tr (w14_K f2)).tr (sK N2 (by omega) (by omega))).tr (w14_K f4)).tr (sK N4 (by omega) (by omega))).sI (by unfold wK; omega), r4.trans r2⟩
      · unfold f_X9_readErrand_165
        rw [st_11 c2.1.1 _ he, b1_s, (R5 c3.1.1).2.2.2.2.2.2, b1_s, show (94 : Int32) = nI 94 from rfl, e4, b2_s, st_12 c4.1.1 _ he, b1_s, nz_b, gI_k 12 (O5 c5.1.1), b1_s, h12', nI_1, pI_k 12 _ (O5 c5.1.1), b1_s, rz1]
        rfl
      · rw [mI_w, if_neg (by omega), mI_w, if_neg (by omega), f4.2.2.1 10 e (by unfold w14; omega), mI_w, if_neg (by omega), f2.2.2.1 10 e (by unfold w14; omega), mI_w, if_pos ⟨rfl, rfl⟩]
      · rw [mI_w, if_neg (by omega), mI_w, if_neg (by omega), f4.2.2.1 11 e (by unfold w14; omega), mI_w, if_pos ⟨rfl, rfl⟩]
      · rw [mI_w, if_neg (by omega), mI_w, if_pos ⟨rfl, rfl⟩, bI_b2n]
      · rw [mI_w, if_pos ⟨rfl, rfl⟩]
    have fin' : ∀ (v : Int32) (N2 : MM), v = nI (thV T l q) → TC s T n l (thA T l q) N2 → Fr w14 (sI N 10 e (nI ti)) N2 → mR N2 = mR N → ∃ N', f_X9_readErrand_165 5 1 (nI e) v (nI e) 11 N2 = some (bI (some (rec6 w la fr ti (thV T l q) (b2n (tkB T l (thA T l q) 94)))).isSome, N') ∧ TC s T n l (adv (tkB T l (thA T l q) 94) (thA T l q)) N' ∧ (∀ r, some (rec6 w la fr ti (thV T l q) (b2n (tkB T l (thA T l q) 94))) = some r → mI N' 10 e = nI ti ∧ mI N' 11 e = nI (r 5) ∧ mI N' 12 e = nI (r 6) ∧ mI N' 5 12 = nI (e + 1)) ∧ Fr (wK 10 e) N N' ∧ mR N' = mR N := by
      intro v N2 hv c2 f2 r2
      subst hv
      obtain ⟨N', k1, k2, k3, k4, k5⟩ := fin N2 c2 f2 r2
      exact ⟨N', k1, k2, (fun r g => by cases g; exact k3), k4, k5⟩
    obtain ⟨N2, e2, c2, f2, r2⟩ := tc_take c1 (c := 43) (by decide)
    rw [show (43 : Int32) = nI 43 from rfl, e2, b2_s]
    cases h43 : tkB T l q 43 with
    | true =>
      have h43' := of_decide_eq_true h43
      have hx : ixP1 T l q 3 = some 0 := by
        unfold ixP1
        rw [if_pos h43'.1, h43'.2]
        rfl
      have eA : thA T l q = q + 1 := by unfold thA; rw [hx]; rfl
      have eV : thV T l q = 1 := by unfold thV; rw [hx]
      rw [h43] at c2
      rw [if_neg (show ¬ bI true = 0 by decide)]
      exact fin' 1 N2 (by rw [eV]; rfl) (by rw [eA]; exact c2) f2 r2
    | false =>
      rw [h43] at c2
      have c2' : TC s T n l q N2 := c2
      obtain ⟨N3, e3, c3, f3, r3⟩ := tc_take c2' (c := 42) (by decide)
      rw [if_pos (show bI false = 0 from rfl), show (42 : Int32) = nI 42 from rfl, e3, b2_s]
      cases h42 : tkB T l q 42 with
      | true =>
        have h42' := of_decide_eq_true h42
        have hx : ixP1 T l q 3 = some 1 := by
          unfold ixP1
          rw [if_pos h42'.1, h42'.2]
          rfl
        have eA : thA T l q = q + 1 := by unfold thA; rw [hx]; rfl
        have eV : thV T l q = 2 := by unfold thV; rw [hx]
        rw [h42] at c3
        rw [if_neg (show ¬ bI true = 0 by decide)]
        exact fin' 2 N3 (by rw [eV]; rfl) (by rw [eA]; exact c3) (f2.tr f3) (r3.trans r2)
      | false =>
        have hx : ixP1 T l q 3 = none := by
          unfold ixP1
          by_cases hl : q < l
          · rw [if_pos hl, ix3s _ (b4' q hl), if_neg (fun g => of_decide_eq_false h43 ⟨hl, g⟩), if_neg (fun g => of_decide_eq_false h42 ⟨hl, g⟩)]
          · rw [if_neg hl]
        have eA : thA T l q = q := by unfold thA; rw [hx]; rfl
        have eV : thV T l q = 0 := by unfold thV; rw [hx]
        rw [h42] at c3
        rw [if_pos (show bI false = 0 from rfl)]
        exact fin' 0 N3 (by rw [eV]; rfl) (by rw [eA]; exact c3) (f2.tr f3) (r3.trans r2)
def CE (N : MM) (e : Nat) (r : Nat → Nat) : Prop := mI N 7 e = nI (r 1) ∧ mI N 8 e = nI (r 2) ∧ mI N 9 e = nI (r 3) ∧ mI N 10 e = nI (r 4) ∧ mI N 11 e = nI (r 5) ∧ mI N 12 e = nI (r 6)
theorem erT_r {q w la fr ti : Nat} {r : Nat → Nat} (h : (erT T l q w la fr ti).1 = some r) : r 1 = w ∧ r 2 = la ∧ r 3 = fr ∧ r 4 = ti := by
  unfold erT at h
  by_cases hc : ti < fr
  · rw [if_pos hc] at h; cases h
  · rw [if_neg hc] at h; cases h; exact ⟨rfl, rfl, rfl, rfl⟩
theorem c_errand {a e : Nat} {N : MM} (h : TC s T n l a N) (he : e < 8) (heE : zE s ≤ e) (h12 : mI N 5 12 = nI e) : ∃ N', f_X9_readErrand 5 1 (nI e) N = some (bI (erO T l a).1.isSome, N') ∧ TC s T n l (erO T l a).2 N' ∧ (∀ r, (erO T l a).1 = some r → CE N' e r ∧ mI N' 5 12 = nI (e + 1)) ∧ Fr (wK 7 e) N N' ∧ mR N' = mR N := by
  have s0 := h.1.1
  obtain ⟨b1', b2', b3', b4'⟩ := h.2.2.2.2.2
  obtain ⟨N1, e1, c1, f1, r1⟩ := tc_digit h (lo := 0) (by decide)
  have e1 : f_X10_digit 1 0 N = some (enO (-1) (dgO T l a 0 9), N1) := e1
  unfold f_X9_readErrand f_X9_readErrand_0 erO
  rw [if_pos (O5 s0), (R5 s0).2.1, b1_s, e1, b2_s, st_7 c1.1.1 _ he, b1_s]
  cases hw : dgO T l a 0 9 with
  | none =>
    rw [dg_n hw] at c1
    have c2 : TC s T n l a (sI N1 7 e (-1)) := c1.sS (by unfold wS; omega)
    have s2 := c2.1.1
    rw [show enO (-1) (none : Option Nat) = -1 from rfl, (R5 s2).2.2.1, b1_s, (R5 s2).2.1, b1_s, ld_7 s2 he, b1_s, show mI (sI N1 7 e (-1)) 7 e = -1 from if_pos ⟨rfl, rfl⟩, if_neg (by decide), c_f34 s2 he]
    exact ⟨_, rfl, ((c2.sS (by unfold wS; omega)).sS (by unfold wS; omega)).sS (by unfold wS; omega), (fun r g => by cases g), ((((w14_K f1).tr (sK N1 (by omega) (by omega))).tr (sK _ (by omega) (by omega))).tr (sK _ (by omega) (by omega))).tr (sK _ (by omega) (by omega)), r1⟩
  | some w =>
    have hwb := dg_b hw
    rw [hwb.2.2.2] at c1
    have c2 : TC s T n l (a + 1) (sI N1 7 e (nI w)) := c1.sS (by unfold wS; omega)
    have s2 := c2.1.1
    have fr2 : Fr (wK 7 e) N (sI N1 7 e (nI w)) := (w14_K f1).tr (sK N1 (by omega) (by omega))
    obtain ⟨N3, e3, c3, f3, r3⟩ := tc_digit c2 (lo := 1) (by decide)
    have e3 : f_X10_digit 1 1 (sI N1 7 e (nI w)) = some (enO (-1) (dgO T l (a + 1) 1 9), N3) := e3
    have fr3 : Fr (wK 7 e) N N3 := fr2.tr (w14_K f3)
    rw [show enO (-1) (some w) = nI w from rfl, (R5 s2).2.2.1, b1_s, (R5 s2).2.1, b1_s, ld_7 s2 he, b1_s, show mI (sI N1 7 e (nI w)) 7 e = nI w from if_pos ⟨rfl, rfl⟩, if_pos (nI_pos' (by omega)), e3, b2_s]
    dsimp only
    unfold er1
    cases hla : dgO T l (a + 1) 1 9 with
    | none =>
      rw [dg_n hla] at c3
      rw [show enO (-1) (none : Option Nat) = -1 from rfl, c_f34 c3.1.1 he]
      exact ⟨_, rfl, ((c3.sS (by unfold wS; omega)).sS (by unfold wS; omega)).sS (by unfold wS; omega), (fun r g => by cases g), ((fr3.tr (sK _ (by omega) (by omega))).tr (sK _ (by omega) (by omega))).tr (sK _ (by omega) (by omega)), r3.trans r1⟩
    | some la =>
      have hlb := dg_b hla
      rw [hlb.2.2.2] at c3
      have c4 : TC s T n l (a + 1 + 1) (sI N3 8 e (nI la)) := c3.sS (by unfold wS; omega)
      have s4 := c4.1.1
      have g3 : Fr (wK 8 e) (sI N1 7 e (nI w)) (sI N3 8 e (nI la)) := (w14_K f3).tr (sK N3 (by omega) (by omega))
      have fr4 : Fr (wK 7 e) N (sI N3 8 e (nI la)) := fr3.tr (sK N3 (by omega) (by omega))
      obtain ⟨N5, e5, c5, f5, r5⟩ := tc_take c4 (c := 64) (by decide)
      have fr5 : Fr (wK 7 e) N N5 := fr4.tr (w14_K f5)
      rw [show enO (-1) (some la) = nI la from rfl]
      dsimp only
      unfold f_X9_readErrand_34 f_X9_readErrand_66 er2
      rw [st_8 c3.1.1 _ he, b1_s, (R5 s4).2.2.2.1, b1_s, (R5 s4).2.2.1, b1_s, ld_8 s4 he, b1_s, show mI (sI N3 8 e (nI la)) 8 e = nI la from if_pos ⟨rfl, rfl⟩, if_neg (nI_pos (by omega)), show (64 : Int32) = nI 64 from rfl, e5, b2_s]
      cases htk : tkB T l (a + 1 + 1) 64 with
      | false =>
        rw [htk] at c5
        rw [if_pos (show bI false = 0 from rfl), if_neg (by decide), c_f67 c5.1.1 he]
        exact ⟨_, rfl, (c5.sS (by unfold wS; omega)).sS (by unfold wS; omega), (fun r g => by cases g), (fr5.tr (sK _ (by omega) (by omega))).tr (sK _ (by omega) (by omega)), r5.trans (r3.trans r1)⟩
      | true =>
        rw [htk] at c5
        have htk' := (of_decide_eq_true htk).1
        have c5' : TC s T n l (a + 1 + 1 + 1) N5 := c5
        obtain ⟨N6, e6, c6, f6, r6⟩ := tc_num c5' (k := 2) (by decide) (by decide)
        have fr6 : Fr (wK 7 e) N N6 := fr5.tr (w14_K f6)
        rw [if_neg (show ¬ bI true = 0 by decide), if_pos rfl, show (2 : Int32) = nI 2 from rfl, e6, b2_s]
        cases hfr : nmO T l (a + 1 + 1 + 1) 2 with
        | none =>
          rw [nm_none hfr] at c6
          rw [show enO (-1) (none : Option Nat) = -1 from rfl, c_f67 c6.1.1 he]
          exact ⟨_, rfl, (c6.sS (by unfold wS; omega)).sS (by unfold wS; omega), (fun r g => by cases g), (fr6.tr (sK _ (by omega) (by omega))).tr (sK _ (by omega) (by omega)), r6.trans (r5.trans (r3.trans r1))⟩
        | some fr =>
          have hfb : fr < 100 := nmO_b (by omega) hfr
          have hg6 : a + 1 + 1 + 1 < l ∧ a + 1 + 1 + 1 + 1 ≤ nmA T l (a + 1 + 1 + 1) 2 := nmA_gt (k := 1) (show a + 1 + 1 + 1 ≤ l by omega) hfr
          have c7 : TC s T n l (nmA T l (a + 1 + 1 + 1) 2) (sI N6 9 e (nI fr)) := c6.sS (by unfold wS; omega)
          have s7 := c7.1.1
          have g5 : Fr (wK 9 e) (sI N3 8 e (nI la)) (sI N6 9 e (nI fr)) := ((w14_K f5).tr (w14_K f6)).tr (sK N6 (by omega) (by omega))
          have fr7 : Fr (wK 7 e) N (sI N6 9 e (nI fr)) := fr6.tr (sK N6 (by omega) (by omega))
          obtain ⟨N8, e8, c8, f8, r8⟩ := tc_take c7 (c := 45) (by decide)
          have fr8 : Fr (wK 7 e) N N8 := fr7.tr (w14_K f8)
          rw [show enO (-1) (some fr) = nI fr from rfl]
          dsimp only
          unfold f_X9_readErrand_67 f_X9_readErrand_99 er3
          rw [st_9 c6.1.1 _ he, b1_s, (R5 s7).2.2.2.2.1, b1_s, (R5 s7).2.2.2.1, b1_s, ld_9 s7 he, b1_s, show mI (sI N6 9 e (nI fr)) 9 e = nI fr from if_pos ⟨rfl, rfl⟩, if_neg (nI_pos (by omega)), show (45 : Int32) = nI 45 from rfl, e8, b2_s]
          cases htk2 : tkB T l (nmA T l (a + 1 + 1 + 1) 2) 45 with
          | false =>
            rw [htk2] at c8
            rw [if_pos (show bI false = 0 from rfl), if_neg (by decide), c_f100 c8.1.1 he]
            exact ⟨_, rfl, c8.sS (by unfold wS; omega), (fun r g => by cases g), fr8.tr (sK _ (by omega) (by omega)), r8.trans (r6.trans (r5.trans (r3.trans r1)))⟩
          | true =>
            rw [htk2] at c8
            have htk2' := (of_decide_eq_true htk2).1
            have c8' : TC s T n l (nmA T l (a + 1 + 1 + 1) 2 + 1) N8 := c8
            obtain ⟨N9, e9, c9, f9, r9⟩ := tc_num c8' (k := 2) (by decide) (by decide)
            have fr9 : Fr (wK 7 e) N N9 := fr8.tr (w14_K f9)
            rw [if_neg (show ¬ bI true = 0 by decide), if_pos rfl, show (2 : Int32) = nI 2 from rfl, e9, b2_s]
            cases hti : nmO T l (nmA T l (a + 1 + 1 + 1) 2 + 1) 2 with
            | none =>
              rw [nm_none hti] at c9
              rw [show enO (-1) (none : Option Nat) = -1 from rfl, c_f100 c9.1.1 he]
              exact ⟨_, rfl, c9.sS (by unfold wS; omega), (fun r g => by cases g), fr9.tr (sK _ (by omega) (by omega)), r9.trans (r8.trans (r6.trans (r5.trans (r3.trans r1))))⟩
            | some ti =>
              have htb : ti < 100 := nmO_b (by omega) hti
              have hg9 : nmA T l (a + 1 + 1 + 1) 2 + 1 < l ∧ nmA T l (a + 1 + 1 + 1) 2 + 1 + 1 ≤ nmA T l (nmA T l (a + 1 + 1 + 1) 2 + 1) 2 := nmA_gt (k := 1) (show nmA T l (a + 1 + 1 + 1) 2 + 1 ≤ l by omega) hti
              have g8 : Fr (wK 10 e) (sI N6 9 e (nI fr)) N9 := (w14_K f8).tr (w14_K f9)
              have h9 : mI N9 9 e = nI fr := (g8.2.2.1 9 e (by unfold wK; omega)).trans (if_pos ⟨rfl, rfl⟩)
              have h12' : mI N9 5 12 = nI e := by
                rw [f9.2.2.1 5 12 (by unfold w14; omega), f8.2.2.1 5 12 (by unfold w14; omega), mI_w, if_neg (by omega), f6.2.2.1 5 12 (by unfold w14; omega), f5.2.2.1 5 12 (by unfold w14; omega), mI_w, if_neg (by omega), f3.2.2.1 5 12 (by unfold w14; omega), mI_w, if_neg (by omega), f1.2.2.1 5 12 (by unfold w14; omega)]
                exact h12
              obtain ⟨N10, e10, c10, k10, f10, r10⟩ := c_e100 (w := w) (la := la) (ti := ti) c9 (by omega) he heE h9 hfb htb h12'
              rw [show enO (-1) (some ti) = nI ti from rfl, e10]
              dsimp only
              refine ⟨N10, rfl, c10, fun r hr => ?_, fr9.tr (wK_m f10 (by omega)), r10.trans (r9.trans (r8.trans (r6.trans (r5.trans (r3.trans r1)))))⟩
              obtain ⟨k1, k2, k3, k4⟩ := k10 r hr
              obtain ⟨q1, q2, q3, q4⟩ := erT_r hr
              have G9 : Fr (wK 10 e) (sI N6 9 e (nI fr)) N10 := g8.tr f10
              have G8 : Fr (wK 9 e) (sI N3 8 e (nI la)) N10 := g5.tr (wK_m G9 (by omega))
              have G7 : Fr (wK 8 e) (sI N1 7 e (nI w)) N10 := g3.tr (wK_m G8 (by omega))
              refine ⟨⟨?_, ?_, ?_, by rw [q4]; exact k1, k2, k3⟩, k4⟩
              · rw [G7.2.2.1 7 e (by unfold wK; omega), mI_w, if_pos ⟨rfl, rfl⟩, q1]
              · rw [G8.2.2.1 8 e (by unfold wK; omega), mI_w, if_pos ⟨rfl, rfl⟩, q2]
              · rw [G9.2.2.1 9 e (by unfold wK; omega), mI_w, if_pos ⟨rfl, rfl⟩, q3]
end STC

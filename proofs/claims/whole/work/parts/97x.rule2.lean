/-! the rule: the reference -/
def wRv (a k : Nat) : Prop := (a = 143 ∧ (k = 19 ∨ k = 21 ∨ k = 30)) ∨ a = 160
def PRs (s : St) (T : Nat → Nat) (n l e : Nat) (g : MM → Option (Int32 × MM)) (p : Rs) (a : Nat) : Prop := ∀ (N : MM) (d : Nat), TR s T n l a N → mI N 143 30 = nI d → mI N 143 21 = nI (4 - e) → d ≤ a → ∃ N' d', g N = some (bI p.1.isSome, N') ∧ TR s T n l p.2 N' ∧ mI N' 143 30 = nI d' ∧ d ≤ d' ∧ d' + a ≤ d + p.2 ∧ (∀ k, k < d → mI N' 160 k = mI N 160 k) ∧ (∀ v, p.1 = some v → d < d' ∧ mI N' 143 21 = nI (4 - e) ∧ ∀ fc st, runR fc (mI N 160) d = some st → runR fc (mI N' 160) d' = some (v fc :: st)) ∧ Fr wRv N N' ∧ mR N' = mR N
theorem stR_neg (fc : Nat → Int32) (st : List Int32) : stepR fc 3000 st = stNeg st := by unfold stepR; rw [if_pos rfl]
theorem stR_num (fc : Nat → Int32) (st : List Int32) {v : Nat} (h : v < 1000) : stepR fc (nI v) st = some (nI v :: st) := by
  unfold stepR
  rw [if_neg (show ¬ nI v = 3000 by rw [show (3000 : Int32) = nI 3000 from rfl, nI_eq (by omega) (by omega)]; omega), if_pos (show nI v < 2000 from nI_lt (b := 2000) (by omega) (by omega)), if_pos (show nI v < 1000 from nI_lt (b := 1000) h (by omega))]
theorem fcr : ∀ i, i < 8 → (¬ (1000 + nI i : Int32) = 3000) ∧ (1000 + nI i : Int32) < 2000 ∧ (¬ (1000 + nI i : Int32) < 1000) ∧ ((1000 + nI i : Int32) < 1008) ∧ (1000 + nI i - 1000 : Int32).toNatClampNeg = i := by decide +kernel
theorem stR_fct (fc : Nat → Int32) (st : List Int32) {i : Nat} (h : i < 8) : stepR fc (1000 + nI i) st = some (fc i :: st) := by
  unfold stepR
  have t := fcr i h
  rw [if_neg t.1, if_pos t.2.1, if_neg t.2.2.1, if_pos t.2.2.2.1, t.2.2.2.2]
theorem opr_t : ∀ k, k < 7 → (¬ (nI (2000 + k) : Int32) = 3000) ∧ (¬ (nI (2000 + k) : Int32) < 2000) ∧ ((nI (2000 + k) : Int32) < 2007) ∧ (nI (2000 + k) - 2000 : Int32).toNatClampNeg = k := by decide +kernel
theorem stR_op (fc : Nat → Int32) (st : List Int32) {k : Nat} (h : k < 7) : stepR fc (nI (2000 + k)) st = stBin k st := by
  unfold stepR
  have t := opr_t k h
  rw [if_neg t.1, if_neg t.2.1, if_pos t.2.2.1, t.2.2.2]
def ofR (r : Nat) : Nat := if r = 0 then 0 else if r = 1 then 3 else 5
theorem opA_ix {T : Nat → Nat} {l r a : Nat} (hr : r < 3) : opA T l r a = (ixP1 T l a (4 + r)).map (fun i => i + ofR r) := by
  unfold opA ixP1
  by_cases h : a < l
  · rw [if_pos h, if_pos h]
    have h3 : r = 0 ∨ r = 1 ∨ r = 2 := by omega
    rcases h3 with e | e | e
    · subst e
      show ixS 4 (T a) = (ixS 4 (T a)).map (fun i => i + 0)
      cases ixS 4 (T a) <;> rfl
    · subst e; rfl
    · subst e; rfl
  · rw [if_neg h, if_neg h]; rfl
theorem ix_7 : ∀ r, r < 3 → (csK (4 + r)).length + ofR r ≤ 7 := by decide +kernel
section RUR
variable {s : St} {T : Nat → Nat} {n l : Nat}
theorem r_codes {a d : Nat} {N : MM} (h : TR s T n l a N) (hd : mI N 143 30 = nI d) (hlt : d < 80) (x : Int32) : ∃ N', f_X12_codes 143 x N = some N' ∧ TR s T n l a N' ∧ mI N' 143 30 = nI (d + 1) ∧ mI N' 143 21 = mI N 143 21 ∧ (∀ k, k < d → mI N' 160 k = mI N 160 k) ∧ (∀ fc st, runR fc (mI N 160) d = some st → runR fc (mI N' 160) (d + 1) = stepR fc x st) ∧ Fr wRv N N' ∧ mR N' = mR N := by
  have h0 := h.1.1
  have h1 : Sh (sI N 160 d x) := h0
  have ff : Fr (fun a k => (a = 143 ∧ k = 30) ∨ a = 160) N (sI (sI N 160 d x) 143 30 (nI (d + 1))) := ((Fr.rf (W := fun a k => (a = 143 ∧ k = 30) ∨ a = 160) N).sI (Or.inr rfl)).sI (Or.inl ⟨rfl, rfl⟩)
  refine ⟨sI (sI N 160 d x) 143 30 (nI (d + 1)), ?_, h.fr' ff rfl (fun a k q => by unfold wR; omega) (fun a k q => by omega), by rw [mI_w, if_pos ⟨rfl, rfl⟩], by rw [mI_w, if_neg (by omega), mI_w, if_neg (by omega)], fun k hk => by rw [mI_w, if_neg (by omega), mI_w, if_neg (by omega)], fun fc st g => ?_, ff.mono (fun a k q => by unfold wRv; omega), rfl⟩
  · unfold f_X12_codes f_X12_codes_0
    rw [if_pos (O143 h0), sh_R h0 (a := 143) (k := 28) (b := 160) 12 (by decide) rfl (by decide), b1_s, gI_k 30 (O143 h0), b1_s, hd, st_160 h0 _ hlt, b1_s, gI_k 30 (O143 h1), b1_s, mI_w, if_neg (by omega), hd, nI_1, pI_k 30 _ (O143 h1), b1_s]
  · rw [runR, runR_eq (d := mI N 160) (fun k hk => by rw [mI_w, if_neg (by omega), mI_w, if_neg (by omega)]), g]
    show stepR fc (mI (sI (sI N 160 d x) 143 30 (nI (d + 1))) 160 d) st = _
    rw [mI_w, if_neg (by omega), mI_w, if_pos ⟨rfl, rfl⟩]
theorem w19_wRv {M M' : MM} (f : Fr w19 M M') : Fr wRv M M' := f.mono (fun a k q => by unfold w19 at q; unfold wRv; omega)
theorem r_node {e : Nat} (he : e ≤ 4) (hl : l ≤ 40) (C : Option (Nat → Rs)) (h0 : e = 0 → C = none) (h1 : e ≠ 0 → ∃ p, C = some p ∧ ∀ a fu, a ≤ l → (l - a) + 5 * e ≤ fu → PRs s T n l (e - 1) (fun N => f_X12_nr fu (some 0) 143 N) (p a) a) : ∀ (f a fu : Nat), l < f + a → a ≤ l → 1 + (l - a) + 5 * e ≤ fu → PRs s T n l e (fun N => f_X12_nr fu none 143 N) (pNd T l (pBs T l C) f a) a
  | 0, a, fu, g1, g2, g3 => by omega
  | f + 1, a, fu, g1, g2, g3 => by
    intro N d h hd hne hda
    obtain ⟨b1', b2', b3', b4'⟩ := h.2.2.2.2
    cases fu with
    | zero => omega
    | succ fu =>
      show ∃ N' d', f_X12_nr (fu + 1) none 143 N = _ ∧ _
      rw [f_X12_nr, if_pos (O143 h.1.1)]
      unfold f_X12_readsNode_0
      obtain ⟨N1, e1, c1, f1, r1⟩ := tr_take h (c := 45) (by decide)
      have hd1 : mI N1 143 30 = nI d := (f1.2.2.1 143 30 (by unfold w19; omega)).trans hd
      have hn1 : mI N1 143 21 = nI (4 - e) := (f1.2.2.1 143 21 (by unfold w19; omega)).trans hne
      have pr1 : ∀ k, mI N1 160 k = mI N 160 k := fun k => f1.2.2.1 160 k (by unfold w19; omega)
      rw [show (45 : Int32) = nI 45 from rfl, e1, b2_s]
      cases htk : tkB T l a 45 with
      | true =>
        rw [htk] at c1
        have htk' := of_decide_eq_true htk
        have c1' : TR s T n l (a + 1) N1 := c1
        have ep : pNd T l (pBs T l C) (f + 1) a = sgP true (pNd T l (pBs T l C) f (a + 1)) := if_pos htk
        obtain ⟨N2, d2, e2, c2, hd2, l2, m2, p2, v2, f2, r2⟩ := r_node he hl C h0 h1 f (a + 1) fu (by omega) (by omega) (by omega) N1 d c1' hd1 hn1 (by omega)
        have e2 : f_X12_nr fu none 143 N1 = some (bI (pNd T l (pBs T l C) f (a + 1)).1.isSome, N2) := e2
        have hq := c2.2.2.2.2.2.2.1
        obtain ⟨N3, e3, c3, hd3, hn3, p3, q3, f3, r3⟩ := r_codes c2 hd2 (by omega) 3000
        rw [if_neg (show ¬ bI true = 0 by decide), e2, b2_s, e3, b1_s, rz_b, ep, sgP_s]
        refine ⟨N3, d2 + 1, rfl, c3, hd3, by omega, ?_, fun k hk => (p3 k (by omega)).trans ((p2 k hk).trans (pr1 k)), fun v hv => ?_, ((w19_wRv f1).tr f2).tr f3, r3.trans (r2.trans r1)⟩
        · show d2 + 1 + a ≤ d + (pNd T l (pBs T l C) f (a + 1)).2
          omega
        · cases hp : (pNd T l (pBs T l C) f (a + 1)).1 with
          | none =>
            have hv : ((pNd T l (pBs T l C) f (a + 1)).1.map (sgV true)) = some v := hv
            rw [hp] at hv
            cases hv
          | some u =>
            have hv : ((pNd T l (pBs T l C) f (a + 1)).1.map (sgV true)) = some v := hv
            rw [hp] at hv
            cases hv
            have v2' := v2 u hp
            refine ⟨by omega, hn3.trans v2'.2.1, fun fc st g => ?_⟩
            rw [q3 fc _ (v2'.2.2 fc st (by rw [runR_eq (d := mI N 160) (fun k _ => pr1 k)]; exact g)), stR_neg]
            rfl
      | false =>
        rw [htk] at c1
        have c1' : TR s T n l a N1 := c1
        have ep : pNd T l (pBs T l C) (f + 1) a = pBs T l C a := if_neg (by rw [htk]; decide)
        rw [ep, if_pos (show bI false = 0 from rfl), tr_isd c1', b2_s]
        cases hv : nmO T l a 3 with
        | some v =>
          have hdb : dB T l a = true := by
            unfold nmO at hv
            by_cases g : dB T l a = true
            · exact g
            · rw [if_neg g] at hv; cases hv
          have hg : a < l ∧ a + 1 ≤ nmA T l a 3 := nmA_gt b3' hv
          have hvb : v < 1000 := nmO_b b3' hv
          obtain ⟨N2, e2, c2, f2, r2⟩ := tr_num c1' (k := 3) (by decide) (by decide)
          rw [hv] at e2
          have e2 : f_X12_number 143 3 N1 = some (nI v, N2) := e2
          obtain ⟨N3, e3, c3, hd3, hn3, p3, q3, f3, r3⟩ := r_codes c2 ((f2.2.2.1 143 30 (by unfold w19; omega)).trans hd1) (by omega) (nI v)
          have pr2 : ∀ k, mI N2 160 k = mI N 160 k := fun k => (f2.2.2.1 160 k (by unfold w19; omega)).trans (pr1 k)
          rw [hdb, if_neg (show ¬ bI true = 0 by decide), e2, b2_s, e3, b1_s, pBs_1 hv]
          refine ⟨N3, d + 1, rz1 N3, c3, hd3, by omega, ?_, fun k hk => (p3 k hk).trans (pr2 k), fun w hw => ?_, ((w19_wRv f1).tr (w19_wRv f2)).tr f3, r3.trans (r2.trans r1)⟩
          · show d + 1 + a ≤ d + nmA T l a 3
            omega
          · have hw : some (fun _ => nI v) = some w := hw
            cases hw
            refine ⟨by omega, hn3.trans ((f2.2.2.1 143 21 (by unfold w19; omega)).trans hn1), fun fc st g => ?_⟩
            rw [q3 fc st (by rw [runR_eq (d := mI N 160) (fun k _ => pr2 k)]; exact g), stR_num fc st hvb]
        | none =>
          have hdb : dB T l a = false := by
            unfold nmO at hv
            cases g : dB T l a with
            | false => rfl
            | true => rw [g, if_pos rfl] at hv; cases hv
          obtain ⟨N2, e2, c2, f2, r2⟩ := r_tkOf c1' (k := 0) (by decide)
          have e2 : f_X12_takesOf 143 (sB + 0) N1 = some (enO (-1) (ixP1 T l a 0), N2) := e2
          have hd2 : mI N2 143 30 = nI d := (f2.2.2.1 143 30 (by unfold w19; omega)).trans hd1
          have hn2 : mI N2 143 21 = nI (4 - e) := (f2.2.2.1 143 21 (by unfold w19; omega)).trans hn1
          have pr2 : ∀ k, mI N2 160 k = mI N 160 k := fun k => (f2.2.2.1 160 k (by unfold w19; omega)).trans (pr1 k)
          have fr2 : Fr wRv N N2 := (w19_wRv f1).tr (w19_wRv f2)
          rw [hdb, if_pos (show bI false = 0 from rfl), e2, b2_s]
          cases hi : ixP1 T l a 0 with
          | some i =>
            rw [hi] at c2
            have hib := ixP_b (by decide) hi
            have c2' : TR s T n l (a + 1) N2 := c2
            obtain ⟨N3, e3, c3, hd3, hn3, p3, q3, f3, r3⟩ := r_codes c2' hd2 (by omega) (1000 + nI i)
            rw [pBs_2 hv hi]
            show ∃ N' d', (if nI i < 0 then _ else b1 (f_X12_codes 143 (1000 + nI i) N2) _) = _ ∧ _
            rw [if_neg (nI_pos (by omega)), e3, b1_s]
            refine ⟨N3, d + 1, rz1 N3, c3, hd3, by omega, by show d + 1 + a ≤ d + (a + 1); omega, fun k hk => (p3 k hk).trans (pr2 k), fun w hw => ?_, fr2.tr f3, r3.trans (r2.trans r1)⟩
            have hw : some (fun fc => fc i) = some w := hw
            cases hw
            refine ⟨by omega, hn3.trans hn2, fun fc st g => ?_⟩
            rw [q3 fc st (by rw [runR_eq (d := mI N 160) (fun k _ => pr2 k)]; exact g), stR_fct fc st hib.2]
          | none =>
            rw [hi] at c2
            have c2' : TR s T n l a N2 := c2
            show ∃ N' d', (if (-1 : Int32) < 0 then _ else _) = _ ∧ _
            rw [if_pos (by decide), gI_k 21 (tr_O c2'), b1_s, hn2]
            by_cases hez : e = 0
            · rw [if_pos (show nI (4 - e) = 4 by rw [hez]; rfl), h0 hez, pBs_3 hv hi]
              exact ⟨N2, d, rz0 N2, c2', hd2, Nat.le_refl _, Nat.le_refl _, fun k _ => pr2 k, (fun w hw => by have hw : (none : Option Va) = some w := hw; cases hw), fr2, r2.trans r1⟩
            · obtain ⟨p, hC, hPp⟩ := h1 hez
              obtain ⟨N3, e3, c3, f3, r3⟩ := tr_take c2' (c := 40) (by decide)
              have hd3 : mI N3 143 30 = nI d := (f3.2.2.1 143 30 (by unfold w19; omega)).trans hd2
              have hn3 : mI N3 143 21 = nI (4 - e) := (f3.2.2.1 143 21 (by unfold w19; omega)).trans hn2
              have pr3 : ∀ k, mI N3 160 k = mI N 160 k := fun k => (f3.2.2.1 160 k (by unfold w19; omega)).trans (pr2 k)
              have fr3 : Fr wRv N N3 := fr2.tr (w19_wRv f3)
              rw [if_neg (show ¬ nI (4 - e) = 4 by rw [show (4 : Int32) = nI 4 from rfl, nI_eq (by omega) (by omega)]; omega), show (40 : Int32) = nI 40 from rfl, e3, b2_s, hC]
              cases htk2 : tkB T l a 40 with
              | false =>
                rw [htk2] at c3
                rw [if_pos (show bI false = 0 from rfl), pBs_5 hv hi htk2]
                exact ⟨N3, d, rz0 N3, c3, hd3, Nat.le_refl _, Nat.le_refl _, fun k _ => pr3 k, (fun w hw => by have hw : (none : Option Va) = some w := hw; cases hw), fr3, r3.trans (r2.trans r1)⟩
              | true =>
                have htk' := of_decide_eq_true htk2
                rw [htk2] at c3
                have c3' : TR s T n l (a + 1) N3 := c3
                have ff : Fr (fun a k => a = 143 ∧ k = 21) N3 (sI N3 143 21 (nI (4 - e + 1))) := (Fr.rf (W := fun a k => a = 143 ∧ k = 21) N3).sI ⟨rfl, rfl⟩
                have c4 : TR s T n l (a + 1) (sI N3 143 21 (nI (4 - e + 1))) := c3'.fr' ff rfl (fun a k q => by unfold wR; omega) (fun a k q => by omega)
                have pr4 : ∀ k, mI (sI N3 143 21 (nI (4 - e + 1))) 160 k = mI N 160 k := fun k => by rw [mI_w, if_neg (by omega)]; exact pr3 k
                have fr4 : Fr wRv N (sI N3 143 21 (nI (4 - e + 1))) := fr3.tr (ff.mono (fun a k q => by unfold wRv; omega))
                obtain ⟨N5, d5, e5, c5, hd5, l5, m5, p5, v5, f5, r5⟩ := hPp (a + 1) fu (by omega) (by omega) _ d c4 (by rw [mI_w, if_neg (by omega)]; exact hd3) (by rw [mI_w, if_pos ⟨rfl, rfl⟩, show 4 - (e - 1) = 4 - e + 1 by omega]) (by omega)
                have e5 : f_X12_nr fu (some 0) 143 (sI N3 143 21 (nI (4 - e + 1))) = some (bI (p (a + 1)).1.isSome, N5) := e5
                have fr5 : Fr wRv N N5 := fr4.tr f5
                rw [if_neg (show ¬ bI true = 0 by decide), gI_k 21 (tr_O c3'), b1_s, hn3, nI_1, pI_k 21 _ (tr_O c3'), b1_s]
                show ∃ N' d', b2 (f_X12_nr fu (some 0) 143 (sI N3 143 21 (nI (4 - e + 1)))) _ = _ ∧ _
                rw [e5, b2_s]
                cases hpa : p (a + 1) with
                | mk o a2 =>
                  rw [hpa] at c5 m5 v5
                  have c5' : TR s T n l a2 N5 := c5
                  have m5' : d5 + (a + 1) ≤ d + a2 := m5
                  have pr5 : ∀ k, k < d → mI N5 160 k = mI N 160 k := fun k hk => (p5 k hk).trans (pr4 k)
                  cases o with
                  | none =>
                    rw [if_pos (show bI (none : Option Va).isSome = 0 from rfl), pBs_6 hv hi htk2 hpa]
                    exact ⟨N5, d5, rz0 N5, c5', hd5, l5, by show d5 + a ≤ d + a2; omega, pr5, (fun w hw => by have hw : (none : Option Va) = some w := hw; cases hw), fr5, r5.trans (r3.trans (r2.trans r1))⟩
                  | some v =>
                    have v5' := v5 v rfl
                    have hp := pBs_7 hv hi htk2 hpa
                    obtain ⟨N6, e6, c6, f6, r6⟩ := tr_take c5' (c := 41) (by decide)
                    have hd6 : mI N6 143 30 = nI d5 := (f6.2.2.1 143 30 (by unfold w19; omega)).trans hd5
                    have hn6 : mI N6 143 21 = nI (4 - (e - 1)) := (f6.2.2.1 143 21 (by unfold w19; omega)).trans v5'.2.1
                    have pr6 : ∀ k, mI N6 160 k = mI N5 160 k := fun k => f6.2.2.1 160 k (by unfold w19; omega)
                    have fr6 : Fr wRv N N6 := fr5.tr (w19_wRv f6)
                    rw [if_neg (show ¬ bI (some v).isSome = 0 from by show ¬ bI true = 0; decide), show (41 : Int32) = nI 41 from rfl, e6, b2_s, hp]
                    cases htk3 : tkB T l a2 41 with
                    | false =>
                      rw [htk3] at c6
                      rw [if_pos (show bI false = 0 from rfl), if_neg (by decide)]
                      exact ⟨N6, d5, rz0 N6, c6, hd6, l5, by show d5 + a ≤ d + a2; omega, fun k hk => (pr6 k).trans (pr5 k hk), (fun w hw => by have hw : (none : Option Va) = some w := hw; cases hw), fr6, r6.trans (r5.trans (r3.trans (r2.trans r1)))⟩
                    | true =>
                      rw [htk3] at c6
                      have c6' : TR s T n l (a2 + 1) N6 := c6
                      have f7 : Fr (fun a k => a = 143 ∧ k = 21) N6 (sI N6 143 21 (nI (4 - e))) := (Fr.rf (W := fun a k => a = 143 ∧ k = 21) N6).sI ⟨rfl, rfl⟩
                      have c7 : TR s T n l (a2 + 1) (sI N6 143 21 (nI (4 - e))) := c6'.fr' f7 rfl (fun a k q => by unfold wR; omega) (fun a k q => by omega)
                      rw [if_neg (show ¬ bI true = 0 by decide), if_pos rfl, gI_k 21 (tr_O c6'), b1_s, hn6, nS1 (by omega), show 4 - (e - 1) - 1 = 4 - e by omega, pI_k 21 _ (tr_O c6'), b1_s]
                      refine ⟨sI N6 143 21 (nI (4 - e)), d5, rz1 _, c7, by rw [mI_w, if_neg (by omega)]; exact hd6, l5, by show d5 + a ≤ d + (a2 + 1); omega, fun k hk => by rw [mI_w, if_neg (by omega)]; exact (pr6 k).trans (pr5 k hk), fun w hw => ?_, fr6.tr (f7.mono (fun a k q => by unfold wRv; omega)), r6.trans (r5.trans (r3.trans (r2.trans r1)))⟩
                      have hw : some v = some w := hw
                      cases hw
                      refine ⟨v5'.1, by rw [mI_w, if_pos ⟨rfl, rfl⟩], fun fc st g => ?_⟩
                      rw [runR_eq (d := mI N5 160) (fun k _ => by rw [mI_w, if_neg (by omega)]; exact pr6 k)]
                      exact v5'.2.2 fc st (by rw [runR_eq (d := mI N 160) (fun k _ => pr4 k)]; exact g)
theorem rr_24 {P0 : Nat → MM → Option (Int32 × MM)} {P1 : Nat → Int32 → MM → Option (Int32 × MM)} {fu r : Nat} {N : MM} (hr : r < 3) : f_X12_readsRank_24 P0 P1 (fu + 1) 143 (nI r) 1 N = f_X12_readsRank_53 P0 P1 (f_X12_readsRank_24 P0 P1 fu) 143 (nI r) (sB + (4 + r)) 143 N := by
  rw [f_X12_readsRank_24, if_neg (by decide)]
  have h3 : r = 0 ∨ r = 1 ∨ r = 2 := by omega
  rcases h3 with e | e | e
  · subst e; rw [if_pos (show nI 0 = 0 from rfl)]
  · subst e; rw [if_neg (by decide), if_pos (show nI 1 = 1 from rfl)]
  · subst e; rw [if_neg (by decide), if_neg (by decide)]
theorem rr_off {K : Int32 → Option (Int32 × MM)} {r : Nat} (hr : r < 3) : (if nI r = 0 then K 0 else if nI r = 1 then K 3 else K 5) = K (nI (ofR r)) := by
  have h3 : r = 0 ∨ r = 1 ∨ r = 2 := by omega
  rcases h3 with e | e | e
  · subst e; rw [if_pos (show nI 0 = 0 from rfl)]; rfl
  · subst e; rw [if_neg (by decide), if_pos (show nI 1 = 1 from rfl)]; rfl
  · subst e; rw [if_neg (by decide), if_neg (by decide)]; rfl
theorem r_lpR {e r : Nat} (hr : r < 3) (hl : l ≤ 40) (P0 : Nat → MM → Option (Int32 × MM)) (P1 : Nat → Int32 → MM → Option (Int32 × MM)) (E : Nat → Rs) (a0 : Nat) (hE : ∀ a, a0 ≤ a → a ≤ l → PRs s T n l e (fun N => P1 143 (nI (r + 1)) N) (E a) a) : ∀ (f a fu : Nat) (v : Va) (N : MM) (d : Nat), a0 ≤ a → a ≤ l → (r = 0 → f ≤ 1) → (r ≠ 0 → l < f + a) → (l - a) + 2 < fu → TR s T n l a N → mI N 143 30 = nI d → mI N 143 21 = nI (4 - e) → d ≤ a → ∃ N' d', f_X12_readsRank_24 P0 P1 fu 143 (nI r) (bI (decide (f ≠ 0))) N = some (bI (pLp T l r E f v a).1.isSome, N') ∧ TR s T n l (pLp T l r E f v a).2 N' ∧ mI N' 143 30 = nI d' ∧ d ≤ d' ∧ d' + a ≤ d + (pLp T l r E f v a).2 ∧ (∀ k, k < d → mI N' 160 k = mI N 160 k) ∧ (∀ w, (pLp T l r E f v a).1 = some w → mI N' 143 21 = nI (4 - e) ∧ ∀ fc st, runR fc (mI N 160) d = some (v fc :: st) → runR fc (mI N' 160) d' = some (w fc :: st)) ∧ Fr wRv N N' ∧ mR N' = mR N
  | 0, a, fu, v, N, d, ha0, ha, hf0, hf1, hfu, h, hd, hn, hda => by
    cases fu with
    | zero => omega
    | succ fu =>
      refine ⟨N, d, ?_, h, hd, Nat.le_refl _, Nat.le_refl _, fun _ _ => rfl, (fun w hw => by have hw : some v = some w := hw; cases hw; exact ⟨hn, fun fc st g => g⟩), Fr.rf N, rfl⟩
      show f_X12_readsRank_24 P0 P1 (fu + 1) 143 (nI r) 0 N = _
      rw [f_X12_readsRank_24, if_pos rfl, rz1]
      rfl
  | f + 1, a, fu, v, N, d, ha0, ha, hf0, hf1, hfu, h, hd, hn, hda => by
    obtain ⟨b1', b2', b3', b4'⟩ := h.2.2.2.2
    cases fu with
    | zero => omega
    | succ fu =>
      show ∃ N' d', f_X12_readsRank_24 P0 P1 (fu + 1) 143 (nI r) 1 N = _ ∧ _
      rw [rr_24 hr]
      unfold f_X12_readsRank_53
      obtain ⟨N1, e1, c1, f1, r1⟩ := r_tkOf h (k := 4 + r) (by omega)
      have hd1 : mI N1 143 30 = nI d := (f1.2.2.1 143 30 (by unfold w19; omega)).trans hd
      have hn1 : mI N1 143 21 = nI (4 - e) := (f1.2.2.1 143 21 (by unfold w19; omega)).trans hn
      have pr1 : ∀ k, mI N1 160 k = mI N 160 k := fun k => f1.2.2.1 160 k (by unfold w19; omega)
      rw [e1, b2_s]
      have ho := opA_ix (T := T) (l := l) (a := a) hr
      cases hx : ixP1 T l a (4 + r) with
      | none =>
        rw [hx] at ho c1
        rw [pLp_n ho]
        show ∃ N' d', (if (0 : Int32) ≤ -1 then _ else _) = _ ∧ _
        rw [if_neg (by decide)]
        exact ⟨N1, d, rz1 N1, c1, hd1, Nat.le_refl _, Nat.le_refl _, fun k _ => pr1 k, (fun w hw => by have hw : some v = some w := hw; cases hw; exact ⟨hn1, fun fc st g => by rw [runR_eq (d := mI N 160) (fun k _ => pr1 k)]; exact g⟩), w19_wRv f1, r1⟩
      | some i =>
        rw [hx] at ho c1
        have ho : opA T l r a = some (i + ofR r) := ho
        have hla := (ixP_b (by omega) hx).1
        have hi7 : i + ofR r < 7 := by
          have h7 := ix_7 r hr
          have hx' : ixO (csK (4 + r)) (T a) (csK (4 + r)).length 0 = some i := by rw [← hx]; exact (if_pos hla).symm
          have := ixO_b hx'
          omega
        have c1' : TR s T n l (a + 1) N1 := c1
        obtain ⟨N2, d2, e2, c2, hd2, l2, m2, p2, v2, f2, r2⟩ := hE (a + 1) (by omega) (by omega) N1 d c1' hd1 hn1 (by omega)
        have e2 : P1 143 (nI (r + 1)) N1 = some (bI (E (a + 1)).1.isSome, N2) := e2
        show ∃ N' d', (if (0 : Int32) ≤ nI i then _ else _) = _ ∧ _
        rw [if_pos (nI_pos' (by omega)), nI_1, e2, b2_s]
        cases hea : E (a + 1) with
        | mk o a2 =>
          rw [hea] at c2 m2 v2
          have c2' : TR s T n l a2 N2 := c2
          have m2' : d2 + (a + 1) ≤ d + a2 := m2
          have hq := c2'.2.2.2.2.2.2.1
          have pr2 : ∀ k, k < d → mI N2 160 k = mI N 160 k := fun k hk => (p2 k hk).trans (pr1 k)
          cases o with
          | none =>
            rw [if_pos (show bI (none : Option Va).isSome = 0 from rfl), pLp_f ho hea]
            exact ⟨N2, d2, rz0 N2, c2', hd2, l2, by show d2 + a ≤ d + a2; omega, pr2, (fun w hw => by have hw : (none : Option Va) = some w := hw; cases hw), (w19_wRv f1).tr f2, r2.trans r1⟩
          | some u =>
            have v2' := v2 u rfl
            obtain ⟨N3, e3, c3, hd3, hn3, p3, q3, f3, r3⟩ := r_codes c2' hd2 (by omega) (nI (2000 + (i + ofR r)))
            obtain ⟨N4, d4, e4, c4, hd4, l4, m4, p4, v4, f4, r4⟩ := r_lpR hr hl P0 P1 E a0 hE f a2 fu (fun fc => wrk (i + ofR r) (v fc) (u fc)) N3 (d2 + 1) (by omega) hq (fun g => by have := hf0 g; omega) (fun g => by have := hf1 g; omega) (by omega) c3 hd3 (hn3.trans v2'.2.1) (by omega)
            rw [if_neg (show ¬ bI (some u).isSome = 0 from by show ¬ bI true = 0; decide), pLp_t ho hea]
            have eo := rr_off (K := fun z => f_X12_readsRank_99 P0 P1 (f_X12_readsRank_24 P0 P1 fu) 143 (nI r) z (2000 + nI i) 143 N2) hr
            have eo : (if nI r = 0 then f_X12_readsRank_99 P0 P1 (f_X12_readsRank_24 P0 P1 fu) 143 (nI r) 0 (2000 + nI i) 143 N2 else if nI r = 1 then f_X12_readsRank_99 P0 P1 (f_X12_readsRank_24 P0 P1 fu) 143 (nI r) 3 (2000 + nI i) 143 N2 else f_X12_readsRank_99 P0 P1 (f_X12_readsRank_24 P0 P1 fu) 143 (nI r) 5 (2000 + nI i) 143 N2) = f_X12_readsRank_99 P0 P1 (f_X12_readsRank_24 P0 P1 fu) 143 (nI r) (nI (ofR r)) (2000 + nI i) 143 N2 := eo
            have e4' : f_X12_readsRank_99 P0 P1 (f_X12_readsRank_24 P0 P1 fu) 143 (nI r) (nI (ofR r)) (2000 + nI i) 143 N2 = some (bI (pLp T l r E f (fun fc => wrk (i + ofR r) (v fc) (u fc)) a2).1.isSome, N4) := by
              unfold f_X12_readsRank_99 f_X12_readsRank_112
              rw [show (2000 : Int32) = nI 2000 from rfl, nI_add, nI_add, Nat.add_assoc, e3, b1_s]
              by_cases hr0 : r = 0
              · have hf := hf0 hr0
                have hz : f = 0 := by omega
                subst hz
                subst hr0
                rw [if_pos (by decide)]
                exact e4
              · have hf := hf1 hr0
                have hz : f ≠ 0 := by omega
                rw [decide_eq_true hz] at e4
                rw [if_neg (nI_nle (by omega) (by omega))]
                exact e4
            refine ⟨N4, d4, ?_, c4, hd4, by omega, by omega, fun k hk => (p4 k (by omega)).trans ((p3 k (by omega)).trans (pr2 k hk)), fun w hw => ⟨(v4 w hw).1, fun fc st g => ?_⟩, (((w19_wRv f1).tr f2).tr f3).tr f4, r4.trans (r3.trans (r2.trans r1))⟩
            · exact eo.trans e4'
            · refine (v4 w hw).2 fc st ?_
              rw [q3 fc _ (v2'.2.2 fc _ (by rw [runR_eq (d := mI N 160) (fun k _ => pr1 k)]; exact g)), stR_op fc _ hi7]
              rfl
theorem r_rank {e r : Nat} (hr : r < 3) (hl : l ≤ 40) (E : Nat → Rs) (F : Nat → Nat) (hF : ∀ a b, a ≤ b → F b ≤ F a) (hE : ∀ a fu, a ≤ l → F a ≤ fu → PRs s T n l e (fun N => f_X12_nr fu (some (nI (r + 1))) 143 N) (E a) a) (a fu : Nat) (ha : a ≤ l) (hfu : F a + 1 ≤ fu) : PRs s T n l e (fun N => f_X12_nr fu (some (nI r)) 143 N) (pCh T l r (if r = 0 then 1 else 81) E a) a := by
  intro N d h hd hn hda
  cases fu with
  | zero => omega
  | succ fu =>
    obtain ⟨N1, d1, e1, c1, hd1, l1, m1, p1, v1, f1, r1⟩ := hE a fu ha (by omega) N d h hd hn hda
    have e1 : f_X12_nr fu (some (nI (r + 1))) 143 N = some (bI (E a).1.isSome, N1) := e1
    show ∃ N' d', f_X12_nr (fu + 1) (some (nI r)) 143 N = _ ∧ _
    rw [f_X12_nr, if_pos (O143 h.1.1)]
    unfold f_X12_readsRank_0
    rw [if_neg (show ¬ nI r = 3 by rw [show (3 : Int32) = nI 3 from rfl, nI_eq (by omega) (by omega)]; omega)]
    show ∃ N' d', b2 (f_X12_nr fu (some (nI r + 1)) 143 N) _ = _ ∧ _
    rw [nI_1, e1, b2_s]
    cases hea : E a with
    | mk o a1 =>
      rw [hea] at c1 m1 v1
      have c1' : TR s T n l a1 N1 := c1
      have m1' : d1 + a ≤ d + a1 := m1
      cases o with
      | none =>
        rw [if_pos (show bI (none : Option Va).isSome = 0 from rfl), pCh_f hea]
        exact ⟨N1, d1, rz0 N1, c1', hd1, l1, m1', p1, (fun w hw => by have hw : (none : Option Va) = some w := hw; cases hw), f1, r1⟩
      | some v =>
        have v1' := v1 v rfl
        have hq := c1'.2.2.2.2.2.2.1
        obtain ⟨N2, d2, e2, c2, hd2, l2, m2, p2, v2, f2, r2⟩ := r_lpR hr hl (f_X12_nr fu none) (fun x0 x1 M => f_X12_nr fu (some x1) x0 M) E a1 (fun a' h1 h2 => hE a' fu h2 (by have := hF a a' (by omega); omega)) (if r = 0 then 1 else 81) a1 1024 v N1 d1 (Nat.le_refl _) hq (fun g => by rw [if_pos g]; exact Nat.le_refl 1) (fun g => by rw [if_neg g]; omega) (by omega) c1' hd1 v1'.2.1 (by omega)
        have ef : bI (decide ((if r = 0 then 1 else 81) ≠ 0)) = 1 := by split <;> rfl
        rw [ef] at e2
        rw [if_neg (show ¬ bI (some v).isSome = 0 from by show ¬ bI true = 0; decide), pCh_t hea, e2]
        exact ⟨N2, d2, rfl, c2, hd2, by omega, by omega, fun k hk => (p2 k (by omega)).trans (p1 k hk), fun w hw => ⟨by omega, (v2 w hw).1, fun fc st g => (v2 w hw).2 fc st (v1'.2.2 fc st g)⟩, f1.tr f2, r2.trans r1⟩
theorem r_rk3 {e : Nat} (E : Nat → Rs) (a fu : Nat) (hE : PRs s T n l e (fun N => f_X12_nr fu none 143 N) (E a) a) : PRs s T n l e (fun N => f_X12_nr (fu + 1) (some (nI 3)) 143 N) (E a) a := by
  intro N d h hd hn hda
  obtain ⟨N1, d1, e1, k1⟩ := hE N d h hd hn hda
  refine ⟨N1, d1, ?_, k1⟩
  have e1 : f_X12_nr fu none 143 N = some (bI (E a).1.isSome, N1) := e1
  show f_X12_nr (fu + 1) (some (nI 3)) 143 N = _
  rw [f_X12_nr, if_pos (O143 h.1.1)]
  unfold f_X12_readsRank_0
  rw [if_pos (show nI 3 = 3 from rfl), e1, b2_s, rz_b]
theorem r_top {e : Nat} (hl : l ≤ 40) (C : Option (Nat → Rs)) (he : e ≤ 4) (h0 : e = 0 → C = none) (h1 : e ≠ 0 → ∃ p, C = some p ∧ ∀ a fu, a ≤ l → (l - a) + 5 * e ≤ fu → PRs s T n l (e - 1) (fun N => f_X12_nr fu (some 0) 143 N) (p a) a) (a fu : Nat) (ha : a ≤ l) (hfu : 5 + (l - a) + 5 * e ≤ fu) : PRs s T n l e (fun N => f_X12_nr fu (some (nI 0)) 143 N) (pTop T l (pBs T l C) a) a := by
  refine r_rank (r := 0) (by decide) hl _ (fun a => 4 + (l - a) + 5 * e) (fun a b h => by show 4 + (l - b) + 5 * e ≤ 4 + (l - a) + 5 * e; omega) (fun a fu ha hfu => ?_) a fu ha (by show 4 + (l - a) + 5 * e + 1 ≤ fu; omega)
  have hfu : 4 + (l - a) + 5 * e ≤ fu := hfu
  refine r_rank (r := 1) (by decide) hl _ (fun a => 3 + (l - a) + 5 * e) (fun a b h => by show 3 + (l - b) + 5 * e ≤ 3 + (l - a) + 5 * e; omega) (fun a fu ha hfu => ?_) a fu ha (by show 3 + (l - a) + 5 * e + 1 ≤ fu; omega)
  have hfu : 3 + (l - a) + 5 * e ≤ fu := hfu
  refine r_rank (r := 2) (by decide) hl _ (fun a => 2 + (l - a) + 5 * e) (fun a b h => by show 2 + (l - b) + 5 * e ≤ 2 + (l - a) + 5 * e; omega) (fun a fu ha hfu => ?_) a fu ha (by show 2 + (l - a) + 5 * e + 1 ≤ fu; omega)
  have hfu : 2 + (l - a) + 5 * e ≤ fu := hfu
  cases fu with
  | zero => omega
  | succ fu => exact r_rk3 _ a fu (r_node he hl C h0 h1 81 a fu (by omega) ha (by omega))
theorem r_rule (hl : l ≤ 40) : ∀ (e a fu : Nat), e ≤ 4 → a ≤ l → 5 + (l - a) + 5 * e ≤ fu → PRs s T n l e (fun N => f_X12_nr fu (some (nI 0)) 143 N) (pCm T l e a) a
  | 0, a, fu, he, ha, hfu => r_top hl none he (fun _ => rfl) (fun g => absurd rfl g) a fu ha hfu
  | e + 1, a, fu, he, ha, hfu => r_top hl (some (pCm T l e)) he (fun g => by omega) (fun g => ⟨_, rfl, fun a fu ha hfu => r_rule hl e a fu (by omega) ha (by omega)⟩) a fu ha hfu
end RUR

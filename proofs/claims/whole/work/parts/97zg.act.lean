/-! afternoon: acts told -/
abbrev Ak : Type := Nat × Int32 × Int32 × Int32
def acG3 (T : Nat → Nat) (l a p e : Nat) : Option Ak × Nat := if tkB T l a 64 = true then (match nmO T l (a + 1) 2 with
  | none => (none, a + 1)
  | some m => (some (0, nI p, nI e, nI m), nmA T l (a + 1) 2)) else (none, a)
def acG2 (T : Nat → Nat) (l a p : Nat) : Option Ak × Nat := match dgO T l a 0 9 with
  | none => (none, a)
  | some e => acG3 T l (a + 1) p e
def acG (T : Nat → Nat) (l a : Nat) : Option Ak × Nat := match ltO T l a 6 with
  | none => (none, a)
  | some p => acG2 T l (a + 1) p
def acX (T : Nat → Nat) (l a : Nat) : Option Ak × Nat := match nmO T l a 2 with
  | none => (none, a)
  | some i => (some (1, nI i, 0, 0), nmA T l a 2)
def acS2 (T : Nat → Nat) (l a i : Nat) (b : Bool) : Option Ak × Nat := match nmO T l a 2 with
  | none => (none, a)
  | some v => (some (2, nI i, (if b = true then nI v else -(nI v)), 0), nmA T l a 2)
def acS (T : Nat → Nat) (l a : Nat) : Option Ak × Nat := match nmO T l a 2 with
  | none => (none, a)
  | some i => if tkB T l (nmA T l a 2) 43 = true then acS2 T l (nmA T l a 2 + 1) i true else if tkB T l (nmA T l a 2) 45 = true then acS2 T l (nmA T l a 2 + 1) i false else (none, nmA T l a 2)
def acO (T : Nat → Nat) (l a : Nat) : Option Ak × Nat := if tkB T l a 103 = true then acG T l (a + 1) else if tkB T l a 120 = true then acX T l (a + 1) else if tkB T l a 115 = true then acS T l (a + 1) else (none, a)
def acF (T : Nat → Nat) (n l : Nat) : Nat → Nat → Option (List Ak) × Nat
  | 0, a => (none, a)
  | j + 1, a => match acO T l a with
    | (none, a1) => (none, a1)
    | (some x, a1) => if l ≤ a1 then (if l < n then (none, a1) else (some [x], a1)) else if tkB T l a1 59 = true then ((acF T n l j (a1 + 1)).1.map (fun L => x :: L), (acF T n l j (a1 + 1)).2) else (none, a1)
theorem acF_n {T : Nat → Nat} {n l j a a1 : Nat} (h : acO T l a = (none, a1)) : acF T n l (j + 1) a = (none, a1) := by
  show (match acO T l a with | (none, a1) => (none, a1) | (some x, a1) => _) = _
  rw [h]
theorem acF_s {T : Nat → Nat} {n l j a a1 : Nat} {x : Ak} (h : acO T l a = (some x, a1)) : acF T n l (j + 1) a = if l ≤ a1 then (if l < n then (none, a1) else (some [x], a1)) else if tkB T l a1 59 = true then ((acF T n l j (a1 + 1)).1.map (fun L => x :: L), (acF T n l j (a1 + 1)).2) else (none, a1) := by
  show (match acO T l a with | (none, a1) => (none, a1) | (some x, a1) => if l ≤ a1 then (if l < n then (none, a1) else (some [x], a1)) else if tkB T l a1 59 = true then ((acF T n l j (a1 + 1)).1.map (fun L => x :: L), (acF T n l j (a1 + 1)).2) else (none, a1)) = _
  rw [h]
theorem lt_b {T : Nat → Nat} {l a m p : Nat} (h : ltO T l a m = some p) : a < l ∧ p < m := by
  unfold ltO at h
  split at h
  · rename_i g; cases h; omega
  · cases h
/-- an act read: signs are taken -/
theorem acO_gt {T : Nat → Nat} {l a a1 : Nat} {x : Ak} (h : acO T l a = (some x, a1)) : a < l ∧ a + 2 ≤ a1 ∧ x.1 ≤ 2 := by
  unfold acO at h
  by_cases h1 : tkB T l a 103 = true
  · have g1 := (of_decide_eq_true h1).1
    rw [if_pos h1] at h
    unfold acG at h
    cases h2 : ltO T l (a + 1) 6 with
    | none => rw [h2] at h; cases h
    | some p =>
      have g2 := lt_b h2
      rw [h2] at h
      dsimp only at h
      unfold acG2 at h
      cases h3 : dgO T l (a + 1 + 1) 0 9 with
      | none => rw [h3] at h; cases h
      | some e =>
        have g3 := dg_b h3
        rw [h3] at h
        dsimp only at h
        unfold acG3 at h
        by_cases h4 : tkB T l (a + 1 + 1 + 1) 64 = true
        · have g4 := (of_decide_eq_true h4).1
          rw [if_pos h4] at h
          cases h5 : nmO T l (a + 1 + 1 + 1 + 1) 2 with
          | none => rw [h5] at h; cases h
          | some m =>
            have g5 : a + 1 + 1 + 1 + 1 < l ∧ a + 1 + 1 + 1 + 1 + 1 ≤ nmA T l (a + 1 + 1 + 1 + 1) 2 := nmA_gt (k := 1) (by omega) h5
            rw [h5] at h
            cases h
            exact ⟨g1, by omega, by show 0 ≤ 2; omega⟩
        · rw [if_neg h4] at h; cases h
  · rw [if_neg h1] at h
    by_cases h2 : tkB T l a 120 = true
    · have g1 := (of_decide_eq_true h2).1
      rw [if_pos h2] at h
      unfold acX at h
      cases h3 : nmO T l (a + 1) 2 with
      | none => rw [h3] at h; cases h
      | some i =>
        have g3 : a + 1 < l ∧ a + 1 + 1 ≤ nmA T l (a + 1) 2 := nmA_gt (k := 1) (by omega) h3
        rw [h3] at h
        cases h
        exact ⟨g1, by omega, by show 1 ≤ 2; omega⟩
    · rw [if_neg h2] at h
      by_cases h3 : tkB T l a 115 = true
      · have g1 := (of_decide_eq_true h3).1
        rw [if_pos h3] at h
        unfold acS at h
        cases h4 : nmO T l (a + 1) 2 with
        | none => rw [h4] at h; cases h
        | some i =>
          have g4 : a + 1 < l ∧ a + 1 + 1 ≤ nmA T l (a + 1) 2 := nmA_gt (k := 1) (by omega) h4
          rw [h4] at h
          dsimp only at h
          have fin : ∀ b, nmA T l (a + 1) 2 + 1 ≤ l → acS2 T l (nmA T l (a + 1) 2 + 1) i b = (some x, a1) → a < l ∧ a + 2 ≤ a1 ∧ x.1 ≤ 2 := by
            intro b hq h
            unfold acS2 at h
            cases h5 : nmO T l (nmA T l (a + 1) 2 + 1) 2 with
            | none => rw [h5] at h; cases h
            | some v =>
              have g5 : nmA T l (a + 1) 2 + 1 < l ∧ nmA T l (a + 1) 2 + 1 + 1 ≤ nmA T l (nmA T l (a + 1) 2 + 1) 2 := nmA_gt (k := 1) hq h5
              rw [h5] at h
              cases h
              exact ⟨g1, by omega, by show 2 ≤ 2; omega⟩
          by_cases h5 : tkB T l (nmA T l (a + 1) 2) 43 = true
          · have g5 := (of_decide_eq_true h5).1
            rw [if_pos h5] at h
            exact fin true (by omega) h
          · rw [if_neg h5] at h
            by_cases h6 : tkB T l (nmA T l (a + 1) 2) 45 = true
            · have g6 := (of_decide_eq_true h6).1
              rw [if_pos h6] at h
              exact fin false (by omega) h
            · rw [if_neg h6] at h; cases h
      · rw [if_neg h3] at h; cases h
/-! what is done -/
noncomputable def doA (s : St) (x : Ak) : Int32 := if x.1 = 0 then giA s x.2.1 x.2.2.1 x.2.2.2 else if x.1 = 1 then tkA s x.2.1 else mvA s x.2.1 x.2.2.1
noncomputable def doQ (s : St) (x : Ak) : Pl := if x.1 = 0 then giQ s x.2.1 x.2.2.1 x.2.2.2 else if x.1 = 1 then tkQ s x.2.1 else mvQ s x.2.1 x.2.2.1
theorem doQ_ok {s : St} (hw : WF s) (x : Ak) : okPl (zP s) (zE s) (doQ s x) := by
  unfold doQ
  split
  · exact giQ_ok hw _ _ _
  · split
    · exact tkQ_ok hw _
    · exact mvQ_ok hw _ _
noncomputable def exF : St → List Ak → Nat × Bool × Pl
  | s, [] => (0, false, zplan s)
  | s, x :: L => if 0 ≤ doA s x then ((exF (zsplan s (doQ s x)) L).1 + 1, (exF (zsplan s (doQ s x)) L).2) else (0, true, doQ s x)
theorem exF_s (s : St) (x : Ak) (L : List Ak) : exF s (x :: L) = if 0 ≤ doA s x then ((exF (zsplan s (doQ s x)) L).1 + 1, (exF (zsplan s (doQ s x)) L).2) else (0, true, doQ s x) := by rw [exF]
theorem exF_ok : ∀ (L : List Ak) {s : St}, WF s → okPl (zP s) (zE s) (exF s L).2.2 ∧ (exF s L).1 ≤ L.length ∧ ((exF s L).2.1 = true ↔ (exF s L).1 < L.length)
  | [], s, hw => by
    rw [exF]
    exact ⟨hw.2.2.2.2.1, Nat.le_refl 0, ⟨(fun g => by cases g), (fun g => absurd g (Nat.not_lt_zero 0))⟩⟩
  | x :: L, s, hw => by
    rw [exF_s]
    by_cases h : 0 ≤ doA s x
    · rw [if_pos h]
      have k := exF_ok L (WF_pl hw (doQ_ok hw x))
      refine ⟨k.1, by show _ + 1 ≤ L.length + 1; have := k.2.1; omega, ?_⟩
      show _ ↔ _ + 1 < L.length + 1
      rw [Nat.add_lt_add_iff_right]
      exact k.2.2
    · rw [if_neg h]
      exact ⟨doQ_ok hw x, Nat.zero_le _, ⟨fun _ => by show 0 < L.length + 1; omega, fun _ => rfl⟩⟩
def afR (s : St) : Option (List Ak) × Nat := if zL s = 0 then (some [], 0) else acF (ztap s) (zL s) (min (zL s) 60) 61 0
noncomputable def afX (s : St) (L : List Ak) : St := zsrow (if (exF (z0 s) L).1 = 0 then zsplan (z0 s) (exF (z0 s) L).2.2 else zpush (z0 s) (exF (z0 s) L).2.2) (rowOf [Int32.toInt64 (bI (exF (z0 s) L).2.1), Int32.toInt64 (worAll (z0 s) (exF (z0 s) L).2.2)])
noncomputable def a_afternoon (s : St) : Int32 := match (afR s).1 with
  | none => -1 - nI (afR s).2
  | some L => nI (exF (z0 s) L).1
noncomputable def n_afternoon (s : St) : St := match (afR s).1 with
  | none => z0 s
  | some L => afX s L
theorem af_n {s : St} {q : Nat} (h : afR s = (none, q)) : a_afternoon s = -1 - nI q ∧ n_afternoon s = z0 s := by unfold a_afternoon n_afternoon; rw [h]; exact ⟨rfl, rfl⟩
theorem af_s {s : St} {q : Nat} {L : List Ak} (h : afR s = (some L, q)) : a_afternoon s = nI (exF (z0 s) L).1 ∧ n_afternoon s = afX s L := by unfold a_afternoon n_afternoon; rw [h]; exact ⟨rfl, rfl⟩
theorem W_afternoon {s : St} (hw : WF s) : WF (n_afternoon s) := by
  have k : WF (z0 s) := W_z0 hw
  unfold n_afternoon
  cases (afR s).1 with
  | none => exact k
  | some L =>
    have ok := (exF_ok L k).1
    show WF (afX s L)
    unfold afX
    refine WF_row ?_ (by show 2 ≤ 8; decide)
    split
    · exact WF_pl k ok
    · exact WF_push k ok
theorem mI_self (M : MM) (a k : Nat) (v : Int32) : mI (sI M a k v) a k = v := by rw [mI_w, if_pos ⟨rfl, rfl⟩]
/-! the class reads acts -/
def wAc (a k : Nat) : Prop := (a = 1 ∧ k = 4) ∨ a = 142
def kdC (k : Nat) : Int32 := if k = 0 then 103 else if k = 1 then 120 else 115
def CAc (N : MM) (x : Ak) : Prop := mI N 142 0 = kdC x.1 ∧ mI N 142 1 = x.2.1 ∧ (x.1 ≠ 1 → mI N 142 2 = x.2.2.1) ∧ (x.1 = 0 → mI N 142 3 = x.2.2.2)
theorem st142 {M : MM} (h : Sh M) (v : Int32) : stI 142 0 v M = some (sI M 142 0 v) ∧ stI 142 1 v M = some (sI M 142 1 v) ∧ stI 142 2 v M = some (sI M 142 2 v) ∧ stI 142 3 v M = some (sI M 142 3 v) := ⟨st_142 h v (j := 0) (by decide), st_142 h v (j := 1) (by decide), st_142 h v (j := 2) (by decide), st_142 h v (j := 3) (by decide)⟩
theorem ld142 {M : MM} (h : Sh M) : ldI 142 0 M = some (mI M 142 0) ∧ ldI 142 1 M = some (mI M 142 1) ∧ ldI 142 2 M = some (mI M 142 2) ∧ ldI 142 3 M = some (mI M 142 3) := ⟨ld_142 h (j := 0) (by decide), ld_142 h (j := 1) (by decide), ld_142 h (j := 2) (by decide), ld_142 h (j := 3) (by decide)⟩
theorem TC.s142 {s : St} {T : Nat → Nat} {n l a k : Nat} {v : Int32} {M : MM} (h : TC s T n l a M) : TC s T n l a (sI M 142 k v) := h.fr' (W := fun a k => a = 142) ((Fr.rf M).sI rfl) rfl (fun a k q => by unfold wC; omega) (fun a k q => by omega)
theorem w14_Ac {M M' : MM} (f : Fr w14 M M') : Fr wAc M M' := f.mono (fun a k q => by unfold w14 at q; unfold wAc; omega)
theorem sAc {k : Nat} {v : Int32} (M : MM) : Fr wAc M (sI M 142 k v) := (Fr.rf (W := wAc) M).sI (Or.inr rfl)
theorem R12 {M : MM} (h : Sh M) : gR 11 12 0 M = some 142 ∧ gR 11 0 0 M = some 1 := ⟨sh_R h 11 (by decide) rfl (by decide), sh_R h 11 (by decide) rfl (by decide)⟩
section ACC
variable {s : St} {T : Nat → Nat} {n l : Nat}
theorem tc_let {a : Nat} {M : MM} (h : TC s T n l a M) : ∃ M', f_X10_letter 1 M = some (enO (-1) (ltO T l a 6), M') ∧ TC s T n l (adO (ltO T l a 6) a) M' ∧ Fr w14 M M' ∧ mR M' = mR M := by
  obtain ⟨b1', b2', b3', b4'⟩ := h.2.2.2.2.2
  have ix := pk_sub_ix (T := T) (l := l) (a := a) (m := 6) (c := 97) b4' (by decide) (by decide)
  have ixp := @ix_t (pkI T l a - nI 97) 6
  unfold f_X10_letter f_X10_letter_0 ltO
  rw [if_pos (tc_O h), tc_peek h, b2_s, bn_s]
  by_cases hc : a < l ∧ 97 ≤ T a ∧ T a < 97 + 6
  · have g := ixp.mp (ix.mpr hc)
    have ev : pkI T l a - 97 = nI (T a - 97) := by rw [pk_P hc.1]; exact pk_sub (a := T a) (b := 97) (by omega)
    refine ⟨sI M 1 4 (nI (a + 1)), ?_, by rw [if_pos hc]; exact h.mv (a' := a + 1) (by omega), frmv M _, rfl⟩
    rw [if_neg (show ¬ pkI T l a - 97 < 0 from g.1), if_pos (show pkI T l a - 97 < 6 from g.2), tc_skip h hc.1, b1_s, if_pos hc, ev]
    rfl
  · have g : ¬ (¬ pkI T l a - 97 < 0 ∧ pkI T l a - 97 < 6) := fun q => hc (ix.mp (ixp.mpr q))
    refine ⟨M, ?_, by rw [if_neg hc]; exact h, Fr.rf M, rfl⟩
    rw [if_neg hc]
    by_cases g1 : pkI T l a - 97 < 0
    · rw [if_pos g1]; rfl
    · rw [if_neg g1, if_neg (fun q => g ⟨g1, q⟩)]; rfl
theorem c_a103 {N : MM} (h0 : Sh N) (v : Int32) : f_X11_readAct_103 0 v 3 142 N = if v < 0 then some (0, sI N 142 3 v) else some (1, sI N 142 3 v) := by
  have h1 : Sh (sI N 142 3 v) := h0
  unfold f_X11_readAct_103
  rw [(st142 h0 v).2.2.2, b1_s, (R12 h1).1, b1_s, (ld142 h1).2.2.2, b1_s, mI_self, rz0, rz1]
theorem c_a64f {N : MM} (h0 : Sh N) : f_X11_readAct_64 0 (-1) 2 142 N = some (0, sI (sI N 142 2 (-1)) 142 3 (-1)) := by
  have h1 : Sh (sI N 142 2 (-1)) := h0
  unfold f_X11_readAct_64 f_X11_readAct_102
  rw [(st142 h0 _).2.2.1, b1_s, (R12 h1).1, b1_s, b1_s, (ld142 h1).2.2.1, b1_s, mI_self, if_pos (by decide), c_a103 h1, if_pos (by decide)]
/-- after the sign g -/
theorem c_actG {a : Nat} {N : MM} (h : TC s T n l a N) (h142 : mI N 142 0 = 103) : ∃ N', (b1 (gR 11 12 0 N) fun v24 => b1 (gR 11 0 0 N) fun v25 => b2 (f_X10_letter v25 N) fun r27 M26 => b1 (stI v24 (1 : Int32) r27 M26) fun M28 => b1 (gR 11 12 0 M28) fun v29 => b1 (gR 11 12 0 M28) fun v30 => b1 (ldI v30 (1 : Int32) M28) fun v31 => if 0 ≤ v31 then b1 (gR 11 0 0 M28) fun v32 => b2 (f_X10_digit v32 (0 : Int32) M28) fun r34 M33 => f_X11_readAct_64 0 r34 (2 : Int32) v29 M33 else f_X11_readAct_64 0 (-1 : Int32) (2 : Int32) v29 M28) = some (bI (acG T l a).1.isSome, N') ∧ TC s T n l (acG T l a).2 N' ∧ (∀ x, (acG T l a).1 = some x → CAc N' x) ∧ Fr wAc N N' ∧ mR N' = mR N := by
  have ha := h.2.2.2.2.2.2.2.1
  have s0 := h.1.1
  obtain ⟨N1, e1, c1, f1, r1⟩ := tc_let h
  unfold acG
  rw [(R12 s0).1, b1_s, (R12 s0).2, b1_s, e1, b2_s, (st142 c1.1.1 _).2.1, b1_s]
  cases hx : ltO T l a 6 with
  | none =>
    rw [hx] at c1
    have c1' : TC s T n l a N1 := c1
    have c2 : TC s T n l a (sI N1 142 1 (-1)) := c1'.s142
    have s2 := c2.1.1
    rw [show enO (-1) (none : Option Nat) = -1 from rfl, (R12 s2).1, b1_s, b1_s, (ld142 s2).2.1, b1_s, mI_self, if_neg (by decide), c_a64f s2]
    exact ⟨_, rfl, c2.s142.s142, (fun x g => by cases g), (((w14_Ac f1).tr (sAc _)).tr (sAc _)).tr (sAc _), r1⟩
  | some p =>
    have hp := lt_b hx
    rw [hx] at c1
    have c1' : TC s T n l (a + 1) N1 := c1
    have c2 : TC s T n l (a + 1) (sI N1 142 1 (nI p)) := c1'.s142
    have s2 := c2.1.1
    have fr2 : Fr wAc N (sI N1 142 1 (nI p)) := (w14_Ac f1).tr (sAc _)
    have g0 : mI (sI N1 142 1 (nI p)) 142 0 = 103 := by rw [mI_w, if_neg (by omega), f1.2.2.1 142 0 (by unfold w14; omega)]; exact h142
    obtain ⟨N3, e3, c3, f3, r3⟩ := tc_digit c2 (lo := 0) (by decide)
    have e3 : f_X10_digit 1 0 (sI N1 142 1 (nI p)) = some (enO (-1) (dgO T l (a + 1) 0 9), N3) := e3
    rw [show enO (-1) (some p) = nI p from rfl, (R12 s2).1, b1_s, b1_s, (ld142 s2).2.1, b1_s, mI_self, if_pos (nI_pos' (by omega)), (R12 s2).2, b1_s, e3, b2_s]
    dsimp only
    unfold acG2
    cases hd : dgO T l (a + 1) 0 9 with
    | none =>
      rw [dg_n hd] at c3
      rw [show enO (-1) (none : Option Nat) = -1 from rfl, c_a64f c3.1.1]
      exact ⟨_, rfl, c3.s142.s142, (fun x g => by cases g), ((fr2.tr (w14_Ac f3)).tr (sAc _)).tr (sAc _), r3.trans r1⟩
    | some e =>
      have he := dg_b hd
      rw [he.2.2.2] at c3
      have c4 : TC s T n l (a + 1 + 1) (sI N3 142 2 (nI e)) := c3.s142
      have s4 := c4.1.1
      have fr4 : Fr wAc N (sI N3 142 2 (nI e)) := (fr2.tr (w14_Ac f3)).tr (sAc _)
      obtain ⟨N5, e5, c5, f5, r5⟩ := tc_take c4 (c := 64) (by decide)
      rw [show enO (-1) (some e) = nI e from rfl]
      dsimp only
      unfold f_X11_readAct_64 f_X11_readAct_102 acG3
      rw [(st142 c3.1.1 _).2.2.1, b1_s, (R12 s4).1, b1_s, b1_s, (ld142 s4).2.2.1, b1_s, mI_self, if_neg (nI_pos (by omega)), (R12 s4).2, b1_s, show (64 : Int32) = nI 64 from rfl, e5, b2_s]
      cases htk : tkB T l (a + 1 + 1) 64 with
      | false =>
        rw [htk] at c5
        rw [if_pos (show bI false = 0 from rfl), if_neg (by decide), c_a103 c5.1.1, if_pos (by decide)]
        exact ⟨_, rfl, c5.s142, (fun x g => by cases g), (fr4.tr (w14_Ac f5)).tr (sAc _), r5.trans (r3.trans r1)⟩
      | true =>
        rw [htk] at c5
        have htk' := (of_decide_eq_true htk).1
        have c5' : TC s T n l (a + 1 + 1 + 1) N5 := c5
        obtain ⟨N6, e6, c6, f6, r6⟩ := tc_num c5' (k := 2) (by decide) (by decide)
        have e6 : f_X10_number 1 2 N5 = some (enO (-1) (nmO T l (a + 1 + 1 + 1) 2), N6) := e6
        have fr6 : Fr wAc N N6 := (fr4.tr (w14_Ac f5)).tr (w14_Ac f6)
        rw [if_neg (show ¬ bI true = 0 by decide), if_pos rfl, (R12 c5.1.1).2, b1_s, e6, b2_s, c_a103 c6.1.1]
        cases hm : nmO T l (a + 1 + 1 + 1) 2 with
        | none =>
          rw [nm_none hm] at c6
          rw [show enO (-1) (none : Option Nat) = -1 from rfl, if_pos (by decide)]
          exact ⟨_, rfl, c6.s142, (fun x g => by cases g), fr6.tr (sAc _), r6.trans (r5.trans (r3.trans r1))⟩
        | some m =>
          have hmb : m < 100 := nmO_b (by omega) hm
          rw [show enO (-1) (some m) = nI m from rfl, if_neg (nI_pos (by omega))]
          refine ⟨_, rfl, c6.s142, fun x g => ?_, fr6.tr (sAc _), r6.trans (r5.trans (r3.trans r1))⟩
          have g : some ((0, nI p, nI e, nI m) : Ak) = some x := g
          cases g
          have k : ∀ i, i ≠ 3 → i ≠ 2 → mI (sI N6 142 3 (nI m)) 142 i = mI (sI N1 142 1 (nI p)) 142 i := fun i h3 h2 => by
            rw [mI_w, if_neg (by omega), f6.2.2.1 142 i (by unfold w14; omega), f5.2.2.1 142 i (by unfold w14; omega), mI_w, if_neg (by omega), f3.2.2.1 142 i (by unfold w14; omega)]
          refine ⟨(k 0 (by omega) (by omega)).trans g0, (k 1 (by omega) (by omega)).trans (mI_self _ _ _ _), fun _ => ?_, fun _ => by rw [mI_w, if_pos ⟨rfl, rfl⟩]⟩
          rw [mI_w, if_neg (by omega), f6.2.2.1 142 2 (by unfold w14; omega), f5.2.2.1 142 2 (by unfold w14; omega), mI_w, if_pos ⟨rfl, rfl⟩]
theorem c_actS2 {a i : Nat} {N : MM} {b : Bool} (h : TC s T n l a N) (h0 : mI N 142 0 = 115) (h1 : mI N 142 1 = nI i) : ∃ N', f_X11_readShift_53 0 (bI b) N = some (bI (acS2 T l a i b).1.isSome, N') ∧ TC s T n l (acS2 T l a i b).2 N' ∧ (∀ x, (acS2 T l a i b).1 = some x → CAc N' x) ∧ Fr wAc N N' ∧ mR N' = mR N := by
  have ha := h.2.2.2.2.2.2.2.1
  have s0 := h.1.1
  obtain ⟨N1, e1, c1, f1, r1⟩ := tc_num h (k := 2) (by decide) (by decide)
  have e1 : f_X10_number 1 2 N = some (enO (-1) (nmO T l a 2), N1) := e1
  unfold f_X11_readShift_53 f_X11_readShift_77 acS2
  rw [(R12 s0).2, b1_s, e1, b2_s, (R12 c1.1.1).1, b1_s]
  have k : ∀ v : Int32, (if bI b = 0 then b1 (stI 142 2 (-v) N1) (fun M1 => if v < 0 then rz 0 M1 else rz 1 M1) else b1 (stI 142 2 v N1) (fun M1 => if v < 0 then rz 0 M1 else rz 1 M1)) = if v < 0 then some (0, sI N1 142 2 (if b = true then v else -v)) else some (1, sI N1 142 2 (if b = true then v else -v)) := by
    intro v
    cases b with
    | true => rw [if_neg (show ¬ bI true = 0 by decide), (st142 c1.1.1 _).2.2.1, b1_s, rz0, rz1, if_pos rfl]
    | false => rw [if_pos (show bI false = 0 from rfl), (st142 c1.1.1 _).2.2.1, b1_s, rz0, rz1, if_neg (c := false = true) (by decide)]
  rw [k]
  cases hv : nmO T l a 2 with
  | none =>
    rw [nm_none hv] at c1
    rw [show enO (-1) (none : Option Nat) = -1 from rfl, if_pos (by decide)]
    exact ⟨_, rfl, c1.s142, (fun x g => by cases g), (w14_Ac f1).tr (sAc _), r1⟩
  | some v =>
    have hvb : v < 100 := nmO_b ha hv
    rw [show enO (-1) (some v) = nI v from rfl, if_neg (nI_pos (by omega))]
    refine ⟨_, rfl, c1.s142, fun x g => ?_, (w14_Ac f1).tr (sAc _), r1⟩
    have g : some ((2, nI i, (if b = true then nI v else -(nI v)), 0) : Ak) = some x := g
    cases g
    refine ⟨?_, ?_, fun _ => by rw [mI_w, if_pos ⟨rfl, rfl⟩], fun q => by cases q⟩
    · rw [mI_w, if_neg (by omega), f1.2.2.1 142 0 (by unfold w14; omega)]; exact h0
    · rw [mI_w, if_neg (by omega), f1.2.2.1 142 1 (by unfold w14; omega)]; exact h1
theorem c_actS {a : Nat} {N : MM} (h : TC s T n l a N) (h0 : mI N 142 0 = 115) : ∃ N', f_X11_readShift 0 N = some (bI (acS T l a).1.isSome, N') ∧ TC s T n l (acS T l a).2 N' ∧ (∀ x, (acS T l a).1 = some x → CAc N' x) ∧ Fr wAc N N' ∧ mR N' = mR N := by
  have ha := h.2.2.2.2.2.2.2.1
  have s0 := h.1.1
  obtain ⟨N1, e1, c1, f1, r1⟩ := tc_num h (k := 2) (by decide) (by decide)
  have e1 : f_X10_number 1 2 N = some (enO (-1) (nmO T l a 2), N1) := e1
  unfold f_X11_readShift f_X11_readShift_0 acS
  rw [if_pos (sh_O s0 11 (by decide) rfl), (R12 s0).1, b1_s, (R12 s0).2, b1_s, e1, b2_s, (st142 c1.1.1 _).2.1, b1_s]
  cases hv : nmO T l a 2 with
  | none =>
    rw [nm_none hv] at c1
    have c2 : TC s T n l a (sI N1 142 1 (-1)) := c1.s142
    rw [show enO (-1) (none : Option Nat) = -1 from rfl, (R12 c2.1.1).1, b1_s, (ld142 c2.1.1).2.1, b1_s, mI_self, if_neg (by decide), rz0]
    exact ⟨_, rfl, c2, (fun x g => by cases g), (w14_Ac f1).tr (sAc _), r1⟩
  | some i =>
    have hib : i < 100 := nmO_b ha hv
    have c2 : TC s T n l (nmA T l a 2) (sI N1 142 1 (nI i)) := c1.s142
    have s2 := c2.1.1
    have fr2 : Fr wAc N (sI N1 142 1 (nI i)) := (w14_Ac f1).tr (sAc _)
    have g0 : mI (sI N1 142 1 (nI i)) 142 0 = 115 := by rw [mI_w, if_neg (by omega), f1.2.2.1 142 0 (by unfold w14; omega)]; exact h0
    have g1 : mI (sI N1 142 1 (nI i)) 142 1 = nI i := by rw [mI_w, if_pos ⟨rfl, rfl⟩]
    obtain ⟨N3, e3, c3, f3, r3⟩ := tc_take c2 (c := 43) (by decide)
    rw [show enO (-1) (some i) = nI i from rfl, (R12 s2).1, b1_s, (ld142 s2).2.1, b1_s, g1, if_pos (nI_pos' (by omega)), (R12 s2).2, b1_s, show (43 : Int32) = nI 43 from rfl, e3, b2_s]
    dsimp only
    cases h43 : tkB T l (nmA T l a 2) 43 with
    | true =>
      rw [h43] at c3
      have c3' : TC s T n l (nmA T l a 2 + 1) N3 := c3
      obtain ⟨N4, e4, c4, k4, f4, r4⟩ := c_actS2 (b := true) (i := i) c3' ((f3.2.2.1 142 0 (by unfold w14; omega)).trans g0) ((f3.2.2.1 142 1 (by unfold w14; omega)).trans g1)
      rw [if_neg (show ¬ bI true = 0 by decide), if_pos rfl, e4]
      exact ⟨N4, rfl, c4, k4, (fr2.tr (w14_Ac f3)).tr f4, r4.trans (r3.trans r1)⟩
    | false =>
      rw [h43] at c3
      have c3' : TC s T n l (nmA T l a 2) N3 := c3
      obtain ⟨N4, e4, c4, f4, r4⟩ := tc_take c3' (c := 45) (by decide)
      rw [if_pos (show bI false = 0 from rfl), if_neg (c := false = true) (by decide), (R12 c3.1.1).2, b1_s, show (45 : Int32) = nI 45 from rfl, e4, b2_s]
      cases h45 : tkB T l (nmA T l a 2) 45 with
      | true =>
        rw [h45] at c4
        have c4' : TC s T n l (nmA T l a 2 + 1) N4 := c4
        obtain ⟨N5, e5, c5, k5, f5, r5⟩ := c_actS2 (b := false) (i := i) c4' ((f4.2.2.1 142 0 (by unfold w14; omega)).trans ((f3.2.2.1 142 0 (by unfold w14; omega)).trans g0)) ((f4.2.2.1 142 1 (by unfold w14; omega)).trans ((f3.2.2.1 142 1 (by unfold w14; omega)).trans g1))
        rw [if_neg (show ¬ bI true = 0 by decide), if_pos rfl, e5]
        exact ⟨N5, rfl, c5, k5, ((fr2.tr (w14_Ac f3)).tr (w14_Ac f4)).tr f5, r5.trans (r4.trans (r3.trans r1))⟩
      | false =>
        rw [h45] at c4
        rw [if_pos (show bI false = 0 from rfl), if_neg (c := false = true) (by decide), rz0]
        exact ⟨N4, rfl, c4, (fun x g => by cases g), (fr2.tr (w14_Ac f3)).tr (w14_Ac f4), r4.trans (r3.trans r1)⟩
theorem c_act {a : Nat} {N : MM} (h : TC s T n l a N) : ∃ N', f_X11_readAct 0 N = some (bI (acO T l a).1.isSome, N') ∧ TC s T n l (acO T l a).2 N' ∧ (∀ x, (acO T l a).1 = some x → CAc N' x) ∧ Fr wAc N N' ∧ mR N' = mR N := by
  have ha := h.2.2.2.2.2.2.2.1
  have s0 := h.1.1
  have c1 : TC s T n l a (sI N 142 0 (pkI T l a)) := h.s142
  have s1 := c1.1.1
  obtain ⟨N2, e2, c2, f2, r2⟩ := tc_take c1 (c := 103) (by decide)
  have fr2 : Fr wAc N N2 := (sAc N).tr (w14_Ac f2)
  have g2 : mI N2 142 0 = pkI T l a := (f2.2.2.1 142 0 (by unfold w14; omega)).trans (mI_self _ _ _ _)
  unfold f_X11_readAct f_X11_readAct_0 acO
  rw [if_pos (sh_O s0 11 (by decide) rfl), (R12 s0).1, b1_s, (R12 s0).2, b1_s, tc_peek h, b2_s, (st142 s0 _).1, b1_s, (R12 s1).2, b1_s, show (103 : Int32) = nI 103 from rfl, e2, b2_s]
  have pk : ∀ c, tkB T l a c = true → pkI T l a = nI c := fun c g => by
    have g := of_decide_eq_true g
    rw [pk_P g.1, g.2]
  cases h1 : tkB T l a 103 with
  | true =>
    rw [h1] at c2
    have c2' : TC s T n l (a + 1) N2 := c2
    obtain ⟨N3, e3, c3, k3, f3, r3⟩ := c_actG c2' (by rw [g2, pk 103 h1]; rfl)
    rw [if_neg (show ¬ bI true = 0 by decide), if_pos rfl]
    exact ⟨N3, e3, c3, k3, fr2.tr f3, r3.trans r2⟩
  | false =>
    rw [h1] at c2
    have c2' : TC s T n l a N2 := c2
    obtain ⟨N3, e3, c3, f3, r3⟩ := tc_take c2' (c := 120) (by decide)
    have fr3 : Fr wAc N N3 := fr2.tr (w14_Ac f3)
    have g3 : mI N3 142 0 = pkI T l a := (f3.2.2.1 142 0 (by unfold w14; omega)).trans g2
    rw [if_pos (show bI false = 0 from rfl), if_neg (c := false = true) (by decide), (R12 c2.1.1).2, b1_s, show (120 : Int32) = nI 120 from rfl, e3, b2_s]
    cases h2 : tkB T l a 120 with
    | true =>
      rw [h2] at c3
      have hal := (of_decide_eq_true h2).1
      have c3' : TC s T n l (a + 1) N3 := c3
      obtain ⟨N4, e4, c4, f4, r4⟩ := tc_num c3' (k := 2) (by decide) (by decide)
      have e4 : f_X10_number 1 2 N3 = some (enO (-1) (nmO T l (a + 1) 2), N4) := e4
      rw [if_neg (show ¬ bI true = 0 by decide), if_pos rfl, (R12 c3.1.1).1, b1_s, (R12 c3.1.1).2, b1_s, e4, b2_s, (st142 c4.1.1 _).2.1, b1_s]
      unfold acX
      cases hv : nmO T l (a + 1) 2 with
      | none =>
        rw [nm_none hv] at c4
        have c5 : TC s T n l (a + 1) (sI N4 142 1 (-1)) := c4.s142
        rw [show enO (-1) (none : Option Nat) = -1 from rfl, (R12 c5.1.1).1, b1_s, (ld142 c5.1.1).2.1, b1_s, mI_self, if_pos (by decide), rz0]
        exact ⟨_, rfl, c5, (fun x g => by cases g), (fr3.tr (w14_Ac f4)).tr (sAc _), r4.trans (r3.trans r2)⟩
      | some i =>
        have hib : i < 100 := nmO_b (by omega) hv
        have c5 : TC s T n l (nmA T l (a + 1) 2) (sI N4 142 1 (nI i)) := c4.s142
        rw [show enO (-1) (some i) = nI i from rfl, (R12 c5.1.1).1, b1_s, (ld142 c5.1.1).2.1, b1_s, mI_self, if_neg (nI_pos (by omega)), rz1]
        refine ⟨_, rfl, c5, fun x g => ?_, (fr3.tr (w14_Ac f4)).tr (sAc _), r4.trans (r3.trans r2)⟩
        have g : some ((1, nI i, 0, 0) : Ak) = some x := g
        cases g
        refine ⟨?_, by rw [mI_w, if_pos ⟨rfl, rfl⟩], fun q => absurd rfl q, fun q => by cases q⟩
        rw [mI_w, if_neg (by omega), f4.2.2.1 142 0 (by unfold w14; omega), g3, pk 120 h2]
        rfl
    | false =>
      rw [h2] at c3
      have c3' : TC s T n l a N3 := c3
      obtain ⟨N4, e4, c4, f4, r4⟩ := tc_take c3' (c := 115) (by decide)
      have fr4 : Fr wAc N N4 := fr3.tr (w14_Ac f4)
      have g4 : mI N4 142 0 = pkI T l a := (f4.2.2.1 142 0 (by unfold w14; omega)).trans g3
      rw [if_pos (show bI false = 0 from rfl), if_neg (c := false = true) (by decide), (R12 c3.1.1).2, b1_s, show (115 : Int32) = nI 115 from rfl, e4, b2_s]
      cases h3 : tkB T l a 115 with
      | true =>
        rw [h3] at c4
        have c4' : TC s T n l (a + 1) N4 := c4
        obtain ⟨N5, e5, c5, k5, f5, r5⟩ := c_actS c4' (by rw [g4, pk 115 h3]; rfl)
        rw [if_neg (show ¬ bI true = 0 by decide), if_pos rfl, e5, b2_s]
        have ez : (if bI (acS T l (a + 1)).1.isSome = 0 then rz 0 N5 else rz 1 N5) = some (bI (acS T l (a + 1)).1.isSome, N5) := by
          cases (acS T l (a + 1)).1.isSome with
          | true => rw [if_neg (show ¬ bI true = 0 by decide), rz1]; rfl
          | false => rw [if_pos (show bI false = 0 from rfl), rz0]; rfl
        rw [ez]
        exact ⟨N5, rfl, c5, k5, fr4.tr f5, r5.trans (r4.trans (r3.trans r2))⟩
      | false =>
        rw [h3] at c4
        rw [if_pos (show bI false = 0 from rfl), if_neg (c := false = true) (by decide), rz0]
        exact ⟨N4, rfl, c4, (fun x g => by cases g), fr4, r4.trans (r3.trans r2)⟩
end ACC

/-! station: the class -/
theorem RC_zst {s : St} {N : MM} {A : Ac} (hw : WF s) (h : RC s N) (hA : CAs s N A) (ok : okA (zP s) (zE s) A) (h1 : 1 ≤ A.1 + A.2.1) : RC (zst s A) (sI (sI (sI N 5 7 (nI (zP s + A.1))) 5 8 (nI (zE s + A.2.1))) 92 4 0) := by
  have ff : Fr (fun a k => (a = 5 ∧ (k = 7 ∨ k = 8)) ∨ (a = 92 ∧ k = 4)) N (sI (sI (sI N 5 7 (nI (zP s + A.1))) 5 8 (nI (zE s + A.2.1))) 92 4 0) := (((Fr.rf (W := fun a k => (a = 5 ∧ (k = 7 ∨ k = 8)) ∨ (a = 92 ∧ k = 4)) N).sI (Or.inl ⟨rfl, Or.inl rfl⟩)).sI (Or.inl ⟨rfl, Or.inr rfl⟩)).sI (Or.inr ⟨rfl, rfl⟩)
  have e57 : mI (sI (sI (sI N 5 7 (nI (zP s + A.1))) 5 8 (nI (zE s + A.2.1))) 92 4 0) 5 7 = nI (zP s + A.1) := by rw [mI_w, if_neg (by omega), mI_w, if_neg (by omega), mI_w, if_pos ⟨rfl, rfl⟩]
  have e58 : mI (sI (sI (sI N 5 7 (nI (zP s + A.1))) 5 8 (nI (zE s + A.2.1))) 92 4 0) 5 8 = nI (zE s + A.2.1) := by rw [mI_w, if_neg (by omega), mI_w, if_pos ⟨rfl, rfl⟩]
  have e92 : mI (sI (sI (sI N 5 7 (nI (zP s + A.1))) 5 8 (nI (zE s + A.2.1))) 92 4 0) 92 4 = nI 0 := by rw [mI_w, if_pos ⟨rfl, rfl⟩]; rfl
  have sh : Sh (sI (sI (sI N 5 7 (nI (zP s + A.1))) 5 8 (nI (zE s + A.2.1))) 92 4 0) := h.1
  generalize (sI (sI (sI N 5 7 (nI (zP s + A.1))) 5 8 (nI (zE s + A.2.1))) 92 4 0) = M at ff e57 e58 e92 sh
  obtain ⟨h0, ⟨t1, t2⟩, hrow, ⟨a1, a2, a3, a4, a5, a6, a7⟩, hp, hru, ⟨p1, p0, π, p2, p3, p4⟩, hk, ⟨s1, s2⟩⟩ := h
  obtain ⟨o1, o2, o3, o4⟩ := ok
  have hI := ff.2.2.1
  have hE8 := hw.1.2.1
  refine ⟨sh, ⟨?_, fun k hk => ?_⟩, hrow.fr ff (fun a k q => by omega), ⟨e57, e58, ?_, fun p hp => ?_, fun e he => ?_, fun p e hp he => ?_, fun p e hp hq he => ?_⟩, hp.frw ff (fun a k q => by omega), hru.fr ff (fun a k q => by omega), ⟨e92, Nat.zero_le _, π, fun j hj => ⟨(p2 j hj).1, (ff.2.2.2.2 93 j (by omega)).trans (p2 j hj).2⟩, p3, fun j hj => absurd hj (Nat.not_lt_zero j)⟩, fun i hi => ⟨(hk i hi).1.frw ff (fun a k q => by omega), Or.inr ⟨zs_kv i, ?_⟩⟩, ⟨?_, fun k hk => ?_⟩⟩
  · rw [hI 1 1 (by omega), t1]
    exact congrArg nI (zs_n (by omega) (by omega) (by omega)).symm
  · have hk : k < (zst s A).1 0 5 := hk
    rw [zs_n (by omega) (by omega) (by omega)] at hk
    rw [hI 2 k (by omega), t2 k hk]
    exact congrArg nI (zs_o (by omega) (by omega)).symm
  · rw [hI 5 9 (by omega), a3]
    exact congrArg nI (zs_n (by omega) (by omega) (by omega)).symm
  · have hp : p < zP s + A.1 := hp
    rw [hI 6 p (by omega), zs_sh]
    by_cases g : zP s ≤ p
    · rw [if_pos g]
      have := hA.2.2.1 (p - zP s) (by omega)
      rw [show zP s + (p - zP s) = p by omega] at this
      exact this
    · rw [if_neg g]; exact a4 p (by omega)
  · have he : e < zE s + A.2.1 := he
    rw [hI 7 e (by omega), hI 8 e (by omega), hI 9 e (by omega), hI 10 e (by omega), hI 11 e (by omega), hI 12 e (by omega)]
    show _ = nI ((zst s A).1 (1 + 1) e) ∧ _ = nI ((zst s A).1 (2 + 1) e) ∧ _ = nI ((zst s A).1 (3 + 1) e) ∧ _ = nI ((zst s A).1 (4 + 1) e) ∧ _ = nI ((zst s A).1 (5 + 1) e) ∧ _ = nI ((zst s A).1 (6 + 1) e)
    rw [zs_er (by omega) (by omega), zs_er (c := 2) (by omega) (by omega), zs_er (c := 3) (by omega) (by omega), zs_er (c := 4) (by omega) (by omega), zs_er (c := 5) (by omega) (by omega), zs_er (c := 6) (by omega) (by omega)]
    by_cases g : zE s ≤ e
    · rw [if_pos g, if_pos g, if_pos g, if_pos g, if_pos g, if_pos g]
      have := hA.2.2.2 (e - zE s) (by omega)
      rw [show zE s + (e - zE s) = e by omega] at this
      exact this
    · rw [if_neg g, if_neg g, if_neg g, if_neg g, if_neg g, if_neg g]
      exact a5 e (by omega)
  · rw [hI 13 _ (by omega), zs_wi]
    by_cases g : 8 * zP s ≤ 8 * p + e
    · have hp : p < zP s + A.1 := hp
      rw [if_pos g, a7 p e (by omega) (by omega) he]; rfl
    · rw [if_neg g]; exact a6 p e (by omega) he
  · have hp : zP s + A.1 ≤ p := hp
    rw [hI 13 _ (by omega)]; exact a7 p e (by omega) hq he
  · rw [hI 95 i (by omega), hI 96 i (by omega)]
    have hlt : ∀ a b, a ≤ zP s → b ≤ zE s → a ≤ zP (zst s A) ∧ b ≤ zE (zst s A) ∧ ¬ (a = zP (zst s A) ∧ b = zE (zst s A)) := by
      intro a b ha hb
      rw [zs_P, zs_E]
      exact ⟨by omega, by omega, fun q => by have := q.1; have := q.2; omega⟩
    rcases (hk i hi).2 with ⟨_, g1, g2⟩ | ⟨_, g | ⟨a, b, g1, g2, g3, g4, g5⟩⟩
    · have := hlt (zP s) (zE s) (Nat.le_refl _) (Nat.le_refl _)
      exact Or.inr ⟨zP s, zE s, this.1, this.2.1, this.2.2, g1, g2⟩
    · exact Or.inl g
    · have := hlt a b g1 g2
      exact Or.inr ⟨a, b, this.1, this.2.1, this.2.2, g4, g5⟩
  · rw [hI 133 4 (by omega), s1]
    exact congrArg nI (zs_n (by omega) (by omega) (by omega)).symm
  · have hk : k < (zst s A).1 0 4 := hk
    rw [zs_n (by omega) (by omega) (by omega)] at hk
    rw [hI 134 k (by omega), hI 135 k (by omega), hI 136 k (by omega)]
    show _ = nI ((zst s A).1 10 k) ∧ _ = nI ((zst s A).1 11 k) ∧ _ = nI ((zst s A).1 12 k)
    rw [zs_o (by omega) (by omega), zs_o (by omega) (by omega), zs_o (by omega) (by omega)]
    exact s2 k hk
theorem thA_le {T : Nat → Nat} {l a : Nat} (ha : a ≤ l) : thA T l a ≤ l := by
  unfold thA
  cases h : ixP1 T l a 3 with
  | none => exact ha
  | some i => have := (ixP_b (by decide) h).1; show a + 1 ≤ l; omega
theorem erO_le {T : Nat → Nat} {l a : Nat} (ha : a ≤ l) : (erO T l a).2 ≤ l := by
  unfold erO
  cases h1 : dgO T l a 0 9 with
  | none => exact ha
  | some w =>
    have b1x := dg_b h1
    dsimp only
    unfold er1
    cases h2 : dgO T l (a + 1) 1 9 with
    | none => show a + 1 ≤ l; omega
    | some la =>
      have b2x := dg_b h2
      dsimp only
      unfold er2
      by_cases h3 : tkB T l (a + 1 + 1) 64 = true
      · rw [if_pos h3]
        have h3x := (of_decide_eq_true h3).1
        cases h4 : nmO T l (a + 1 + 1 + 1) 2 with
        | none => show a + 1 + 1 + 1 ≤ l; omega
        | some fr =>
          have g4 : nmA T l (a + 1 + 1 + 1) 2 ≤ l := nmA_b (by omega)
          dsimp only
          unfold er3
          by_cases h5 : tkB T l (nmA T l (a + 1 + 1 + 1) 2) 45 = true
          · rw [if_pos h5]
            have h5x := (of_decide_eq_true h5).1
            cases h6 : nmO T l (nmA T l (a + 1 + 1 + 1) 2 + 1) 2 with
            | none => show nmA T l (a + 1 + 1 + 1) 2 + 1 ≤ l; omega
            | some ti =>
              have g6 : nmA T l (nmA T l (a + 1 + 1 + 1) 2 + 1) 2 ≤ l := nmA_b (by omega)
              dsimp only
              unfold erT
              by_cases h7 : ti < fr
              · rw [if_pos h7]; show _ - 1 ≤ l; omega
              · rw [if_neg h7]; exact adv_le (thA_le g6)
          · rw [if_neg h5]; exact g4
      · rw [if_neg h3]; show a + 1 + 1 ≤ l; omega
theorem liO_le {P E : Nat} {T : Nat → Nat} {l a : Nat} {A : Ac} (ha : a ≤ l) : (liO P E T l a A).2 ≤ l := by
  unfold liO
  by_cases h1 : tkB T l a 112 = true
  · have h1x := (of_decide_eq_true h1).1
    rw [if_pos h1]
    by_cases h2 : P + A.1 < 6
    · rw [if_pos h2]
      exact adv_le (by omega)
    · rw [if_neg h2]; exact ha
  · rw [if_neg h1]
    by_cases h3 : tkB T l a 101 = true
    · have h3x := (of_decide_eq_true h3).1
      rw [if_pos h3]
      by_cases h4 : E + A.2.1 < 8
      · rw [if_pos h4]; exact erO_le (by omega)
      · rw [if_neg h4]; exact ha
    · rw [if_neg h3]; exact ha
theorem stF_le {P E : Nat} {T : Nat → Nat} {n l : Nat} : ∀ (j a : Nat) (A : Ac), a ≤ l → (stF P E T n l j a A).2 ≤ l
  | 0, a, A, h => h
  | j + 1, a, A, h => by
    have hl := liO_le (P := P) (E := E) (T := T) (A := A) h
    cases hli : liO P E T l a A with
    | mk o a1 =>
      rw [hli] at hl
      have hl : a1 ≤ l := hl
      cases o with
      | none => rw [stF_n hli]; exact hl
      | some B =>
        rw [stF_s hli]
        by_cases h1 : l ≤ a1 ∧ ¬ l < n
        · rw [if_pos h1]; exact hl
        · rw [if_neg h1]
          by_cases h2 : tkB T l a1 59 = true
          · have h2x := (of_decide_eq_true h2).1
            rw [if_pos h2]; exact stF_le j (a1 + 1) B (by omega)
          · rw [if_neg h2]; exact hl
theorem c_stl {s : St} {T : Nat → Nat} {n l : Nat} (hw : WF s) (hl : l ≤ 76) : ∀ (j a fu : Nat) (A : Ac) (N : MM), l < j + a → 2 * (A.1 + A.2.1) ≤ a → 78 < fu + (A.1 + A.2.1) → okA (zP s) (zE s) A → TC s T n l a N → CAs s N A → ∃ N', f_X9_read_33 fu 5 1 (nI (A.1 + A.2.1 + 1)) N = some (match (stF (zP s) (zE s) T n l j a A).1 with | none => -1 - nI (stF (zP s) (zE s) T n l j a A).2 | some A' => nI (A'.1 + A'.2.1), N') ∧ ((stF (zP s) (zE s) T n l j a A).1 = none → RC s N') ∧ (∀ A', (stF (zP s) (zE s) T n l j a A).1 = some A' → ∃ N2, RC s N2 ∧ CAs s N2 A' ∧ N' = sI (sI N2 5 7 (nI (zP s + A'.1))) 5 8 (nI (zE s + A'.2.1))) ∧ Fr cW N N'
  | 0, a, fu, A, N, h1, h2, h3, ok, h, hA => by
    have := h.2.2.2.2.2.2.2.1
    omega
  | j + 1, a, fu, A, N, h1, h2, h3, ok, h, hA => by
    have ha := h.2.2.2.2.2.2.2.1
    cases fu with
    | zero => omega
    | succ fu =>
      obtain ⟨N1, e1, c1, k1, f1, r1⟩ := c_line h hA ok
      have fr1 : Fr cW N N1 := f1.mono (fun a k q => by unfold wSt at q; unfold cW; omega)
      rw [f_X9_read_33, if_neg (show ¬ (76 : Int32) < nI (A.1 + A.2.1 + 1) from nI_nlt (a := 76) (by omega) (by decide)), e1, b2_s]
      cases hli : liO (zP s) (zE s) T l a A with
      | mk o a1 =>
        rw [hli] at c1 k1
        have c1' : TC s T n l a1 N1 := c1
        cases o with
        | none =>
          rw [if_pos (show bI (none : Option Ac).isSome = 0 from rfl), tc_ref c1', b2_s, stF_n hli]
          exact ⟨N1, rfl, fun _ => c1'.1, (fun A' g => by cases g), fr1⟩
        | some B =>
          have kB := k1 B rfl
          have hgt := liO_gt hli
          have okB := liO_ok ok (by rw [hli])
          have hb := c1'.2.2.2.2.2
          rw [if_neg (show ¬ bI (some B).isSome = 0 from by show ¬ bI true = 0; decide), tc_end c1', b2_s, stF_s hli]
          have k84 : ¬ (l ≤ a1 ∧ ¬ l < n) → ∃ N', f_X9_read_84 (f_X9_read_33 fu) 5 1 (nI (A.1 + A.2.1 + 1)) N1 = some (match (if tkB T l a1 59 = true then stF (zP s) (zE s) T n l j (a1 + 1) B else (none, a1)).1 with | none => -1 - nI (if tkB T l a1 59 = true then stF (zP s) (zE s) T n l j (a1 + 1) B else (none, a1)).2 | some A' => nI (A'.1 + A'.2.1), N') ∧ ((if tkB T l a1 59 = true then stF (zP s) (zE s) T n l j (a1 + 1) B else (none, a1)).1 = none → RC s N') ∧ (∀ A', (if tkB T l a1 59 = true then stF (zP s) (zE s) T n l j (a1 + 1) B else (none, a1)).1 = some A' → ∃ N2, RC s N2 ∧ CAs s N2 A' ∧ N' = sI (sI N2 5 7 (nI (zP s + A'.1))) 5 8 (nI (zE s + A'.2.1))) ∧ Fr cW N N' := by
            intro _
            obtain ⟨N2, e2, c2, f2, r2⟩ := tc_take c1' (c := 59) (by decide)
            have fr2 : Fr cW N N2 := fr1.tr (w14_cW f2)
            unfold f_X9_read_84
            rw [show (59 : Int32) = nI 59 from rfl, e2, b2_s]
            cases htk : tkB T l a1 59 with
            | false =>
              rw [htk] at c2
              rw [if_pos (show bI false = 0 from rfl), tc_ref c2, b2_s, if_neg (by decide)]
              exact ⟨N2, rfl, fun _ => c2.1, (fun A' g => by cases g), fr2⟩
            | true =>
              rw [htk] at c2
              have c2' : TC s T n l (a1 + 1) N2 := c2
              obtain ⟨N3, e3, q3, p3, f3⟩ := c_stl hw hl j (a1 + 1) fu B N2 (by omega) (by omega) (by omega) okB.1 c2' (kB.fr f2)
              rw [if_neg (show ¬ bI true = 0 by decide), if_pos rfl, bn_s, nI_1, ← okB.2, e3]
              exact ⟨N3, rfl, q3, p3, fr2.tr f3⟩
          by_cases hend : l ≤ a1
          · rw [decide_eq_true hend, if_neg (show ¬ bI true = 0 by decide), tc_more c1', b2_s]
            by_cases hmo : l < n
            · rw [decide_eq_true hmo, if_neg (show ¬ bI true = 0 by decide), if_neg (c := l ≤ a1 ∧ ¬ l < n) (fun q => q.2 hmo)]
              exact k84 (fun q => q.2 hmo)
            · have s1 := c1'.1.1
              have s2 : Sh (sI N1 5 7 (nI (zP s + B.1))) := s1
              rw [decide_eq_false hmo, if_pos (show bI false = 0 from rfl), if_pos (c := l ≤ a1 ∧ ¬ l < n) ⟨hend, hmo⟩, gI_k 11 (O5 s1), b1_s, kB.1, pI_k 7 _ (O5 s1), b1_s, gI_k 12 (O5 s2), b1_s, mI_w, if_neg (by omega), kB.2.1, pI_k 8 _ (O5 s2), b1_s]
              refine ⟨_, by rw [← okB.2], (fun g => by cases g), (fun A' g => by cases g; exact ⟨N1, c1'.1, kB, rfl⟩), (fr1.sI (by unfold cW; omega)).sI (by unfold cW; omega)⟩
          · rw [decide_eq_false hend, if_pos (show bI false = 0 from rfl), if_neg (c := l ≤ a1 ∧ ¬ l < n) (fun q => hend q.1)]
            exact k84 (fun q => hend q.1)
theorem C_station {s : St} (hw : WF s) : OpC (fun M => f_X11_station 0 M) s (a_station s) (n_station s) := by
  intro M h
  have hL := hw.1.2.2.2.2.2.2.1
  have s0 := h.1
  have hwz : WF (z0 s) := W_z0 hw
  obtain ⟨M1, e1, c1, f1, r1⟩ := c_begin' hw h (m := 76) (by decide)
  have s1 := c1.1.1
  show ∃ M', f_X11_station 0 M = _ ∧ _
  unfold f_X11_station f_X11_station_0 f_X9_read f_X9_read_0
  rw [if_pos (sh_O s0 11 (by decide) rfl), sh_R s0 (a := 0) (k := 2) (b := 5) 11 (by decide) rfl (by decide), b1_s, sh_R s0 (a := 0) (k := 0) (b := 1) 11 (by decide) rfl (by decide), b1_s, if_pos (O5 s0), show (76 : Int32) = nI 76 from rfl, e1, b1_s, tc_emp c1, b2_s]
  by_cases hz : zL s = 0
  · rw [(stn_0 hz).1, (stn_0 hz).2, decide_eq_true hz, if_neg (show ¬ bI true = 0 by decide), b2_s, if_pos (by decide)]
    exact ⟨M1, rfl, c1.1, f1⟩
  · have hP := c1.1.2.2.2.1.1
    have hE := c1.1.2.2.2.1.2.1
    have c2 : TC (z0 s) (ztap s) (zL s) (min (zL s) 76) 0 (sI M1 5 11 (nI (zP s))) := c1.sS (by unfold wS; omega)
    have c3 : TC (z0 s) (ztap s) (zL s) (min (zL s) 76) 0 (sI (sI M1 5 11 (nI (zP s))) 5 12 (nI (zE s))) := c2.sS (by unfold wS; omega)
    have A3 : CAs (z0 s) (sI (sI M1 5 11 (nI (zP s))) 5 12 (nI (zE s))) (0, 0, fun _ _ => 0) := ⟨by rw [mI_w, if_neg (by omega), mI_w, if_pos ⟨rfl, rfl⟩]; rfl, by rw [mI_w, if_pos ⟨rfl, rfl⟩]; rfl, fun i hi => absurd hi (Nat.not_lt_zero i), fun i hi => absurd hi (Nat.not_lt_zero i)⟩
    have fr3 : Fr cW M (sI (sI M1 5 11 (nI (zP s))) 5 12 (nI (zE s))) := (f1.sI (by unfold cW; omega)).sI (by unfold cW; omega)
    obtain ⟨N4, e4, q4, p4, f4⟩ := c_stl hwz (T := ztap s) (n := zL s) (l := min (zL s) 76) (by omega) 77 0 1024 (0, 0, fun _ _ => 0) _ (by omega) (by show 2 * (0 + 0) ≤ 0; omega) (by show 78 < 1024 + (0 + 0); omega) (okA_0 hwz) c3 A3
    have hP' : mI M1 5 7 = nI (zP s) := hP
    have hE' : mI (sI M1 5 11 (nI (zP s))) 5 8 = nI (zE s) := by rw [mI_w, if_neg (by omega)]; exact hE
    have e4 : f_X9_read_33 1024 5 1 1 (sI (sI M1 5 11 (nI (zP s))) 5 12 (nI (zE s))) = some (match (stnR s).1 with | none => -1 - nI (stnR s).2 | some A' => nI (A'.1 + A'.2.1), N4) := e4
    have q4 : (stnR s).1 = none → RC (z0 s) N4 := q4
    have p4 : ∀ A', (stnR s).1 = some A' → ∃ N2, RC (z0 s) N2 ∧ CAs (z0 s) N2 A' ∧ N4 = sI (sI N2 5 7 (nI (zP (z0 s) + A'.1))) 5 8 (nI (zE (z0 s) + A'.2.1)) := p4
    rw [decide_eq_false hz, if_pos (show bI false = 0 from rfl), gI_k 7 (O5 s1), b1_s, hP', pI_k 11 _ (O5 s1), b1_s, gI_k 8 (O5 c2.1.1), b1_s, hE', pI_k 12 _ (O5 c2.1.1), b1_s, e4, b2_s]
    cases hr : stnR s with
    | mk o q =>
      rw [hr] at q4 p4
      cases o with
      | none =>
        have hq : q ≤ 80 := by
          have k := stF_le (P := zP s) (E := zE s) (T := ztap s) (n := zL s) (l := min (zL s) 76) 77 0 (0, 0, fun _ _ => 0) (by omega)
          have k : (stnR s).2 ≤ min (zL s) 76 := k
          rw [hr] at k
          have k : q ≤ min (zL s) 76 := k
          omega
        rw [(stn_n hz hr).1, (stn_n hz hr).2, if_pos]
        · exact ⟨N4, rfl, q4 rfl, fr3.tr f4⟩
        · show -1 - nI q ≤ 0
          rw [fa_le, fb_subI (by rw [nI_toInt (by omega), show (-1 : Int32).toInt = -1 from by decide]; omega) (by rw [nI_toInt (by omega), show (-1 : Int32).toInt = -1 from by decide]; omega), nI_toInt (by omega), show (-1 : Int32).toInt = -1 from by decide, show (0 : Int32).toInt = 0 from by decide]
          omega
      | some A =>
        obtain ⟨N2, k1, k2, k3⟩ := p4 A rfl
        have okx := stF_ok (okA_0 hw) (by show (stnR s).1 = some A; rw [hr])
        have hpos : 1 ≤ A.1 + A.2.1 := by have := okx.2; omega
        have hA6 := okx.1.1
        have hA8 := okx.1.2.1
        have s4 : Sh N4 := by rw [k3]; exact k1.1
        rw [(stn_s hz hr).1, (stn_s hz hr).2]
        dsimp only
        rw [if_neg (nI_nle (by omega) (by omega)), sh_R s4 (a := 0) (k := 9) (b := 92) 11 (by decide) rfl (by decide), b1_s]
        refine ⟨sI N4 92 4 0, ?_, ?_, (fr3.tr f4).sI (by unfold cW; omega)⟩
        · unfold f_X4_drop f_X4_drop_0
          rw [if_pos (sh_O s4 4 (by decide) rfl), pI_k 4 _ (sh_O s4 4 (by decide) rfl), b1_s, b1_s]
        · rw [k3]
          exact RC_zst hwz k1 k2 okx.1 hpos

/-! station: the reference puts in -/
def wF1 (s : St) (a k : Nat) : Prop := (a = 143 ∧ k = 3) ∨ (a = 145 ∧ zP s ≤ k) ∨ (a = 146 ∧ 8 * zP s ≤ k)
def wF2 (s : St) (a k : Nat) : Prop := (a = 143 ∧ k = 4) ∨ (147 ≤ a ∧ a ≤ 152 ∧ zE s ≤ k)
def wF (s : St) (a k : Nat) : Prop := wF1 s a k ∨ wF2 s a k ∨ (a = 143 ∧ (k = 5 ∨ k = 33))
def RP (s : St) (M : MM) (A : Ac) (k : Nat) : Prop := mI M 143 3 = nI (zP s + k) ∧ (∀ i, i < k → mI M 145 (zP s + i) = nI (A.2.2 0 i)) ∧ ∀ i e, i < k → e < 8 → mI M 146 (8 * (zP s + i) + e) = 1
def RF (M : MM) (e : Nat) (r : Nat → Nat) : Prop := mI M 147 e = nI (r 1) ∧ mI M 148 e = nI (r 2) ∧ mI M 149 e = nI (r 3) ∧ mI M 150 e = nI (r 4) ∧ mI M 151 e = nI (r 5) ∧ mI M 152 e = nI (r 6)
theorem RF.fr {N N' : MM} {e : Nat} {r : Nat → Nat} {W : Nat → Nat → Prop} (h : RF N e r) (f : Fr W N N') (w : ∀ a, 147 ≤ a → a ≤ 152 → ¬ W a e) : RF N' e r := ⟨(f.2.2.1 147 e (w 147 (by omega) (by omega))).trans h.1, (f.2.2.1 148 e (w 148 (by omega) (by omega))).trans h.2.1, (f.2.2.1 149 e (w 149 (by omega) (by omega))).trans h.2.2.1, (f.2.2.1 150 e (w 150 (by omega) (by omega))).trans h.2.2.2.1, (f.2.2.1 151 e (w 151 (by omega) (by omega))).trans h.2.2.2.2.1, (f.2.2.1 152 e (w 152 (by omega) (by omega))).trans h.2.2.2.2.2⟩
def RQ (s : St) (M : MM) (A : Ac) (k : Nat) : Prop := mI M 143 4 = nI (zE s + k) ∧ ∀ j, j < k → RF M (zE s + j) (fun c => A.2.2 c j)
theorem nz_n {v : Nat} (h : v ≤ 1) : nz (nI v) = nI v := by
  have : v = 0 ∨ v = 1 := by omega
  rcases this with e | e
  · subst e; decide
  · subst e; decide
theorem RR_zst {s : St} {N M : MM} {A : Ac} (hw : WF s) (h : RR s N) (ok : okA (zP s) (zE s) A) (h1 : 1 ≤ A.1 + A.2.1) (hP : RP s M A A.1) (hQ : RQ s M A A.2.1) (e33 : mI M 143 33 = nI 0) (e5 : mI M 143 5 = mI N 143 5 + 1) (ff : Fr (wF s) N M) (hr : mR M = mR N) : RR (zst s A) M := by
  have sh : Sh M := ff.sh' hr h.1
  obtain ⟨h0, ⟨t1, t2⟩, hrow, ⟨a1, a2, a3, a4, a5, a6⟩, hp, hru, ⟨p1, p4⟩, ⟨c, k1, k2, hk⟩, ⟨s1, s2⟩⟩ := h
  obtain ⟨o1, o2, o3, o4⟩ := ok
  have hI := ff.2.2.1
  refine ⟨sh, ⟨?_, fun k hk => ?_⟩, hrow.fr ff (fun a k q => by unfold wF wF1 wF2; omega), ⟨hP.1, hQ.1, ?_, fun p hp => ?_, fun e he => ?_, fun p e hp he => ?_⟩, hp.frw ff (fun a k q => by unfold wF wF1 wF2; omega), hru.fr ff (fun a k q => by unfold wF wF1 wF2; omega), ⟨e33, fun j hj => absurd hj (Nat.not_lt_zero j)⟩, ⟨c + 1, by rw [zs_P, zs_E]; omega, by rw [e5, k2, nI_1], fun i hi => ⟨(hk i hi).1.frw ff (fun a k q => by unfold wF wF1 wF2; omega), Or.inr ⟨zs_kv i, ?_⟩⟩⟩, ⟨?_, fun k hk => ?_⟩⟩
  · rw [hI 143 18 (by unfold wF wF1 wF2; omega), t1]
    exact congrArg nI (zs_n (by omega) (by omega) (by omega)).symm
  · have hk : k < (zst s A).1 0 5 := hk
    rw [zs_n (by omega) (by omega) (by omega)] at hk
    rw [hI 155 k (by unfold wF wF1 wF2; omega), t2 k hk]
    exact congrArg nI (zs_o (by omega) (by omega)).symm
  · rw [hI 143 6 (by unfold wF wF1 wF2; omega), a3]
    exact congrArg nI (zs_n (by omega) (by omega) (by omega)).symm
  · have hp : p < zP s + A.1 := hp
    rw [zs_sh]
    by_cases g : zP s ≤ p
    · rw [if_pos g]
      have := hP.2.1 (p - zP s) (by omega)
      rw [show zP s + (p - zP s) = p by omega] at this
      exact this
    · rw [if_neg g, hI 145 p (by unfold wF wF1 wF2; omega)]; exact a4 p (by omega)
  · have he : e < zE s + A.2.1 := he
    show _ = nI ((zst s A).1 (1 + 1) e) ∧ _ = nI ((zst s A).1 (2 + 1) e) ∧ _ = nI ((zst s A).1 (3 + 1) e) ∧ _ = nI ((zst s A).1 (4 + 1) e) ∧ _ = nI ((zst s A).1 (5 + 1) e) ∧ _ = nI ((zst s A).1 (6 + 1) e)
    rw [zs_er (by omega) (by omega), zs_er (c := 2) (by omega) (by omega), zs_er (c := 3) (by omega) (by omega), zs_er (c := 4) (by omega) (by omega), zs_er (c := 5) (by omega) (by omega), zs_er (c := 6) (by omega) (by omega)]
    by_cases g : zE s ≤ e
    · rw [if_pos g, if_pos g, if_pos g, if_pos g, if_pos g, if_pos g]
      have := hQ.2 (e - zE s) (by omega)
      rw [show zE s + (e - zE s) = e by omega] at this
      exact this
    · rw [if_neg g, if_neg g, if_neg g, if_neg g, if_neg g, if_neg g, hI 147 e (by unfold wF wF1 wF2; omega), hI 148 e (by unfold wF wF1 wF2; omega), hI 149 e (by unfold wF wF1 wF2; omega), hI 150 e (by unfold wF wF1 wF2; omega), hI 151 e (by unfold wF wF1 wF2; omega), hI 152 e (by unfold wF wF1 wF2; omega)]
      exact a5 e (by omega)
  · rw [zs_wi]
    by_cases g : 8 * zP s ≤ 8 * p + e
    · have hp : p < zP s + A.1 := hp
      have := hP.2.2 (p - zP s) e (by omega) he
      rw [show zP s + (p - zP s) = p by omega] at this
      rw [if_pos g, this]; rfl
    · rw [if_neg g, hI 146 _ (by unfold wF wF1 wF2; omega)]; exact a6 p e (by omega) he
  · rw [hI 180 i (by unfold wF wF1 wF2; omega), hI 181 i (by unfold wF wF1 wF2; omega)]
    rcases (hk i hi).2 with ⟨_, g1, g2⟩ | ⟨_, g | ⟨a, g1, g2, g3⟩⟩
    · exact Or.inr ⟨c, by omega, g1, g2⟩
    · exact Or.inl g
    · exact Or.inr ⟨a, by omega, g2, g3⟩
  · rw [hI 143 51 (by unfold wF wF1 wF2; omega), s1]
    exact congrArg nI (zs_n (by omega) (by omega) (by omega)).symm
  · have hk : k < (zst s A).1 0 4 := hk
    rw [zs_n (by omega) (by omega) (by omega)] at hk
    rw [hI 176 k (by unfold wF wF1 wF2; omega), hI 177 k (by unfold wF wF1 wF2; omega), hI 178 k (by unfold wF wF1 wF2; omega)]
    show _ = nI ((zst s A).1 10 k) ∧ _ = nI ((zst s A).1 11 k) ∧ _ = nI ((zst s A).1 12 k)
    rw [zs_o (by omega) (by omega), zs_o (by omega) (by omega), zs_o (by omega) (by omega)]
    exact s2 k hk
theorem r_pp {s : St} {N Q : MM} {A : Ac} {k f : Nat} (x : Int32) (h0 : Sh N) (hA : RAs N A) (ok : okA (zP s) (zE s) A) (hk : k < A.1) (hi : RP s Q A k) (fQ : Fr (wF1 s) N Q) (rQ : mR Q = mR N) : ∃ Q', f_X12_station_86 (f + 1) 143 x (nI k) Q = f_X12_station_86 f 143 x (nI (k + 1)) Q' ∧ RP s Q' A (k + 1) ∧ Fr (wF1 s) N Q' ∧ mR Q' = mR N := by
  have sQ := fQ.sh' rQ h0
  obtain ⟨o1, o2, o3, o4⟩ := ok
  have hb := o3 k hk
  have e24 : mI Q 143 24 = nI A.1 := (fQ.2.2.1 143 24 (by unfold wF1; omega)).trans hA.1
  have e156 : mI Q 156 k = nI (A.2.2 0 k) := (fQ.2.2.1 156 k (by unfold wF1; omega)).trans (hA.2.2.1 k hk)
  have f1 : Fr (wF1 s) Q (sI Q 145 (zP s + k) (nI (A.2.2 0 k))) := (Fr.rf (W := wF1 s) Q).sI (by unfold wF1; omega)
  have s1 : Sh (sI Q 145 (zP s + k) (nI (A.2.2 0 k))) := sQ
  have e3 : mI (sI Q 145 (zP s + k) (nI (A.2.2 0 k))) 143 3 = nI (zP s + k) := by rw [mI_w, if_neg (by omega)]; exact hi.1
  obtain ⟨M2, f2, e2, cy⟩ := lcp (fun g e R => f_X12_station_114 (f_X12_station_86 f) g 143 x (nI k) (nI e) R) 146 (8 * (zP s + k)) 8 (fun _ => 1) (sI Q 145 (zP s + k) (nI (A.2.2 0 k))) (fun g e R he hc => by
    show f_X12_station_114 _ (g + 1) _ _ _ _ _ = f_X12_station_114 _ g _ _ _ _ _
    have sR := hc.sh s1
    have e3R : mI R 143 3 = nI (zP s + k) := (hc.frm.2.2.1 143 3 (by omega)).trans e3
    rw [f_X12_station_114, if_neg (show ¬ (8 : Int32) ≤ nI e from nI_ge (b := 8) he (by decide)), sh_R sR (a := 143) (k := 8) (b := 146) 12 (by decide) rfl (by decide), b1_s, gI_k 3 (O143 sR), b1_s, e3R, n8m, nI_add, st_146 sR _ (by omega), b1_s, bn_s, nI_1]) (by decide)
  have s2 := cy.sh s1
  have g2 := cy.frm
  have e3' : mI M2 143 3 = nI (zP s + k) := (g2.2.2.1 143 3 (by omega)).trans e3
  have e2' : f_X12_station_114 (f_X12_station_86 f) 1024 143 x (nI k) (nI 0) (sI Q 145 (zP s + k) (nI (A.2.2 0 k))) = f_X12_station_114 (f_X12_station_86 f) (f2 + 1) 143 x (nI k) (nI 8) M2 := e2
  rw [nI_0] at e2'
  refine ⟨sI M2 143 3 (nI (zP s + (k + 1))), ?_, ⟨by rw [mI_w, if_pos ⟨rfl, rfl⟩], fun i hi' => ?_, fun i e hi' he => ?_⟩, ((fQ.tr f1).tr (g2.mono (fun a j q => by unfold wF1; omega))).sI (by unfold wF1; omega), cy.2.2.2.1.trans rQ⟩
  · rw [f_X12_station_86, gI_k 24 (O143 sQ), b1_s, e24, if_neg (nI_ge hk (by omega)), sh_R sQ (a := 143) (k := 7) (b := 145) 12 (by decide) rfl (by decide), b1_s, gI_k 3 (O143 sQ), b1_s, hi.1, sh_R sQ (a := 143) (k := 22) (b := 156) 12 (by decide) rfl (by decide), b1_s, ld_156 sQ (by omega), b1_s, e156, st_145 sQ _ (by omega), b1_s, nz_n hb, e2', f_X12_station_114, if_pos (show (8 : Int32) ≤ nI 8 by decide), gI_k 3 (O143 s2), b1_s, e3', nI_1, pI_k 3 _ (O143 s2), b1_s, bn_s, nI_1, Nat.add_assoc]
  · rw [mI_w, if_neg (by omega), g2.2.2.1 145 _ (by omega), mI_w]
    by_cases e : i = k
    · rw [if_pos ⟨rfl, by rw [e]⟩, e]
    · rw [if_neg (by omega)]; exact hi.2.1 i (by omega)
  · rw [mI_w, if_neg (by omega), cy.2.2.2.2]
    by_cases ei : i = k
    · rw [if_pos ⟨rfl, by omega, by omega⟩]
    · rw [if_neg (by omega), mI_w, if_neg (by omega)]; exact hi.2.2 i e (by omega) he
theorem r_pe {s : St} {N Q : MM} {A : Ac} {k f : Nat} (x : Int32) (h0 : Sh N) (hA : RAs N A) (ok : okA (zP s) (zE s) A) (hk : k < A.2.1) (hi : RQ s Q A k) (fQ : Fr (wF2 s) N Q) (rQ : mR Q = mR N) : ∃ Q', f_X12_station_162 (f + 1) 143 x (nI k) Q = f_X12_station_162 f 143 x (nI (k + 1)) Q' ∧ RQ s Q' A (k + 1) ∧ Fr (wF2 s) N Q' ∧ mR Q' = mR N := by
  have sQ := fQ.sh' rQ h0
  obtain ⟨o1, o2, o3, o4⟩ := ok
  have hr : RE Q k (fun c => A.2.2 c k) := (hA.2.2.2 k hk).fr fQ (fun j _ => by unfold wF2; omega)
  have hb : A.2.2 6 k ≤ 1 := (o4 k hk).2.2.2.2.2
  have e25 : mI Q 143 25 = nI A.2.1 := (fQ.2.2.1 143 25 (by unfold wF2; omega)).trans hA.2.1
  have st : ∀ (R : MM), Sh R → Fr (fun a j => 147 ≤ a ∧ a ≤ 152 ∧ j = zE s + k) Q R → (gI 12 4 143 R = some (nI (zE s + k)) ∧ gR 12 23 143 R = some 157 ∧ ldI 157 (nI (6 * k)) R = some (nI (A.2.2 1 k)) ∧ ldI 157 (nI (6 * k + 1)) R = some (nI (A.2.2 2 k)) ∧ ldI 157 (nI (6 * k + 2)) R = some (nI (A.2.2 3 k)) ∧ ldI 157 (nI (6 * k + 3)) R = some (nI (A.2.2 4 k)) ∧ ldI 157 (nI (6 * k + 4)) R = some (nI (A.2.2 5 k)) ∧ ldI 157 (nI (6 * k + 5)) R = some (nI (A.2.2 6 k))) := by
    intro R sR fR
    refine ⟨by rw [gI_k 4 (O143 sR), fR.2.2.1 143 4 (by omega), hi.1], R157 sR, ?_, ?_, ?_, ?_, ?_, ?_⟩
    · rw [ld_157 sR (by omega), fR.2.2.1 157 _ (by omega), hr.1]
    · rw [ld_157 sR (by omega), fR.2.2.1 157 _ (by omega), hr.2.1]
    · rw [ld_157 sR (by omega), fR.2.2.1 157 _ (by omega), hr.2.2.1]
    · rw [ld_157 sR (by omega), fR.2.2.1 157 _ (by omega), hr.2.2.2.1]
    · rw [ld_157 sR (by omega), fR.2.2.1 157 _ (by omega), hr.2.2.2.2.1]
    · rw [ld_157 sR (by omega), fR.2.2.1 157 _ (by omega), hr.2.2.2.2.2]
  have hE8 : zE s + k < 8 := by omega
  have w : ∀ {R : MM} {c : Nat} {v : Int32}, Fr (fun a j => 147 ≤ a ∧ a ≤ 152 ∧ j = zE s + k) Q R → 147 ≤ c → c ≤ 152 → Fr (fun a j => 147 ≤ a ∧ a ≤ 152 ∧ j = zE s + k) Q (sI R c (zE s + k) v) := fun fR h1 h2 => fR.sI ⟨h1, h2, rfl⟩
  have x0 := st Q sQ (Fr.rf Q)
  have g1 := w (c := 147) (v := nI (A.2.2 1 k)) (Fr.rf Q) (by omega) (by omega)
  have s1 : Sh (sI Q 147 (zE s + k) (nI (A.2.2 1 k))) := sQ
  have x1 := st _ s1 g1
  have g2 := w (c := 148) (v := nI (A.2.2 2 k)) g1 (by omega) (by omega)
  have s2 : Sh (sI (sI Q 147 (zE s + k) (nI (A.2.2 1 k))) 148 (zE s + k) (nI (A.2.2 2 k))) := sQ
  have x2 := st _ s2 g2
  have g3 := w (c := 149) (v := nI (A.2.2 3 k)) g2 (by omega) (by omega)
  have s3 : Sh (sI (sI (sI Q 147 (zE s + k) (nI (A.2.2 1 k))) 148 (zE s + k) (nI (A.2.2 2 k))) 149 (zE s + k) (nI (A.2.2 3 k))) := sQ
  have x3 := st _ s3 g3
  have g4 := w (c := 150) (v := nI (A.2.2 4 k)) g3 (by omega) (by omega)
  have s4 : Sh (sI (sI (sI (sI Q 147 (zE s + k) (nI (A.2.2 1 k))) 148 (zE s + k) (nI (A.2.2 2 k))) 149 (zE s + k) (nI (A.2.2 3 k))) 150 (zE s + k) (nI (A.2.2 4 k))) := sQ
  have x4 := st _ s4 g4
  have g5 := w (c := 151) (v := nI (A.2.2 5 k)) g4 (by omega) (by omega)
  have s5 : Sh (sI (sI (sI (sI (sI Q 147 (zE s + k) (nI (A.2.2 1 k))) 148 (zE s + k) (nI (A.2.2 2 k))) 149 (zE s + k) (nI (A.2.2 3 k))) 150 (zE s + k) (nI (A.2.2 4 k))) 151 (zE s + k) (nI (A.2.2 5 k))) := sQ
  have x5 := st _ s5 g5
  have g6 := w (c := 152) (v := nI (A.2.2 6 k)) g5 (by omega) (by omega)
  have s6 : Sh (sI (sI (sI (sI (sI (sI Q 147 (zE s + k) (nI (A.2.2 1 k))) 148 (zE s + k) (nI (A.2.2 2 k))) 149 (zE s + k) (nI (A.2.2 3 k))) 150 (zE s + k) (nI (A.2.2 4 k))) 151 (zE s + k) (nI (A.2.2 5 k))) 152 (zE s + k) (nI (A.2.2 6 k))) := sQ
  have x6 := st _ s6 g6
  have hgR : ∀ {R : MM}, Sh R → gR 12 9 143 R = some 147 ∧ gR 12 10 143 R = some 148 ∧ gR 12 11 143 R = some 149 ∧ gR 12 12 143 R = some 150 ∧ gR 12 13 143 R = some 151 ∧ gR 12 14 143 R = some 152 := fun h => ⟨sh_R h 12 (by decide) rfl (by decide), sh_R h 12 (by decide) rfl (by decide), sh_R h 12 (by decide) rfl (by decide), sh_R h 12 (by decide) rfl (by decide), sh_R h 12 (by decide) rfl (by decide), sh_R h 12 (by decide) rfl (by decide)⟩
  have cl : RF (sI (sI (sI (sI (sI (sI Q 147 (zE s + k) (nI (A.2.2 1 k))) 148 (zE s + k) (nI (A.2.2 2 k))) 149 (zE s + k) (nI (A.2.2 3 k))) 150 (zE s + k) (nI (A.2.2 4 k))) 151 (zE s + k) (nI (A.2.2 5 k))) 152 (zE s + k) (nI (A.2.2 6 k))) (zE s + k) (fun c => A.2.2 c k) := by
    refine ⟨?_, ?_, ?_, ?_, ?_, ?_⟩
    · rw [mI_w, if_neg (by omega), mI_w, if_neg (by omega), mI_w, if_neg (by omega), mI_w, if_neg (by omega), mI_w, if_neg (by omega), mI_w, if_pos ⟨rfl, rfl⟩]
    · rw [mI_w, if_neg (by omega), mI_w, if_neg (by omega), mI_w, if_neg (by omega), mI_w, if_neg (by omega), mI_w, if_pos ⟨rfl, rfl⟩]
    · rw [mI_w, if_neg (by omega), mI_w, if_neg (by omega), mI_w, if_neg (by omega), mI_w, if_pos ⟨rfl, rfl⟩]
    · rw [mI_w, if_neg (by omega), mI_w, if_neg (by omega), mI_w, if_pos ⟨rfl, rfl⟩]
    · rw [mI_w, if_neg (by omega), mI_w, if_pos ⟨rfl, rfl⟩]
    · rw [mI_w, if_pos ⟨rfl, rfl⟩]
  have stz : ∀ (v : Int32), nz v = nI (A.2.2 6 k) → f_X12_station_292 (f_X12_station_162 f) 143 x (nI k) v (nI (zE s + k)) 152 (sI (sI (sI (sI (sI Q 147 (zE s + k) (nI (A.2.2 1 k))) 148 (zE s + k) (nI (A.2.2 2 k))) 149 (zE s + k) (nI (A.2.2 3 k))) 150 (zE s + k) (nI (A.2.2 4 k))) 151 (zE s + k) (nI (A.2.2 5 k))) = f_X12_station_162 f 143 x (nI (k + 1)) (sI (sI (sI (sI (sI (sI (sI Q 147 (zE s + k) (nI (A.2.2 1 k))) 148 (zE s + k) (nI (A.2.2 2 k))) 149 (zE s + k) (nI (A.2.2 3 k))) 150 (zE s + k) (nI (A.2.2 4 k))) 151 (zE s + k) (nI (A.2.2 5 k))) 152 (zE s + k) (nI (A.2.2 6 k))) 143 4 (nI (zE s + (k + 1)))) := by
    intro v hv
    unfold f_X12_station_292
    rw [st_152 s5 _ hE8, b1_s, hv, x6.1, b1_s, nI_1, pI_k 4 _ (O143 s6), b1_s, bn_s, nI_1, Nat.add_assoc]
  refine ⟨sI (sI (sI (sI (sI (sI (sI Q 147 (zE s + k) (nI (A.2.2 1 k))) 148 (zE s + k) (nI (A.2.2 2 k))) 149 (zE s + k) (nI (A.2.2 3 k))) 150 (zE s + k) (nI (A.2.2 4 k))) 151 (zE s + k) (nI (A.2.2 5 k))) 152 (zE s + k) (nI (A.2.2 6 k))) 143 4 (nI (zE s + (k + 1))), ?_, ⟨by rw [mI_w, if_pos ⟨rfl, rfl⟩], fun j hj => ?_⟩, (fQ.tr (g6.mono (fun a j q => by unfold wF2; omega))).sI (by unfold wF2; omega), rQ⟩
  · rw [f_X12_station_162, gI_k 25 (O143 sQ), b1_s, e25, if_neg (nI_ge hk (by omega)), n6m, bn_s, (hgR sQ).1, b1_s, x0.1, b1_s, x0.2.1, b1_s, x0.2.2.1, b1_s, st_147 sQ _ hE8, b1_s, (hgR s1).2.1, b1_s, x1.1, b1_s, x1.2.1, b1_s, nI_1, x1.2.2.2.1, b1_s, st_148 s1 _ hE8, b1_s, (hgR s2).2.2.1, b1_s, x2.1, b1_s, x2.2.1, b1_s, nI_2, x2.2.2.2.2.1, b1_s, st_149 s2 _ hE8, b1_s, (hgR s3).2.2.2.1, b1_s, x3.1, b1_s, x3.2.1, b1_s, nI_3, x3.2.2.2.2.2.1, b1_s, st_150 s3 _ hE8, b1_s, (hgR s4).2.2.2.2.1, b1_s, x4.1, b1_s, x4.2.1, b1_s, nI_4, x4.2.2.2.2.2.2.1, b1_s, st_151 s4 _ hE8, b1_s, (hgR s5).2.2.2.2.2, b1_s, x5.1, b1_s, x5.2.1, b1_s, nI_5, x5.2.2.2.2.2.2.2, b1_s]
    have h01 : A.2.2 6 k = 0 ∨ A.2.2 6 k = 1 := by omega
    rcases h01 with e | e
    · rw [if_neg (show ¬ nI (A.2.2 6 k) = 1 by rw [e]; decide)]
      exact stz 0 (by rw [e]; decide)
    · rw [if_pos (show nI (A.2.2 6 k) = 1 by rw [e]; rfl)]
      exact stz 1 (by rw [e]; decide)
  · have f7 : Fr (fun a j => a = 143 ∧ j = 4) (sI (sI (sI (sI (sI (sI Q 147 (zE s + k) (nI (A.2.2 1 k))) 148 (zE s + k) (nI (A.2.2 2 k))) 149 (zE s + k) (nI (A.2.2 3 k))) 150 (zE s + k) (nI (A.2.2 4 k))) 151 (zE s + k) (nI (A.2.2 5 k))) 152 (zE s + k) (nI (A.2.2 6 k))) (sI (sI (sI (sI (sI (sI (sI Q 147 (zE s + k) (nI (A.2.2 1 k))) 148 (zE s + k) (nI (A.2.2 2 k))) 149 (zE s + k) (nI (A.2.2 3 k))) 150 (zE s + k) (nI (A.2.2 4 k))) 151 (zE s + k) (nI (A.2.2 5 k))) 152 (zE s + k) (nI (A.2.2 6 k))) 143 4 (nI (zE s + (k + 1)))) := (Fr.rf (W := fun a j => a = 143 ∧ j = 4) _).sI ⟨rfl, rfl⟩
    by_cases e : j = k
    · rw [e]
      exact cl.fr f7 (fun a _ _ => by omega)
    · exact ((hi.2 j (by omega)).fr g6 (fun a _ _ => by omega)).fr f7 (fun a _ _ => by omega)
theorem r_stf {s : St} {N : MM} {A : Ac} {n : Nat} (hw : WF s) (h : RR s N) (hA : RAs N A) (ok : okA (zP s) (zE s) A) (h1 : 1 ≤ A.1 + A.2.1) (hn : 1 ≤ n) (hn2 : n ≤ 80) : ∃ N', f_X12_station_86 1024 143 (nI n) 0 N = some (nI (A.1 + A.2.1), N') ∧ RR (zst s A) N' ∧ Fr rW N N' ∧ mR N' = mR N := by
  have h0 := h.1
  have o1 := ok.1
  have o2 := ok.2.1
  obtain ⟨f1, Q1, e1, i1, g1, r1⟩ := lpg (fun f k Q => f_X12_station_86 f 143 (nI n) (nI k) Q) (fun k Q => RP s Q A k ∧ Fr (wF1 s) N Q ∧ mR Q = mR N) A.1 (fun f k Q hk hi => r_pp (nI n) h0 hA ok hk hi.1 hi.2.1 hi.2.2) 1024 0 N (by omega) (by omega) ⟨⟨h.2.2.2.1.1, fun i hi => absurd hi (Nat.not_lt_zero i), fun i e hi => absurd hi (Nat.not_lt_zero i)⟩, Fr.rf N, rfl⟩
  have s1 := g1.sh' r1 h0
  have A1 : RAs Q1 A := ⟨(g1.2.2.1 143 24 (by unfold wF1; omega)).trans hA.1, (g1.2.2.1 143 25 (by unfold wF1; omega)).trans hA.2.1, fun i hi => (g1.2.2.1 156 _ (by unfold wF1; omega)).trans (hA.2.2.1 i hi), fun j hj => (hA.2.2.2 j hj).fr g1 (fun k _ => by unfold wF1; omega)⟩
  obtain ⟨f2, Q2, e2, i2, g2, r2⟩ := lpg (fun f k Q => f_X12_station_162 f 143 (nI n) (nI k) Q) (fun k Q => RQ s Q A k ∧ Fr (wF2 s) Q1 Q ∧ mR Q = mR Q1) A.2.1 (fun f k Q hk hi => r_pe (nI n) s1 A1 ok hk hi.1 hi.2.1 hi.2.2) 1024 0 Q1 (by omega) (by omega) ⟨⟨(g1.2.2.1 143 4 (by unfold wF1; omega)).trans h.2.2.2.1.2.1, fun i hi => absurd hi (Nat.not_lt_zero i)⟩, Fr.rf Q1, rfl⟩
  have s2 := g2.sh' r2 s1
  have e1 : f_X12_station_86 1024 143 (nI n) (nI 0) N = f_X12_station_86 (f1 + 1) 143 (nI n) (nI A.1) Q1 := e1
  have e2 : f_X12_station_162 1024 143 (nI n) (nI 0) Q1 = f_X12_station_162 (f2 + 1) 143 (nI n) (nI A.2.1) Q2 := e2
  rw [nI_0] at e1 e2
  have s3 : Sh (sI Q2 143 33 0) := s2
  have s4 : Sh (sI (sI Q2 143 33 0) 143 5 (mI N 143 5 + 1)) := s2
  have e5 : mI (sI Q2 143 33 0) 143 5 = mI N 143 5 := by
    rw [mI_w, if_neg (by omega), g2.2.2.1 143 5 (by unfold wF2; omega), g1.2.2.1 143 5 (by unfold wF1; omega)]
  have f4 : Fr (fun a k => a = 143 ∧ (k = 5 ∨ k = 33)) Q2 (sI (sI Q2 143 33 0) 143 5 (mI N 143 5 + 1)) := ((Fr.rf (W := fun a k => a = 143 ∧ (k = 5 ∨ k = 33)) Q2).sI ⟨rfl, Or.inr rfl⟩).sI ⟨rfl, Or.inl rfl⟩
  have ff : Fr (wF s) N (sI (sI Q2 143 33 0) 143 5 (mI N 143 5 + 1)) := ((g1.mono (fun a k q => Or.inl q)).tr (g2.mono (fun a k q => Or.inr (Or.inl q)))).tr (f4.mono (fun a k q => Or.inr (Or.inr q)))
  have rr : mR (sI (sI Q2 143 33 0) 143 5 (mI N 143 5 + 1)) = mR N := r2.trans r1
  have e24 : mI (sI (sI Q2 143 33 0) 143 5 (mI N 143 5 + 1)) 143 24 = nI A.1 := (ff.2.2.1 143 24 (by unfold wF wF1 wF2; omega)).trans hA.1
  have e25 : mI (sI (sI Q2 143 33 0) 143 5 (mI N 143 5 + 1)) 143 25 = nI A.2.1 := (ff.2.2.1 143 25 (by unfold wF wF1 wF2; omega)).trans hA.2.1
  have q24 : mI Q1 143 24 = nI A.1 := A1.1
  have q25 : mI Q2 143 25 = nI A.2.1 := (g2.2.2.1 143 25 (by unfold wF2; omega)).trans A1.2.1
  refine ⟨_, ?_, RR_zst hw h ok h1 ⟨?_, fun i hi => ?_, fun i e hi he => ?_⟩ ⟨?_, fun j hj => ?_⟩ ?_ (by rw [mI_w, if_pos ⟨rfl, rfl⟩]) ff rr, ff.mono (fun a k q => by unfold wF wF1 wF2 at q; unfold rW; omega), rr⟩
  · rw [e1, f_X12_station_86, gI_k 24 (O143 s1), b1_s, q24, if_pos (nI_le (Nat.le_refl _) (by omega)), e2, f_X12_station_162, gI_k 25 (O143 s2), b1_s, q25, if_pos (nI_le (Nat.le_refl _) (by omega)), if_neg (nI_nle (by omega) (by omega)), pI_k 33 _ (O143 s2), b1_s, gI_k 5 (O143 s3), b1_s, e5, pI_k 5 _ (O143 s3), b1_s]
    unfold f_X12_station_328
    rw [gI_k 24 (O143 s4), b1_s, gI_k 25 (O143 s4), b1_s, e24, e25, nI_add]
  · rw [f4.2.2.1 143 3 (by omega), g2.2.2.1 143 3 (by unfold wF2; omega)]; exact i1.1
  · rw [f4.2.2.1 145 _ (by omega), g2.2.2.1 145 _ (by unfold wF2; omega)]; exact i1.2.1 i hi
  · rw [f4.2.2.1 146 _ (by omega), g2.2.2.1 146 _ (by unfold wF2; omega)]; exact i1.2.2 i e hi he
  · rw [f4.2.2.1 143 4 (by omega)]; exact i2.1
  · exact (i2.2 j hj).fr f4 (fun a _ _ => by omega)
  · rw [mI_w, if_neg (by omega), mI_w, if_pos ⟨rfl, rfl⟩]; rfl
theorem R_station {s : St} (hw : WF s) : OpR (fun M => f_X12_station 143 M) s (a_station s) (n_station s) := by
  intro M h
  obtain ⟨N, et, ht, ft, rt, t0, l0⟩ := r_thr0 h
  have hL := hw.1.2.2.2.2.2.2.1
  have hwz : WF (z0 s) := W_z0 hw
  obtain ⟨M1, e1, c1, n1, f1, r1⟩ := r_begin' hw ht (m := 76) (by decide)
  have s1 := c1.1.1
  have f2 : Fr (fun a k => a = 143 ∧ (k = 24 ∨ k = 25)) M1 (sI (sI M1 143 24 0) 143 25 0) := ((Fr.rf (W := fun a k => a = 143 ∧ (k = 24 ∨ k = 25)) M1).sI ⟨rfl, Or.inl rfl⟩).sI ⟨rfl, Or.inr rfl⟩
  have c2 : TR (z0 s) (ztap s) (zL s) (min (zL s) 76) 0 (sI (sI M1 143 24 0) 143 25 0) := c1.fr' f2 rfl (fun a k q => by unfold wR; omega) (fun a k q => by omega)
  have A2 : RAs (sI (sI M1 143 24 0) 143 25 0) (0, 0, fun _ _ => 0) := ⟨by rw [mI_w, if_neg (by omega), mI_w, if_pos ⟨rfl, rfl⟩]; rfl, by rw [mI_w, if_pos ⟨rfl, rfl⟩]; rfl, fun i hi => absurd hi (Nat.not_lt_zero i), fun i hi => absurd hi (Nat.not_lt_zero i)⟩
  have fr2 : Fr rW M (sI (sI M1 143 24 0) 143 25 0) := (ft.tr f1).tr (f2.mono (fun a k q => by unfold rW; omega))
  have s1' : Sh (sI M1 143 24 0) := s1
  show ∃ M', f_X12_station 143 M = _ ∧ _
  unfold f_X12_station f_X12_station_0 f_X12_station_33
  rw [if_pos (O143 h.1), et, b1_s, show (76 : Int32) = nI 76 from rfl, e1, b2_s, pI_k 24 _ (O143 s1), b1_s, pI_k 25 _ (O143 s1'), b1_s]
  by_cases hz : zL s = 0
  · rw [(stn_0 hz).1, (stn_0 hz).2, if_pos (show nI (zL s) ≤ 0 by rw [hz]; decide)]
    have hm : min (zL s) 76 = 0 := by omega
    have s2 := c2.1.1
    refine ⟨_, ?_, c2.1, fr2, r1.trans rt⟩
    rw [show (1024 : Nat) = 1023 + 1 from rfl, f_X12_station_34, if_pos rfl, show (76 : Int32) = nI 76 from rfl, show f_X12_faultOf 143 (nI (zL s)) (nI 76) 1 (sI (sI M1 143 24 0) 143 25 0) = _ from r_fault c2 (m := 76) (by decide) rfl true, b2_s, if_pos (c := true = true ∧ 0 = min (zL s) 76 ∧ min (zL s) 76 = zL s) ⟨rfl, by omega, by omega⟩, if_pos (show (0 : Int32) ≤ 0 by decide)]
    have a24 : mI (sI (sI M1 143 24 0) 143 25 0) 143 24 = 0 := A2.1
    have a25 : mI (sI (sI M1 143 24 0) 143 25 0) 143 25 = 0 := A2.2.1
    rw [show (1024 : Nat) = 1023 + 1 from rfl, f_X12_station_86, gI_k 24 (O143 s2), b1_s, a24, if_pos (by decide)]
    rw [show (1024 : Nat) = 1023 + 1 from rfl, f_X12_station_162, gI_k 25 (O143 s2), b1_s, a25, if_pos (by decide), if_pos (show nI (zL s) ≤ 0 by rw [hz]; decide)]
    unfold f_X12_station_328
    rw [gI_k 24 (O143 s2), b1_s, gI_k 25 (O143 s2), b1_s, a24, a25]
    rfl
  · obtain ⟨f', N3, b, e3, c3, g3, k3, f3, r3⟩ := r_stl hwz (T := ztap s) (n := zL s) (l := min (zL s) 76) rfl 77 0 1024 (0, 0, fun _ _ => 0) _ (by omega) (by omega) (okA_0 hwz) c2 A2
    have c3 : TR (z0 s) (ztap s) (zL s) (min (zL s) 76) (stnR s).2 N3 := c3
    have g3 : (stnR s).1 = none → ¬ (b = true ∧ (stnR s).2 = min (zL s) 76 ∧ min (zL s) 76 = zL s) := g3
    have k3 : ∀ A', (stnR s).1 = some A' → RAs N3 A' ∧ b = true ∧ (stnR s).2 = min (zL s) 76 ∧ min (zL s) 76 = zL s := k3
    have fr3 : Fr rW M N3 := fr2.tr f3
    have rr3 : mR N3 = mR M := r3.trans (r1.trans rt)
    rw [if_neg (nI_nle (by omega) (by omega)), e3, f_X12_station_34, if_pos rfl, show (76 : Int32) = nI 76 from rfl, r_fault c3 (m := 76) (by decide) rfl b, b2_s]
    cases hr : stnR s with
    | mk o q =>
      rw [hr] at c3 g3 k3
      have c3 : TR (z0 s) (ztap s) (zL s) (min (zL s) 76) q N3 := c3
      have hq := c3.2.2.2.2.2.2.1
      cases o with
      | none =>
        have g3' : ¬ (b = true ∧ q = min (zL s) 76 ∧ min (zL s) 76 = zL s) := g3 rfl
        rw [(stn_n hz hr).1, (stn_n hz hr).2]
        refine ⟨N3, ?_, c3.1, fr3, rr3⟩
        show (if (0 : Int32) ≤ (if b = true ∧ q = min (zL s) 76 ∧ min (zL s) 76 = zL s then 0 else -1 - nI q) then _ else some ((if b = true ∧ q = min (zL s) 76 ∧ min (zL s) 76 = zL s then 0 else -1 - nI q), N3)) = _
        rw [if_neg g3', if_neg]
        rw [fa_le, fb_subI (by rw [nI_toInt (by omega), show (-1 : Int32).toInt = -1 from by decide]; omega) (by rw [nI_toInt (by omega), show (-1 : Int32).toInt = -1 from by decide]; omega), nI_toInt (by omega), show (-1 : Int32).toInt = -1 from by decide, show (0 : Int32).toInt = 0 from by decide]
        omega
      | some A =>
        obtain ⟨kA, kb, kq, kl⟩ := k3 A rfl
        have kq : q = min (zL s) 76 := kq
        have okx := stF_ok (okA_0 hw) (by show (stnR s).1 = some A; rw [hr])
        have hpos : 1 ≤ A.1 + A.2.1 := by have := okx.2; omega
        obtain ⟨N4, e4, c4, f4, r4⟩ := r_stf hwz c3.1 kA okx.1 hpos (n := zL s) (by omega) hL
        rw [(stn_s hz hr).1, (stn_s hz hr).2]
        refine ⟨N4, ?_, c4, fr3.tr f4, r4.trans rr3⟩
        show (if (0 : Int32) ≤ (if b = true ∧ q = min (zL s) 76 ∧ min (zL s) 76 = zL s then 0 else -1 - nI q) then _ else some ((if b = true ∧ q = min (zL s) 76 ∧ min (zL s) 76 = zL s then 0 else -1 - nI q), N3)) = _
        rw [if_pos (c := b = true ∧ q = min (zL s) 76 ∧ min (zL s) 76 = zL s) ⟨kb, kq, kl⟩, if_pos (show (0 : Int32) ≤ 0 by decide), e4]
theorem case_2 : CaseOK g_L_2 := by
  intro L xs j K M hL hj hc
  obtain ⟨s, hw, hc, hr⟩ := hc
  obtain ⟨M1, M2, hcp, e1, e2⟩ := asm (C_station hw) (R_station hw) (W_station hw) hc hr
  refine ⟨M2, hcp, ?_⟩
  unfold g_L_2
  simp only [show (nI j + 1 : Int32) = nI (j + 1) from nI_add _ 1, show (nI j + 2 : Int32) = nI (j + 2) from nI_add _ 2, show (nI j + 3 : Int32) = nI (j + 3) from nI_add _ 3, show (nI j + 4 : Int32) = nI (j + 4) from nI_add _ 4, scr_k (show j + 1 < L by omega) hL, scr_k (show j + 2 < L by omega) hL, scr_k (show j + 3 < L by omega) hL, scr_k (show j + 4 < L by omega) hL, b1_s, e1, e2, b2_s, if_true]

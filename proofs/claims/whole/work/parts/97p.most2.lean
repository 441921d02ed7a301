/-! most: the reference -/
theorem mn_pl (s : St) (q x : Pl) (p e m : Nat) : mnS (zsplan s q) x p e m = mnS s x p e m := rfl
theorem er_pl (s : St) (q x : Pl) (p e : Nat) : erN (zsplan s q) x p e = erN s x p e := by
  have e : mzB (zsplan s q) x p e = mzB s x p e := by
    funext m
    unfold mzB
    rw [mn_pl]
  unfold erN
  rw [e]
def wMo (a k : Nat) : Prop := a = 153 ∨ a = 154 ∨ a = 161 ∨ a = 168 ∨ a = 169 ∨ (a = 143 ∧ (k = 40 ∨ k = 41))
def SR (M0 M : MM) (q : Pl) : Prop := Fr wMo M0 M ∧ mR M = mR M0 ∧ PR M 153 0 q
theorem SR.sh {s : St} {M0 M : MM} {q : Pl} (hi : SR M0 M q) (h : RR s M0) : Sh M := hi.1.sh' hi.2.1 h.1
theorem SR.rr {s : St} {M0 M : MM} {q : Pl} (hi : SR M0 M q) (h : RR s M0) : RR (zsplan s q) M := h.pl (hi.1.mono (fun a k q => by unfold wMo at q; unfold wQ1 wR; omega)) (hi.sh h) hi.2.2
theorem SR.hall {s : St} {M0 M : MM} {q : Pl} (hi : SR M0 M q) (h : RR s M0) : rrHall s M := h.2.2.2.1.fr hi.1 (fun a k q => by unfold wMo; omega)
theorem SR.rx {s : St} {M0 M : MM} {q : Pl} (hi : SR M0 M q) (hw : WF s) (h : RR s M0) (ok : okPl (zP s) (zE s) q) : RX s M 153 q := ⟨hi.sh h, hi.hall h, hw.1, hw.2.1, Or.inl rfl, hi.2.2, by have := ok.1; omega, ok.2⟩
theorem SR.rw2 {s : St} {M0 M : MM} {q : Pl} (hi : SR M0 M q) (hw : WF s) (h : RR s M0) (ok : okPl (zP s) (zE s) q) : RW2 s M 153 q := ⟨hi.rx hw h ok, h.2.2.2.2.2.1.fr hi.1 (fun a k q => by unfold wMo; omega)⟩
theorem SR.tr {M0 M M' : MM} {q q' : Pl} {W : Nat → Nat → Prop} (h : SR M0 M q) (f : Fr W M M') (hr : mR M' = mR M) (w : ∀ a k, W a k → wMo a k) (hp : PR M' 153 0 q') : SR M0 M' q' := ⟨h.1.tr (f.mono w), hr.trans h.2.1, hp⟩
def FE (M : MM) (X : Bx) : Prop := mI M 143 40 = X.1 ∧ mI M 143 41 = nI X.2.1 ∧ (∀ k, k < 3 * X.2.1 → mI M 169 k = nI (X.2.2 k)) ∧ X.2.1 ≤ 2
theorem FE.fr {M M' : MM} {X : Bx} {W : Nat → Nat → Prop} (h : FE M X) (f : Fr W M M') (w : ∀ a k, (a = 143 ∧ (k = 40 ∨ k = 41)) ∨ a = 169 → ¬ W a k) : FE M' X := ⟨(f.2.2.1 143 40 (w 143 40 (by omega))).trans h.1, (f.2.2.1 143 41 (w 143 41 (by omega))).trans h.2.1, fun k hk => (f.2.2.1 169 k (w 169 k (by omega))).trans (h.2.2.1 k hk), h.2.2.2⟩
theorem r_nd {s : St} {M0 M : MM} {q qk : Pl} {X : Bx} {r : Nat → Nat} {k n f : Nat} (hw : WF s) (h : RR s M0) (hi : SR M0 M qk) (ok : okPl (zP s) (zE s) qk) (hf : FE M X) (ht : ∀ j, j < 3 * k → mI M 168 j = nI (r j)) (hk : k ≤ 2) : ∃ M', f_X12_putsIn (f + 1) 143 (nI k) (nI n) (worAll s q) M = f_X12_putsIn_80 (f_X12_putsIn f) 143 (nI k) (nI n) (worAll s q) M' ∧ SR M0 M' qk ∧ FE M' (upR X (gn s q qk) k r) ∧ (∀ j, j < 3 * k → mI M' 168 j = nI (r j)) := by
  have h0 := hi.sh h
  obtain ⟨⟨v, M1⟩, e1, er, f1, q1⟩ := r_all (hi.rw2 hw h ok)
  have er : v = worAll s qk := er
  have f1 : Fr wStk M M1 := f1
  have q1 : mR M1 = mR M := q1
  have i1 : SR M0 M1 qk := hi.tr f1 q1 (fun a k q => by unfold wStk at q; unfold wMo; omega) (hi.2.2.frw f1 (fun b k q => by unfold wStk; omega))
  have d1 := hf.fr f1 (fun a k q => by unfold wStk; omega)
  have t1 : ∀ j, j < 3 * k → mI M1 168 j = nI (r j) := fun j hj => (f1.2.2.1 168 j (by unfold wStk; omega)).trans (ht j hj)
  have s1 := i1.sh h
  have hO := sh_O s1 (a := 143) 12 (by decide) rfl
  rw [f_X12_putsIn, if_pos (sh_O h0 12 (by decide) rfl)]
  unfold f_X12_putsIn_0
  rw [sh_R h0 (a := 143) (k := 15) (b := 153) 12 (by decide) rfl (by decide), b1_s, e1, b2_s, bn_s, er, gI_k 40 hO, b1_s, d1.1]
  have eg : worAll s qk - worAll s q = gn s q qk := rfl
  rw [eg]
  have tk : ∃ M', f_X12_putsIn_38 (f_X12_putsIn f) 143 (nI k) (nI n) (worAll s q) (gn s q qk) M1 = f_X12_putsIn_80 (f_X12_putsIn f) 143 (nI k) (nI n) (worAll s q) M' ∧ SR M0 M' qk ∧ FE M' (gn s q qk, k, r) ∧ (∀ j, j < 3 * k → mI M' 168 j = nI (r j)) := by
    have fa : Fr (fun a j => a = 143 ∧ (j = 40 ∨ j = 41)) M1 (sI (sI M1 143 40 (gn s q qk)) 143 41 (nI k)) := ((Fr.rf (W := fun a j => a = 143 ∧ (j = 40 ∨ j = 41)) M1).sI ⟨rfl, Or.inl rfl⟩).sI ⟨rfl, Or.inr rfl⟩
    obtain ⟨N, f', e', cy⟩ := lcp (fun fu i N => f_X12_putsIn_52 (f_X12_putsIn f) fu 143 (nI k) (nI n) (worAll s q) (nI i) N) 169 0 (3 * k) (fun j => mI (sI (sI M1 143 40 (gn s q qk)) 143 41 (nI k)) 168 j) (sI (sI M1 143 40 (gn s q qk)) 143 41 (nI k)) (fun fu i N hik hc => by
      show f_X12_putsIn_52 (f_X12_putsIn f) (fu + 1) _ _ _ _ _ _ = _
      have hN := hc.sh (M := sI (sI M1 143 40 (gn s q qk)) 143 41 (nI k)) s1
      rw [f_X12_putsIn_52, n3m, if_neg (nI_ge hik (by omega)), sh_R hN (a := 143) (k := 43) (b := 169) 12 (by decide) rfl (by decide), b1_s, sh_R hN (a := 143) (k := 42) (b := 168) 12 (by decide) rfl (by decide), b1_s, ld_168 hN (by omega), b1_s, st_169 hN _ (by omega), b1_s, bn_s, nI_1, hc.2.2.2.2, if_neg (fun q => absurd q.1 (by decide)), Nat.zero_add]) (by omega)
    have hN := cy.sh (M := sI (sI M1 143 40 (gn s q qk)) 143 41 (nI k)) s1
    have fN := cy.frm
    refine ⟨N, ?_, ?_, ⟨?_, ?_, fun j hj => ?_, hk⟩, fun j hj => ?_⟩
    · unfold f_X12_putsIn_38
      have e'' : f_X12_putsIn_52 (f_X12_putsIn f) 1024 143 (nI k) (nI n) (worAll s q) (nI 0) (sI (sI M1 143 40 (gn s q qk)) 143 41 (nI k)) = f_X12_putsIn_52 (f_X12_putsIn f) (f' + 1) 143 (nI k) (nI n) (worAll s q) (nI (3 * k)) N := e'
      rw [nI_0] at e''
      rw [pI_k 40 _ hO, b1_s, pI_k 41 _ (show isO 12 143 (sI M1 143 40 (gn s q qk)) = true from hO), b1_s, e'', f_X12_putsIn_52, n3m, if_pos (nI_le (Nat.le_refl _) (by omega))]
    · exact (i1.tr fa rfl (fun a k q => by unfold wMo; omega) (i1.2.2.frw fa (fun b k q => by omega))).tr fN cy.2.2.2.1 (fun a k q => by unfold wMo; omega) ((i1.2.2.frw fa (fun b k q => by omega)).frw fN (fun b k q => by omega))
    · rw [fN.2.2.1 143 40 (by omega), mI_w, if_neg (by omega), mI_w, if_pos ⟨rfl, rfl⟩]
    · rw [fN.2.2.1 143 41 (by omega), mI_w, if_pos ⟨rfl, rfl⟩]
    · have hj' : j < 3 * k := hj
      rw [cy.2.2.2.2, if_pos ⟨rfl, by omega, by omega⟩]
      show mI (sI (sI M1 143 40 (gn s q qk)) 143 41 (nI k)) 168 (j - 0) = nI (r j)
      rw [Nat.sub_zero, fa.2.2.1 168 j (by omega)]
      exact t1 j hj'
    · rw [fN.2.2.1 168 j (by omega), fa.2.2.1 168 j (by omega)]
      exact t1 j hj
  unfold upR
  by_cases hc : X.1 < gn s q qk
  · rw [if_pos hc, if_pos hc]
    exact tk
  · rw [if_neg hc, if_neg hc, b1_s]
    by_cases he : gn s q qk = X.1
    · rw [if_pos he, if_pos he, gI_k 41 hO, b1_s, d1.2.1]
      by_cases hl : X.2.1 ≤ k
      · rw [if_pos (nI_le hl (by omega)), if_pos hl]
        exact ⟨M1, rfl, i1, d1, t1⟩
      · rw [if_neg (nI_ge (by omega) (by have := hf.2.2.2; omega)), if_neg hl]
        exact tk
    · rw [if_neg he, if_neg he]
      exact ⟨M1, rfl, i1, d1, t1⟩
def rX (k : Nat) (r : Nat → Nat) (p e m j : Nat) : Nat := if j < 3 * k then r j else r1 p e m (j - 3 * k)
theorem rX_0 (r : Nat → Nat) (p e m : Nat) : rX 0 r p e m = r1 p e m := by funext j; unfold rX; rw [if_neg (by omega)]; rfl
theorem rX_1 (r : Nat → Nat) (p e m : Nat) : rX 1 r p e m = r2 r p e m := rfl
theorem r_dec {M : MM} {q : Pl} {t : Nat} (hp : PR M 153 0 (plAdd q t)) (hq : q.1 < 12) : PR (sI M 153 45 (nI q.1)) 153 0 q := by
  refine ⟨by rw [mI_w, if_pos ⟨rfl, rfl⟩], fun i hi => ?_⟩
  have := hp.2 i (by show i < q.1 + 1; omega)
  rw [show (plAdd q t).2 i = q.2 i from if_neg (by omega)] at this
  rw [mI_w, if_neg (by omega), mI_w, if_neg (by omega), mI_w, if_neg (by omega)]
  exact this
theorem r_lp {s : St} {M0 M : MM} {q qk : Pl} {X : Bx} {r : Nat → Nat} {k n f : Nat} (hw : WF s) (h : RR s M0) (ok : okPl (zP s) (zE s) qk) (hk : k ≤ 1) (G : Nat → Nat → Bx → Bx) (hG : ∀ p e N Y, p < zP s → e < zE s → erN s qk p e < 100 → SR M0 N (qa s qk p e) → FE N Y → (∀ j, j < 3 * (k + 1) → mI N 168 j = nI (rX k r p e (erN s qk p e) j)) → ∃ N', f_X12_putsIn f 143 (nI (k + 1)) (nI n) (worAll s q) N = some N' ∧ SR M0 N' (qa s qk p e) ∧ FE N' (G p e Y) ∧ (∀ j, j < 3 * (k + 1) → mI N' 168 j = nI (rX k r p e (erN s qk p e) j))) (hi : SR M0 M qk) (hf : FE M X) (ht : ∀ j, j < 3 * k → mI M 168 j = nI (r j)) : ∃ M', f_X12_putsIn_89 (f_X12_putsIn f) 1024 143 (nI k) (nI n) (worAll s q) 0 M = some M' ∧ SR M0 M' qk ∧ FE M' (lq2 s (on s qk G) X) ∧ (∀ j, j < 3 * k → mI M' 168 j = nI (r j)) := by
  have hP := hw.1.1
  have hE := hw.1.2.1
  have h12 := ok.1
  have hw' := WF_pl hw ok
  have step : ∀ (K89 : Nat → Int32 → Int32 → Int32 → Int32 → MM → Option MM) (p e fu : Nat) (N : MM) (Y : Bx), p < zP s → e < zE s → SR M0 N qk → FE N Y → (∀ j, j < 3 * k → mI N 168 j = nI (r j)) → ∃ N', f_X12_putsIn_101 (f_X12_putsIn f) K89 (fu + 1) 143 (nI k) (nI n) (worAll s q) (nI p) (nI e) N = f_X12_putsIn_101 (f_X12_putsIn f) K89 fu 143 (nI k) (nI n) (worAll s q) (nI p) (nI (e + 1)) N' ∧ SR M0 N' qk ∧ FE N' (on s qk G p e Y) ∧ (∀ j, j < 3 * k → mI N' 168 j = nI (r j)) := by
    intro K89 p e fu N Y hp he i1 i2 i3
    have sN := i1.sh h
    have hE' : mI N 143 4 = nI (zE s) := (i1.hall h).2.1
    obtain ⟨⟨v, N1⟩, e1, er, c1, f1, q1⟩ := r_soon hw' (i1.rr h) (p := p) (e := e) hp he
    have er : v = erI s qk p e (-2) := by
      have e0 : v = erI (zsplan s qk) qk p e (-2) := er
      rw [e0]
      unfold erI
      rw [er_pl]
    have f1 : Fr (fun a k => a = 154) N N1 := f1
    have q1 : mR N1 = mR N := q1
    have j1 : SR M0 N1 qk := i1.tr f1 q1 (fun a k q => by unfold wMo; omega) (i1.2.2.frw f1 (fun b k q => by omega))
    have d1 := i2.fr f1 (fun a k q => by omega)
    have s1 := j1.sh h
    rw [f_X12_putsIn_101, gI_k 4 (sh_O sN 12 (by decide) rfl), b1_s, hE', if_neg (nI_ge he (by omega)), e1, b2_s, er]
    unfold f_X12_putsIn_192 erI
    by_cases hr : erN s qk p e < 100
    · have hz := (mn0 (er_mz hr)).2.2
      have hq : qk.1 < 12 := by omega
      have ok1 : okPl (zP s) (zE s) (qa s qk p e) := okPl_add ok hq (trp_ok (by omega) (by omega) hp he hr)
      have fa : Fr (fun a j => a = 168 ∧ 3 * k ≤ j) N1 (sI (sI (sI N1 168 (3 * k) (nI p)) 168 (3 * k + 1) (nI e)) 168 (3 * k + 2) (nI (erN s qk p e))) := (((Fr.rf (W := fun a j => a = 168 ∧ 3 * k ≤ j) N1).sI ⟨rfl, by omega⟩).sI ⟨rfl, by omega⟩).sI ⟨rfl, by omega⟩
      obtain ⟨N3, e3, p3, f3, q3⟩ := r_comes (M := sI (sI (sI N1 168 (3 * k) (nI p)) 168 (3 * k + 1) (nI e)) 168 (3 * k + 2) (nI (erN s qk p e))) s1 (a := 153) (Or.inl rfl) (j1.2.2.frw fa (fun b k q => by omega)) (by omega) (p := p) (e := e) (m := erN s qk p e) (by omega) (by omega)
      have j3 : SR M0 N3 (qa s qk p e) := (j1.tr (q' := qk) fa rfl (fun a k q => by unfold wMo; omega) (j1.2.2.frw fa (fun b k q => by omega))).tr f3 q3 (fun a k q => by unfold wMo; omega) p3
      have d3 := (d1.fr fa (fun a k q => by omega)).fr f3 (fun a k q => by omega)
      have t3 : ∀ j, j < 3 * (k + 1) → mI N3 168 j = nI (rX k r p e (erN s qk p e) j) := by
        intro j hj
        rw [f3.2.2.1 168 j (by omega), mI_w, mI_w, mI_w]
        unfold rX
        by_cases hc : j < 3 * k
        · rw [if_neg (by omega), if_neg (by omega), if_neg (by omega), if_pos hc, f1.2.2.1 168 j (by omega)]
          exact i3 j hc
        · rw [if_neg hc]
          unfold r1
          rcases (show j = 3 * k ∨ j = 3 * k + 1 ∨ j = 3 * k + 2 by omega) with rfl | rfl | rfl
          · rw [if_neg (by omega), if_neg (by omega), if_pos ⟨rfl, rfl⟩, if_pos (by omega)]
          · rw [if_neg (by omega), if_pos ⟨rfl, rfl⟩, if_neg (by omega), if_pos (by omega)]
          · rw [if_pos ⟨rfl, rfl⟩, if_neg (by omega), if_neg (by omega)]
      obtain ⟨N4, e4, j4, d4, t4⟩ := hG p e N3 Y hp he hr j3 d3 t3
      have s4 := j4.sh h
      have p5 := r_dec j4.2.2 hq
      have f5 : Fr (fun a j => a = 153) N4 (sI N4 153 45 (nI qk.1)) := (Fr.rf N4).sI rfl
      have R := fun N (sN : Sh N) => sh_R sN (a := 143) (k := 42) (b := 168) 12 (by decide) rfl (by decide)
      have ez : ldI 153 45 N4 = some (nI (qk.1 + 1)) := r_size (j4.rx hw h ok1)
      have e45 : stI 153 45 (nI qk.1) N4 = some (sI N4 153 45 (nI qk.1)) := ra_st (j := 45) s4 (Or.inl rfl) (nI qk.1) (by decide)
      rw [if_pos hr, if_neg (nI_pos (by omega)), R N1 s1, b1_s, n3m, st_168 s1 _ (by omega), b1_s, R (sI N1 168 (3 * k) (nI p)) s1, b1_s, nI_1, st_168 (M := sI N1 168 (3 * k) (nI p)) s1 _ (by omega), b1_s, R (sI (sI N1 168 (3 * k) (nI p)) 168 (3 * k + 1) (nI e)) s1, b1_s, nI_2, st_168 (M := sI (sI N1 168 (3 * k) (nI p)) 168 (3 * k + 1) (nI e)) s1 _ (by omega), b1_s, sh_R (M := sI (sI (sI N1 168 (3 * k) (nI p)) 168 (3 * k + 1) (nI e)) 168 (3 * k + 2) (nI (erN s qk p e))) s1 (a := 143) (k := 15) (b := 153) 12 (by decide) rfl (by decide), b1_s, e3, b1_s, nI_1, e4, b1_s, sh_R s4 (a := 143) (k := 15) (b := 153) 12 (by decide) rfl (by decide), b1_s, ez, b1_s, nS1 (by omega), Nat.add_sub_cancel, e45, b1_s, bn_s, nI_1, on_t hr]
      refine ⟨_, rfl, j4.tr f5 rfl (fun a k q => by unfold wMo; omega) p5, d4.fr f5 (fun a k q => by omega), fun j hj => ?_⟩
      rw [f5.2.2.1 168 j (by omega), t4 j (by omega)]
      unfold rX
      rw [if_pos hj]
    · rw [if_neg hr, if_pos (by decide), bn_s, nI_1, on_f hr]
      exact ⟨N1, rfl, j1, d1, fun j hj => (f1.2.2.1 168 j (by omega)).trans (i3 j hj)⟩
  obtain ⟨f', N', e', i1', i2', i3'⟩ := lpg (fun fu p N => f_X12_putsIn_89 (f_X12_putsIn f) fu 143 (nI k) (nI n) (worAll s q) (nI p) N) (fun p N => SR M0 N qk ∧ FE N (itr (fun p => itr (fun e => on s qk G p e) (zE s)) p X) ∧ (∀ j, j < 3 * k → mI N 168 j = nI (r j))) (zP s) (fun fu p N hp hI => by
    obtain ⟨fe, N2, e2, i1, i2, i3⟩ := lpg (fun fv e N => f_X12_putsIn_101 (f_X12_putsIn f) (f_X12_putsIn_89 (f_X12_putsIn f) fu) fv 143 (nI k) (nI n) (worAll s q) (nI p) (nI e) N) (fun e N => SR M0 N qk ∧ FE N (itr (fun e => on s qk G p e) e (itr (fun p => itr (fun e => on s qk G p e) (zE s)) p X)) ∧ (∀ j, j < 3 * k → mI N 168 j = nI (r j))) (zE s) (fun fv e N he hI => by
      obtain ⟨N', e', a1, a2, a3⟩ := step (f_X12_putsIn_89 (f_X12_putsIn f) fu) p e fv N _ hp he hI.1 hI.2.1 hI.2.2
      exact ⟨N', e', a1, by rw [itr_s]; exact a2, a3⟩) 1024 0 N (by omega) (by omega) ⟨hI.1, by rw [itr_0]; exact hI.2.1, hI.2.2⟩
    have sN := hI.1.sh h
    have s2 := i1.sh h
    have hP' : mI N 143 3 = nI (zP s) := (hI.1.hall h).1
    have hE' : mI N2 143 4 = nI (zE s) := (i1.hall h).2.1
    have e2' : f_X12_putsIn_101 (f_X12_putsIn f) (f_X12_putsIn_89 (f_X12_putsIn f) fu) 1024 143 (nI k) (nI n) (worAll s q) (nI p) (nI 0) N = f_X12_putsIn_101 (f_X12_putsIn f) (f_X12_putsIn_89 (f_X12_putsIn f) fu) (fe + 1) 143 (nI k) (nI n) (worAll s q) (nI p) (nI (zE s)) N2 := e2
    rw [nI_0] at e2'
    refine ⟨N2, ?_, i1, by rw [itr_s]; exact i2, i3⟩
    show f_X12_putsIn_89 (f_X12_putsIn f) (fu + 1) _ _ _ _ _ _ = _
    rw [f_X12_putsIn_89, gI_k 3 (sh_O sN 12 (by decide) rfl), b1_s, hP', if_neg (nI_ge hp (by omega)), e2', f_X12_putsIn_101, gI_k 4 (sh_O s2 12 (by decide) rfl), b1_s, hE', if_pos (nI_le (Nat.le_refl _) (by omega)), bn_s, nI_1]) 1024 0 M (by omega) (by omega) ⟨hi, by rw [itr_0]; exact hf, ht⟩
  have sN := i1'.sh h
  have hP' : mI N' 143 3 = nI (zP s) := (i1'.hall h).1
  have e'' : f_X12_putsIn_89 (f_X12_putsIn f) 1024 143 (nI k) (nI n) (worAll s q) (nI 0) M = f_X12_putsIn_89 (f_X12_putsIn f) (f' + 1) 143 (nI k) (nI n) (worAll s q) (nI (zP s)) N' := e'
  rw [nI_0] at e''
  refine ⟨N', ?_, i1', i2', i3'⟩
  rw [e'', f_X12_putsIn_89, gI_k 3 (sh_O sN 12 (by decide) rfl), b1_s, hP', if_pos (nI_le (Nat.le_refl _) (by omega))]
theorem up0 (s : St) (q : Pl) (r : Nat → Nat) : upR X0 (gn s q q) 0 r = X0 := by
  have e : gn s q q = 0 := Int32.sub_self _
  rw [e]
  rfl
theorem r_pin {s : St} {M : MM} (hw : WF s) (h : RR s M) (hf : FE M X0) {n : Nat} (hn : n < 3) : ∃ M', f_X12_putsIn 100 143 0 (nI n) (worAll s (zplan s)) M = some M' ∧ SR M M' (zplan s) ∧ FE M' (moR s (zplan s) n) := by
  have ok := hw.2.2.2.2.1
  have i0 : SR M M (zplan s) := ⟨Fr.rf M, rfl, h.2.2.2.2.1⟩
  obtain ⟨M1, e1, i1, d1, _⟩ := r_nd (q := zplan s) (r := fun _ => 0) (k := 0) (n := n) (f := 99) hw h i0 ok hf (fun j hj => absurd hj (by omega)) (by decide)
  rw [up0] at d1
  have e1' : f_X12_putsIn 100 143 0 (nI n) (worAll s (zplan s)) M = f_X12_putsIn_80 (f_X12_putsIn 99) 143 0 (nI n) (worAll s (zplan s)) M1 := e1
  rw [e1']
  unfold f_X12_putsIn_80
  match n, hn with
  | 0, _ =>
    rw [if_pos (show (0 : Int32) = nI 0 from rfl), moR_0]
    exact ⟨M1, rfl, i1, d1⟩
  | 1, _ =>
    rw [if_neg (by decide), moR_1]
    obtain ⟨M2, e2, i2, d2, _⟩ := r_lp (q := zplan s) (r := fun _ => 0) (k := 0) (n := 1) (f := 99) hw h ok (by decide) (g1 s (zplan s) upR) (fun p e N Y hp he hr j d t => by
      obtain ⟨N1, a1, b1', c1, t1⟩ := r_nd (q := zplan s) (k := 1) (n := 1) (f := 98) hw h j (okPl_add ok (by have := (mn0 (er_mz hr)).2.2; have := ok.1; omega) (trp_ok (by have := hw.1.1; omega) (by have := hw.1.2.1; omega) hp he hr)) d t (by decide)
      refine ⟨N1, ?_, b1', ?_, t1⟩
      · show f_X12_putsIn (98 + 1) _ _ _ _ _ = _
        rw [a1]
        unfold f_X12_putsIn_80
        rw [if_pos rfl]
      · rw [g1_e]
        rw [rX_0] at c1
        exact c1) i1 d1 (fun j hj => absurd hj (by omega))
    exact ⟨M2, e2, i2, d2⟩
  | 2, _ =>
    rw [if_neg (by decide), moR_2 s (zplan s) 0]
    obtain ⟨M2, e2, i2, d2, _⟩ := r_lp (q := zplan s) (r := fun _ => 0) (k := 0) (n := 2) (f := 99) hw h ok (by decide) (fun p e X => l2 s (zplan s) upR p e (g1 s (zplan s) upR p e X)) (fun p e N Y hp he hr j d t => by
      have ok1 : okPl (zP s) (zE s) (qa s (zplan s) p e) := okPl_add ok (by have := (mn0 (er_mz hr)).2.2; have := ok.1; omega) (trp_ok (by have := hw.1.1; omega) (by have := hw.1.2.1; omega) hp he hr)
      obtain ⟨N1, a1, b1', c1, t1⟩ := r_nd (q := zplan s) (k := 1) (n := 2) (f := 98) hw h j ok1 d t (by decide)
      rw [rX_0] at c1
      obtain ⟨N2, a2, b2', c2, t2⟩ := r_lp (q := zplan s) (r := rX 0 (fun _ => 0) p e (erN s (zplan s) p e)) (k := 1) (n := 2) (f := 98) hw h ok1 (by decide) (g2 s (zplan s) (qa s (zplan s) p e) (r1 p e (erN s (zplan s) p e)) upR) (fun p' e' N Y hp' he' hr' j d t => by
        have ok2 : okPl (zP s) (zE s) (qa s (qa s (zplan s) p e) p' e') := okPl_add ok1 (by have := (mn0 (er_mz hr')).2.2; have := ok1.1; omega) (trp_ok (by have := hw.1.1; omega) (by have := hw.1.2.1; omega) hp' he' hr')
        obtain ⟨N1, a1, b1', c1, t1⟩ := r_nd (q := zplan s) (k := 2) (n := 2) (f := 97) hw h j ok2 d t (by decide)
        refine ⟨N1, ?_, b1', ?_, t1⟩
        · show f_X12_putsIn (97 + 1) _ _ _ _ _ = _
          rw [a1]
          unfold f_X12_putsIn_80
          rw [if_pos rfl]
        · rw [g2_e]
          rw [rX_0, rX_1] at c1
          exact c1) b1' c1 t1
      refine ⟨N2, ?_, b2', ?_, t2⟩
      · show f_X12_putsIn (98 + 1) _ _ _ _ _ = _
        rw [a1]
        unfold f_X12_putsIn_80
        rw [if_neg (by decide)]
        exact a2
      · rw [l2_e, g1_e]
        exact c2) i1 d1 (fun j hj => absurd hj (by omega))
    exact ⟨M2, e2, i2, d2⟩
theorem R_most {s : St} (hw : WF s) (x : Int32) : OpR (fun M => f_X12_most 143 x M) s (a_most s x) (n_most s x) := by
  intro M h
  obtain ⟨N, et, ht, ft, rt, t0, l0⟩ := r_thr0 h
  show ∃ M', f_X12_most 143 x M = _ ∧ _
  unfold f_X12_most f_X12_most_0
  rw [if_pos (sh_O h.1 12 (by decide) rfl), et, b1_s, show f_X12_in x.toInt64 0 2 N = some (if ixP x 3 = true then 1 else 0, N) from e_in0n _ 3 (by decide) N, b2_s]
  by_cases hc : ixP x 3 = true
  · obtain ⟨n, hn, rfl⟩ := ix_ex (by omega) hc
    have hb := mo_n2 (s := s) (q := zplan s) (n := n)
    have hO := sh_O ht.1 (a := 143) 12 (by decide) rfl
    have f0 : Fr (fun a k => a = 143 ∧ (k = 40 ∨ k = 41)) N (sI (sI N 143 40 0) 143 41 0) := ((Fr.rf (W := fun a k => a = 143 ∧ (k = 40 ∨ k = 41)) N).sI ⟨rfl, Or.inl rfl⟩).sI ⟨rfl, Or.inr rfl⟩
    have h2 : RR s (sI (sI N 143 40 0) 143 41 0) := ht.fr (f0.mono (fun a k q => by unfold wR; omega)) ht.1
    obtain ⟨⟨v, M1⟩, e1, er, f1, q1⟩ := r_all (show RW2 s (sI (sI N 143 40 0) 143 41 0) 153 (zplan s) from ⟨h2.rx hw, h2.2.2.2.2.2.1⟩)
    have er : v = worAll s (zplan s) := er
    have f1 : Fr wStk _ M1 := f1
    have q1 : mR M1 = mR N := q1
    have h3 : RR s M1 := h2.fr (wStk_wR f1) (f1.sh' q1 h2.1)
    have d3 : FE M1 X0 := by
      refine FE.fr (W := wStk) (M := sI (sI N 143 40 0) 143 41 0) ⟨?_, ?_, fun k hk => absurd hk (by show ¬ k < 0; omega), by decide⟩ f1 (fun a k q => by unfold wStk; omega)
      · rw [mI_w, if_neg (by omega), mI_w, if_pos ⟨rfl, rfl⟩]; rfl
      · rw [mI_w, if_pos ⟨rfl, rfl⟩]; rfl
    obtain ⟨M2, e2, i2, d2⟩ := r_pin hw h3 d3 hn
    rw [moRC] at d2
    have s2 := i2.sh h3
    have c2 : RR s M2 := h3.p0 (i2.1.mono (fun a k q => by unfold wMo at q; unfold wQ0 wR; omega)) s2 i2.2.2 (h3.2.2.2.2.2.2.1.fr i2.1 (fun a k q => by unfold wMo; omega))
    rw [show a_most s (nI n) = (moC s (zplan s) n).1 by unfold a_most; rw [if_pos hc, nI_clamp (by omega)], show n_most s (nI n) = moS s (moC s (zplan s) n) by unfold n_most; rw [if_pos hc, nI_clamp (by omega)]]
    rw [if_pos hc, if_neg (by decide), pI_k 40 _ hO, b1_s, pI_k 41 _ (show isO 12 143 (sI N 143 40 0) = true from hO), b1_s, sh_R h2.1 (a := 143) (k := 15) (b := 153) 12 (by decide) rfl (by decide), b1_s, e1, b2_s, er, e2, b1_s]
    generalize moC s (zplan s) n = X at d2 hb
    obtain ⟨M3, e3, w3, f3, r3⟩ := r_clr s2
    obtain ⟨r, e4, er4, w4, f4, q4⟩ := lpm (fun f k N => f_X12_most_50 f 143 (nI k) N) (fun k N => RowR N (rwX X k) ∧ Fr wRoR M2 N ∧ mR N = mR M2) (fun r => r.1 = X.1 ∧ RowR r.2 (rwX X (3 * X.2.1)) ∧ Fr wRoR M2 r.2 ∧ mR r.2 = mR M2) (3 * X.2.1) (fun f k N hk hi => by
      left
      obtain ⟨i1, i2, i3⟩ := hi
      have sN := i2.sh' i3 s2
      have dN := d2.fr i2 (fun a k q => by unfold wRoR; omega)
      obtain ⟨M', e', w', f', r'⟩ := r_ent sN i1 (by rw [rwX_l]; omega) (Int32.toInt64 (nI (X.2.2 k)))
      show ∃ M', f_X12_most_50 (f + 1) _ _ _ = _ ∧ _
      rw [f_X12_most_50, gI_k 41 (sh_O sN 12 (by decide) rfl), b1_s, dN.2.1, n3m, if_neg (nI_ge hk (by omega)), sh_R sN (a := 143) (k := 43) (b := 169) 12 (by decide) rfl (by decide), b1_s, ld_169 sN (by omega), b1_s, dN.2.2.1 k hk, e', b1_s, bn_s, nI_1]
      exact ⟨M', rfl, by rw [rwX_s]; exact w', i2.tr f', r'.trans i3⟩) (fun f N hi => by
      have sN := hi.2.1.sh' hi.2.2 s2
      have dN := d2.fr hi.2.1 (fun a k q => by unfold wRoR; omega)
      refine ⟨(X.1, N), ?_, rfl, hi⟩
      show f_X12_most_50 (f + 1) _ _ _ = _
      rw [f_X12_most_50, gI_k 41 (sh_O sN 12 (by decide) rfl), b1_s, dN.2.1, n3m, if_pos (nI_le (Nat.le_refl _) (by omega)), gI_k 40 (sh_O sN 12 (by decide) rfl), b1_s, dN.1]) 1024 0 M3 (by omega) (by omega) ⟨w3, f3, r3⟩
    refine ⟨r.2, ?_, c2.row f4 q4 w4, ?_, ?_⟩
    · have e4' : f_X12_most_50 1024 143 (nI 0) M3 = some r := e4
      rw [nI_0] at e4'
      rw [e3, b1_s, e4']
      show some (r.1, r.2) = _
      rw [er4]
    · exact (((ft.tr (f0.mono (fun a k q => by unfold rW; omega))).tr (wStk_rW f1)).tr (i2.1.mono (fun a k q => by unfold wMo at q; unfold rW; omega))).tr (wRoR_rW f4)
    · exact q4.trans (i2.2.1.trans (q1.trans rt))
  · rw [show a_most s x = -1 from if_neg hc, show n_most s x = s from if_neg hc, if_neg hc, if_pos rfl]
    exact ⟨N, rfl, ht, ft, rt⟩
theorem case_28 : CaseOK g_L_28 := by
  intro L xs j K M hL hj hc
  obtain ⟨s, hw, hc, hr⟩ := hc
  obtain ⟨M1, M2, hcp, e1, e2⟩ := asm (C_most hw (xs (j + 1))) (R_most hw (xs (j + 1))) (W_most hw (xs (j + 1))) hc hr
  refine ⟨M2, hcp, ?_⟩
  unfold g_L_28
  simp only [show (nI j + 1 : Int32) = nI (j + 1) from nI_add _ 1, show (nI j + 2 : Int32) = nI (j + 2) from nI_add _ 2, show (nI j + 3 : Int32) = nI (j + 3) from nI_add _ 3, show (nI j + 4 : Int32) = nI (j + 4) from nI_add _ 4, scr_k (show j + 1 < L by omega) hL, scr_k (show j + 2 < L by omega) hL, scr_k (show j + 3 < L by omega) hL, scr_k (show j + 4 < L by omega) hL, b1_s, e1, e2, b2_s, if_true]

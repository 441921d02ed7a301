/-! CALLS: pair, person -/
def prI (s : St) (x y z w : Int32) : Prop := (ixP x (zP s) = true ∧ ixP z (zE s) = true ∧ ixP w 100 = true) ∧ ixP y (zP s) = true ∧ x ≠ y
def prQ (s : St) (x y z w : Int32) : Pl := plAdd (plAdd (zplan s) (trp x.toNatClampNeg z.toNatClampNeg w.toNatClampNeg)) (trp y.toNatClampNeg z.toNatClampNeg w.toNatClampNeg)
def prK (s : St) (x y z w : Int32) : Prop := prI s x y z w ∧ (zplan s).1 ≤ 10 ∧ whyS s (prQ s x y z w) (zplan s).1 = 0 ∧ whyS s (prQ s x y z w) ((zplan s).1 + 1) = 0 ∧ anyB (wrB s (zplan s) (prQ s x y z w)) (zT s) = false
noncomputable def a_pair (s : St) (x y z w : Int32) : Int32 := by classical exact if prI s x y z w then (if prK s x y z w then nI ((zplan s).1 + 2) else -2) else -1
noncomputable def n_pair (s : St) (x y z w : Int32) : St := by classical exact if prK s x y z w then zpush s (prQ s x y z w) else s
theorem pr_1 {s : St} {x y z w : Int32} (h : ¬ prI s x y z w) : a_pair s x y z w = -1 ∧ n_pair s x y z w = s := ⟨if_neg h, if_neg (fun g => h g.1)⟩
theorem pr_2 {s : St} {x y z w : Int32} (h : prI s x y z w) (h2 : ¬ prK s x y z w) : a_pair s x y z w = -2 ∧ n_pair s x y z w = s := ⟨(if_pos h).trans (if_neg h2), if_neg h2⟩
theorem pr_k {s : St} {x y z w : Int32} (h : prK s x y z w) : a_pair s x y z w = nI ((zplan s).1 + 2) ∧ n_pair s x y z w = zpush s (prQ s x y z w) := ⟨(if_pos h.1).trans (if_pos h), if_pos h⟩
theorem prQ_ok {s : St} (hw : WF s) {x y z w : Int32} (h : prI s x y z w) (h10 : (zplan s).1 ≤ 10) : okPl (zP s) (zE s) (prQ s x y z w) := by
  have hP := hw.1.1
  have hE := hw.1.2.1
  obtain ⟨⟨h1, h2, h3⟩, h4, _⟩ := h
  obtain ⟨p, hp, rfl⟩ := ix_ex (by omega) h1
  obtain ⟨p', hp', rfl⟩ := ix_ex (by omega) h4
  obtain ⟨e, he, rfl⟩ := ix_ex (by omega) h2
  obtain ⟨m, hm, rfl⟩ := ix_ex (by omega) h3
  unfold prQ
  rw [nI_clamp (by omega), nI_clamp (by omega), nI_clamp (by omega), nI_clamp (by omega)]
  exact okPl_add (okPl_add hw.2.2.2.2.1 (by omega) (trp_ok (by omega) (by omega) hp he hm)) (by show (zplan s).1 + 1 < 12; omega) (trp_ok (by omega) (by omega) hp' he hm)
theorem W_pair {s : St} (hw : WF s) (x y z w : Int32) : WF (n_pair s x y z w) := by
  by_cases h : prK s x y z w
  · rw [(pr_k h).2]; exact WF_push hw (prQ_ok hw h.1 h.2.1)
  · by_cases h2 : prI s x y z w
    · rw [(pr_2 h2 h).2]; exact hw
    · rw [(pr_1 h2).2]; exact hw
theorem more_wr (s : St) (q q' : Pl) (hT : zT s ≤ 128) : anyB (fun m => baF s q' (zP s) m && !baF s q (zP s) m) 128 = anyB (wrB s q q') (zT s) := by
  rw [Bool.eq_iff_iff, anyB_iff, anyB_iff]
  unfold wrB
  constructor
  · rintro ⟨m, hm, hb⟩
    rw [ba_wat, ba_wat] at hb
    cases hd : decide (m < zT s) with
    | false => rw [hd] at hb; simp at hb
    | true =>
      rw [hd] at hb
      refine ⟨m, of_decide_eq_true hd, ?_⟩
      cases h1 : watB s q m <;> cases h2 : watB s q' m <;> rw [h1, h2] at hb <;> first | rfl | (exact absurd hb (by decide))
  · rintro ⟨m, hm, hb⟩
    refine ⟨m, by omega, ?_⟩
    rw [ba_wat, ba_wat, decide_eq_true hm]
    cases h1 : watB s q m <;> cases h2 : watB s q' m <;> rw [h1, h2] at hb <;> first | rfl | (exact absurd hb (by decide))
theorem C_pair {s : St} (hw : WF s) (x y z w : Int32) : OpC (fun M => f_X11_pair 0 x y z w M) s (a_pair s x y z w) (n_pair s x y z w) := by
  intro M h
  have h0 := h.1
  have hP := hw.1.1
  have hE := hw.1.2.1
  have hT := hw.1.2.2.2.1
  have h12 := hw.2.2.2.2.1.1
  show ∃ M', f_X11_pair 0 x y z w M = _ ∧ _
  unfold f_X11_pair f_X11_pair_0
  rw [if_pos (sh_O h0 11 (by decide) rfl)]
  by_cases hI : prI s x y z w
  · have hI' := hI
    obtain ⟨hca, h4, hne⟩ := hI'
    rw [if_neg hne, e_canC hw h, b2_s, if_pos hca, if_neg (by decide), sh_R h0 (a := 0) (k := 2) (b := 5) 11 (by decide) rfl (by decide), b1_s, e_hasP hw h, b2_s, if_pos h4, if_neg (by decide), sh_R h0 (a := 0) (k := 3) (b := 14) 11 (by decide) rfl (by decide), b1_s, c_size (h.cx hw), b1_s, nI_2]
    by_cases h10 : (zplan s).1 ≤ 10
    · obtain ⟨p, hp, rfl⟩ := ix_ex (by omega) hca.1
      obtain ⟨p', hp', rfl⟩ := ix_ex (by omega) h4
      obtain ⟨e, he, rfl⟩ := ix_ex (by omega) hca.2.1
      obtain ⟨m, hm, rfl⟩ := ix_ex (by omega) hca.2.2
      have hok := prQ_ok hw hI h10
      have hQ : prQ s (nI p) (nI p') (nI e) (nI m) = plAdd (plAdd (zplan s) (trp p e m)) (trp p' e m) := by unfold prQ; rw [nI_clamp (by omega), nI_clamp (by omega), nI_clamp (by omega), nI_clamp (by omega)]
      obtain ⟨M1, e1, c1, q1, f1⟩ := c_spare hw h
      have x16 : CX s M1 16 (zplan s) := ⟨c1.1, c1.2.2.2.1, hw.1, hw.2.1, PA16, q1, hw.2.2.2.2.1⟩
      obtain ⟨M2, e2, k2, f2⟩ := c_look (L := 51) x16 (Or.inr ⟨rfl, rfl⟩)
      have s2 := f2.sh c1.1
      have c2 : RC s M2 := c1.fr (wL_wC (Or.inr rfl) f2.fr) s2
      obtain ⟨M3, e3, p3, f3, r3⟩ := c_add s2 PA14 c2.2.2.2.2.1 (by omega) (p := p) (e := e) (m := m) (by omega) (by omega) hm
      have s3 := f3.sh' r3 s2
      obtain ⟨M4, e4, p4, f4, r4⟩ := c_add s3 PA14 p3 (by show (zplan s).1 + 1 < 12; omega) (p := p') (e := e) (m := m) (by omega) (by omega) hm
      have s4 := f4.sh' r4 s3
      rw [← hQ] at p4
      have f34 : Fr (wPl 14) M2 M4 := f3.tr f4
      have hall4 := c2.2.2.2.1.fr f34 (fun a k q => by unfold wPl; omega)
      have x14 : CX s M4 14 (prQ s (nI p) (nI p') (nI e) (nI m)) := ⟨s4, hall4, hw.1, hw.2.1, PA14, p4, hok⟩
      obtain ⟨M5, e5, k5, f5⟩ := c_look (L := 18) x14 (Or.inl ⟨rfl, rfl⟩)
      have s5 := f5.sh s4
      have x5 := x14.fl f5
      have k51 : LK s (zplan s) M5 51 := (k2.fr f34 (fun a k h1 h2 => by unfold wPl; omega) hP).fr f5.fr (fun a k h1 h2 => by unfold wL; omega) hP
      have f25 : Fr wP0 M2 M5 := (f34.mono (fun a k q => by unfold wPl at q; unfold wP0; omega)).tr (f5.fr.mono (fun a k q => by unfold wL at q; unfold wP0 wC; omega))
      have c5 : RC (zsplan s (prQ s (nI p) (nI p') (nI e) (nI m))) M5 := c2.pl f25 s5 x5.2.2.2.2.2.1
      have q16 : PL M5 16 (zplan s) := ((q1.fl f2).frw f34 (fun b k q => by unfold wPl; omega)).fl f5
      have fr5 : Fr cW M M5 := (f1.tr (f2.fr.mono (fun a k q => by unfold wL at q; unfold cW; omega))).tr ((f34.mono (fun a k q => by unfold wPl at q; unfold cW; omega)).tr (f5.fr.mono (fun a k q => by unfold wL at q; unfold cW; omega)))
      have hsz : gI 5 1 14 M5 = some (nI ((zplan s).1 + 2)) := c_size x5
      have hi1 : (zplan s).1 < (prQ s (nI p) (nI p') (nI e) (nI m)).1 := by rw [hQ]; show (zplan s).1 < (zplan s).1 + 1 + 1; omega
      have hi2 : (zplan s).1 + 1 < (prQ s (nI p) (nI p') (nI e) (nI m)).1 := by rw [hQ]; show (zplan s).1 + 1 < (zplan s).1 + 1 + 1; omega
      have w1 := whyS_lt s (prQ s (nI p) (nI p') (nI e) (nI m)) (zplan s).1
      have w2 := whyS_lt s (prQ s (nI p) (nI p') (nI e) (nI m)) ((zplan s).1 + 1)
      have back : ¬ prK s (nI p) (nI p') (nI e) (nI m) → ∃ M', f_X11_pair_163 0 M5 = some (a_pair s (nI p) (nI p') (nI e) (nI m), M') ∧ RC (n_pair s (nI p) (nI p') (nI e) (nI m)) M' ∧ Fr cW M M' := by
        intro hk
        obtain ⟨M6, e6, p6, f6, r6⟩ := c_copy s5 PA14 PA16 (by decide) q16 h12
        have s6 := f6.sh' r6 s5
        rw [(pr_2 hI hk).1, (pr_2 hI hk).2]
        refine ⟨M6, ?_, RC.pl c5 (f6.mono (fun a k q => by unfold wPl at q; unfold wP0; omega)) s6 p6, fr5.tr (f6.mono (fun a k q => by unfold wPl at q; unfold cW; omega))⟩
        unfold f_X11_pair_163
        rw [sh_R s5 (a := 0) (k := 3) (b := 14) 11 (by decide) rfl (by decide), b1_s, sh_R s5 (a := 0) (k := 4) (b := 16) 11 (by decide) rfl (by decide), b1_s, e6, b1_s]
      rw [if_pos (show nI ((zplan s).1 + 2) ≤ (12 : Int32) from nI_le (b := 12) (by omega) (by decide)), sh_R h0 (a := 0) (k := 4) (b := 16) 11 (by decide) rfl (by decide), b1_s, b1_s, e1, b1_s, sh_R c1.1 (a := 0) (k := 6) (b := 51) 11 (by decide) rfl (by decide), b1_s, e2, b1_s, sh_R s2 (a := 0) (k := 3) (b := 14) 11 (by decide) rfl (by decide), b1_s, e3, b1_s, sh_R s3 (a := 0) (k := 3) (b := 14) 11 (by decide) rfl (by decide), b1_s, e4, b1_s, sh_R s4 (a := 0) (k := 5) (b := 18) 11 (by decide) rfl (by decide), b1_s, e5, b1_s, sh_R s5 (a := 0) (k := 5) (b := 18) 11 (by decide) rfl (by decide), b1_s, sh_R s5 (a := 0) (k := 3) (b := 14) 11 (by decide) rfl (by decide), b1_s, hsz, b1_s, show nI ((zplan s).1 + 2) - (2 : Int32) = nI (zplan s).1 from pk_sub (a := (zplan s).1 + 2) (b := 2) (by omega), c_why x5 (Or.inl ⟨rfl, rfl⟩) hi1, b2_s]
      unfold f_X11_pair_135 f_X11_pair_136
      by_cases h5 : whyS s (prQ s (nI p) (nI p') (nI e) (nI m)) (zplan s).1 = 0
      · rw [h5, nI_0, if_pos rfl, sh_R s5 (a := 0) (k := 5) (b := 18) 11 (by decide) rfl (by decide), b1_s, sh_R s5 (a := 0) (k := 3) (b := 14) 11 (by decide) rfl (by decide), b1_s, hsz, b1_s, nS1 (by omega), show (zplan s).1 + 2 - 1 = (zplan s).1 + 1 by omega, c_why x5 (Or.inl ⟨rfl, rfl⟩) hi2, b2_s]
        by_cases h6 : whyS s (prQ s (nI p) (nI p') (nI e) (nI m)) ((zplan s).1 + 1) = 0
        · rw [h6, nI_0, if_pos rfl, if_neg (by decide), sh_R s5 (a := 0) (k := 5) (b := 18) 11 (by decide) rfl (by decide), b1_s, (lx_f s5 (Or.inl ⟨rfl, rfl⟩ : LX 18 14)).2.2.2.1, b1_s, sh_R s5 (a := 0) (k := 6) (b := 51) 11 (by decide) rfl (by decide), b1_s, (lx_f s5 (Or.inr ⟨rfl, rfl⟩ : LX 51 16)).2.2.2.1, b1_s, m_more (lx_c s5 (Or.inl ⟨rfl, rfl⟩ : LX 18 14) (by omega)) (lx_c s5 (Or.inr ⟨rfl, rfl⟩ : LX 51 16) (by omega)) k5.2.1 k51.2.1, b2_s, more_wr s _ _ (by omega)]
          cases h7 : anyB (wrB s (zplan s) (prQ s (nI p) (nI p') (nI e) (nI m))) (zT s) with
          | true =>
            rw [if_neg (show ¬ bI true = 0 by decide)]
            exact back (fun g => by rw [g.2.2.2.2] at h7; cases h7)
          | false =>
            have hk : prK s (nI p) (nI p') (nI e) (nI m) := ⟨hI, h10, h5, h6, h7⟩
            obtain ⟨M6, e6, c6, f6⟩ := c_rememb hw c5 q16 (nI ((zplan s).1 + 2)) (nI_pos (by omega))
            rw [if_pos (show bI false = 0 from rfl), sh_R s5 (a := 0) (k := 3) (b := 14) 11 (by decide) rfl (by decide), b1_s, hsz, b1_s, (pr_k hk).1, (pr_k hk).2]
            exact ⟨M6, by rw [e6, b2_s], c6, fr5.tr f6⟩
        · rw [if_neg (nI_ne0 (by omega) (by omega)), if_pos rfl]
          exact back (fun g => h6 g.2.2.2.1)
      · rw [if_neg (nI_ne0 (by omega) (by omega)), if_pos rfl]
        exact back (fun g => h5 g.2.2.1)
    · have hk : ¬ prK s x y z w := fun g => h10 g.2.1
      rw [if_neg (show ¬ nI ((zplan s).1 + 2) ≤ (12 : Int32) from nI_ge (a := 12) (by omega) (by omega)), (pr_2 hI hk).1, (pr_2 hI hk).2]
      exact ⟨M, rfl, h, Fr.rf M⟩
  · rw [(pr_1 hI).1, (pr_1 hI).2]
    refine ⟨M, ?_, h, Fr.rf M⟩
    by_cases h1 : x = y
    · rw [if_pos h1]
    · rw [if_neg h1, e_canC hw h, b2_s]
      by_cases h2 : ixP x (zP s) = true ∧ ixP z (zE s) = true ∧ ixP w 100 = true
      · rw [if_pos h2, if_neg (by decide), sh_R h0 (a := 0) (k := 2) (b := 5) 11 (by decide) rfl (by decide), b1_s, e_hasP hw h, b2_s, if_neg (fun g => hI ⟨h2, g, h1⟩), if_pos rfl]
      · rw [if_neg h2, if_pos rfl]
theorem R_pair {s : St} (hw : WF s) (x y z w : Int32) : OpR (fun M => f_X12_pair 143 x y z w M) s (a_pair s x y z w) (n_pair s x y z w) := by
  intro M h
  obtain ⟨N, et, ht, ft, rt, t0, l0⟩ := r_thr0 h
  have h0 := ht.1
  have hP := hw.1.1
  have hE := hw.1.2.1
  have hT := hw.1.2.2.2.1
  have h12 := hw.2.2.2.2.1.1
  have hR3 := sh_R h0 (a := 143) (k := 15) (b := 153) 12 (by decide) rfl (by decide)
  show ∃ M', f_X12_pair 143 x y z w M = _ ∧ _
  unfold f_X12_pair f_X12_pair_0
  rw [if_pos (sh_O h.1 12 (by decide) rfl), et, b1_s, e_canR hw ht, b2_s]
  by_cases hI : prI s x y z w
  · have hI' := hI
    obtain ⟨hca, h4, hne⟩ := hI'
    rw [if_pos hca, if_neg (by decide), e_isP hw ht, b2_s, if_pos h4, if_neg (by decide), if_neg hne, hR3, b1_s, r_size (ht.rx hw), b1_s]
    by_cases h10 : (zplan s).1 ≤ 10
    · obtain ⟨p, hp, rfl⟩ := ix_ex (by omega) hca.1
      obtain ⟨p', hp', rfl⟩ := ix_ex (by omega) h4
      obtain ⟨e, he, rfl⟩ := ix_ex (by omega) hca.2.1
      obtain ⟨m, hm, rfl⟩ := ix_ex (by omega) hca.2.2
      have hok := prQ_ok hw hI h10
      have hQ : prQ s (nI p) (nI p') (nI e) (nI m) = plAdd (plAdd (zplan s) (trp p e m)) (trp p' e m) := by unfold prQ; rw [nI_clamp (by omega), nI_clamp (by omega), nI_clamp (by omega), nI_clamp (by omega)]
      obtain ⟨M1, M2, e1, e2, s1, x2, c2, f2, r2⟩ := r_then hw ht hp he hm
      have s2 := c2.1
      obtain ⟨M3, e3, p3, f3, r3⟩ := r_comes s2 (Or.inr (Or.inl rfl) : RA 154) x2.2.2.2.2.2.1 (by show (zplan s).1 + 1 < 15; omega) (p := p') (e := e) (m := m) (by omega) (by omega)
      have s3 := f3.sh' r3 s2
      rw [← hQ] at p3
      have f23 : Fr (fun a k => a = 154) N M3 := f2.tr f3
      have c3 : RR s M3 := ht.fr (f23.mono (fun a k q => by unfold wR; omega)) s3
      have x3 : RX s M3 154 (prQ s (nI p) (nI p') (nI e) (nI m)) := ⟨s3, c3.2.2.2.1, hw.1, hw.2.1, Or.inr (Or.inl rfl), p3, by have := hok.1; omega, hok.2⟩
      have fr3 : Fr rW M M3 := ft.tr (f23.mono (fun a k q => by unfold rW; omega))
      have rr3 := (r3.trans r2).trans rt
      have hR16 := sh_R s3 (a := 143) (k := 16) (b := 154) 12 (by decide) rfl (by decide)
      have hsz : ldI 154 45 M3 = some (nI ((zplan s).1 + 2)) := r_size x3
      have hi1 : (zplan s).1 < (prQ s (nI p) (nI p') (nI e) (nI m)).1 := by rw [hQ]; show (zplan s).1 < (zplan s).1 + 1 + 1; omega
      have hi2 : (zplan s).1 + 1 < (prQ s (nI p) (nI p') (nI e) (nI m)).1 := by rw [hQ]; show (zplan s).1 + 1 < (zplan s).1 + 1 + 1; omega
      have w1 := whyS_lt s (prQ s (nI p) (nI p') (nI e) (nI m)) (zplan s).1
      have w2 := whyS_lt s (prQ s (nI p) (nI p') (nI e) (nI m)) ((zplan s).1 + 1)
      rw [if_pos (show nI (zplan s).1 ≤ (10 : Int32) from nI_le (b := 10) (by omega) (by decide)), b1_s, sh_R h0 (a := 143) (k := 16) (b := 154) 12 (by decide) rfl (by decide), b1_s, e1, b1_s, sh_R s1 (a := 143) (k := 16) (b := 154) 12 (by decide) rfl (by decide), b1_s, e2, b1_s, sh_R s2 (a := 143) (k := 16) (b := 154) 12 (by decide) rfl (by decide), b1_s, e3, b1_s, hR16, b1_s, b1_s, hsz, b1_s, show nI ((zplan s).1 + 2) - (2 : Int32) = nI (zplan s).1 from pk_sub (a := (zplan s).1 + 2) (b := 2) (by omega), r_why x3 hi1, b2_s]
      by_cases h5 : whyS s (prQ s (nI p) (nI p') (nI e) (nI m)) (zplan s).1 = 0
      · rw [h5, if_neg (by decide), hR16, b1_s, b1_s, hsz, b1_s, nS1 (by omega), show (zplan s).1 + 2 - 1 = (zplan s).1 + 1 by omega, r_why x3 hi2, b2_s]
        by_cases h6 : whyS s (prQ s (nI p) (nI p') (nI e) (nI m)) ((zplan s).1 + 1) = 0
        · rw [h6, if_neg (by decide), r_nw (c3.rx hw) x3, b2_s]
          cases h7 : anyB (wrB s (zplan s) (prQ s (nI p) (nI p') (nI e) (nI m))) (zT s) with
          | true =>
            have hk : ¬ prK s (nI p) (nI p') (nI e) (nI m) := fun g => by rw [g.2.2.2.2] at h7; cases h7
            rw [if_pos (show bI (!true) = 0 from rfl), (pr_2 hI hk).1, (pr_2 hI hk).2]
            exact ⟨M3, rfl, c3, fr3, rr3⟩
          | false =>
            have hk : prK s (nI p) (nI p') (nI e) (nI m) := ⟨hI, h10, h5, h6, h7⟩
            obtain ⟨M4, e4, c4, q4, f4, r4⟩ := r_spare hw c3
            obtain ⟨M4', e4', p4', q4', f4', r4'⟩ := r_putsBy c3.1 (n := zU s) (u := zund s) c3.2.2.2.2.2.2.1 hw.1.2.2.2.2.1 (fun j hj => by have := (hw.2.2.2.2.2.1 j hj).1; omega) c3.2.2.2.2.1 (by omega)
            have e44 : M4 = M4' := Option.some.inj (e4.symm.trans e4')
            have p154 : PR M4 154 0 (prQ s (nI p) (nI p') (nI e) (nI m)) := by rw [e44]; exact p3.frw f4' (fun b k q => by omega)
            obtain ⟨M5, e5, p5, f5, r5⟩ := r_puts c4.1 (Or.inr (Or.inl rfl) : RA 154) (Or.inl rfl : RA 153) (by decide) p154 (by have := hok.1; omega)
            have s5 := f5.sh' r5 c4.1
            have c5 : RR (zsplan s (prQ s (nI p) (nI p') (nI e) (nI m))) M5 := c4.pl (f5.mono (fun a k q => by unfold wQ1; omega)) s5 p5
            have e45 := p5.1
            rw [Nat.zero_add, hQ] at e45
            have e45' : mI M5 153 45 = nI ((zplan s).1 + 2) := e45
            obtain ⟨M6, e6, c6, f6, r6⟩ := r_rememb hw c5 (q4.frw f5 (fun b k q => by omega)) (nI ((zplan s).1 + 2))
            rw [if_neg (show ¬ bI (!false) = 0 by decide), e4, b1_s, sh_R c4.1 (a := 143) (k := 16) (b := 154) 12 (by decide) rfl (by decide), b1_s, sh_R c4.1 (a := 143) (k := 15) (b := 153) 12 (by decide) rfl (by decide), b1_s, e5, b1_s, sh_R s5 (a := 143) (k := 15) (b := 153) 12 (by decide) rfl (by decide), b1_s, n45, ld_153 s5 (by decide), b1_s, e45', e6, b2_s, (pr_k hk).1, (pr_k hk).2]
            exact ⟨M6, rfl, c6, ((fr3.tr f4).tr (f5.mono (fun a k q => by unfold rW; omega))).tr f6, r6.trans (r5.trans (r4.trans rr3))⟩
        · have hk : ¬ prK s (nI p) (nI p') (nI e) (nI m) := fun g => h6 g.2.2.2.1
          rw [if_pos (show (0 : Int32) < nI (whyS s (prQ s (nI p) (nI p') (nI e) (nI m)) ((zplan s).1 + 1)) from nI_lt (a := 0) (by omega) (by omega)), (pr_2 hI hk).1, (pr_2 hI hk).2]
          exact ⟨M3, rfl, c3, fr3, rr3⟩
      · have hk : ¬ prK s (nI p) (nI p') (nI e) (nI m) := fun g => h5 g.2.2.1
        rw [if_pos (show (0 : Int32) < nI (whyS s (prQ s (nI p) (nI p') (nI e) (nI m)) (zplan s).1) from nI_lt (a := 0) (by omega) (by omega)), (pr_2 hI hk).1, (pr_2 hI hk).2]
        exact ⟨M3, rfl, c3, fr3, rr3⟩
    · have hk : ¬ prK s x y z w := fun g => h10 g.2.1
      rw [if_neg (show ¬ nI (zplan s).1 ≤ (10 : Int32) from nI_ge (a := 10) (by omega) (by omega)), (pr_2 hI hk).1, (pr_2 hI hk).2]
      exact ⟨N, rfl, ht, ft, rt⟩
  · rw [(pr_1 hI).1, (pr_1 hI).2]
    refine ⟨N, ?_, ht, ft, rt⟩
    by_cases h2 : ixP x (zP s) = true ∧ ixP z (zE s) = true ∧ ixP w 100 = true
    · rw [if_pos h2, if_neg (by decide), e_isP hw ht, b2_s]
      by_cases h3 : ixP y (zP s) = true
      · rw [if_pos h3, if_neg (by decide), if_pos (Classical.byContradiction (fun g => hI ⟨h2, h3, g⟩))]
      · rw [if_neg h3, if_pos rfl]
    · rw [if_neg h2, if_pos rfl]
theorem case_14 : CaseOK g_L_14 := by
  intro L xs j K M hL hj hc
  obtain ⟨s, hw, hc, hr⟩ := hc
  obtain ⟨M1, M2, hcp, e1, e2⟩ := asm (C_pair hw (xs (j + 1)) (xs (j + 2)) (xs (j + 3)) (xs (j + 4))) (R_pair hw (xs (j + 1)) (xs (j + 2)) (xs (j + 3)) (xs (j + 4))) (W_pair hw (xs (j + 1)) (xs (j + 2)) (xs (j + 3)) (xs (j + 4))) hc hr
  refine ⟨M2, hcp, ?_⟩
  unfold g_L_14
  simp only [show (nI j + 1 : Int32) = nI (j + 1) from nI_add _ 1, show (nI j + 2 : Int32) = nI (j + 2) from nI_add _ 2, show (nI j + 3 : Int32) = nI (j + 3) from nI_add _ 3, show (nI j + 4 : Int32) = nI (j + 4) from nI_add _ 4, scr_k (show j + 1 < L by omega) hL, scr_k (show j + 2 < L by omega) hL, scr_k (show j + 3 < L by omega) hL, scr_k (show j + 4 < L by omega) hL, b1_s, e1, e2, b2_s, if_true]

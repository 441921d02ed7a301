/-! CALLS: go, earliest, latest -/
def giK (s : St) (x y z : Int32) : Prop := (ixP x (zP s) = true ∧ ixP y (zE s) = true ∧ ixP z 100 = true) ∧ mnS s (zplan s) x.toNatClampNeg y.toNatClampNeg z.toNatClampNeg = 0
noncomputable def giA (s : St) (x y z : Int32) : Int32 := by classical exact if giK s x y z then nI ((zplan s).1 + 1) else if ixP x (zP s) = true ∧ ixP y (zE s) = true ∧ ixP z 100 = true then -2 else -1
noncomputable def giQ (s : St) (x y z : Int32) : Pl := by classical exact if giK s x y z then plAdd (zplan s) (trp x.toNatClampNeg y.toNatClampNeg z.toNatClampNeg) else zplan s
theorem giA_k {s : St} {x y z : Int32} (h : giK s x y z) : giA s x y z = nI ((zplan s).1 + 1) := if_pos h
theorem giQ_k {s : St} {x y z : Int32} (h : giK s x y z) : giQ s x y z = plAdd (zplan s) (trp x.toNatClampNeg y.toNatClampNeg z.toNatClampNeg) := if_pos h
theorem giQ_n {s : St} {x y z : Int32} (h : ¬ giK s x y z) : giQ s x y z = zplan s := if_neg h
theorem giA_2 {s : St} {x y z : Int32} (h : ¬ giK s x y z) (h2 : ixP x (zP s) = true ∧ ixP y (zE s) = true ∧ ixP z 100 = true) : giA s x y z = -2 := (if_neg h).trans (if_pos h2)
theorem giA_1 {s : St} {x y z : Int32} (h2 : ¬ (ixP x (zP s) = true ∧ ixP y (zE s) = true ∧ ixP z 100 = true)) : giA s x y z = -1 := (if_neg (fun q => h2 q.1)).trans (if_neg h2)
theorem mn0 {s : St} {q : Pl} {p e m : Nat} (h : mnS s q p e m = 0) : whyS s (plAdd q (trp p e m)) q.1 = 0 ∧ anyB (wrB s q (plAdd q (trp p e m))) (zT s) = false ∧ q.1 ≠ 12 := by
  unfold mnS at h
  by_cases h1 : whyS s (plAdd q (trp p e m)) q.1 ≠ 0
  · rw [if_pos h1] at h; exact absurd h h1
  · rw [if_neg h1] at h
    by_cases h2 : anyB (wrB s q (plAdd q (trp p e m))) (zT s) = true
    · rw [if_pos h2] at h; cases h
    · rw [if_neg h2] at h
      by_cases h3 : q.1 = 12
      · rw [if_pos h3] at h; cases h
      · exact ⟨Classical.not_not.mp h1, by cases hb : anyB (wrB s q (plAdd q (trp p e m))) (zT s) <;> simp_all, h3⟩
theorem giQ_ok {s : St} (hw : WF s) (x y z : Int32) : okPl (zP s) (zE s) (giQ s x y z) := by
  have hP := hw.1.1
  have hE := hw.1.2.1
  by_cases h : giK s x y z
  · rw [giQ_k h]
    obtain ⟨⟨h1, h2, h3⟩, h4⟩ := h
    obtain ⟨p, hp, rfl⟩ := ix_ex (by omega) h1
    obtain ⟨e, he, rfl⟩ := ix_ex (by omega) h2
    obtain ⟨m, hm, rfl⟩ := ix_ex (by omega) h3
    rw [nI_clamp (by omega), nI_clamp (by omega), nI_clamp (by omega)] at h4 ⊢
    have h12 := hw.2.2.2.2.1.1
    exact okPl_add hw.2.2.2.2.1 (by have := (mn0 h4).2.2; omega) (trp_ok (by omega) (by omega) hp he hm)
  · rw [giQ_n h]; exact hw.2.2.2.2.1
theorem giA_neg {s : St} {x y z : Int32} (h : ¬ giK s x y z) : giA s x y z < 0 ∧ ¬ (0 : Int32) ≤ giA s x y z := by
  by_cases hI : ixP x (zP s) = true ∧ ixP y (zE s) = true ∧ ixP z 100 = true
  · rw [giA_2 h hI]; decide
  · rw [giA_1 hI]; decide
theorem giA_pos {s : St} {x y z : Int32} (hw : WF s) (h : giK s x y z) : ¬ giA s x y z < 0 ∧ (0 : Int32) ≤ giA s x y z := by
  have h12 := hw.2.2.2.2.1.1
  rw [giA_k h]
  exact ⟨nI_pos (by omega), nI_pos' (by omega)⟩
theorem wL_wC {M M' : MM} {L : Nat} (hl : L = 18 ∨ L = 51) (f : Fr (fun a _ => wL L a) M M') : Fr wC M M' := f.mono (fun a k q => by unfold wL at q; unfold wC; omega)
theorem c_goin {s : St} {M : MM} (hw : WF s) (h : RC s M) (x y z : Int32) : ∃ M', f_X11_putIn 0 x y z M = some (giA s x y z, M') ∧ RC (zsplan s (giQ s x y z)) M' ∧ Fr (fun a k => wL 18 a ∨ wPl 14 a k) M M' ∧ mR M' = mR M := by
  have h0 := h.1
  have hP := hw.1.1
  have hE := hw.1.2.1
  have h12 := hw.2.2.2.2.1.1
  unfold f_X11_putIn f_X11_putIn_0
  rw [if_pos (sh_O h0 11 (by decide) rfl), e_canC hw h, b2_s]
  by_cases hc : ixP x (zP s) = true ∧ ixP y (zE s) = true ∧ ixP z 100 = true
  · obtain ⟨p, hp, rfl⟩ := ix_ex (by omega) hc.1
    obtain ⟨e, he, rfl⟩ := ix_ex (by omega) hc.2.1
    obtain ⟨m, hm, rfl⟩ := ix_ex (by omega) hc.2.2
    obtain ⟨M1, e1, k1, f1⟩ := c_look (h.cx hw) (Or.inl ⟨rfl, rfl⟩)
    have c1 : RC s M1 := h.fr (wL_wC (Or.inl rfl) f1.fr) (f1.sh h0)
    have fa : Fr (fun a k => wL 18 a ∨ wPl 14 a k) M M1 := f1.fr.mono (fun a k q => Or.inl q)
    have hmn := mnS_lt s (zplan s) p e m
    rw [if_pos hc, if_neg (by decide), sh_R h0 (a := 0) (k := 5) (b := 18) 11 (by decide) rfl (by decide), b1_s, e1, b1_s, sh_R c1.1 (a := 0) (k := 5) (b := 18) 11 (by decide) rfl (by decide), b1_s, c_hin (c1.cx hw) (Or.inl ⟨rfl, rfl⟩) k1 hp he hm, b2_s]
    by_cases hz : mnS s (zplan s) p e m = 0
    · have hk : giK s (nI p) (nI e) (nI m) := ⟨hc, by rw [nI_clamp (by omega), nI_clamp (by omega), nI_clamp (by omega)]; exact hz⟩
      obtain ⟨M2, e2, p2, f2, r2⟩ := c_add c1.1 PA14 c1.2.2.2.2.1 (by have := (mn0 hz).2.2; omega) (p := p) (e := e) (m := m) (by omega) (by omega) hm
      have s2 := f2.sh' r2 c1.1
      rw [giA_k hk, giQ_k hk, nI_clamp (by omega), nI_clamp (by omega), nI_clamp (by omega)]
      refine ⟨M2, ?_, c1.pl (f2.mono (fun a k q => by unfold wPl at q; unfold wP0; omega)) s2 p2, fa.tr (f2.mono (fun a k q => Or.inr q)), r2.trans f1.2.2.2.1⟩
      rw [hz, nI_0, if_pos rfl, sh_R c1.1 (a := 0) (k := 3) (b := 14) 11 (by decide) rfl (by decide), b1_s, e2, b1_s, sh_R s2 (a := 0) (k := 3) (b := 14) 11 (by decide) rfl (by decide), b1_s, gI_k 1 (sh_O s2 5 (by decide) rfl), b1_s, p2.1]
      rfl
    · have hk : ¬ giK s (nI p) (nI e) (nI m) := fun g => hz (by have := g.2; rw [nI_clamp (by omega), nI_clamp (by omega), nI_clamp (by omega)] at this; exact this)
      rw [giA_2 hk hc, giQ_n hk, if_neg (nI_ne0 (by omega) (by omega))]
      exact ⟨M1, rfl, c1, fa, f1.2.2.2.1⟩
  · rw [giA_1 hc, giQ_n (fun g => hc g.1), if_neg hc, if_pos rfl]
    exact ⟨M, rfl, h, Fr.rf M, rfl⟩
theorem r_goin {s : St} {M : MM} (hw : WF s) (h : RR s M) (x y z : Int32) : ∃ M', f_X12_goes 143 x y z M = some (giA s x y z, M') ∧ RR (zsplan s (giQ s x y z)) M' ∧ Fr (fun a k => a = 153 ∨ a = 154) M M' ∧ mR M' = mR M := by
  have h0 := h.1
  have hP := hw.1.1
  have hE := hw.1.2.1
  have h12 := hw.2.2.2.2.1.1
  unfold f_X12_goes f_X12_goes_0
  rw [if_pos (sh_O h0 12 (by decide) rfl), e_canR hw h, b2_s]
  by_cases hc : ixP x (zP s) = true ∧ ixP y (zE s) = true ∧ ixP z 100 = true
  · obtain ⟨p, hp, rfl⟩ := ix_ex (by omega) hc.1
    obtain ⟨e, he, rfl⟩ := ix_ex (by omega) hc.2.1
    obtain ⟨m, hm, rfl⟩ := ix_ex (by omega) hc.2.2
    obtain ⟨M1, e1, c1, f1, r1⟩ := r_may hw h hp he hm
    have fa : Fr (fun a k => a = 153 ∨ a = 154) M M1 := f1.mono (fun a k q => Or.inr q)
    have hmn := mnS_lt s (zplan s) p e m
    rw [if_pos hc, if_neg (by decide), e1, b2_s]
    by_cases hz : mnS s (zplan s) p e m = 0
    · have hk : giK s (nI p) (nI e) (nI m) := ⟨hc, by rw [nI_clamp (by omega), nI_clamp (by omega), nI_clamp (by omega)]; exact hz⟩
      obtain ⟨M2, e2, p2, f2, r2⟩ := r_comes c1.1 (Or.inl rfl : RA 153) c1.2.2.2.2.1 (by omega) (p := p) (e := e) (m := m) (by omega) (by omega)
      have s2 := f2.sh' r2 c1.1
      have e45 := p2.1
      rw [Nat.zero_add] at e45
      rw [giA_k hk, giQ_k hk, nI_clamp (by omega), nI_clamp (by omega), nI_clamp (by omega)]
      refine ⟨M2, ?_, c1.pl (f2.mono (fun a k q => by unfold wQ1; omega)) s2 p2, fa.tr (f2.mono (fun a k q => Or.inl q)), r2.trans r1⟩
      rw [hz, nI_0, if_pos rfl, sh_R c1.1 (a := 143) (k := 15) (b := 153) 12 (by decide) rfl (by decide), b1_s, e2, b1_s, sh_R s2 (a := 143) (k := 15) (b := 153) 12 (by decide) rfl (by decide), b1_s, n45, ld_153 s2 (by decide), b1_s, e45]
      rfl
    · have hk : ¬ giK s (nI p) (nI e) (nI m) := fun g => hz (by have := g.2; rw [nI_clamp (by omega), nI_clamp (by omega), nI_clamp (by omega)] at this; exact this)
      rw [giA_2 hk hc, giQ_n hk, if_neg (nI_ne0 (by omega) (by omega))]
      exact ⟨M1, rfl, c1, fa, r1⟩
  · rw [giA_1 hc, giQ_n (fun g => hc g.1), if_neg hc, if_pos rfl]
    exact ⟨M, rfl, h, Fr.rf M, rfl⟩
noncomputable def a_go (s : St) (x y z : Int32) : Int32 := giA s x y z
noncomputable def n_go (s : St) (x y z : Int32) : St := by classical exact if giK s x y z then zpush s (giQ s x y z) else s
theorem n_go_k {s : St} {x y z : Int32} (h : giK s x y z) : n_go s x y z = zpush s (giQ s x y z) := if_pos h
theorem n_go_n {s : St} {x y z : Int32} (h : ¬ giK s x y z) : n_go s x y z = s := if_neg h
theorem W_go {s : St} (hw : WF s) (x y z : Int32) : WF (n_go s x y z) := by
  by_cases h : giK s x y z
  · rw [n_go_k h]; exact WF_push hw (giQ_ok hw x y z)
  · rw [n_go_n h]; exact hw
theorem C_go {s : St} (hw : WF s) (x y z : Int32) : OpC (fun M => f_X11_go 0 x y z M) s (a_go s x y z) (n_go s x y z) := by
  intro M h
  obtain ⟨M1, e1, c1, q1, f1⟩ := c_spare hw h
  obtain ⟨M2, e2, c2, f2, r2⟩ := c_goin hw c1 x y z
  have f2' : Fr cW M1 M2 := f2.mono (fun a k q => by unfold wL wPl at q; unfold cW; omega)
  show ∃ M', f_X11_go 0 x y z M = _ ∧ _
  unfold f_X11_go f_X11_go_0 a_go
  rw [if_pos (sh_O h.1 11 (by decide) rfl), sh_R h.1 (a := 0) (k := 4) (b := 16) 11 (by decide) rfl (by decide), b1_s, sh_R h.1 (a := 0) (k := 3) (b := 14) 11 (by decide) rfl (by decide), b1_s, e1, b1_s, e2, b2_s]
  by_cases hc : giK s x y z
  · obtain ⟨M3, e3, c3, f3⟩ := c_rememb hw c2 (q1.frw f2 (fun b k q => by unfold wL wPl; omega)) (giA s x y z) (giA_pos hw hc).1
    rw [n_go_k hc]
    exact ⟨M3, by rw [e3, b2_s], c3, (f1.tr f2').tr f3⟩
  · rw [giQ_n hc] at c2
    rw [n_go_n hc, c_remem0 c2.1 _ (giA_neg hc).1]
    exact ⟨M2, by rw [b2_s], c2, f1.tr f2'⟩
theorem R_go {s : St} (hw : WF s) (x y z : Int32) : OpR (fun M => f_X12_go 143 x y z M) s (a_go s x y z) (n_go s x y z) := by
  intro M h
  obtain ⟨N, et, ht, ft, rt, t0, l0⟩ := r_thr0 h
  obtain ⟨M1, e1, c1, q1, f1, r1⟩ := r_spare hw ht
  obtain ⟨M2, e2, c2, f2, r2⟩ := r_goin hw c1 x y z
  have f2' : Fr rW M1 M2 := f2.mono (fun a k q => by unfold rW; omega)
  show ∃ M', f_X12_go 143 x y z M = _ ∧ _
  unfold f_X12_go f_X12_go_0 a_go
  rw [if_pos (sh_O h.1 12 (by decide) rfl), et, b1_s, e1, b1_s, e2, b2_s]
  by_cases hc : giK s x y z
  · obtain ⟨M3, e3, c3, f3, r3⟩ := r_rememb hw c2 (q1.frw f2 (fun b k q => by omega)) (giA s x y z)
    rw [n_go_k hc]
    exact ⟨M3, by rw [if_pos (giA_pos hw hc).2, e3, b2_s], c3, ((ft.tr f1).tr f2').tr f3, r3.trans (r2.trans (r1.trans rt))⟩
  · rw [giQ_n hc] at c2
    rw [n_go_n hc, if_neg (giA_neg hc).2]
    exact ⟨M2, rfl, c2, (ft.tr f1).tr f2', r2.trans (r1.trans rt)⟩
theorem case_13 : CaseOK g_L_13 := by
  intro L xs j K M hL hj hc
  obtain ⟨s, hw, hc, hr⟩ := hc
  obtain ⟨M1, M2, hcp, e1, e2⟩ := asm (C_go hw (xs (j + 1)) (xs (j + 2)) (xs (j + 3))) (R_go hw (xs (j + 1)) (xs (j + 2)) (xs (j + 3))) (W_go hw (xs (j + 1)) (xs (j + 2)) (xs (j + 3))) hc hr
  refine ⟨M2, hcp, ?_⟩
  unfold g_L_13
  simp only [show (nI j + 1 : Int32) = nI (j + 1) from nI_add _ 1, show (nI j + 2 : Int32) = nI (j + 2) from nI_add _ 2, show (nI j + 3 : Int32) = nI (j + 3) from nI_add _ 3, show (nI j + 4 : Int32) = nI (j + 4) from nI_add _ 4, scr_k (show j + 1 < L by omega) hL, scr_k (show j + 2 < L by omega) hL, scr_k (show j + 3 < L by omega) hL, scr_k (show j + 4 < L by omega) hL, b1_s, e1, e2, b2_s, if_true]
/-! earliest, latest -/
theorem fa_eq' {P : Nat → Bool} {n k : Nat} (hk : k < n) (h1 : P k = true) (h2 : ∀ j, j < k → P j = false) : fa_first P n = k := by
  have a := fa_first_le P n
  rcases Nat.lt_trichotomy (fa_first P n) k with h | h | h
  · have := h2 _ h
    rw [fa_first_yes P n (by omega)] at this; cases this
  · exact h
  · have := fa_first_no P n k h
    rw [h1] at this; cases this
theorem fa_none' {P : Nat → Bool} {n : Nat} (h : ∀ j, j < n → P j = false) : fa_first P n = n := by
  have a := fa_first_le P n
  rcases Nat.lt_or_ge (fa_first P n) n with g | g
  · have := h _ g
    rw [fa_first_yes P n g] at this; cases this
  · omega
def mzB (s : St) (q : Pl) (p e m : Nat) : Bool := decide (mnS s q p e m = 0)
def erN (s : St) (q : Pl) (p e : Nat) : Nat := fa_first (mzB s q p e) 100
def laN (s : St) (q : Pl) (p e : Nat) : Nat := fa_first (fun j => mzB s q p e (99 - j)) 100
def erI (s : St) (q : Pl) (p e : Nat) (d : Int32) : Int32 := if erN s q p e < 100 then nI (erN s q p e) else d
def laI (s : St) (q : Pl) (p e : Nat) (d : Int32) : Int32 := if laN s q p e < 100 then nI (99 - laN s q p e) else d
theorem mz_op {s : St} {q : Pl} {p e m : Nat} (hp : p < 8) (he : e < 8) (h : mzB s q p e m = true) : zfro s e ≤ m + zway s e ∧ m + zway s e + zlas s e ≤ ztil s e := by
  have := (mn0 (of_decide_eq_true h)).1
  rw [why_add hp he] at this
  by_cases h1 : zT s < m + zlen s e
  · rw [if_pos h1] at this; cases this
  · rw [if_neg h1] at this
    cases h2 : opB s e m with
    | false => rw [if_pos h2] at this; cases this
    | true => unfold opB at h2; exact of_decide_eq_true h2
theorem mz_f {s : St} {q : Pl} {p e m : Nat} (hp : p < 8) (he : e < 8) (h : ¬ (zfro s e ≤ m + zway s e ∧ m + zway s e + zlas s e ≤ ztil s e)) : mzB s q p e m = false := by
  cases hb : mzB s q p e m with
  | false => rfl
  | true => exact absurd (mz_op hp he hb) h
theorem mz_n {s : St} {q : Pl} {p e m : Nat} : (nI (mnS s q p e m) = 0) ↔ mzB s q p e m = true := by
  have := mnS_lt s q p e m
  unfold mzB
  rw [decide_eq_true_eq]
  constructor
  · intro h
    by_cases hz : mnS s q p e m = 0
    · exact hz
    · exact absurd h (nI_ne0 (by omega) (by omega))
  · intro h; rw [h]; rfl
section OFF
variable {s : St} {M : MM} {q : Pl}
def fsO (s : St) (e : Nat) : Nat := zfro s e - zway s e
def lsO (s : St) (e : Nat) : Int32 := minI 99 (nI (ztil s e) - nI (zway s e) - nI (zlas s e))
theorem c_fst (h : CX s M 14 q) {e : Nat} (he : e < zE s) : f_X3_firstOpen 89 (nI e) M = some (nI (fsO s e), M) := by
  have h0 := h.1
  have hB := h.2.2.2.1.2.1 e he
  unfold f_X3_firstOpen f_X3_firstOpen_0
  rw [if_pos (sh_O h0 3 (by decide) rfl), sh_R h0 (a := 89) (k := 0) (b := 5) 3 (by decide) rfl (by decide), b1_s, sh_R h0 (a := 5) (k := 3) (b := 9) 9 (by decide) rfl (by decide), b1_s, lc_fro h0 h.2.1 h.2.2.1 he, b1_s, b1_s, sh_R h0 (a := 5) (k := 1) (b := 7) 9 (by decide) rfl (by decide), b1_s, lc_way h0 h.2.1 h.2.2.1 he, b1_s]
  unfold fsO maxI
  by_cases hc : zway s e < zfro s e
  · rw [pk_sub (by omega), if_pos (show (0 : Int32) < nI (zfro s e - zway s e) from nI_lt (a := 0) (by omega) (by omega))]
  · rw [if_neg, show zfro s e - zway s e = 0 by omega]
    · rfl
    · rw [fa_lt, fb_subI (by rw [nI_toInt (by omega), nI_toInt (by omega)]; omega) (by rw [nI_toInt (by omega), nI_toInt (by omega)]; omega), nI_toInt (by omega), nI_toInt (by omega), show (0 : Int32).toInt = 0 from by decide]
      omega
theorem c_lst (h : CX s M 14 q) {e : Nat} (he : e < zE s) : f_X3_lastOpen 89 (nI e) M = some (lsO s e, M) := by
  have h0 := h.1
  unfold f_X3_lastOpen f_X3_lastOpen_0
  rw [if_pos (sh_O h0 3 (by decide) rfl), sh_R h0 (a := 89) (k := 0) (b := 5) 3 (by decide) rfl (by decide), b1_s, sh_R h0 (a := 5) (k := 4) (b := 10) 9 (by decide) rfl (by decide), b1_s, lc_til h0 h.2.1 h.2.2.1 he, b1_s, b1_s, sh_R h0 (a := 5) (k := 1) (b := 7) 9 (by decide) rfl (by decide), b1_s, lc_way h0 h.2.1 h.2.2.1 he, b1_s, b1_s, sh_R h0 (a := 5) (k := 2) (b := 8) 9 (by decide) rfl (by decide), b1_s, lc_las h0 h.2.1 h.2.2.1 he, b1_s]
  rfl
theorem lsO_t (hh : WFh s) {e : Nat} (he : e < zE s) : (lsO s e).toInt = if (ztil s e : Int) - zway s e - zlas s e < 99 then (ztil s e : Int) - zway s e - zlas s e else 99 := by
  have hB := hh.2.1 e he
  have a1 : (nI (ztil s e) - nI (zway s e)).toInt = (ztil s e : Int) - zway s e := by rw [fb_subI (by rw [nI_toInt (by omega), nI_toInt (by omega)]; omega) (by rw [nI_toInt (by omega), nI_toInt (by omega)]; omega), nI_toInt (by omega), nI_toInt (by omega)]
  have a2 : (nI (ztil s e) - nI (zway s e) - nI (zlas s e)).toInt = (ztil s e : Int) - zway s e - zlas s e := by rw [fb_subI (by rw [a1, nI_toInt (by omega)]; omega) (by rw [a1, nI_toInt (by omega)]; omega), a1, nI_toInt (by omega)]
  unfold lsO minI
  by_cases hc : (ztil s e : Int) - zway s e - zlas s e < 99
  · rw [if_pos (by rw [fa_lt, a2, show (99 : Int32).toInt = 99 from by decide]; exact hc), if_pos hc, a2]
  · rw [if_neg (by rw [fa_lt, a2, show (99 : Int32).toInt = 99 from by decide]; exact hc), if_neg hc]; rfl
theorem c_soon (h : CX s M 14 q) (hk : LK s q M 18) {p e : Nat} (hp : p < zP s) (he : e < zE s) : f_X3_soonest 89 (nI p) (nI e) M = some (erI s q p e (-1), M) := by
  have h0 := h.1
  have hP := h.2.2.1.1
  have hE := h.2.2.1.2.1
  have hB := h.2.2.2.1.2.1 e he
  have lt := lsO_t h.2.2.2.1 he
  unfold f_X3_soonest f_X3_soonest_0
  rw [if_pos (sh_O h0 3 (by decide) rfl), c_fst h he, b2_s]
  refine lpi (fun f k => f_X3_soonest_6 f 89 (nI p) (nI e) (nI k) M) (fun k => fsO s e ≤ k ∧ ∀ j, j < k → mzB s q p e j = false) 100 _ (fun f k hk' hi => ?_) (fun f hi => ?_) 1024 (fsO s e) (by unfold fsO; omega) (by omega) ⟨Nat.le_refl _, fun j hj => mz_f (by omega) (by omega) (by unfold fsO at hj; omega)⟩
  · show (f_X3_soonest_6 (f + 1) _ _ _ _ _ = _ ∧ _) ∨ f_X3_soonest_6 (f + 1) _ _ _ _ _ = _
    rw [f_X3_soonest_6, c_lst h he, b2_s]
    by_cases hc : lsO s e < nI k
    · right
      rw [if_pos hc]
      have : erN s q p e = 100 := fa_none' (fun j hj => by
        by_cases hjk : j < k
        · exact hi.2 j hjk
        · refine mz_f (by omega) (by omega) ?_
          rw [fa_lt, lt, nI_toInt (by omega)] at hc
          split at hc <;> omega)
      unfold erI
      rw [this, if_neg (by decide)]
    · rw [if_neg hc, sh_R h0 (a := 89) (k := 2) (b := 18) 3 (by decide) rfl (by decide), b1_s, c_hin h (Or.inl ⟨rfl, rfl⟩) hk hp he hk', b2_s]
      cases hz : mzB s q p e k with
      | true =>
        right
        rw [if_pos (mz_n.mpr hz)]
        have : erN s q p e = k := fa_eq' hk' hz hi.2
        unfold erI
        rw [this, if_pos hk']
      | false =>
        left
        rw [if_neg (fun g => by rw [mz_n.mp g] at hz; cases hz), bn_s, nI_1]
        refine ⟨rfl, by omega, fun j hj => ?_⟩
        by_cases hjk : j = k
        · rw [hjk]; exact hz
        · exact hi.2 j (by omega)
  · show f_X3_soonest_6 (f + 1) _ _ _ _ _ = _
    rw [f_X3_soonest_6, c_lst h he, b2_s, if_pos]
    · have : erN s q p e = 100 := fa_none' hi.2
      unfold erI
      rw [this, if_neg (by decide)]
    · rw [fa_lt, lt, nI_toInt (by decide)]
      split <;> omega
end OFF
theorem r_soon {s : St} {M : MM} (hw : WF s) (h : RR s M) {p e : Nat} (hp : p < zP s) (he : e < zE s) : ∃ r : Int32 × MM, f_X12_earliestFor 143 (nI p) (nI e) M = some r ∧ (r.1 = erI s (zplan s) p e (-2) ∧ RR s r.2 ∧ Fr (fun a k => a = 154) M r.2 ∧ mR r.2 = mR M) := by
  have hP := hw.1.1
  have hE := hw.1.2.1
  unfold f_X12_earliestFor f_X12_earliestFor_0
  rw [if_pos (sh_O h.1 12 (by decide) rfl), ← nI_0]
  refine lpm (fun f k N => f_X12_earliestFor_2 f 143 (nI p) (nI e) (nI k) N) (fun k N => (∀ j, j < k → mzB s (zplan s) p e j = false) ∧ RR s N ∧ Fr (fun a k => a = 154) M N ∧ mR N = mR M) _ 100 (fun f k N hk hi => ?_) (fun f N hi => ?_) 1024 0 M (by omega) (by omega) ⟨fun j hj => absurd hj (Nat.not_lt_zero j), h, Fr.rf M, rfl⟩
  · show (∃ M', f_X12_earliestFor_2 (f + 1) _ _ _ _ _ = _ ∧ _) ∨ ∃ r, f_X12_earliestFor_2 (f + 1) _ _ _ _ _ = _ ∧ _
    obtain ⟨N1, e1, c1, f1, r1⟩ := r_may hw hi.2.1 hp he hk
    rw [f_X12_earliestFor_2, if_neg (show ¬ (99 : Int32) < nI k from nI_nlt (a := 99) (by omega) (by decide)), e1, b2_s]
    cases hz : mzB s (zplan s) p e k with
    | true =>
      right
      have : erN s (zplan s) p e = k := fa_eq' hk hz hi.1
      refine ⟨_, by rw [if_pos (mz_n.mpr hz)], ?_, c1, hi.2.2.1.tr f1, r1.trans hi.2.2.2⟩
      unfold erI
      rw [this, if_pos hk]
    | false =>
      left
      refine ⟨N1, by rw [if_neg (fun g => by rw [mz_n.mp g] at hz; cases hz), bn_s, nI_1], fun j hj => ?_, c1, hi.2.2.1.tr f1, r1.trans hi.2.2.2⟩
      by_cases hjk : j = k
      · rw [hjk]; exact hz
      · exact hi.1 j (by omega)
  · show ∃ r, f_X12_earliestFor_2 (f + 1) _ _ _ _ _ = _ ∧ _
    rw [f_X12_earliestFor_2, if_pos (show (99 : Int32) < nI 100 by decide)]
    refine ⟨_, rfl, ?_, hi.2⟩
    have : erN s (zplan s) p e = 100 := fa_none' hi.1
    unfold erI
    rw [this, if_neg (by decide)]

/-! sheet -/
def clN (v : Int32) : Nat := (maxI 1 (minI 9 v)).toNatClampNeg
theorem clN_e (v : Int32) : maxI 1 (minI 9 v) = nI (clN v) ∧ 1 ≤ clN v ∧ clN v ≤ 9 := by
  have h : 1 ≤ (maxI 1 (minI 9 v)).toInt ∧ (maxI 1 (minI 9 v)).toInt ≤ 9 := by
    unfold maxI minI
    by_cases h1 : v < 9
    · rw [if_pos h1]
      rw [fa_lt, show (9 : Int32).toInt = 9 from by decide] at h1
      by_cases h2 : 1 < v
      · rw [if_pos h2]; rw [fa_lt, show (1 : Int32).toInt = 1 from by decide] at h2; omega
      · rw [if_neg h2]; decide
    · rw [if_neg h1]; decide
  have e : (maxI 1 (minI 9 v)) = nI (maxI 1 (minI 9 v)).toInt.toNat := by rw [fa_eq, nI_toInt (by omega)]; omega
  have e2 : clN v = (maxI 1 (minI 9 v)).toInt.toNat := by unfold clN; rw [e, nI_clamp (by omega)]; rw [← e]
  rw [e2]
  exact ⟨e, by omega, by omega⟩
def enK (k : Int32) (x : Int32) : Int32 := if k = 0 then Int8.toInt32 (Int32.toInt8 x) else if k = 1 then Int16.toInt32 (Int32.toInt16 x) else x
def shG (kd n f st : Int32) (e : Nat) : Nat := if kd ≠ 3 ∧ nI e < n then clN (enK kd (f + nI e * st)) else 1
theorem shG_b (kd n f st : Int32) (e : Nat) : 1 ≤ shG kd n f st e ∧ shG kd n f st e ≤ 9 := by
  unfold shG
  split
  · exact (clN_e _).2
  · decide
def zsl (s : St) (g : Nat → Nat) : St := (fun a k => if a = 3 ∧ k < zE s then g k else s.1 a k, s.2)
def shI (x y : Int32) : Prop := ixP x 4 = true ∧ y ≤ 8
def a_sheet (s : St) (x y z w : Int32) : Int32 := if ixP x 4 = true ∧ y ≤ 8 then (if x = 3 then -3 else if 0 ≤ y then nI (fb_sm (shG x y z w) (zE s)) else -2) else -1
def n_sheet (s : St) (x y z w : Int32) : St := if (ixP x 4 = true ∧ y ≤ 8) ∧ (x = 3 ∨ 0 ≤ y) then zsl s (shG x y z w) else s
theorem W_zsl {s : St} (hw : WF s) {g : Nat → Nat} (hg : ∀ e, 1 ≤ g e ∧ g e ≤ 9) : WF (zsl s g) := by
  obtain ⟨a, b, c, d, e⟩ := hw
  refine ⟨a, ⟨b.1, fun e he => ?_, b.2.2⟩, c, d, e⟩
  have hb := b.2.1 e he
  have hl : zlas (zsl s g) e = g e := if_pos ⟨rfl, he⟩
  refine ⟨hb.1, ?_, ?_, hb.2.2.2.1, hb.2.2.2.2.1, hb.2.2.2.2.2.1, hb.2.2.2.2.2.2⟩
  · rw [hl]; exact (hg e).1
  · rw [hl]; exact (hg e).2
theorem W_sheet {s : St} (hw : WF s) (x y z w : Int32) : WF (n_sheet s x y z w) := by
  unfold n_sheet
  split
  · exact W_zsl hw (shG_b x y z w)
  · exact hw
theorem shG_c {kd n f st : Int32} {k : Nat} (n' : Int32) (h : (n' ≤ nI k) ↔ ¬ (kd ≠ 3 ∧ nI k < n)) : (if n' ≤ nI k then (1 : Int32) else maxI 1 (minI 9 (enK kd (f + nI k * st)))) = nI (shG kd n f st k) := by
  unfold shG
  by_cases hc : n' ≤ nI k
  · rw [if_pos hc, if_neg (h.mp hc)]; rfl
  · rw [if_neg hc, if_pos (Classical.byContradiction (fun g => hc (h.mpr g))), (clN_e _).1]
theorem c_setl {s : St} {M : MM} (hw : WF s) (h : RC s M) (kd n f st n' : Int32) (hn : ∀ k, k < 8 → ((n' ≤ nI k) ↔ ¬ (kd ≠ 3 ∧ nI k < n))) : ∃ M', f_X9_setLasts 5 kd n' f st M = some (nI (fb_sm (shG kd n f st) (zE s)), M') ∧ RC (zsl s (shG kd n f st)) M' ∧ Fr cW M M' := by
  have h0 := h.1
  have hE := hw.1.2.1
  obtain ⟨M', f', e, cy⟩ := lcp (fun fu k N => f_X9_setLasts_6 fu 5 kd n' f st (nI (fb_sm (shG kd n f st) k)) (nI k) N) 8 0 (zE s) (fun k => nI (shG kd n f st k)) M (fun fu k N hk hc => by
    show f_X9_setLasts_6 (fu + 1) _ _ _ _ _ _ _ _ = _
    have hN := hc.sh h0
    have e8 : mI N 5 8 = nI (zE s) := by rw [hc.2.2.2.2, if_neg (by omega)]; exact h.2.2.2.1.2.1
    have hv := shG_c (kd := kd) (n := n) (f := f) (st := st) (k := k) n' (hn k (by omega))
    have s46 : f_X9_setLasts_46 (f_X9_setLasts_6 fu) 5 kd n' f st (nI (fb_sm (shG kd n f st) k)) (nI k) (enK kd (f + nI k * st)) N = f_X9_setLasts_6 fu 5 kd n' f st (nI (fb_sm (shG kd n f st) (k + 1))) (nI (k + 1)) (sI N 8 (0 + k) (nI (shG kd n f st k))) := by
      unfold f_X9_setLasts_46 f_X9_setLasts_73
      have t : ∀ v, v = nI (shG kd n f st k) → (b1 (stI 8 (nI k) v N) fun M1 => b1 (gR 9 2 5 M1) fun v2 => b1 (ldI v2 (nI k) M1) fun v3 => bn (nI (fb_sm (shG kd n f st) k) + v3 : Int32) fun y4 => bn (nI k + 1 : Int32) fun y5 => f_X9_setLasts_6 fu 5 kd n' f st y4 y5 M1) = f_X9_setLasts_6 fu 5 kd n' f st (nI (fb_sm (shG kd n f st) (k + 1))) (nI (k + 1)) (sI N 8 (0 + k) (nI (shG kd n f st k))) := by
        intro v hv
        subst hv
        have s1 : Sh (sI N 8 k (nI (shG kd n f st k))) := hN
        rw [st_8 hN _ (by omega), b1_s, sh_R s1 (a := 5) (k := 2) (b := 8) 9 (by decide) rfl (by decide), b1_s, ld_8 s1 (by omega), b1_s, mI_w, if_pos ⟨rfl, rfl⟩, nI_add, bn_s, bn_s, nI_1, Nat.zero_add, fb_sm_succ]
      rw [sh_R hN (a := 5) (k := 2) (b := 8) 9 (by decide) rfl (by decide), b1_s]
      by_cases hcc : n' ≤ nI k
      · rw [if_pos hcc]
        rw [if_pos hcc] at hv
        exact t _ hv
      · rw [if_neg hcc]
        rw [if_neg hcc] at hv
        exact t _ hv
    rw [f_X9_setLasts_6, gI_k 8 (sh_O hN 9 (by decide) rfl), b1_s, e8, if_neg (nI_ge hk (by omega)), bn_s]
    unfold enK at s46
    by_cases h1 : kd = 0
    · rw [if_pos h1, bn_s]
      rw [if_pos h1] at s46
      exact s46
    · rw [if_neg h1]
      rw [if_neg h1] at s46
      by_cases h2 : kd = 1
      · rw [if_pos h2, bn_s]
        rw [if_pos h2] at s46
        exact s46
      · rw [if_neg h2]
        rw [if_neg h2] at s46
        exact s46) (by omega)
  have s' := cy.sh h0
  have f1 := cy.frm
  have e8 : mI M' 5 8 = nI (zE s) := by rw [cy.2.2.2.2, if_neg (by omega)]; exact h.2.2.2.1.2.1
  refine ⟨M', ?_, ?_, f1.mono (fun a k q => by unfold cW; omega)⟩
  · unfold f_X9_setLasts f_X9_setLasts_0
    rw [if_pos (sh_O h0 9 (by decide) rfl)]
    have e' : f_X9_setLasts_6 1024 5 kd n' f st 0 0 M = f_X9_setLasts_6 (f' + 1) 5 kd n' f st (nI (fb_sm (shG kd n f st) (zE s))) (nI (zE s)) M' := by
      have z : nI (fb_sm (shG kd n f st) 0) = 0 := rfl
      rw [z, nI_0] at e
      exact e
    rw [e', f_X9_setLasts_6, gI_k 8 (sh_O s' 9 (by decide) rfl), b1_s, e8, if_pos (nI_le (Nat.le_refl _) (by omega))]
  · have hh := h.2.2.2.1
    refine ⟨s', (h.2.1.fr f1 (fun a k q => by omega)), (h.2.2.1.fr f1 (fun a k q => by omega)), ?_, (h.2.2.2.2.1.frw f1 (fun a k q => by omega)), (h.2.2.2.2.2.1.fr f1 (fun a k q => by omega)), (h.2.2.2.2.2.2.1.fr f1 (fun a k q => by omega)), (h.2.2.2.2.2.2.2.1.fr f1 (fun a k q => by omega)), (h.2.2.2.2.2.2.2.2.fr f1 (fun a k q => by omega))⟩
    refine ⟨?_, ?_, ?_, fun p hp => ?_, fun e he => ?_, fun p e hp he => ?_, fun p e hp hq he => ?_⟩
    · rw [f1.2.2.1 5 7 (by omega)]; exact hh.1
    · rw [f1.2.2.1 5 8 (by omega)]; exact hh.2.1
    · rw [f1.2.2.1 5 9 (by omega)]; exact hh.2.2.1
    · rw [f1.2.2.1 6 p (by omega)]; exact hh.2.2.2.1 p hp
    · have he' : e < zE s := he
      have hx := hh.2.2.2.2.1 e he'
      rw [f1.2.2.1 7 e (by omega), f1.2.2.1 9 e (by omega), f1.2.2.1 10 e (by omega), f1.2.2.1 11 e (by omega), f1.2.2.1 12 e (by omega)]
      refine ⟨hx.1, ?_, hx.2.2.1, hx.2.2.2.1, hx.2.2.2.2.1, hx.2.2.2.2.2⟩
      rw [cy.2.2.2.2, if_pos ⟨rfl, by omega, by omega⟩, show zlas (zsl s (shG kd n f st)) e = shG kd n f st e from if_pos ⟨rfl, he'⟩, Nat.sub_zero]
    · rw [f1.2.2.1 13 _ (by omega)]; exact hh.2.2.2.2.2.1 p e hp he
    · rw [f1.2.2.1 13 _ (by omega)]; exact hh.2.2.2.2.2.2 p e hp hq he
theorem ix4 {v : Int32} : (¬ v < 0 ∧ ¬ 3 < v) ↔ ixP v 4 = true := by
  rw [ix_t, fa_lt, fa_lt, fa_lt, nI_toInt (by decide), show (3 : Int32).toInt = 3 from by decide, show (0 : Int32).toInt = 0 from by decide]
  omega
theorem C_sheet {s : St} (hw : WF s) (x y z w : Int32) : OpC (fun M => f_X11_sheet 0 x y z w M) s (a_sheet s x y z w) (n_sheet s x y z w) := by
  intro M h
  have h0 := h.1
  show ∃ M', f_X11_sheet 0 x y z w M = _ ∧ _
  unfold f_X11_sheet f_X11_sheet_0
  rw [if_pos (sh_O h0 11 (by decide) rfl)]
  by_cases hc : ixP x 4 = true ∧ y ≤ 8
  · rw [if_neg (ix4.mpr hc.1).1, if_neg (ix4.mpr hc.1).2, if_pos hc.2]
    by_cases h3 : x = 3
    · obtain ⟨M1, e1, c1, f1⟩ := c_setl hw h x y z w 0 (fun k hk => ⟨fun _ g => g.1 h3, fun _ => nI_pos' (by omega)⟩)
      rw [if_pos h3, sh_R h0 (a := 0) (k := 2) (b := 5) 11 (by decide) rfl (by decide), b1_s, e1, b2_s, show a_sheet s x y z w = -3 by unfold a_sheet; rw [if_pos hc, if_pos h3], show n_sheet s x y z w = zsl s (shG x y z w) from if_pos ⟨hc, Or.inl h3⟩]
      exact ⟨M1, rfl, c1, f1⟩
    · rw [if_neg h3]
      by_cases h4 : 0 ≤ y
      · obtain ⟨M1, e1, c1, f1⟩ := c_setl hw h x y z w y (fun k hk => ⟨fun g q => (fa_of_lt q.2).2.1 g, fun g => fa_of_nlt (fun q => g ⟨h3, q⟩)⟩)
        rw [if_pos h4, sh_R h0 (a := 0) (k := 2) (b := 5) 11 (by decide) rfl (by decide), b1_s, e1, b2_s, show a_sheet s x y z w = nI (fb_sm (shG x y z w) (zE s)) by unfold a_sheet; rw [if_pos hc, if_neg h3, if_pos h4], show n_sheet s x y z w = zsl s (shG x y z w) from if_pos ⟨hc, Or.inr h4⟩]
        exact ⟨M1, rfl, c1, f1⟩
      · rw [if_neg h4, show a_sheet s x y z w = -2 by unfold a_sheet; rw [if_pos hc, if_neg h3, if_neg h4], show n_sheet s x y z w = s from if_neg (fun g => by rcases g.2 with q | q; exact h3 q; exact h4 q)]
        exact ⟨M, rfl, h, Fr.rf M⟩
  · rw [show a_sheet s x y z w = -1 from if_neg hc, show n_sheet s x y z w = s from if_neg (fun g => hc g.1)]
    refine ⟨M, ?_, h, Fr.rf M⟩
    by_cases h1 : x < 0
    · rw [if_pos h1]
    · rw [if_neg h1]
      by_cases h2 : 3 < x
      · rw [if_pos h2]
      · rw [if_neg h2, if_neg (fun q => hc ⟨ix4.mp ⟨h1, h2⟩, q⟩)]
theorem r_setl {s : St} {M : MM} (hw : WF s) (h : RR s M) (kd n f st : Int32) : ∃ M', f_X12_sheet_37 143 kd n f st M = some (if kd = 3 then -3 else nI (fb_sm (shG kd n f st) (zE s)), M') ∧ RR (zsl s (shG kd n f st)) M' ∧ Fr rW M M' ∧ mR M' = mR M := by
  have h0 := h.1
  have hE := hw.1.2.1
  obtain ⟨M', f', e, cy⟩ := lcp (fun fu k N => f_X12_sheet_46 fu 143 kd n st (nI (fb_sm (shG kd n f st) k)) (f + nI k * st) (nI k) N) 148 0 (zE s) (fun k => nI (shG kd n f st k)) M (fun fu k N hk hc => by
    show f_X12_sheet_46 (fu + 1) _ _ _ _ _ _ _ _ = _
    have hN := hc.sh h0
    have e8 : mI N 143 4 = nI (zE s) := by rw [hc.2.2.2.2, if_neg (by omega)]; exact h.2.2.2.1.2.1
    have enx : f + nI k * st + st = f + nI (k + 1) * st := by rw [← nI_1, Int32.add_mul, Int32.one_mul, Int32.add_assoc]
    have s78 : f_X12_sheet_78 (f_X12_sheet_46 fu) 143 kd n st (nI (fb_sm (shG kd n f st) k)) (f + nI k * st) (nI k) (enK kd (f + nI k * st)) N = f_X12_sheet_46 fu 143 kd n st (nI (fb_sm (shG kd n f st) (k + 1))) (f + nI (k + 1) * st) (nI (k + 1)) (sI N 148 (0 + k) (nI (shG kd n f st k))) := by
      unfold f_X12_sheet_78 f_X12_sheet_97 f_X12_sheet_112
      have t : ∀ v, v = nI (shG kd n f st k) → (b1 (stI 148 (nI k) v N) fun M1 => b1 (gR 12 10 143 M1) fun v2 => b1 (ldI v2 (nI k) M1) fun v3 => bn (nI (fb_sm (shG kd n f st) k) + v3 : Int32) fun y4 => bn (f + nI k * st + st : Int32) fun y5 => bn (nI k + 1 : Int32) fun y6 => f_X12_sheet_46 fu 143 kd n st y4 y5 y6 M1) = f_X12_sheet_46 fu 143 kd n st (nI (fb_sm (shG kd n f st) (k + 1))) (f + nI (k + 1) * st) (nI (k + 1)) (sI N 148 (0 + k) (nI (shG kd n f st k))) := by
        intro v hv
        subst hv
        have s1 : Sh (sI N 148 k (nI (shG kd n f st k))) := hN
        rw [st_148 hN _ (by omega), b1_s, sh_R s1 (a := 143) (k := 10) (b := 148) 12 (by decide) rfl (by decide), b1_s, ld_148 s1 (by omega), b1_s, mI_w, if_pos ⟨rfl, rfl⟩, nI_add, bn_s, bn_s, bn_s, nI_1, enx, Nat.zero_add, fb_sm_succ]
      rw [sh_R hN (a := 143) (k := 10) (b := 148) 12 (by decide) rfl (by decide), b1_s]
      by_cases h3 : kd = 3
      · rw [if_pos h3]
        exact t 1 (by unfold shG; rw [if_neg (fun g => g.1 h3)]; rfl)
      · rw [if_neg h3]
        by_cases h4 : nI k < n
        · rw [if_pos h4]
          exact t _ (by unfold shG; rw [if_pos ⟨h3, h4⟩, (clN_e _).1])
        · rw [if_neg h4]
          exact t 1 (by unfold shG; rw [if_neg (fun g => h4 g.2)]; rfl)
    rw [f_X12_sheet_46, gI_k 4 (sh_O hN 12 (by decide) rfl), b1_s, e8, if_neg (nI_ge hk (by omega))]
    unfold enK at s78
    by_cases h1 : kd = 0
    · rw [if_pos h1]
      rw [if_pos h1] at s78
      exact s78
    · rw [if_neg h1]
      rw [if_neg h1] at s78
      by_cases h2 : kd = 1
      · rw [if_pos h2]
        rw [if_pos h2] at s78
        exact s78
      · rw [if_neg h2]
        rw [if_neg h2] at s78
        exact s78) (by omega)
  have s' := cy.sh h0
  have f1 := cy.frm
  have e8 : mI M' 143 4 = nI (zE s) := by rw [cy.2.2.2.2, if_neg (by omega)]; exact h.2.2.2.1.2.1
  refine ⟨M', ?_, ?_, f1.mono (fun a k q => by unfold rW; omega), cy.2.2.2.1⟩
  · unfold f_X12_sheet_37
    have e' : f_X12_sheet_46 1024 143 kd n st 0 f 0 M = f_X12_sheet_46 (f' + 1) 143 kd n st (nI (fb_sm (shG kd n f st) (zE s))) (f + nI (zE s) * st) (nI (zE s)) M' := by
      have z : nI (fb_sm (shG kd n f st) 0) = 0 := rfl
      rw [z, nI_0, Int32.zero_mul, Int32.add_zero] at e
      exact e
    rw [e', f_X12_sheet_46, gI_k 4 (sh_O s' 12 (by decide) rfl), b1_s, e8, if_pos (nI_le (Nat.le_refl _) (by omega))]
    split <;> rfl
  · have hh := h.2.2.2.1
    refine ⟨s', (h.2.1.fr f1 (fun a k q => by omega)), (h.2.2.1.fr f1 (fun a k q => by omega)), ?_, (h.2.2.2.2.1.frw f1 (fun a k q => by omega)), (h.2.2.2.2.2.1.fr f1 (fun a k q => by omega)), (h.2.2.2.2.2.2.1.fr f1 (fun a k q => by omega)), (h.2.2.2.2.2.2.2.1.fr f1 (fun a k q => by omega)), (h.2.2.2.2.2.2.2.2.fr f1 (fun a k q => by omega))⟩
    refine ⟨?_, ?_, ?_, fun p hp => ?_, fun e he => ?_, fun p e hp he => ?_⟩
    · rw [f1.2.2.1 143 3 (by omega)]; exact hh.1
    · rw [f1.2.2.1 143 4 (by omega)]; exact hh.2.1
    · rw [f1.2.2.1 143 6 (by omega)]; exact hh.2.2.1
    · rw [f1.2.2.1 145 p (by omega)]; exact hh.2.2.2.1 p hp
    · have he' : e < zE s := he
      have hx := hh.2.2.2.2.1 e he'
      rw [f1.2.2.1 147 e (by omega), f1.2.2.1 149 e (by omega), f1.2.2.1 150 e (by omega), f1.2.2.1 151 e (by omega), f1.2.2.1 152 e (by omega)]
      refine ⟨hx.1, ?_, hx.2.2.1, hx.2.2.2.1, hx.2.2.2.2.1, hx.2.2.2.2.2⟩
      rw [cy.2.2.2.2, if_pos ⟨rfl, by omega, by omega⟩, show zlas (zsl s (shG kd n f st)) e = shG kd n f st e from if_pos ⟨rfl, he'⟩, Nat.sub_zero]
    · rw [f1.2.2.1 146 _ (by omega)]; exact hh.2.2.2.2.2 p e hp he
theorem R_sheet {s : St} (hw : WF s) (x y z w : Int32) : OpR (fun M => f_X12_sheet 143 x y z w M) s (a_sheet s x y z w) (n_sheet s x y z w) := by
  intro M h
  obtain ⟨N, et, ht, ft, rt, t0, l0⟩ := r_thr0 h
  show ∃ M', f_X12_sheet 143 x y z w M = _ ∧ _
  unfold f_X12_sheet f_X12_sheet_0
  rw [if_pos (sh_O h.1 12 (by decide) rfl), et, b1_s, show f_X12_in x.toInt64 0 3 N = some (if ixP x 4 = true then 1 else 0, N) from e_in0n _ 4 (by decide) N, b2_s]
  by_cases hc : ixP x 4 = true ∧ y ≤ 8
  · rw [if_pos hc.1, if_neg (by decide), if_pos hc.2]
    obtain ⟨M1, e1, c1, f1, r1⟩ := r_setl hw ht x y z w
    by_cases h3 : x = 3
    · rw [if_pos h3, e1, if_pos h3, show a_sheet s x y z w = -3 by unfold a_sheet; rw [if_pos hc, if_pos h3], show n_sheet s x y z w = zsl s (shG x y z w) from if_pos ⟨hc, Or.inl h3⟩]
      exact ⟨M1, rfl, c1, ft.tr f1, r1.trans rt⟩
    · rw [if_neg h3]
      by_cases h4 : 0 ≤ y
      · rw [if_pos h4, e1, if_neg h3, show a_sheet s x y z w = nI (fb_sm (shG x y z w) (zE s)) by unfold a_sheet; rw [if_pos hc, if_neg h3, if_pos h4], show n_sheet s x y z w = zsl s (shG x y z w) from if_pos ⟨hc, Or.inr h4⟩]
        exact ⟨M1, rfl, c1, ft.tr f1, r1.trans rt⟩
      · rw [if_neg h4, show a_sheet s x y z w = -2 by unfold a_sheet; rw [if_pos hc, if_neg h3, if_neg h4], show n_sheet s x y z w = s from if_neg (fun g => by rcases g.2 with q | q; exact h3 q; exact h4 q)]
        exact ⟨N, rfl, ht, ft, rt⟩
  · rw [show a_sheet s x y z w = -1 from if_neg hc, show n_sheet s x y z w = s from if_neg (fun g => hc g.1)]
    refine ⟨N, ?_, ht, ft, rt⟩
    by_cases h1 : ixP x 4 = true
    · rw [if_pos h1, if_neg (by decide), if_neg (fun q => hc ⟨h1, q⟩)]
    · rw [if_neg h1, if_pos rfl]
theorem case_11 : CaseOK g_L_11 := by
  intro L xs j K M hL hj hc
  obtain ⟨s, hw, hc, hr⟩ := hc
  obtain ⟨M1, M2, hcp, e1, e2⟩ := asm (C_sheet hw (xs (j + 1)) (xs (j + 2)) (xs (j + 3)) (xs (j + 4))) (R_sheet hw (xs (j + 1)) (xs (j + 2)) (xs (j + 3)) (xs (j + 4))) (W_sheet hw (xs (j + 1)) (xs (j + 2)) (xs (j + 3)) (xs (j + 4))) hc hr
  refine ⟨M2, hcp, ?_⟩
  unfold g_L_11
  simp only [show (nI j + 1 : Int32) = nI (j + 1) from nI_add _ 1, show (nI j + 2 : Int32) = nI (j + 2) from nI_add _ 2, show (nI j + 3 : Int32) = nI (j + 3) from nI_add _ 3, show (nI j + 4 : Int32) = nI (j + 4) from nI_add _ 4, scr_k (show j + 1 < L by omega) hL, scr_k (show j + 2 < L by omega) hL, scr_k (show j + 3 < L by omega) hL, scr_k (show j + 4 < L by omega) hL, b1_s, e1, e2, b2_s, if_true]

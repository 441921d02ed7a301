/-! the rule: both -/
def zsru (s : St) (r : Nat × Va) : St := (s.1, s.2.1, r, s.2.2.2)
def ruP (s : St) : Rs := pCm (ztap s) (min (zL s) 40) 4 0
def ruR (s : St) : Option (Nat × Va) × Nat := if zL s = 0 then (some (0, fun _ => 0), 0) else match ruP s with
  | (some v, q) => if q = min (zL s) 40 ∧ min (zL s) 40 = zL s then (some (1, v), q) else (none, q)
  | (none, q) => (none, q)
def a_rule (s : St) : Int32 := match (ruR s).1 with
  | none => -1 - nI (ruR s).2
  | some _ => 0
def n_rule (s : St) : St := match (ruR s).1 with
  | none => z0 s
  | some r => zsru (z0 s) r
theorem ru_n {s : St} {q : Nat} (h : ruR s = (none, q)) : a_rule s = -1 - nI q ∧ n_rule s = z0 s := by unfold a_rule n_rule; rw [h]; exact ⟨rfl, rfl⟩
theorem ru_s {s : St} {q : Nat} {r : Nat × Va} (h : ruR s = (some r, q)) : a_rule s = 0 ∧ n_rule s = zsru (z0 s) r := by unfold a_rule n_rule; rw [h]; exact ⟨rfl, rfl⟩
theorem ru_0 {s : St} (h : zL s = 0) : ruR s = (some (0, fun _ => 0), 0) := if_pos h
theorem ru_1 {s : St} (h : zL s ≠ 0) {q : Nat} (e : ruP s = (none, q)) : ruR s = (none, q) := by unfold ruR; rw [if_neg h, e]
theorem ru_2 {s : St} (h : zL s ≠ 0) {q : Nat} {v : Va} (e : ruP s = (some v, q)) (g : ¬ (q = min (zL s) 40 ∧ min (zL s) 40 = zL s)) : ruR s = (none, q) := by unfold ruR; rw [if_neg h, e]; exact if_neg g
theorem ru_3 {s : St} (h : zL s ≠ 0) {q : Nat} {v : Va} (e : ruP s = (some v, q)) (g : q = min (zL s) 40 ∧ min (zL s) 40 = zL s) : ruR s = (some (1, v), q) := by unfold ruR; rw [if_neg h, e]; exact if_pos g
theorem W_rule {s : St} (hw : WF s) : WF (n_rule s) := by
  have k : WF (z0 s) := W_z0 hw
  unfold n_rule
  cases (ruR s).1 with
  | none => exact k
  | some r => exact k
theorem c_ru46 {s : St} {T : Nat → Nat} {n l q d : Nat} {N : MM} {r : Nat × Va} (h : TC s T n l q N) (hd : mI N 84 7 = nI d) (hd40 : d ≤ 40) (h1 : r.1 = 0 ↔ d = 0) (h2 : d ≠ 0 → ∀ fc, runC fc (mI N 86) d = some [r.2 fc]) : ∃ N', f_X7_read_46 84 N = some (0, N') ∧ RC (zsru s r) N' ∧ Fr cW N N' := by
  have h0 := h.1.1
  have hc : cpI 86 0 85 0 (nI d) N = some (cI N 86 0 85 0 d) := cpI_k (sp := 0) (dp := 0) (sh_O h0 20 (by decide) rfl) (sh_O h0 20 (by decide) rfl) (sh_N h0 40 (by decide) rfl) (sh_N h0 40 (by decide) rfl) (by omega) (by omega) (by decide) (by decide)
  have s1 : Sh (cI N 86 0 85 0 d) := h0
  have ff : Fr (fun a k => (a = 84 ∧ k = 6) ∨ a = 85) N (sI (cI N 86 0 85 0 d) 84 6 (nI d)) := ((Fr.rf (W := fun a k => (a = 84 ∧ k = 6) ∨ a = 85) N).cI (fun k _ _ => Or.inr rfl)).sI (Or.inl ⟨rfl, rfl⟩)
  refine ⟨sI (cI N 86 0 85 0 d) 84 6 (nI d), ?_, ⟨h0, h.1.2.1.fr ff (fun a k q => by omega), h.1.2.2.1.fr ff (fun a k q => by omega), h.1.2.2.2.1.fr ff (fun a k q => by omega), h.1.2.2.2.2.1.frw ff (fun a k q => by omega), ⟨d, hd40, by rw [mI_w, if_pos ⟨rfl, rfl⟩], h1, fun hn fc => ?_⟩, h.1.2.2.2.2.2.2.1.fr ff (fun a k q => by omega), h.1.2.2.2.2.2.2.2.1.fr ff (fun a k q => by omega), h.1.2.2.2.2.2.2.2.2.fr ff (fun a k q => by omega)⟩, ff.mono (fun a k q => by unfold cW; omega)⟩
  · unfold f_X7_read_46
    rw [sh_R h0 (a := 84) (k := 3) (b := 86) 7 (by decide) rfl (by decide), b1_s, sh_R h0 (a := 84) (k := 2) (b := 85) 7 (by decide) rfl (by decide), b1_s, gI_k 7 (O84 h0), b1_s, hd, hc, b1_s, gI_k 7 (O84 s1), b1_s, mI_cI, if_neg (by omega), hd, pI_k 6 _ (O84 s1), b1_s]
  · rw [runC_eq (d := mI N 86) (fun k hk => by rw [mI_w, if_neg (by omega), mI_cI, if_pos ⟨rfl, by omega, by omega⟩, Nat.sub_zero, Nat.zero_add])]
    exact h2 hn fc
theorem C_rule {s : St} (hw : WF s) : OpC (fun M => f_X11_rule 0 M) s (a_rule s) (n_rule s) := by
  intro M h
  have hL := hw.1.2.2.2.2.2.2.1
  have s0 := h.1
  obtain ⟨M1, e1, c1, f1, r1⟩ := c_begin' hw h (m := 40) (by decide)
  have s1 := c1.1.1
  have f2 : Fr (fun a k => a = 84 ∧ k = 7) M1 (sI M1 84 7 0) := (Fr.rf (W := fun a k => a = 84 ∧ k = 7) M1).sI ⟨rfl, rfl⟩
  have c2 : TC (z0 s) (ztap s) (zL s) (min (zL s) 40) 0 (sI M1 84 7 0) := c1.fr' f2 rfl (fun a k q => by unfold wC; omega) (fun a k q => by omega)
  have d2 : mI (sI M1 84 7 0) 84 7 = nI 0 := by rw [mI_w, if_pos ⟨rfl, rfl⟩]; rfl
  have fr2 : Fr cW M (sI M1 84 7 0) := f1.tr (f2.mono (fun a k q => by unfold cW; omega))
  show ∃ M', f_X11_rule 0 M = _ ∧ _
  unfold f_X11_rule f_X11_rule_0 f_X7_read f_X7_read_0
  rw [if_pos (sh_O s0 11 (by decide) rfl), sh_R s0 (a := 0) (k := 7) (b := 84) 11 (by decide) rfl (by decide), b1_s, sh_R s0 (a := 0) (k := 0) (b := 1) 11 (by decide) rfl (by decide), b1_s, if_pos (O84 s0), show (40 : Int32) = nI 40 from rfl, e1, b1_s, pI_k 7 _ (O84 s1), b1_s, tc_emp c2, b2_s]
  by_cases hz : zL s = 0
  · obtain ⟨N', g1, g2, g3⟩ := c_ru46 (r := (0, fun _ => 0)) c2 d2 (by omega) ⟨fun _ => rfl, fun _ => rfl⟩ (fun g => absurd rfl g)
    rw [(ru_s (ru_0 hz)).1, (ru_s (ru_0 hz)).2, decide_eq_true hz, if_neg (show ¬ bI true = 0 by decide), g1, b2_s]
    exact ⟨N', rfl, g2, fr2.tr g3⟩
  · have k := c_rule (s := z0 s) (T := ztap s) (n := zL s) (l := min (zL s) 40) (by omega) 4 100 0 (by omega) (by omega) (by omega) _ 0 c2 d2 (by omega)
    obtain ⟨N3, d3, e3, c3, hd3, l3, m3, p3, v3, f3, r3⟩ := k
    have e3 : f_X7_readComparison 100 84 1 0 (sI M1 84 7 0) = some (bI (ruP s).1.isSome, N3) := e3
    have fr3 : Fr cW M N3 := fr2.tr (f3.mono (fun a k q => by unfold wRu at q; unfold cW; omega))
    have R0 : gR 11 0 0 N3 = some 1 := sh_R c3.1.1 (a := 0) (k := 0) (b := 1) 11 (by decide) rfl (by decide)
    rw [decide_eq_false hz, if_pos (show bI false = 0 from rfl), e3, b2_s]
    unfold f_X7_read_41
    cases hp : ruP s with
    | mk o q =>
      have hp' : pCm (ztap s) (min (zL s) 40) 4 0 = (o, q) := hp
      rw [hp'] at c3 m3 v3
      have c3' : TC (z0 s) (ztap s) (zL s) (min (zL s) 40) q N3 := c3
      have hq := c3'.2.2.2.2.2.2.2.1
      have m3' : d3 + 0 ≤ 0 + 0 + q := m3
      cases o with
      | none =>
        have er := ru_1 hz hp
        rw [(ru_n er).1, (ru_n er).2, if_pos (show bI (none : Option Va).isSome = 0 from rfl), tc_ref c3', b2_s, b2_s]
        exact ⟨N3, rfl, c3'.1, fr3⟩
      | some v =>
        have v3' := v3 v rfl
        rw [if_neg (show ¬ bI (some v).isSome = 0 from by show ¬ bI true = 0; decide), tc_end c3', b2_s]
        by_cases hend : min (zL s) 40 ≤ q
        · rw [decide_eq_true hend, if_neg (show ¬ bI true = 0 by decide), tc_more c3', b2_s]
          by_cases hmo : min (zL s) 40 < zL s
          · have er := ru_2 hz hp (fun g => by omega)
            rw [(ru_n er).1, (ru_n er).2, decide_eq_true hmo, if_neg (show ¬ bI true = 0 by decide), tc_ref c3', b2_s, b2_s]
            exact ⟨N3, rfl, c3'.1, fr3⟩
          · have er := ru_3 hz hp ⟨by omega, by omega⟩
            obtain ⟨N', g1, g2, g3⟩ := c_ru46 (r := (1, v)) c3' hd3 (by omega) ⟨(fun g => by cases g), (fun g => by have := v3'.1; omega)⟩ (fun _ fc => v3'.2 fc [] rfl)
            rw [(ru_s er).1, (ru_s er).2, decide_eq_false hmo, if_pos (show bI false = 0 from rfl), g1, b2_s]
            exact ⟨N', rfl, g2, fr3.tr g3⟩
        · have er := ru_2 hz hp (fun g => by omega)
          rw [(ru_n er).1, (ru_n er).2, decide_eq_false hend, if_pos (show bI false = 0 from rfl), tc_ref c3', b2_s, b2_s]
          exact ⟨N3, rfl, c3'.1, fr3⟩
theorem r_ru34 {s : St} {T : Nat → Nat} {n l q d : Nat} {N : MM} {r : Nat × Va} (h : TR s T n l q N) (hl : l = min n 40) (hq : q = l) (hn : l = n) (hd : mI N 143 30 = nI d) (hd40 : d ≤ 80) (h1 : r.1 = 0 ↔ d = 0) (h2 : d ≠ 0 → ∀ fc, runR fc (mI N 160) d = some [r.2 fc]) : ∃ N', f_X12_rule_34 143 (nI n) 1 N = some (0, N') ∧ RR (zsru s r) N' ∧ Fr rW N N' ∧ mR N' = mR N := by
  have h0 := h.1.1
  have s1 : Sh (sI N 143 29 (nI d)) := h0
  have d1 : mI (sI N 143 29 (nI d)) 143 30 = nI d := by rw [mI_w, if_neg (by omega)]; exact hd
  obtain ⟨M', f', e, cy⟩ := lcp (fun f k Q => f_X12_rule_61 f 143 (nI k) Q) 159 0 d (fun k => mI N 160 k) (sI N 143 29 (nI d)) (fun f k Q hk hc => by
    show f_X12_rule_61 (f + 1) _ _ _ = f_X12_rule_61 f _ _ _
    have hQ := hc.sh s1
    have fQ := hc.frm
    have dQ : mI Q 143 30 = nI d := (fQ.2.2.1 143 30 (by omega)).trans d1
    rw [f_X12_rule_61, gI_k 30 (O143 hQ), b1_s, dQ, if_neg (nI_ge hk (by omega)), sh_R hQ (a := 143) (k := 27) (b := 159) 12 (by decide) rfl (by decide), b1_s, sh_R hQ (a := 143) (k := 28) (b := 160) 12 (by decide) rfl (by decide), b1_s, ld_160 hQ (by omega), b1_s, fQ.2.2.1 160 k (by omega), mI_w, if_neg (by omega), st_159 hQ _ (by omega), b1_s, bn_s, nI_1, Nat.zero_add]) (by omega)
  have sM := cy.sh s1
  have fM := cy.frm
  have dM : mI M' 143 30 = nI d := (fM.2.2.1 143 30 (by omega)).trans d1
  have ff : Fr (fun a k => (a = 143 ∧ k = 29) ∨ a = 159) N M' := ((Fr.rf (W := fun a k => (a = 143 ∧ k = 29) ∨ a = 159) N).sI (v := nI d) (Or.inl ⟨rfl, rfl⟩)).tr (fM.mono (fun a k q => Or.inr q.1))
  have rM : mR M' = mR N := cy.2.2.2.1
  have e' : f_X12_rule_61 1024 143 (nI 0) (sI N 143 29 (nI d)) = f_X12_rule_61 (f' + 1) 143 (nI d) M' := e
  refine ⟨M', ?_, ⟨sM, h.1.2.1.fr ff (fun a k q => by omega), h.1.2.2.1.fr ff (fun a k q => by omega), h.1.2.2.2.1.fr ff (fun a k q => by omega), h.1.2.2.2.2.1.frw ff (fun a k q => by omega), ⟨d, hd40, ?_, h1, fun hn fc => ?_⟩, h.1.2.2.2.2.2.2.1.fr ff (fun a k q => by omega), h.1.2.2.2.2.2.2.2.1.fr ff (fun a k q => by omega), h.1.2.2.2.2.2.2.2.2.fr ff (fun a k q => by omega)⟩, ff.mono (fun a k q => by unfold rW; omega), rM⟩
  · unfold f_X12_rule_34
    rw [nI_0] at e'
    rw [show (40 : Int32) = nI 40 from rfl, show f_X12_faultOf 143 (nI n) (nI 40) 1 N = _ from r_fault h (m := 40) (by decide) hl true, b2_s, if_pos (c := true = true ∧ q = l ∧ l = n) ⟨rfl, hq, hn⟩, if_pos (show (0 : Int32) ≤ 0 by decide), gI_k 30 (tr_O h), b1_s, hd, pI_k 29 _ (tr_O h), b1_s, e', f_X12_rule_61, gI_k 30 (O143 sM), b1_s, dM, if_pos (nI_le (Nat.le_refl _) (by omega))]
  · rw [fM.2.2.1 143 29 (by omega), mI_w, if_pos ⟨rfl, rfl⟩]
  · rw [runR_eq (d := mI N 160) (fun k hk => by rw [cy.2.2.2.2, if_pos ⟨rfl, by omega, by omega⟩, Nat.sub_zero])]
    exact h2 hn fc
theorem r_ruF {s : St} {T : Nat → Nat} {n l q : Nat} {N : MM} (h : TR s T n l q N) (hl : l = min n 40) (b : Bool) (hb : ¬ (b = true ∧ q = l ∧ l = n)) : f_X12_rule_34 143 (nI n) (bI b) N = some (-1 - nI q, N) := by
  obtain ⟨b1', b2', b3', b4'⟩ := h.2.2.2.2
  unfold f_X12_rule_34
  rw [show (40 : Int32) = nI 40 from rfl, r_fault h (m := 40) (by decide) hl b, b2_s, if_neg hb, if_neg]
  rw [fa_le, fb_subI (by rw [nI_toInt (by omega), show (-1 : Int32).toInt = -1 from by decide]; omega) (by rw [nI_toInt (by omega), show (-1 : Int32).toInt = -1 from by decide]; omega), nI_toInt (by omega), show (-1 : Int32).toInt = -1 from by decide, show (0 : Int32).toInt = 0 from by decide]
  omega
theorem R_rule {s : St} (hw : WF s) : OpR (fun M => f_X12_rule 143 M) s (a_rule s) (n_rule s) := by
  intro M h
  obtain ⟨N, et, ht, ft, rt, t0, l0⟩ := r_thr0 h
  have hL := hw.1.2.2.2.2.2.2.1
  obtain ⟨M1, e1, c1, n1, f1, r1⟩ := r_begin' hw ht (m := 40) (by decide)
  have s1 := c1.1.1
  have f2 : Fr (fun a k => a = 143 ∧ k = 30) M1 (sI M1 143 30 0) := (Fr.rf (W := fun a k => a = 143 ∧ k = 30) M1).sI ⟨rfl, rfl⟩
  have c2 : TR (z0 s) (ztap s) (zL s) (min (zL s) 40) 0 (sI M1 143 30 0) := c1.fr' f2 rfl (fun a k q => by unfold wR; omega) (fun a k q => by omega)
  have d2 : mI (sI M1 143 30 0) 143 30 = nI 0 := by rw [mI_w, if_pos ⟨rfl, rfl⟩]; rfl
  have n2 : mI (sI M1 143 30 0) 143 21 = nI (4 - 4) := by rw [mI_w, if_neg (by omega)]; exact n1
  have fr2 : Fr rW M (sI M1 143 30 0) := (ft.tr f1).tr (f2.mono (fun a k q => by unfold rW; omega))
  show ∃ M', f_X12_rule 143 M = _ ∧ _
  unfold f_X12_rule f_X12_rule_0 f_X12_rule_29
  rw [if_pos (O143 h.1), et, b1_s, show (40 : Int32) = nI 40 from rfl, e1, b2_s, pI_k 30 _ (O143 s1), b1_s]
  by_cases hz : zL s = 0
  · obtain ⟨N', g1, g2, g3, g4⟩ := r_ru34 (r := (0, fun _ => 0)) c2 rfl (by omega) (by omega) d2 (by omega) ⟨fun _ => rfl, fun _ => rfl⟩ (fun g => absurd rfl g)
    rw [(ru_s (ru_0 hz)).1, (ru_s (ru_0 hz)).2, if_pos (show nI (zL s) = 0 by rw [hz]; rfl), g1]
    exact ⟨N', rfl, g2, fr2.tr g3, g4.trans (r1.trans rt)⟩
  · have k := r_rule (s := z0 s) (T := ztap s) (n := zL s) (l := min (zL s) 40) (by omega) 4 0 100 (by omega) (by omega) (by omega) _ 0 c2 d2 n2 (by omega)
    obtain ⟨N3, d3, e3, c3, hd3, l3, m3, p3, v3, f3, r3⟩ := k
    have e3 : f_X12_readsRank 100 143 0 (sI M1 143 30 0) = some (bI (ruP s).1.isSome, N3) := e3
    have fr3 : Fr rW M N3 := fr2.tr (f3.mono (fun a k q => by unfold wRv at q; unfold rW; omega))
    have rr3 : mR N3 = mR M := r3.trans (r1.trans rt)
    rw [if_neg (nI_ne0 (by omega) (by omega)), e3, b2_s]
    cases hp : ruP s with
    | mk o q =>
      have hp' : pCm (ztap s) (min (zL s) 40) 4 0 = (o, q) := hp
      rw [hp'] at c3 m3 v3
      have c3' : TR (z0 s) (ztap s) (zL s) (min (zL s) 40) q N3 := c3
      have hq := c3'.2.2.2.2.2.2.1
      have m3' : d3 + 0 ≤ 0 + q := m3
      cases o with
      | none =>
        have er := ru_1 hz hp
        rw [(ru_n er).1, (ru_n er).2, if_pos (show bI (none : Option Va).isSome = 0 from rfl), show f_X12_rule_34 143 (nI (zL s)) 0 N3 = _ from r_ruF c3' rfl false (fun g => by cases g.1)]
        exact ⟨N3, rfl, c3'.1, fr3, rr3⟩
      | some v =>
        have v3' := v3 v rfl
        rw [if_neg (show ¬ bI (some v).isSome = 0 from by show ¬ bI true = 0; decide)]
        by_cases hc : q = min (zL s) 40 ∧ min (zL s) 40 = zL s
        · have er := ru_3 hz hp hc
          obtain ⟨N', g1, g2, g3, g4⟩ := r_ru34 (r := (1, v)) c3' rfl hc.1 hc.2 hd3 (by omega) ⟨(fun g => by cases g), (fun g => by have := v3'.1; omega)⟩ (fun _ fc => v3'.2.2 fc [] rfl)
          rw [(ru_s er).1, (ru_s er).2, g1]
          exact ⟨N', rfl, g2, fr3.tr g3, g4.trans rr3⟩
        · have er := ru_2 hz hp hc
          rw [(ru_n er).1, (ru_n er).2, show f_X12_rule_34 143 (nI (zL s)) 1 N3 = _ from r_ruF c3' rfl true (fun g => hc g.2)]
          exact ⟨N3, rfl, c3'.1, fr3, rr3⟩
theorem case_4 : CaseOK g_L_4 := by
  intro L xs j K M hL hj hc
  obtain ⟨s, hw, hc, hr⟩ := hc
  obtain ⟨M1, M2, hcp, e1, e2⟩ := asm (C_rule hw) (R_rule hw) (W_rule hw) hc hr
  refine ⟨M2, hcp, ?_⟩
  unfold g_L_4
  simp only [show (nI j + 1 : Int32) = nI (j + 1) from nI_add _ 1, show (nI j + 2 : Int32) = nI (j + 2) from nI_add _ 2, show (nI j + 3 : Int32) = nI (j + 3) from nI_add _ 3, show (nI j + 4 : Int32) = nI (j + 4) from nI_add _ 4, scr_k (show j + 1 < L by omega) hL, scr_k (show j + 2 < L by omega) hL, scr_k (show j + 3 < L by omega) hL, scr_k (show j + 4 < L by omega) hL, b1_s, e1, e2, b2_s, if_true]

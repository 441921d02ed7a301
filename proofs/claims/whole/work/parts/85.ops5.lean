/-! CALLS: again, undo, strike, shift -/
theorem PastC.cut {W : Nat → Nat → Prop} {M M' : MM} {n m : Nat} {u : Nat → Pl} (h : PastC M n u) (hm : m ≤ n) (h1 : mI M' 92 4 = nI m) (f : Fr W M M') (w : ∀ a k, a = 93 ∨ (97 ≤ a ∧ a ≤ 126) → ¬ W a k) : PastC M' m u := by
  obtain ⟨p1, p0, π, p2, p3, p4⟩ := h
  refine ⟨h1, by omega, π, fun j hj => ⟨(p2 j hj).1, by rw [f.2.2.2.2 _ _ (w _ _ (Or.inl rfl))]; exact (p2 j hj).2⟩, p3, fun j hj => ?_⟩
  have := (p2 j (by omega)).1
  exact (p4 j (by omega)).frw f (fun b k q => w _ _ (by omega))
theorem PastR.cut {W : Nat → Nat → Prop} {M M' : MM} {n m : Nat} {u : Nat → Pl} (h : PastR M n u) (hm : m ≤ n) (h1 : mI M' 143 33 = nI m) (f : Fr W M M') (w : ∀ a k, a = 163 → ¬ W a k) : PastR M' m u := ⟨h1, fun j hj => (h.2 j (by omega)).frw f (fun b k q => w _ _ (by omega))⟩
def okAg (s : St) (x : Int32) : Prop := ixP x 3 = true ∧ zkv s x.toNatClampNeg = 1
noncomputable def a_again (s : St) (x : Int32) : Int32 := if ixP x 3 = true ∧ zkv s x.toNatClampNeg = 1 then 1 else 0
noncomputable def n_again (s : St) (x : Int32) : St := if ixP x 3 = true ∧ zkv s x.toNatClampNeg = 1 then zsp s (zkep s x.toNatClampNeg) 0 (zund s) else s
theorem W_again {s : St} (hw : WF s) (x : Int32) : WF (n_again s x) := by
  unfold n_again
  split
  · rename_i h
    obtain ⟨i, hi, rfl⟩ := ix_ex (by decide) h.1
    rw [nI_clamp (by omega)]
    exact WF_sp hw (hw.2.2.2.2.2.2 i hi) (by decide) (fun j hj => absurd hj (Nat.not_lt_zero j))
  · exact hw
theorem nI_neg1 {n : Nat} (h : n < 2 ^ 31) : ¬ (-1 : Int32) = nI n := fun q => nI_m1 h q.symm
theorem ld94 {M : MM} (h0 : Sh M) {i : Nat} (hi : i < 3) : ldR 24 94 (nI i) M = some (127 + 2 * i) := by
  rw [ldR_k (sh_O h0 24 (by decide) rfl) (sh_N h0 3 (by decide) rfl) hi (by decide)]
  match i, hi with
  | 0, _ => exact h0.2.2 (94, 0, 127) (by decide)
  | 1, _ => exact h0.2.2 (94, 1, 129) (by decide)
  | 2, _ => exact h0.2.2 (94, 2, 131) (by decide)
  | n + 3, h => omega
theorem C_again {s : St} (hw : WF s) (x : Int32) : OpC (fun M => f_X11_again 0 x M) s (a_again s x) (n_again s x) := by
  intro M h
  have h0 := h.1
  have hP := hw.1.1
  have hE := hw.1.2.1
  show ∃ M', f_X11_again 0 x M = _ ∧ _
  unfold f_X11_again f_X11_again_0 f_X4_fetch f_X4_fetch_0
  rw [if_pos (sh_O h0 11 (by decide) rfl), sh_R h0 (a := 0) (k := 9) (b := 92) 11 (by decide) rfl (by decide), b1_s, sh_R h0 (a := 0) (k := 3) (b := 14) 11 (by decide) rfl (by decide), b1_s, sh_R h0 (a := 0) (k := 2) (b := 5) 11 (by decide) rfl (by decide), b1_s, if_pos (sh_O h0 4 (by decide) rfl)]
  by_cases hx : ixP x 3 = true
  · obtain ⟨i, hi, rfl⟩ := ix_ex (by decide) hx
    have hk := h.2.2.2.2.2.2.2.1 i hi
    rw [if_neg (nI_pos (by omega)), if_neg (show ¬ (3 : Int32) ≤ nI i from nI_ge hi (by decide)), sh_R h0 (a := 92) (k := 2) (b := 95) 4 (by decide) rfl (by decide), b1_s, ld_95 h0 hi, b1_s, gI_k 7 (sh_O h0 9 (by decide) rfl), b1_s, h.2.2.2.1.1]
    rcases hk.2 with ⟨kv, kp, ke⟩ | ⟨kv, hk2⟩
    · have hc : ixP (nI i) 3 = true ∧ zkv s (nI i).toNatClampNeg = 1 := ⟨hx, by rw [nI_clamp (by omega)]; exact kv⟩
      obtain ⟨M1, e1, p1, f1, r1⟩ := c_copy h0 PA14 (PA127 i hi) (by omega) hk.1 (hw.2.2.2.2.2.2 i hi).1
      have s1 := f1.sh' r1 h0
      have fa : Fr (fun a k => wPl 14 a k ∨ (a = 92 ∧ k = 4)) M M1 := f1.mono (fun a k q => Or.inl q)
      have f2 : Fr (fun a k => wPl 14 a k ∨ (a = 92 ∧ k = 4)) M (sI M1 92 4 0) := fa.sI (Or.inr ⟨rfl, rfl⟩)
      refine ⟨sI M1 92 4 0, ?_, ?_, f2.mono (fun a k q => by unfold wPl at q; unfold cW; omega)⟩
      · rw [if_pos kp, sh_R h0 (a := 92) (k := 3) (b := 96) 4 (by decide) rfl (by decide), b1_s, ld_96 h0 hi, b1_s, gI_k 8 (sh_O h0 9 (by decide) rfl), b1_s, h.2.2.2.1.2.1, if_pos ke, sh_R h0 (a := 92) (k := 1) (b := 94) 4 (by decide) rfl (by decide), b1_s, ld94 h0 hi, b1_s, e1, b1_s, rz1, b2_s, if_neg (by decide), sh_R s1 (a := 0) (k := 9) (b := 92) 11 (by decide) rfl (by decide), b1_s]
        unfold f_X4_drop f_X4_drop_0
        rw [if_pos (sh_O s1 4 (by decide) rfl), pI_k 4 _ (sh_O s1 4 (by decide) rfl), b1_s, b1_s, rz1, show a_again s (nI i) = 1 from if_pos hc]
      · rw [show n_again s (nI i) = zsp s (zkep s i) 0 (zund s) by unfold n_again; rw [if_pos hc, nI_clamp (by omega)]]
        refine h.pp (f2.mono (fun a k q => by unfold wPl at q; unfold wPP; omega)) s1 (p1.frw (frOne M1 92 4 0) (fun b k q => by omega)) (PastC.cut (n := zU s) (u := zund s) h.2.2.2.2.2.2.1 (Nat.zero_le _) (by rw [mI_w, if_pos ⟨rfl, rfl⟩]; rfl) f2 (fun a k q => by unfold wPl; omega))
    · have hc : ¬ (ixP (nI i) 3 = true ∧ zkv s (nI i).toNatClampNeg = 1) := by rw [nI_clamp (by omega), kv]; exact fun q => absurd q.2 (by decide)
      refine ⟨M, ?_, by rw [show n_again s (nI i) = s from if_neg hc]; exact h, Fr.rf M⟩
      rw [show a_again s (nI i) = 0 from if_neg hc]
      rcases hk2 with k1 | ⟨a, b, ha, hb, hab, k1, k2⟩
      · rw [k1, if_neg (nI_neg1 (by omega)), rz0, b2_s, if_pos rfl, rz0]
      · rw [k1]
        by_cases hap : a = zP s
        · rw [if_pos (by rw [hap]), sh_R h0 (a := 92) (k := 3) (b := 96) 4 (by decide) rfl (by decide), b1_s, ld_96 h0 hi, b1_s, gI_k 8 (sh_O h0 9 (by decide) rfl), b1_s, h.2.2.2.1.2.1, k2, if_neg (by rw [nI_eq (by omega) (by omega)]; exact fun q => hab ⟨hap, q⟩), rz0, b2_s, if_pos rfl, rz0]
        · rw [if_neg (by rw [nI_eq (by omega) (by omega)]; exact hap), rz0, b2_s, if_pos rfl, rz0]
  · have hc : ¬ (ixP x 3 = true ∧ zkv s x.toNatClampNeg = 1) := fun q => hx q.1
    refine ⟨M, ?_, by rw [show n_again s x = s from if_neg hc]; exact h, Fr.rf M⟩
    rw [show a_again s x = 0 from if_neg hc]
    by_cases h1 : x < 0
    · rw [if_pos h1, rz0, b2_s, if_pos rfl, rz0]
    · rw [if_neg h1, if_pos (fa_of_nlt (fun q => hx (ix3.mp ⟨h1, q⟩))), rz0, b2_s, if_pos rfl, rz0]
theorem R_again {s : St} (hw : WF s) (x : Int32) : OpR (fun M => f_X12_again 143 x M) s (a_again s x) (n_again s x) := by
  intro M h
  obtain ⟨N, et, ht, ft, rt, t0, l0⟩ := r_thr0 h
  have h0 := ht.1
  have hO := sh_O h0 (a := 143) 12 (by decide) rfl
  show ∃ M', f_X12_again 143 x M = _ ∧ _
  unfold f_X12_again f_X12_again_0
  rw [if_pos (sh_O h.1 12 (by decide) rfl), et, b1_s, show f_X12_in x.toInt64 0 2 N = some (if ixP x 3 = true then 1 else 0, N) from e_in0n _ 3 (by decide) N, b2_s]
  by_cases hx : ixP x 3 = true
  · obtain ⟨i, hi, rfl⟩ := ix_ex (by decide) hx
    obtain ⟨c, k1, k2, hk⟩ := ht.2.2.2.2.2.2.2.1
    have hk := hk i hi
    have hPE := hw.1.1
    have hPF := hw.1.2.1
    rw [if_pos hx, if_neg (by decide), sh_R h0 (a := 143) (k := 56) (b := 180) 12 (by decide) rfl (by decide), b1_s, ld_180 h0 hi, b1_s]
    rcases hk.2 with ⟨kv, kp, ke⟩ | ⟨kv, hk2⟩
    · have hc : ixP (nI i) 3 = true ∧ zkv s (nI i).toNatClampNeg = 1 := ⟨hx, by rw [nI_clamp (by omega)]; exact kv⟩
      obtain ⟨M1, f', e, cy⟩ := lcp (fun f k N => f_X12_again_43 f 143 (nI i) (nI k) N) 153 0 46 (fun k => mI N 182 (46 * i + k)) N (fun f k N2 hk hc => by
        show f_X12_again_43 (f + 1) _ _ _ _ = _
        have hN := hc.sh h0
        rw [f_X12_again_43, if_neg (show ¬ (46 : Int32) ≤ nI k from nI_ge hk (by decide)), sh_R hN (a := 143) (k := 15) (b := 153) 12 (by decide) rfl (by decide), b1_s, sh_R hN (a := 143) (k := 58) (b := 182) 12 (by decide) rfl (by decide), b1_s, n46m, nI_add, ld_182 hN (by omega), b1_s, st_153 hN _ hk, b1_s, bn_s, nI_1, hc.2.2.2.2, if_neg (by omega), Nat.zero_add]) (by decide)
      have s1 := cy.sh h0
      have fa : Fr (fun a k => a = 153 ∨ (a = 143 ∧ k = 33)) N M1 := cy.frm.mono (fun a k q => Or.inl q.1)
      have f2 : Fr (fun a k => a = 153 ∨ (a = 143 ∧ k = 33)) N (sI M1 143 33 0) := fa.sI (Or.inr ⟨rfl, rfl⟩)
      refine ⟨sI M1 143 33 0, ?_, ?_, ft.tr (f2.mono (fun a k q => by unfold rW; omega)), cy.2.2.2.1.trans rt⟩
      · rw [kp, if_neg (by decide), sh_R h0 (a := 143) (k := 57) (b := 181) 12 (by decide) rfl (by decide), b1_s, ld_181 h0 hi, b1_s, gI_k 5 hO, b1_s, k2, if_pos ke, show a_again s (nI i) = 1 from if_pos hc]
        refine Eq.trans ?_ (e.trans ?_)
        · show _ = f_X12_again_43 1024 143 (nI i) (nI 0) N
          rw [nI_0]
        · show f_X12_again_43 (f' + 1) _ _ _ _ = _
          rw [f_X12_again_43, if_pos (show (46 : Int32) ≤ nI 46 from nI_le (Nat.le_refl 46) (by decide)), pI_k 33 _ (sh_O s1 12 (by decide) rfl), b1_s, rz1]
      · rw [show n_again s (nI i) = zsp s (zkep s i) 0 (zund s) by unfold n_again; rw [if_pos hc, nI_clamp (by omega)]]
        refine ht.pp (f2.mono (fun a k q => by unfold wQQ; omega)) s1 (hk.1.cp (by have := (hw.2.2.2.2.2.2 i hi).1; omega) (fun k hk => ?_)) (PastR.cut (n := zU s) (u := zund s) ht.2.2.2.2.2.2.1 (Nat.zero_le _) (by rw [mI_w, if_pos ⟨rfl, rfl⟩]; rfl) f2 (fun a k q => by omega))
        rw [mI_w, if_neg (by omega), cy.2.2.2.2, if_pos ⟨rfl, by omega, by omega⟩]
        show mI N 182 (46 * i + (0 + k - 0)) = _
        rw [Nat.sub_zero, Nat.zero_add]
    · have hc : ¬ (ixP (nI i) 3 = true ∧ zkv s (nI i).toNatClampNeg = 1) := by rw [nI_clamp (by omega), kv]; exact fun q => absurd q.2 (by decide)
      refine ⟨N, ?_, by rw [show n_again s (nI i) = s from if_neg hc]; exact ht, ft, rt⟩
      rw [show a_again s (nI i) = 0 from if_neg hc]
      rcases hk2 with q1 | ⟨a, ha, q1, q2⟩
      · rw [q1, if_pos rfl, rz0]
      · rw [q1, if_neg (by decide), sh_R h0 (a := 143) (k := 57) (b := 181) 12 (by decide) rfl (by decide), b1_s, ld_181 h0 hi, b1_s, gI_k 5 hO, b1_s, k2, q2, if_neg (by rw [nI_eq (by omega) (by omega)]; omega), rz0]
  · have hc : ¬ (ixP x 3 = true ∧ zkv s x.toNatClampNeg = 1) := fun q => hx q.1
    refine ⟨N, ?_, by rw [show n_again s x = s from if_neg hc]; exact ht, ft, rt⟩
    rw [show a_again s x = 0 from if_neg hc, if_neg hx, if_pos rfl, rz0]
theorem case_45 : CaseOK g_L_45 := by
  intro L xs j K M hL hj hc
  obtain ⟨s, hw, hc, hr⟩ := hc
  obtain ⟨M1, M2, hcp, e1, e2⟩ := asm (C_again hw (xs (j + 1))) (R_again hw (xs (j + 1))) (W_again hw (xs (j + 1))) hc hr
  refine ⟨M2, hcp, ?_⟩
  unfold g_L_45
  simp only [show (nI j + 1 : Int32) = nI (j + 1) from nI_add _ 1, show (nI j + 2 : Int32) = nI (j + 2) from nI_add _ 2, show (nI j + 3 : Int32) = nI (j + 3) from nI_add _ 3, show (nI j + 4 : Int32) = nI (j + 4) from nI_add _ 4, scr_k (show j + 1 < L by omega) hL, scr_k (show j + 2 < L by omega) hL, scr_k (show j + 3 < L by omega) hL, scr_k (show j + 4 < L by omega) hL, b1_s, e1, e2, b2_s, if_true]
/-! undo -/
def a_undo (s : St) : Int32 := if zU s = 0 then -1 else nI (zU s - 1)
def n_undo (s : St) : St := if zU s = 0 then s else zsp s (zund s (zU s - 1)) (zU s - 1) (zund s)
theorem W_undo {s : St} (hw : WF s) : WF (n_undo s) := by
  have hU := hw.1.2.2.2.2.1
  unfold n_undo
  split
  · exact hw
  · exact WF_sp hw (hw.2.2.2.2.2.1 _ (by omega)) (by omega) (fun j hj => hw.2.2.2.2.2.1 j (by omega))
theorem C_undo {s : St} (hw : WF s) : OpC (fun M => f_X11_undo 0 M) s (a_undo s) (n_undo s) := by
  intro M h
  have h0 := h.1
  have hU := hw.1.2.2.2.2.1
  show ∃ M', f_X11_undo 0 M = _ ∧ _
  unfold f_X11_undo f_X11_undo_0 f_X4_pop f_X4_pop_0
  rw [if_pos (sh_O h0 11 (by decide) rfl), sh_R h0 (a := 0) (k := 9) (b := 92) 11 (by decide) rfl (by decide), b1_s, sh_R h0 (a := 0) (k := 3) (b := 14) 11 (by decide) rfl (by decide), b1_s, if_pos (sh_O h0 4 (by decide) rfl), gI_k 4 (sh_O h0 4 (by decide) rfl), b1_s]
  have hp := h.2.2.2.2.2.2.1
  rw [hp.1]
  by_cases hz : zU s = 0
  · refine ⟨M, ?_, by rw [show n_undo s = s from if_pos hz]; exact h, Fr.rf M⟩
    rw [show a_undo s = -1 from if_pos hz, hz, if_neg (by decide), rz0, b2_s, if_pos rfl]
  · have s1 : Sh (sI M 92 4 (nI (zU s - 1))) := h0
    have f1 := frOne M 92 4 (nI (zU s - 1))
    have hp1 : PastC (sI M 92 4 (nI (zU s - 1))) (zU s - 1) (zund s) := PastC.cut (n := zU s) hp (by omega) (by rw [mI_w, if_pos ⟨rfl, rfl⟩]) f1 (fun a k q => by omega)
    obtain ⟨p1, p0, π, p2, p3, p4⟩ := hp
    have p5 := (p4 (zU s - 1) (by omega)).frw f1 (fun a k q => by omega)
    have hπ := p2 (zU s - 1) (by omega)
    obtain ⟨M2, e2, q2, f2, r2⟩ := c_copy s1 PA14 (PA97 _ hπ.1) (by omega) p5 (hw.2.2.2.2.2.1 _ (by omega)).1
    have s2 := f2.sh' r2 s1
    have f3 : Fr (fun a k => wPl 14 a k ∨ (a = 92 ∧ k = 4)) M M2 := (f1.mono (fun a k q => Or.inr q)).tr (f2.mono (fun a k q => Or.inl q))
    refine ⟨M2, ?_, ?_, f3.mono (fun a k q => by unfold wPl at q; unfold cW; omega)⟩
    · rw [if_pos (show (0 : Int32) < nI (zU s) from nI_lt (a := 0) (by omega) (by omega)), b1_s, nS1 (by omega), pI_k 4 _ (sh_O h0 4 (by decide) rfl), b1_s, sh_R s1 (a := 92) (k := 0) (b := 93) 4 (by decide) rfl (by decide), b1_s, gI_k 4 (sh_O s1 4 (by decide) rfl), b1_s, mI_w, if_pos ⟨rfl, rfl⟩, ldR_k (sh_O s1 24 (by decide) rfl) (sh_N s1 15 (by decide) rfl) (by omega) (by decide)]
      show b2 (b1 (mR M 93 (zU s - 1)) _) _ = _
      rw [hπ.2, b1_s, e2, b1_s, rz1, b2_s, if_neg (by decide), sh_R s2 (a := 0) (k := 9) (b := 92) 11 (by decide) rfl (by decide), b1_s, gI_k 4 (sh_O s2 4 (by decide) rfl), b1_s, f2.2.2.1 92 4 (by unfold wPl; omega), mI_w, if_pos ⟨rfl, rfl⟩, show a_undo s = nI (zU s - 1) from if_neg hz]
    · rw [show n_undo s = _ from if_neg hz]
      exact h.pp (f3.mono (fun a k q => by unfold wPl at q; unfold wPP; omega)) s2 q2 (PastC.cut hp1 (Nat.le_refl _) (by rw [f2.2.2.1 92 4 (by unfold wPl; omega), mI_w, if_pos ⟨rfl, rfl⟩]) f2 (fun a k q => by unfold wPl; omega))
theorem R_undo {s : St} (hw : WF s) : OpR (fun M => f_X12_undo 143 M) s (a_undo s) (n_undo s) := by
  intro M h
  obtain ⟨N, et, ht, ft, rt, t0, l0⟩ := r_thr0 h
  have h0 := ht.1
  have hU := hw.1.2.2.2.2.1
  have hO := sh_O h0 (a := 143) 12 (by decide) rfl
  show ∃ M', f_X12_undo 143 M = _ ∧ _
  unfold f_X12_undo f_X12_undo_0
  have hp : PastR N (zU s) (zund s) := ht.2.2.2.2.2.2.1
  rw [if_pos (sh_O h.1 12 (by decide) rfl), et, b1_s, gI_k 33 hO, b1_s, hp.1]
  by_cases hz : zU s = 0
  · refine ⟨N, ?_, by rw [show n_undo s = s from if_pos hz]; exact ht, ft, rt⟩
    rw [show a_undo s = -1 from if_pos hz, hz, nI_0, if_pos rfl]
  · have s1 : Sh (sI N 143 33 (nI (zU s - 1))) := h0
    obtain ⟨M1, f', e, cy⟩ := lcp (fun f k N => f_X12_undo_26 f 143 (nI k) N) 153 0 46 (fun k => mI N 163 (46 * (zU s - 1) + k)) (sI N 143 33 (nI (zU s - 1))) (fun f k N2 hk hc => by
      show f_X12_undo_26 (f + 1) _ _ _ = _
      have hN := hc.sh s1
      rw [f_X12_undo_26, if_neg (show ¬ (46 : Int32) ≤ nI k from nI_ge hk (by decide)), sh_R hN (a := 143) (k := 15) (b := 153) 12 (by decide) rfl (by decide), b1_s, sh_R hN (a := 143) (k := 34) (b := 163) 12 (by decide) rfl (by decide), b1_s, gI_k 33 (sh_O hN 12 (by decide) rfl), b1_s, hc.2.2.2.2 143 33, if_neg (by omega), mI_w, if_pos ⟨rfl, rfl⟩, n46m, nI_add, ld_163 hN (by omega), b1_s, st_153 hN _ hk, b1_s, bn_s, nI_1, hc.2.2.2.2, if_neg (by omega), mI_w, if_neg (by omega), Nat.zero_add]) (by decide)
    have s2 := cy.sh s1
    have fa : Fr (fun a k => a = 153 ∨ (a = 143 ∧ k = 33)) N (sI N 143 33 (nI (zU s - 1))) := (Fr.rf N).sI (Or.inr ⟨rfl, rfl⟩)
    have f2 : Fr (fun a k => a = 153 ∨ (a = 143 ∧ k = 33)) N M1 := fa.tr (cy.frm.mono (fun a k q => Or.inl q.1))
    have e33 : mI M1 143 33 = nI (zU s - 1) := by rw [cy.2.2.2.2, if_neg (by omega), mI_w, if_pos ⟨rfl, rfl⟩]
    refine ⟨M1, ?_, ?_, ft.tr (f2.mono (fun a k q => by unfold rW; omega)), cy.2.2.2.1.trans rt⟩
    · rw [if_neg (nI_ne0 (by omega) (by omega)), b1_s, nS1 (by omega), pI_k 33 _ hO, b1_s, show a_undo s = nI (zU s - 1) from if_neg hz]
      refine Eq.trans ?_ (e.trans ?_)
      · show _ = f_X12_undo_26 1024 143 (nI 0) _
        rw [nI_0]
      · show f_X12_undo_26 (f' + 1) _ _ _ = _
        rw [f_X12_undo_26, if_pos (show (46 : Int32) ≤ nI 46 from nI_le (Nat.le_refl 46) (by decide)), gI_k 33 (sh_O s2 12 (by decide) rfl), b1_s, e33]
    · rw [show n_undo s = _ from if_neg hz]
      refine ht.pp (f2.mono (fun a k q => by unfold wQQ; omega)) s2 ((hp.2 (zU s - 1) (by omega)).cp (by have := (hw.2.2.2.2.2.1 (zU s - 1) (by omega)).1; omega) (fun k hk => ?_)) (PastR.cut (n := zU s) (u := zund s) hp (by omega) e33 f2 (fun a k q => by omega))
      rw [cy.2.2.2.2, if_pos ⟨rfl, by omega, by omega⟩]
      show mI N 163 (46 * (zU s - 1) + (0 + k - 0)) = _
      rw [Nat.sub_zero, Nat.zero_add]
theorem case_18 : CaseOK g_L_18 := by
  intro L xs j K M hL hj hc
  obtain ⟨s, hw, hc, hr⟩ := hc
  obtain ⟨M1, M2, hcp, e1, e2⟩ := asm (C_undo hw) (R_undo hw) (W_undo hw) hc hr
  refine ⟨M2, hcp, ?_⟩
  unfold g_L_18
  simp only [show (nI j + 1 : Int32) = nI (j + 1) from nI_add _ 1, show (nI j + 2 : Int32) = nI (j + 2) from nI_add _ 2, show (nI j + 3 : Int32) = nI (j + 3) from nI_add _ 3, show (nI j + 4 : Int32) = nI (j + 4) from nI_add _ 4, scr_k (show j + 1 < L by omega) hL, scr_k (show j + 2 < L by omega) hL, scr_k (show j + 3 < L by omega) hL, scr_k (show j + 4 < L by omega) hL, b1_s, e1, e2, b2_s, if_true]
/-! the plan changed, the past kept; then put by -/
theorem RC.pl {s : St} {M M' : MM} (h : RC s M) (f : Fr wP0 M M') (hs : Sh M') {q : Pl} (hp : PL M' 14 q) : RC (zsplan s q) M' := ⟨hs, (h.2.1.fr f (fun a k q => by unfold wP0 wC; omega)), (h.2.2.1.fr f (fun a k q => by unfold wP0 wC; omega)), (h.2.2.2.1.fr f (fun a k q => by unfold wP0 wC; omega)), hp, (h.2.2.2.2.2.1.fr f (fun a k q => by unfold wP0 wC; omega)), (h.2.2.2.2.2.2.1.fr f (fun a k q => by unfold wP0 wC; omega)), (h.2.2.2.2.2.2.2.1.fr f (fun a k q => by unfold wP0 wC; omega)), (h.2.2.2.2.2.2.2.2.fr f (fun a k q => by unfold wP0 wC; omega))⟩
def wQ1 (a k : Nat) : Prop := wR a k ∨ a = 153
theorem RR.pl {s : St} {M M' : MM} (h : RR s M) (f : Fr wQ1 M M') (hs : Sh M') {q : Pl} (hp : PR M' 153 0 q) : RR (zsplan s q) M' := ⟨hs, (h.2.1.fr f (fun a k q => by unfold wQ1 wR; omega)), (h.2.2.1.fr f (fun a k q => by unfold wQ1 wR; omega)), (h.2.2.2.1.fr f (fun a k q => by unfold wQ1 wR; omega)), hp, (h.2.2.2.2.2.1.fr f (fun a k q => by unfold wQ1 wR; omega)), (h.2.2.2.2.2.2.1.fr f (fun a k q => by unfold wQ1 wR; omega)), (h.2.2.2.2.2.2.2.1.fr f (fun a k q => by unfold wQ1 wR; omega)), (h.2.2.2.2.2.2.2.2.fr f (fun a k q => by unfold wQ1 wR; omega))⟩
theorem WF_pl {s : St} (hw : WF s) {q : Pl} (hq : okPl (zP s) (zE s) q) : WF (zsplan s q) := ⟨hw.1, hw.2.1, hw.2.2.1, hw.2.2.2.1, hq, hw.2.2.2.2.2⟩
theorem c_spare {s : St} {M : MM} (hw : WF s) (h : RC s M) : ∃ M', f_X5_copy 16 14 M = some M' ∧ RC s M' ∧ PL M' 16 (zplan s) ∧ Fr cW M M' := by
  obtain ⟨M1, e1, p1, f1, r1⟩ := c_copy h.1 PA16 PA14 (by decide) h.2.2.2.2.1 hw.2.2.2.2.1.1
  exact ⟨M1, e1, h.fr (f1.mono (fun a k q => by unfold wPl at q; unfold wC; omega)) (f1.sh' r1 h.1), p1, f1.mono (fun a k q => by unfold wPl at q; unfold cW; omega)⟩
theorem c_rememb {s : St} {M : MM} {q : Pl} (hw : WF s) (h : RC (zsplan s q) M) (hp : PL M 16 (zplan s)) (x : Int32) (hx : ¬ x < 0) : ∃ M', f_X11_remember 0 x M = some (x, M') ∧ RC (zpush s q) M' ∧ Fr cW M M' := by
  have h0 := h.1
  obtain ⟨M1, e1, p1, f1, r1⟩ := c_push h0 PA16 (by decide) hp hw.2.2.2.2.1.1 (n := zU s) (u := zund s) h.2.2.2.2.2.2.1
  refine ⟨M1, ?_, RC.pp h (f1.mono (fun a k q => by unfold wPa at q; unfold wPP; omega)) (sh93 f1 r1 h0) (h.2.2.2.2.1.frw f1 (fun a k q => by unfold wPa; omega)) p1, f1.mono (fun a k q => by unfold wPa at q; unfold cW; omega)⟩
  unfold f_X11_remember f_X11_remember_0
  rw [if_pos (sh_O h0 11 (by decide) rfl), if_neg hx, sh_R h0 (a := 0) (k := 9) (b := 92) 11 (by decide) rfl (by decide), b1_s, sh_R h0 (a := 0) (k := 4) (b := 16) 11 (by decide) rfl (by decide), b1_s, e1, b1_s]
theorem c_remem0 {M : MM} (h0 : Sh M) (x : Int32) (hx : x < 0) : f_X11_remember 0 x M = some (x, M) := by
  unfold f_X11_remember f_X11_remember_0
  rw [if_pos (sh_O h0 11 (by decide) rfl), if_pos hx]
theorem r_spare {s : St} {M : MM} (hw : WF s) (h : RR s M) : ∃ M', f_X12_putsBy 143 M = some M' ∧ RR s M' ∧ PR M' 163 (46 * zU s) (zplan s) ∧ Fr rW M M' ∧ mR M' = mR M := by
  have hU := hw.1.2.2.2.2.1
  obtain ⟨M1, e1, p1, q1, f1, r1⟩ := r_putsBy h.1 (n := zU s) (u := zund s) h.2.2.2.2.2.2.1 hU (fun j hj => by have := (hw.2.2.2.2.2.1 j hj).1; omega) h.2.2.2.2.1 (by have := hw.2.2.2.2.1.1; omega)
  exact ⟨M1, e1, h.p0 (f1.mono (fun a k q => by unfold wQ0; omega)) (f1.sh' r1 h.1) (h.2.2.2.2.1.frw f1 (fun b k q => by omega)) p1, q1, f1.mono (fun a k q => by unfold rW; omega), r1⟩
theorem r_rememb {s : St} {M : MM} {q : Pl} (hw : WF s) (h : RR (zsplan s q) M) (hp : PR M 163 (46 * zU s) (zplan s)) (x : Int32) : ∃ M', f_X12_adds 143 x M = some (x, M') ∧ RR (zpush s q) M' ∧ Fr rW M M' ∧ mR M' = mR M := by
  have hU := hw.1.2.2.2.2.1
  obtain ⟨M1, e1, p1, f1, r1⟩ := r_adds h.1 (n := zU s) (u := zund s) h.2.2.2.2.2.2.1 hU (fun j hj => by have := (hw.2.2.2.2.2.1 j hj).1; omega) hp (by have := hw.2.2.2.2.1.1; omega) x
  exact ⟨M1, e1, RR.pp h (f1.mono (fun a k q => by unfold wAd at q; unfold wQQ; omega)) (f1.sh' r1 h.1) (h.2.2.2.2.1.frw f1 (fun b k q => by unfold wAd; omega)) p1, f1.mono (fun a k q => by unfold wAd at q; unfold rW; omega), r1⟩
/-! strike -/
def tkA (s : St) (x : Int32) : Int32 := if ixP x (zplan s).1 = true then nI ((zplan s).1 - 1) else -1
def tkQ (s : St) (x : Int32) : Pl := if ixP x (zplan s).1 = true then plRem (zplan s) x.toNatClampNeg else zplan s
theorem tkQ_ok {s : St} (hw : WF s) (x : Int32) : okPl (zP s) (zE s) (tkQ s x) := by
  unfold tkQ
  split
  · exact okPl_rem hw.2.2.2.2.1
  · exact hw.2.2.2.2.1
theorem c_take {s : St} {M : MM} (hw : WF s) (h : RC s M) (x : Int32) : ∃ M', f_X11_takeOut 0 x M = some (tkA s x, M') ∧ RC (zsplan s (tkQ s x)) M' ∧ Fr (wPl 14) M M' ∧ mR M' = mR M := by
  have h0 := h.1
  have hx := h.cx hw
  have h12 := hw.2.2.2.2.1.1
  have hR3 := sh_R h0 (a := 0) (k := 3) (b := 14) 11 (by decide) rfl (by decide)
  unfold f_X11_takeOut f_X11_takeOut_0
  rw [if_pos (sh_O h0 11 (by decide) rfl), hR3, b1_s, e_has hx, b2_s]
  by_cases hc : ixP x (zplan s).1 = true
  · obtain ⟨i, hi, rfl⟩ := ix_ex (by omega) hc
    obtain ⟨M1, e1, p1, f1, r1⟩ := c_rem hx hi
    have s1 := f1.sh' r1 h0
    rw [show tkA s (nI i) = _ from if_pos hc, show tkQ s (nI i) = plRem (zplan s) i by unfold tkQ; rw [if_pos hc, nI_clamp (by omega)]]
    refine ⟨M1, ?_, h.pl (f1.mono (fun a k q => by unfold wPl at q; unfold wP0; omega)) s1 p1, f1, r1⟩
    rw [if_pos hc, if_neg (by decide), hR3, b1_s, e1, b1_s, sh_R s1 (a := 0) (k := 3) (b := 14) 11 (by decide) rfl (by decide), b1_s, gI_k 1 (sh_O s1 5 (by decide) rfl), b1_s, p1.1]
    rfl
  · rw [show tkA s x = _ from if_neg hc, show tkQ s x = _ from if_neg hc]
    exact ⟨M, by rw [if_neg hc, if_pos rfl], h, Fr.rf M, rfl⟩
theorem r_take {s : St} {M : MM} (hw : WF s) (h : RR s M) (x : Int32) : ∃ M', f_X12_strikes 143 x M = some (tkA s x, M') ∧ RR (zsplan s (tkQ s x)) M' ∧ Fr (fun a k => a = 153) M M' ∧ mR M' = mR M := by
  have h0 := h.1
  have hx := h.rx hw
  have h12 := hw.2.2.2.2.1.1
  have hR3 := sh_R h0 (a := 143) (k := 15) (b := 153) 12 (by decide) rfl (by decide)
  unfold f_X12_strikes f_X12_strikes_0
  rw [if_pos (sh_O h0 12 (by decide) rfl), e_isT hw h, b2_s]
  by_cases hc : ixP x (zplan s).1 = true
  · obtain ⟨i, hi, rfl⟩ := ix_ex (by omega) hc
    obtain ⟨M1, e1, p1, f1, r1⟩ := r_leaves h0 (Or.inl rfl) h.2.2.2.2.1 (by omega) hi
    have s1 := f1.sh' r1 h0
    rw [show tkA s (nI i) = _ from if_pos hc, show tkQ s (nI i) = plRem (zplan s) i by unfold tkQ; rw [if_pos hc, nI_clamp (by omega)]]
    refine ⟨M1, ?_, h.pl (f1.mono (fun a k q => by unfold wQ1; omega)) s1 p1, f1, r1⟩
    have e45 := p1.1
    rw [Nat.zero_add] at e45
    rw [if_pos hc, if_neg (by decide), hR3, b1_s, e1, b1_s, sh_R s1 (a := 143) (k := 15) (b := 153) 12 (by decide) rfl (by decide), b1_s, n45, ld_153 s1 (by decide), b1_s, e45]
    rfl
  · rw [show tkA s x = _ from if_neg hc, show tkQ s x = _ from if_neg hc]
    exact ⟨M, by rw [if_neg hc, if_pos rfl], h, Fr.rf M, rfl⟩
def a_strike (s : St) (x : Int32) : Int32 := tkA s x
def n_strike (s : St) (x : Int32) : St := if ixP x (zplan s).1 = true then zpush s (tkQ s x) else s
theorem W_strike {s : St} (hw : WF s) (x : Int32) : WF (n_strike s x) := by
  unfold n_strike
  split
  · exact WF_push hw (tkQ_ok hw x)
  · exact hw
theorem C_strike {s : St} (hw : WF s) (x : Int32) : OpC (fun M => f_X11_strike 0 x M) s (a_strike s x) (n_strike s x) := by
  intro M h
  have h12 := hw.2.2.2.2.1.1
  obtain ⟨M1, e1, c1, q1, f1⟩ := c_spare hw h
  obtain ⟨M2, e2, c2, f2, r2⟩ := c_take hw c1 x
  show ∃ M', f_X11_strike 0 x M = _ ∧ _
  unfold f_X11_strike f_X11_strike_0 a_strike
  rw [if_pos (sh_O h.1 11 (by decide) rfl), sh_R h.1 (a := 0) (k := 4) (b := 16) 11 (by decide) rfl (by decide), b1_s, sh_R h.1 (a := 0) (k := 3) (b := 14) 11 (by decide) rfl (by decide), b1_s, e1, b1_s, e2, b2_s]
  by_cases hc : ixP x (zplan s).1 = true
  · have hA : tkA s x = nI ((zplan s).1 - 1) := if_pos hc
    obtain ⟨M3, e3, c3, f3⟩ := c_rememb hw c2 (q1.frw f2 (fun b k q => by unfold wPl; omega)) (tkA s x) (by rw [hA]; exact nI_pos (by omega))
    rw [show n_strike s x = _ from if_pos hc]
    exact ⟨M3, by rw [e3, b2_s], c3, (f1.tr (f2.mono (fun a k q => by unfold wPl at q; unfold cW; omega))).tr f3⟩
  · have hA : tkA s x = -1 := if_neg hc
    have hQ : tkQ s x = zplan s := if_neg hc
    rw [hQ] at c2
    rw [show n_strike s x = s from if_neg hc, hA, c_remem0 c2.1 _ (by decide)]
    exact ⟨M2, by rw [b2_s], c2, f1.tr (f2.mono (fun a k q => by unfold wPl at q; unfold cW; omega))⟩
theorem R_strike {s : St} (hw : WF s) (x : Int32) : OpR (fun M => f_X12_strike 143 x M) s (a_strike s x) (n_strike s x) := by
  intro M h
  have h12 := hw.2.2.2.2.1.1
  obtain ⟨N, et, ht, ft, rt, t0, l0⟩ := r_thr0 h
  obtain ⟨M1, e1, c1, q1, f1, r1⟩ := r_spare hw ht
  obtain ⟨M2, e2, c2, f2, r2⟩ := r_take hw c1 x
  have f2' : Fr rW M1 M2 := f2.mono (fun a k q => by unfold rW; omega)
  show ∃ M', f_X12_strike 143 x M = _ ∧ _
  unfold f_X12_strike f_X12_strike_0 a_strike
  rw [if_pos (sh_O h.1 12 (by decide) rfl), et, b1_s, e1, b1_s, e2, b2_s]
  by_cases hc : ixP x (zplan s).1 = true
  · have hA : tkA s x = nI ((zplan s).1 - 1) := if_pos hc
    obtain ⟨M3, e3, c3, f3, r3⟩ := r_rememb hw c2 (q1.frw f2 (fun b k q => by omega)) (tkA s x)
    rw [show n_strike s x = _ from if_pos hc]
    exact ⟨M3, by rw [if_pos (by rw [hA]; exact nI_pos' (by omega)), e3, b2_s], c3, ((ft.tr f1).tr f2').tr f3, r3.trans (r2.trans (r1.trans rt))⟩
  · have hA : tkA s x = -1 := if_neg hc
    have hQ : tkQ s x = zplan s := if_neg hc
    rw [hQ] at c2
    rw [show n_strike s x = s from if_neg hc, hA, if_neg (by decide)]
    exact ⟨M2, rfl, c2, (ft.tr f1).tr f2', r2.trans (r1.trans rt)⟩
theorem case_15 : CaseOK g_L_15 := by
  intro L xs j K M hL hj hc
  obtain ⟨s, hw, hc, hr⟩ := hc
  obtain ⟨M1, M2, hcp, e1, e2⟩ := asm (C_strike hw (xs (j + 1))) (R_strike hw (xs (j + 1))) (W_strike hw (xs (j + 1))) hc hr
  refine ⟨M2, hcp, ?_⟩
  unfold g_L_15
  simp only [show (nI j + 1 : Int32) = nI (j + 1) from nI_add _ 1, show (nI j + 2 : Int32) = nI (j + 2) from nI_add _ 2, show (nI j + 3 : Int32) = nI (j + 3) from nI_add _ 3, show (nI j + 4 : Int32) = nI (j + 4) from nI_add _ 4, scr_k (show j + 1 < L by omega) hL, scr_k (show j + 2 < L by omega) hL, scr_k (show j + 3 < L by omega) hL, scr_k (show j + 4 < L by omega) hL, b1_s, e1, e2, b2_s, if_true]
/-! shift -/
def mvT (s : St) (x y : Int32) : Int32 := nI (ts ((zplan s).2 x.toNatClampNeg)) + y
def mvP (s : St) (x y : Int32) : Pl := plSet (zplan s) x.toNatClampNeg ((zplan s).2 x.toNatClampNeg % 64 + 64 * (mvT s x y).toNatClampNeg)
def mvI (s : St) (x y : Int32) : Prop := ixP x (zplan s).1 = true ∧ -99 ≤ y ∧ y ≤ 99
def mvK (s : St) (x y : Int32) : Prop := mvI s x y ∧ ixP (mvT s x y) 100 = true ∧ whyS s (mvP s x y) x.toNatClampNeg = 0
noncomputable def mvA (s : St) (x y : Int32) : Int32 := by classical exact if mvI s x y then (if mvK s x y then mvT s x y else -2) else -1
noncomputable def mvQ (s : St) (x y : Int32) : Pl := by classical exact if mvK s x y then mvP s x y else zplan s
theorem mvA_n {s : St} {x y : Int32} (h : ¬ mvI s x y) : mvA s x y = -1 := if_neg h
theorem mvA_k {s : St} {x y : Int32} (h : mvK s x y) : mvA s x y = mvT s x y := (if_pos h.1).trans (if_pos h)
theorem mvA_2 {s : St} {x y : Int32} (h : mvI s x y) (h2 : ¬ mvK s x y) : mvA s x y = -2 := (if_pos h).trans (if_neg h2)
theorem mvQ_k {s : St} {x y : Int32} (h : mvK s x y) : mvQ s x y = mvP s x y := if_pos h
theorem mvQ_n {s : St} {x y : Int32} (h : ¬ mvK s x y) : mvQ s x y = zplan s := if_neg h
theorem mvP_ok {s : St} (hw : WF s) {x y : Int32} (h1 : ixP x (zplan s).1 = true) (h2 : ixP (mvT s x y) 100 = true) : okPl (zP s) (zE s) (mvP s x y) := by
  have h12 := hw.2.2.2.2.1.1
  obtain ⟨i, hi, rfl⟩ := ix_ex (by omega) h1
  obtain ⟨m, hm, em⟩ := ix_ex (by omega) h2
  unfold mvP
  rw [em, nI_clamp (by omega), nI_clamp (by omega)]
  have hk := hw.2.2.2.2.1.2 i hi
  refine okPl_set hw.2.2.2.2.1 ?_
  unfold okT at *
  omega
theorem mvQ_ok {s : St} (hw : WF s) (x y : Int32) : okPl (zP s) (zE s) (mvQ s x y) := by
  by_cases h : mvK s x y
  · rw [mvQ_k h]; exact mvP_ok hw h.1.1 h.2.1
  · rw [mvQ_n h]; exact hw.2.2.2.2.1
theorem c_move {s : St} {M : MM} (hw : WF s) (h : RC s M) (x y : Int32) : ∃ M', f_X11_moveBy 0 x y M = some (mvA s x y, M') ∧ RC (zsplan s (mvQ s x y)) M' ∧ Fr (wPl 14) M M' ∧ mR M' = mR M := by
  have h0 := h.1
  have hx := h.cx hw
  have h12 := hw.2.2.2.2.1.1
  have hR3 := sh_R h0 (a := 0) (k := 3) (b := 14) 11 (by decide) rfl (by decide)
  unfold f_X11_moveBy f_X11_moveBy_0
  rw [if_pos (sh_O h0 11 (by decide) rfl), hR3, b1_s, e_has hx, b2_s]
  by_cases hI : mvI s x y
  · obtain ⟨i, hi, rfl⟩ := ix_ex (by omega) hI.1
    have hb := okT_b (hw.2.2.2.2.1.2 i hi)
    have hT : nI (ts ((zplan s).2 i)) + y = mvT s (nI i) y := by unfold mvT; rw [nI_clamp (by omega)]
    rw [if_pos hI.1, if_neg (by decide), if_neg (fun q => (fa_of_lt q).2.1 hI.2.1), if_pos hI.2.2, hR3, b1_s, e_first hx hi, b2_s, bn_s, hT]
    by_cases hm : ixP (mvT s (nI i) y) 100 = true
    · obtain ⟨m, hm2, em⟩ := ix_ex (by omega) hm
      have hPe : mvP s (nI i) y = plSet (zplan s) i ((zplan s).2 i % 64 + 64 * m) := by unfold mvP; rw [em, nI_clamp (by omega), nI_clamp (by omega)]
      have hok := mvP_ok hw hI.1 hm
      obtain ⟨M1, e1, p1, f1, r1⟩ := c_begin hx hi hm2
      rw [← hPe] at p1
      have s1 := f1.sh' r1 h0
      have hx1 : CX s M1 14 (mvP s (nI i) y) := ⟨s1, h.2.2.2.1.fr f1 (fun a k q => by unfold wPl; omega), hw.1, hw.2.1, PA14, p1, hok⟩
      have hi1 : i < (mvP s (nI i) y).1 := hi
      rw [em, if_neg (nI_pos (by omega)), if_pos (show nI m ≤ (99 : Int32) from nI_le (b := 99) (by omega) (by decide)), hR3, b1_s, e1, b1_s, sh_R s1 (a := 0) (k := 5) (b := 18) 11 (by decide) rfl (by decide), b1_s, c_why hx1 (Or.inl ⟨rfl, rfl⟩) hi1, b2_s]
      by_cases hz : whyS s (mvP s (nI i) y) i = 0
      · have hK : mvK s (nI i) y := ⟨hI, hm, by rw [nI_clamp (by omega)]; exact hz⟩
        rw [mvA_k hK, mvQ_k hK, em]
        exact ⟨M1, by rw [hz, nI_0, if_pos rfl], h.pl (f1.mono (fun a k q => by unfold wPl at q; unfold wP0; omega)) s1 p1, f1, r1⟩
      · have hK : ¬ mvK s (nI i) y := fun q => hz (by have := q.2.2; rw [nI_clamp (by omega)] at this; exact this)
        have hl := whyS_lt s (mvP s (nI i) y) i
        obtain ⟨M2, e2, p2, f2, r2⟩ := c_begin hx1 hi1 hb.2.2.2
        have s2 := f2.sh' r2 s1
        rw [mvA_2 hI hK, mvQ_n hK]
        refine ⟨M2, ?_, h.pl ((f1.tr f2).mono (fun a k q => by unfold wPl at q; unfold wP0; omega)) s2 ⟨p2.1, fun j hj => ?_⟩, f1.tr f2, r2.trans r1⟩
        · rw [if_neg (nI_ne0 (by omega) (by omega)), sh_R s1 (a := 0) (k := 3) (b := 14) 11 (by decide) rfl (by decide), b1_s, e2, b1_s]
        · rw [p2.2 j hj, hPe]
          show nI (if j = i then (if i = i then (zplan s).2 i % 64 + 64 * m else (zplan s).2 i) % 64 + 64 * ts ((zplan s).2 i) else if j = i then (zplan s).2 i % 64 + 64 * m else (zplan s).2 j) = nI ((zplan s).2 j)
          by_cases hj : j = i
          · rw [if_pos hj, if_pos rfl, hj]
            unfold ts
            congr 1
            omega
          · rw [if_neg hj, if_neg hj]
    · have hK : ¬ mvK s (nI i) y := fun q => hm q.2.1
      rw [mvA_2 hI hK, mvQ_n hK]
      refine ⟨M, ?_, h, Fr.rf M, rfl⟩
      by_cases h1 : mvT s (nI i) y < 0
      · rw [if_pos h1]
      · rw [if_neg h1, if_neg]
        intro q
        exact hm (ix_t.mpr ⟨h1, by rw [fa_lt, nI_toInt (by decide)]; rw [fa_le, show (99 : Int32).toInt = 99 from by decide] at q; omega⟩)
  · have hK : ¬ mvK s x y := fun q => hI q.1
    rw [mvA_n hI, mvQ_n hK]
    refine ⟨M, ?_, h, Fr.rf M, rfl⟩
    by_cases h1 : ixP x (zplan s).1 = true
    · rw [if_pos h1, if_neg (by decide)]
      by_cases h2 : y < -99
      · rw [if_pos h2]
      · rw [if_neg h2, if_neg (fun q => hI ⟨h1, fa_of_nlt h2, q⟩)]
    · rw [if_neg h1, if_pos rfl]
theorem r_move {s : St} {M : MM} (hw : WF s) (h : RR s M) (x y : Int32) : ∃ M', f_X12_shifts 143 x y M = some (mvA s x y, M') ∧ RR (zsplan s (mvQ s x y)) M' ∧ Fr (fun a k => a = 153 ∨ a = 154) M M' ∧ mR M' = mR M := by
  have h0 := h.1
  have hx := h.rx hw
  have h12 := hw.2.2.2.2.1.1
  have hR3 := sh_R h0 (a := 143) (k := 15) (b := 153) 12 (by decide) rfl (by decide)
  have hR4 := sh_R h0 (a := 143) (k := 16) (b := 154) 12 (by decide) rfl (by decide)
  unfold f_X12_shifts f_X12_shifts_0
  rw [if_pos (sh_O h0 12 (by decide) rfl), e_isT hw h, b2_s]
  by_cases hI : mvI s x y
  · obtain ⟨i, hi, rfl⟩ := ix_ex (by omega) hI.1
    have hb := okT_b (hw.2.2.2.2.1.2 i hi)
    have hT : nI (ts ((zplan s).2 i)) + y = mvT s (nI i) y := by unfold mvT; rw [nI_clamp (by omega)]
    rw [if_pos hI.1, if_neg (by decide), e_inL y (-99) 99 _ _ (by decide) (by decide), b2_s, if_pos hI.2, if_neg (by decide), hR3, b1_s, r_start hx hi, b2_s, bn_s, hT, e_in99, b2_s]
    by_cases hm : ixP (mvT s (nI i) y) 100 = true
    · obtain ⟨m, hm2, em⟩ := ix_ex (by omega) hm
      have hPe : mvP s (nI i) y = plSet (zplan s) i ((zplan s).2 i % 64 + 64 * m) := by unfold mvP; rw [em, nI_clamp (by omega), nI_clamp (by omega)]
      have hok := mvP_ok hw hI.1 hm
      obtain ⟨M1, e1, p1, f1, r1⟩ := r_puts h0 (Or.inl rfl) (Or.inr (Or.inl rfl)) (by decide) h.2.2.2.2.1 (by omega)
      have s1 := f1.sh' r1 h0
      have setp : ∀ (N : MM) (a : Nat), PR N a 0 (zplan s) → PR (sI N a (3 * i + 2) (nI m)) a 0 (mvP s (nI i) y) := by
        intro N a hp
        rw [hPe]
        refine ⟨by rw [mI_w, if_neg (by omega)]; exact hp.1, fun j hj => ?_⟩
        have hj' : j < (zplan s).1 := hj
        have hk := hp.2 j hj'
        simp only [Nat.zero_add] at hk ⊢
        rw [mI_w, if_neg (by omega), mI_w, if_neg (by omega), mI_w]
        show _ = nI ((if j = i then (zplan s).2 i % 64 + 64 * m else (zplan s).2 j) % 8) ∧ _ = nI ((if j = i then (zplan s).2 i % 64 + 64 * m else (zplan s).2 j) / 8 % 8) ∧ _ = nI ((if j = i then (zplan s).2 i % 64 + 64 * m else (zplan s).2 j) / 64)
        by_cases hji : j = i
        · subst hji
          rw [if_pos rfl, if_pos ⟨rfl, rfl⟩, hk.1, hk.2.1]
          refine ⟨?_, ?_, ?_⟩ <;> congr 1 <;> omega
        · rw [if_neg hji, if_neg (by omega)]; exact hk
      have p2 := setp M1 154 p1
      have s2 : Sh (sI M1 154 (3 * i + 2) (nI m)) := s1
      have fa : Fr (fun a k => a = 153 ∨ a = 154) M M1 := f1.mono (fun a k q => Or.inr q)
      have f2 : Fr (fun a k => a = 153 ∨ a = 154) M (sI M1 154 (3 * i + 2) (nI m)) := fa.sI (Or.inr rfl)
      have f5 : Fr (fun a k => a = 154) M (sI M1 154 (3 * i + 2) (nI m)) := f1.sI rfl
      have hx1 : RX s (sI M1 154 (3 * i + 2) (nI m)) 154 (mvP s (nI i) y) := ⟨s2, h.2.2.2.1.fr f2 (fun a k q => by omega), hw.1, hw.2.1, Or.inr (Or.inl rfl), p2, by have := hok.1; omega, hok.2⟩
      have hi1 : i < (mvP s (nI i) y).1 := hi
      rw [if_pos hm, if_neg (by decide), hR3, b1_s, hR4, b1_s, e1, b1_s, sh_R s1 (a := 143) (k := 16) (b := 154) 12 (by decide) rfl (by decide), b1_s, em, n3m, nI_2, st_154 s1 _ (by omega), b1_s, sh_R s2 (a := 143) (k := 16) (b := 154) 12 (by decide) rfl (by decide), b1_s, r_why hx1 hi1, b2_s]
      by_cases hz : whyS s (mvP s (nI i) y) i = 0
      · have hK : mvK s (nI i) y := ⟨hI, hm, by rw [nI_clamp (by omega)]; exact hz⟩
        rw [mvA_k hK, mvQ_k hK, em]
        have p3 : PR (sI M1 154 (3 * i + 2) (nI m)) 153 0 (zplan s) := h.2.2.2.2.1.frw f5 (fun b k q => by omega)
        refine ⟨sI (sI M1 154 (3 * i + 2) (nI m)) 153 (3 * i + 2) (nI m), ?_, h.pl ((f2.sI (Or.inl rfl)).mono (fun a k q => by unfold wQ1 wR; omega)) s2 (setp _ 153 p3), f2.sI (Or.inl rfl), r1⟩
        rw [hz, if_pos (by decide), sh_R s2 (a := 143) (k := 15) (b := 153) 12 (by decide) rfl (by decide), b1_s, st_153 s2 _ (by omega), b1_s]
      · have hK : ¬ mvK s (nI i) y := fun q => hz (by have := q.2.2; rw [nI_clamp (by omega)] at this; exact this)
        have hl := whyS_lt s (mvP s (nI i) y) i
        rw [mvA_2 hI hK, mvQ_n hK]
        exact ⟨_, by rw [if_neg (nI_nle (by omega) (by omega))], h.fr (f5.mono (fun a k q => by unfold wR; omega)) s2, f2, r1⟩
    · have hK : ¬ mvK s (nI i) y := fun q => hm q.2.1
      rw [mvA_2 hI hK, mvQ_n hK, if_neg hm, if_pos rfl]
      exact ⟨M, rfl, h, Fr.rf M, rfl⟩
  · have hK : ¬ mvK s x y := fun q => hI q.1
    rw [mvA_n hI, mvQ_n hK]
    refine ⟨M, ?_, h, Fr.rf M, rfl⟩
    by_cases h1 : ixP x (zplan s).1 = true
    · rw [if_pos h1, if_neg (by decide), e_inL y (-99) 99 _ _ (by decide) (by decide), b2_s, if_neg (fun q => hI ⟨h1, q⟩), if_pos rfl]
    · rw [if_neg h1, if_pos rfl]
noncomputable def a_shift (s : St) (x y : Int32) : Int32 := mvA s x y
noncomputable def n_shift (s : St) (x y : Int32) : St := by classical exact if mvK s x y then zpush s (mvQ s x y) else s
theorem n_sh_k {s : St} {x y : Int32} (h : mvK s x y) : n_shift s x y = zpush s (mvQ s x y) := if_pos h
theorem n_sh_n {s : St} {x y : Int32} (h : ¬ mvK s x y) : n_shift s x y = s := if_neg h
theorem W_shift {s : St} (hw : WF s) (x y : Int32) : WF (n_shift s x y) := by
  by_cases h : mvK s x y
  · rw [n_sh_k h]; exact WF_push hw (mvQ_ok hw x y)
  · rw [n_sh_n h]; exact hw
theorem mvA_neg {s : St} {x y : Int32} (h : ¬ mvK s x y) : mvA s x y < 0 ∧ ¬ (0 : Int32) ≤ mvA s x y := by
  by_cases hI : mvI s x y
  · rw [mvA_2 hI h]; decide
  · rw [mvA_n hI]; decide
theorem mvA_pos {s : St} {x y : Int32} (h : mvK s x y) : ¬ mvA s x y < 0 ∧ (0 : Int32) ≤ mvA s x y := by
  rw [mvA_k h]
  obtain ⟨m, hm2, em⟩ := ix_ex (by omega) h.2.1
  rw [em]
  exact ⟨nI_pos (by omega), nI_pos' (by omega)⟩
theorem C_shift {s : St} (hw : WF s) (x y : Int32) : OpC (fun M => f_X11_shift 0 x y M) s (a_shift s x y) (n_shift s x y) := by
  intro M h
  obtain ⟨M1, e1, c1, q1, f1⟩ := c_spare hw h
  obtain ⟨M2, e2, c2, f2, r2⟩ := c_move hw c1 x y
  show ∃ M', f_X11_shift 0 x y M = _ ∧ _
  unfold f_X11_shift f_X11_shift_0 a_shift
  rw [if_pos (sh_O h.1 11 (by decide) rfl), sh_R h.1 (a := 0) (k := 4) (b := 16) 11 (by decide) rfl (by decide), b1_s, sh_R h.1 (a := 0) (k := 3) (b := 14) 11 (by decide) rfl (by decide), b1_s, e1, b1_s, e2, b2_s]
  by_cases hc : mvK s x y
  · obtain ⟨M3, e3, c3, f3⟩ := c_rememb hw c2 (q1.frw f2 (fun b k q => by unfold wPl; omega)) (mvA s x y) (mvA_pos hc).1
    rw [n_sh_k hc]
    exact ⟨M3, by rw [e3, b2_s], c3, (f1.tr (f2.mono (fun a k q => by unfold wPl at q; unfold cW; omega))).tr f3⟩
  · rw [mvQ_n hc] at c2
    rw [n_sh_n hc, c_remem0 c2.1 _ (mvA_neg hc).1]
    exact ⟨M2, by rw [b2_s], c2, f1.tr (f2.mono (fun a k q => by unfold wPl at q; unfold cW; omega))⟩
theorem R_shift {s : St} (hw : WF s) (x y : Int32) : OpR (fun M => f_X12_shift 143 x y M) s (a_shift s x y) (n_shift s x y) := by
  intro M h
  obtain ⟨N, et, ht, ft, rt, t0, l0⟩ := r_thr0 h
  obtain ⟨M1, e1, c1, q1, f1, r1⟩ := r_spare hw ht
  obtain ⟨M2, e2, c2, f2, r2⟩ := r_move hw c1 x y
  have f2' : Fr rW M1 M2 := f2.mono (fun a k q => by unfold rW; omega)
  show ∃ M', f_X12_shift 143 x y M = _ ∧ _
  unfold f_X12_shift f_X12_shift_0 a_shift
  rw [if_pos (sh_O h.1 12 (by decide) rfl), et, b1_s, e1, b1_s, e2, b2_s]
  by_cases hc : mvK s x y
  · obtain ⟨M3, e3, c3, f3, r3⟩ := r_rememb hw c2 (q1.frw f2 (fun b k q => by omega)) (mvA s x y)
    rw [n_sh_k hc]
    exact ⟨M3, by rw [if_pos (mvA_pos hc).2, e3, b2_s], c3, ((ft.tr f1).tr f2').tr f3, r3.trans (r2.trans (r1.trans rt))⟩
  · rw [mvQ_n hc] at c2
    rw [n_sh_n hc, if_neg (mvA_neg hc).2]
    exact ⟨M2, rfl, c2, (ft.tr f1).tr f2', r2.trans (r1.trans rt)⟩
theorem case_16 : CaseOK g_L_16 := by
  intro L xs j K M hL hj hc
  obtain ⟨s, hw, hc, hr⟩ := hc
  obtain ⟨M1, M2, hcp, e1, e2⟩ := asm (C_shift hw (xs (j + 1)) (xs (j + 2))) (R_shift hw (xs (j + 1)) (xs (j + 2))) (W_shift hw (xs (j + 1)) (xs (j + 2))) hc hr
  refine ⟨M2, hcp, ?_⟩
  unfold g_L_16
  simp only [show (nI j + 1 : Int32) = nI (j + 1) from nI_add _ 1, show (nI j + 2 : Int32) = nI (j + 2) from nI_add _ 2, show (nI j + 3 : Int32) = nI (j + 3) from nI_add _ 3, show (nI j + 4 : Int32) = nI (j + 4) from nI_add _ 4, scr_k (show j + 1 < L by omega) hL, scr_k (show j + 2 < L by omega) hL, scr_k (show j + 3 < L by omega) hL, scr_k (show j + 4 < L by omega) hL, b1_s, e1, e2, b2_s, if_true]

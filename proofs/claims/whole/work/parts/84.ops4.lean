/-! CALLS: row, count, keep, again, undo -/
theorem C_row {s : St} (hw : WF s) (x : Int32) : ∀ M, RC s M → f_X11_row 0 x M = some (if ixP x (zrow s).1 = true then some ((zrow s).2 x.toNatClampNeg) else none, M) := by
  intro M h
  have h0 := h.1
  have h8 := hw.1.2.2.2.2.2.2.2
  unfold f_X11_row f_X11_row_0 f_X11_row_15
  rw [if_pos (sh_O h0 11 (by decide) rfl)]
  by_cases hx : ixP x (zrow s).1 = true
  · obtain ⟨j, hj, rfl⟩ := ix_ex (by omega) hx
    rw [if_neg (nI_pos (by omega)), sh_R h0 (a := 0) (k := 1) (b := 3) 11 (by decide) rfl (by decide), b1_s, gI_k 1 (sh_O h0 6 (by decide) rfl), b1_s, h.2.2.1.1, if_pos (nI_lt hj (by omega)), b1_s, sh_R h0 (a := 3) (k := 0) (b := 4) 6 (by decide) rfl (by decide), b1_s, ld_4 h0 (by omega), b1_s, if_pos hx, nI_clamp (by omega), h.2.2.1.2 j hj]
  · rw [if_neg hx]
    by_cases h1 : x < 0
    · rw [if_pos h1]
    · rw [if_neg h1, sh_R h0 (a := 0) (k := 1) (b := 3) 11 (by decide) rfl (by decide), b1_s, gI_k 1 (sh_O h0 6 (by decide) rfl), b1_s, h.2.2.1.1, if_neg (fun q => hx (ix_t.mpr ⟨h1, q⟩))]
theorem case_47 : CaseOK g_L_47 := by
  intro L xs j K M hL hj hc
  obtain ⟨s, hw, hc, hr⟩ := hc
  have h8 := hw.1.2.2.2.2.2.2.2
  have e1 := C_row hw (xs (j + 1)) M hc
  unfold g_L_47
  simp only [show (nI j + 1 : Int32) = nI (j + 1) from nI_add _ 1, scr_k (show j + 1 < L by omega) hL, b1_s]
  unfold f_L_row
  rw [e1, b2_s]
  by_cases hx : ixP (xs (j + 1)) (zrow s).1 = true
  · obtain ⟨i, hi, ei⟩ := ix_ex (by omega) hx
    rw [if_pos hx]
    have h183 : ∀ v, stL 183 0 v M = some (sL M 183 0 v) := fun v => by rw [← nI_0]; exact st_183 hc.1 _ (by decide)
    have r3 : RR s (sL M 183 0 ((zrow s).2 (xs (j + 1)).toNatClampNeg)) := hr.fr ((Fr.rf M).sL (by unfold wR; omega)) hr.1
    have c3 : RC s (sL M 183 0 ((zrow s).2 (xs (j + 1)).toNatClampNeg)) := hc.fr ((Fr.rf M).sL (by unfold wC; omega)) hc.1
    obtain ⟨N, et, ht, ft, rt, t0, l0⟩ := r_thr0 r3
    refine ⟨N, ⟨s, hw, c3.fr (ft.mono (fun a k h => Or.inl h)) ht.1, ht⟩, ?_⟩
    have e2 : f_X12_row 143 (xs (j + 1)) (sL M 183 0 ((zrow s).2 (xs (j + 1)).toNatClampNeg)) = some ((zrow s).2 (xs (j + 1)).toNatClampNeg, N) := by
      unfold f_X12_row f_X12_row_0
      rw [if_pos (sh_O r3.1 12 (by decide) rfl), et, b1_s, gI_k 1 (sh_O ht.1 12 (by decide) rfl), b1_s, ht.2.2.1.1, e_in0n _ _ (by omega), b2_s, if_pos hx, if_neg (by decide), sh_R ht.1 (a := 143) (k := 2) (b := 144) 12 (by decide) rfl (by decide), b1_s, ei, ld_144 ht.1 (by omega), b1_s, nI_clamp (by omega), ht.2.2.1.2 i hi]
    show b2 (b1 (stL 183 0 ((zrow s).2 (xs (j + 1)).toNatClampNeg) M) fun M2 => some ((0 : Int32), M2)) _ = _
    rw [h183, b1_s, b2_s, e2, b2_s, e_thr ht.1, b2_s, t0, if_pos rfl, if_pos rfl]
    have e3 : ldL 183 0 N = some ((zrow s).2 (xs (j + 1)).toNatClampNeg) := by
      rw [← nI_0, ld_183 ht.1 (by decide), l0, mL_w, if_pos ⟨rfl, rfl⟩]
    rw [e3, b1_s, lgc_0, if_pos rfl]
  · rw [if_neg hx]
    obtain ⟨N, et, ht, ft, rt, t0, l0⟩ := r_thr0 hr
    obtain ⟨et2, ht2, ft2, rt2⟩ := r_thr ht 1
    refine ⟨sI N 143 0 1, ⟨s, hw, hc.fr ((ft.tr ft2).mono (fun a k h => Or.inl h)) ht2.1, ht2⟩, ?_⟩
    have e2 : f_X12_row 143 (xs (j + 1)) M = some (0, sI N 143 0 1) := by
      unfold f_X12_row f_X12_row_0
      rw [if_pos (sh_O hr.1 12 (by decide) rfl), et, b1_s, gI_k 1 (sh_O ht.1 12 (by decide) rfl), b1_s, ht.2.2.1.1, e_in0n _ _ (by omega), b2_s, if_neg hx, if_pos rfl, et2, b1_s]
    show b2 (some ((1 : Int32), M)) _ = _
    have t1 : mI (sI N 143 0 1) 143 0 = 1 := by rw [mI_w, if_pos ⟨rfl, rfl⟩]
    rw [b2_s, e2, b2_s, e_thr ht2.1, b2_s, t1, if_pos rfl, if_neg (by decide)]
/-! count -/
def orB (P : Nat → Bool) : Nat → Int32
  | 0 => 0
  | k + 1 => orB P k ||| (if P k = true then (1 : Int32) <<< (nI k &&& 31) else 0)
theorem orB_s (P : Nat → Bool) (k : Nat) : orB P (k + 1) = orB P k ||| (if P k = true then (1 : Int32) <<< (nI k &&& 31) else 0) := rfl
def shyB (s : St) (p : Nat) : Bool := decide (zshy s p = 1)
def a_count (s : St) (x : Int32) : Int32 := if x = 0 then nI (zP s) else if x = 1 then nI (zE s) else if x = 2 then nI (zT s) else if x = 3 then nI (zplan s).1 else if x = 4 then orB (shyB s) (zP s) else if x = 5 then nI (zU s) else if x = 6 then nI (zS s) else if x = 7 then nI (zrow s).1 else if x = 8 then nI (zL s) else -100
def n_count (s : St) (x : Int32) : St := s
theorem W_count {s : St} (hw : WF s) (x : Int32) : WF (n_count s x) := hw
theorem c_shy1 {s : St} {M : MM} (hw : WF s) (h : RC s M) : f_X9_shyOnes 5 M = some (orB (shyB s) (zP s), M) := by
  have h0 := h.1
  have hP := hw.1.1
  unfold f_X9_shyOnes f_X9_shyOnes_0
  rw [if_pos (sh_O h0 9 (by decide) rfl)]
  have this : f_X9_shyOnes_4 1024 5 (orB (shyB s) 0) (nI 0) M = some (orB (shyB s) (zP s), M) := by
    refine lpv (fun f k => f_X9_shyOnes_4 f 5 (orB (shyB s) k) (nI k) M) (zP s) _ (fun f k hk => Or.inl ?_) (fun f => ?_) 1024 0 (by omega) (by omega)
    · show f_X9_shyOnes_4 (f + 1) _ _ _ _ = _
      have hs := hw.2.1.1 k hk
      rw [f_X9_shyOnes_4, gI_k 7 (sh_O h0 9 (by decide) rfl), b1_s, h.2.2.2.1.1, if_neg (nI_ge hk (by omega)), sh_R h0 (a := 5) (k := 0) (b := 6) 9 (by decide) rfl (by decide), b1_s, lc_shy h0 h.2.2.2.1 hw.1 hk, b1_s]
      unfold f_X9_shyOnes_29 shyB
      rw [orB_s]
      by_cases hz : zshy s k = 0
      · rw [if_pos (by rw [hz]; rfl), bn_s, bn_s, nI_1, decide_eq_false (by omega)]; rfl
      · rw [if_neg (nI_ne0 (by omega) (by omega)), bn_s, bn_s, nI_1, decide_eq_true (by omega)]; rfl
    · show f_X9_shyOnes_4 (f + 1) _ _ _ _ = _
      rw [f_X9_shyOnes_4, gI_k 7 (sh_O h0 9 (by decide) rfl), b1_s, h.2.2.2.1.1, if_pos (nI_le (Nat.le_refl _) (by omega))]
  rw [nI_0] at this
  exact this
theorem r_shy1 {s : St} {M : MM} (hw : WF s) (h : RR s M) : f_X12_shyOnes 143 M = some (orB (shyB s) (zP s), M) := by
  have h0 := h.1
  have hP := hw.1.1
  unfold f_X12_shyOnes f_X12_shyOnes_0
  rw [if_pos (sh_O h0 12 (by decide) rfl)]
  have this : f_X12_shyOnes_4 1024 143 (orB (shyB s) 0) (nI 0) M = some (orB (shyB s) (zP s), M) := by
    refine lpv (fun f k => f_X12_shyOnes_4 f 143 (orB (shyB s) k) (nI k) M) (zP s) _ (fun f k hk => Or.inl ?_) (fun f => ?_) 1024 0 (by omega) (by omega)
    · show f_X12_shyOnes_4 (f + 1) _ _ _ _ = _
      have hs := hw.2.1.1 k hk
      rw [f_X12_shyOnes_4, gI_k 3 (sh_O h0 12 (by decide) rfl), b1_s, h.2.2.2.1.1, if_neg (nI_ge hk (by omega)), sh_R h0 (a := 143) (k := 7) (b := 145) 12 (by decide) rfl (by decide), b1_s, lr_shy h0 h.2.2.2.1 hw.1 hk, b1_s]
      unfold f_X12_shyOnes_29 shyB
      rw [orB_s]
      by_cases hz : zshy s k = 0
      · rw [if_pos (by rw [hz]; rfl), bn_s, bn_s, nI_1, decide_eq_false (by omega)]; rfl
      · rw [if_neg (nI_ne0 (by omega) (by omega)), bn_s, bn_s, nI_1, decide_eq_true (by omega)]; rfl
    · show f_X12_shyOnes_4 (f + 1) _ _ _ _ = _
      rw [f_X12_shyOnes_4, gI_k 3 (sh_O h0 12 (by decide) rfl), b1_s, h.2.2.2.1.1, if_pos (nI_le (Nat.le_refl _) (by omega))]
  rw [nI_0] at this
  exact this
theorem some_if {c : Prop} [Decidable c] {a b : Int32} {M : MM} : (if c then some (a, M) else some (b, M)) = some (if c then a else b, M) := by split <;> rfl
theorem C_count {s : St} (hw : WF s) (x : Int32) : OpC (fun M => f_X11_count 0 x M) s (a_count s x) (n_count s x) := by
  intro M h
  have h0 := h.1
  refine ⟨M, ?_, h, Fr.rf M⟩
  show f_X11_count 0 x M = _
  unfold f_X11_count f_X11_count_0 a_count
  rw [if_pos (sh_O h0 11 (by decide) rfl), sh_R h0 (a := 0) (k := 2) (b := 5) 11 (by decide) rfl (by decide), sh_R h0 (a := 0) (k := 3) (b := 14) 11 (by decide) rfl (by decide), sh_R h0 (a := 0) (k := 9) (b := 92) 11 (by decide) rfl (by decide), sh_R h0 (a := 0) (k := 10) (b := 133) 11 (by decide) rfl (by decide), sh_R h0 (a := 0) (k := 1) (b := 3) 11 (by decide) rfl (by decide), sh_R h0 (a := 0) (k := 0) (b := 1) 11 (by decide) rfl (by decide)]
  simp only [b1_s]
  rw [gI_k 7 (sh_O h0 9 (by decide) rfl), gI_k 8 (sh_O h0 9 (by decide) rfl), gI_k 9 (sh_O h0 9 (by decide) rfl), c_size (h.cx hw), c_shy1 hw h, gI_k 4 (sh_O h0 4 (by decide) rfl), gI_k 4 (sh_O h0 8 (by decide) rfl), gI_k 1 (sh_O h0 6 (by decide) rfl), gI_k 1 (sh_O h0 10 (by decide) rfl)]
  simp only [b1_s, b2_s, h.2.2.2.1.1, h.2.2.2.1.2.1, h.2.2.2.1.2.2.1, h.2.2.2.2.2.2.1.1, h.2.2.2.2.2.2.2.2.1, h.2.2.1.1, h.2.1.1, some_if]
theorem R_count {s : St} (hw : WF s) (x : Int32) : OpR (fun M => f_X12_count 143 x M) s (a_count s x) (n_count s x) := by
  intro M h
  obtain ⟨N, et, ht, ft, rt, t0, l0⟩ := r_thr0 h
  have h0 := ht.1
  have hO := sh_O h0 (a := 143) 12 (by decide) rfl
  refine ⟨N, ?_, ht, ft, rt⟩
  show f_X12_count 143 x M = _
  unfold f_X12_count f_X12_count_0 a_count
  rw [if_pos (sh_O h.1 12 (by decide) rfl), et, b1_s, sh_R h0 (a := 143) (k := 15) (b := 153) 12 (by decide) rfl (by decide), b1_s, gI_k 3 hO, gI_k 4 hO, gI_k 6 hO, r_size (ht.rx hw), r_shy1 hw ht, gI_k 33 hO, gI_k 51 hO, gI_k 1 hO, gI_k 18 hO]
  simp only [b1_s, b2_s, ht.2.2.2.1.1, ht.2.2.2.1.2.1, ht.2.2.2.1.2.2.1, ht.2.2.2.2.2.2.1.1, ht.2.2.2.2.2.2.2.2.1, ht.2.2.1.1, ht.2.1.1, some_if]
theorem case_46 : CaseOK g_L_46 := by
  intro L xs j K M hL hj hc
  obtain ⟨s, hw, hc, hr⟩ := hc
  obtain ⟨M1, M2, hcp, e1, e2⟩ := asm (C_count hw (xs (j + 1))) (R_count hw (xs (j + 1))) (W_count hw (xs (j + 1))) hc hr
  refine ⟨M2, hcp, ?_⟩
  unfold g_L_46
  simp only [show (nI j + 1 : Int32) = nI (j + 1) from nI_add _ 1, show (nI j + 2 : Int32) = nI (j + 2) from nI_add _ 2, show (nI j + 3 : Int32) = nI (j + 3) from nI_add _ 3, show (nI j + 4 : Int32) = nI (j + 4) from nI_add _ 4, scr_k (show j + 1 < L by omega) hL, scr_k (show j + 2 < L by omega) hL, scr_k (show j + 3 < L by omega) hL, scr_k (show j + 4 < L by omega) hL, b1_s, e1, e2, b2_s, if_true]
/-! keep -/
def zsk (s : St) (i : Nat) : St := (uF s.1 13 i 1, s.2.1, s.2.2.1, s.2.2.2.1, s.2.2.2.2.1, fun j => if j = i then s.2.2.2.1 else s.2.2.2.2.2 j)
def a_keep (s : St) (x : Int32) : Int32 := if ixP x 3 = true then 1 else 0
def n_keep (s : St) (x : Int32) : St := if ixP x 3 = true then zsk s x.toNatClampNeg else s
theorem W_keep {s : St} (hw : WF s) (x : Int32) : WF (n_keep s x) := by
  unfold n_keep
  split
  · obtain ⟨a, b, c, d, e⟩ := hw
    refine ⟨a, b, c, d, e.1, e.2.1, fun j hj => ?_⟩
    show okPl _ _ (if j = _ then _ else _)
    split
    · exact e.1
    · exact e.2.2 j hj
  · exact hw
theorem ix3 {v : Int32} : (¬ v < 0 ∧ v < 3) ↔ ixP v 3 = true := ix_t.symm
theorem C_keep {s : St} (hw : WF s) (x : Int32) : OpC (fun M => f_X11_keep 0 x M) s (a_keep s x) (n_keep s x) := by
  intro M h
  have h0 := h.1
  show ∃ M', f_X11_keep 0 x M = _ ∧ _
  unfold f_X11_keep f_X11_keep_0 f_X4_store f_X4_store_0
  rw [if_pos (sh_O h0 11 (by decide) rfl), sh_R h0 (a := 0) (k := 9) (b := 92) 11 (by decide) rfl (by decide), b1_s, sh_R h0 (a := 0) (k := 3) (b := 14) 11 (by decide) rfl (by decide), b1_s, sh_R h0 (a := 0) (k := 2) (b := 5) 11 (by decide) rfl (by decide), b1_s, if_pos (sh_O h0 4 (by decide) rfl)]
  by_cases hc : ixP x 3 = true
  · obtain ⟨i, hi, rfl⟩ := ix_ex (by decide) hc
    obtain ⟨M1, e1, p1, f1, r1⟩ := c_copy h0 (PA127 i hi) PA14 (by omega) h.2.2.2.2.1 hw.2.2.2.2.1.1
    have s1 := f1.sh' r1 h0
    have f1' := f1
    have hH := h.2.2.2.1.fr f1 (fun a k q => by unfold wPl; omega)
    have hR : ldR 24 94 (nI i) M = some (127 + 2 * i) := by
      rw [ldR_k (sh_O h0 24 (by decide) rfl) (sh_N h0 3 (by decide) rfl) hi (by decide)]
      match i, hi with
      | 0, _ => exact h0.2.2 (94, 0, 127) (by decide)
      | 1, _ => exact h0.2.2 (94, 1, 129) (by decide)
      | 2, _ => exact h0.2.2 (94, 2, 131) (by decide)
      | n + 3, h => omega
    have fa : Fr (fun a k => wPl (127 + 2 * i) a k ∨ (a = 95 ∧ k = i) ∨ (a = 96 ∧ k = i)) M M1 := f1.mono (fun a k q => Or.inl q)
    have f2 : Fr (fun a k => wPl (127 + 2 * i) a k ∨ (a = 95 ∧ k = i) ∨ (a = 96 ∧ k = i)) M (sI (sI M1 95 i (nI (zP s))) 96 i (nI (zE s))) := (fa.sI (Or.inr (Or.inl ⟨rfl, rfl⟩))).sI (Or.inr (Or.inr ⟨rfl, rfl⟩))
    refine ⟨sI (sI M1 95 i (nI (zP s))) 96 i (nI (zE s)), ?_, ?_, f2.mono (fun a k q => by unfold wPl at q; unfold cW; omega)⟩
    · rw [if_neg (nI_pos (by omega)), if_pos (show nI i < (3 : Int32) from nI_lt hi (by decide)), sh_R h0 (a := 92) (k := 1) (b := 94) 4 (by decide) rfl (by decide), b1_s, hR, b1_s, e1, b1_s, sh_R s1 (a := 92) (k := 2) (b := 95) 4 (by decide) rfl (by decide), b1_s, gI_k 7 (sh_O s1 9 (by decide) rfl), b1_s, hH.1, st_95 s1 _ hi, b1_s, sh_R (M := sI M1 95 i (nI (zP s))) s1 (a := 92) (k := 3) (b := 96) 4 (by decide) rfl (by decide), b1_s, gI_k 8 (sh_O (M := sI M1 95 i (nI (zP s))) s1 9 (by decide) rfl), b1_s, mI_w, if_neg (by omega), hH.2.1, st_96 (M := sI M1 95 i (nI (zP s))) s1 _ hi, b1_s, rz1, b2_s, rz1, show a_keep s (nI i) = 1 from if_pos hc]
    · rw [show n_keep s (nI i) = zsk s i by unfold n_keep; rw [if_pos hc, nI_clamp (by omega)]]
      refine ⟨s1, (h.2.1.fr f2 (fun a k q => by unfold wPl; omega)), (h.2.2.1.fr f2 (fun a k q => by unfold wPl; omega)), (h.2.2.2.1.fr f2 (fun a k q => by unfold wPl; omega)), (h.2.2.2.2.1.frw f2 (fun a k q => by unfold wPl; omega)), (h.2.2.2.2.2.1.fr f2 (fun a k q => by unfold wPl; omega)), (h.2.2.2.2.2.2.1.fr f2 (fun a k q => by unfold wPl; omega)), fun j hj => ?_, (h.2.2.2.2.2.2.2.2.fr f2 (fun a k q => by unfold wPl; omega))⟩
      have hk := h.2.2.2.2.2.2.2.1 j hj
      show PL _ _ (if j = i then zplan s else zkep s j) ∧ ((uF s.1 13 i 1 13 j = 1 ∧ _ = nI (zP s) ∧ _ = nI (zE s)) ∨ (uF s.1 13 i 1 13 j = 0 ∧ (_ ∨ ∃ a b, a ≤ zP s ∧ b ≤ zE s ∧ ¬ (a = zP s ∧ b = zE s) ∧ _ ∧ _)))
      by_cases hji : j = i
      · subst hji
        rw [if_pos rfl]
        refine ⟨p1.fr (by rw [mI_w, if_neg (by omega), mI_w, if_neg (by omega)]) (fun k _ => by rw [mI_w, if_neg (by omega), mI_w, if_neg (by omega)]), Or.inl ⟨if_pos ⟨rfl, rfl⟩, ?_, ?_⟩⟩
        · rw [mI_w, if_neg (by omega), mI_w, if_pos ⟨rfl, rfl⟩]
        · rw [mI_w, if_pos ⟨rfl, rfl⟩]
      · rw [if_neg hji, show uF s.1 13 i 1 13 j = zkv s j from if_neg (fun q => hji q.2), f2.2.2.1 95 j (by unfold wPl; omega), f2.2.2.1 96 j (by unfold wPl; omega)]
        exact ⟨hk.1.frw f2 (fun a k q => by unfold wPl; omega), hk.2⟩
  · refine ⟨M, ?_, by rw [show n_keep s x = s from if_neg hc]; exact h, Fr.rf M⟩
    rw [show a_keep s x = 0 from if_neg hc]
    by_cases h1 : x < 0
    · rw [if_pos h1, rz0, b2_s, rz0]
    · rw [if_neg h1, if_neg (fun q => hc (ix3.mp ⟨h1, q⟩)), rz0, b2_s, rz0]
theorem R_keep {s : St} (hw : WF s) (x : Int32) : OpR (fun M => f_X12_keep 143 x M) s (a_keep s x) (n_keep s x) := by
  intro M h
  obtain ⟨N, et, ht, ft, rt, t0, l0⟩ := r_thr0 h
  have h0 := ht.1
  have hO := sh_O h0 (a := 143) 12 (by decide) rfl
  show ∃ M', f_X12_keep 143 x M = _ ∧ _
  unfold f_X12_keep f_X12_keep_0
  rw [if_pos (sh_O h.1 12 (by decide) rfl), et, b1_s, show f_X12_in x.toInt64 0 2 N = some (if ixP x 3 = true then 1 else 0, N) from e_in0n _ 3 (by decide) N, b2_s]
  by_cases hc : ixP x 3 = true
  · obtain ⟨i, hi, rfl⟩ := ix_ex (by decide) hc
    obtain ⟨c, k1, k2, hk⟩ := ht.2.2.2.2.2.2.2.1
    have s1 : Sh (sI (sI N 180 i 1) 181 i (nI c)) := h0
    obtain ⟨M1, f', e, cy⟩ := lcp (fun f k N => f_X12_keep_38 f 143 (nI i) (nI k) N) 182 (46 * i) 46 (fun k => mI N 153 k) (sI (sI N 180 i 1) 181 i (nI c)) (fun f k N2 hk hc => by
      show f_X12_keep_38 (f + 1) _ _ _ _ = _
      have hN := hc.sh s1
      rw [f_X12_keep_38, if_neg (show ¬ (46 : Int32) ≤ nI k from nI_ge hk (by decide)), sh_R hN (a := 143) (k := 58) (b := 182) 12 (by decide) rfl (by decide), b1_s, sh_R hN (a := 143) (k := 15) (b := 153) 12 (by decide) rfl (by decide), b1_s, ld_153 hN hk, b1_s, n46m, nI_add, st_182 hN _ (by omega), b1_s, bn_s, nI_1, hc.2.2.2.2, if_neg (by omega), mI_w, if_neg (by omega), mI_w, if_neg (by omega)]) (by decide)
    have fa : Fr (fun a k => (a = 180 ∧ k = i) ∨ (a = 181 ∧ k = i) ∨ (a = 182 ∧ 46 * i ≤ k ∧ k < 46 * i + 46)) N (sI (sI N 180 i 1) 181 i (nI c)) := ((Fr.rf N).sI (Or.inl ⟨rfl, rfl⟩)).sI (Or.inr (Or.inl ⟨rfl, rfl⟩))
    have f2 : Fr (fun a k => (a = 180 ∧ k = i) ∨ (a = 181 ∧ k = i) ∨ (a = 182 ∧ 46 * i ≤ k ∧ k < 46 * i + 46)) N M1 := fa.tr (cy.frm.mono (fun _ _ q => Or.inr (Or.inr q)))
    refine ⟨M1, ?_, ?_, ft.tr (f2.mono (fun a k q => by unfold rW; omega)), cy.2.2.2.1.trans rt⟩
    · rw [if_pos hc, if_neg (by decide), sh_R h0 (a := 143) (k := 56) (b := 180) 12 (by decide) rfl (by decide), b1_s, st_180 h0 _ hi, b1_s, nz1, sh_R (M := sI N 180 i 1) h0 (a := 143) (k := 57) (b := 181) 12 (by decide) rfl (by decide), b1_s, gI_k 5 (sh_O (M := sI N 180 i 1) h0 12 (by decide) rfl), b1_s, mI_w, if_neg (by omega), k2, st_181 (M := sI N 180 i 1) h0 _ hi, b1_s, show a_keep s (nI i) = 1 from if_pos hc, ← nI_0]
      refine e.trans ?_
      show f_X12_keep_38 (f' + 1) _ _ _ _ = _
      rw [f_X12_keep_38, if_pos (show (46 : Int32) ≤ nI 46 from nI_le (Nat.le_refl 46) (by decide)), rz1]
    · rw [show n_keep s (nI i) = zsk s i by unfold n_keep; rw [if_pos hc, nI_clamp (by omega)]]
      refine ⟨cy.sh s1, (ht.2.1.fr f2 (fun a k q => by omega)), (ht.2.2.1.fr f2 (fun a k q => by omega)), (ht.2.2.2.1.fr f2 (fun a k q => by omega)), (ht.2.2.2.2.1.frw f2 (fun a k q => by omega)), (ht.2.2.2.2.2.1.fr f2 (fun a k q => by omega)), (ht.2.2.2.2.2.2.1.fr f2 (fun a k q => by omega)), ⟨c, k1, ?_, fun j hj => ?_⟩, (ht.2.2.2.2.2.2.2.2.fr f2 (fun a k q => by omega))⟩
      · rw [f2.2.2.1 143 5 (by omega)]; exact k2
      · have hk := hk j hj
        show PR _ _ _ (if j = i then zplan s else zkep s j) ∧ ((uF s.1 13 i 1 13 j = 1 ∧ _ ∧ _) ∨ (uF s.1 13 i 1 13 j = 0 ∧ (_ ∨ ∃ a, a < c ∧ _ ∧ _)))
        by_cases hji : j = i
        · subst hji
          rw [if_pos rfl]
          refine ⟨ht.2.2.2.2.1.cp (by have := hw.2.2.2.2.1.1; omega) (fun k hk => ?_), Or.inl ⟨if_pos ⟨rfl, rfl⟩, ?_, ?_⟩⟩
          · rw [cy.2.2.2.2, if_pos ⟨rfl, by omega, by omega⟩]
            show mI N 153 (46 * j + k - 46 * j) = _
            rw [show 46 * j + k - 46 * j = k by omega, Nat.zero_add]
          · rw [cy.2.2.2.2, if_neg (by omega), mI_w, if_neg (by omega), mI_w, if_pos ⟨rfl, rfl⟩]
          · rw [cy.2.2.2.2, if_neg (by omega), mI_w, if_pos ⟨rfl, rfl⟩]
        · rw [if_neg hji, show uF s.1 13 i 1 13 j = zkv s j from if_neg (fun q => hji q.2), f2.2.2.1 180 j (by omega), f2.2.2.1 181 j (by omega)]
          exact ⟨hk.1.cp (by have := (hw.2.2.2.2.2.2 j hj).1; omega) (fun k hk => f2.2.2.1 182 _ (by omega)), hk.2⟩
  · refine ⟨N, ?_, by rw [show n_keep s x = s from if_neg hc]; exact ht, ft, rt⟩
    rw [show a_keep s x = 0 from if_neg hc, if_neg hc, if_pos rfl, rz0]
theorem case_44 : CaseOK g_L_44 := by
  intro L xs j K M hL hj hc
  obtain ⟨s, hw, hc, hr⟩ := hc
  obtain ⟨M1, M2, hcp, e1, e2⟩ := asm (C_keep hw (xs (j + 1))) (R_keep hw (xs (j + 1))) (W_keep hw (xs (j + 1))) hc hr
  refine ⟨M2, hcp, ?_⟩
  unfold g_L_44
  simp only [show (nI j + 1 : Int32) = nI (j + 1) from nI_add _ 1, show (nI j + 2 : Int32) = nI (j + 2) from nI_add _ 2, show (nI j + 3 : Int32) = nI (j + 3) from nI_add _ 3, show (nI j + 4 : Int32) = nI (j + 4) from nI_add _ 4, scr_k (show j + 1 < L by omega) hL, scr_k (show j + 2 < L by omega) hL, scr_k (show j + 3 < L by omega) hL, scr_k (show j + 4 < L by omega) hL, b1_s, e1, e2, b2_s, if_true]

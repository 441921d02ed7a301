/-! parts -/
def paF (T : Nat → Nat) (l m0 : Nat) : Nat → Nat → Nat → Nat → Nat → Option Nat × Nat
  | 0, a, _, _, _ => (none, a)
  | j + 1, a, A, S, m => match nmO T l a 2 with
    | none => (none, a)
    | some v => if l ≤ nmA T l a 2 then (some (A + (v - m0) + (S + min v m0 - m0 * m)), nmA T l a 2) else if tkB T l (nmA T l a 2) 44 = true then paF T l m0 j (nmA T l a 2 + 1) (A + (v - m0)) (S + min v m0) (m + 1) else (none, nmA T l a 2)
theorem paF_s (T : Nat → Nat) (l m0 j a A S m : Nat) : paF T l m0 (j + 1) a A S m = match nmO T l a 2 with
    | none => (none, a)
    | some v => if l ≤ nmA T l a 2 then (some (A + (v - m0) + (S + min v m0 - m0 * m)), nmA T l a 2) else if tkB T l (nmA T l a 2) 44 = true then paF T l m0 j (nmA T l a 2 + 1) (A + (v - m0)) (S + min v m0) (m + 1) else (none, nmA T l a 2) := rfl
def paR (s : St) : Option Nat × Nat := paF (ztap s) (zL s) (zT s) 6 0 0 0 0
def paA (r : Option Nat × Nat) : Int32 := match r.1 with
  | none => -1 - nI r.2
  | some w => if w = 0 then 1 else 0
def paN (s : St) (r : Option Nat × Nat) : St := match r.1 with
  | none => s
  | some w => zsrow s (rowOf [Int32.toInt64 (nI w)])
def a_parts (s : St) : Int32 := paA (paR s)
def n_parts (s : St) : St := paN (z0 s) (paR s)
theorem W_parts {s : St} (hw : WF s) : WF (n_parts s) := by
  unfold n_parts paN
  split
  · exact W_z0 hw
  · exact WF_row (W_z0 hw) (by show 1 ≤ 8; decide)
theorem max0 {a b : Nat} (ha : a < 100000) (hb : b < 100000) : maxI 0 (nI a - nI b) = nI (a - b) := by
  unfold maxI
  by_cases h : b < a
  · rw [pk_sub (by omega), if_pos (show (0 : Int32) < nI (a - b) from nI_lt (a := 0) (by omega) (by omega))]
  · rw [if_neg, show a - b = 0 by omega]
    · rfl
    · rw [fa_lt, fb_subI (by rw [nI_toInt (by omega), nI_toInt (by omega)]; omega) (by rw [nI_toInt (by omega), nI_toInt (by omega)]; omega), nI_toInt (by omega), nI_toInt (by omega), show (0 : Int32).toInt = 0 from by decide]
      omega
theorem nm_none {T : Nat → Nat} {l a k : Nat} (h : nmO T l a k = none) : nmA T l a k = a := by
  unfold nmO at h
  unfold nmA
  split at h
  · cases h
  · rename_i g; rw [if_neg g]
theorem c_parts {s : St} {T : Nat → Nat} {n l : Nat} (hw : WF s) (hln : l = n) : ∀ (j m a A S f : Nat) (N : MM), m + j = 6 → j < f → A ≤ 100 * m → S ≤ 100 * m → TC s T n l a N → ∃ N', f_X11_parts_15 f 0 (nI A) (nI S) (nI (m + 1)) N = some (paA (paF T l (zT s) j a A S m), N') ∧ RC (paN s (paF T l (zT s) j a A S m)) N' ∧ Fr cW N N'
  | 0, m, a, A, S, f, N, hj, hf, hA, hS, h => by
    cases f with
    | zero => omega
    | succ f =>
      refine ⟨N, ?_, h.1, Fr.rf N⟩
      rw [f_X11_parts_15, if_pos (show (6 : Int32) < nI (m + 1) from nI_lt (a := 6) (by omega) (by omega)), sh_R h.1.1 (a := 0) (k := 0) (b := 1) 11 (by decide) rfl (by decide), b1_s, tc_ref h, b2_s]
      rfl
  | j + 1, m, a, A, S, f, N, hj, hf, hA, hS, h => by
    have hT := hw.1.2.2.2.1
    cases f with
    | zero => omega
    | succ f =>
      obtain ⟨b1', b2', b3', b4'⟩ := h.2.2.2.2.2
      obtain ⟨N1, e1, c1, f1, r1⟩ := tc_num h (k := 2) (by decide) (by decide)
      have R0 := sh_R c1.1.1 (a := 0) (k := 0) (b := 1) 11 (by decide) rfl (by decide)
      have R2 := sh_R c1.1.1 (a := 0) (k := 2) (b := 5) 11 (by decide) rfl (by decide)
      have hnA := nmA_b (T := T) (k := 2) b3'
      rw [f_X11_parts_15, if_neg (show ¬ (6 : Int32) < nI (m + 1) from nI_nlt (a := 6) (by omega) (by decide)), sh_R h.1.1 (a := 0) (k := 0) (b := 1) 11 (by decide) rfl (by decide), b1_s, show (2 : Int32) = nI 2 from rfl, e1, b2_s, paF_s]
      cases hv : nmO T l a 2 with
      | none =>
        rw [nm_none hv] at c1
        refine ⟨N1, ?_, c1.1, w14_cW f1⟩
        show (if (0 : Int32) ≤ -1 then _ else _) = _
        rw [if_neg (by decide), R0, b1_s, tc_ref c1, b2_s]
        rfl
      | some v =>
        have hvb : v < 100 := nmO_b b3' hv
        show ∃ N', (if (0 : Int32) ≤ nI v then _ else _) = _ ∧ _
        rw [if_pos (nI_pos' (by omega)), R2, b1_s, gI_k 9 (sh_O c1.1.1 9 (by decide) rfl), b1_s, c1.1.2.2.2.1.2.2.1]
        show ∃ N', bn (nI A + maxI 0 (nI v - nI (zT s))) _ = _ ∧ _
        rw [max0 (by omega) (by omega), nI_add, bn_s, b1_s, gI_k 9 (sh_O c1.1.1 9 (by decide) rfl), b1_s, c1.1.2.2.2.1.2.2.1]
        show ∃ N', bn (nI S + minI (nI v) (nI (zT s))) _ = _ ∧ _
        rw [minI_n (by omega) (by omega), nI_add, bn_s, R0, b1_s, tc_end c1, b2_s]
        show ∃ N', _ = some (paA (if l ≤ nmA T l a 2 then _ else _), N') ∧ RC (paN s (if l ≤ nmA T l a 2 then _ else _)) N' ∧ _
        by_cases hend : l ≤ nmA T l a 2
        · have hprod : zT s * m ≤ 99 * 6 := Nat.mul_le_mul hT (by omega)
          obtain ⟨N2, e2, w2, f2, r2⟩ := c_one c1.1.1 (Int32.toInt64 (nI (A + (v - zT s) + (S + min v (zT s) - zT s * m))))
          rw [decide_eq_true hend, if_neg (show ¬ bI true = 0 by decide), if_pos hend, R2, b1_s, gI_k 9 (sh_O c1.1.1 9 (by decide) rfl), b1_s, c1.1.2.2.2.1.2.2.1]
          refine ⟨N2, ?_, c1.1.row f2 r2 w2, (w14_cW f1).tr (wRow_cW f2)⟩
          have ev : nI (A + (v - zT s)) + maxI 0 (nI (S + min v (zT s)) - nI (zT s) * (nI (m + 1) - 1)) = nI (A + (v - zT s) + (S + min v (zT s) - zT s * m)) := by
            rw [nS1 (by omega), Nat.add_sub_cancel, pk_mul, max0 (by omega) (by omega), nI_add]
          show bn (nI (A + (v - zT s)) + maxI 0 (nI (S + min v (zT s)) - nI (zT s) * (nI (m + 1) - 1))) _ = _
          rw [ev, bn_s, sh_R c1.1.1 (a := 0) (k := 1) (b := 3) 11 (by decide) rfl (by decide), b1_s, e2, b1_s]
          show _ = some (if A + (v - zT s) + (S + min v (zT s) - zT s * m) = 0 then 1 else 0, N2)
          by_cases hz : A + (v - zT s) + (S + min v (zT s) - zT s * m) = 0
          · rw [hz, nI_0, if_pos rfl, if_pos rfl]
          · rw [if_neg (nI_ne0 (by omega) (by omega)), if_neg hz]
        · obtain ⟨N2, e2, c2, f2, r2⟩ := tc_take c1 (c := 44) (by decide)
          rw [decide_eq_false hend, if_pos (show bI false = 0 from rfl), if_neg hend, R0, b1_s, show (44 : Int32) = nI 44 from rfl, e2, b2_s]
          cases htk : tkB T l (nmA T l a 2) 44 with
          | true =>
            rw [htk] at c2
            obtain ⟨N3, e3, c3, f3⟩ := c_parts hw hln j (m + 1) (nmA T l a 2 + 1) (A + (v - zT s)) (S + min v (zT s)) f N2 (by omega) (by omega) (by omega) (by omega) c2
            refine ⟨N3, ?_, by rw [if_pos rfl]; exact c3, ((w14_cW f1).tr (w14_cW f2)).tr f3⟩
            rw [if_neg (show ¬ bI true = 0 by decide), bn_s, nI_1, e3, if_pos rfl]
          | false =>
            rw [htk] at c2
            have c2' : TC s T n l (nmA T l a 2) N2 := c2
            refine ⟨N2, ?_, by rw [if_neg (by decide)]; exact c2.1, (w14_cW f1).tr (w14_cW f2)⟩
            rw [if_pos (show bI false = 0 from rfl), sh_R c2.1.1 (a := 0) (k := 0) (b := 1) 11 (by decide) rfl (by decide), b1_s, tc_ref c2', b2_s, if_neg (by decide)]
            rfl
theorem C_parts {s : St} (hw : WF s) : OpC (fun M => f_X11_parts 0 M) s (a_parts s) (n_parts s) := by
  intro M h
  have hL := hw.1.2.2.2.2.2.2.1
  obtain ⟨M1, e1, c1, f1, r1⟩ := c_begin' hw h (m := 80) (by decide)
  rw [show min (zL s) 80 = zL s by omega] at c1
  obtain ⟨M2, e2, c2, f2⟩ := c_parts (W_z0 hw) rfl 6 0 0 0 0 1024 M1 rfl (by decide) (by decide) (by decide) c1
  refine ⟨M2, ?_, c2, f1.tr f2⟩
  show f_X11_parts 0 M = _
  unfold f_X11_parts f_X11_parts_0
  rw [if_pos (sh_O h.1 11 (by decide) rfl), sh_R h.1 (a := 0) (k := 0) (b := 1) 11 (by decide) rfl (by decide), b1_s, show (80 : Int32) = nI 80 from rfl, e1, b1_s]
  exact e2
theorem r_parts {s : St} {T : Nat → Nat} {n l : Nat} (hw : WF s) (hln : l = n) : ∀ (j m a A S f : Nat) (N : MM), m + j = 6 → j + 1 < f → A ≤ 100 * m → S ≤ 100 * m → TR s T n l a N → ∃ N', f_X12_parts_21 f 143 (nI m) (nI A) (nI S) 1 N = some (paA (paF T l (zT s) j a A S m), N') ∧ RR (paN s (paF T l (zT s) j a A S m)) N' ∧ Fr rW N N' ∧ mR N' = mR N
  | 0, m, a, A, S, f, N, hj, hf, hA, hS, h => by
    cases f with
    | zero => omega
    | succ f =>
      refine ⟨N, ?_, h.1, Fr.rf N, rfl⟩
      unfold f_X12_parts_21 f_X12_parts_41
      rw [if_neg (by decide), if_pos (show (6 : Int32) ≤ nI m from nI_le (a := 6) (by omega) (by omega)), if_neg (by decide), gI_k 19 (tr_O h), b1_s, h.2.2.1]
      rfl
  | j + 1, m, a, A, S, f, N, hj, hf, hA, hS, h => by
    have hT := hw.1.2.2.2.1
    cases f with
    | zero => omega
    | succ f =>
      obtain ⟨b1', b2', b3', b4'⟩ := h.2.2.2.2
      obtain ⟨N1, e1, c1, f1, r1⟩ := tr_num h (k := 2) (by decide) (by decide)
      have hnA := nmA_b (T := T) (k := 2) b3'
      rw [f_X12_parts_21, if_neg (by decide), if_neg (show ¬ (6 : Int32) ≤ nI m from nI_ge (b := 6) (by omega) (by decide)), show (2 : Int32) = nI 2 from rfl, e1, b2_s, paF_s]
      unfold f_X12_parts_41
      cases hv : nmO T l a 2 with
      | none =>
        rw [nm_none hv] at c1
        refine ⟨N1, ?_, c1.1, w19_rW f1, r1⟩
        show (if (0 : Int32) ≤ -1 then _ else _) = _
        rw [if_neg (by decide), gI_k 19 (tr_O c1), b1_s, c1.2.2.1]
        rfl
      | some v =>
        have hvb : v < 100 := nmO_b b3' hv
        obtain ⟨N2, e2, c2, f2, r2⟩ := tr_take c1 (c := 44) (by decide)
        show ∃ N', (if (0 : Int32) ≤ nI v then _ else _) = _ ∧ _
        rw [if_pos (nI_pos' (by omega)), gI_k 6 (tr_O c1), b1_s, c1.1.2.2.2.1.2.2.1]
        show ∃ N', bn (nI A + maxI 0 (nI v - nI (zT s))) _ = _ ∧ _
        rw [max0 (by omega) (by omega), nI_add, bn_s, b1_s]
        show ∃ N', bn (nI S + minI (nI v) (nI (zT s))) _ = _ ∧ _
        rw [minI_n (by omega) (by omega), nI_add, bn_s, bn_s, nI_1, show (44 : Int32) = nI 44 from rfl, e2, b2_s]
        show ∃ N', _ = some (paA (if l ≤ nmA T l a 2 then _ else _), N') ∧ RR (paN s (if l ≤ nmA T l a 2 then _ else _)) N' ∧ _
        by_cases hend : l ≤ nmA T l a 2
        · have hprod : zT s * m ≤ 99 * 6 := Nat.mul_le_mul hT (by omega)
          have htk : tkB T l (nmA T l a 2) 44 = false := decide_eq_false (by omega)
          rw [htk] at c2 ⊢
          have c2' : TR s T n l (nmA T l a 2) N2 := c2
          cases f with
          | zero => omega
          | succ f =>
            obtain ⟨M3, M4, e3, e4, c4, f4, r4⟩ := r_one' c2.1 (Int32.toInt64 (nI (A + (v - zT s) + (S + min v (zT s) - zT s * m))))
            rw [if_pos hend, f_X12_parts_21, if_pos (show bI false = 0 from rfl), gI_k 19 (tr_O c2'), b1_s, gI_k 20 (tr_O c2'), b1_s, c2'.2.1, c2'.2.2.1, if_pos (nI_le hend (by omega)), gI_k 6 (tr_O c2'), b1_s, c2.1.2.2.2.1.2.2.1]
            refine ⟨M4, ?_, c4, ((w19_rW f1).tr (w19_rW f2)).tr (wRoR_rW f4), r4.trans (r2.trans r1)⟩
            have ev : nI (A + (v - zT s)) + maxI 0 (nI (S + min v (zT s)) - nI (zT s) * (nI (m + 1) - 1)) = nI (A + (v - zT s) + (S + min v (zT s) - zT s * m)) := by
              rw [nS1 (by omega), Nat.add_sub_cancel, pk_mul, max0 (by omega) (by omega), nI_add]
            show bn (nI (A + (v - zT s)) + maxI 0 (nI (S + min v (zT s)) - nI (zT s) * (nI (m + 1) - 1))) _ = _
            rw [ev, bn_s, e3, b1_s, e4, b1_s]
            unfold f_X12_parts_153
            show _ = some (if A + (v - zT s) + (S + min v (zT s) - zT s * m) = 0 then 1 else 0, M4)
            by_cases hz : A + (v - zT s) + (S + min v (zT s) - zT s * m) = 0
            · rw [hz, nI_0, if_pos rfl, if_pos rfl, show f_X12_flag 1 M4 = some (1, M4) from e_flag true M4, b2_s]
            · rw [if_neg (nI_ne0 (by omega) (by omega)), if_neg hz, show f_X12_flag 0 M4 = some (0, M4) from e_flag false M4, b2_s]
        · rw [if_neg hend]
          cases htk : tkB T l (nmA T l a 2) 44 with
          | true =>
            rw [htk] at c2
            obtain ⟨N3, e3, c3, f3, r3⟩ := r_parts hw hln j (m + 1) (nmA T l a 2 + 1) (A + (v - zT s)) (S + min v (zT s)) f N2 (by omega) (by omega) (by omega) (by omega) c2
            refine ⟨N3, ?_, by rw [if_pos rfl]; exact c3, ((w19_rW f1).tr (w19_rW f2)).tr f3, r3.trans (r2.trans r1)⟩
            rw [bI_t, e3, if_pos rfl]
          | false =>
            rw [htk] at c2
            have c2' : TR s T n l (nmA T l a 2) N2 := c2
            cases f with
            | zero => omega
            | succ f =>
              refine ⟨N2, ?_, by rw [if_neg (by decide)]; exact c2.1, (w19_rW f1).tr (w19_rW f2), r2.trans r1⟩
              rw [f_X12_parts_21, if_pos (show bI false = 0 from rfl), gI_k 19 (tr_O c2'), b1_s, gI_k 20 (tr_O c2'), b1_s, c2'.2.1, c2'.2.2.1, if_neg (nI_ge (by omega) (by omega)), b1_s, if_neg (by decide)]
              rfl
theorem R_parts {s : St} (hw : WF s) : OpR (fun M => f_X12_parts 143 M) s (a_parts s) (n_parts s) := by
  intro M h
  obtain ⟨N, et, ht, ft, rt, t0, l0⟩ := r_thr0 h
  have hL := hw.1.2.2.2.2.2.2.1
  obtain ⟨M1, e1, c1, n1, f1, r1⟩ := r_begin' hw ht (m := 80) (by decide)
  rw [show min (zL s) 80 = zL s by omega] at c1
  obtain ⟨M2, e2, c2, f2, r2⟩ := r_parts (W_z0 hw) rfl 6 0 0 0 0 1024 M1 rfl (by decide) (by decide) (by decide) c1
  refine ⟨M2, ?_, c2, (ft.tr f1).tr f2, r2.trans (r1.trans rt)⟩
  show f_X12_parts 143 M = _
  unfold f_X12_parts f_X12_parts_0
  rw [if_pos (sh_O h.1 12 (by decide) rfl), et, b1_s, show (80 : Int32) = nI 80 from rfl, e1, b2_s]
  exact e2
theorem case_31 : CaseOK g_L_31 := by
  intro L xs j K M hL hj hc
  obtain ⟨s, hw, hc, hr⟩ := hc
  obtain ⟨M1, M2, hcp, e1, e2⟩ := asm (C_parts hw) (R_parts hw) (W_parts hw) hc hr
  refine ⟨M2, hcp, ?_⟩
  unfold g_L_31
  simp only [show (nI j + 1 : Int32) = nI (j + 1) from nI_add _ 1, show (nI j + 2 : Int32) = nI (j + 2) from nI_add _ 2, show (nI j + 3 : Int32) = nI (j + 3) from nI_add _ 3, show (nI j + 4 : Int32) = nI (j + 4) from nI_add _ 4, scr_k (show j + 1 < L by omega) hL, scr_k (show j + 2 < L by omega) hL, scr_k (show j + 3 < L by omega) hL, scr_k (show j + 4 < L by omega) hL, b1_s, e1, e2, b2_s, if_true]

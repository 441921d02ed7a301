/-! stuck -/
def obN (P : Nat → Bool) : Nat → Nat
  | 0 => 0
  | k + 1 => obN P k + (if P k = true then 2 ^ k else 0)
theorem obN_s (P : Nat → Bool) (k : Nat) : obN P (k + 1) = obN P k + (if P k = true then 2 ^ k else 0) := rfl
theorem obN_lt (P : Nat → Bool) : ∀ n, obN P n < 2 ^ n
  | 0 => by show 0 < 1; decide
  | n + 1 => by have := obN_lt P n; rw [obN_s, Nat.pow_succ]; split <;> omega
theorem shl_p : ∀ k, k < 31 → (1 : Int32) <<< (nI k &&& 31) = nI (2 ^ k) := by decide +kernel
theorem orB_N (P : Nat → Bool) : ∀ n, n ≤ 31 → orB P n = nI (obN P n)
  | 0, _ => rfl
  | n + 1, h => by
    rw [orB_s, orB_N P n (by omega), obN_s]
    cases P n with
    | true =>
      rw [if_pos rfl, if_pos rfl, shl_p n (by omega)]
      have := fa_or_sum (a := obN P n) (k := n) 1 (obN_lt P n)
      rw [Nat.mul_one] at this
      rw [show nI (obN P n) ||| nI (2 ^ n) = nI (2 ^ n) ||| nI (obN P n) from Int32.or_comm .., this, Nat.add_comm]
    | false => rw [if_neg (by decide), if_neg (by decide), Int32.or_zero, Nat.add_zero]
def ntzN (x : Nat) : Nat := if x = 1 then 0 else if x = 2 then 1 else if x = 4 then 2 else if x = 8 then 3 else if x = 16 then 4 else 5
def is1 (x : Nat) : Bool := decide (bcI (nI x) = 1)
theorem is1_c : ∀ x, x < 64 → is1 x = true → x = 1 ∨ x = 2 ∨ x = 4 ∨ x = 8 ∨ x = 16 ∨ x = 32 := by decide +kernel
theorem ntz_e {x : Nat} (hx : x < 64) (h : is1 x = true) (M : MM) : f_J6_numberOfTrailingZeros_0f7a4 (nI x) M = some (nI (ntzN x), M) := by
  rcases is1_c x hx h with rfl | rfl | rfl | rfl | rfl | rfl <;> rfl
theorem ntz_i {x y : Nat} (hx : x < 64) (hy : y < 64) (h1 : is1 x = true) (h2 : is1 y = true) (h : ntzN x = ntzN y) : x = y := by
  rcases is1_c x hx h1 with rfl | rfl | rfl | rfl | rfl | rfl <;> rcases is1_c y hy h2 with rfl | rfl | rfl | rfl | rfl | rfl <;> first | rfl | (exact absurd h (by decide))
theorem ntzN_b (x : Nat) : ntzN x ≤ 5 := by unfold ntzN; repeat' (first | decide | split)
def beN (s : St) (m : Nat) : Nat := obN (fun p => !awF s (zplan s) (zplan s).1 p m) (zP s)
theorem beN_e {s : St} (hP : zP s ≤ 6) (m : Nat) : beB s (zplan s) m = nI (beN s m) := orB_N _ _ (by omega)
theorem beN_lt {s : St} (hP : zP s ≤ 6) (m : Nat) : beN s m < 64 := by
  have h := obN_lt (fun p => !awF s (zplan s) (zplan s).1 p m) (zP s)
  have : 2 ^ zP s ≤ 2 ^ 6 := Nat.pow_le_pow_right (by decide) hP
  show obN _ _ < 64
  omega
def ruS (b : Nat → Nat) : Nat → Nat
  | 0 => 0
  | k + 1 => if is1 (b k) = true then (if 0 < k ∧ b k = b (k - 1) then ruS b k + 1 else 1) else 0
theorem ruS_s (b : Nat → Nat) (k : Nat) : ruS b (k + 1) = if is1 (b k) = true then (if 0 < k ∧ b k = b (k - 1) then ruS b k + 1 else 1) else 0 := rfl
theorem ruS_le (b : Nat → Nat) : ∀ k, ruS b k ≤ k
  | 0 => Nat.le_refl 0
  | k + 1 => by
    have := ruS_le b k
    rw [ruS_s]
    split
    · split <;> omega
    · omega
def smS (b : Nat → Nat) : Nat → Nat × Int32 × Int32
  | 0 => (0, -1, -1)
  | k + 1 => if (smS b k).1 < ruS b (k + 1) then (ruS b (k + 1), nI (ntzN (b k)), nI k - nI (ruS b (k + 1)) + 1) else smS b k
theorem smS_s (b : Nat → Nat) (k : Nat) : smS b (k + 1) = if (smS b k).1 < ruS b (k + 1) then (ruS b (k + 1), nI (ntzN (b k)), nI k - nI (ruS b (k + 1)) + 1) else smS b k := rfl
theorem smS_le (b : Nat → Nat) : ∀ k, (smS b k).1 ≤ k
  | 0 => Nat.le_refl 0
  | k + 1 => by
    have := smS_le b k
    have := ruS_le b (k + 1)
    rw [smS_s]
    split
    · show ruS b (k + 1) ≤ _; omega
    · omega
def a_stuck (s : St) : Int32 := nI (smS (beN s) (zT s)).1
def n_stuck (s : St) : St := zsrow s (rowOf [Int32.toInt64 (smS (beN s) (zT s)).2.1, Int32.toInt64 (smS (beN s) (zT s)).2.2])
theorem W_stuck {s : St} (hw : WF s) : WF (n_stuck s) := WF_row hw (by show 2 ≤ 8; decide)
def thr (s : St) (k : Nat) : Int32 := if k = 0 then 0 else nI (beN s (k - 1))
def lsI (s : St) (k : Nat) : Int32 := if k = 0 then -1 else if is1 (beN s (k - 1)) = true then nI (ntzN (beN s (k - 1))) else -1
theorem is1_0 : is1 0 = false := by decide +kernel
theorem bc1 {x : Nat} : (bcI (nI x) = 1) ↔ is1 x = true := by unfold is1; rw [decide_eq_true_eq]
theorem C_stuck {s : St} (hw : WF s) : OpC (fun M => f_X11_stuck 0 M) s (a_stuck s) (n_stuck s) := by
  intro M h
  have h0 := h.1
  have hT := hw.1.2.2.2.1
  have hP := hw.1.1
  obtain ⟨M1, e1, c1, k1, f1⟩ := c_looked hw h
  have s1 := c1.1
  have x1 := c1.cx hw
  obtain ⟨M2, e2, w2, f2, r2⟩ := c_two s1 (Int32.toInt64 (smS (beN s) (zT s)).2.1) (Int32.toInt64 (smS (beN s) (zT s)).2.2)
  refine ⟨M2, ?_, c1.row f2 r2 w2, f1.tr (wRow_cW f2)⟩
  show f_X11_stuck 0 M = _
  unfold f_X11_stuck f_X11_stuck_0
  rw [if_pos (sh_O h0 11 (by decide) rfl), sh_R h0 (a := 0) (k := 5) (b := 18) 11 (by decide) rfl (by decide), b1_s, e1, b1_s]
  have this : f_X11_stuck_22 1024 0 (nI (ruS (beN s) 0)) (thr s 0) (nI (smS (beN s) 0).1) (smS (beN s) 0).2.1 (smS (beN s) 0).2.2 (nI 0) M1 = some (a_stuck s, M2) := by
    refine lpv (fun f k => f_X11_stuck_22 f 0 (nI (ruS (beN s) k)) (thr s k) (nI (smS (beN s) k).1) (smS (beN s) k).2.1 (smS (beN s) k).2.2 (nI k) M1) (zT s) _ (fun f k hk => Or.inl ?_) (fun f => ?_) 1024 0 (by omega) (by omega)
    · show f_X11_stuck_22 (f + 1) _ _ _ _ _ _ _ _ = _
      have q1 := ruS_le (beN s) k
      have q2 := ruS_le (beN s) (k + 1)
      have q3 := smS_le (beN s) k
      have hb := beN_lt hP k
      have hb' := beN_lt hP (k - 1)
      rw [f_X11_stuck_22, sh_R s1 (a := 0) (k := 2) (b := 5) 11 (by decide) rfl (by decide), b1_s, gI_k 9 (sh_O s1 9 (by decide) rfl), b1_s, c1.2.2.2.1.2.2.1, if_neg (nI_ge hk (by omega)), sh_R s1 (a := 0) (k := 5) (b := 18) 11 (by decide) rfl (by decide), b1_s, c_bench x1 (Or.inl ⟨rfl, rfl⟩) k1 (by omega), b2_s, beN_e hP]
      have th1 : thr s (k + 1) = nI (beN s k) := by unfold thr; rw [if_neg (by omega)]; rfl
      have key75 : ∀ r, r = ruS (beN s) (k + 1) → (is1 (beN s k) = true ∨ r = 0) → f_X11_stuck_75 (f_X11_stuck_22 f) 0 (nI (smS (beN s) k).1) (smS (beN s) k).2.1 (smS (beN s) k).2.2 (nI k) (nI (beN s k)) (nI r) M1 = f_X11_stuck_22 f 0 (nI (ruS (beN s) (k + 1))) (thr s (k + 1)) (nI (smS (beN s) (k + 1)).1) (smS (beN s) (k + 1)).2.1 (smS (beN s) (k + 1)).2.2 (nI (k + 1)) M1 := by
        intro r hr hor
        subst hr
        unfold f_X11_stuck_75 f_X11_stuck_101
        rw [smS_s, th1]
        by_cases hm : (smS (beN s) k).1 < ruS (beN s) (k + 1)
        · have h1 : is1 (beN s k) = true := by
            rcases hor with g | g
            · exact g
            · omega
          rw [if_neg (nI_ge hm (by omega)), ntz_e hb h1, b2_s, bn_s, bn_s, nI_1, if_pos hm]
        · rw [if_pos (nI_le (by omega) (by omega)), bn_s, nI_1, if_neg hm]
      have key56 : ∀ x, (is1 (beN s k) = true → x + 1 = ruS (beN s) (k + 1)) → f_X11_stuck_56 (f_X11_stuck_22 f) 0 (nI (smS (beN s) k).1) (smS (beN s) k).2.1 (smS (beN s) k).2.2 (nI k) (nI (beN s k)) (nI x) M1 = f_X11_stuck_22 f 0 (nI (ruS (beN s) (k + 1))) (thr s (k + 1)) (nI (smS (beN s) (k + 1)).1) (smS (beN s) (k + 1)).2.1 (smS (beN s) (k + 1)).2.2 (nI (k + 1)) M1 := by
        intro x hx
        unfold f_X11_stuck_56
        rw [e_bc, b2_s]
        cases h1 : is1 (beN s k) with
        | true => rw [if_pos (bc1.mpr h1), nI_1]; exact key75 _ (hx h1) (Or.inl h1)
        | false =>
          rw [if_neg (fun g => by rw [bc1.mp g] at h1; cases h1), ← nI_0]
          exact key75 0 (by rw [ruS_s, if_neg (by rw [h1]; decide)]) (Or.inr rfl)
      by_cases hc : nI (beN s k) = thr s k
      · rw [if_pos hc]
        refine key56 _ (fun h1 => ?_)
        rw [ruS_s, if_pos h1]
        unfold thr at hc
        by_cases hk0 : k = 0
        · rw [if_pos hk0] at hc
          rw [show beN s k = 0 from by
            by_cases hz : beN s k = 0
            · exact hz
            · exact absurd hc (nI_ne0 (by omega) (by omega)), is1_0] at h1
          cases h1
        · rw [if_neg hk0, nI_eq (by omega) (by omega)] at hc
          rw [if_pos ⟨by omega, hc⟩]
      · rw [if_neg hc, ← nI_0]
        refine key56 0 (fun h1 => ?_)
        rw [ruS_s, if_pos h1, if_neg]
        rintro ⟨g1, g2⟩
        refine hc ?_
        unfold thr
        rw [if_neg (by omega), g2]
    · show f_X11_stuck_22 (f + 1) _ _ _ _ _ _ _ _ = _
      rw [f_X11_stuck_22, sh_R s1 (a := 0) (k := 2) (b := 5) 11 (by decide) rfl (by decide), b1_s, gI_k 9 (sh_O s1 9 (by decide) rfl), b1_s, c1.2.2.2.1.2.2.1, if_pos (nI_le (Nat.le_refl _) (by omega)), sh_R s1 (a := 0) (k := 1) (b := 3) 11 (by decide) rfl (by decide), b1_s, e2, b1_s]
      rfl
  have z1 : nI (ruS (beN s) 0) = 0 := rfl
  have z2 : nI (smS (beN s) 0).1 = 0 := rfl
  rw [z1, z2, nI_0] at this
  exact this
theorem R_stuck {s : St} (hw : WF s) : OpR (fun M => f_X12_stuck 143 M) s (a_stuck s) (n_stuck s) := by
  intro M h
  obtain ⟨N, et, ht, ft, rt, t0, l0⟩ := r_thr0 h
  have h0 := ht.1
  have hT := hw.1.2.2.2.1
  have hP := hw.1.1
  have hx := ht.rx hw
  have hO := sh_O h0 (a := 143) 12 (by decide) rfl
  obtain ⟨M1, M2, M3, e1, e2, e3, c3, f3, r3⟩ := r_two' ht (Int32.toInt64 (smS (beN s) (zT s)).2.1) (Int32.toInt64 (smS (beN s) (zT s)).2.2)
  refine ⟨M3, ?_, c3, ft.tr (wRoR_rW f3), r3.trans rt⟩
  show f_X12_stuck 143 M = _
  unfold f_X12_stuck f_X12_stuck_0
  rw [if_pos (sh_O h.1 12 (by decide) rfl), et, b1_s]
  have this : f_X12_stuck_20 1024 143 (nI (smS (beN s) 0).1) (smS (beN s) 0).2.1 (smS (beN s) 0).2.2 (lsI s 0) (nI (ruS (beN s) 0)) (nI 0) N = some (a_stuck s, M3) := by
    refine lpv (fun f k => f_X12_stuck_20 f 143 (nI (smS (beN s) k).1) (smS (beN s) k).2.1 (smS (beN s) k).2.2 (lsI s k) (nI (ruS (beN s) k)) (nI k) N) (zT s) _ (fun f k hk => Or.inl ?_) (fun f => ?_) 1024 0 (by omega) (by omega)
    · show f_X12_stuck_20 (f + 1) _ _ _ _ _ _ _ _ = _
      have q1 := ruS_le (beN s) k
      have q2 := ruS_le (beN s) (k + 1)
      have q3 := smS_le (beN s) k
      have hb := beN_lt hP k
      have hb' := beN_lt hP (k - 1)
      have nb := ntzN_b (beN s k)
      have nb' := ntzN_b (beN s (k - 1))
      rw [f_X12_stuck_20, gI_k 6 hO, b1_s, ht.2.2.2.1.2.2.1, if_neg (nI_ge hk (by omega)), sh_R h0 (a := 143) (k := 15) (b := 153) 12 (by decide) rfl (by decide), b1_s, r_bench hx (by omega), b2_s, beN_e hP, e_bc, b2_s]
      have key85 : ∀ r y, r = ruS (beN s) (k + 1) → y = lsI s (k + 1) → (is1 (beN s k) = true ∨ r = 0) → f_X12_stuck_85 (f_X12_stuck_20 f) 143 (nI (smS (beN s) k).1) (smS (beN s) k).2.1 (smS (beN s) k).2.2 (nI k) y (nI r) N = f_X12_stuck_20 f 143 (nI (smS (beN s) (k + 1)).1) (smS (beN s) (k + 1)).2.1 (smS (beN s) (k + 1)).2.2 (lsI s (k + 1)) (nI (ruS (beN s) (k + 1))) (nI (k + 1)) N := by
        intro r y hr hy hor
        subst hr
        subst hy
        unfold f_X12_stuck_85 f_X12_stuck_111
        rw [smS_s]
        by_cases hm : (smS (beN s) k).1 < ruS (beN s) (k + 1)
        · have h1 : is1 (beN s k) = true := by
            rcases hor with g | g
            · exact g
            · omega
          have el : lsI s (k + 1) = nI (ntzN (beN s k)) := by unfold lsI; rw [if_neg (by omega)]; show (if is1 (beN s k) = true then _ else _) = _; rw [if_pos h1]; rfl
          rw [if_neg (nI_ge hm (by omega)), bn_s, bn_s, nI_1, if_pos hm, el]
        · rw [if_pos (nI_le (by omega) (by omega)), bn_s, nI_1, if_neg hm]
      cases h1 : is1 (beN s k) with
      | false =>
        rw [if_neg (fun g => by rw [bc1.mp g] at h1; cases h1)]
        unfold f_X12_stuck_59
        rw [if_neg (by decide), ← nI_0]
        refine key85 0 _ (by rw [ruS_s, if_neg (by rw [h1]; decide)]) ?_ (Or.inr rfl)
        unfold lsI
        rw [if_neg (by omega)]
        show _ = (if is1 (beN s k) = true then _ else _)
        rw [if_neg (by rw [h1]; decide)]
      | true =>
        have el : nI (ntzN (beN s k)) = lsI s (k + 1) := by unfold lsI; rw [if_neg (by omega)]; show _ = (if is1 (beN s k) = true then _ else _); rw [if_pos h1]; rfl
        rw [if_pos (bc1.mpr h1), ntz_e hb h1, b2_s]
        unfold f_X12_stuck_59
        rw [if_pos (nI_pos' (by omega))]
        by_cases hc : nI (ntzN (beN s k)) = lsI s k
        · rw [if_pos hc, nI_1]
          refine key85 _ _ ?_ el (Or.inl h1)
          rw [ruS_s, if_pos h1]
          unfold lsI at hc
          by_cases hk0 : k = 0
          · rw [if_pos hk0] at hc; exact absurd hc (nI_m1 (by omega))
          · rw [if_neg hk0] at hc
            by_cases h2 : is1 (beN s (k - 1)) = true
            · rw [if_pos h2, nI_eq (by omega) (by omega)] at hc
              rw [if_pos ⟨by omega, ntz_i hb hb' h1 h2 hc⟩]
            · rw [if_neg h2] at hc; exact absurd hc (nI_m1 (by omega))
        · rw [if_neg hc, show (1 : Int32) = nI 1 from rfl]
          refine key85 1 _ ?_ el (Or.inl h1)
          rw [ruS_s, if_pos h1, if_neg]
          rintro ⟨g1, g2⟩
          refine hc ?_
          unfold lsI
          rw [if_neg (by omega), ← g2, if_pos h1]
    · show f_X12_stuck_20 (f + 1) _ _ _ _ _ _ _ _ = _
      rw [f_X12_stuck_20, gI_k 6 hO, b1_s, ht.2.2.2.1.2.2.1, if_pos (nI_le (Nat.le_refl _) (by omega)), e1, b1_s, e2, b1_s, e3, b1_s]
      rfl
  have z1 : nI (ruS (beN s) 0) = 0 := rfl
  have z2 : nI (smS (beN s) 0).1 = 0 := rfl
  rw [z1, z2, nI_0] at this
  exact this
theorem case_23 : CaseOK g_L_23 := by
  intro L xs j K M hL hj hc
  obtain ⟨s, hw, hc, hr⟩ := hc
  obtain ⟨M1, M2, hcp, e1, e2⟩ := asm (C_stuck hw) (R_stuck hw) (W_stuck hw) hc hr
  refine ⟨M2, hcp, ?_⟩
  unfold g_L_23
  simp only [show (nI j + 1 : Int32) = nI (j + 1) from nI_add _ 1, show (nI j + 2 : Int32) = nI (j + 2) from nI_add _ 2, show (nI j + 3 : Int32) = nI (j + 3) from nI_add _ 3, show (nI j + 4 : Int32) = nI (j + 4) from nI_add _ 4, scr_k (show j + 1 < L by omega) hL, scr_k (show j + 2 < L by omega) hL, scr_k (show j + 3 < L by omega) hL, scr_k (show j + 4 < L by omega) hL, b1_s, e1, e2, b2_s, if_true]

/-! THE START, AND THE LOOP OF THE LAW -/
def s00 : St := (fun a k => if a = 0 ∧ k = 2 then 60 else 0, (0, fun _ => 0), (0, fun _ => 0), (0, fun _ => 0), (fun _ => (0, fun _ => 0)), (fun _ => (0, fun _ => 0)))
theorem iv13 : ∀ i, i < 48 → (13, i, (1 : Int32)) ∈ ivT := by decide +kernel
theorem iv95 : ∀ i, i < 3 → (95, i, (-1 : Int32)) ∈ ivT := by decide +kernel
theorem iv127 : ∀ i, i < 3 → (127 + 2 * i, 1, (0 : Int32)) ∈ ivT := by decide +kernel
theorem iv180 : ∀ i, i < 3 → (180, i, (0 : Int32)) ∈ ivT := by decide +kernel
theorem iv182 : ∀ i, i < 3 → (182, 46 * i + 45, (0 : Int32)) ∈ ivT := by decide +kernel
theorem cp_start {M : MM} (h : chkM M = true) : Cp M := by
  obtain ⟨hs, hp, hv⟩ := sh_of_chk h
  have hP : zP s00 = 0 := rfl
  have hE : zE s00 = 0 := rfl
  have hU : zU s00 = 0 := rfl
  have hS : zS s00 = 0 := rfl
  have hL : zL s00 = 0 := rfl
  refine ⟨s00, ⟨⟨by decide, by decide, by decide, by decide, by decide, by decide, by decide, by decide⟩, ⟨fun p hp => ?_, fun e he => ?_, fun p e hp he => ?_⟩, fun k hk => ?_, fun k hk => ?_, ⟨⟨by decide, fun i hi => absurd hi (Nat.not_lt_zero i)⟩, fun j hj => ?_, fun i hi => ⟨Nat.zero_le 12, fun i hi => absurd hi (Nat.not_lt_zero i)⟩⟩⟩, ⟨hs, ⟨hv _ (show (1, 1, (0 : Int32)) ∈ ivT by decide), fun k hk => ?_⟩, ⟨hv _ (show (3, 1, (0 : Int32)) ∈ ivT by decide), fun k hk => absurd hk (Nat.not_lt_zero k)⟩, ⟨hv _ (show (5, 7, (0 : Int32)) ∈ ivT by decide), hv _ (show (5, 8, (0 : Int32)) ∈ ivT by decide), hv _ (show (5, 9, (60 : Int32)) ∈ ivT by decide), fun p hp => ?_, fun e he => ?_, fun p e hp he => ?_, fun p e hp hq he => hv _ (iv13 (8 * p + e) (by omega))⟩, ⟨hv _ (show (14, 1, (0 : Int32)) ∈ ivT by decide), fun i hi => absurd hi (Nat.not_lt_zero i)⟩, ⟨0, by decide, hv _ (show (84, 6, (0 : Int32)) ∈ ivT by decide), ⟨fun _ => rfl, fun _ => rfl⟩, fun hn => absurd rfl hn⟩, ⟨hv _ (show (92, 4, (0 : Int32)) ∈ ivT by decide), by decide, fun j => j, fun j hj => ⟨hj, hp j hj⟩, fun i j _ _ h => h, fun j hj => ?_⟩, fun i hi => ⟨⟨hv _ (iv127 i hi), fun k hk => absurd hk (Nat.not_lt_zero k)⟩, Or.inr ⟨rfl, Or.inl (hv _ (iv95 i hi))⟩⟩, ⟨hv _ (show (133, 4, (0 : Int32)) ∈ ivT by decide), fun k hk => ?_⟩⟩, ⟨hs, ⟨hv _ (show (143, 18, (0 : Int32)) ∈ ivT by decide), fun k hk => ?_⟩, ⟨hv _ (show (143, 1, (0 : Int32)) ∈ ivT by decide), fun k hk => absurd hk (Nat.not_lt_zero k)⟩, ⟨hv _ (show (143, 3, (0 : Int32)) ∈ ivT by decide), hv _ (show (143, 4, (0 : Int32)) ∈ ivT by decide), hv _ (show (143, 6, (60 : Int32)) ∈ ivT by decide), fun p hp => ?_, fun e he => ?_, fun p e hp he => ?_⟩, ⟨hv _ (show (153, 45, (0 : Int32)) ∈ ivT by decide), fun i hi => absurd hi (Nat.not_lt_zero i)⟩, ⟨0, by decide, hv _ (show (143, 29, (0 : Int32)) ∈ ivT by decide), ⟨fun _ => rfl, fun _ => rfl⟩, fun hn => absurd rfl hn⟩, ⟨hv _ (show (143, 33, (0 : Int32)) ∈ ivT by decide), fun j hj => ?_⟩, ⟨0, by decide, hv _ (show (143, 5, (0 : Int32)) ∈ ivT by decide), fun i hi => ⟨⟨hv _ (iv182 i hi), fun k hk => absurd hk (Nat.not_lt_zero k)⟩, Or.inr ⟨rfl, Or.inl (hv _ (iv180 i hi))⟩⟩⟩, ⟨hv _ (show (143, 51, (0 : Int32)) ∈ ivT by decide), fun k hk => ?_⟩⟩⟩ <;> (exfalso; omega)
def CaseOK (g : Nat → (Nat → Int32) → Nat → Nat → Nat → Int32 → (MM → Option (Int32 × MM)) → MM → Option (Int32 × MM)) : Prop := ∀ (L : Nat) (xs : Nat → Int32) (j : Nat) (K : MM → Option (Int32 × MM)) (M : MM), L ≤ 2560 → j + 4 < L → Cp M → ∃ M', Cp M' ∧ g L xs 0 143 183 (nI j) K M = K M'
def AllOK : Prop := CaseOK g_L_0 ∧ CaseOK g_L_1 ∧ CaseOK g_L_2 ∧ CaseOK g_L_3 ∧ CaseOK g_L_4 ∧ CaseOK g_L_5 ∧ CaseOK g_L_6 ∧ CaseOK g_L_7 ∧ CaseOK g_L_8 ∧ CaseOK g_L_9 ∧ CaseOK g_L_10 ∧ CaseOK g_L_11 ∧ CaseOK g_L_12 ∧ CaseOK g_L_13 ∧ CaseOK g_L_14 ∧ CaseOK g_L_15 ∧ CaseOK g_L_16 ∧ CaseOK g_L_17 ∧ CaseOK g_L_18 ∧ CaseOK g_L_19 ∧ CaseOK g_L_20 ∧ CaseOK g_L_21 ∧ CaseOK g_L_22 ∧ CaseOK g_L_23 ∧ CaseOK g_L_24 ∧ CaseOK g_L_25 ∧ CaseOK g_L_26 ∧ CaseOK g_L_27 ∧ CaseOK g_L_28 ∧ CaseOK g_L_29 ∧ CaseOK g_L_30 ∧ CaseOK g_L_31 ∧ CaseOK g_L_32 ∧ CaseOK g_L_33 ∧ CaseOK g_L_34 ∧ CaseOK g_L_35 ∧ CaseOK g_L_36 ∧ CaseOK g_L_37 ∧ CaseOK g_L_38 ∧ CaseOK g_L_39 ∧ CaseOK g_L_40 ∧ CaseOK g_L_41 ∧ CaseOK g_L_42 ∧ CaseOK g_L_43 ∧ CaseOK g_L_44 ∧ CaseOK g_L_45 ∧ CaseOK g_L_46 ∧ CaseOK g_L_47
theorem sw_ok (A : AllOK) (L : Nat) (xs : Nat → Int32) (j : Nat) (w : Int32) (K : MM → Option (Int32 × MM)) (M : MM) (hL : L ≤ 2560) (hj : j + 4 < L) (h : Cp M) : ∃ M', Cp M' ∧ g_sw L xs 0 143 183 (nI j) w K M = K M' := by
  obtain ⟨c0, c1, c2, c3, c4, c5, c6, c7, c8, c9, c10, c11, c12, c13, c14, c15, c16, c17, c18, c19, c20, c21, c22, c23, c24, c25, c26, c27, c28, c29, c30, c31, c32, c33, c34, c35, c36, c37, c38, c39, c40, c41, c42, c43, c44, c45, c46, c47⟩ := A
  unfold g_sw
  by_cases w0 : w = 0
  · rw [if_pos w0]; exact c0 L xs j K M hL hj h
  rw [if_neg w0]
  by_cases w1 : w = 1
  · rw [if_pos w1]; exact c1 L xs j K M hL hj h
  rw [if_neg w1]
  by_cases w2 : w = 2
  · rw [if_pos w2]; exact c2 L xs j K M hL hj h
  rw [if_neg w2]
  by_cases w3 : w = 3
  · rw [if_pos w3]; exact c3 L xs j K M hL hj h
  rw [if_neg w3]
  by_cases w4 : w = 4
  · rw [if_pos w4]; exact c4 L xs j K M hL hj h
  rw [if_neg w4]
  by_cases w5 : w = 5
  · rw [if_pos w5]; exact c5 L xs j K M hL hj h
  rw [if_neg w5]
  by_cases w6 : w = 6
  · rw [if_pos w6]; exact c6 L xs j K M hL hj h
  rw [if_neg w6]
  by_cases w7 : w = 7
  · rw [if_pos w7]; exact c7 L xs j K M hL hj h
  rw [if_neg w7]
  by_cases w8 : w = 8
  · rw [if_pos w8]; exact c8 L xs j K M hL hj h
  rw [if_neg w8]
  by_cases w9 : w = 9
  · rw [if_pos w9]; exact c9 L xs j K M hL hj h
  rw [if_neg w9]
  by_cases w10 : w = 10
  · rw [if_pos w10]; exact c10 L xs j K M hL hj h
  rw [if_neg w10]
  by_cases w11 : w = 11
  · rw [if_pos w11]; exact c11 L xs j K M hL hj h
  rw [if_neg w11]
  by_cases w12 : w = 12
  · rw [if_pos w12]; exact c12 L xs j K M hL hj h
  rw [if_neg w12]
  by_cases w13 : w = 13
  · rw [if_pos w13]; exact c13 L xs j K M hL hj h
  rw [if_neg w13]
  by_cases w14 : w = 14
  · rw [if_pos w14]; exact c14 L xs j K M hL hj h
  rw [if_neg w14]
  by_cases w15 : w = 15
  · rw [if_pos w15]; exact c15 L xs j K M hL hj h
  rw [if_neg w15]
  by_cases w16 : w = 16
  · rw [if_pos w16]; exact c16 L xs j K M hL hj h
  rw [if_neg w16]
  by_cases w17 : w = 17
  · rw [if_pos w17]; exact c17 L xs j K M hL hj h
  rw [if_neg w17]
  by_cases w18 : w = 18
  · rw [if_pos w18]; exact c18 L xs j K M hL hj h
  rw [if_neg w18]
  by_cases w19 : w = 19
  · rw [if_pos w19]; exact c19 L xs j K M hL hj h
  rw [if_neg w19]
  by_cases w20 : w = 20
  · rw [if_pos w20]; exact c20 L xs j K M hL hj h
  rw [if_neg w20]
  by_cases w21 : w = 21
  · rw [if_pos w21]; exact c21 L xs j K M hL hj h
  rw [if_neg w21]
  by_cases w22 : w = 22
  · rw [if_pos w22]; exact c22 L xs j K M hL hj h
  rw [if_neg w22]
  by_cases w23 : w = 23
  · rw [if_pos w23]; exact c23 L xs j K M hL hj h
  rw [if_neg w23]
  by_cases w24 : w = 24
  · rw [if_pos w24]; exact c24 L xs j K M hL hj h
  rw [if_neg w24]
  by_cases w25 : w = 25
  · rw [if_pos w25]; exact c25 L xs j K M hL hj h
  rw [if_neg w25]
  by_cases w26 : w = 26
  · rw [if_pos w26]; exact c26 L xs j K M hL hj h
  rw [if_neg w26]
  by_cases w27 : w = 27
  · rw [if_pos w27]; exact c27 L xs j K M hL hj h
  rw [if_neg w27]
  by_cases w28 : w = 28
  · rw [if_pos w28]; exact c28 L xs j K M hL hj h
  rw [if_neg w28]
  by_cases w29 : w = 29
  · rw [if_pos w29]; exact c29 L xs j K M hL hj h
  rw [if_neg w29]
  by_cases w30 : w = 30
  · rw [if_pos w30]; exact c30 L xs j K M hL hj h
  rw [if_neg w30]
  by_cases w31 : w = 31
  · rw [if_pos w31]; exact c31 L xs j K M hL hj h
  rw [if_neg w31]
  by_cases w32 : w = 32
  · rw [if_pos w32]; exact c32 L xs j K M hL hj h
  rw [if_neg w32]
  by_cases w33 : w = 33
  · rw [if_pos w33]; exact c33 L xs j K M hL hj h
  rw [if_neg w33]
  by_cases w34 : w = 34
  · rw [if_pos w34]; exact c34 L xs j K M hL hj h
  rw [if_neg w34]
  by_cases w35 : w = 35
  · rw [if_pos w35]; exact c35 L xs j K M hL hj h
  rw [if_neg w35]
  by_cases w36 : w = 36
  · rw [if_pos w36]; exact c36 L xs j K M hL hj h
  rw [if_neg w36]
  by_cases w37 : w = 37
  · rw [if_pos w37]; exact c37 L xs j K M hL hj h
  rw [if_neg w37]
  by_cases w38 : w = 38
  · rw [if_pos w38]; exact c38 L xs j K M hL hj h
  rw [if_neg w38]
  by_cases w39 : w = 39
  · rw [if_pos w39]; exact c39 L xs j K M hL hj h
  rw [if_neg w39]
  by_cases w40 : w = 40
  · rw [if_pos w40]; exact c40 L xs j K M hL hj h
  rw [if_neg w40]
  by_cases w41 : w = 41
  · rw [if_pos w41]; exact c41 L xs j K M hL hj h
  rw [if_neg w41]
  by_cases w42 : w = 42
  · rw [if_pos w42]; exact c42 L xs j K M hL hj h
  rw [if_neg w42]
  by_cases w43 : w = 43
  · rw [if_pos w43]; exact c43 L xs j K M hL hj h
  rw [if_neg w43]
  by_cases w44 : w = 44
  · rw [if_pos w44]; exact c44 L xs j K M hL hj h
  rw [if_neg w44]
  by_cases w45 : w = 45
  · rw [if_pos w45]; exact c45 L xs j K M hL hj h
  rw [if_neg w45]
  by_cases w46 : w = 46
  · rw [if_pos w46]; exact c46 L xs j K M hL hj h
  rw [if_neg w46]
  by_cases w47 : w = 47
  · rw [if_pos w47]; exact c47 L xs j K M hL hj h
  rw [if_neg w47]
  exact ⟨M, h, rfl⟩
theorem loop_ok (A : AllOK) (L : Nat) (xs : Nat → Int32) (hL : L ≤ 2560) : ∀ (n j : Nat) (M : MM), j ≤ L + 4 → L + 4 < j + 5 * n → Cp M → ∃ M', g_loop L xs 0 143 183 n (nI j) M = some ((1 : Int32), M') := by
  intro n
  induction n with
  | zero => intro j M h1 h2 _; omega
  | succ n ih =>
    intro j M h1 h2 hc
    rw [g_loop]
    have e5 : (nI L - 5 : Int32).toInt = (L : Int) - 5 := by
      rw [show (5 : Int32) = nI 5 from rfl, pk_sub_toInt (by omega) (by omega)]
      rfl
    by_cases hd : nI L - 5 < nI j
    · rw [if_pos hd]; exact ⟨M, rfl⟩
    · rw [if_neg hd]
      have hj : j + 4 < L := by
        rw [Int32.lt_iff_toInt_lt, e5, nI_toInt (by omega)] at hd
        omega
      rw [scr_k (by omega) hL, b1_s, bn_s]
      obtain ⟨M', hc', e⟩ := sw_ok A L xs j (xs j &&& 63) (fun M' => bn (nI j + 5) fun y => g_loop L xs 0 143 183 n y M') M hL hj hc
      rw [e, bn_s, show (nI j + 5 : Int32) = nI (j + 5) from nI_add j 5]
      exact ih (j + 5) M' (by omega) (by omega) hc'
theorem pure_of (A : AllOK) : ∀ (L : Nat) (xs : Nat → Int32), L ≤ 2560 → ∃ M, g_law L xs = some ((1 : Int32), M) := by
  intro L xs hL
  obtain ⟨M, hg, hchk⟩ := init_ex
  rw [law_ctor L xs hg]
  exact loop_ok A L xs hL 600 0 M (by omega) (by omega) (cp_start hchk)

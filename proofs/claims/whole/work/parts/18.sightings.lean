def f_X8_add_0 (x0 : Nat) (x1 : Int32) (x2 : Int32) (x3 : Int32) (M : MM) : Option (Int32 × MM) :=
    b1 (gI 8 4 x0 M) fun v1 =>
    if v1 < (12 : Int32) then
      b1 (gR 8 1 x0 M) fun v2 =>
      b1 (gI 8 4 x0 M) fun v3 =>
      b1 (stI v2 v3 x1 M) fun M4 =>
      b1 (gR 8 2 x0 M4) fun v5 =>
      b1 (gI 8 4 x0 M4) fun v6 =>
      b1 (stI v5 v6 x2 M4) fun M7 =>
      b1 (gR 8 3 x0 M7) fun v8 =>
      b1 (gI 8 4 x0 M7) fun v9 =>
      b1 (stI v8 v9 x3 M7) fun M10 =>
      b1 (gI 8 4 x0 M10) fun v11 =>
      b1 (pI 8 4 x0 (v11 + (1 : Int32)) M10) fun M12 =>
      rz (1 : Int32) M12
    else
      rz (0 : Int32) M

def f_X8_add (x0 : Nat) (x1 : Int32) (x2 : Int32) (x3 : Int32) (M : MM) : Option (Int32 × MM) := if isO 8 x0 M = true then f_X8_add_0 x0 x1 x2 x3 M else none
set_option maxRecDepth 4000 in
theorem L_X8_add_0 {G : Gx} (X : Cb G cX8_add 4 RX8 (RM 1 0 0) false) (Y : Cr G (some .boolean) 0 0) (x0 : Nat) (x1 : Int32) (x2 : Int32) (x3 : Int32) (M : MM) : V G trI 4 0 0 0 [(0, .ref x0), (1, .int x1), (2, .int x2), (3, .int x3)] [] M (f_X8_add_0 x0 x1 x2 x3 M) := by
  unfold f_X8_add_0
  refine v_aload_n X 1 0 dX8_add_0 rfl rfl ?_
  refine v_getI X 4 fl_X8_23.r dX8_add_1 rfl (fun v1 => ?_)
  refine v_bipush X 6 dX8_add_4 bk_12 rfl ?_
  refine v_iclt X 9 11 dX8_add_6 rfl rfl ?_ ?_
  · refine v_aload_n X 12 0 dX8_add_11 rfl rfl ?_
    refine v_getR X 15 fl_X8_9.r dX8_add_12 rfl (fun v2 => ?_)
    refine v_aload_n X 16 0 dX8_add_15 rfl rfl ?_
    refine v_getI X 19 fl_X8_23.r dX8_add_16 rfl (fun v3 => ?_)
    refine v_iload_n X 20 1 dX8_add_19 rfl rfl ?_
    refine v_iast X 21 dX8_add_20 rfl (fun M4 => ?_)
    refine v_aload_n X 22 0 dX8_add_21 rfl rfl ?_
    refine v_getR X 25 fl_X8_13.r dX8_add_22 rfl (fun v5 => ?_)
    refine v_aload_n X 26 0 dX8_add_25 rfl rfl ?_
    refine v_getI X 29 fl_X8_23.r dX8_add_26 rfl (fun v6 => ?_)
    refine v_iload_n X 30 2 dX8_add_29 rfl rfl ?_
    refine v_iast X 31 dX8_add_30 rfl (fun M7 => ?_)
    refine v_aload_n X 32 0 dX8_add_31 rfl rfl ?_
    refine v_getR X 35 fl_X8_16.r dX8_add_32 rfl (fun v8 => ?_)
    refine v_aload_n X 36 0 dX8_add_35 rfl rfl ?_
    refine v_getI X 39 fl_X8_23.r dX8_add_36 rfl (fun v9 => ?_)
    refine v_iload_n X 40 3 dX8_add_39 rfl rfl ?_
    refine v_iast X 41 dX8_add_40 rfl (fun M10 => ?_)
    refine v_aload_n X 42 0 dX8_add_41 rfl rfl ?_
    refine v_dup X 43 dX8_add_42 rfl rfl ?_
    refine v_getI X 46 fl_X8_23.r dX8_add_43 rfl (fun v11 => ?_)
    refine v_iconst X 47 dX8_add_46 ik_1 rfl ?_
    refine v_iadd X 48 dX8_add_47 rfl ?_
    refine v_putI X 51 fl_X8_23 nof dX8_add_48 rfl (fun M12 => ?_)
    refine v_iconst X 52 dX8_add_51 ik_1 rfl ?_
    exact v_zret X Y (Nat.le_refl _) (Nat.le_refl _) dX8_add_52
  · refine v_iconst X 10 dX8_add_9 ik_0 rfl ?_
    exact v_zret X Y (Nat.le_refl _) (Nat.le_refl _) dX8_add_10
theorem c_X8_add (l : Launch) (x0 : Nat) (x1 : Int32) (x2 : Int32) (x3 : Int32) (M : MM) (r : Int32) (M1 : MM) (h : f_X8_add x0 x1 x2 x3 M = some (r, M1)) : KV l yX8_add cX8_add 4 (some .boolean) (RM 1 0 0) false 8 x0 [.int x1, .int x2, .int x3] M (some (.int r)) M1 := by
  obtain ⟨hO, h2⟩ := iteO_some h
  exact ⟨hO, ct_of (tr := trI) (by decide) (Nat.le_of_ble_eq_true rfl) [(0, .ref x0), (1, .int x1), (2, .int x2), (3, .int x3)] rfl h2 (fun G X Y hn hl => L_X8_add_0 X Y x0 x1 x2 x3 M)⟩

def f_X8_isThere_0 (x0 : Nat) (x1 : Int32) (x2 : Int32) (x3 : Int32) (M : MM) : Option (Int32 × MM) :=
    b1 (gR 8 0 x0 M) fun v1 =>
    b1 (gR 9 1 v1 M) fun v2 =>
    b1 (ldI v2 x1 M) fun v3 =>
    bn (x2 + v3 : Int32) fun y4 =>
    if x3 < y4 then
      rz (0 : Int32) M
    else
      b1 (gR 8 0 x0 M) fun v5 =>
      b1 (gR 9 2 v5 M) fun v6 =>
      b1 (ldI v6 x1 M) fun v7 =>
      if (y4 + v7) ≤ x3 then
        rz (0 : Int32) M
      else
        rz (1 : Int32) M

def f_X8_isThere (x0 : Nat) (x1 : Int32) (x2 : Int32) (x3 : Int32) (M : MM) : Option (Int32 × MM) := if isO 8 x0 M = true then f_X8_isThere_0 x0 x1 x2 x3 M else none
set_option maxRecDepth 4000 in
theorem L_X8_isThere_0 {G : Gx} (X : Cb G cX8_isThere 5 RX8 (RM 1 0 0) false) (Y : Cr G (some .boolean) 0 0) (x0 : Nat) (x1 : Int32) (x2 : Int32) (x3 : Int32) (M : MM) : V G trI 5 0 0 0 [(0, .ref x0), (1, .int x1), (2, .int x2), (3, .int x3)] [] M (f_X8_isThere_0 x0 x1 x2 x3 M) := by
  unfold f_X8_isThere_0
  refine v_iload_n X 1 2 dX8_isThere_0 rfl rfl ?_
  refine v_aload_n X 2 0 dX8_isThere_1 rfl rfl ?_
  refine v_getR X 5 fl_X8_19.r dX8_isThere_2 rfl (fun v1 => ?_)
  refine v_getR X 8 fl_X8_27 dX8_isThere_5 rfl (fun v2 => ?_)
  refine v_iload_n X 9 1 dX8_isThere_8 rfl rfl ?_
  refine v_iald X 10 dX8_isThere_9 rfl (fun v3 => ?_)
  refine v_iadd X 11 dX8_isThere_10 rfl ?_
  refine v_bnI (fun y4 => ?_)
  refine v_istore (lv' := [(0, .ref x0), (1, .int x1), (2, .int x2), (3, .int x3), (4, .int y4)]) X 13 dX8_isThere_11 (by decide) rfl rfl ?_
  refine v_iload_n X 14 3 dX8_isThere_13 rfl rfl ?_
  refine v_iload X 16 4 dX8_isThere_14 rfl rfl ?_
  refine v_iclt X 19 39 dX8_isThere_16 rfl rfl ?_ ?_
  · refine v_iconst X 40 dX8_isThere_39 ik_0 rfl ?_
    exact v_zret X Y (Nat.le_refl _) (Nat.le_refl _) dX8_isThere_40
  · refine v_iload_n X 20 3 dX8_isThere_19 rfl rfl ?_
    refine v_iload X 22 4 dX8_isThere_20 rfl rfl ?_
    refine v_aload_n X 23 0 dX8_isThere_22 rfl rfl ?_
    refine v_getR X 26 fl_X8_19.r dX8_isThere_23 rfl (fun v5 => ?_)
    refine v_getR X 29 fl_X8_32 dX8_isThere_26 rfl (fun v6 => ?_)
    refine v_iload_n X 30 1 dX8_isThere_29 rfl rfl ?_
    refine v_iald X 31 dX8_isThere_30 rfl (fun v7 => ?_)
    refine v_iadd X 32 dX8_isThere_31 rfl ?_
    refine v_icge X 35 39 dX8_isThere_32 rfl rfl ?_ ?_
    · refine v_iconst X 40 dX8_isThere_39 ik_0 rfl ?_
      exact v_zret X Y (Nat.le_refl _) (Nat.le_refl _) dX8_isThere_40
    · refine v_iconst X 36 dX8_isThere_35 ik_1 rfl ?_
      refine v_goto X 40 dX8_isThere_36 rfl ?_
      exact v_zret X Y (Nat.le_refl _) (Nat.le_refl _) dX8_isThere_40
theorem c_X8_isThere (l : Launch) (x0 : Nat) (x1 : Int32) (x2 : Int32) (x3 : Int32) (M : MM) (r : Int32) (M1 : MM) (h : f_X8_isThere x0 x1 x2 x3 M = some (r, M1)) : KV l yX8_isThere cX8_isThere 5 (some .boolean) (RM 1 0 0) false 8 x0 [.int x1, .int x2, .int x3] M (some (.int r)) M1 := by
  obtain ⟨hO, h2⟩ := iteO_some h
  exact ⟨hO, ct_of (tr := trI) (by decide) (Nat.le_of_ble_eq_true rfl) [(0, .ref x0), (1, .int x1), (2, .int x2), (3, .int x3)] rfl h2 (fun G X Y hn hl => L_X8_isThere_0 X Y x0 x1 x2 x3 M)⟩

def f_X8_fitsPlan_90 (K16 : Nat → Int32 → Nat → Int32 → MM → Option (Int32 × MM)) (x0 : Nat) (x1 : Int32) (x2 : Nat) (x3 : Int32) (M : MM) : Option (Int32 × MM) :=
    bn (x3 + 1 : Int32) fun y1 =>
    K16 x0 x1 x2 y1 M

def f_X8_fitsPlan_57 (K16 : Nat → Int32 → Nat → Int32 → MM → Option (Int32 × MM)) (x0 : Nat) (x1 : Int32) (x2 : Nat) (x3 : Int32) (s0 : Int32) (M : MM) : Option (Int32 × MM) :=
    if s0 = 0 then
      f_X8_fitsPlan_90 K16 x0 x1 x2 x3 M
    else
      b1 (gR 8 2 x0 M) fun v1 =>
      b1 (ldI v1 x1 M) fun v2 =>
      b2 (f_X5_first x2 x3 M) fun r4 M3 =>
      b1 (gR 8 3 x0 M3) fun v5 =>
      b1 (ldI v5 x1 M3) fun v6 =>
      b2 (f_X8_isThere x0 v2 r4 v6 M3) fun r8 M7 =>
      if r8 = 0 then
        f_X8_fitsPlan_90 K16 x0 x1 x2 x3 M7
      else
        rz (1 : Int32) M7

def f_X8_fitsPlan_56 (K16 : Nat → Int32 → Nat → Int32 → MM → Option (Int32 × MM)) (x0 : Nat) (x1 : Int32) (x2 : Nat) (x3 : Int32) (M : MM) : Option (Int32 × MM) :=
    f_X8_fitsPlan_57 K16 x0 x1 x2 x3 (0 : Int32) M

def f_X8_fitsPlan_16 : Nat → Nat → Int32 → Nat → Int32 → MM → Option (Int32 × MM)
  | 0, _, _, _, _, _ => none
  | n + 1, x0, x1, x2, x3, M =>
    b1 (gI 5 1 x2 M) fun v1 =>
    if v1 ≤ x3 then
      rz (0 : Int32) M
    else
      b2 (f_X5_who x2 x3 M) fun r3 M2 =>
      b1 (gR 8 1 x0 M2) fun v4 =>
      b1 (ldI v4 x1 M2) fun v5 =>
      if r3 = v5 then
        b2 (f_X5_what x2 x3 M2) fun r7 M6 =>
        b1 (gR 8 2 x0 M6) fun v8 =>
        b1 (ldI v8 x1 M6) fun v9 =>
        if r7 = v9 then
          f_X8_fitsPlan_57 (f_X8_fitsPlan_16 n) x0 x1 x2 x3 (1 : Int32) M6
        else
          f_X8_fitsPlan_56 (f_X8_fitsPlan_16 n) x0 x1 x2 x3 M6
      else
        f_X8_fitsPlan_56 (f_X8_fitsPlan_16 n) x0 x1 x2 x3 M2

def f_X8_fitsPlan_0 (x0 : Nat) (x1 : Int32) (x2 : Nat) (M : MM) : Option (Int32 × MM) :=
    if x1 < 0 then
      rz (0 : Int32) M
    else
      b1 (gI 8 4 x0 M) fun v1 =>
      if x1 < v1 then
        f_X8_fitsPlan_16 1024 x0 x1 x2 (0 : Int32) M
      else
        rz (0 : Int32) M

def f_X8_fitsPlan (x0 : Nat) (x1 : Int32) (x2 : Nat) (M : MM) : Option (Int32 × MM) := if isO 8 x0 M = true then f_X8_fitsPlan_0 x0 x1 x2 M else none
set_option maxRecDepth 4000 in
theorem L_X8_fitsPlan_90 {G : Gx} (X : Cb G cX8_fitsPlan 5 RX8 (RM 2 0 0) false) (Y : Cr G (some .boolean) 0 0) {K16 : Nat → Int32 → Nat → Int32 → MM → Option (Int32 × MM)} (hK16 : ∀ (x0 : Nat) (x1 : Int32) (x2 : Nat) (x3 : Int32) (M : MM), V G trI 5 0 0 16 [(0, .ref x0), (1, .int x1), (2, .ref x2), (3, .int x3)] [] M (K16 x0 x1 x2 x3 M)) (x0 : Nat) (x1 : Int32) (x2 : Nat) (x3 : Int32) (M : MM) : V G trI 5 0 0 90 [(0, .ref x0), (1, .int x1), (2, .ref x2), (3, .int x3)] [] M (f_X8_fitsPlan_90 K16 x0 x1 x2 x3 M) := by
  unfold f_X8_fitsPlan_90
  refine v_iinc X 93 3 (fun z => [(0, .ref x0), (1, .int x1), (2, .ref x2), (3, .int z)]) dX8_fitsPlan_90 rfl ik_1 (by decide) (fun _ => rfl) rfl (fun y1 => ?_)
  refine v_goto X 16 dX8_fitsPlan_93 rfl ?_
  exact hK16 _ _ _ _ _
set_option maxRecDepth 4000 in
theorem L_X8_fitsPlan_57 {G : Gx} (X : Cb G cX8_fitsPlan 5 RX8 (RM 2 0 0) false) (Y : Cr G (some .boolean) 0 0) {K16 : Nat → Int32 → Nat → Int32 → MM → Option (Int32 × MM)} (hK16 : ∀ (x0 : Nat) (x1 : Int32) (x2 : Nat) (x3 : Int32) (M : MM), V G trI 5 0 0 16 [(0, .ref x0), (1, .int x1), (2, .ref x2), (3, .int x3)] [] M (K16 x0 x1 x2 x3 M)) (x0 : Nat) (x1 : Int32) (x2 : Nat) (x3 : Int32) (s0 : Int32) (M : MM) : V G trI 5 0 0 57 [(0, .ref x0), (1, .int x1), (2, .ref x2), (3, .int x3)] [.int s0] M (f_X8_fitsPlan_57 K16 x0 x1 x2 x3 s0 M) := by
  unfold f_X8_fitsPlan_57
  refine v_istore (lv' := [(0, .ref x0), (1, .int x1), (2, .ref x2), (3, .int x3), (4, .int s0)]) X 59 dX8_fitsPlan_57 (by decide) rfl rfl ?_
  refine v_iload X 61 4 dX8_fitsPlan_59 rfl rfl ?_
  refine v_ifeq X 64 90 dX8_fitsPlan_61 rfl rfl ?_ ?_
  · exact v_sb [0, 1, 2, 3] (L_X8_fitsPlan_90 X Y hK16 _ _ _ _ _) rfl
  · refine v_aload_n X 65 0 dX8_fitsPlan_64 rfl rfl ?_
    refine v_aload_n X 66 0 dX8_fitsPlan_65 rfl rfl ?_
    refine v_getR X 69 fl_X8_13.r dX8_fitsPlan_66 rfl (fun v1 => ?_)
    refine v_iload_n X 70 1 dX8_fitsPlan_69 rfl rfl ?_
    refine v_iald X 71 dX8_fitsPlan_70 rfl (fun v2 => ?_)
    refine v_aload_n X 72 2 dX8_fitsPlan_71 rfl rfl ?_
    refine v_iload_n X 73 3 dX8_fitsPlan_72 rfl rfl ?_
    refine v_vI X 76 cv_X5_first ml_X8_43 (n1 := 1) rfl [.int x3] rfl rfl rfl dX8_fitsPlan_73 rfl (fun r M1 h => c_X5_first _ _ _ _ _ _ h) (fun r4 M3 => ?_)
    refine v_aload_n X 77 0 dX8_fitsPlan_76 rfl rfl ?_
    refine v_getR X 80 fl_X8_16.r dX8_fitsPlan_77 rfl (fun v5 => ?_)
    refine v_iload_n X 81 1 dX8_fitsPlan_80 rfl rfl ?_
    refine v_iald X 82 dX8_fitsPlan_81 rfl (fun v6 => ?_)
    refine v_vI X 85 cv_X8_isThere ml_X8_46 (n1 := 1) rfl [.int v2, .int r4, .int v6] rfl rfl rfl dX8_fitsPlan_82 rfl (fun r M1 h => c_X8_isThere _ _ _ _ _ _ _ _ h) (fun r8 M7 => ?_)
    refine v_ifeq X 88 90 dX8_fitsPlan_85 rfl rfl ?_ ?_
    · exact v_sb [0, 1, 2, 3] (L_X8_fitsPlan_90 X Y hK16 _ _ _ _ _) rfl
    · refine v_iconst X 89 dX8_fitsPlan_88 ik_1 rfl ?_
      exact v_zret X Y (Nat.le_refl _) (Nat.le_refl _) dX8_fitsPlan_89
set_option maxRecDepth 4000 in
theorem L_X8_fitsPlan_56 {G : Gx} (X : Cb G cX8_fitsPlan 5 RX8 (RM 2 0 0) false) (Y : Cr G (some .boolean) 0 0) {K16 : Nat → Int32 → Nat → Int32 → MM → Option (Int32 × MM)} (hK16 : ∀ (x0 : Nat) (x1 : Int32) (x2 : Nat) (x3 : Int32) (M : MM), V G trI 5 0 0 16 [(0, .ref x0), (1, .int x1), (2, .ref x2), (3, .int x3)] [] M (K16 x0 x1 x2 x3 M)) (x0 : Nat) (x1 : Int32) (x2 : Nat) (x3 : Int32) (M : MM) : V G trI 5 0 0 56 [(0, .ref x0), (1, .int x1), (2, .ref x2), (3, .int x3)] [] M (f_X8_fitsPlan_56 K16 x0 x1 x2 x3 M) := by
  unfold f_X8_fitsPlan_56
  refine v_iconst X 57 dX8_fitsPlan_56 ik_0 rfl ?_
  exact L_X8_fitsPlan_57 X Y hK16 _ _ _ _ _ _
set_option maxRecDepth 4000 in
theorem L_X8_fitsPlan_16 {G : Gx} (X : Cb G cX8_fitsPlan 5 RX8 (RM 2 0 0) false) (Y : Cr G (some .boolean) 0 0) : ∀ (n : Nat) (x0 : Nat) (x1 : Int32) (x2 : Nat) (x3 : Int32) (M : MM), V G trI 5 0 0 16 [(0, .ref x0), (1, .int x1), (2, .ref x2), (3, .int x3)] [] M (f_X8_fitsPlan_16 n x0 x1 x2 x3 M) := by
  intro n
  induction n with
  | zero => intro x0 x1 x2 x3 M; rw [f_X8_fitsPlan_16]; exact v_none
  | succ n ih =>
    intro x0 x1 x2 x3 M
    rw [f_X8_fitsPlan_16]
    refine v_iload_n X 17 3 dX8_fitsPlan_16 rfl rfl ?_
    refine v_aload_n X 18 2 dX8_fitsPlan_17 rfl rfl ?_
    refine v_getI X 21 fl_X8_35.r dX8_fitsPlan_18 rfl (fun v1 => ?_)
    refine v_icge X 24 96 dX8_fitsPlan_21 rfl rfl ?_ ?_
    · refine v_iconst X 97 dX8_fitsPlan_96 ik_0 rfl ?_
      exact v_zret X Y (Nat.le_refl _) (Nat.le_refl _) dX8_fitsPlan_97
    · refine v_aload_n X 25 2 dX8_fitsPlan_24 rfl rfl ?_
      refine v_iload_n X 26 3 dX8_fitsPlan_25 rfl rfl ?_
      refine v_vI X 29 cv_X5_who ml_X8_38 (n1 := 1) rfl [.int x3] rfl rfl rfl dX8_fitsPlan_26 rfl (fun r M1 h => c_X5_who _ _ _ _ _ _ h) (fun r3 M2 => ?_)
      refine v_aload_n X 30 0 dX8_fitsPlan_29 rfl rfl ?_
      refine v_getR X 33 fl_X8_9.r dX8_fitsPlan_30 rfl (fun v4 => ?_)
      refine v_iload_n X 34 1 dX8_fitsPlan_33 rfl rfl ?_
      refine v_iald X 35 dX8_fitsPlan_34 rfl (fun v5 => ?_)
      refine v_icne X 38 56 dX8_fitsPlan_35 rfl rfl ?_ ?_
      · exact L_X8_fitsPlan_56 X Y ih _ _ _ _ _
      · refine v_aload_n X 39 2 dX8_fitsPlan_38 rfl rfl ?_
        refine v_iload_n X 40 3 dX8_fitsPlan_39 rfl rfl ?_
        refine v_vI X 43 cv_X5_what ml_X8_41 (n1 := 1) rfl [.int x3] rfl rfl rfl dX8_fitsPlan_40 rfl (fun r M1 h => c_X5_what _ _ _ _ _ _ h) (fun r7 M6 => ?_)
        refine v_aload_n X 44 0 dX8_fitsPlan_43 rfl rfl ?_
        refine v_getR X 47 fl_X8_13.r dX8_fitsPlan_44 rfl (fun v8 => ?_)
        refine v_iload_n X 48 1 dX8_fitsPlan_47 rfl rfl ?_
        refine v_iald X 49 dX8_fitsPlan_48 rfl (fun v9 => ?_)
        refine v_icne X 52 56 dX8_fitsPlan_49 rfl rfl ?_ ?_
        · exact L_X8_fitsPlan_56 X Y ih _ _ _ _ _
        · refine v_iconst X 53 dX8_fitsPlan_52 ik_1 rfl ?_
          refine v_goto X 57 dX8_fitsPlan_53 rfl ?_
          exact L_X8_fitsPlan_57 X Y ih _ _ _ _ _ _
set_option maxRecDepth 4000 in
theorem L_X8_fitsPlan_0 {G : Gx} (X : Cb G cX8_fitsPlan 5 RX8 (RM 2 0 0) false) (Y : Cr G (some .boolean) 0 0) (x0 : Nat) (x1 : Int32) (x2 : Nat) (M : MM) : V G trI 5 0 0 0 [(0, .ref x0), (1, .int x1), (2, .ref x2)] [] M (f_X8_fitsPlan_0 x0 x1 x2 M) := by
  unfold f_X8_fitsPlan_0
  refine v_iload_n X 1 1 dX8_fitsPlan_0 rfl rfl ?_
  refine v_iflt X 4 12 dX8_fitsPlan_1 rfl rfl ?_ ?_
  · refine v_iconst X 13 dX8_fitsPlan_12 ik_0 rfl ?_
    exact v_zret X Y (Nat.le_refl _) (Nat.le_refl _) dX8_fitsPlan_13
  · refine v_iload_n X 5 1 dX8_fitsPlan_4 rfl rfl ?_
    refine v_aload_n X 6 0 dX8_fitsPlan_5 rfl rfl ?_
    refine v_getI X 9 fl_X8_23.r dX8_fitsPlan_6 rfl (fun v1 => ?_)
    refine v_iclt X 12 14 dX8_fitsPlan_9 rfl rfl ?_ ?_
    · refine v_iconst X 15 dX8_fitsPlan_14 ik_0 rfl ?_
      refine v_istore_n (lv' := [(0, .ref x0), (1, .int x1), (2, .ref x2), (3, .int (0 : Int32))]) X 16 dX8_fitsPlan_15 (by decide) rfl rfl ?_
      exact L_X8_fitsPlan_16 X Y 1024 _ _ _ _ _
    · refine v_iconst X 13 dX8_fitsPlan_12 ik_0 rfl ?_
      exact v_zret X Y (Nat.le_refl _) (Nat.le_refl _) dX8_fitsPlan_13
theorem c_X8_fitsPlan (l : Launch) (x0 : Nat) (x1 : Int32) (x2 : Nat) (M : MM) (r : Int32) (M1 : MM) (h : f_X8_fitsPlan x0 x1 x2 M = some (r, M1)) : KV l yX8_fitsPlan cX8_fitsPlan 5 (some .boolean) (RM 2 0 0) false 8 x0 [.int x1, .ref x2] M (some (.int r)) M1 := by
  obtain ⟨hO, h2⟩ := iteO_some h
  exact ⟨hO, ct_of (tr := trI) (by decide) (Nat.le_of_ble_eq_true rfl) [(0, .ref x0), (1, .int x1), (2, .ref x2)] rfl h2 (fun G X Y hn hl => L_X8_fitsPlan_0 X Y x0 x1 x2 M)⟩

def f_X8_allow_101 (K3 : Nat → Int32 → Int32 → Int32 → Int32 → MM → Option (Int32 × MM)) (x0 : Nat) (x1 : Int32) (x2 : Int32) (x3 : Int32) (x4 : Int32) (M : MM) : Option (Int32 × MM) :=
    bn (x4 + 1 : Int32) fun y1 =>
    K3 x0 x1 x2 x3 y1 M

def f_X8_allow_62 (K3 : Nat → Int32 → Int32 → Int32 → Int32 → MM → Option (Int32 × MM)) (x0 : Nat) (x1 : Int32) (x2 : Int32) (x3 : Int32) (x4 : Int32) (s0 : Int32) (M : MM) : Option (Int32 × MM) :=
    b1 (gR 8 2 x0 M) fun v1 =>
    b1 (ldI v1 x4 M) fun v2 =>
    if v2 = x2 then
      b1 (gR 8 3 x0 M) fun v3 =>
      b1 (ldI v3 x4 M) fun v4 =>
      b2 (f_X8_isThere x0 x2 x3 v4 M) fun r6 M5 =>
      if r6 = 0 then
        rz (0 : Int32) M5
      else
        f_X8_allow_101 K3 x0 x1 x2 x3 x4 M5
    else
      if s0 = 0 then
        f_X8_allow_101 K3 x0 x1 x2 x3 x4 M
      else
        rz (0 : Int32) M

def f_X8_allow_61 (K3 : Nat → Int32 → Int32 → Int32 → Int32 → MM → Option (Int32 × MM)) (x0 : Nat) (x1 : Int32) (x2 : Int32) (x3 : Int32) (x4 : Int32) (M : MM) : Option (Int32 × MM) :=
    f_X8_allow_62 K3 x0 x1 x2 x3 x4 (0 : Int32) M

def f_X8_allow_3 : Nat → Nat → Int32 → Int32 → Int32 → Int32 → MM → Option (Int32 × MM)
  | 0, _, _, _, _, _, _ => none
  | n + 1, x0, x1, x2, x3, x4, M =>
    b1 (gI 8 4 x0 M) fun v1 =>
    if v1 ≤ x4 then
      rz (1 : Int32) M
    else
      b1 (gR 8 1 x0 M) fun v2 =>
      b1 (ldI v2 x4 M) fun v3 =>
      if v3 = x1 then
        b1 (gR 8 3 x0 M) fun v4 =>
        b1 (ldI v4 x4 M) fun v5 =>
        if v5 < x3 then
          f_X8_allow_61 (f_X8_allow_3 n) x0 x1 x2 x3 x4 M
        else
          b1 (gR 8 3 x0 M) fun v6 =>
          b1 (ldI v6 x4 M) fun v7 =>
          b1 (gR 8 0 x0 M) fun v8 =>
          b2 (f_X9_length v8 x2 M) fun r10 M9 =>
          if (x3 + r10) ≤ v7 then
            f_X8_allow_61 (f_X8_allow_3 n) x0 x1 x2 x3 x4 M9
          else
            f_X8_allow_62 (f_X8_allow_3 n) x0 x1 x2 x3 x4 (1 : Int32) M9
      else
        f_X8_allow_101 (f_X8_allow_3 n) x0 x1 x2 x3 x4 M

def f_X8_allow_0 (x0 : Nat) (x1 : Int32) (x2 : Int32) (x3 : Int32) (M : MM) : Option (Int32 × MM) :=
    f_X8_allow_3 1024 x0 x1 x2 x3 (0 : Int32) M

def f_X8_allow (x0 : Nat) (x1 : Int32) (x2 : Int32) (x3 : Int32) (M : MM) : Option (Int32 × MM) := if isO 8 x0 M = true then f_X8_allow_0 x0 x1 x2 x3 M else none
set_option maxRecDepth 4000 in
theorem L_X8_allow_101 {G : Gx} (X : Cb G cX8_allow 6 RX8 (RM 2 0 0) false) (Y : Cr G (some .boolean) 0 0) {K3 : Nat → Int32 → Int32 → Int32 → Int32 → MM → Option (Int32 × MM)} (hK3 : ∀ (x0 : Nat) (x1 : Int32) (x2 : Int32) (x3 : Int32) (x4 : Int32) (M : MM), V G trI 6 0 0 3 [(0, .ref x0), (1, .int x1), (2, .int x2), (3, .int x3), (4, .int x4)] [] M (K3 x0 x1 x2 x3 x4 M)) (x0 : Nat) (x1 : Int32) (x2 : Int32) (x3 : Int32) (x4 : Int32) (M : MM) : V G trI 6 0 0 101 [(0, .ref x0), (1, .int x1), (2, .int x2), (3, .int x3), (4, .int x4)] [] M (f_X8_allow_101 K3 x0 x1 x2 x3 x4 M) := by
  unfold f_X8_allow_101
  refine v_iinc X 104 4 (fun z => [(0, .ref x0), (1, .int x1), (2, .int x2), (3, .int x3), (4, .int z)]) dX8_allow_101 rfl ik_1 (by decide) (fun _ => rfl) rfl (fun y1 => ?_)
  refine v_goto X 3 dX8_allow_104 rfl ?_
  exact hK3 _ _ _ _ _ _
set_option maxRecDepth 4000 in
theorem L_X8_allow_62 {G : Gx} (X : Cb G cX8_allow 6 RX8 (RM 2 0 0) false) (Y : Cr G (some .boolean) 0 0) {K3 : Nat → Int32 → Int32 → Int32 → Int32 → MM → Option (Int32 × MM)} (hK3 : ∀ (x0 : Nat) (x1 : Int32) (x2 : Int32) (x3 : Int32) (x4 : Int32) (M : MM), V G trI 6 0 0 3 [(0, .ref x0), (1, .int x1), (2, .int x2), (3, .int x3), (4, .int x4)] [] M (K3 x0 x1 x2 x3 x4 M)) (x0 : Nat) (x1 : Int32) (x2 : Int32) (x3 : Int32) (x4 : Int32) (s0 : Int32) (M : MM) : V G trI 6 0 0 62 [(0, .ref x0), (1, .int x1), (2, .int x2), (3, .int x3), (4, .int x4)] [.int s0] M (f_X8_allow_62 K3 x0 x1 x2 x3 x4 s0 M) := by
  unfold f_X8_allow_62
  refine v_istore (lv' := [(0, .ref x0), (1, .int x1), (2, .int x2), (3, .int x3), (4, .int x4), (5, .int s0)]) X 64 dX8_allow_62 (by decide) rfl rfl ?_
  refine v_aload_n X 65 0 dX8_allow_64 rfl rfl ?_
  refine v_getR X 68 fl_X8_13.r dX8_allow_65 rfl (fun v1 => ?_)
  refine v_iload X 70 4 dX8_allow_68 rfl rfl ?_
  refine v_iald X 71 dX8_allow_70 rfl (fun v2 => ?_)
  refine v_iload_n X 72 2 dX8_allow_71 rfl rfl ?_
  refine v_icne X 75 94 dX8_allow_72 rfl rfl ?_ ?_
  · refine v_iload X 96 5 dX8_allow_94 rfl rfl ?_
    refine v_ifeq X 99 101 dX8_allow_96 rfl rfl ?_ ?_
    · exact v_sb [0, 1, 2, 3, 4] (L_X8_allow_101 X Y hK3 _ _ _ _ _ _) rfl
    · refine v_iconst X 100 dX8_allow_99 ik_0 rfl ?_
      exact v_zret X Y (Nat.le_refl _) (Nat.le_refl _) dX8_allow_100
  · refine v_aload_n X 76 0 dX8_allow_75 rfl rfl ?_
    refine v_iload_n X 77 2 dX8_allow_76 rfl rfl ?_
    refine v_iload_n X 78 3 dX8_allow_77 rfl rfl ?_
    refine v_aload_n X 79 0 dX8_allow_78 rfl rfl ?_
    refine v_getR X 82 fl_X8_16.r dX8_allow_79 rfl (fun v3 => ?_)
    refine v_iload X 84 4 dX8_allow_82 rfl rfl ?_
    refine v_iald X 85 dX8_allow_84 rfl (fun v4 => ?_)
    refine v_vI X 88 cv_X8_isThere ml_X8_46 (n1 := 1) rfl [.int x2, .int x3, .int v4] rfl rfl rfl dX8_allow_85 rfl (fun r M1 h => c_X8_isThere _ _ _ _ _ _ _ _ h) (fun r6 M5 => ?_)
    refine v_ifne X 91 101 dX8_allow_88 rfl rfl ?_ ?_
    · exact v_sb [0, 1, 2, 3, 4] (L_X8_allow_101 X Y hK3 _ _ _ _ _ _) rfl
    · refine v_goto X 99 dX8_allow_91 rfl ?_
      refine v_iconst X 100 dX8_allow_99 ik_0 rfl ?_
      exact v_zret X Y (Nat.le_refl _) (Nat.le_refl _) dX8_allow_100
set_option maxRecDepth 4000 in
theorem L_X8_allow_61 {G : Gx} (X : Cb G cX8_allow 6 RX8 (RM 2 0 0) false) (Y : Cr G (some .boolean) 0 0) {K3 : Nat → Int32 → Int32 → Int32 → Int32 → MM → Option (Int32 × MM)} (hK3 : ∀ (x0 : Nat) (x1 : Int32) (x2 : Int32) (x3 : Int32) (x4 : Int32) (M : MM), V G trI 6 0 0 3 [(0, .ref x0), (1, .int x1), (2, .int x2), (3, .int x3), (4, .int x4)] [] M (K3 x0 x1 x2 x3 x4 M)) (x0 : Nat) (x1 : Int32) (x2 : Int32) (x3 : Int32) (x4 : Int32) (M : MM) : V G trI 6 0 0 61 [(0, .ref x0), (1, .int x1), (2, .int x2), (3, .int x3), (4, .int x4)] [] M (f_X8_allow_61 K3 x0 x1 x2 x3 x4 M) := by
  unfold f_X8_allow_61
  refine v_iconst X 62 dX8_allow_61 ik_0 rfl ?_
  exact L_X8_allow_62 X Y hK3 _ _ _ _ _ _ _
set_option maxRecDepth 4000 in
theorem L_X8_allow_3 {G : Gx} (X : Cb G cX8_allow 6 RX8 (RM 2 0 0) false) (Y : Cr G (some .boolean) 0 0) : ∀ (n : Nat) (x0 : Nat) (x1 : Int32) (x2 : Int32) (x3 : Int32) (x4 : Int32) (M : MM), V G trI 6 0 0 3 [(0, .ref x0), (1, .int x1), (2, .int x2), (3, .int x3), (4, .int x4)] [] M (f_X8_allow_3 n x0 x1 x2 x3 x4 M) := by
  intro n
  induction n with
  | zero => intro x0 x1 x2 x3 x4 M; rw [f_X8_allow_3]; exact v_none
  | succ n ih =>
    intro x0 x1 x2 x3 x4 M
    rw [f_X8_allow_3]
    refine v_iload X 5 4 dX8_allow_3 rfl rfl ?_
    refine v_aload_n X 6 0 dX8_allow_5 rfl rfl ?_
    refine v_getI X 9 fl_X8_23.r dX8_allow_6 rfl (fun v1 => ?_)
    refine v_icge X 12 107 dX8_allow_9 rfl rfl ?_ ?_
    · refine v_iconst X 108 dX8_allow_107 ik_1 rfl ?_
      exact v_zret X Y (Nat.le_refl _) (Nat.le_refl _) dX8_allow_108
    · refine v_aload_n X 13 0 dX8_allow_12 rfl rfl ?_
      refine v_getR X 16 fl_X8_9.r dX8_allow_13 rfl (fun v2 => ?_)
      refine v_iload X 18 4 dX8_allow_16 rfl rfl ?_
      refine v_iald X 19 dX8_allow_18 rfl (fun v3 => ?_)
      refine v_iload_n X 20 1 dX8_allow_19 rfl rfl ?_
      refine v_iceq X 23 26 dX8_allow_20 rfl rfl ?_ ?_
      · refine v_aload_n X 27 0 dX8_allow_26 rfl rfl ?_
        refine v_getR X 30 fl_X8_16.r dX8_allow_27 rfl (fun v4 => ?_)
        refine v_iload X 32 4 dX8_allow_30 rfl rfl ?_
        refine v_iald X 33 dX8_allow_32 rfl (fun v5 => ?_)
        refine v_iload_n X 34 3 dX8_allow_33 rfl rfl ?_
        refine v_iclt X 37 61 dX8_allow_34 rfl rfl ?_ ?_
        · exact L_X8_allow_61 X Y ih _ _ _ _ _ _
        · refine v_aload_n X 38 0 dX8_allow_37 rfl rfl ?_
          refine v_getR X 41 fl_X8_16.r dX8_allow_38 rfl (fun v6 => ?_)
          refine v_iload X 43 4 dX8_allow_41 rfl rfl ?_
          refine v_iald X 44 dX8_allow_43 rfl (fun v7 => ?_)
          refine v_iload_n X 45 3 dX8_allow_44 rfl rfl ?_
          refine v_aload_n X 46 0 dX8_allow_45 rfl rfl ?_
          refine v_getR X 49 fl_X8_19.r dX8_allow_46 rfl (fun v8 => ?_)
          refine v_iload_n X 50 2 dX8_allow_49 rfl rfl ?_
          refine v_vI X 53 cv_X9_length ml_X8_50 (n1 := 1) rfl [.int x2] rfl rfl rfl dX8_allow_50 rfl (fun r M1 h => c_X9_length _ _ _ _ _ _ h) (fun r10 M9 => ?_)
          refine v_iadd X 54 dX8_allow_53 rfl ?_
          refine v_icge X 57 61 dX8_allow_54 rfl rfl ?_ ?_
          · exact L_X8_allow_61 X Y ih _ _ _ _ _ _
          · refine v_iconst X 58 dX8_allow_57 ik_1 rfl ?_
            refine v_goto X 62 dX8_allow_58 rfl ?_
            exact L_X8_allow_62 X Y ih _ _ _ _ _ _ _
      · refine v_goto X 101 dX8_allow_23 rfl ?_
        exact L_X8_allow_101 X Y ih _ _ _ _ _ _
set_option maxRecDepth 4000 in
theorem L_X8_allow_0 {G : Gx} (X : Cb G cX8_allow 6 RX8 (RM 2 0 0) false) (Y : Cr G (some .boolean) 0 0) (x0 : Nat) (x1 : Int32) (x2 : Int32) (x3 : Int32) (M : MM) : V G trI 6 0 0 0 [(0, .ref x0), (1, .int x1), (2, .int x2), (3, .int x3)] [] M (f_X8_allow_0 x0 x1 x2 x3 M) := by
  unfold f_X8_allow_0
  refine v_iconst X 1 dX8_allow_0 ik_0 rfl ?_
  refine v_istore (lv' := [(0, .ref x0), (1, .int x1), (2, .int x2), (3, .int x3), (4, .int (0 : Int32))]) X 3 dX8_allow_1 (by decide) rfl rfl ?_
  exact L_X8_allow_3 X Y 1024 _ _ _ _ _ _
theorem c_X8_allow (l : Launch) (x0 : Nat) (x1 : Int32) (x2 : Int32) (x3 : Int32) (M : MM) (r : Int32) (M1 : MM) (h : f_X8_allow x0 x1 x2 x3 M = some (r, M1)) : KV l yX8_allow cX8_allow 6 (some .boolean) (RM 2 0 0) false 8 x0 [.int x1, .int x2, .int x3] M (some (.int r)) M1 := by
  obtain ⟨hO, h2⟩ := iteO_some h
  exact ⟨hO, ct_of (tr := trI) (by decide) (Nat.le_of_ble_eq_true rfl) [(0, .ref x0), (1, .int x1), (2, .int x2), (3, .int x3)] rfl h2 (fun G X Y hn hl => L_X8_allow_0 X Y x0 x1 x2 x3 M)⟩

def f_X8_allowBench_50 (K2 : Nat → Int32 → Int32 → Int32 → MM → Option (Int32 × MM)) (x0 : Nat) (x1 : Int32) (x2 : Int32) (x3 : Int32) (M : MM) : Option (Int32 × MM) :=
    bn (x3 + 1 : Int32) fun y1 =>
    K2 x0 x1 x2 y1 M

def f_X8_allowBench_2 : Nat → Nat → Int32 → Int32 → Int32 → MM → Option (Int32 × MM)
  | 0, _, _, _, _, _ => none
  | n + 1, x0, x1, x2, x3, M =>
    b1 (gI 8 4 x0 M) fun v1 =>
    if v1 ≤ x3 then
      rz (1 : Int32) M
    else
      b1 (gR 8 1 x0 M) fun v2 =>
      b1 (ldI v2 x3 M) fun v3 =>
      if v3 = x1 then
        b1 (gR 8 3 x0 M) fun v4 =>
        b1 (ldI v4 x3 M) fun v5 =>
        b1 (gR 8 0 x0 M) fun v6 =>
        b1 (gR 9 1 v6 M) fun v7 =>
        b1 (gR 8 2 x0 M) fun v8 =>
        b1 (ldI v8 x3 M) fun v9 =>
        b1 (ldI v7 v9 M) fun v10 =>
        if v10 < (absI (v5 - x2)) then
          f_X8_allowBench_50 (f_X8_allowBench_2 n) x0 x1 x2 x3 M
        else
          rz (0 : Int32) M
      else
        f_X8_allowBench_50 (f_X8_allowBench_2 n) x0 x1 x2 x3 M

def f_X8_allowBench_0 (x0 : Nat) (x1 : Int32) (x2 : Int32) (M : MM) : Option (Int32 × MM) :=
    f_X8_allowBench_2 1024 x0 x1 x2 (0 : Int32) M

def f_X8_allowBench (x0 : Nat) (x1 : Int32) (x2 : Int32) (M : MM) : Option (Int32 × MM) := if isO 8 x0 M = true then f_X8_allowBench_0 x0 x1 x2 M else none
set_option maxRecDepth 4000 in
theorem L_X8_allowBench_50 {G : Gx} (X : Cb G cX8_allowBench 4 RX8 (RM 2 0 0) false) (Y : Cr G (some .boolean) 0 0) {K2 : Nat → Int32 → Int32 → Int32 → MM → Option (Int32 × MM)} (hK2 : ∀ (x0 : Nat) (x1 : Int32) (x2 : Int32) (x3 : Int32) (M : MM), V G trI 4 0 0 2 [(0, .ref x0), (1, .int x1), (2, .int x2), (3, .int x3)] [] M (K2 x0 x1 x2 x3 M)) (x0 : Nat) (x1 : Int32) (x2 : Int32) (x3 : Int32) (M : MM) : V G trI 4 0 0 50 [(0, .ref x0), (1, .int x1), (2, .int x2), (3, .int x3)] [] M (f_X8_allowBench_50 K2 x0 x1 x2 x3 M) := by
  unfold f_X8_allowBench_50
  refine v_iinc X 53 3 (fun z => [(0, .ref x0), (1, .int x1), (2, .int x2), (3, .int z)]) dX8_allowBench_50 rfl ik_1 (by decide) (fun _ => rfl) rfl (fun y1 => ?_)
  refine v_goto X 2 dX8_allowBench_53 rfl ?_
  exact hK2 _ _ _ _ _
set_option maxRecDepth 4000 in
theorem L_X8_allowBench_2 {G : Gx} (X : Cb G cX8_allowBench 4 RX8 (RM 2 0 0) false) (Y : Cr G (some .boolean) 0 0) : ∀ (n : Nat) (x0 : Nat) (x1 : Int32) (x2 : Int32) (x3 : Int32) (M : MM), V G trI 4 0 0 2 [(0, .ref x0), (1, .int x1), (2, .int x2), (3, .int x3)] [] M (f_X8_allowBench_2 n x0 x1 x2 x3 M) := by
  intro n
  induction n with
  | zero => intro x0 x1 x2 x3 M; rw [f_X8_allowBench_2]; exact v_none
  | succ n ih =>
    intro x0 x1 x2 x3 M
    rw [f_X8_allowBench_2]
    refine v_iload_n X 3 3 dX8_allowBench_2 rfl rfl ?_
    refine v_aload_n X 4 0 dX8_allowBench_3 rfl rfl ?_
    refine v_getI X 7 fl_X8_23.r dX8_allowBench_4 rfl (fun v1 => ?_)
    refine v_icge X 10 56 dX8_allowBench_7 rfl rfl ?_ ?_
    · refine v_iconst X 57 dX8_allowBench_56 ik_1 rfl ?_
      exact v_zret X Y (Nat.le_refl _) (Nat.le_refl _) dX8_allowBench_57
    · refine v_aload_n X 11 0 dX8_allowBench_10 rfl rfl ?_
      refine v_getR X 14 fl_X8_9.r dX8_allowBench_11 rfl (fun v2 => ?_)
      refine v_iload_n X 15 3 dX8_allowBench_14 rfl rfl ?_
      refine v_iald X 16 dX8_allowBench_15 rfl (fun v3 => ?_)
      refine v_iload_n X 17 1 dX8_allowBench_16 rfl rfl ?_
      refine v_icne X 20 50 dX8_allowBench_17 rfl rfl ?_ ?_
      · exact L_X8_allowBench_50 X Y ih _ _ _ _ _
      · refine v_aload_n X 21 0 dX8_allowBench_20 rfl rfl ?_
        refine v_getR X 24 fl_X8_16.r dX8_allowBench_21 rfl (fun v4 => ?_)
        refine v_iload_n X 25 3 dX8_allowBench_24 rfl rfl ?_
        refine v_iald X 26 dX8_allowBench_25 rfl (fun v5 => ?_)
        refine v_iload_n X 27 2 dX8_allowBench_26 rfl rfl ?_
        refine v_isub X 28 dX8_allowBench_27 rfl ?_
        refine v_abs X 31 ml_X8_53 w_abs (Nat.le_of_ble_eq_true rfl) (Nat.le_of_ble_eq_true rfl) (Nat.zero_le _) (Nat.zero_le _) dX8_allowBench_28 rfl ?_
        refine v_aload_n X 32 0 dX8_allowBench_31 rfl rfl ?_
        refine v_getR X 35 fl_X8_19.r dX8_allowBench_32 rfl (fun v6 => ?_)
        refine v_getR X 38 fl_X8_27 dX8_allowBench_35 rfl (fun v7 => ?_)
        refine v_aload_n X 39 0 dX8_allowBench_38 rfl rfl ?_
        refine v_getR X 42 fl_X8_13.r dX8_allowBench_39 rfl (fun v8 => ?_)
        refine v_iload_n X 43 3 dX8_allowBench_42 rfl rfl ?_
        refine v_iald X 44 dX8_allowBench_43 rfl (fun v9 => ?_)
        refine v_iald X 45 dX8_allowBench_44 rfl (fun v10 => ?_)
        refine v_icgt X 48 50 dX8_allowBench_45 rfl rfl ?_ ?_
        · exact L_X8_allowBench_50 X Y ih _ _ _ _ _
        · refine v_iconst X 49 dX8_allowBench_48 ik_0 rfl ?_
          exact v_zret X Y (Nat.le_refl _) (Nat.le_refl _) dX8_allowBench_49
set_option maxRecDepth 4000 in
theorem L_X8_allowBench_0 {G : Gx} (X : Cb G cX8_allowBench 4 RX8 (RM 2 0 0) false) (Y : Cr G (some .boolean) 0 0) (x0 : Nat) (x1 : Int32) (x2 : Int32) (M : MM) : V G trI 4 0 0 0 [(0, .ref x0), (1, .int x1), (2, .int x2)] [] M (f_X8_allowBench_0 x0 x1 x2 M) := by
  unfold f_X8_allowBench_0
  refine v_iconst X 1 dX8_allowBench_0 ik_0 rfl ?_
  refine v_istore_n (lv' := [(0, .ref x0), (1, .int x1), (2, .int x2), (3, .int (0 : Int32))]) X 2 dX8_allowBench_1 (by decide) rfl rfl ?_
  exact L_X8_allowBench_2 X Y 1024 _ _ _ _ _
theorem c_X8_allowBench (l : Launch) (x0 : Nat) (x1 : Int32) (x2 : Int32) (M : MM) (r : Int32) (M1 : MM) (h : f_X8_allowBench x0 x1 x2 M = some (r, M1)) : KV l yX8_allowBench cX8_allowBench 4 (some .boolean) (RM 2 0 0) false 8 x0 [.int x1, .int x2] M (some (.int r)) M1 := by
  obtain ⟨hO, h2⟩ := iteO_some h
  exact ⟨hO, ct_of (tr := trI) (by decide) (Nat.le_of_ble_eq_true rfl) [(0, .ref x0), (1, .int x1), (2, .int x2)] rfl h2 (fun G X Y hn hl => L_X8_allowBench_0 X Y x0 x1 x2 M)⟩

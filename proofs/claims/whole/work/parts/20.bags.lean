def f_X0_read_24 (K7 : Nat → Nat → Int32 → MM → Option (Int32 × MM)) (x0 : Nat) (x1 : Nat) (x2 : Int32) (M : MM) : Option (Int32 × MM) :=
    b1 (gR 0 2 x0 M) fun v1 =>
    b2 (f_X10_digit x1 (1 : Int32) M) fun r3 M2 =>
    b1 (stI v1 x2 r3 M2) fun M4 =>
    b1 (gR 0 2 x0 M4) fun v5 =>
    b1 (ldI v5 x2 M4) fun v6 =>
    if 0 ≤ v6 then
      b1 (gI 0 1 x0 M4) fun v7 =>
      b1 (pI 0 1 x0 (v7 + (1 : Int32)) M4) fun M8 =>
      bn (x2 + 1 : Int32) fun y9 =>
      K7 x0 x1 y9 M8
    else
      rz (0 : Int32) M4

def f_X0_read_62 (x1 : Nat) (M : MM) : Option (Int32 × MM) :=
    b2 (f_X10_atEnd x1 M) fun r2 M1 =>
    rz r2 M1

def f_X0_read_7 : Nat → Nat → Nat → Int32 → MM → Option (Int32 × MM)
  | 0, _, _, _, _ => none
  | n + 1, x0, x1, x2, M =>
    if (8 : Int32) ≤ x2 then
      f_X0_read_62 x1 M
    else
      if x2 = 0 then
        f_X0_read_24 (f_X0_read_7 n) x0 x1 x2 M
      else
        b2 (f_X10_atEnd x1 M) fun r2 M1 =>
        if r2 = 0 then
          f_X0_read_24 (f_X0_read_7 n) x0 x1 x2 M1
        else
          f_X0_read_62 x1 M1

def f_X0_read_0 (x0 : Nat) (x1 : Nat) (M : MM) : Option (Int32 × MM) :=
    b1 (pI 0 1 x0 (0 : Int32) M) fun M1 =>
    f_X0_read_7 1024 x0 x1 (0 : Int32) M1

def f_X0_read (x0 : Nat) (x1 : Nat) (M : MM) : Option (Int32 × MM) := if isO 0 x0 M = true then f_X0_read_0 x0 x1 M else none
set_option maxRecDepth 4000 in
theorem L_X0_read_24 {G : Gx} (X : Cb G cX0_read 3 RX0 (RM 2 0 0) false) (Y : Cr G (some .boolean) 0 0) {K7 : Nat → Nat → Int32 → MM → Option (Int32 × MM)} (hK7 : ∀ (x0 : Nat) (x1 : Nat) (x2 : Int32) (M : MM), V G trI 3 0 0 7 [(0, .ref x0), (1, .ref x1), (2, .int x2)] [] M (K7 x0 x1 x2 M)) (x0 : Nat) (x1 : Nat) (x2 : Int32) (M : MM) : V G trI 3 0 0 24 [(0, .ref x0), (1, .ref x1), (2, .int x2)] [] M (f_X0_read_24 K7 x0 x1 x2 M) := by
  unfold f_X0_read_24
  refine v_aload_n X 25 0 dX0_read_24 rfl rfl ?_
  refine v_getR X 28 fl_X0_15.r dX0_read_25 rfl (fun v1 => ?_)
  refine v_iload_n X 29 2 dX0_read_28 rfl rfl ?_
  refine v_aload_n X 30 1 dX0_read_29 rfl rfl ?_
  refine v_iconst X 31 dX0_read_30 ik_1 rfl ?_
  refine v_vI X 34 cv_X10_digit ml_X0_34 (n1 := 1) rfl [.int (1 : Int32)] rfl rfl rfl dX0_read_31 rfl (fun r M1 h => c_X10_digit _ _ _ _ _ _ h) (fun r3 M2 => ?_)
  refine v_iast X 35 dX0_read_34 rfl (fun M4 => ?_)
  refine v_aload_n X 36 0 dX0_read_35 rfl rfl ?_
  refine v_getR X 39 fl_X0_15.r dX0_read_36 rfl (fun v5 => ?_)
  refine v_iload_n X 40 2 dX0_read_39 rfl rfl ?_
  refine v_iald X 41 dX0_read_40 rfl (fun v6 => ?_)
  refine v_ifge X 44 46 dX0_read_41 rfl rfl ?_ ?_
  · refine v_aload_n X 47 0 dX0_read_46 rfl rfl ?_
    refine v_dup X 48 dX0_read_47 rfl rfl ?_
    refine v_getI X 51 fl_X0_24.r dX0_read_48 rfl (fun v7 => ?_)
    refine v_iconst X 52 dX0_read_51 ik_1 rfl ?_
    refine v_iadd X 53 dX0_read_52 rfl ?_
    refine v_putI X 56 fl_X0_24 nof dX0_read_53 rfl (fun M8 => ?_)
    refine v_iinc X 59 2 (fun z => [(0, .ref x0), (1, .ref x1), (2, .int z)]) dX0_read_56 rfl ik_1 (by decide) (fun _ => rfl) rfl (fun y9 => ?_)
    refine v_goto X 7 dX0_read_59 rfl ?_
    exact hK7 _ _ _ _
  · refine v_iconst X 45 dX0_read_44 ik_0 rfl ?_
    exact v_zret X Y (Nat.le_refl _) (Nat.le_refl _) dX0_read_45
set_option maxRecDepth 4000 in
theorem L_X0_read_62 {G : Gx} (X : Cb G cX0_read 3 RX0 (RM 2 0 0) false) (Y : Cr G (some .boolean) 0 0) (x1 : Nat) (M : MM) : V G trI 3 0 0 62 [(1, .ref x1)] [] M (f_X0_read_62 x1 M) := by
  unfold f_X0_read_62
  refine v_aload_n X 63 0 dX0_read_62 rfl rfl ?_
  refine v_vI X 66 cv_X10_atEnd ml_X0_28 (n1 := 1) rfl [] rfl rfl rfl dX0_read_63 rfl (fun r M1 h => c_X10_atEnd _ _ _ _ _ h) (fun r2 M1 => ?_)
  exact v_zret X Y (Nat.le_refl _) (Nat.le_refl _) dX0_read_66
set_option maxRecDepth 4000 in
theorem L_X0_read_7 {G : Gx} (X : Cb G cX0_read 3 RX0 (RM 2 0 0) false) (Y : Cr G (some .boolean) 0 0) : ∀ (n : Nat) (x0 : Nat) (x1 : Nat) (x2 : Int32) (M : MM), V G trI 3 0 0 7 [(0, .ref x0), (1, .ref x1), (2, .int x2)] [] M (f_X0_read_7 n x0 x1 x2 M) := by
  intro n
  induction n with
  | zero => intro x0 x1 x2 M; rw [f_X0_read_7]; exact v_none
  | succ n ih =>
    intro x0 x1 x2 M
    rw [f_X0_read_7]
    refine v_iload_n X 8 2 dX0_read_7 rfl rfl ?_
    refine v_bipush X 10 dX0_read_8 bk_8 rfl ?_
    refine v_icge X 13 62 dX0_read_10 rfl rfl ?_ ?_
    · exact v_sb [1] (L_X0_read_62 X Y _ _) rfl
    · refine v_iload_n X 14 2 dX0_read_13 rfl rfl ?_
      refine v_ifeq X 17 24 dX0_read_14 rfl rfl ?_ ?_
      · exact L_X0_read_24 X Y ih _ _ _ _
      · refine v_aload_n X 18 1 dX0_read_17 rfl rfl ?_
        refine v_vI X 21 cv_X10_atEnd ml_X0_28 (n1 := 1) rfl [] rfl rfl rfl dX0_read_18 rfl (fun r M1 h => c_X10_atEnd _ _ _ _ _ h) (fun r2 M1 => ?_)
        refine v_ifne X 24 62 dX0_read_21 rfl rfl ?_ ?_
        · exact v_sb [1] (L_X0_read_62 X Y _ _) rfl
        · exact L_X0_read_24 X Y ih _ _ _ _
set_option maxRecDepth 4000 in
theorem L_X0_read_0 {G : Gx} (X : Cb G cX0_read 3 RX0 (RM 2 0 0) false) (Y : Cr G (some .boolean) 0 0) (x0 : Nat) (x1 : Nat) (M : MM) : V G trI 3 0 0 0 [(0, .ref x0), (1, .ref x1)] [] M (f_X0_read_0 x0 x1 M) := by
  unfold f_X0_read_0
  refine v_aload_n X 1 0 dX0_read_0 rfl rfl ?_
  refine v_iconst X 2 dX0_read_1 ik_0 rfl ?_
  refine v_putI X 5 fl_X0_24 nof dX0_read_2 rfl (fun M1 => ?_)
  refine v_iconst X 6 dX0_read_5 ik_0 rfl ?_
  refine v_istore_n (lv' := [(0, .ref x0), (1, .ref x1), (2, .int (0 : Int32))]) X 7 dX0_read_6 (by decide) rfl rfl ?_
  exact L_X0_read_7 X Y 1024 _ _ _ _
theorem c_X0_read (l : Launch) (x0 : Nat) (x1 : Nat) (M : MM) (r : Int32) (M1 : MM) (h : f_X0_read x0 x1 M = some (r, M1)) : KV l yX0_read cX0_read 3 (some .boolean) (RM 2 0 0) false 0 x0 [.ref x1] M (some (.int r)) M1 := by
  obtain ⟨hO, h2⟩ := iteO_some h
  exact ⟨hO, ct_of (tr := trI) (by decide) (Nat.le_of_ble_eq_true rfl) [(0, .ref x0), (1, .ref x1)] rfl h2 (fun G X Y hn hl => L_X0_read_0 X Y x0 x1 M)⟩

def f_X0_sizeOf_31 (K4 : Nat → Int32 → Int32 → Int32 → MM → Option (Int32 × MM)) (x0 : Nat) (x1 : Int32) (x3 : Int32) (s0 : Int32) (s1 : Int32) (M : MM) : Option (Int32 × MM) :=
    bn (s1 + s0 : Int32) fun y1 =>
    bn (x3 + 1 : Int32) fun y2 =>
    K4 x0 x1 y1 y2 M

def f_X0_sizeOf_4 : Nat → Nat → Int32 → Int32 → Int32 → MM → Option (Int32 × MM)
  | 0, _, _, _, _, _ => none
  | n + 1, x0, x1, x2, x3, M =>
    b1 (gI 0 1 x0 M) fun v1 =>
    if v1 ≤ x3 then
      some (x2, M)
    else
      if ((x1 >>> (x3 &&& 31)) &&& (1 : Int32)) = 0 then
        f_X0_sizeOf_31 (f_X0_sizeOf_4 n) x0 x1 x3 (0 : Int32) x2 M
      else
        b1 (gR 0 2 x0 M) fun v2 =>
        b1 (ldI v2 x3 M) fun v3 =>
        f_X0_sizeOf_31 (f_X0_sizeOf_4 n) x0 x1 x3 v3 x2 M

def f_X0_sizeOf_0 (x0 : Nat) (x1 : Int32) (M : MM) : Option (Int32 × MM) :=
    f_X0_sizeOf_4 1024 x0 x1 (0 : Int32) (0 : Int32) M

def f_X0_sizeOf (x0 : Nat) (x1 : Int32) (M : MM) : Option (Int32 × MM) := if isO 0 x0 M = true then f_X0_sizeOf_0 x0 x1 M else none
set_option maxRecDepth 4000 in
theorem L_X0_sizeOf_31 {G : Gx} (X : Cb G cX0_sizeOf 4 RX0 (RM 1 0 0) false) (Y : Cr G (some .int) 0 0) {K4 : Nat → Int32 → Int32 → Int32 → MM → Option (Int32 × MM)} (hK4 : ∀ (x0 : Nat) (x1 : Int32) (x2 : Int32) (x3 : Int32) (M : MM), V G trI 4 0 0 4 [(0, .ref x0), (1, .int x1), (2, .int x2), (3, .int x3)] [] M (K4 x0 x1 x2 x3 M)) (x0 : Nat) (x1 : Int32) (x3 : Int32) (s0 : Int32) (s1 : Int32) (M : MM) : V G trI 4 0 0 31 [(0, .ref x0), (1, .int x1), (3, .int x3)] [.int s0, .int s1] M (f_X0_sizeOf_31 K4 x0 x1 x3 s0 s1 M) := by
  unfold f_X0_sizeOf_31
  refine v_iadd X 32 dX0_sizeOf_31 rfl ?_
  refine v_bnI (fun y1 => ?_)
  refine v_istore_n (lv' := [(0, .ref x0), (1, .int x1), (2, .int y1), (3, .int x3)]) X 33 dX0_sizeOf_32 (by decide) rfl rfl ?_
  refine v_iinc X 36 3 (fun z => [(0, .ref x0), (1, .int x1), (2, .int y1), (3, .int z)]) dX0_sizeOf_33 rfl ik_1 (by decide) (fun _ => rfl) rfl (fun y2 => ?_)
  refine v_goto X 4 dX0_sizeOf_36 rfl ?_
  exact hK4 _ _ _ _ _
set_option maxRecDepth 4000 in
theorem L_X0_sizeOf_4 {G : Gx} (X : Cb G cX0_sizeOf 4 RX0 (RM 1 0 0) false) (Y : Cr G (some .int) 0 0) : ∀ (n : Nat) (x0 : Nat) (x1 : Int32) (x2 : Int32) (x3 : Int32) (M : MM), V G trI 4 0 0 4 [(0, .ref x0), (1, .int x1), (2, .int x2), (3, .int x3)] [] M (f_X0_sizeOf_4 n x0 x1 x2 x3 M) := by
  intro n
  induction n with
  | zero => intro x0 x1 x2 x3 M; rw [f_X0_sizeOf_4]; exact v_none
  | succ n ih =>
    intro x0 x1 x2 x3 M
    rw [f_X0_sizeOf_4]
    refine v_iload_n X 5 3 dX0_sizeOf_4 rfl rfl ?_
    refine v_aload_n X 6 0 dX0_sizeOf_5 rfl rfl ?_
    refine v_getI X 9 fl_X0_24.r dX0_sizeOf_6 rfl (fun v1 => ?_)
    refine v_icge X 12 39 dX0_sizeOf_9 rfl rfl ?_ ?_
    · refine v_iload_n X 40 2 dX0_sizeOf_39 rfl rfl ?_
      exact v_iret X Y (Nat.le_refl _) (Nat.le_refl _) dX0_sizeOf_40
    · refine v_iload_n X 13 2 dX0_sizeOf_12 rfl rfl ?_
      refine v_iload_n X 14 1 dX0_sizeOf_13 rfl rfl ?_
      refine v_iload_n X 15 3 dX0_sizeOf_14 rfl rfl ?_
      refine v_ishr X 16 dX0_sizeOf_15 rfl ?_
      refine v_iconst X 17 dX0_sizeOf_16 ik_1 rfl ?_
      refine v_iand X 18 dX0_sizeOf_17 rfl ?_
      refine v_ifeq X 21 30 dX0_sizeOf_18 rfl rfl ?_ ?_
      · refine v_iconst X 31 dX0_sizeOf_30 ik_0 rfl ?_
        exact v_sb [0, 1, 3] (L_X0_sizeOf_31 X Y ih _ _ _ _ _ _) rfl
      · refine v_aload_n X 22 0 dX0_sizeOf_21 rfl rfl ?_
        refine v_getR X 25 fl_X0_15.r dX0_sizeOf_22 rfl (fun v2 => ?_)
        refine v_iload_n X 26 3 dX0_sizeOf_25 rfl rfl ?_
        refine v_iald X 27 dX0_sizeOf_26 rfl (fun v3 => ?_)
        refine v_goto X 31 dX0_sizeOf_27 rfl ?_
        exact v_sb [0, 1, 3] (L_X0_sizeOf_31 X Y ih _ _ _ _ _ _) rfl
set_option maxRecDepth 4000 in
theorem L_X0_sizeOf_0 {G : Gx} (X : Cb G cX0_sizeOf 4 RX0 (RM 1 0 0) false) (Y : Cr G (some .int) 0 0) (x0 : Nat) (x1 : Int32) (M : MM) : V G trI 4 0 0 0 [(0, .ref x0), (1, .int x1)] [] M (f_X0_sizeOf_0 x0 x1 M) := by
  unfold f_X0_sizeOf_0
  refine v_iconst X 1 dX0_sizeOf_0 ik_0 rfl ?_
  refine v_istore_n (lv' := [(0, .ref x0), (1, .int x1), (2, .int (0 : Int32))]) X 2 dX0_sizeOf_1 (by decide) rfl rfl ?_
  refine v_iconst X 3 dX0_sizeOf_2 ik_0 rfl ?_
  refine v_istore_n (lv' := [(0, .ref x0), (1, .int x1), (2, .int (0 : Int32)), (3, .int (0 : Int32))]) X 4 dX0_sizeOf_3 (by decide) rfl rfl ?_
  exact L_X0_sizeOf_4 X Y 1024 _ _ _ _ _
theorem c_X0_sizeOf (l : Launch) (x0 : Nat) (x1 : Int32) (M : MM) (r : Int32) (M1 : MM) (h : f_X0_sizeOf x0 x1 M = some (r, M1)) : KV l yX0_sizeOf cX0_sizeOf 4 (some .int) (RM 1 0 0) false 0 x0 [.int x1] M (some (.int r)) M1 := by
  obtain ⟨hO, h2⟩ := iteO_some h
  exact ⟨hO, ct_of (tr := trI) (by decide) (Nat.le_of_ble_eq_true rfl) [(0, .ref x0), (1, .int x1)] rfl h2 (fun G X Y hn hl => L_X0_sizeOf_0 X Y x0 x1 M)⟩

def f_X0_withOneMore_24 (x0 : Int32) (x1 : Int32) (s0 : Int32) (M : MM) : Option (Int32 × MM) :=
    if s0 = 0 then
      some (((x0 &&& (-32 : Int32)) + (32 : Int32)) + x1, M)
    else
      some (x0 + x1, M)

def f_X0_withOneMore_0 (x0 : Int32) (x1 : Int32) (x2 : Int32) (M : MM) : Option (Int32 × MM) :=
    if x0 < (1048576 : Int32) then
      if x2 < ((x0 &&& (31 : Int32)) + x1) then
        f_X0_withOneMore_24 x0 x1 (0 : Int32) M
      else
        f_X0_withOneMore_24 x0 x1 (1 : Int32) M
    else
      some ((1048576 : Int32), M)

def f_X0_withOneMore (x0 : Int32) (x1 : Int32) (x2 : Int32) (M : MM) : Option (Int32 × MM) := f_X0_withOneMore_0 x0 x1 x2 M
set_option maxRecDepth 4000 in
theorem L_X0_withOneMore_24 {G : Gx} (X : Cb G cX0_withOneMore 4 RX0 (RM 1 0 0) false) (Y : Cr G (some .int) 0 0) (x0 : Int32) (x1 : Int32) (s0 : Int32) (M : MM) : V G trI 4 0 0 24 [(0, .int x0), (1, .int x1)] [.int s0] M (f_X0_withOneMore_24 x0 x1 s0 M) := by
  unfold f_X0_withOneMore_24
  refine v_istore_n (lv' := [(0, .int x0), (1, .int x1), (3, .int s0)]) X 25 dX0_withOneMore_24 (by decide) rfl rfl ?_
  refine v_iload_n X 26 2 dX0_withOneMore_25 rfl rfl ?_
  refine v_ifeq X 29 35 dX0_withOneMore_26 rfl rfl ?_ ?_
  · refine v_iload_n X 36 0 dX0_withOneMore_35 rfl rfl ?_
    refine v_bipush X 38 dX0_withOneMore_36 bk_m32 rfl ?_
    refine v_iand X 39 dX0_withOneMore_38 rfl ?_
    refine v_bipush X 41 dX0_withOneMore_39 bk_32 rfl ?_
    refine v_iadd X 42 dX0_withOneMore_41 rfl ?_
    refine v_iload_n X 43 1 dX0_withOneMore_42 rfl rfl ?_
    refine v_iadd X 44 dX0_withOneMore_43 rfl ?_
    exact v_iret X Y (Nat.le_refl _) (Nat.le_refl _) dX0_withOneMore_44
  · refine v_iload_n X 30 0 dX0_withOneMore_29 rfl rfl ?_
    refine v_iload_n X 31 1 dX0_withOneMore_30 rfl rfl ?_
    refine v_iadd X 32 dX0_withOneMore_31 rfl ?_
    refine v_goto X 44 dX0_withOneMore_32 rfl ?_
    exact v_iret X Y (Nat.le_refl _) (Nat.le_refl _) dX0_withOneMore_44
set_option maxRecDepth 4000 in
theorem L_X0_withOneMore_0 {G : Gx} (X : Cb G cX0_withOneMore 4 RX0 (RM 1 0 0) false) (Y : Cr G (some .int) 0 0) (x0 : Int32) (x1 : Int32) (x2 : Int32) (M : MM) : V G trI 4 0 0 0 [(0, .int x0), (1, .int x1), (2, .int x2)] [] M (f_X0_withOneMore_0 x0 x1 x2 M) := by
  unfold f_X0_withOneMore_0
  refine v_iload_n X 1 0 dX0_withOneMore_0 rfl rfl ?_
  refine v_ldc X 3 dX0_withOneMore_1 kc_X0_38 rfl ?_
  refine v_iclt X 6 9 dX0_withOneMore_3 rfl rfl ?_ ?_
  · refine v_iload_n X 10 0 dX0_withOneMore_9 rfl rfl ?_
    refine v_bipush X 12 dX0_withOneMore_10 bk_31 rfl ?_
    refine v_iand X 13 dX0_withOneMore_12 rfl ?_
    refine v_iload_n X 14 1 dX0_withOneMore_13 rfl rfl ?_
    refine v_iadd X 15 dX0_withOneMore_14 rfl ?_
    refine v_iload_n X 16 2 dX0_withOneMore_15 rfl rfl ?_
    refine v_icgt X 19 23 dX0_withOneMore_16 rfl rfl ?_ ?_
    · refine v_iconst X 24 dX0_withOneMore_23 ik_0 rfl ?_
      exact v_sb [0, 1] (L_X0_withOneMore_24 X Y _ _ _ _) rfl
    · refine v_iconst X 20 dX0_withOneMore_19 ik_1 rfl ?_
      refine v_goto X 24 dX0_withOneMore_20 rfl ?_
      exact v_sb [0, 1] (L_X0_withOneMore_24 X Y _ _ _ _) rfl
  · refine v_ldc X 8 dX0_withOneMore_6 kc_X0_38 rfl ?_
    exact v_iret X Y (Nat.le_refl _) (Nat.le_refl _) dX0_withOneMore_8
theorem c_X0_withOneMore (l : Launch) (x0 : Int32) (x1 : Int32) (x2 : Int32) (M : MM) (r : Int32) (M1 : MM) (h : f_X0_withOneMore x0 x1 x2 M = some (r, M1)) : CtAt l yX0_withOneMore cX0_withOneMore 4 (some .int) (RM 1 0 0) false [.int x0, .int x1, .int x2] M (some (.int r)) M1 :=
  ct_of (tr := trI) (by decide) (Nat.le_of_ble_eq_true rfl) [(0, .int x0), (1, .int x1), (2, .int x2)] rfl h (fun G X Y hn hl => L_X0_withOneMore_0 X Y x0 x1 x2 M)

def f_X0_weigh_90 (K9 : Nat → Int32 → Int32 → MM → Option (MM)) (K29 : Nat → Int32 → Int32 → Int32 → MM → Option (MM)) (x0 : Nat) (x1 : Int32) (x2 : Int32) (x3 : Int32) (M : MM) : Option (MM) :=
    bn (x3 + 1 : Int32) fun y1 =>
    K29 x0 x1 x2 y1 M

def f_X0_weigh_29 (K9 : Nat → Int32 → Int32 → MM → Option (MM)) : Nat → Nat → Int32 → Int32 → Int32 → MM → Option (MM)
  | 0, _, _, _, _, _ => none
  | n + 1, x0, x1, x2, x3, M =>
    b1 (gI 0 1 x0 M) fun v1 =>
    if v1 ≤ x3 then
      bn (x2 + 1 : Int32) fun y2 =>
      K9 x0 x1 y2 M
    else
      if ((x2 >>> (x3 &&& 31)) &&& (1 : Int32)) = 0 then
        f_X0_weigh_90 K9 (f_X0_weigh_29 K9 n) x0 x1 x2 x3 M
      else
        b1 (gR 0 2 x0 M) fun v3 =>
        b1 (ldI v3 x3 M) fun v4 =>
        if x1 < v4 then
          f_X0_weigh_90 K9 (f_X0_weigh_29 K9 n) x0 x1 x2 x3 M
        else
          b1 (gR 0 4 x0 M) fun v5 =>
          b1 (gR 0 4 x0 M) fun v6 =>
          b1 (ldI v6 x2 M) fun v7 =>
          b1 (gR 0 4 x0 M) fun v8 =>
          b1 (ldI v8 (x2 ^^^ ((1 : Int32) <<< (x3 &&& 31))) M) fun v9 =>
          b1 (gR 0 2 x0 M) fun v10 =>
          b1 (ldI v10 x3 M) fun v11 =>
          b2 (f_X0_withOneMore v9 v11 x1 M) fun r13 M12 =>
          b1 (stI v5 x2 (minI v7 r13) M12) fun M14 =>
          f_X0_weigh_90 K9 (f_X0_weigh_29 K9 n) x0 x1 x2 x3 M14

def f_X0_weigh_9 : Nat → Nat → Int32 → Int32 → MM → Option (MM)
  | 0, _, _, _, _ => none
  | n + 1, x0, x1, x2, M =>
    b1 (gI 0 1 x0 M) fun v1 =>
    if ((1 : Int32) <<< (v1 &&& 31)) ≤ x2 then
      some M
    else
      b1 (gR 0 4 x0 M) fun v2 =>
      b1 (stI v2 x2 (1048576 : Int32) M) fun M3 =>
      f_X0_weigh_29 (f_X0_weigh_9 n) 1024 x0 x1 x2 (0 : Int32) M3

def f_X0_weigh_0 (x0 : Nat) (x1 : Int32) (M : MM) : Option (MM) :=
    b1 (gR 0 4 x0 M) fun v1 =>
    b1 (stI v1 (0 : Int32) x1 M) fun M2 =>
    f_X0_weigh_9 1024 x0 x1 (1 : Int32) M2

def f_X0_weigh (x0 : Nat) (x1 : Int32) (M : MM) : Option (MM) := if isO 0 x0 M = true then f_X0_weigh_0 x0 x1 M else none
set_option maxRecDepth 4000 in
theorem L_X0_weigh_90 {G : Gx} (X : Cb G cX0_weigh 4 RX0 (RM 2 0 0) false) (Y : Cr G none 0 0) {K9 : Nat → Int32 → Int32 → MM → Option (MM)} (hK9 : ∀ (x0 : Nat) (x1 : Int32) (x2 : Int32) (M : MM), V G trV 4 0 0 9 [(0, .ref x0), (1, .int x1), (2, .int x2)] [] M (K9 x0 x1 x2 M)) {K29 : Nat → Int32 → Int32 → Int32 → MM → Option (MM)} (hK29 : ∀ (x0 : Nat) (x1 : Int32) (x2 : Int32) (x3 : Int32) (M : MM), V G trV 4 0 0 29 [(0, .ref x0), (1, .int x1), (2, .int x2), (3, .int x3)] [] M (K29 x0 x1 x2 x3 M)) (x0 : Nat) (x1 : Int32) (x2 : Int32) (x3 : Int32) (M : MM) : V G trV 4 0 0 90 [(0, .ref x0), (1, .int x1), (2, .int x2), (3, .int x3)] [] M (f_X0_weigh_90 K9 K29 x0 x1 x2 x3 M) := by
  unfold f_X0_weigh_90
  refine v_iinc X 93 3 (fun z => [(0, .ref x0), (1, .int x1), (2, .int x2), (3, .int z)]) dX0_weigh_90 rfl ik_1 (by decide) (fun _ => rfl) rfl (fun y1 => ?_)
  refine v_goto X 29 dX0_weigh_93 rfl ?_
  exact hK29 _ _ _ _ _
set_option maxRecDepth 4000 in
theorem L_X0_weigh_29 {G : Gx} (X : Cb G cX0_weigh 4 RX0 (RM 2 0 0) false) (Y : Cr G none 0 0) {K9 : Nat → Int32 → Int32 → MM → Option (MM)} (hK9 : ∀ (x0 : Nat) (x1 : Int32) (x2 : Int32) (M : MM), V G trV 4 0 0 9 [(0, .ref x0), (1, .int x1), (2, .int x2)] [] M (K9 x0 x1 x2 M)) : ∀ (n : Nat) (x0 : Nat) (x1 : Int32) (x2 : Int32) (x3 : Int32) (M : MM), V G trV 4 0 0 29 [(0, .ref x0), (1, .int x1), (2, .int x2), (3, .int x3)] [] M (f_X0_weigh_29 K9 n x0 x1 x2 x3 M) := by
  intro n
  induction n with
  | zero => intro x0 x1 x2 x3 M; rw [f_X0_weigh_29]; exact v_none
  | succ n ih =>
    intro x0 x1 x2 x3 M
    rw [f_X0_weigh_29]
    refine v_iload_n X 30 3 dX0_weigh_29 rfl rfl ?_
    refine v_aload_n X 31 0 dX0_weigh_30 rfl rfl ?_
    refine v_getI X 34 fl_X0_24.r dX0_weigh_31 rfl (fun v1 => ?_)
    refine v_icge X 37 96 dX0_weigh_34 rfl rfl ?_ ?_
    · refine v_iinc X 99 2 (fun z => [(0, .ref x0), (1, .int x1), (2, .int z), (3, .int x3)]) dX0_weigh_96 rfl ik_1 (by decide) (fun _ => rfl) rfl (fun y2 => ?_)
      refine v_goto X 9 dX0_weigh_99 rfl ?_
      exact v_sb [0, 1, 2] (hK9 _ _ _ _) rfl
    · refine v_iload_n X 38 2 dX0_weigh_37 rfl rfl ?_
      refine v_iload_n X 39 3 dX0_weigh_38 rfl rfl ?_
      refine v_ishr X 40 dX0_weigh_39 rfl ?_
      refine v_iconst X 41 dX0_weigh_40 ik_1 rfl ?_
      refine v_iand X 42 dX0_weigh_41 rfl ?_
      refine v_ifeq X 45 90 dX0_weigh_42 rfl rfl ?_ ?_
      · exact L_X0_weigh_90 X Y hK9 ih _ _ _ _ _
      · refine v_aload_n X 46 0 dX0_weigh_45 rfl rfl ?_
        refine v_getR X 49 fl_X0_15.r dX0_weigh_46 rfl (fun v3 => ?_)
        refine v_iload_n X 50 3 dX0_weigh_49 rfl rfl ?_
        refine v_iald X 51 dX0_weigh_50 rfl (fun v4 => ?_)
        refine v_iload_n X 52 1 dX0_weigh_51 rfl rfl ?_
        refine v_icgt X 55 90 dX0_weigh_52 rfl rfl ?_ ?_
        · exact L_X0_weigh_90 X Y hK9 ih _ _ _ _ _
        · refine v_aload_n X 56 0 dX0_weigh_55 rfl rfl ?_
          refine v_getR X 59 fl_X0_21.r dX0_weigh_56 rfl (fun v5 => ?_)
          refine v_iload_n X 60 2 dX0_weigh_59 rfl rfl ?_
          refine v_aload_n X 61 0 dX0_weigh_60 rfl rfl ?_
          refine v_getR X 64 fl_X0_21.r dX0_weigh_61 rfl (fun v6 => ?_)
          refine v_iload_n X 65 2 dX0_weigh_64 rfl rfl ?_
          refine v_iald X 66 dX0_weigh_65 rfl (fun v7 => ?_)
          refine v_aload_n X 67 0 dX0_weigh_66 rfl rfl ?_
          refine v_getR X 70 fl_X0_21.r dX0_weigh_67 rfl (fun v8 => ?_)
          refine v_iload_n X 71 2 dX0_weigh_70 rfl rfl ?_
          refine v_iconst X 72 dX0_weigh_71 ik_1 rfl ?_
          refine v_iload_n X 73 3 dX0_weigh_72 rfl rfl ?_
          refine v_ishl X 74 dX0_weigh_73 rfl ?_
          refine v_ixor X 75 dX0_weigh_74 rfl ?_
          refine v_iald X 76 dX0_weigh_75 rfl (fun v9 => ?_)
          refine v_aload_n X 77 0 dX0_weigh_76 rfl rfl ?_
          refine v_getR X 80 fl_X0_15.r dX0_weigh_77 rfl (fun v10 => ?_)
          refine v_iload_n X 81 3 dX0_weigh_80 rfl rfl ?_
          refine v_iald X 82 dX0_weigh_81 rfl (fun v11 => ?_)
          refine v_iload_n X 83 1 dX0_weigh_82 rfl rfl ?_
          refine v_sI X 86 cs_X0_withOneMore ml_X0_39 (n1 := 1) rfl [.int v9, .int v11, .int x1] rfl rfl rfl dX0_weigh_83 rfl (fun r M1 h => c_X0_withOneMore _ _ _ _ _ _ _ h) (fun r13 M12 => ?_)
          refine v_min X 89 ml_X0_43 w_min (Nat.le_of_ble_eq_true rfl) (Nat.le_of_ble_eq_true rfl) (Nat.zero_le _) (Nat.zero_le _) dX0_weigh_86 rfl ?_
          refine v_iast X 90 dX0_weigh_89 rfl (fun M14 => ?_)
          exact L_X0_weigh_90 X Y hK9 ih _ _ _ _ _
set_option maxRecDepth 4000 in
theorem L_X0_weigh_9 {G : Gx} (X : Cb G cX0_weigh 4 RX0 (RM 2 0 0) false) (Y : Cr G none 0 0) : ∀ (n : Nat) (x0 : Nat) (x1 : Int32) (x2 : Int32) (M : MM), V G trV 4 0 0 9 [(0, .ref x0), (1, .int x1), (2, .int x2)] [] M (f_X0_weigh_9 n x0 x1 x2 M) := by
  intro n
  induction n with
  | zero => intro x0 x1 x2 M; rw [f_X0_weigh_9]; exact v_none
  | succ n ih =>
    intro x0 x1 x2 M
    rw [f_X0_weigh_9]
    refine v_iload_n X 10 2 dX0_weigh_9 rfl rfl ?_
    refine v_iconst X 11 dX0_weigh_10 ik_1 rfl ?_
    refine v_aload_n X 12 0 dX0_weigh_11 rfl rfl ?_
    refine v_getI X 15 fl_X0_24.r dX0_weigh_12 rfl (fun v1 => ?_)
    refine v_ishl X 16 dX0_weigh_15 rfl ?_
    refine v_icge X 19 102 dX0_weigh_16 rfl rfl ?_ ?_
    · exact v_vret X Y (Nat.le_refl _) (Nat.le_refl _) dX0_weigh_102
    · refine v_aload_n X 20 0 dX0_weigh_19 rfl rfl ?_
      refine v_getR X 23 fl_X0_21.r dX0_weigh_20 rfl (fun v2 => ?_)
      refine v_iload_n X 24 2 dX0_weigh_23 rfl rfl ?_
      refine v_ldc X 26 dX0_weigh_24 kc_X0_38 rfl ?_
      refine v_iast X 27 dX0_weigh_26 rfl (fun M3 => ?_)
      refine v_iconst X 28 dX0_weigh_27 ik_0 rfl ?_
      refine v_istore_n (lv' := [(0, .ref x0), (1, .int x1), (2, .int x2), (3, .int (0 : Int32))]) X 29 dX0_weigh_28 (by decide) rfl rfl ?_
      exact L_X0_weigh_29 X Y ih 1024 _ _ _ _ _
set_option maxRecDepth 4000 in
theorem L_X0_weigh_0 {G : Gx} (X : Cb G cX0_weigh 4 RX0 (RM 2 0 0) false) (Y : Cr G none 0 0) (x0 : Nat) (x1 : Int32) (M : MM) : V G trV 4 0 0 0 [(0, .ref x0), (1, .int x1)] [] M (f_X0_weigh_0 x0 x1 M) := by
  unfold f_X0_weigh_0
  refine v_aload_n X 1 0 dX0_weigh_0 rfl rfl ?_
  refine v_getR X 4 fl_X0_21.r dX0_weigh_1 rfl (fun v1 => ?_)
  refine v_iconst X 5 dX0_weigh_4 ik_0 rfl ?_
  refine v_iload_n X 6 1 dX0_weigh_5 rfl rfl ?_
  refine v_iast X 7 dX0_weigh_6 rfl (fun M2 => ?_)
  refine v_iconst X 8 dX0_weigh_7 ik_1 rfl ?_
  refine v_istore_n (lv' := [(0, .ref x0), (1, .int x1), (2, .int (1 : Int32))]) X 9 dX0_weigh_8 (by decide) rfl rfl ?_
  exact L_X0_weigh_9 X Y 1024 _ _ _ _
theorem c_X0_weigh (l : Launch) (x0 : Nat) (x1 : Int32) (M : MM) (M1 : MM) (h : f_X0_weigh x0 x1 M = some M1) : KV l yX0_weigh cX0_weigh 4 none (RM 2 0 0) false 0 x0 [.int x1] M none M1 := by
  obtain ⟨hO, h2⟩ := iteO_some h
  exact ⟨hO, ct_of (tr := trV) (by decide) (Nat.le_of_ble_eq_true rfl) [(0, .ref x0), (1, .int x1)] rfl h2 (fun G X Y hn hl => L_X0_weigh_0 X Y x0 x1 M)⟩

def f_X0_place_112 (P0 : Nat → Int32 → Int32 → Int32 → MM → Option (Int32 × MM)) (K13 : Nat → Int32 → Int32 → Int32 → Int32 → MM → Option (Int32 × MM)) (x0 : Nat) (x1 : Int32) (x2 : Int32) (x3 : Int32) (x4 : Int32) (M : MM) : Option (Int32 × MM) :=
    bn (x4 + 1 : Int32) fun y1 =>
    K13 x0 x1 x2 x3 y1 M

def f_X0_place_13 (P0 : Nat → Int32 → Int32 → Int32 → MM → Option (Int32 × MM)) : Nat → Nat → Int32 → Int32 → Int32 → Int32 → MM → Option (Int32 × MM)
  | 0, _, _, _, _, _, _ => none
  | n + 1, x0, x1, x2, x3, x4, M =>
    if (8 : Int32) ≤ x4 then
      rz (0 : Int32) M
    else
      if x2 < x4 then
        rz (0 : Int32) M
      else
        if x3 ≤ x4 then
          rz (0 : Int32) M
        else
          b1 (gR 0 3 x0 M) fun v1 =>
          b1 (ldI v1 x4 M) fun v2 =>
          b1 (gR 0 2 x0 M) fun v3 =>
          b1 (ldI v3 x1 M) fun v4 =>
          if v4 ≤ v2 then
            b1 (gR 0 3 x0 M) fun v5 =>
            b1 (ldI v5 x4 M) fun v6 =>
            b1 (gR 0 2 x0 M) fun v7 =>
            b1 (ldI v7 x1 M) fun v8 =>
            b1 (stI v5 x4 (v6 - v8) M) fun M9 =>
            b1 (gR 0 0 x0 M9) fun v10 =>
            b1 (stI v10 x1 x4 M9) fun M11 =>
            b2 (P0 x0 (x1 + (1 : Int32)) (maxI x2 (x4 + (1 : Int32))) x3 M11) fun r13 M12 =>
            if r13 = 0 then
              b1 (gR 0 3 x0 M12) fun v14 =>
              b1 (ldI v14 x4 M12) fun v15 =>
              b1 (gR 0 2 x0 M12) fun v16 =>
              b1 (ldI v16 x1 M12) fun v17 =>
              b1 (stI v14 x4 (v15 + v17) M12) fun M18 =>
              f_X0_place_112 P0 (f_X0_place_13 P0 n) x0 x1 x2 x3 x4 M18
            else
              rz (1 : Int32) M12
          else
            f_X0_place_112 P0 (f_X0_place_13 P0 n) x0 x1 x2 x3 x4 M

def f_X0_place_0 (P0 : Nat → Int32 → Int32 → Int32 → MM → Option (Int32 × MM)) (x0 : Nat) (x1 : Int32) (x2 : Int32) (x3 : Int32) (M : MM) : Option (Int32 × MM) :=
    b1 (gI 0 1 x0 M) fun v1 =>
    if x1 < v1 then
      f_X0_place_13 P0 1024 x0 x1 x2 x3 (0 : Int32) M
    else
      rz (1 : Int32) M

set_option maxRecDepth 4000 in
theorem L_X0_place_112 {k : Nat} {G : Gx} (X : Cb G cX0_place 5 RX0 (RM (2 + (k + 1)) 0 0) false) (Y : Cr G (some .boolean) 0 0) {P0 : Nat → Int32 → Int32 → Int32 → MM → Option (Int32 × MM)} (hP0 : ∀ (x0 : Nat) (x1 : Int32) (x2 : Int32) (x3 : Int32) (M : MM) (r : Int32) (M1 : MM), P0 x0 x1 x2 x3 M = some (r, M1) → KV G.1.2.1 yX0_place cX0_place 5 (some .boolean) (RM (2 + k) 0 0) false 0 x0 [.int x1, .int x2, .int x3] M (some (.int r)) M1) {K13 : Nat → Int32 → Int32 → Int32 → Int32 → MM → Option (Int32 × MM)} (hK13 : ∀ (x0 : Nat) (x1 : Int32) (x2 : Int32) (x3 : Int32) (x4 : Int32) (M : MM), V G trI 5 0 0 13 [(0, .ref x0), (1, .int x1), (2, .int x2), (3, .int x3), (4, .int x4)] [] M (K13 x0 x1 x2 x3 x4 M)) (x0 : Nat) (x1 : Int32) (x2 : Int32) (x3 : Int32) (x4 : Int32) (M : MM) : V G trI 5 0 0 112 [(0, .ref x0), (1, .int x1), (2, .int x2), (3, .int x3), (4, .int x4)] [] M (f_X0_place_112 P0 K13 x0 x1 x2 x3 x4 M) := by
  unfold f_X0_place_112
  refine v_iinc X 115 4 (fun z => [(0, .ref x0), (1, .int x1), (2, .int x2), (3, .int x3), (4, .int z)]) dX0_place_112 rfl ik_1 (by decide) (fun _ => rfl) rfl (fun y1 => ?_)
  refine v_goto X 13 dX0_place_115 rfl ?_
  exact hK13 _ _ _ _ _ _
set_option maxRecDepth 4000 in
theorem L_X0_place_13 {k : Nat} {G : Gx} (X : Cb G cX0_place 5 RX0 (RM (2 + (k + 1)) 0 0) false) (Y : Cr G (some .boolean) 0 0) {P0 : Nat → Int32 → Int32 → Int32 → MM → Option (Int32 × MM)} (hP0 : ∀ (x0 : Nat) (x1 : Int32) (x2 : Int32) (x3 : Int32) (M : MM) (r : Int32) (M1 : MM), P0 x0 x1 x2 x3 M = some (r, M1) → KV G.1.2.1 yX0_place cX0_place 5 (some .boolean) (RM (2 + k) 0 0) false 0 x0 [.int x1, .int x2, .int x3] M (some (.int r)) M1) : ∀ (n : Nat) (x0 : Nat) (x1 : Int32) (x2 : Int32) (x3 : Int32) (x4 : Int32) (M : MM), V G trI 5 0 0 13 [(0, .ref x0), (1, .int x1), (2, .int x2), (3, .int x3), (4, .int x4)] [] M (f_X0_place_13 P0 n x0 x1 x2 x3 x4 M) := by
  intro n
  induction n with
  | zero => intro x0 x1 x2 x3 x4 M; rw [f_X0_place_13]; exact v_none
  | succ n ih =>
    intro x0 x1 x2 x3 x4 M
    rw [f_X0_place_13]
    refine v_iload X 15 4 dX0_place_13 rfl rfl ?_
    refine v_bipush X 17 dX0_place_15 bk_8 rfl ?_
    refine v_icge X 20 118 dX0_place_17 rfl rfl ?_ ?_
    · refine v_iconst X 119 dX0_place_118 ik_0 rfl ?_
      exact v_zret X Y (Nat.le_refl _) (Nat.le_refl _) dX0_place_119
    · refine v_iload X 22 4 dX0_place_20 rfl rfl ?_
      refine v_iload_n X 23 2 dX0_place_22 rfl rfl ?_
      refine v_icgt X 26 118 dX0_place_23 rfl rfl ?_ ?_
      · refine v_iconst X 119 dX0_place_118 ik_0 rfl ?_
        exact v_zret X Y (Nat.le_refl _) (Nat.le_refl _) dX0_place_119
      · refine v_iload X 28 4 dX0_place_26 rfl rfl ?_
        refine v_iload_n X 29 3 dX0_place_28 rfl rfl ?_
        refine v_icge X 32 118 dX0_place_29 rfl rfl ?_ ?_
        · refine v_iconst X 119 dX0_place_118 ik_0 rfl ?_
          exact v_zret X Y (Nat.le_refl _) (Nat.le_refl _) dX0_place_119
        · refine v_aload_n X 33 0 dX0_place_32 rfl rfl ?_
          refine v_getR X 36 fl_X0_18.r dX0_place_33 rfl (fun v1 => ?_)
          refine v_iload X 38 4 dX0_place_36 rfl rfl ?_
          refine v_iald X 39 dX0_place_38 rfl (fun v2 => ?_)
          refine v_aload_n X 40 0 dX0_place_39 rfl rfl ?_
          refine v_getR X 43 fl_X0_15.r dX0_place_40 rfl (fun v3 => ?_)
          refine v_iload_n X 44 1 dX0_place_43 rfl rfl ?_
          refine v_iald X 45 dX0_place_44 rfl (fun v4 => ?_)
          refine v_icge X 48 51 dX0_place_45 rfl rfl ?_ ?_
          · refine v_aload_n X 52 0 dX0_place_51 rfl rfl ?_
            refine v_getR X 55 fl_X0_18.r dX0_place_52 rfl (fun v5 => ?_)
            refine v_iload X 57 4 dX0_place_55 rfl rfl ?_
            refine v_dup2 X 58 dX0_place_57 rfl rfl rfl ?_
            refine v_iald X 59 dX0_place_58 rfl (fun v6 => ?_)
            refine v_aload_n X 60 0 dX0_place_59 rfl rfl ?_
            refine v_getR X 63 fl_X0_15.r dX0_place_60 rfl (fun v7 => ?_)
            refine v_iload_n X 64 1 dX0_place_63 rfl rfl ?_
            refine v_iald X 65 dX0_place_64 rfl (fun v8 => ?_)
            refine v_isub X 66 dX0_place_65 rfl ?_
            refine v_iast X 67 dX0_place_66 rfl (fun M9 => ?_)
            refine v_aload_n X 68 0 dX0_place_67 rfl rfl ?_
            refine v_getR X 71 fl_X0_11.r dX0_place_68 rfl (fun v10 => ?_)
            refine v_iload_n X 72 1 dX0_place_71 rfl rfl ?_
            refine v_iload X 74 4 dX0_place_72 rfl rfl ?_
            refine v_iast X 75 dX0_place_74 rfl (fun M11 => ?_)
            refine v_aload_n X 76 0 dX0_place_75 rfl rfl ?_
            refine v_iload_n X 77 1 dX0_place_76 rfl rfl ?_
            refine v_iconst X 78 dX0_place_77 ik_1 rfl ?_
            refine v_iadd X 79 dX0_place_78 rfl ?_
            refine v_iload_n X 80 2 dX0_place_79 rfl rfl ?_
            refine v_iload X 82 4 dX0_place_80 rfl rfl ?_
            refine v_iconst X 83 dX0_place_82 ik_1 rfl ?_
            refine v_iadd X 84 dX0_place_83 rfl ?_
            refine v_max X 87 ml_X0_63 w_max (frq (by omega)) (loq rfl (by omega)) (Nat.zero_le _) (Nat.zero_le _) dX0_place_84 rfl ?_
            refine v_iload_n X 88 3 dX0_place_87 rfl rfl ?_
            refine v_vI X 91 cv_X0_place ml_X0_59 (n1 := (2 + k)) (rmq (by omega) (by decide)) [.int (x1 + (1 : Int32)), .int (maxI x2 (x4 + (1 : Int32))), .int x3] rfl rfl rfl dX0_place_88 rfl (fun r M1 h => hP0 _ _ _ _ _ _ _ h) (fun r13 M12 => ?_)
            refine v_ifeq X 94 96 dX0_place_91 rfl rfl ?_ ?_
            · refine v_aload_n X 97 0 dX0_place_96 rfl rfl ?_
              refine v_getR X 100 fl_X0_18.r dX0_place_97 rfl (fun v14 => ?_)
              refine v_iload X 102 4 dX0_place_100 rfl rfl ?_
              refine v_dup2 X 103 dX0_place_102 rfl rfl rfl ?_
              refine v_iald X 104 dX0_place_103 rfl (fun v15 => ?_)
              refine v_aload_n X 105 0 dX0_place_104 rfl rfl ?_
              refine v_getR X 108 fl_X0_15.r dX0_place_105 rfl (fun v16 => ?_)
              refine v_iload_n X 109 1 dX0_place_108 rfl rfl ?_
              refine v_iald X 110 dX0_place_109 rfl (fun v17 => ?_)
              refine v_iadd X 111 dX0_place_110 rfl ?_
              refine v_iast X 112 dX0_place_111 rfl (fun M18 => ?_)
              exact L_X0_place_112 X Y hP0 ih _ _ _ _ _ _
            · refine v_iconst X 95 dX0_place_94 ik_1 rfl ?_
              exact v_zret X Y (Nat.le_refl _) (Nat.le_refl _) dX0_place_95
          · refine v_goto X 112 dX0_place_48 rfl ?_
            exact L_X0_place_112 X Y hP0 ih _ _ _ _ _ _
set_option maxRecDepth 4000 in
theorem L_X0_place_0 {k : Nat} {G : Gx} (X : Cb G cX0_place 5 RX0 (RM (2 + (k + 1)) 0 0) false) (Y : Cr G (some .boolean) 0 0) {P0 : Nat → Int32 → Int32 → Int32 → MM → Option (Int32 × MM)} (hP0 : ∀ (x0 : Nat) (x1 : Int32) (x2 : Int32) (x3 : Int32) (M : MM) (r : Int32) (M1 : MM), P0 x0 x1 x2 x3 M = some (r, M1) → KV G.1.2.1 yX0_place cX0_place 5 (some .boolean) (RM (2 + k) 0 0) false 0 x0 [.int x1, .int x2, .int x3] M (some (.int r)) M1) (x0 : Nat) (x1 : Int32) (x2 : Int32) (x3 : Int32) (M : MM) : V G trI 5 0 0 0 [(0, .ref x0), (1, .int x1), (2, .int x2), (3, .int x3)] [] M (f_X0_place_0 P0 x0 x1 x2 x3 M) := by
  unfold f_X0_place_0
  refine v_iload_n X 1 1 dX0_place_0 rfl rfl ?_
  refine v_aload_n X 2 0 dX0_place_1 rfl rfl ?_
  refine v_getI X 5 fl_X0_24.r dX0_place_2 rfl (fun v1 => ?_)
  refine v_iclt X 8 10 dX0_place_5 rfl rfl ?_ ?_
  · refine v_iconst X 11 dX0_place_10 ik_0 rfl ?_
    refine v_istore (lv' := [(0, .ref x0), (1, .int x1), (2, .int x2), (3, .int x3), (4, .int (0 : Int32))]) X 13 dX0_place_11 (by decide) rfl rfl ?_
    exact L_X0_place_13 X Y hP0 1024 _ _ _ _ _ _
  · refine v_iconst X 9 dX0_place_8 ik_1 rfl ?_
    exact v_zret X Y (Nat.le_refl _) (Nat.le_refl _) dX0_place_9
def f_X0_place : Nat → Nat → Int32 → Int32 → Int32 → MM → Option (Int32 × MM)
  | 0, _, _, _, _, _ => none
  | n + 1, x0, x1, x2, x3, M => if isO 0 x0 M = true then f_X0_place_0 (f_X0_place n) x0 x1 x2 x3 M else none
theorem c_X0_place (l : Launch) : ∀ (n : Nat) (x0 : Nat) (x1 : Int32) (x2 : Int32) (x3 : Int32) (M : MM) (r : Int32) (M1 : MM) (h : f_X0_place n x0 x1 x2 x3 M = some (r, M1)), KV l yX0_place cX0_place 5 (some .boolean) (RM (2 + n) 0 0) false 0 x0 [.int x1, .int x2, .int x3] M (some (.int r)) M1 := by
  intro n
  induction n with
  | zero => intro x0 x1 x2 x3 M r M1 h; rw [f_X0_place] at h; cases h
  | succ n ih =>
    intro x0 x1 x2 x3 M r M1 h
    rw [f_X0_place] at h
    obtain ⟨hO, h2⟩ := iteO_some h
    exact ⟨hO, ct_of (tr := trI) (by decide) (Nat.le_of_ble_eq_true rfl) [(0, .ref x0), (1, .int x1), (2, .int x2), (3, .int x3)] rfl h2 (fun G X Y hn hl => L_X0_place_0 (k := n) X Y (by rw [hl]; exact ih) x0 x1 x2 x3 M)⟩

def f_X0_fewest_0 (x0 : Nat) (x1 : Int32) (M : MM) : Option (Int32 × MM) :=
    b1 (f_X0_weigh x0 x1 M) fun M1 =>
    b1 (gR 0 4 x0 M1) fun v2 =>
    b1 (gI 0 1 x0 M1) fun v3 =>
    b1 (ldI v2 (((1 : Int32) <<< (v3 &&& 31)) - (1 : Int32)) M1) fun v4 =>
    if v4 < (1048576 : Int32) then
      b1 (gR 0 3 x0 M1) fun v5 =>
      b1 (f_J7_fill_53178 v5 x1 M1) fun M6 =>
      b2 (f_X0_place 100 x0 (0 : Int32) (0 : Int32) (v4 >>> ((5 : Int32) &&& 31)) M6) fun r8 M7 =>
      some (v4 >>> ((5 : Int32) &&& 31), M7)
    else
      some ((-1 : Int32), M1)

def f_X0_fewest (x0 : Nat) (x1 : Int32) (M : MM) : Option (Int32 × MM) := if isO 0 x0 M = true then f_X0_fewest_0 x0 x1 M else none
set_option maxRecDepth 4000 in
theorem L_X0_fewest_0 {G : Gx} (X : Cb G cX0_fewest 3 RX0 (RM 103 0 0) false) (Y : Cr G (some .int) 0 0) (x0 : Nat) (x1 : Int32) (M : MM) : V G trI 3 0 0 0 [(0, .ref x0), (1, .int x1)] [] M (f_X0_fewest_0 x0 x1 M) := by
  unfold f_X0_fewest_0
  refine v_aload_n X 1 0 dX0_fewest_0 rfl rfl ?_
  refine v_iload_n X 2 1 dX0_fewest_1 rfl rfl ?_
  refine v_vV X 5 cv_X0_weigh ml_X0_49 (n1 := 2) rfl [.int x1] rfl rfl rfl dX0_fewest_2 rfl (fun M1 h => c_X0_weigh _ _ _ _ _ h) (fun M1 => ?_)
  refine v_aload_n X 6 0 dX0_fewest_5 rfl rfl ?_
  refine v_getR X 9 fl_X0_21.r dX0_fewest_6 rfl (fun v2 => ?_)
  refine v_iconst X 10 dX0_fewest_9 ik_1 rfl ?_
  refine v_aload_n X 11 0 dX0_fewest_10 rfl rfl ?_
  refine v_getI X 14 fl_X0_24.r dX0_fewest_11 rfl (fun v3 => ?_)
  refine v_ishl X 15 dX0_fewest_14 rfl ?_
  refine v_iconst X 16 dX0_fewest_15 ik_1 rfl ?_
  refine v_isub X 17 dX0_fewest_16 rfl ?_
  refine v_iald X 18 dX0_fewest_17 rfl (fun v4 => ?_)
  refine v_istore_n (lv' := [(0, .ref x0), (1, .int x1), (2, .int v4)]) X 19 dX0_fewest_18 (by decide) rfl rfl ?_
  refine v_iload_n X 20 2 dX0_fewest_19 rfl rfl ?_
  refine v_ldc X 22 dX0_fewest_20 kc_X0_38 rfl ?_
  refine v_iclt X 25 27 dX0_fewest_22 rfl rfl ?_ ?_
  · refine v_aload_n X 28 0 dX0_fewest_27 rfl rfl ?_
    refine v_getR X 31 fl_X0_18.r dX0_fewest_28 rfl (fun v5 => ?_)
    refine v_iload_n X 32 1 dX0_fewest_31 rfl rfl ?_
    refine v_sV X 35 cs_J7_fill_53178 ml_X0_53 (n1 := 1) rfl [.ref v5, .int x1] rfl rfl rfl dX0_fewest_32 rfl (fun M1 h => c_J7_fill_53178 _ _ _ _ _ h) (fun M6 => ?_)
    refine v_aload_n X 36 0 dX0_fewest_35 rfl rfl ?_
    refine v_iconst X 37 dX0_fewest_36 ik_0 rfl ?_
    refine v_iconst X 38 dX0_fewest_37 ik_0 rfl ?_
    refine v_iload_n X 39 2 dX0_fewest_38 rfl rfl ?_
    refine v_iconst X 40 dX0_fewest_39 ik_5 rfl ?_
    refine v_ishr X 41 dX0_fewest_40 rfl ?_
    refine v_vI X 44 cv_X0_place ml_X0_59 (n1 := 102) rfl [.int (0 : Int32), .int (0 : Int32), .int (v4 >>> ((5 : Int32) &&& 31))] rfl rfl rfl dX0_fewest_41 rfl (fun r M1 h => c_X0_place _ 100 _ _ _ _ _ _ _ h) (fun r8 M7 => ?_)
    refine v_pop X 45 dX0_fewest_44 rfl rfl ?_
    refine v_iload_n X 46 2 dX0_fewest_45 rfl rfl ?_
    refine v_iconst X 47 dX0_fewest_46 ik_5 rfl ?_
    refine v_ishr X 48 dX0_fewest_47 rfl ?_
    exact v_iret X Y (Nat.le_refl _) (Nat.le_refl _) dX0_fewest_48
  · refine v_iconst X 26 dX0_fewest_25 ik_m1 rfl ?_
    exact v_iret X Y (Nat.le_refl _) (Nat.le_refl _) dX0_fewest_26
theorem c_X0_fewest (l : Launch) (x0 : Nat) (x1 : Int32) (M : MM) (r : Int32) (M1 : MM) (h : f_X0_fewest x0 x1 M = some (r, M1)) : KV l yX0_fewest cX0_fewest 3 (some .int) (RM 103 0 0) false 0 x0 [.int x1] M (some (.int r)) M1 := by
  obtain ⟨hO, h2⟩ := iteO_some h
  exact ⟨hO, ct_of (tr := trI) (by decide) (Nat.le_of_ble_eq_true rfl) [(0, .ref x0), (1, .int x1)] rfl h2 (fun G X Y hn hl => L_X0_fewest_0 X Y x0 x1 M)⟩

def f_X0_mostInto_76 (K10 : Nat → Int32 → Int32 → Int32 → MM → Option (Int32 × MM)) (x0 : Nat) (x1 : Int32) (x3 : Int32) (x4 : Int32) (M : MM) : Option (Int32 × MM) :=
    bn (x4 + 1 : Int32) fun y1 =>
    K10 x0 x1 x3 y1 M

def f_X0_mostInto_73 (K10 : Nat → Int32 → Int32 → Int32 → MM → Option (Int32 × MM)) (x0 : Nat) (x1 : Int32) (x4 : Int32) (M : MM) : Option (Int32 × MM) :=
    f_X0_mostInto_76 K10 x0 x1 x4 x4 M

def f_X0_mostInto_10 : Nat → Nat → Int32 → Int32 → Int32 → MM → Option (Int32 × MM)
  | 0, _, _, _, _, _ => none
  | n + 1, x0, x1, x3, x4, M =>
    b1 (gI 0 1 x0 M) fun v1 =>
    if ((1 : Int32) <<< (v1 &&& 31)) ≤ x4 then
      some (x3, M)
    else
      b1 (gR 0 4 x0 M) fun v2 =>
      b1 (ldI v2 x4 M) fun v3 =>
      if (v3 >>> ((5 : Int32) &&& 31)) ≤ x1 then
        b2 (f_X0_sizeOf x0 x4 M) fun r5 M4 =>
        b2 (f_X0_sizeOf x0 x3 M4) fun r7 M6 =>
        bn (r5 - r7 : Int32) fun y8 =>
        if 0 < y8 then
          f_X0_mostInto_73 (f_X0_mostInto_10 n) x0 x1 x4 M6
        else
          if y8 = 0 then
            b2 (f_J6_bitCount_0f7a4 x4 M6) fun r10 M9 =>
            b2 (f_J6_bitCount_0f7a4 x3 M9) fun r12 M11 =>
            if r12 ≤ r10 then
              f_X0_mostInto_76 (f_X0_mostInto_10 n) x0 x1 x3 x4 M11
            else
              f_X0_mostInto_73 (f_X0_mostInto_10 n) x0 x1 x4 M11
          else
            f_X0_mostInto_76 (f_X0_mostInto_10 n) x0 x1 x3 x4 M6
      else
        f_X0_mostInto_76 (f_X0_mostInto_10 n) x0 x1 x3 x4 M

def f_X0_mostInto_0 (x0 : Nat) (x1 : Int32) (x2 : Int32) (M : MM) : Option (Int32 × MM) :=
    b1 (f_X0_weigh x0 x2 M) fun M1 =>
    f_X0_mostInto_10 1024 x0 x1 (0 : Int32) (1 : Int32) M1

def f_X0_mostInto (x0 : Nat) (x1 : Int32) (x2 : Int32) (M : MM) : Option (Int32 × MM) := if isO 0 x0 M = true then f_X0_mostInto_0 x0 x1 x2 M else none
set_option maxRecDepth 4000 in
theorem L_X0_mostInto_76 {G : Gx} (X : Cb G cX0_mostInto 6 RX0 (RM 3 0 0) false) (Y : Cr G (some .int) 0 0) {K10 : Nat → Int32 → Int32 → Int32 → MM → Option (Int32 × MM)} (hK10 : ∀ (x0 : Nat) (x1 : Int32) (x3 : Int32) (x4 : Int32) (M : MM), V G trI 6 0 0 10 [(0, .ref x0), (1, .int x1), (3, .int x3), (4, .int x4)] [] M (K10 x0 x1 x3 x4 M)) (x0 : Nat) (x1 : Int32) (x3 : Int32) (x4 : Int32) (M : MM) : V G trI 6 0 0 76 [(0, .ref x0), (1, .int x1), (3, .int x3), (4, .int x4)] [] M (f_X0_mostInto_76 K10 x0 x1 x3 x4 M) := by
  unfold f_X0_mostInto_76
  refine v_iinc X 79 3 (fun z => [(0, .ref x0), (1, .int x1), (3, .int x3), (4, .int z)]) dX0_mostInto_76 rfl ik_1 (by decide) (fun _ => rfl) rfl (fun y1 => ?_)
  refine v_goto X 10 dX0_mostInto_79 rfl ?_
  exact hK10 _ _ _ _ _
set_option maxRecDepth 4000 in
theorem L_X0_mostInto_73 {G : Gx} (X : Cb G cX0_mostInto 6 RX0 (RM 3 0 0) false) (Y : Cr G (some .int) 0 0) {K10 : Nat → Int32 → Int32 → Int32 → MM → Option (Int32 × MM)} (hK10 : ∀ (x0 : Nat) (x1 : Int32) (x3 : Int32) (x4 : Int32) (M : MM), V G trI 6 0 0 10 [(0, .ref x0), (1, .int x1), (3, .int x3), (4, .int x4)] [] M (K10 x0 x1 x3 x4 M)) (x0 : Nat) (x1 : Int32) (x4 : Int32) (M : MM) : V G trI 6 0 0 73 [(0, .ref x0), (1, .int x1), (4, .int x4)] [] M (f_X0_mostInto_73 K10 x0 x1 x4 M) := by
  unfold f_X0_mostInto_73
  refine v_iload X 75 2 dX0_mostInto_73 rfl rfl ?_
  refine v_istore_n (lv' := [(0, .ref x0), (1, .int x1), (3, .int x4), (4, .int x4)]) X 76 dX0_mostInto_75 (by decide) rfl rfl ?_
  exact L_X0_mostInto_76 X Y hK10 _ _ _ _ _
set_option maxRecDepth 4000 in
theorem L_X0_mostInto_10 {G : Gx} (X : Cb G cX0_mostInto 6 RX0 (RM 3 0 0) false) (Y : Cr G (some .int) 0 0) : ∀ (n : Nat) (x0 : Nat) (x1 : Int32) (x3 : Int32) (x4 : Int32) (M : MM), V G trI 6 0 0 10 [(0, .ref x0), (1, .int x1), (3, .int x3), (4, .int x4)] [] M (f_X0_mostInto_10 n x0 x1 x3 x4 M) := by
  intro n
  induction n with
  | zero => intro x0 x1 x3 x4 M; rw [f_X0_mostInto_10]; exact v_none
  | succ n ih =>
    intro x0 x1 x3 x4 M
    rw [f_X0_mostInto_10]
    refine v_iload X 12 3 dX0_mostInto_10 rfl rfl ?_
    refine v_iconst X 13 dX0_mostInto_12 ik_1 rfl ?_
    refine v_aload_n X 14 0 dX0_mostInto_13 rfl rfl ?_
    refine v_getI X 17 fl_X0_24.r dX0_mostInto_14 rfl (fun v1 => ?_)
    refine v_ishl X 18 dX0_mostInto_17 rfl ?_
    refine v_icge X 21 82 dX0_mostInto_18 rfl rfl ?_ ?_
    · refine v_iload_n X 83 2 dX0_mostInto_82 rfl rfl ?_
      exact v_iret X Y (Nat.le_refl _) (Nat.le_refl _) dX0_mostInto_83
    · refine v_aload_n X 22 0 dX0_mostInto_21 rfl rfl ?_
      refine v_getR X 25 fl_X0_21.r dX0_mostInto_22 rfl (fun v2 => ?_)
      refine v_iload X 27 3 dX0_mostInto_25 rfl rfl ?_
      refine v_iald X 28 dX0_mostInto_27 rfl (fun v3 => ?_)
      refine v_iconst X 29 dX0_mostInto_28 ik_5 rfl ?_
      refine v_ishr X 30 dX0_mostInto_29 rfl ?_
      refine v_iload_n X 31 1 dX0_mostInto_30 rfl rfl ?_
      refine v_icle X 34 37 dX0_mostInto_31 rfl rfl ?_ ?_
      · refine v_aload_n X 38 0 dX0_mostInto_37 rfl rfl ?_
        refine v_iload X 40 3 dX0_mostInto_38 rfl rfl ?_
        refine v_vI X 43 cv_X0_sizeOf ml_X0_66 (n1 := 1) rfl [.int x4] rfl rfl rfl dX0_mostInto_40 rfl (fun r M1 h => c_X0_sizeOf _ _ _ _ _ _ h) (fun r5 M4 => ?_)
        refine v_aload_n X 44 0 dX0_mostInto_43 rfl rfl ?_
        refine v_iload_n X 45 2 dX0_mostInto_44 rfl rfl ?_
        refine v_vI X 48 cv_X0_sizeOf ml_X0_66 (n1 := 1) rfl [.int x3] rfl rfl rfl dX0_mostInto_45 rfl (fun r M1 h => c_X0_sizeOf _ _ _ _ _ _ h) (fun r7 M6 => ?_)
        refine v_isub X 49 dX0_mostInto_48 rfl ?_
        refine v_bnI (fun y8 => ?_)
        refine v_istore (lv' := [(0, .ref x0), (1, .int x1), (3, .int x3), (4, .int x4), (5, .int y8)]) X 51 dX0_mostInto_49 (by decide) rfl rfl ?_
        refine v_iload X 53 4 dX0_mostInto_51 rfl rfl ?_
        refine v_ifgt X 56 73 dX0_mostInto_53 rfl rfl ?_ ?_
        · exact v_sb [0, 1, 3] (L_X0_mostInto_73 X Y ih _ _ _ _) rfl
        · refine v_iload X 58 4 dX0_mostInto_56 rfl rfl ?_
          refine v_ifne X 61 76 dX0_mostInto_58 rfl rfl ?_ ?_
          · exact v_sb [0, 1, 2, 3] (L_X0_mostInto_76 X Y ih _ _ _ _ _) rfl
          · refine v_iload X 63 3 dX0_mostInto_61 rfl rfl ?_
            refine v_sI X 66 cs_J6_bitCount_0f7a4 ml_X0_69 (n1 := 1) rfl [.int x4] rfl rfl rfl dX0_mostInto_63 rfl (fun r M1 h => c_J6_bitCount_0f7a4 _ _ _ _ _ h) (fun r10 M9 => ?_)
            refine v_iload_n X 67 2 dX0_mostInto_66 rfl rfl ?_
            refine v_sI X 70 cs_J6_bitCount_0f7a4 ml_X0_69 (n1 := 1) rfl [.int x3] rfl rfl rfl dX0_mostInto_67 rfl (fun r M1 h => c_J6_bitCount_0f7a4 _ _ _ _ _ h) (fun r12 M11 => ?_)
            refine v_icge X 73 76 dX0_mostInto_70 rfl rfl ?_ ?_
            · exact v_sb [0, 1, 2, 3] (L_X0_mostInto_76 X Y ih _ _ _ _ _) rfl
            · exact v_sb [0, 1, 3] (L_X0_mostInto_73 X Y ih _ _ _ _) rfl
      · refine v_goto X 76 dX0_mostInto_34 rfl ?_
        exact L_X0_mostInto_76 X Y ih _ _ _ _ _
set_option maxRecDepth 4000 in
theorem L_X0_mostInto_0 {G : Gx} (X : Cb G cX0_mostInto 6 RX0 (RM 3 0 0) false) (Y : Cr G (some .int) 0 0) (x0 : Nat) (x1 : Int32) (x2 : Int32) (M : MM) : V G trI 6 0 0 0 [(0, .ref x0), (1, .int x1), (2, .int x2)] [] M (f_X0_mostInto_0 x0 x1 x2 M) := by
  unfold f_X0_mostInto_0
  refine v_aload_n X 1 0 dX0_mostInto_0 rfl rfl ?_
  refine v_iload_n X 2 2 dX0_mostInto_1 rfl rfl ?_
  refine v_vV X 5 cv_X0_weigh ml_X0_49 (n1 := 2) rfl [.int x2] rfl rfl rfl dX0_mostInto_2 rfl (fun M1 h => c_X0_weigh _ _ _ _ _ h) (fun M1 => ?_)
  refine v_iconst X 6 dX0_mostInto_5 ik_0 rfl ?_
  refine v_istore_n (lv' := [(0, .ref x0), (1, .int x1), (2, .int x2), (3, .int (0 : Int32))]) X 7 dX0_mostInto_6 (by decide) rfl rfl ?_
  refine v_iconst X 8 dX0_mostInto_7 ik_1 rfl ?_
  refine v_istore (lv' := [(0, .ref x0), (1, .int x1), (2, .int x2), (3, .int (0 : Int32)), (4, .int (1 : Int32))]) X 10 dX0_mostInto_8 (by decide) rfl rfl ?_
  exact v_sb [0, 1, 3, 4] (L_X0_mostInto_10 X Y 1024 _ _ _ _ _) rfl
theorem c_X0_mostInto (l : Launch) (x0 : Nat) (x1 : Int32) (x2 : Int32) (M : MM) (r : Int32) (M1 : MM) (h : f_X0_mostInto x0 x1 x2 M = some (r, M1)) : KV l yX0_mostInto cX0_mostInto 6 (some .int) (RM 3 0 0) false 0 x0 [.int x1, .int x2] M (some (.int r)) M1 := by
  obtain ⟨hO, h2⟩ := iteO_some h
  exact ⟨hO, ct_of (tr := trI) (by decide) (Nat.le_of_ble_eq_true rfl) [(0, .ref x0), (1, .int x1), (2, .int x2)] rfl h2 (fun G X Y hn hl => L_X0_mostInto_0 X Y x0 x1 x2 M)⟩

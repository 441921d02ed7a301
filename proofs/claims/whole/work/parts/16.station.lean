def f_X9_hasPerson_0 (x0 : Nat) (x1 : Int32) (M : MM) : Option (Int32 × MM) :=
    if x1 < 0 then
      rz (0 : Int32) M
    else
      b1 (gI 9 7 x0 M) fun v1 =>
      if v1 ≤ x1 then
        rz (0 : Int32) M
      else
        rz (1 : Int32) M

def f_X9_hasPerson (x0 : Nat) (x1 : Int32) (M : MM) : Option (Int32 × MM) := if isO 9 x0 M = true then f_X9_hasPerson_0 x0 x1 M else none
set_option maxRecDepth 4000 in
theorem L_X9_hasPerson_0 {G : Gx} (X : Cb G cX9_hasPerson 2 RX9 (RM 1 0 0) false) (Y : Cr G (some .boolean) 0 0) (x0 : Nat) (x1 : Int32) (M : MM) : V G trI 2 0 0 0 [(0, .ref x0), (1, .int x1)] [] M (f_X9_hasPerson_0 x0 x1 M) := by
  unfold f_X9_hasPerson_0
  refine v_iload_n X 1 1 dX9_hasPerson_0 rfl rfl ?_
  refine v_iflt X 4 16 dX9_hasPerson_1 rfl rfl ?_ ?_
  · refine v_iconst X 17 dX9_hasPerson_16 ik_0 rfl ?_
    exact v_zret X Y (Nat.le_refl _) (Nat.le_refl _) dX9_hasPerson_17
  · refine v_iload_n X 5 1 dX9_hasPerson_4 rfl rfl ?_
    refine v_aload_n X 6 0 dX9_hasPerson_5 rfl rfl ?_
    refine v_getI X 9 fl_X9_47.r dX9_hasPerson_6 rfl (fun v1 => ?_)
    refine v_icge X 12 16 dX9_hasPerson_9 rfl rfl ?_ ?_
    · refine v_iconst X 17 dX9_hasPerson_16 ik_0 rfl ?_
      exact v_zret X Y (Nat.le_refl _) (Nat.le_refl _) dX9_hasPerson_17
    · refine v_iconst X 13 dX9_hasPerson_12 ik_1 rfl ?_
      refine v_goto X 17 dX9_hasPerson_13 rfl ?_
      exact v_zret X Y (Nat.le_refl _) (Nat.le_refl _) dX9_hasPerson_17
theorem c_X9_hasPerson (l : Launch) (x0 : Nat) (x1 : Int32) (M : MM) (r : Int32) (M1 : MM) (h : f_X9_hasPerson x0 x1 M = some (r, M1)) : KV l yX9_hasPerson cX9_hasPerson 2 (some .boolean) (RM 1 0 0) false 9 x0 [.int x1] M (some (.int r)) M1 := by
  obtain ⟨hO, h2⟩ := iteO_some h
  exact ⟨hO, ct_of (tr := trI) (by decide) (Nat.le_of_ble_eq_true rfl) [(0, .ref x0), (1, .int x1)] rfl h2 (fun G X Y hn hl => L_X9_hasPerson_0 X Y x0 x1 M)⟩

def f_X9_hasErrand_0 (x0 : Nat) (x1 : Int32) (M : MM) : Option (Int32 × MM) :=
    if x1 < 0 then
      rz (0 : Int32) M
    else
      b1 (gI 9 8 x0 M) fun v1 =>
      if v1 ≤ x1 then
        rz (0 : Int32) M
      else
        rz (1 : Int32) M

def f_X9_hasErrand (x0 : Nat) (x1 : Int32) (M : MM) : Option (Int32 × MM) := if isO 9 x0 M = true then f_X9_hasErrand_0 x0 x1 M else none
set_option maxRecDepth 4000 in
theorem L_X9_hasErrand_0 {G : Gx} (X : Cb G cX9_hasErrand 2 RX9 (RM 1 0 0) false) (Y : Cr G (some .boolean) 0 0) (x0 : Nat) (x1 : Int32) (M : MM) : V G trI 2 0 0 0 [(0, .ref x0), (1, .int x1)] [] M (f_X9_hasErrand_0 x0 x1 M) := by
  unfold f_X9_hasErrand_0
  refine v_iload_n X 1 1 dX9_hasErrand_0 rfl rfl ?_
  refine v_iflt X 4 16 dX9_hasErrand_1 rfl rfl ?_ ?_
  · refine v_iconst X 17 dX9_hasErrand_16 ik_0 rfl ?_
    exact v_zret X Y (Nat.le_refl _) (Nat.le_refl _) dX9_hasErrand_17
  · refine v_iload_n X 5 1 dX9_hasErrand_4 rfl rfl ?_
    refine v_aload_n X 6 0 dX9_hasErrand_5 rfl rfl ?_
    refine v_getI X 9 fl_X9_50.r dX9_hasErrand_6 rfl (fun v1 => ?_)
    refine v_icge X 12 16 dX9_hasErrand_9 rfl rfl ?_ ?_
    · refine v_iconst X 17 dX9_hasErrand_16 ik_0 rfl ?_
      exact v_zret X Y (Nat.le_refl _) (Nat.le_refl _) dX9_hasErrand_17
    · refine v_iconst X 13 dX9_hasErrand_12 ik_1 rfl ?_
      refine v_goto X 17 dX9_hasErrand_13 rfl ?_
      exact v_zret X Y (Nat.le_refl _) (Nat.le_refl _) dX9_hasErrand_17
theorem c_X9_hasErrand (l : Launch) (x0 : Nat) (x1 : Int32) (M : MM) (r : Int32) (M1 : MM) (h : f_X9_hasErrand x0 x1 M = some (r, M1)) : KV l yX9_hasErrand cX9_hasErrand 2 (some .boolean) (RM 1 0 0) false 9 x0 [.int x1] M (some (.int r)) M1 := by
  obtain ⟨hO, h2⟩ := iteO_some h
  exact ⟨hO, ct_of (tr := trI) (by decide) (Nat.le_of_ble_eq_true rfl) [(0, .ref x0), (1, .int x1)] rfl h2 (fun G X Y hn hl => L_X9_hasErrand_0 X Y x0 x1 M)⟩

def f_X9_getWish_0 (x0 : Nat) (x1 : Int32) (x2 : Int32) (M : MM) : Option (Int32 × MM) :=
    b2 (f_X9_hasPerson x0 x1 M) fun r2 M1 =>
    if r2 = 0 then
      some ((0 : Int32), M1)
    else
      b2 (f_X9_hasErrand x0 x2 M1) fun r4 M3 =>
      if r4 = 0 then
        some ((0 : Int32), M3)
      else
        b1 (gR 9 10 x0 M3) fun v5 =>
        b1 (ldI v5 ((x1 * (8 : Int32)) + x2) M3) fun v6 =>
        some (v6, M3)

def f_X9_getWish (x0 : Nat) (x1 : Int32) (x2 : Int32) (M : MM) : Option (Int32 × MM) := if isO 9 x0 M = true then f_X9_getWish_0 x0 x1 x2 M else none
set_option maxRecDepth 4000 in
theorem L_X9_getWish_0 {G : Gx} (X : Cb G cX9_getWish 3 RX9 (RM 2 0 0) false) (Y : Cr G (some .int) 0 0) (x0 : Nat) (x1 : Int32) (x2 : Int32) (M : MM) : V G trI 3 0 0 0 [(0, .ref x0), (1, .int x1), (2, .int x2)] [] M (f_X9_getWish_0 x0 x1 x2 M) := by
  unfold f_X9_getWish_0
  refine v_aload_n X 1 0 dX9_getWish_0 rfl rfl ?_
  refine v_iload_n X 2 1 dX9_getWish_1 rfl rfl ?_
  refine v_vI X 5 cv_X9_hasPerson ml_X9_53 (n1 := 1) rfl [.int x1] rfl rfl rfl dX9_getWish_2 rfl (fun r M1 h => c_X9_hasPerson _ _ _ _ _ _ h) (fun r2 M1 => ?_)
  refine v_ifeq X 8 30 dX9_getWish_5 rfl rfl ?_ ?_
  · refine v_iconst X 31 dX9_getWish_30 ik_0 rfl ?_
    exact v_iret X Y (Nat.le_refl _) (Nat.le_refl _) dX9_getWish_31
  · refine v_aload_n X 9 0 dX9_getWish_8 rfl rfl ?_
    refine v_iload_n X 10 2 dX9_getWish_9 rfl rfl ?_
    refine v_vI X 13 cv_X9_hasErrand ml_X9_57 (n1 := 1) rfl [.int x2] rfl rfl rfl dX9_getWish_10 rfl (fun r M1 h => c_X9_hasErrand _ _ _ _ _ _ h) (fun r4 M3 => ?_)
    refine v_ifeq X 16 30 dX9_getWish_13 rfl rfl ?_ ?_
    · refine v_iconst X 31 dX9_getWish_30 ik_0 rfl ?_
      exact v_iret X Y (Nat.le_refl _) (Nat.le_refl _) dX9_getWish_31
    · refine v_aload_n X 17 0 dX9_getWish_16 rfl rfl ?_
      refine v_getR X 20 fl_X9_38.r dX9_getWish_17 rfl (fun v5 => ?_)
      refine v_iload_n X 21 1 dX9_getWish_20 rfl rfl ?_
      refine v_bipush X 23 dX9_getWish_21 bk_8 rfl ?_
      refine v_imul X 24 dX9_getWish_23 rfl ?_
      refine v_iload_n X 25 2 dX9_getWish_24 rfl rfl ?_
      refine v_iadd X 26 dX9_getWish_25 rfl ?_
      refine v_iald X 27 dX9_getWish_26 rfl (fun v6 => ?_)
      refine v_goto X 31 dX9_getWish_27 rfl ?_
      exact v_iret X Y (Nat.le_refl _) (Nat.le_refl _) dX9_getWish_31
theorem c_X9_getWish (l : Launch) (x0 : Nat) (x1 : Int32) (x2 : Int32) (M : MM) (r : Int32) (M1 : MM) (h : f_X9_getWish x0 x1 x2 M = some (r, M1)) : KV l yX9_getWish cX9_getWish 3 (some .int) (RM 2 0 0) false 9 x0 [.int x1, .int x2] M (some (.int r)) M1 := by
  obtain ⟨hO, h2⟩ := iteO_some h
  exact ⟨hO, ct_of (tr := trI) (by decide) (Nat.le_of_ble_eq_true rfl) [(0, .ref x0), (1, .int x1), (2, .int x2)] rfl h2 (fun G X Y hn hl => L_X9_getWish_0 X Y x0 x1 x2 M)⟩

def f_X9_setWish_0 (x0 : Nat) (x1 : Int32) (x2 : Int32) (x3 : Int32) (M : MM) : Option (MM) :=
    b2 (f_X9_hasPerson x0 x1 M) fun r2 M1 =>
    if r2 = 0 then
      some M1
    else
      b2 (f_X9_hasErrand x0 x2 M1) fun r4 M3 =>
      if r4 = 0 then
        some M3
      else
        b1 (gR 9 10 x0 M3) fun v5 =>
        b1 (stI v5 ((x1 * (8 : Int32)) + x2) x3 M3) fun M6 =>
        some M6

def f_X9_setWish (x0 : Nat) (x1 : Int32) (x2 : Int32) (x3 : Int32) (M : MM) : Option (MM) := if isO 9 x0 M = true then f_X9_setWish_0 x0 x1 x2 x3 M else none
set_option maxRecDepth 4000 in
theorem L_X9_setWish_0 {G : Gx} (X : Cb G cX9_setWish 4 RX9 (RM 2 0 0) false) (Y : Cr G none 0 0) (x0 : Nat) (x1 : Int32) (x2 : Int32) (x3 : Int32) (M : MM) : V G trV 4 0 0 0 [(0, .ref x0), (1, .int x1), (2, .int x2), (3, .int x3)] [] M (f_X9_setWish_0 x0 x1 x2 x3 M) := by
  unfold f_X9_setWish_0
  refine v_aload_n X 1 0 dX9_setWish_0 rfl rfl ?_
  refine v_iload_n X 2 1 dX9_setWish_1 rfl rfl ?_
  refine v_vI X 5 cv_X9_hasPerson ml_X9_53 (n1 := 1) rfl [.int x1] rfl rfl rfl dX9_setWish_2 rfl (fun r M1 h => c_X9_hasPerson _ _ _ _ _ _ h) (fun r2 M1 => ?_)
  refine v_ifeq X 8 28 dX9_setWish_5 rfl rfl ?_ ?_
  · exact v_vret X Y (Nat.le_refl _) (Nat.le_refl _) dX9_setWish_28
  · refine v_aload_n X 9 0 dX9_setWish_8 rfl rfl ?_
    refine v_iload_n X 10 2 dX9_setWish_9 rfl rfl ?_
    refine v_vI X 13 cv_X9_hasErrand ml_X9_57 (n1 := 1) rfl [.int x2] rfl rfl rfl dX9_setWish_10 rfl (fun r M1 h => c_X9_hasErrand _ _ _ _ _ _ h) (fun r4 M3 => ?_)
    refine v_ifeq X 16 28 dX9_setWish_13 rfl rfl ?_ ?_
    · exact v_vret X Y (Nat.le_refl _) (Nat.le_refl _) dX9_setWish_28
    · refine v_aload_n X 17 0 dX9_setWish_16 rfl rfl ?_
      refine v_getR X 20 fl_X9_38.r dX9_setWish_17 rfl (fun v5 => ?_)
      refine v_iload_n X 21 1 dX9_setWish_20 rfl rfl ?_
      refine v_bipush X 23 dX9_setWish_21 bk_8 rfl ?_
      refine v_imul X 24 dX9_setWish_23 rfl ?_
      refine v_iload_n X 25 2 dX9_setWish_24 rfl rfl ?_
      refine v_iadd X 26 dX9_setWish_25 rfl ?_
      refine v_iload_n X 27 3 dX9_setWish_26 rfl rfl ?_
      refine v_iast X 28 dX9_setWish_27 rfl (fun M6 => ?_)
      exact v_vret X Y (Nat.le_refl _) (Nat.le_refl _) dX9_setWish_28
theorem c_X9_setWish (l : Launch) (x0 : Nat) (x1 : Int32) (x2 : Int32) (x3 : Int32) (M : MM) (M1 : MM) (h : f_X9_setWish x0 x1 x2 x3 M = some M1) : KV l yX9_setWish cX9_setWish 4 none (RM 2 0 0) false 9 x0 [.int x1, .int x2, .int x3] M none M1 := by
  obtain ⟨hO, h2⟩ := iteO_some h
  exact ⟨hO, ct_of (tr := trV) (by decide) (Nat.le_of_ble_eq_true rfl) [(0, .ref x0), (1, .int x1), (2, .int x2), (3, .int x3)] rfl h2 (fun G X Y hn hl => L_X9_setWish_0 X Y x0 x1 x2 x3 M)⟩

def f_X9_shyOnes_29 (K4 : Nat → Int32 → Int32 → MM → Option (Int32 × MM)) (x0 : Nat) (x2 : Int32) (s0 : Int32) (s1 : Int32) (M : MM) : Option (Int32 × MM) :=
    bn (s1 ||| s0 : Int32) fun y1 =>
    bn (x2 + 1 : Int32) fun y2 =>
    K4 x0 y1 y2 M

def f_X9_shyOnes_4 : Nat → Nat → Int32 → Int32 → MM → Option (Int32 × MM)
  | 0, _, _, _, _ => none
  | n + 1, x0, x1, x2, M =>
    b1 (gI 9 7 x0 M) fun v1 =>
    if v1 ≤ x2 then
      some (x1, M)
    else
      b1 (gR 9 0 x0 M) fun v2 =>
      b1 (ldZ v2 x2 M) fun v3 =>
      if v3 = 0 then
        f_X9_shyOnes_29 (f_X9_shyOnes_4 n) x0 x2 (0 : Int32) x1 M
      else
        f_X9_shyOnes_29 (f_X9_shyOnes_4 n) x0 x2 ((1 : Int32) <<< (x2 &&& 31)) x1 M

def f_X9_shyOnes_0 (x0 : Nat) (M : MM) : Option (Int32 × MM) :=
    f_X9_shyOnes_4 1024 x0 (0 : Int32) (0 : Int32) M

def f_X9_shyOnes (x0 : Nat) (M : MM) : Option (Int32 × MM) := if isO 9 x0 M = true then f_X9_shyOnes_0 x0 M else none
set_option maxRecDepth 4000 in
theorem L_X9_shyOnes_29 {G : Gx} (X : Cb G cX9_shyOnes 3 RX9 (RM 1 0 0) false) (Y : Cr G (some .int) 0 0) {K4 : Nat → Int32 → Int32 → MM → Option (Int32 × MM)} (hK4 : ∀ (x0 : Nat) (x1 : Int32) (x2 : Int32) (M : MM), V G trI 3 0 0 4 [(0, .ref x0), (1, .int x1), (2, .int x2)] [] M (K4 x0 x1 x2 M)) (x0 : Nat) (x2 : Int32) (s0 : Int32) (s1 : Int32) (M : MM) : V G trI 3 0 0 29 [(0, .ref x0), (2, .int x2)] [.int s0, .int s1] M (f_X9_shyOnes_29 K4 x0 x2 s0 s1 M) := by
  unfold f_X9_shyOnes_29
  refine v_ior X 30 dX9_shyOnes_29 rfl ?_
  refine v_bnI (fun y1 => ?_)
  refine v_istore_n (lv' := [(0, .ref x0), (1, .int y1), (2, .int x2)]) X 31 dX9_shyOnes_30 (by decide) rfl rfl ?_
  refine v_iinc X 34 2 (fun z => [(0, .ref x0), (1, .int y1), (2, .int z)]) dX9_shyOnes_31 rfl ik_1 (by decide) (fun _ => rfl) rfl (fun y2 => ?_)
  refine v_goto X 4 dX9_shyOnes_34 rfl ?_
  exact hK4 _ _ _ _
set_option maxRecDepth 4000 in
theorem L_X9_shyOnes_4 {G : Gx} (X : Cb G cX9_shyOnes 3 RX9 (RM 1 0 0) false) (Y : Cr G (some .int) 0 0) : ∀ (n : Nat) (x0 : Nat) (x1 : Int32) (x2 : Int32) (M : MM), V G trI 3 0 0 4 [(0, .ref x0), (1, .int x1), (2, .int x2)] [] M (f_X9_shyOnes_4 n x0 x1 x2 M) := by
  intro n
  induction n with
  | zero => intro x0 x1 x2 M; rw [f_X9_shyOnes_4]; exact v_none
  | succ n ih =>
    intro x0 x1 x2 M
    rw [f_X9_shyOnes_4]
    refine v_iload_n X 5 2 dX9_shyOnes_4 rfl rfl ?_
    refine v_aload_n X 6 0 dX9_shyOnes_5 rfl rfl ?_
    refine v_getI X 9 fl_X9_47.r dX9_shyOnes_6 rfl (fun v1 => ?_)
    refine v_icge X 12 37 dX9_shyOnes_9 rfl rfl ?_ ?_
    · refine v_iload_n X 38 1 dX9_shyOnes_37 rfl rfl ?_
      exact v_iret X Y (Nat.le_refl _) (Nat.le_refl _) dX9_shyOnes_38
    · refine v_iload_n X 13 1 dX9_shyOnes_12 rfl rfl ?_
      refine v_aload_n X 14 0 dX9_shyOnes_13 rfl rfl ?_
      refine v_getR X 17 fl_X9_11.r dX9_shyOnes_14 rfl (fun v2 => ?_)
      refine v_iload_n X 18 2 dX9_shyOnes_17 rfl rfl ?_
      refine v_zald X 19 dX9_shyOnes_18 rfl (fun v3 => ?_)
      refine v_ifeq X 22 28 dX9_shyOnes_19 rfl rfl ?_ ?_
      · refine v_iconst X 29 dX9_shyOnes_28 ik_0 rfl ?_
        exact v_sb [0, 2] (L_X9_shyOnes_29 X Y ih _ _ _ _ _) rfl
      · refine v_iconst X 23 dX9_shyOnes_22 ik_1 rfl ?_
        refine v_iload_n X 24 2 dX9_shyOnes_23 rfl rfl ?_
        refine v_ishl X 25 dX9_shyOnes_24 rfl ?_
        refine v_goto X 29 dX9_shyOnes_25 rfl ?_
        exact v_sb [0, 2] (L_X9_shyOnes_29 X Y ih _ _ _ _ _) rfl
set_option maxRecDepth 4000 in
theorem L_X9_shyOnes_0 {G : Gx} (X : Cb G cX9_shyOnes 3 RX9 (RM 1 0 0) false) (Y : Cr G (some .int) 0 0) (x0 : Nat) (M : MM) : V G trI 3 0 0 0 [(0, .ref x0)] [] M (f_X9_shyOnes_0 x0 M) := by
  unfold f_X9_shyOnes_0
  refine v_iconst X 1 dX9_shyOnes_0 ik_0 rfl ?_
  refine v_istore_n (lv' := [(0, .ref x0), (1, .int (0 : Int32))]) X 2 dX9_shyOnes_1 (by decide) rfl rfl ?_
  refine v_iconst X 3 dX9_shyOnes_2 ik_0 rfl ?_
  refine v_istore_n (lv' := [(0, .ref x0), (1, .int (0 : Int32)), (2, .int (0 : Int32))]) X 4 dX9_shyOnes_3 (by decide) rfl rfl ?_
  exact L_X9_shyOnes_4 X Y 1024 _ _ _ _
theorem c_X9_shyOnes (l : Launch) (x0 : Nat) (M : MM) (r : Int32) (M1 : MM) (h : f_X9_shyOnes x0 M = some (r, M1)) : KV l yX9_shyOnes cX9_shyOnes 3 (some .int) (RM 1 0 0) false 9 x0 [] M (some (.int r)) M1 := by
  obtain ⟨hO, h2⟩ := iteO_some h
  exact ⟨hO, ct_of (tr := trI) (by decide) (Nat.le_of_ble_eq_true rfl) [(0, .ref x0)] rfl h2 (fun G X Y hn hl => L_X9_shyOnes_0 X Y x0 M)⟩

def f_X9_length_0 (x0 : Nat) (x1 : Int32) (M : MM) : Option (Int32 × MM) :=
    b1 (gR 9 1 x0 M) fun v1 =>
    b1 (ldI v1 x1 M) fun v2 =>
    b1 (gR 9 2 x0 M) fun v3 =>
    b1 (ldI v3 x1 M) fun v4 =>
    some (((2 : Int32) * v2) + v4, M)

def f_X9_length (x0 : Nat) (x1 : Int32) (M : MM) : Option (Int32 × MM) := if isO 9 x0 M = true then f_X9_length_0 x0 x1 M else none
set_option maxRecDepth 4000 in
theorem L_X9_length_0 {G : Gx} (X : Cb G cX9_length 2 RX9 (RM 1 0 0) false) (Y : Cr G (some .int) 0 0) (x0 : Nat) (x1 : Int32) (M : MM) : V G trI 2 0 0 0 [(0, .ref x0), (1, .int x1)] [] M (f_X9_length_0 x0 x1 M) := by
  unfold f_X9_length_0
  refine v_iconst X 1 dX9_length_0 ik_2 rfl ?_
  refine v_aload_n X 2 0 dX9_length_1 rfl rfl ?_
  refine v_getR X 5 fl_X9_15.r dX9_length_2 rfl (fun v1 => ?_)
  refine v_iload_n X 6 1 dX9_length_5 rfl rfl ?_
  refine v_iald X 7 dX9_length_6 rfl (fun v2 => ?_)
  refine v_imul X 8 dX9_length_7 rfl ?_
  refine v_aload_n X 9 0 dX9_length_8 rfl rfl ?_
  refine v_getR X 12 fl_X9_19.r dX9_length_9 rfl (fun v3 => ?_)
  refine v_iload_n X 13 1 dX9_length_12 rfl rfl ?_
  refine v_iald X 14 dX9_length_13 rfl (fun v4 => ?_)
  refine v_iadd X 15 dX9_length_14 rfl ?_
  exact v_iret X Y (Nat.le_refl _) (Nat.le_refl _) dX9_length_15
theorem c_X9_length (l : Launch) (x0 : Nat) (x1 : Int32) (M : MM) (r : Int32) (M1 : MM) (h : f_X9_length x0 x1 M = some (r, M1)) : KV l yX9_length cX9_length 2 (some .int) (RM 1 0 0) false 9 x0 [.int x1] M (some (.int r)) M1 := by
  obtain ⟨hO, h2⟩ := iteO_some h
  exact ⟨hO, ct_of (tr := trI) (by decide) (Nat.le_of_ble_eq_true rfl) [(0, .ref x0), (1, .int x1)] rfl h2 (fun G X Y hn hl => L_X9_length_0 X Y x0 x1 M)⟩

def f_X9_endsInTime_0 (x0 : Nat) (x1 : Int32) (x2 : Int32) (M : MM) : Option (Int32 × MM) :=
    b2 (f_X9_length x0 x1 M) fun r2 M1 =>
    b1 (gI 9 9 x0 M1) fun v3 =>
    if v3 < (x2 + r2) then
      rz (0 : Int32) M1
    else
      rz (1 : Int32) M1

def f_X9_endsInTime (x0 : Nat) (x1 : Int32) (x2 : Int32) (M : MM) : Option (Int32 × MM) := if isO 9 x0 M = true then f_X9_endsInTime_0 x0 x1 x2 M else none
set_option maxRecDepth 4000 in
theorem L_X9_endsInTime_0 {G : Gx} (X : Cb G cX9_endsInTime 3 RX9 (RM 2 0 0) false) (Y : Cr G (some .boolean) 0 0) (x0 : Nat) (x1 : Int32) (x2 : Int32) (M : MM) : V G trI 3 0 0 0 [(0, .ref x0), (1, .int x1), (2, .int x2)] [] M (f_X9_endsInTime_0 x0 x1 x2 M) := by
  unfold f_X9_endsInTime_0
  refine v_iload_n X 1 2 dX9_endsInTime_0 rfl rfl ?_
  refine v_aload_n X 2 0 dX9_endsInTime_1 rfl rfl ?_
  refine v_iload_n X 3 1 dX9_endsInTime_2 rfl rfl ?_
  refine v_vI X 6 cv_X9_length ml_X9_60 (n1 := 1) rfl [.int x1] rfl rfl rfl dX9_endsInTime_3 rfl (fun r M1 h => c_X9_length _ _ _ _ _ _ h) (fun r2 M1 => ?_)
  refine v_iadd X 7 dX9_endsInTime_6 rfl ?_
  refine v_aload_n X 8 0 dX9_endsInTime_7 rfl rfl ?_
  refine v_getI X 11 fl_X9_34.r dX9_endsInTime_8 rfl (fun v3 => ?_)
  refine v_icgt X 14 18 dX9_endsInTime_11 rfl rfl ?_ ?_
  · refine v_iconst X 19 dX9_endsInTime_18 ik_0 rfl ?_
    exact v_zret X Y (Nat.le_refl _) (Nat.le_refl _) dX9_endsInTime_19
  · refine v_iconst X 15 dX9_endsInTime_14 ik_1 rfl ?_
    refine v_goto X 19 dX9_endsInTime_15 rfl ?_
    exact v_zret X Y (Nat.le_refl _) (Nat.le_refl _) dX9_endsInTime_19
theorem c_X9_endsInTime (l : Launch) (x0 : Nat) (x1 : Int32) (x2 : Int32) (M : MM) (r : Int32) (M1 : MM) (h : f_X9_endsInTime x0 x1 x2 M = some (r, M1)) : KV l yX9_endsInTime cX9_endsInTime 3 (some .boolean) (RM 2 0 0) false 9 x0 [.int x1, .int x2] M (some (.int r)) M1 := by
  obtain ⟨hO, h2⟩ := iteO_some h
  exact ⟨hO, ct_of (tr := trI) (by decide) (Nat.le_of_ble_eq_true rfl) [(0, .ref x0), (1, .int x1), (2, .int x2)] rfl h2 (fun G X Y hn hl => L_X9_endsInTime_0 X Y x0 x1 x2 M)⟩

def f_X9_isOpen_0 (x0 : Nat) (x1 : Int32) (x2 : Int32) (M : MM) : Option (Int32 × MM) :=
    b1 (gR 9 1 x0 M) fun v1 =>
    b1 (ldI v1 x1 M) fun v2 =>
    b1 (gR 9 3 x0 M) fun v3 =>
    b1 (ldI v3 x1 M) fun v4 =>
    if (x2 + v2) < v4 then
      rz (0 : Int32) M
    else
      b1 (gR 9 1 x0 M) fun v5 =>
      b1 (ldI v5 x1 M) fun v6 =>
      b1 (gR 9 2 x0 M) fun v7 =>
      b1 (ldI v7 x1 M) fun v8 =>
      b1 (gR 9 4 x0 M) fun v9 =>
      b1 (ldI v9 x1 M) fun v10 =>
      if v10 < ((x2 + v6) + v8) then
        rz (0 : Int32) M
      else
        rz (1 : Int32) M

def f_X9_isOpen (x0 : Nat) (x1 : Int32) (x2 : Int32) (M : MM) : Option (Int32 × MM) := if isO 9 x0 M = true then f_X9_isOpen_0 x0 x1 x2 M else none
set_option maxRecDepth 4000 in
theorem L_X9_isOpen_0 {G : Gx} (X : Cb G cX9_isOpen 3 RX9 (RM 1 0 0) false) (Y : Cr G (some .boolean) 0 0) (x0 : Nat) (x1 : Int32) (x2 : Int32) (M : MM) : V G trI 3 0 0 0 [(0, .ref x0), (1, .int x1), (2, .int x2)] [] M (f_X9_isOpen_0 x0 x1 x2 M) := by
  unfold f_X9_isOpen_0
  refine v_iload_n X 1 2 dX9_isOpen_0 rfl rfl ?_
  refine v_aload_n X 2 0 dX9_isOpen_1 rfl rfl ?_
  refine v_getR X 5 fl_X9_15.r dX9_isOpen_2 rfl (fun v1 => ?_)
  refine v_iload_n X 6 1 dX9_isOpen_5 rfl rfl ?_
  refine v_iald X 7 dX9_isOpen_6 rfl (fun v2 => ?_)
  refine v_iadd X 8 dX9_isOpen_7 rfl ?_
  refine v_aload_n X 9 0 dX9_isOpen_8 rfl rfl ?_
  refine v_getR X 12 fl_X9_22.r dX9_isOpen_9 rfl (fun v3 => ?_)
  refine v_iload_n X 13 1 dX9_isOpen_12 rfl rfl ?_
  refine v_iald X 14 dX9_isOpen_13 rfl (fun v4 => ?_)
  refine v_iclt X 17 45 dX9_isOpen_14 rfl rfl ?_ ?_
  · refine v_iconst X 46 dX9_isOpen_45 ik_0 rfl ?_
    exact v_zret X Y (Nat.le_refl _) (Nat.le_refl _) dX9_isOpen_46
  · refine v_iload_n X 18 2 dX9_isOpen_17 rfl rfl ?_
    refine v_aload_n X 19 0 dX9_isOpen_18 rfl rfl ?_
    refine v_getR X 22 fl_X9_15.r dX9_isOpen_19 rfl (fun v5 => ?_)
    refine v_iload_n X 23 1 dX9_isOpen_22 rfl rfl ?_
    refine v_iald X 24 dX9_isOpen_23 rfl (fun v6 => ?_)
    refine v_iadd X 25 dX9_isOpen_24 rfl ?_
    refine v_aload_n X 26 0 dX9_isOpen_25 rfl rfl ?_
    refine v_getR X 29 fl_X9_19.r dX9_isOpen_26 rfl (fun v7 => ?_)
    refine v_iload_n X 30 1 dX9_isOpen_29 rfl rfl ?_
    refine v_iald X 31 dX9_isOpen_30 rfl (fun v8 => ?_)
    refine v_iadd X 32 dX9_isOpen_31 rfl ?_
    refine v_aload_n X 33 0 dX9_isOpen_32 rfl rfl ?_
    refine v_getR X 36 fl_X9_25.r dX9_isOpen_33 rfl (fun v9 => ?_)
    refine v_iload_n X 37 1 dX9_isOpen_36 rfl rfl ?_
    refine v_iald X 38 dX9_isOpen_37 rfl (fun v10 => ?_)
    refine v_icgt X 41 45 dX9_isOpen_38 rfl rfl ?_ ?_
    · refine v_iconst X 46 dX9_isOpen_45 ik_0 rfl ?_
      exact v_zret X Y (Nat.le_refl _) (Nat.le_refl _) dX9_isOpen_46
    · refine v_iconst X 42 dX9_isOpen_41 ik_1 rfl ?_
      refine v_goto X 46 dX9_isOpen_42 rfl ?_
      exact v_zret X Y (Nat.le_refl _) (Nat.le_refl _) dX9_isOpen_46
theorem c_X9_isOpen (l : Launch) (x0 : Nat) (x1 : Int32) (x2 : Int32) (M : MM) (r : Int32) (M1 : MM) (h : f_X9_isOpen x0 x1 x2 M = some (r, M1)) : KV l yX9_isOpen cX9_isOpen 3 (some .boolean) (RM 1 0 0) false 9 x0 [.int x1, .int x2] M (some (.int r)) M1 := by
  obtain ⟨hO, h2⟩ := iteO_some h
  exact ⟨hO, ct_of (tr := trI) (by decide) (Nat.le_of_ble_eq_true rfl) [(0, .ref x0), (1, .int x1), (2, .int x2)] rfl h2 (fun G X Y hn hl => L_X9_isOpen_0 X Y x0 x1 x2 M)⟩

def f_X9_setLasts_73 (K6 : Nat → Int32 → Int32 → Int32 → Int32 → Int32 → Int32 → MM → Option (Int32 × MM)) (x0 : Nat) (x1 : Int32) (x2 : Int32) (x3 : Int32) (x4 : Int32) (x5 : Int32) (x6 : Int32) (s0 : Int32) (s1 : Int32) (s2 : Nat) (M : MM) : Option (Int32 × MM) :=
    b1 (stI s2 s1 s0 M) fun M1 =>
    b1 (gR 9 2 x0 M1) fun v2 =>
    b1 (ldI v2 x6 M1) fun v3 =>
    bn (x5 + v3 : Int32) fun y4 =>
    bn (x6 + 1 : Int32) fun y5 =>
    K6 x0 x1 x2 x3 x4 y4 y5 M1

def f_X9_setLasts_46 (K6 : Nat → Int32 → Int32 → Int32 → Int32 → Int32 → Int32 → MM → Option (Int32 × MM)) (x0 : Nat) (x1 : Int32) (x2 : Int32) (x3 : Int32) (x4 : Int32) (x5 : Int32) (x6 : Int32) (x7 : Int32) (M : MM) : Option (Int32 × MM) :=
    b1 (gR 9 2 x0 M) fun v1 =>
    if x2 ≤ x6 then
      f_X9_setLasts_73 K6 x0 x1 x2 x3 x4 x5 x6 (1 : Int32) x6 v1 M
    else
      f_X9_setLasts_73 K6 x0 x1 x2 x3 x4 x5 x6 (maxI (1 : Int32) (minI (9 : Int32) x7)) x6 v1 M

def f_X9_setLasts_6 : Nat → Nat → Int32 → Int32 → Int32 → Int32 → Int32 → Int32 → MM → Option (Int32 × MM)
  | 0, _, _, _, _, _, _, _, _ => none
  | n + 1, x0, x1, x2, x3, x4, x5, x6, M =>
    b1 (gI 9 8 x0 M) fun v1 =>
    if v1 ≤ x6 then
      some (x5, M)
    else
      bn (x3 + (x6 * x4) : Int32) fun y2 =>
      if x1 = 0 then
        bn (Int8.toInt32 (Int32.toInt8 y2) : Int32) fun y4 =>
        f_X9_setLasts_46 (f_X9_setLasts_6 n) x0 x1 x2 x3 x4 x5 x6 y4 M
      else
        if x1 = (1 : Int32) then
          bn (Int16.toInt32 (Int32.toInt16 y2) : Int32) fun y3 =>
          f_X9_setLasts_46 (f_X9_setLasts_6 n) x0 x1 x2 x3 x4 x5 x6 y3 M
        else
          f_X9_setLasts_46 (f_X9_setLasts_6 n) x0 x1 x2 x3 x4 x5 x6 y2 M

def f_X9_setLasts_0 (x0 : Nat) (x1 : Int32) (x2 : Int32) (x3 : Int32) (x4 : Int32) (M : MM) : Option (Int32 × MM) :=
    f_X9_setLasts_6 1024 x0 x1 x2 x3 x4 (0 : Int32) (0 : Int32) M

def f_X9_setLasts (x0 : Nat) (x1 : Int32) (x2 : Int32) (x3 : Int32) (x4 : Int32) (M : MM) : Option (Int32 × MM) := if isO 9 x0 M = true then f_X9_setLasts_0 x0 x1 x2 x3 x4 M else none
set_option maxRecDepth 4000 in
theorem L_X9_setLasts_73 {G : Gx} (X : Cb G cX9_setLasts 8 RX9 (RM 2 0 0) false) (Y : Cr G (some .int) 0 0) {K6 : Nat → Int32 → Int32 → Int32 → Int32 → Int32 → Int32 → MM → Option (Int32 × MM)} (hK6 : ∀ (x0 : Nat) (x1 : Int32) (x2 : Int32) (x3 : Int32) (x4 : Int32) (x5 : Int32) (x6 : Int32) (M : MM), V G trI 8 0 0 6 [(0, .ref x0), (1, .int x1), (2, .int x2), (3, .int x3), (4, .int x4), (5, .int x5), (6, .int x6)] [] M (K6 x0 x1 x2 x3 x4 x5 x6 M)) (x0 : Nat) (x1 : Int32) (x2 : Int32) (x3 : Int32) (x4 : Int32) (x5 : Int32) (x6 : Int32) (s0 : Int32) (s1 : Int32) (s2 : Nat) (M : MM) : V G trI 8 0 0 73 [(0, .ref x0), (1, .int x1), (2, .int x2), (3, .int x3), (4, .int x4), (5, .int x5), (6, .int x6)] [.int s0, .int s1, .ref s2] M (f_X9_setLasts_73 K6 x0 x1 x2 x3 x4 x5 x6 s0 s1 s2 M) := by
  unfold f_X9_setLasts_73
  refine v_iast X 74 dX9_setLasts_73 rfl (fun M1 => ?_)
  refine v_iload X 76 5 dX9_setLasts_74 rfl rfl ?_
  refine v_aload_n X 77 0 dX9_setLasts_76 rfl rfl ?_
  refine v_getR X 80 fl_X9_19.r dX9_setLasts_77 rfl (fun v2 => ?_)
  refine v_iload X 82 6 dX9_setLasts_80 rfl rfl ?_
  refine v_iald X 83 dX9_setLasts_82 rfl (fun v3 => ?_)
  refine v_iadd X 84 dX9_setLasts_83 rfl ?_
  refine v_bnI (fun y4 => ?_)
  refine v_istore (lv' := [(0, .ref x0), (1, .int x1), (2, .int x2), (3, .int x3), (4, .int x4), (5, .int y4), (6, .int x6)]) X 86 dX9_setLasts_84 (by decide) rfl rfl ?_
  refine v_iinc X 89 6 (fun z => [(0, .ref x0), (1, .int x1), (2, .int x2), (3, .int x3), (4, .int x4), (5, .int y4), (6, .int z)]) dX9_setLasts_86 rfl ik_1 (by decide) (fun _ => rfl) rfl (fun y5 => ?_)
  refine v_goto X 6 dX9_setLasts_89 rfl ?_
  exact hK6 _ _ _ _ _ _ _ _
set_option maxRecDepth 4000 in
theorem L_X9_setLasts_46 {G : Gx} (X : Cb G cX9_setLasts 8 RX9 (RM 2 0 0) false) (Y : Cr G (some .int) 0 0) {K6 : Nat → Int32 → Int32 → Int32 → Int32 → Int32 → Int32 → MM → Option (Int32 × MM)} (hK6 : ∀ (x0 : Nat) (x1 : Int32) (x2 : Int32) (x3 : Int32) (x4 : Int32) (x5 : Int32) (x6 : Int32) (M : MM), V G trI 8 0 0 6 [(0, .ref x0), (1, .int x1), (2, .int x2), (3, .int x3), (4, .int x4), (5, .int x5), (6, .int x6)] [] M (K6 x0 x1 x2 x3 x4 x5 x6 M)) (x0 : Nat) (x1 : Int32) (x2 : Int32) (x3 : Int32) (x4 : Int32) (x5 : Int32) (x6 : Int32) (x7 : Int32) (M : MM) : V G trI 8 0 0 46 [(0, .ref x0), (1, .int x1), (2, .int x2), (3, .int x3), (4, .int x4), (5, .int x5), (6, .int x6), (7, .int x7)] [] M (f_X9_setLasts_46 K6 x0 x1 x2 x3 x4 x5 x6 x7 M) := by
  unfold f_X9_setLasts_46
  refine v_aload_n X 47 0 dX9_setLasts_46 rfl rfl ?_
  refine v_getR X 50 fl_X9_19.r dX9_setLasts_47 rfl (fun v1 => ?_)
  refine v_iload X 52 6 dX9_setLasts_50 rfl rfl ?_
  refine v_iload X 54 6 dX9_setLasts_52 rfl rfl ?_
  refine v_iload_n X 55 2 dX9_setLasts_54 rfl rfl ?_
  refine v_icge X 58 72 dX9_setLasts_55 rfl rfl ?_ ?_
  · refine v_iconst X 73 dX9_setLasts_72 ik_1 rfl ?_
    exact v_sb [0, 1, 2, 3, 4, 5, 6] (L_X9_setLasts_73 X Y hK6 _ _ _ _ _ _ _ _ _ _ _) rfl
  · refine v_iconst X 59 dX9_setLasts_58 ik_1 rfl ?_
    refine v_bipush X 61 dX9_setLasts_59 bk_9 rfl ?_
    refine v_iload X 63 7 dX9_setLasts_61 rfl rfl ?_
    refine v_min X 66 ml_X9_64 w_min (Nat.le_of_ble_eq_true rfl) (Nat.le_of_ble_eq_true rfl) (Nat.zero_le _) (Nat.zero_le _) dX9_setLasts_63 rfl ?_
    refine v_max X 69 ml_X9_70 w_max (Nat.le_of_ble_eq_true rfl) (Nat.le_of_ble_eq_true rfl) (Nat.zero_le _) (Nat.zero_le _) dX9_setLasts_66 rfl ?_
    refine v_goto X 73 dX9_setLasts_69 rfl ?_
    exact v_sb [0, 1, 2, 3, 4, 5, 6] (L_X9_setLasts_73 X Y hK6 _ _ _ _ _ _ _ _ _ _ _) rfl
set_option maxRecDepth 4000 in
theorem L_X9_setLasts_6 {G : Gx} (X : Cb G cX9_setLasts 8 RX9 (RM 2 0 0) false) (Y : Cr G (some .int) 0 0) : ∀ (n : Nat) (x0 : Nat) (x1 : Int32) (x2 : Int32) (x3 : Int32) (x4 : Int32) (x5 : Int32) (x6 : Int32) (M : MM), V G trI 8 0 0 6 [(0, .ref x0), (1, .int x1), (2, .int x2), (3, .int x3), (4, .int x4), (5, .int x5), (6, .int x6)] [] M (f_X9_setLasts_6 n x0 x1 x2 x3 x4 x5 x6 M) := by
  intro n
  induction n with
  | zero => intro x0 x1 x2 x3 x4 x5 x6 M; rw [f_X9_setLasts_6]; exact v_none
  | succ n ih =>
    intro x0 x1 x2 x3 x4 x5 x6 M
    rw [f_X9_setLasts_6]
    refine v_iload X 8 6 dX9_setLasts_6 rfl rfl ?_
    refine v_aload_n X 9 0 dX9_setLasts_8 rfl rfl ?_
    refine v_getI X 12 fl_X9_50.r dX9_setLasts_9 rfl (fun v1 => ?_)
    refine v_icge X 15 92 dX9_setLasts_12 rfl rfl ?_ ?_
    · refine v_iload X 94 5 dX9_setLasts_92 rfl rfl ?_
      exact v_iret X Y (Nat.le_refl _) (Nat.le_refl _) dX9_setLasts_94
    · refine v_iload_n X 16 3 dX9_setLasts_15 rfl rfl ?_
      refine v_iload X 18 6 dX9_setLasts_16 rfl rfl ?_
      refine v_iload X 20 4 dX9_setLasts_18 rfl rfl ?_
      refine v_imul X 21 dX9_setLasts_20 rfl ?_
      refine v_iadd X 22 dX9_setLasts_21 rfl ?_
      refine v_bnI (fun y2 => ?_)
      refine v_istore (lv' := [(0, .ref x0), (1, .int x1), (2, .int x2), (3, .int x3), (4, .int x4), (5, .int x5), (6, .int x6), (7, .int y2)]) X 24 dX9_setLasts_22 (by decide) rfl rfl ?_
      refine v_iload_n X 25 1 dX9_setLasts_24 rfl rfl ?_
      refine v_ifne X 28 36 dX9_setLasts_25 rfl rfl ?_ ?_
      · refine v_iload_n X 37 1 dX9_setLasts_36 rfl rfl ?_
        refine v_iconst X 38 dX9_setLasts_37 ik_1 rfl ?_
        refine v_icne X 41 46 dX9_setLasts_38 rfl rfl ?_ ?_
        · exact L_X9_setLasts_46 X Y ih _ _ _ _ _ _ _ _ _
        · refine v_iload X 43 7 dX9_setLasts_41 rfl rfl ?_
          refine v_i2s X 44 dX9_setLasts_43 rfl ?_
          refine v_bnI (fun y3 => ?_)
          refine v_istore (lv' := [(0, .ref x0), (1, .int x1), (2, .int x2), (3, .int x3), (4, .int x4), (5, .int x5), (6, .int x6), (7, .int y3)]) X 46 dX9_setLasts_44 (by decide) rfl rfl ?_
          exact L_X9_setLasts_46 X Y ih _ _ _ _ _ _ _ _ _
      · refine v_iload X 30 7 dX9_setLasts_28 rfl rfl ?_
        refine v_i2b X 31 dX9_setLasts_30 rfl ?_
        refine v_bnI (fun y4 => ?_)
        refine v_istore (lv' := [(0, .ref x0), (1, .int x1), (2, .int x2), (3, .int x3), (4, .int x4), (5, .int x5), (6, .int x6), (7, .int y4)]) X 33 dX9_setLasts_31 (by decide) rfl rfl ?_
        refine v_goto X 46 dX9_setLasts_33 rfl ?_
        exact L_X9_setLasts_46 X Y ih _ _ _ _ _ _ _ _ _
set_option maxRecDepth 4000 in
theorem L_X9_setLasts_0 {G : Gx} (X : Cb G cX9_setLasts 8 RX9 (RM 2 0 0) false) (Y : Cr G (some .int) 0 0) (x0 : Nat) (x1 : Int32) (x2 : Int32) (x3 : Int32) (x4 : Int32) (M : MM) : V G trI 8 0 0 0 [(0, .ref x0), (1, .int x1), (2, .int x2), (3, .int x3), (4, .int x4)] [] M (f_X9_setLasts_0 x0 x1 x2 x3 x4 M) := by
  unfold f_X9_setLasts_0
  refine v_iconst X 1 dX9_setLasts_0 ik_0 rfl ?_
  refine v_istore (lv' := [(0, .ref x0), (1, .int x1), (2, .int x2), (3, .int x3), (4, .int x4), (5, .int (0 : Int32))]) X 3 dX9_setLasts_1 (by decide) rfl rfl ?_
  refine v_iconst X 4 dX9_setLasts_3 ik_0 rfl ?_
  refine v_istore (lv' := [(0, .ref x0), (1, .int x1), (2, .int x2), (3, .int x3), (4, .int x4), (5, .int (0 : Int32)), (6, .int (0 : Int32))]) X 6 dX9_setLasts_4 (by decide) rfl rfl ?_
  exact L_X9_setLasts_6 X Y 1024 _ _ _ _ _ _ _ _
theorem c_X9_setLasts (l : Launch) (x0 : Nat) (x1 : Int32) (x2 : Int32) (x3 : Int32) (x4 : Int32) (M : MM) (r : Int32) (M1 : MM) (h : f_X9_setLasts x0 x1 x2 x3 x4 M = some (r, M1)) : KV l yX9_setLasts cX9_setLasts 8 (some .int) (RM 2 0 0) false 9 x0 [.int x1, .int x2, .int x3, .int x4] M (some (.int r)) M1 := by
  obtain ⟨hO, h2⟩ := iteO_some h
  exact ⟨hO, ct_of (tr := trI) (by decide) (Nat.le_of_ble_eq_true rfl) [(0, .ref x0), (1, .int x1), (2, .int x2), (3, .int x3), (4, .int x4)] rfl h2 (fun G X Y hn hl => L_X9_setLasts_0 X Y x0 x1 x2 x3 x4 M)⟩

def f_X9_readErrand_165 (x0 : Nat) (x1 : Nat) (x2 : Int32) (s0 : Int32) (s1 : Int32) (s2 : Nat) (M : MM) : Option (Int32 × MM) :=
    b1 (stI s2 s1 s0 M) fun M1 =>
    b1 (gR 9 6 x0 M1) fun v2 =>
    b2 (f_X10_take x1 (94 : Int32) M1) fun r4 M3 =>
    b1 (stZ v2 x2 r4 M3) fun M5 =>
    b1 (gI 9 12 x0 M5) fun v6 =>
    b1 (pI 9 12 x0 (v6 + (1 : Int32)) M5) fun M7 =>
    rz (1 : Int32) M7

def f_X9_readErrand_100 (x0 : Nat) (x1 : Nat) (x2 : Int32) (s0 : Int32) (s1 : Int32) (s2 : Nat) (M : MM) : Option (Int32 × MM) :=
    b1 (stI s2 s1 s0 M) fun M1 =>
    b1 (gR 9 4 x0 M1) fun v2 =>
    b1 (ldI v2 x2 M1) fun v3 =>
    if 0 ≤ v3 then
      b1 (gR 9 4 x0 M1) fun v4 =>
      b1 (ldI v4 x2 M1) fun v5 =>
      b1 (gR 9 3 x0 M1) fun v6 =>
      b1 (ldI v6 x2 M1) fun v7 =>
      if v7 ≤ v5 then
        b1 (gR 9 5 x0 M1) fun v8 =>
        b2 (f_X10_take x1 (43 : Int32) M1) fun r10 M9 =>
        if r10 = 0 then
          b2 (f_X10_take x1 (42 : Int32) M9) fun r12 M11 =>
          if r12 = 0 then
            f_X9_readErrand_165 x0 x1 x2 (0 : Int32) x2 v8 M11
          else
            f_X9_readErrand_165 x0 x1 x2 (2 : Int32) x2 v8 M11
        else
          f_X9_readErrand_165 x0 x1 x2 (1 : Int32) x2 v8 M9
      else
        b1 (f_X10_stepBack x1 M1) fun M13 =>
        rz (0 : Int32) M13
    else
      rz (0 : Int32) M1

def f_X9_readErrand_99 (x0 : Nat) (x1 : Nat) (x2 : Int32) (s0 : Int32) (s1 : Nat) (M : MM) : Option (Int32 × MM) :=
    f_X9_readErrand_100 x0 x1 x2 (-1 : Int32) s0 s1 M

def f_X9_readErrand_67 (x0 : Nat) (x1 : Nat) (x2 : Int32) (s0 : Int32) (s1 : Int32) (s2 : Nat) (M : MM) : Option (Int32 × MM) :=
    b1 (stI s2 s1 s0 M) fun M1 =>
    b1 (gR 9 4 x0 M1) fun v2 =>
    b1 (gR 9 3 x0 M1) fun v3 =>
    b1 (ldI v3 x2 M1) fun v4 =>
    if v4 < 0 then
      f_X9_readErrand_99 x0 x1 x2 x2 v2 M1
    else
      b2 (f_X10_take x1 (45 : Int32) M1) fun r6 M5 =>
      if r6 = 0 then
        f_X9_readErrand_99 x0 x1 x2 x2 v2 M5
      else
        b2 (f_X10_number x1 (2 : Int32) M5) fun r8 M7 =>
        f_X9_readErrand_100 x0 x1 x2 r8 x2 v2 M7

def f_X9_readErrand_66 (x0 : Nat) (x1 : Nat) (x2 : Int32) (s0 : Int32) (s1 : Nat) (M : MM) : Option (Int32 × MM) :=
    f_X9_readErrand_67 x0 x1 x2 (-1 : Int32) s0 s1 M

def f_X9_readErrand_34 (x0 : Nat) (x1 : Nat) (x2 : Int32) (s0 : Int32) (s1 : Int32) (s2 : Nat) (M : MM) : Option (Int32 × MM) :=
    b1 (stI s2 s1 s0 M) fun M1 =>
    b1 (gR 9 3 x0 M1) fun v2 =>
    b1 (gR 9 2 x0 M1) fun v3 =>
    b1 (ldI v3 x2 M1) fun v4 =>
    if v4 < 0 then
      f_X9_readErrand_66 x0 x1 x2 x2 v2 M1
    else
      b2 (f_X10_take x1 (64 : Int32) M1) fun r6 M5 =>
      if r6 = 0 then
        f_X9_readErrand_66 x0 x1 x2 x2 v2 M5
      else
        b2 (f_X10_number x1 (2 : Int32) M5) fun r8 M7 =>
        f_X9_readErrand_67 x0 x1 x2 r8 x2 v2 M7

def f_X9_readErrand_0 (x0 : Nat) (x1 : Nat) (x2 : Int32) (M : MM) : Option (Int32 × MM) :=
    b1 (gR 9 1 x0 M) fun v1 =>
    b2 (f_X10_digit x1 (0 : Int32) M) fun r3 M2 =>
    b1 (stI v1 x2 r3 M2) fun M4 =>
    b1 (gR 9 2 x0 M4) fun v5 =>
    b1 (gR 9 1 x0 M4) fun v6 =>
    b1 (ldI v6 x2 M4) fun v7 =>
    if 0 ≤ v7 then
      b2 (f_X10_digit x1 (1 : Int32) M4) fun r9 M8 =>
      f_X9_readErrand_34 x0 x1 x2 r9 x2 v5 M8
    else
      f_X9_readErrand_34 x0 x1 x2 (-1 : Int32) x2 v5 M4

def f_X9_readErrand (x0 : Nat) (x1 : Nat) (x2 : Int32) (M : MM) : Option (Int32 × MM) := if isO 9 x0 M = true then f_X9_readErrand_0 x0 x1 x2 M else none
set_option maxRecDepth 4000 in
theorem L_X9_readErrand_165 {G : Gx} (X : Cb G cX9_readErrand 3 RX9 (RM 3 0 0) false) (Y : Cr G (some .boolean) 0 0) (x0 : Nat) (x1 : Nat) (x2 : Int32) (s0 : Int32) (s1 : Int32) (s2 : Nat) (M : MM) : V G trI 3 0 0 165 [(0, .ref x0), (1, .ref x1), (2, .int x2)] [.int s0, .int s1, .ref s2] M (f_X9_readErrand_165 x0 x1 x2 s0 s1 s2 M) := by
  unfold f_X9_readErrand_165
  refine v_iast X 166 dX9_readErrand_165 rfl (fun M1 => ?_)
  refine v_aload_n X 167 0 dX9_readErrand_166 rfl rfl ?_
  refine v_getR X 170 fl_X9_31.r dX9_readErrand_167 rfl (fun v2 => ?_)
  refine v_iload_n X 171 2 dX9_readErrand_170 rfl rfl ?_
  refine v_aload_n X 172 1 dX9_readErrand_171 rfl rfl ?_
  refine v_bipush X 174 dX9_readErrand_172 bk_94 rfl ?_
  refine v_vI X 177 cv_X10_take ml_X9_103 (n1 := 2) rfl [.int (94 : Int32)] rfl rfl rfl dX9_readErrand_174 rfl (fun r M1 h => c_X10_take _ _ _ _ _ _ h) (fun r4 M3 => ?_)
  refine v_zast X 178 dX9_readErrand_177 rfl (fun M5 => ?_)
  refine v_aload_n X 179 0 dX9_readErrand_178 rfl rfl ?_
  refine v_dup X 180 dX9_readErrand_179 rfl rfl ?_
  refine v_getI X 183 fl_X9_86.r dX9_readErrand_180 rfl (fun v6 => ?_)
  refine v_iconst X 184 dX9_readErrand_183 ik_1 rfl ?_
  refine v_iadd X 185 dX9_readErrand_184 rfl ?_
  refine v_putI X 188 fl_X9_86 nof dX9_readErrand_185 rfl (fun M7 => ?_)
  refine v_iconst X 189 dX9_readErrand_188 ik_1 rfl ?_
  exact v_zret X Y (Nat.le_refl _) (Nat.le_refl _) dX9_readErrand_189
set_option maxRecDepth 4000 in
theorem L_X9_readErrand_100 {G : Gx} (X : Cb G cX9_readErrand 3 RX9 (RM 3 0 0) false) (Y : Cr G (some .boolean) 0 0) (x0 : Nat) (x1 : Nat) (x2 : Int32) (s0 : Int32) (s1 : Int32) (s2 : Nat) (M : MM) : V G trI 3 0 0 100 [(0, .ref x0), (1, .ref x1), (2, .int x2)] [.int s0, .int s1, .ref s2] M (f_X9_readErrand_100 x0 x1 x2 s0 s1 s2 M) := by
  unfold f_X9_readErrand_100
  refine v_iast X 101 dX9_readErrand_100 rfl (fun M1 => ?_)
  refine v_aload_n X 102 0 dX9_readErrand_101 rfl rfl ?_
  refine v_getR X 105 fl_X9_25.r dX9_readErrand_102 rfl (fun v2 => ?_)
  refine v_iload_n X 106 2 dX9_readErrand_105 rfl rfl ?_
  refine v_iald X 107 dX9_readErrand_106 rfl (fun v3 => ?_)
  refine v_ifge X 110 112 dX9_readErrand_107 rfl rfl ?_ ?_
  · refine v_aload_n X 113 0 dX9_readErrand_112 rfl rfl ?_
    refine v_getR X 116 fl_X9_25.r dX9_readErrand_113 rfl (fun v4 => ?_)
    refine v_iload_n X 117 2 dX9_readErrand_116 rfl rfl ?_
    refine v_iald X 118 dX9_readErrand_117 rfl (fun v5 => ?_)
    refine v_aload_n X 119 0 dX9_readErrand_118 rfl rfl ?_
    refine v_getR X 122 fl_X9_22.r dX9_readErrand_119 rfl (fun v6 => ?_)
    refine v_iload_n X 123 2 dX9_readErrand_122 rfl rfl ?_
    refine v_iald X 124 dX9_readErrand_123 rfl (fun v7 => ?_)
    refine v_icge X 127 133 dX9_readErrand_124 rfl rfl ?_ ?_
    · refine v_aload_n X 134 0 dX9_readErrand_133 rfl rfl ?_
      refine v_getR X 137 fl_X9_28.r dX9_readErrand_134 rfl (fun v8 => ?_)
      refine v_iload_n X 138 2 dX9_readErrand_137 rfl rfl ?_
      refine v_aload_n X 139 1 dX9_readErrand_138 rfl rfl ?_
      refine v_bipush X 141 dX9_readErrand_139 bk_43 rfl ?_
      refine v_vI X 144 cv_X10_take ml_X9_103 (n1 := 2) rfl [.int (43 : Int32)] rfl rfl rfl dX9_readErrand_141 rfl (fun r M1 h => c_X10_take _ _ _ _ _ _ h) (fun r10 M9 => ?_)
      refine v_ifeq X 147 151 dX9_readErrand_144 rfl rfl ?_ ?_
      · refine v_aload_n X 152 1 dX9_readErrand_151 rfl rfl ?_
        refine v_bipush X 154 dX9_readErrand_152 bk_42 rfl ?_
        refine v_vI X 157 cv_X10_take ml_X9_103 (n1 := 2) rfl [.int (42 : Int32)] rfl rfl rfl dX9_readErrand_154 rfl (fun r M1 h => c_X10_take _ _ _ _ _ _ h) (fun r12 M11 => ?_)
        refine v_ifeq X 160 164 dX9_readErrand_157 rfl rfl ?_ ?_
        · refine v_iconst X 165 dX9_readErrand_164 ik_0 rfl ?_
          exact L_X9_readErrand_165 X Y _ _ _ _ _ _ _
        · refine v_iconst X 161 dX9_readErrand_160 ik_2 rfl ?_
          refine v_goto X 165 dX9_readErrand_161 rfl ?_
          exact L_X9_readErrand_165 X Y _ _ _ _ _ _ _
      · refine v_iconst X 148 dX9_readErrand_147 ik_1 rfl ?_
        refine v_goto X 165 dX9_readErrand_148 rfl ?_
        exact L_X9_readErrand_165 X Y _ _ _ _ _ _ _
    · refine v_aload_n X 128 1 dX9_readErrand_127 rfl rfl ?_
      refine v_vV X 131 cv_X10_stepBack ml_X9_116 (n1 := 1) rfl [] rfl rfl rfl dX9_readErrand_128 rfl (fun M1 h => c_X10_stepBack _ _ _ _ h) (fun M13 => ?_)
      refine v_iconst X 132 dX9_readErrand_131 ik_0 rfl ?_
      exact v_zret X Y (Nat.le_refl _) (Nat.le_refl _) dX9_readErrand_132
  · refine v_iconst X 111 dX9_readErrand_110 ik_0 rfl ?_
    exact v_zret X Y (Nat.le_refl _) (Nat.le_refl _) dX9_readErrand_111
set_option maxRecDepth 4000 in
theorem L_X9_readErrand_99 {G : Gx} (X : Cb G cX9_readErrand 3 RX9 (RM 3 0 0) false) (Y : Cr G (some .boolean) 0 0) (x0 : Nat) (x1 : Nat) (x2 : Int32) (s0 : Int32) (s1 : Nat) (M : MM) : V G trI 3 0 0 99 [(0, .ref x0), (1, .ref x1), (2, .int x2)] [.int s0, .ref s1] M (f_X9_readErrand_99 x0 x1 x2 s0 s1 M) := by
  unfold f_X9_readErrand_99
  refine v_iconst X 100 dX9_readErrand_99 ik_m1 rfl ?_
  exact L_X9_readErrand_100 X Y _ _ _ _ _ _ _
set_option maxRecDepth 4000 in
theorem L_X9_readErrand_67 {G : Gx} (X : Cb G cX9_readErrand 3 RX9 (RM 3 0 0) false) (Y : Cr G (some .boolean) 0 0) (x0 : Nat) (x1 : Nat) (x2 : Int32) (s0 : Int32) (s1 : Int32) (s2 : Nat) (M : MM) : V G trI 3 0 0 67 [(0, .ref x0), (1, .ref x1), (2, .int x2)] [.int s0, .int s1, .ref s2] M (f_X9_readErrand_67 x0 x1 x2 s0 s1 s2 M) := by
  unfold f_X9_readErrand_67
  refine v_iast X 68 dX9_readErrand_67 rfl (fun M1 => ?_)
  refine v_aload_n X 69 0 dX9_readErrand_68 rfl rfl ?_
  refine v_getR X 72 fl_X9_25.r dX9_readErrand_69 rfl (fun v2 => ?_)
  refine v_iload_n X 73 2 dX9_readErrand_72 rfl rfl ?_
  refine v_aload_n X 74 0 dX9_readErrand_73 rfl rfl ?_
  refine v_getR X 77 fl_X9_22.r dX9_readErrand_74 rfl (fun v3 => ?_)
  refine v_iload_n X 78 2 dX9_readErrand_77 rfl rfl ?_
  refine v_iald X 79 dX9_readErrand_78 rfl (fun v4 => ?_)
  refine v_iflt X 82 99 dX9_readErrand_79 rfl rfl ?_ ?_
  · exact L_X9_readErrand_99 X Y _ _ _ _ _ _
  · refine v_aload_n X 83 1 dX9_readErrand_82 rfl rfl ?_
    refine v_bipush X 85 dX9_readErrand_83 bk_45 rfl ?_
    refine v_vI X 88 cv_X10_take ml_X9_103 (n1 := 2) rfl [.int (45 : Int32)] rfl rfl rfl dX9_readErrand_85 rfl (fun r M1 h => c_X10_take _ _ _ _ _ _ h) (fun r6 M5 => ?_)
    refine v_ifeq X 91 99 dX9_readErrand_88 rfl rfl ?_ ?_
    · exact L_X9_readErrand_99 X Y _ _ _ _ _ _
    · refine v_aload_n X 92 1 dX9_readErrand_91 rfl rfl ?_
      refine v_iconst X 93 dX9_readErrand_92 ik_2 rfl ?_
      refine v_vI X 96 cv_X10_number ml_X9_113 (n1 := 2) rfl [.int (2 : Int32)] rfl rfl rfl dX9_readErrand_93 rfl (fun r M1 h => c_X10_number _ _ _ _ _ _ h) (fun r8 M7 => ?_)
      refine v_goto X 100 dX9_readErrand_96 rfl ?_
      exact L_X9_readErrand_100 X Y _ _ _ _ _ _ _
set_option maxRecDepth 4000 in
theorem L_X9_readErrand_66 {G : Gx} (X : Cb G cX9_readErrand 3 RX9 (RM 3 0 0) false) (Y : Cr G (some .boolean) 0 0) (x0 : Nat) (x1 : Nat) (x2 : Int32) (s0 : Int32) (s1 : Nat) (M : MM) : V G trI 3 0 0 66 [(0, .ref x0), (1, .ref x1), (2, .int x2)] [.int s0, .ref s1] M (f_X9_readErrand_66 x0 x1 x2 s0 s1 M) := by
  unfold f_X9_readErrand_66
  refine v_iconst X 67 dX9_readErrand_66 ik_m1 rfl ?_
  exact L_X9_readErrand_67 X Y _ _ _ _ _ _ _
set_option maxRecDepth 4000 in
theorem L_X9_readErrand_34 {G : Gx} (X : Cb G cX9_readErrand 3 RX9 (RM 3 0 0) false) (Y : Cr G (some .boolean) 0 0) (x0 : Nat) (x1 : Nat) (x2 : Int32) (s0 : Int32) (s1 : Int32) (s2 : Nat) (M : MM) : V G trI 3 0 0 34 [(0, .ref x0), (1, .ref x1), (2, .int x2)] [.int s0, .int s1, .ref s2] M (f_X9_readErrand_34 x0 x1 x2 s0 s1 s2 M) := by
  unfold f_X9_readErrand_34
  refine v_iast X 35 dX9_readErrand_34 rfl (fun M1 => ?_)
  refine v_aload_n X 36 0 dX9_readErrand_35 rfl rfl ?_
  refine v_getR X 39 fl_X9_22.r dX9_readErrand_36 rfl (fun v2 => ?_)
  refine v_iload_n X 40 2 dX9_readErrand_39 rfl rfl ?_
  refine v_aload_n X 41 0 dX9_readErrand_40 rfl rfl ?_
  refine v_getR X 44 fl_X9_19.r dX9_readErrand_41 rfl (fun v3 => ?_)
  refine v_iload_n X 45 2 dX9_readErrand_44 rfl rfl ?_
  refine v_iald X 46 dX9_readErrand_45 rfl (fun v4 => ?_)
  refine v_iflt X 49 66 dX9_readErrand_46 rfl rfl ?_ ?_
  · exact L_X9_readErrand_66 X Y _ _ _ _ _ _
  · refine v_aload_n X 50 1 dX9_readErrand_49 rfl rfl ?_
    refine v_bipush X 52 dX9_readErrand_50 bk_64 rfl ?_
    refine v_vI X 55 cv_X10_take ml_X9_103 (n1 := 2) rfl [.int (64 : Int32)] rfl rfl rfl dX9_readErrand_52 rfl (fun r M1 h => c_X10_take _ _ _ _ _ _ h) (fun r6 M5 => ?_)
    refine v_ifeq X 58 66 dX9_readErrand_55 rfl rfl ?_ ?_
    · exact L_X9_readErrand_66 X Y _ _ _ _ _ _
    · refine v_aload_n X 59 1 dX9_readErrand_58 rfl rfl ?_
      refine v_iconst X 60 dX9_readErrand_59 ik_2 rfl ?_
      refine v_vI X 63 cv_X10_number ml_X9_113 (n1 := 2) rfl [.int (2 : Int32)] rfl rfl rfl dX9_readErrand_60 rfl (fun r M1 h => c_X10_number _ _ _ _ _ _ h) (fun r8 M7 => ?_)
      refine v_goto X 67 dX9_readErrand_63 rfl ?_
      exact L_X9_readErrand_67 X Y _ _ _ _ _ _ _
set_option maxRecDepth 4000 in
theorem L_X9_readErrand_0 {G : Gx} (X : Cb G cX9_readErrand 3 RX9 (RM 3 0 0) false) (Y : Cr G (some .boolean) 0 0) (x0 : Nat) (x1 : Nat) (x2 : Int32) (M : MM) : V G trI 3 0 0 0 [(0, .ref x0), (1, .ref x1), (2, .int x2)] [] M (f_X9_readErrand_0 x0 x1 x2 M) := by
  unfold f_X9_readErrand_0
  refine v_aload_n X 1 0 dX9_readErrand_0 rfl rfl ?_
  refine v_getR X 4 fl_X9_15.r dX9_readErrand_1 rfl (fun v1 => ?_)
  refine v_iload_n X 5 2 dX9_readErrand_4 rfl rfl ?_
  refine v_aload_n X 6 1 dX9_readErrand_5 rfl rfl ?_
  refine v_iconst X 7 dX9_readErrand_6 ik_0 rfl ?_
  refine v_vI X 10 cv_X10_digit ml_X9_110 (n1 := 1) rfl [.int (0 : Int32)] rfl rfl rfl dX9_readErrand_7 rfl (fun r M1 h => c_X10_digit _ _ _ _ _ _ h) (fun r3 M2 => ?_)
  refine v_iast X 11 dX9_readErrand_10 rfl (fun M4 => ?_)
  refine v_aload_n X 12 0 dX9_readErrand_11 rfl rfl ?_
  refine v_getR X 15 fl_X9_19.r dX9_readErrand_12 rfl (fun v5 => ?_)
  refine v_iload_n X 16 2 dX9_readErrand_15 rfl rfl ?_
  refine v_aload_n X 17 0 dX9_readErrand_16 rfl rfl ?_
  refine v_getR X 20 fl_X9_15.r dX9_readErrand_17 rfl (fun v6 => ?_)
  refine v_iload_n X 21 2 dX9_readErrand_20 rfl rfl ?_
  refine v_iald X 22 dX9_readErrand_21 rfl (fun v7 => ?_)
  refine v_ifge X 25 29 dX9_readErrand_22 rfl rfl ?_ ?_
  · refine v_aload_n X 30 1 dX9_readErrand_29 rfl rfl ?_
    refine v_iconst X 31 dX9_readErrand_30 ik_1 rfl ?_
    refine v_vI X 34 cv_X10_digit ml_X9_110 (n1 := 1) rfl [.int (1 : Int32)] rfl rfl rfl dX9_readErrand_31 rfl (fun r M1 h => c_X10_digit _ _ _ _ _ _ h) (fun r9 M8 => ?_)
    exact L_X9_readErrand_34 X Y _ _ _ _ _ _ _
  · refine v_iconst X 26 dX9_readErrand_25 ik_m1 rfl ?_
    refine v_goto X 34 dX9_readErrand_26 rfl ?_
    exact L_X9_readErrand_34 X Y _ _ _ _ _ _ _
theorem c_X9_readErrand (l : Launch) (x0 : Nat) (x1 : Nat) (x2 : Int32) (M : MM) (r : Int32) (M1 : MM) (h : f_X9_readErrand x0 x1 x2 M = some (r, M1)) : KV l yX9_readErrand cX9_readErrand 3 (some .boolean) (RM 3 0 0) false 9 x0 [.ref x1, .int x2] M (some (.int r)) M1 := by
  obtain ⟨hO, h2⟩ := iteO_some h
  exact ⟨hO, ct_of (tr := trI) (by decide) (Nat.le_of_ble_eq_true rfl) [(0, .ref x0), (1, .ref x1), (2, .int x2)] rfl h2 (fun G X Y hn hl => L_X9_readErrand_0 X Y x0 x1 x2 M)⟩

def f_X9_readLine_45 (x0 : Nat) (x1 : Nat) (M : MM) : Option (Int32 × MM) :=
    b1 (gI 9 12 x0 M) fun v1 =>
    if (8 : Int32) ≤ v1 then
      rz (0 : Int32) M
    else
      b2 (f_X10_take x1 (101 : Int32) M) fun r3 M2 =>
      if r3 = 0 then
        rz (0 : Int32) M2
      else
        b1 (gI 9 12 x0 M2) fun v4 =>
        b2 (f_X9_readErrand x0 x1 v4 M2) fun r6 M5 =>
        if r6 = 0 then
          rz (0 : Int32) M5
        else
          rz (1 : Int32) M5

def f_X9_readLine_0 (x0 : Nat) (x1 : Nat) (M : MM) : Option (Int32 × MM) :=
    b1 (gI 9 11 x0 M) fun v1 =>
    if (6 : Int32) ≤ v1 then
      f_X9_readLine_45 x0 x1 M
    else
      b2 (f_X10_take x1 (112 : Int32) M) fun r3 M2 =>
      if r3 = 0 then
        f_X9_readLine_45 x0 x1 M2
      else
        b1 (gR 9 0 x0 M2) fun v4 =>
        b1 (gI 9 11 x0 M2) fun v5 =>
        b2 (f_X10_take x1 (33 : Int32) M2) fun r7 M6 =>
        b1 (stZ v4 v5 r7 M6) fun M8 =>
        b1 (gI 9 11 x0 M8) fun v9 =>
        b1 (pI 9 11 x0 (v9 + (1 : Int32)) M8) fun M10 =>
        rz (1 : Int32) M10

def f_X9_readLine (x0 : Nat) (x1 : Nat) (M : MM) : Option (Int32 × MM) := if isO 9 x0 M = true then f_X9_readLine_0 x0 x1 M else none
set_option maxRecDepth 4000 in
theorem L_X9_readLine_45 {G : Gx} (X : Cb G cX9_readLine 2 RX9 (RM 4 0 0) false) (Y : Cr G (some .boolean) 0 0) (x0 : Nat) (x1 : Nat) (M : MM) : V G trI 2 0 0 45 [(0, .ref x0), (1, .ref x1)] [] M (f_X9_readLine_45 x0 x1 M) := by
  unfold f_X9_readLine_45
  refine v_aload_n X 46 0 dX9_readLine_45 rfl rfl ?_
  refine v_getI X 49 fl_X9_86.r dX9_readLine_46 rfl (fun v1 => ?_)
  refine v_bipush X 51 dX9_readLine_49 bk_8 rfl ?_
  refine v_icge X 54 79 dX9_readLine_51 rfl rfl ?_ ?_
  · refine v_iconst X 80 dX9_readLine_79 ik_0 rfl ?_
    exact v_zret X Y (Nat.le_refl _) (Nat.le_refl _) dX9_readLine_80
  · refine v_aload_n X 55 1 dX9_readLine_54 rfl rfl ?_
    refine v_bipush X 57 dX9_readLine_55 bk_101 rfl ?_
    refine v_vI X 60 cv_X10_take ml_X9_103 (n1 := 2) rfl [.int (101 : Int32)] rfl rfl rfl dX9_readLine_57 rfl (fun r M1 h => c_X10_take _ _ _ _ _ _ h) (fun r3 M2 => ?_)
    refine v_ifeq X 63 79 dX9_readLine_60 rfl rfl ?_ ?_
    · refine v_iconst X 80 dX9_readLine_79 ik_0 rfl ?_
      exact v_zret X Y (Nat.le_refl _) (Nat.le_refl _) dX9_readLine_80
    · refine v_aload_n X 64 0 dX9_readLine_63 rfl rfl ?_
      refine v_aload_n X 65 1 dX9_readLine_64 rfl rfl ?_
      refine v_aload_n X 66 0 dX9_readLine_65 rfl rfl ?_
      refine v_getI X 69 fl_X9_86.r dX9_readLine_66 rfl (fun v4 => ?_)
      refine v_vI X 72 cv_X9_readErrand ml_X9_106 (n1 := 3) rfl [.ref x1, .int v4] rfl rfl rfl dX9_readLine_69 rfl (fun r M1 h => c_X9_readErrand _ _ _ _ _ _ _ h) (fun r6 M5 => ?_)
      refine v_ifeq X 75 79 dX9_readLine_72 rfl rfl ?_ ?_
      · refine v_iconst X 80 dX9_readLine_79 ik_0 rfl ?_
        exact v_zret X Y (Nat.le_refl _) (Nat.le_refl _) dX9_readLine_80
      · refine v_iconst X 76 dX9_readLine_75 ik_1 rfl ?_
        refine v_goto X 80 dX9_readLine_76 rfl ?_
        exact v_zret X Y (Nat.le_refl _) (Nat.le_refl _) dX9_readLine_80
set_option maxRecDepth 4000 in
theorem L_X9_readLine_0 {G : Gx} (X : Cb G cX9_readLine 2 RX9 (RM 4 0 0) false) (Y : Cr G (some .boolean) 0 0) (x0 : Nat) (x1 : Nat) (M : MM) : V G trI 2 0 0 0 [(0, .ref x0), (1, .ref x1)] [] M (f_X9_readLine_0 x0 x1 M) := by
  unfold f_X9_readLine_0
  refine v_aload_n X 1 0 dX9_readLine_0 rfl rfl ?_
  refine v_getI X 4 fl_X9_83.r dX9_readLine_1 rfl (fun v1 => ?_)
  refine v_bipush X 6 dX9_readLine_4 bk_6 rfl ?_
  refine v_icge X 9 45 dX9_readLine_6 rfl rfl ?_ ?_
  · exact L_X9_readLine_45 X Y _ _ _
  · refine v_aload_n X 10 1 dX9_readLine_9 rfl rfl ?_
    refine v_bipush X 12 dX9_readLine_10 bk_112 rfl ?_
    refine v_vI X 15 cv_X10_take ml_X9_103 (n1 := 2) rfl [.int (112 : Int32)] rfl rfl rfl dX9_readLine_12 rfl (fun r M1 h => c_X10_take _ _ _ _ _ _ h) (fun r3 M2 => ?_)
    refine v_ifeq X 18 45 dX9_readLine_15 rfl rfl ?_ ?_
    · exact L_X9_readLine_45 X Y _ _ _
    · refine v_aload_n X 19 0 dX9_readLine_18 rfl rfl ?_
      refine v_getR X 22 fl_X9_11.r dX9_readLine_19 rfl (fun v4 => ?_)
      refine v_aload_n X 23 0 dX9_readLine_22 rfl rfl ?_
      refine v_getI X 26 fl_X9_83.r dX9_readLine_23 rfl (fun v5 => ?_)
      refine v_aload_n X 27 1 dX9_readLine_26 rfl rfl ?_
      refine v_bipush X 29 dX9_readLine_27 bk_33 rfl ?_
      refine v_vI X 32 cv_X10_take ml_X9_103 (n1 := 2) rfl [.int (33 : Int32)] rfl rfl rfl dX9_readLine_29 rfl (fun r M1 h => c_X10_take _ _ _ _ _ _ h) (fun r7 M6 => ?_)
      refine v_zast X 33 dX9_readLine_32 rfl (fun M8 => ?_)
      refine v_aload_n X 34 0 dX9_readLine_33 rfl rfl ?_
      refine v_dup X 35 dX9_readLine_34 rfl rfl ?_
      refine v_getI X 38 fl_X9_83.r dX9_readLine_35 rfl (fun v9 => ?_)
      refine v_iconst X 39 dX9_readLine_38 ik_1 rfl ?_
      refine v_iadd X 40 dX9_readLine_39 rfl ?_
      refine v_putI X 43 fl_X9_83 nof dX9_readLine_40 rfl (fun M10 => ?_)
      refine v_iconst X 44 dX9_readLine_43 ik_1 rfl ?_
      exact v_zret X Y (Nat.le_refl _) (Nat.le_refl _) dX9_readLine_44
theorem c_X9_readLine (l : Launch) (x0 : Nat) (x1 : Nat) (M : MM) (r : Int32) (M1 : MM) (h : f_X9_readLine x0 x1 M = some (r, M1)) : KV l yX9_readLine cX9_readLine 2 (some .boolean) (RM 4 0 0) false 9 x0 [.ref x1] M (some (.int r)) M1 := by
  obtain ⟨hO, h2⟩ := iteO_some h
  exact ⟨hO, ct_of (tr := trI) (by decide) (Nat.le_of_ble_eq_true rfl) [(0, .ref x0), (1, .ref x1)] rfl h2 (fun G X Y hn hl => L_X9_readLine_0 X Y x0 x1 M)⟩

def f_X9_read_84 (K33 : Nat → Nat → Int32 → MM → Option (Int32 × MM)) (x0 : Nat) (x1 : Nat) (x2 : Int32) (M : MM) : Option (Int32 × MM) :=
    b2 (f_X10_take x1 (59 : Int32) M) fun r2 M1 =>
    if r2 = 0 then
      b2 (f_X10_refusal x1 M1) fun r5 M4 =>
      some (r5, M4)
    else
      bn (x2 + 1 : Int32) fun y3 =>
      K33 x0 x1 y3 M1

def f_X9_read_33 : Nat → Nat → Nat → Int32 → MM → Option (Int32 × MM)
  | 0, _, _, _, _ => none
  | n + 1, x0, x1, x2, M =>
    if (76 : Int32) < x2 then
      b2 (f_X10_refusal x1 M) fun r2 M1 =>
      some (r2, M1)
    else
      b2 (f_X9_readLine x0 x1 M) fun r4 M3 =>
      if r4 = 0 then
        b2 (f_X10_refusal x1 M3) fun r14 M13 =>
        some (r14, M13)
      else
        b2 (f_X10_atEnd x1 M3) fun r6 M5 =>
        if r6 = 0 then
          f_X9_read_84 (f_X9_read_33 n) x0 x1 x2 M5
        else
          b2 (f_X10_hasMore x1 M5) fun r8 M7 =>
          if r8 = 0 then
            b1 (gI 9 11 x0 M7) fun v9 =>
            b1 (pI 9 7 x0 v9 M7) fun M10 =>
            b1 (gI 9 12 x0 M10) fun v11 =>
            b1 (pI 9 8 x0 v11 M10) fun M12 =>
            some (x2, M12)
          else
            f_X9_read_84 (f_X9_read_33 n) x0 x1 x2 M7

def f_X9_read_0 (x0 : Nat) (x1 : Nat) (M : MM) : Option (Int32 × MM) :=
    b1 (f_X10_begin x1 (76 : Int32) M) fun M1 =>
    b2 (f_X10_isEmpty x1 M1) fun r3 M2 =>
    if r3 = 0 then
      b1 (gI 9 7 x0 M2) fun v4 =>
      b1 (pI 9 11 x0 v4 M2) fun M5 =>
      b1 (gI 9 8 x0 M5) fun v6 =>
      b1 (pI 9 12 x0 v6 M5) fun M7 =>
      f_X9_read_33 1024 x0 x1 (1 : Int32) M7
    else
      some ((0 : Int32), M2)

def f_X9_read (x0 : Nat) (x1 : Nat) (M : MM) : Option (Int32 × MM) := if isO 9 x0 M = true then f_X9_read_0 x0 x1 M else none
set_option maxRecDepth 4000 in
theorem L_X9_read_84 {G : Gx} (X : Cb G cX9_read 3 RX9 (RM 5 0 0) false) (Y : Cr G (some .int) 0 0) {K33 : Nat → Nat → Int32 → MM → Option (Int32 × MM)} (hK33 : ∀ (x0 : Nat) (x1 : Nat) (x2 : Int32) (M : MM), V G trI 3 0 0 33 [(0, .ref x0), (1, .ref x1), (2, .int x2)] [] M (K33 x0 x1 x2 M)) (x0 : Nat) (x1 : Nat) (x2 : Int32) (M : MM) : V G trI 3 0 0 84 [(0, .ref x0), (1, .ref x1), (2, .int x2)] [] M (f_X9_read_84 K33 x0 x1 x2 M) := by
  unfold f_X9_read_84
  refine v_aload_n X 85 1 dX9_read_84 rfl rfl ?_
  refine v_bipush X 87 dX9_read_85 bk_59 rfl ?_
  refine v_vI X 90 cv_X10_take ml_X9_103 (n1 := 2) rfl [.int (59 : Int32)] rfl rfl rfl dX9_read_87 rfl (fun r M1 h => c_X10_take _ _ _ _ _ _ h) (fun r2 M1 => ?_)
  refine v_ifne X 93 98 dX9_read_90 rfl rfl ?_ ?_
  · refine v_iinc X 101 2 (fun z => [(0, .ref x0), (1, .ref x1), (2, .int z)]) dX9_read_98 rfl ik_1 (by decide) (fun _ => rfl) rfl (fun y3 => ?_)
    refine v_goto X 33 dX9_read_101 rfl ?_
    exact hK33 _ _ _ _
  · refine v_aload_n X 94 1 dX9_read_93 rfl rfl ?_
    refine v_vI X 97 cv_X10_refusal ml_X9_93 (n1 := 1) rfl [] rfl rfl rfl dX9_read_94 rfl (fun r M1 h => c_X10_refusal _ _ _ _ _ h) (fun r5 M4 => ?_)
    exact v_iret X Y (Nat.le_refl _) (Nat.le_refl _) dX9_read_97
set_option maxRecDepth 4000 in
theorem L_X9_read_33 {G : Gx} (X : Cb G cX9_read 3 RX9 (RM 5 0 0) false) (Y : Cr G (some .int) 0 0) : ∀ (n : Nat) (x0 : Nat) (x1 : Nat) (x2 : Int32) (M : MM), V G trI 3 0 0 33 [(0, .ref x0), (1, .ref x1), (2, .int x2)] [] M (f_X9_read_33 n x0 x1 x2 M) := by
  intro n
  induction n with
  | zero => intro x0 x1 x2 M; rw [f_X9_read_33]; exact v_none
  | succ n ih =>
    intro x0 x1 x2 M
    rw [f_X9_read_33]
    refine v_iload_n X 34 2 dX9_read_33 rfl rfl ?_
    refine v_bipush X 36 dX9_read_34 bk_76 rfl ?_
    refine v_icgt X 39 104 dX9_read_36 rfl rfl ?_ ?_
    · refine v_aload_n X 105 1 dX9_read_104 rfl rfl ?_
      refine v_vI X 108 cv_X10_refusal ml_X9_93 (n1 := 1) rfl [] rfl rfl rfl dX9_read_105 rfl (fun r M1 h => c_X10_refusal _ _ _ _ _ h) (fun r2 M1 => ?_)
      exact v_iret X Y (Nat.le_refl _) (Nat.le_refl _) dX9_read_108
    · refine v_aload_n X 40 0 dX9_read_39 rfl rfl ?_
      refine v_aload_n X 41 1 dX9_read_40 rfl rfl ?_
      refine v_vI X 44 cv_X9_readLine ml_X9_89 (n1 := 4) rfl [.ref x1] rfl rfl rfl dX9_read_41 rfl (fun r M1 h => c_X9_readLine _ _ _ _ _ _ h) (fun r4 M3 => ?_)
      refine v_ifne X 47 52 dX9_read_44 rfl rfl ?_ ?_
      · refine v_aload_n X 53 1 dX9_read_52 rfl rfl ?_
        refine v_vI X 56 cv_X10_atEnd ml_X9_97 (n1 := 1) rfl [] rfl rfl rfl dX9_read_53 rfl (fun r M1 h => c_X10_atEnd _ _ _ _ _ h) (fun r6 M5 => ?_)
        refine v_ifeq X 59 84 dX9_read_56 rfl rfl ?_ ?_
        · exact L_X9_read_84 X Y ih _ _ _ _
        · refine v_aload_n X 60 1 dX9_read_59 rfl rfl ?_
          refine v_vI X 63 cv_X10_hasMore ml_X9_100 (n1 := 1) rfl [] rfl rfl rfl dX9_read_60 rfl (fun r M1 h => c_X10_hasMore _ _ _ _ _ h) (fun r8 M7 => ?_)
          refine v_ifne X 66 84 dX9_read_63 rfl rfl ?_ ?_
          · exact L_X9_read_84 X Y ih _ _ _ _
          · refine v_aload_n X 67 0 dX9_read_66 rfl rfl ?_
            refine v_aload_n X 68 0 dX9_read_67 rfl rfl ?_
            refine v_getI X 71 fl_X9_83.r dX9_read_68 rfl (fun v9 => ?_)
            refine v_putI X 74 fl_X9_47 nof dX9_read_71 rfl (fun M10 => ?_)
            refine v_aload_n X 75 0 dX9_read_74 rfl rfl ?_
            refine v_aload_n X 76 0 dX9_read_75 rfl rfl ?_
            refine v_getI X 79 fl_X9_86.r dX9_read_76 rfl (fun v11 => ?_)
            refine v_putI X 82 fl_X9_50 nof dX9_read_79 rfl (fun M12 => ?_)
            refine v_iload_n X 83 2 dX9_read_82 rfl rfl ?_
            exact v_iret X Y (Nat.le_refl _) (Nat.le_refl _) dX9_read_83
      · refine v_aload_n X 48 1 dX9_read_47 rfl rfl ?_
        refine v_vI X 51 cv_X10_refusal ml_X9_93 (n1 := 1) rfl [] rfl rfl rfl dX9_read_48 rfl (fun r M1 h => c_X10_refusal _ _ _ _ _ h) (fun r14 M13 => ?_)
        exact v_iret X Y (Nat.le_refl _) (Nat.le_refl _) dX9_read_51
set_option maxRecDepth 4000 in
theorem L_X9_read_0 {G : Gx} (X : Cb G cX9_read 3 RX9 (RM 5 0 0) false) (Y : Cr G (some .int) 0 0) (x0 : Nat) (x1 : Nat) (M : MM) : V G trI 3 0 0 0 [(0, .ref x0), (1, .ref x1)] [] M (f_X9_read_0 x0 x1 M) := by
  unfold f_X9_read_0
  refine v_aload_n X 1 1 dX9_read_0 rfl rfl ?_
  refine v_bipush X 3 dX9_read_1 bk_76 rfl ?_
  refine v_vV X 6 cv_X10_begin ml_X9_73 (n1 := 2) rfl [.int (76 : Int32)] rfl rfl rfl dX9_read_3 rfl (fun M1 h => c_X10_begin _ _ _ _ _ h) (fun M1 => ?_)
  refine v_aload_n X 7 1 dX9_read_6 rfl rfl ?_
  refine v_vI X 10 cv_X10_isEmpty ml_X9_79 (n1 := 1) rfl [] rfl rfl rfl dX9_read_7 rfl (fun r M1 h => c_X10_isEmpty _ _ _ _ _ h) (fun r3 M2 => ?_)
  refine v_ifeq X 13 15 dX9_read_10 rfl rfl ?_ ?_
  · refine v_aload_n X 16 0 dX9_read_15 rfl rfl ?_
    refine v_aload_n X 17 0 dX9_read_16 rfl rfl ?_
    refine v_getI X 20 fl_X9_47.r dX9_read_17 rfl (fun v4 => ?_)
    refine v_putI X 23 fl_X9_83 nof dX9_read_20 rfl (fun M5 => ?_)
    refine v_aload_n X 24 0 dX9_read_23 rfl rfl ?_
    refine v_aload_n X 25 0 dX9_read_24 rfl rfl ?_
    refine v_getI X 28 fl_X9_50.r dX9_read_25 rfl (fun v6 => ?_)
    refine v_putI X 31 fl_X9_86 nof dX9_read_28 rfl (fun M7 => ?_)
    refine v_iconst X 32 dX9_read_31 ik_1 rfl ?_
    refine v_istore_n (lv' := [(0, .ref x0), (1, .ref x1), (2, .int (1 : Int32))]) X 33 dX9_read_32 (by decide) rfl rfl ?_
    exact L_X9_read_33 X Y 1024 _ _ _ _
  · refine v_iconst X 14 dX9_read_13 ik_0 rfl ?_
    exact v_iret X Y (Nat.le_refl _) (Nat.le_refl _) dX9_read_14
theorem c_X9_read (l : Launch) (x0 : Nat) (x1 : Nat) (M : MM) (r : Int32) (M1 : MM) (h : f_X9_read x0 x1 M = some (r, M1)) : KV l yX9_read cX9_read 3 (some .int) (RM 5 0 0) false 9 x0 [.ref x1] M (some (.int r)) M1 := by
  obtain ⟨hO, h2⟩ := iteO_some h
  exact ⟨hO, ct_of (tr := trI) (by decide) (Nat.le_of_ble_eq_true rfl) [(0, .ref x0), (1, .ref x1)] rfl h2 (fun G X Y hn hl => L_X9_read_0 X Y x0 x1 M)⟩

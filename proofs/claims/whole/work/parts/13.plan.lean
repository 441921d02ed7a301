def f_X5_has_0 (x0 : Nat) (x1 : Int32) (M : MM) : Option (Int32 × MM) :=
    if x1 < 0 then
      rz (0 : Int32) M
    else
      b1 (gI 5 1 x0 M) fun v1 =>
      if v1 ≤ x1 then
        rz (0 : Int32) M
      else
        rz (1 : Int32) M

def f_X5_has (x0 : Nat) (x1 : Int32) (M : MM) : Option (Int32 × MM) := if isO 5 x0 M = true then f_X5_has_0 x0 x1 M else none
set_option maxRecDepth 4000 in
theorem L_X5_has_0 {G : Gx} (X : Cb G cX5_has 2 RX5 (RM 1 0 0) false) (Y : Cr G (some .boolean) 0 0) (x0 : Nat) (x1 : Int32) (M : MM) : V G trI 2 0 0 0 [(0, .ref x0), (1, .int x1)] [] M (f_X5_has_0 x0 x1 M) := by
  unfold f_X5_has_0
  refine v_iload_n X 1 1 dX5_has_0 rfl rfl ?_
  refine v_iflt X 4 16 dX5_has_1 rfl rfl ?_ ?_
  · refine v_iconst X 17 dX5_has_16 ik_0 rfl ?_
    exact v_zret X Y (Nat.le_refl _) (Nat.le_refl _) dX5_has_17
  · refine v_iload_n X 5 1 dX5_has_4 rfl rfl ?_
    refine v_aload_n X 6 0 dX5_has_5 rfl rfl ?_
    refine v_getI X 9 fl_X5_13.r dX5_has_6 rfl (fun v1 => ?_)
    refine v_icge X 12 16 dX5_has_9 rfl rfl ?_ ?_
    · refine v_iconst X 17 dX5_has_16 ik_0 rfl ?_
      exact v_zret X Y (Nat.le_refl _) (Nat.le_refl _) dX5_has_17
    · refine v_iconst X 13 dX5_has_12 ik_1 rfl ?_
      refine v_goto X 17 dX5_has_13 rfl ?_
      exact v_zret X Y (Nat.le_refl _) (Nat.le_refl _) dX5_has_17
theorem c_X5_has (l : Launch) (x0 : Nat) (x1 : Int32) (M : MM) (r : Int32) (M1 : MM) (h : f_X5_has x0 x1 M = some (r, M1)) : KV l yX5_has cX5_has 2 (some .boolean) (RM 1 0 0) false 5 x0 [.int x1] M (some (.int r)) M1 := by
  obtain ⟨hO, h2⟩ := iteO_some h
  exact ⟨hO, ct_of (tr := trI) (by decide) (Nat.le_of_ble_eq_true rfl) [(0, .ref x0), (1, .int x1)] rfl h2 (fun G X Y hn hl => L_X5_has_0 X Y x0 x1 M)⟩

def f_X5_who_0 (x0 : Nat) (x1 : Int32) (M : MM) : Option (Int32 × MM) :=
    if x1 < 0 then
      some ((0 : Int32), M)
    else
      b1 (gI 5 1 x0 M) fun v1 =>
      if v1 ≤ x1 then
        some ((0 : Int32), M)
      else
        b1 (gR 5 0 x0 M) fun v2 =>
        b1 (ldI v2 x1 M) fun v3 =>
        some (v3 &&& (7 : Int32), M)

def f_X5_who (x0 : Nat) (x1 : Int32) (M : MM) : Option (Int32 × MM) := if isO 5 x0 M = true then f_X5_who_0 x0 x1 M else none
set_option maxRecDepth 4000 in
theorem L_X5_who_0 {G : Gx} (X : Cb G cX5_who 2 RX5 (RM 1 0 0) false) (Y : Cr G (some .int) 0 0) (x0 : Nat) (x1 : Int32) (M : MM) : V G trI 2 0 0 0 [(0, .ref x0), (1, .int x1)] [] M (f_X5_who_0 x0 x1 M) := by
  unfold f_X5_who_0
  refine v_iload_n X 1 1 dX5_who_0 rfl rfl ?_
  refine v_iflt X 4 24 dX5_who_1 rfl rfl ?_ ?_
  · refine v_iconst X 25 dX5_who_24 ik_0 rfl ?_
    exact v_iret X Y (Nat.le_refl _) (Nat.le_refl _) dX5_who_25
  · refine v_iload_n X 5 1 dX5_who_4 rfl rfl ?_
    refine v_aload_n X 6 0 dX5_who_5 rfl rfl ?_
    refine v_getI X 9 fl_X5_13.r dX5_who_6 rfl (fun v1 => ?_)
    refine v_icge X 12 24 dX5_who_9 rfl rfl ?_ ?_
    · refine v_iconst X 25 dX5_who_24 ik_0 rfl ?_
      exact v_iret X Y (Nat.le_refl _) (Nat.le_refl _) dX5_who_25
    · refine v_aload_n X 13 0 dX5_who_12 rfl rfl ?_
      refine v_getR X 16 fl_X5_9.r dX5_who_13 rfl (fun v2 => ?_)
      refine v_iload_n X 17 1 dX5_who_16 rfl rfl ?_
      refine v_iald X 18 dX5_who_17 rfl (fun v3 => ?_)
      refine v_bipush X 20 dX5_who_18 bk_7 rfl ?_
      refine v_iand X 21 dX5_who_20 rfl ?_
      refine v_goto X 25 dX5_who_21 rfl ?_
      exact v_iret X Y (Nat.le_refl _) (Nat.le_refl _) dX5_who_25
theorem c_X5_who (l : Launch) (x0 : Nat) (x1 : Int32) (M : MM) (r : Int32) (M1 : MM) (h : f_X5_who x0 x1 M = some (r, M1)) : KV l yX5_who cX5_who 2 (some .int) (RM 1 0 0) false 5 x0 [.int x1] M (some (.int r)) M1 := by
  obtain ⟨hO, h2⟩ := iteO_some h
  exact ⟨hO, ct_of (tr := trI) (by decide) (Nat.le_of_ble_eq_true rfl) [(0, .ref x0), (1, .int x1)] rfl h2 (fun G X Y hn hl => L_X5_who_0 X Y x0 x1 M)⟩

def f_X5_what_0 (x0 : Nat) (x1 : Int32) (M : MM) : Option (Int32 × MM) :=
    if x1 < 0 then
      some ((0 : Int32), M)
    else
      b1 (gI 5 1 x0 M) fun v1 =>
      if v1 ≤ x1 then
        some ((0 : Int32), M)
      else
        b1 (gR 5 0 x0 M) fun v2 =>
        b1 (ldI v2 x1 M) fun v3 =>
        some ((v3 >>> ((3 : Int32) &&& 31)) &&& (7 : Int32), M)

def f_X5_what (x0 : Nat) (x1 : Int32) (M : MM) : Option (Int32 × MM) := if isO 5 x0 M = true then f_X5_what_0 x0 x1 M else none
set_option maxRecDepth 4000 in
theorem L_X5_what_0 {G : Gx} (X : Cb G cX5_what 2 RX5 (RM 1 0 0) false) (Y : Cr G (some .int) 0 0) (x0 : Nat) (x1 : Int32) (M : MM) : V G trI 2 0 0 0 [(0, .ref x0), (1, .int x1)] [] M (f_X5_what_0 x0 x1 M) := by
  unfold f_X5_what_0
  refine v_iload_n X 1 1 dX5_what_0 rfl rfl ?_
  refine v_iflt X 4 26 dX5_what_1 rfl rfl ?_ ?_
  · refine v_iconst X 27 dX5_what_26 ik_0 rfl ?_
    exact v_iret X Y (Nat.le_refl _) (Nat.le_refl _) dX5_what_27
  · refine v_iload_n X 5 1 dX5_what_4 rfl rfl ?_
    refine v_aload_n X 6 0 dX5_what_5 rfl rfl ?_
    refine v_getI X 9 fl_X5_13.r dX5_what_6 rfl (fun v1 => ?_)
    refine v_icge X 12 26 dX5_what_9 rfl rfl ?_ ?_
    · refine v_iconst X 27 dX5_what_26 ik_0 rfl ?_
      exact v_iret X Y (Nat.le_refl _) (Nat.le_refl _) dX5_what_27
    · refine v_aload_n X 13 0 dX5_what_12 rfl rfl ?_
      refine v_getR X 16 fl_X5_9.r dX5_what_13 rfl (fun v2 => ?_)
      refine v_iload_n X 17 1 dX5_what_16 rfl rfl ?_
      refine v_iald X 18 dX5_what_17 rfl (fun v3 => ?_)
      refine v_iconst X 19 dX5_what_18 ik_3 rfl ?_
      refine v_ishr X 20 dX5_what_19 rfl ?_
      refine v_bipush X 22 dX5_what_20 bk_7 rfl ?_
      refine v_iand X 23 dX5_what_22 rfl ?_
      refine v_goto X 27 dX5_what_23 rfl ?_
      exact v_iret X Y (Nat.le_refl _) (Nat.le_refl _) dX5_what_27
theorem c_X5_what (l : Launch) (x0 : Nat) (x1 : Int32) (M : MM) (r : Int32) (M1 : MM) (h : f_X5_what x0 x1 M = some (r, M1)) : KV l yX5_what cX5_what 2 (some .int) (RM 1 0 0) false 5 x0 [.int x1] M (some (.int r)) M1 := by
  obtain ⟨hO, h2⟩ := iteO_some h
  exact ⟨hO, ct_of (tr := trI) (by decide) (Nat.le_of_ble_eq_true rfl) [(0, .ref x0), (1, .int x1)] rfl h2 (fun G X Y hn hl => L_X5_what_0 X Y x0 x1 M)⟩

def f_X5_first_0 (x0 : Nat) (x1 : Int32) (M : MM) : Option (Int32 × MM) :=
    if x1 < 0 then
      some ((0 : Int32), M)
    else
      b1 (gI 5 1 x0 M) fun v1 =>
      if v1 ≤ x1 then
        some ((0 : Int32), M)
      else
        b1 (gR 5 0 x0 M) fun v2 =>
        b1 (ldI v2 x1 M) fun v3 =>
        some (v3 >>> ((6 : Int32) &&& 31), M)

def f_X5_first (x0 : Nat) (x1 : Int32) (M : MM) : Option (Int32 × MM) := if isO 5 x0 M = true then f_X5_first_0 x0 x1 M else none
set_option maxRecDepth 4000 in
theorem L_X5_first_0 {G : Gx} (X : Cb G cX5_first 2 RX5 (RM 1 0 0) false) (Y : Cr G (some .int) 0 0) (x0 : Nat) (x1 : Int32) (M : MM) : V G trI 2 0 0 0 [(0, .ref x0), (1, .int x1)] [] M (f_X5_first_0 x0 x1 M) := by
  unfold f_X5_first_0
  refine v_iload_n X 1 1 dX5_first_0 rfl rfl ?_
  refine v_iflt X 4 24 dX5_first_1 rfl rfl ?_ ?_
  · refine v_iconst X 25 dX5_first_24 ik_0 rfl ?_
    exact v_iret X Y (Nat.le_refl _) (Nat.le_refl _) dX5_first_25
  · refine v_iload_n X 5 1 dX5_first_4 rfl rfl ?_
    refine v_aload_n X 6 0 dX5_first_5 rfl rfl ?_
    refine v_getI X 9 fl_X5_13.r dX5_first_6 rfl (fun v1 => ?_)
    refine v_icge X 12 24 dX5_first_9 rfl rfl ?_ ?_
    · refine v_iconst X 25 dX5_first_24 ik_0 rfl ?_
      exact v_iret X Y (Nat.le_refl _) (Nat.le_refl _) dX5_first_25
    · refine v_aload_n X 13 0 dX5_first_12 rfl rfl ?_
      refine v_getR X 16 fl_X5_9.r dX5_first_13 rfl (fun v2 => ?_)
      refine v_iload_n X 17 1 dX5_first_16 rfl rfl ?_
      refine v_iald X 18 dX5_first_17 rfl (fun v3 => ?_)
      refine v_bipush X 20 dX5_first_18 bk_6 rfl ?_
      refine v_ishr X 21 dX5_first_20 rfl ?_
      refine v_goto X 25 dX5_first_21 rfl ?_
      exact v_iret X Y (Nat.le_refl _) (Nat.le_refl _) dX5_first_25
theorem c_X5_first (l : Launch) (x0 : Nat) (x1 : Int32) (M : MM) (r : Int32) (M1 : MM) (h : f_X5_first x0 x1 M = some (r, M1)) : KV l yX5_first cX5_first 2 (some .int) (RM 1 0 0) false 5 x0 [.int x1] M (some (.int r)) M1 := by
  obtain ⟨hO, h2⟩ := iteO_some h
  exact ⟨hO, ct_of (tr := trI) (by decide) (Nat.le_of_ble_eq_true rfl) [(0, .ref x0), (1, .int x1)] rfl h2 (fun G X Y hn hl => L_X5_first_0 X Y x0 x1 M)⟩

def f_X5_add_0 (x0 : Nat) (x1 : Int32) (x2 : Int32) (x3 : Int32) (M : MM) : Option (MM) :=
    b1 (gI 5 1 x0 M) fun v1 =>
    if (12 : Int32) ≤ v1 then
      some M
    else
      b1 (gR 5 0 x0 M) fun v2 =>
      b1 (gI 5 1 x0 M) fun v3 =>
      b1 (stI v2 v3 ((x1 ||| (x2 <<< ((3 : Int32) &&& 31))) ||| (x3 <<< ((6 : Int32) &&& 31))) M) fun M4 =>
      b1 (gI 5 1 x0 M4) fun v5 =>
      b1 (pI 5 1 x0 (v5 + (1 : Int32)) M4) fun M6 =>
      some M6

def f_X5_add (x0 : Nat) (x1 : Int32) (x2 : Int32) (x3 : Int32) (M : MM) : Option (MM) := if isO 5 x0 M = true then f_X5_add_0 x0 x1 x2 x3 M else none
set_option maxRecDepth 4000 in
theorem L_X5_add_0 {G : Gx} (X : Cb G cX5_add 4 RX5 (RM 1 0 0) false) (Y : Cr G none 0 0) (x0 : Nat) (x1 : Int32) (x2 : Int32) (x3 : Int32) (M : MM) : V G trV 4 0 0 0 [(0, .ref x0), (1, .int x1), (2, .int x2), (3, .int x3)] [] M (f_X5_add_0 x0 x1 x2 x3 M) := by
  unfold f_X5_add_0
  refine v_aload_n X 1 0 dX5_add_0 rfl rfl ?_
  refine v_getI X 4 fl_X5_13.r dX5_add_1 rfl (fun v1 => ?_)
  refine v_bipush X 6 dX5_add_4 bk_12 rfl ?_
  refine v_icge X 9 38 dX5_add_6 rfl rfl ?_ ?_
  · exact v_vret X Y (Nat.le_refl _) (Nat.le_refl _) dX5_add_38
  · refine v_aload_n X 10 0 dX5_add_9 rfl rfl ?_
    refine v_getR X 13 fl_X5_9.r dX5_add_10 rfl (fun v2 => ?_)
    refine v_aload_n X 14 0 dX5_add_13 rfl rfl ?_
    refine v_getI X 17 fl_X5_13.r dX5_add_14 rfl (fun v3 => ?_)
    refine v_iload_n X 18 1 dX5_add_17 rfl rfl ?_
    refine v_iload_n X 19 2 dX5_add_18 rfl rfl ?_
    refine v_iconst X 20 dX5_add_19 ik_3 rfl ?_
    refine v_ishl X 21 dX5_add_20 rfl ?_
    refine v_ior X 22 dX5_add_21 rfl ?_
    refine v_iload_n X 23 3 dX5_add_22 rfl rfl ?_
    refine v_bipush X 25 dX5_add_23 bk_6 rfl ?_
    refine v_ishl X 26 dX5_add_25 rfl ?_
    refine v_ior X 27 dX5_add_26 rfl ?_
    refine v_iast X 28 dX5_add_27 rfl (fun M4 => ?_)
    refine v_aload_n X 29 0 dX5_add_28 rfl rfl ?_
    refine v_dup X 30 dX5_add_29 rfl rfl ?_
    refine v_getI X 33 fl_X5_13.r dX5_add_30 rfl (fun v5 => ?_)
    refine v_iconst X 34 dX5_add_33 ik_1 rfl ?_
    refine v_iadd X 35 dX5_add_34 rfl ?_
    refine v_putI X 38 fl_X5_13 nof dX5_add_35 rfl (fun M6 => ?_)
    exact v_vret X Y (Nat.le_refl _) (Nat.le_refl _) dX5_add_38
theorem c_X5_add (l : Launch) (x0 : Nat) (x1 : Int32) (x2 : Int32) (x3 : Int32) (M : MM) (M1 : MM) (h : f_X5_add x0 x1 x2 x3 M = some M1) : KV l yX5_add cX5_add 4 none (RM 1 0 0) false 5 x0 [.int x1, .int x2, .int x3] M none M1 := by
  obtain ⟨hO, h2⟩ := iteO_some h
  exact ⟨hO, ct_of (tr := trV) (by decide) (Nat.le_of_ble_eq_true rfl) [(0, .ref x0), (1, .int x1), (2, .int x2), (3, .int x3)] rfl h2 (fun G X Y hn hl => L_X5_add_0 X Y x0 x1 x2 x3 M)⟩

def f_X5_removeLast_0 (x0 : Nat) (M : MM) : Option (MM) :=
    b1 (gI 5 1 x0 M) fun v1 =>
    b1 (pI 5 1 x0 (maxI (0 : Int32) (v1 - (1 : Int32))) M) fun M2 =>
    some M2

def f_X5_removeLast (x0 : Nat) (M : MM) : Option (MM) := if isO 5 x0 M = true then f_X5_removeLast_0 x0 M else none
set_option maxRecDepth 4000 in
theorem L_X5_removeLast_0 {G : Gx} (X : Cb G cX5_removeLast 1 RX5 (RM 2 0 0) false) (Y : Cr G none 0 0) (x0 : Nat) (M : MM) : V G trV 1 0 0 0 [(0, .ref x0)] [] M (f_X5_removeLast_0 x0 M) := by
  unfold f_X5_removeLast_0
  refine v_aload_n X 1 0 dX5_removeLast_0 rfl rfl ?_
  refine v_iconst X 2 dX5_removeLast_1 ik_0 rfl ?_
  refine v_aload_n X 3 0 dX5_removeLast_2 rfl rfl ?_
  refine v_getI X 6 fl_X5_13.r dX5_removeLast_3 rfl (fun v1 => ?_)
  refine v_iconst X 7 dX5_removeLast_6 ik_1 rfl ?_
  refine v_isub X 8 dX5_removeLast_7 rfl ?_
  refine v_max X 11 ml_X5_17 w_max (Nat.le_of_ble_eq_true rfl) (Nat.le_of_ble_eq_true rfl) (Nat.zero_le _) (Nat.zero_le _) dX5_removeLast_8 rfl ?_
  refine v_putI X 14 fl_X5_13 nof dX5_removeLast_11 rfl (fun M2 => ?_)
  exact v_vret X Y (Nat.le_refl _) (Nat.le_refl _) dX5_removeLast_14
theorem c_X5_removeLast (l : Launch) (x0 : Nat) (M : MM) (M1 : MM) (h : f_X5_removeLast x0 M = some M1) : KV l yX5_removeLast cX5_removeLast 1 none (RM 2 0 0) false 5 x0 [] M none M1 := by
  obtain ⟨hO, h2⟩ := iteO_some h
  exact ⟨hO, ct_of (tr := trV) (by decide) (Nat.le_of_ble_eq_true rfl) [(0, .ref x0)] rfl h2 (fun G X Y hn hl => L_X5_removeLast_0 X Y x0 M)⟩

def f_X5_remove_0 (x0 : Nat) (x1 : Int32) (M : MM) : Option (MM) :=
    b2 (f_X5_has x0 x1 M) fun r2 M1 =>
    if r2 = 0 then
      some M1
    else
      b1 (gR 5 0 x0 M1) fun v3 =>
      b1 (gR 5 0 x0 M1) fun v4 =>
      b1 (gI 5 1 x0 M1) fun v5 =>
      b1 (cpI v3 (x1 + (1 : Int32)) v4 x1 ((v5 - x1) - (1 : Int32)) M1) fun M6 =>
      b1 (gI 5 1 x0 M6) fun v7 =>
      b1 (pI 5 1 x0 (v7 - (1 : Int32)) M6) fun M8 =>
      some M8

def f_X5_remove (x0 : Nat) (x1 : Int32) (M : MM) : Option (MM) := if isO 5 x0 M = true then f_X5_remove_0 x0 x1 M else none
set_option maxRecDepth 4000 in
theorem L_X5_remove_0 {G : Gx} (X : Cb G cX5_remove 2 RX5 (RM 2 0 0) false) (Y : Cr G none 0 0) (x0 : Nat) (x1 : Int32) (M : MM) : V G trV 2 0 0 0 [(0, .ref x0), (1, .int x1)] [] M (f_X5_remove_0 x0 x1 M) := by
  unfold f_X5_remove_0
  refine v_aload_n X 1 0 dX5_remove_0 rfl rfl ?_
  refine v_iload_n X 2 1 dX5_remove_1 rfl rfl ?_
  refine v_vI X 5 cv_X5_has ml_X5_23 (n1 := 1) rfl [.int x1] rfl rfl rfl dX5_remove_2 rfl (fun r M1 h => c_X5_has _ _ _ _ _ _ h) (fun r2 M1 => ?_)
  refine v_ifeq X 8 41 dX5_remove_5 rfl rfl ?_ ?_
  · exact v_vret X Y (Nat.le_refl _) (Nat.le_refl _) dX5_remove_41
  · refine v_aload_n X 9 0 dX5_remove_8 rfl rfl ?_
    refine v_getR X 12 fl_X5_9.r dX5_remove_9 rfl (fun v3 => ?_)
    refine v_iload_n X 13 1 dX5_remove_12 rfl rfl ?_
    refine v_iconst X 14 dX5_remove_13 ik_1 rfl ?_
    refine v_iadd X 15 dX5_remove_14 rfl ?_
    refine v_aload_n X 16 0 dX5_remove_15 rfl rfl ?_
    refine v_getR X 19 fl_X5_9.r dX5_remove_16 rfl (fun v4 => ?_)
    refine v_iload_n X 20 1 dX5_remove_19 rfl rfl ?_
    refine v_aload_n X 21 0 dX5_remove_20 rfl rfl ?_
    refine v_getI X 24 fl_X5_13.r dX5_remove_21 rfl (fun v5 => ?_)
    refine v_iload_n X 25 1 dX5_remove_24 rfl rfl ?_
    refine v_isub X 26 dX5_remove_25 rfl ?_
    refine v_iconst X 27 dX5_remove_26 ik_1 rfl ?_
    refine v_isub X 28 dX5_remove_27 rfl ?_
    refine v_copy X 31 ml_X5_27 wCopy (Nat.le_of_ble_eq_true rfl) (Nat.le_of_ble_eq_true rfl) dX5_remove_28 rfl (fun M6 => ?_)
    refine v_aload_n X 32 0 dX5_remove_31 rfl rfl ?_
    refine v_dup X 33 dX5_remove_32 rfl rfl ?_
    refine v_getI X 36 fl_X5_13.r dX5_remove_33 rfl (fun v7 => ?_)
    refine v_iconst X 37 dX5_remove_36 ik_1 rfl ?_
    refine v_isub X 38 dX5_remove_37 rfl ?_
    refine v_putI X 41 fl_X5_13 nof dX5_remove_38 rfl (fun M8 => ?_)
    exact v_vret X Y (Nat.le_refl _) (Nat.le_refl _) dX5_remove_41
theorem c_X5_remove (l : Launch) (x0 : Nat) (x1 : Int32) (M : MM) (M1 : MM) (h : f_X5_remove x0 x1 M = some M1) : KV l yX5_remove cX5_remove 2 none (RM 2 0 0) false 5 x0 [.int x1] M none M1 := by
  obtain ⟨hO, h2⟩ := iteO_some h
  exact ⟨hO, ct_of (tr := trV) (by decide) (Nat.le_of_ble_eq_true rfl) [(0, .ref x0), (1, .int x1)] rfl h2 (fun G X Y hn hl => L_X5_remove_0 X Y x0 x1 M)⟩

def f_X5_begin_0 (x0 : Nat) (x1 : Int32) (x2 : Int32) (M : MM) : Option (MM) :=
    b2 (f_X5_has x0 x1 M) fun r2 M1 =>
    if r2 = 0 then
      some M1
    else
      b1 (gR 5 0 x0 M1) fun v3 =>
      b1 (gR 5 0 x0 M1) fun v4 =>
      b1 (ldI v4 x1 M1) fun v5 =>
      b1 (stI v3 x1 ((v5 &&& (63 : Int32)) ||| (x2 <<< ((6 : Int32) &&& 31))) M1) fun M6 =>
      some M6

def f_X5_begin (x0 : Nat) (x1 : Int32) (x2 : Int32) (M : MM) : Option (MM) := if isO 5 x0 M = true then f_X5_begin_0 x0 x1 x2 M else none
set_option maxRecDepth 4000 in
theorem L_X5_begin_0 {G : Gx} (X : Cb G cX5_begin 3 RX5 (RM 2 0 0) false) (Y : Cr G none 0 0) (x0 : Nat) (x1 : Int32) (x2 : Int32) (M : MM) : V G trV 3 0 0 0 [(0, .ref x0), (1, .int x1), (2, .int x2)] [] M (f_X5_begin_0 x0 x1 x2 M) := by
  unfold f_X5_begin_0
  refine v_aload_n X 1 0 dX5_begin_0 rfl rfl ?_
  refine v_iload_n X 2 1 dX5_begin_1 rfl rfl ?_
  refine v_vI X 5 cv_X5_has ml_X5_23 (n1 := 1) rfl [.int x1] rfl rfl rfl dX5_begin_2 rfl (fun r M1 h => c_X5_has _ _ _ _ _ _ h) (fun r2 M1 => ?_)
  refine v_ifeq X 8 28 dX5_begin_5 rfl rfl ?_ ?_
  · exact v_vret X Y (Nat.le_refl _) (Nat.le_refl _) dX5_begin_28
  · refine v_aload_n X 9 0 dX5_begin_8 rfl rfl ?_
    refine v_getR X 12 fl_X5_9.r dX5_begin_9 rfl (fun v3 => ?_)
    refine v_iload_n X 13 1 dX5_begin_12 rfl rfl ?_
    refine v_aload_n X 14 0 dX5_begin_13 rfl rfl ?_
    refine v_getR X 17 fl_X5_9.r dX5_begin_14 rfl (fun v4 => ?_)
    refine v_iload_n X 18 1 dX5_begin_17 rfl rfl ?_
    refine v_iald X 19 dX5_begin_18 rfl (fun v5 => ?_)
    refine v_bipush X 21 dX5_begin_19 bk_63 rfl ?_
    refine v_iand X 22 dX5_begin_21 rfl ?_
    refine v_iload_n X 23 2 dX5_begin_22 rfl rfl ?_
    refine v_bipush X 25 dX5_begin_23 bk_6 rfl ?_
    refine v_ishl X 26 dX5_begin_25 rfl ?_
    refine v_ior X 27 dX5_begin_26 rfl ?_
    refine v_iast X 28 dX5_begin_27 rfl (fun M6 => ?_)
    exact v_vret X Y (Nat.le_refl _) (Nat.le_refl _) dX5_begin_28
theorem c_X5_begin (l : Launch) (x0 : Nat) (x1 : Int32) (x2 : Int32) (M : MM) (M1 : MM) (h : f_X5_begin x0 x1 x2 M = some M1) : KV l yX5_begin cX5_begin 3 none (RM 2 0 0) false 5 x0 [.int x1, .int x2] M none M1 := by
  obtain ⟨hO, h2⟩ := iteO_some h
  exact ⟨hO, ct_of (tr := trV) (by decide) (Nat.le_of_ble_eq_true rfl) [(0, .ref x0), (1, .int x1), (2, .int x2)] rfl h2 (fun G X Y hn hl => L_X5_begin_0 X Y x0 x1 x2 M)⟩

def f_X5_copy_0 (x0 : Nat) (x1 : Nat) (M : MM) : Option (MM) :=
    b1 (gR 5 0 x1 M) fun v1 =>
    b1 (gR 5 0 x0 M) fun v2 =>
    b1 (gI 5 1 x1 M) fun v3 =>
    b1 (cpI v1 (0 : Int32) v2 (0 : Int32) v3 M) fun M4 =>
    b1 (gI 5 1 x1 M4) fun v5 =>
    b1 (pI 5 1 x0 v5 M4) fun M6 =>
    some M6

def f_X5_copy (x0 : Nat) (x1 : Nat) (M : MM) : Option (MM) := if isO 5 x0 M = true then f_X5_copy_0 x0 x1 M else none
set_option maxRecDepth 4000 in
theorem L_X5_copy_0 {G : Gx} (X : Cb G cX5_copy 2 RX5 (RM 1 0 0) false) (Y : Cr G none 0 0) (x0 : Nat) (x1 : Nat) (M : MM) : V G trV 2 0 0 0 [(0, .ref x0), (1, .ref x1)] [] M (f_X5_copy_0 x0 x1 M) := by
  unfold f_X5_copy_0
  refine v_aload_n X 1 1 dX5_copy_0 rfl rfl ?_
  refine v_getR X 4 fl_X5_9.r dX5_copy_1 rfl (fun v1 => ?_)
  refine v_iconst X 5 dX5_copy_4 ik_0 rfl ?_
  refine v_aload_n X 6 0 dX5_copy_5 rfl rfl ?_
  refine v_getR X 9 fl_X5_9.r dX5_copy_6 rfl (fun v2 => ?_)
  refine v_iconst X 10 dX5_copy_9 ik_0 rfl ?_
  refine v_aload_n X 11 1 dX5_copy_10 rfl rfl ?_
  refine v_getI X 14 fl_X5_13.r dX5_copy_11 rfl (fun v3 => ?_)
  refine v_copy X 17 ml_X5_27 wCopy (Nat.le_of_ble_eq_true rfl) (Nat.le_of_ble_eq_true rfl) dX5_copy_14 rfl (fun M4 => ?_)
  refine v_aload_n X 18 0 dX5_copy_17 rfl rfl ?_
  refine v_aload_n X 19 1 dX5_copy_18 rfl rfl ?_
  refine v_getI X 22 fl_X5_13.r dX5_copy_19 rfl (fun v5 => ?_)
  refine v_putI X 25 fl_X5_13 nof dX5_copy_22 rfl (fun M6 => ?_)
  exact v_vret X Y (Nat.le_refl _) (Nat.le_refl _) dX5_copy_25
theorem c_X5_copy (l : Launch) (x0 : Nat) (x1 : Nat) (M : MM) (M1 : MM) (h : f_X5_copy x0 x1 M = some M1) : KV l yX5_copy cX5_copy 2 none (RM 1 0 0) false 5 x0 [.ref x1] M none M1 := by
  obtain ⟨hO, h2⟩ := iteO_some h
  exact ⟨hO, ct_of (tr := trV) (by decide) (Nat.le_of_ble_eq_true rfl) [(0, .ref x0), (1, .ref x1)] rfl h2 (fun G X Y hn hl => L_X5_copy_0 X Y x0 x1 M)⟩

def f_X5_copyWithout_48 (K7 : Nat → Nat → Int32 → Int32 → MM → Option (MM)) (x0 : Nat) (x1 : Nat) (x2 : Int32) (x3 : Int32) (M : MM) : Option (MM) :=
    bn (x3 + 1 : Int32) fun y1 =>
    K7 x0 x1 x2 y1 M

def f_X5_copyWithout_7 : Nat → Nat → Nat → Int32 → Int32 → MM → Option (MM)
  | 0, _, _, _, _, _ => none
  | n + 1, x0, x1, x2, x3, M =>
    b1 (gI 5 1 x1 M) fun v1 =>
    if v1 ≤ x3 then
      some M
    else
      if ((x2 >>> (x3 &&& 31)) &&& (1 : Int32)) = 0 then
        b1 (gR 5 0 x0 M) fun v2 =>
        b1 (gI 5 1 x0 M) fun v3 =>
        b1 (gR 5 0 x1 M) fun v4 =>
        b1 (ldI v4 x3 M) fun v5 =>
        b1 (stI v2 v3 v5 M) fun M6 =>
        b1 (gI 5 1 x0 M6) fun v7 =>
        b1 (pI 5 1 x0 (v7 + (1 : Int32)) M6) fun M8 =>
        f_X5_copyWithout_48 (f_X5_copyWithout_7 n) x0 x1 x2 x3 M8
      else
        f_X5_copyWithout_48 (f_X5_copyWithout_7 n) x0 x1 x2 x3 M

def f_X5_copyWithout_0 (x0 : Nat) (x1 : Nat) (x2 : Int32) (M : MM) : Option (MM) :=
    b1 (pI 5 1 x0 (0 : Int32) M) fun M1 =>
    f_X5_copyWithout_7 1024 x0 x1 x2 (0 : Int32) M1

def f_X5_copyWithout (x0 : Nat) (x1 : Nat) (x2 : Int32) (M : MM) : Option (MM) := if isO 5 x0 M = true then f_X5_copyWithout_0 x0 x1 x2 M else none
set_option maxRecDepth 4000 in
theorem L_X5_copyWithout_48 {G : Gx} (X : Cb G cX5_copyWithout 4 RX5 (RM 1 0 0) false) (Y : Cr G none 0 0) {K7 : Nat → Nat → Int32 → Int32 → MM → Option (MM)} (hK7 : ∀ (x0 : Nat) (x1 : Nat) (x2 : Int32) (x3 : Int32) (M : MM), V G trV 4 0 0 7 [(0, .ref x0), (1, .ref x1), (2, .int x2), (3, .int x3)] [] M (K7 x0 x1 x2 x3 M)) (x0 : Nat) (x1 : Nat) (x2 : Int32) (x3 : Int32) (M : MM) : V G trV 4 0 0 48 [(0, .ref x0), (1, .ref x1), (2, .int x2), (3, .int x3)] [] M (f_X5_copyWithout_48 K7 x0 x1 x2 x3 M) := by
  unfold f_X5_copyWithout_48
  refine v_iinc X 51 3 (fun z => [(0, .ref x0), (1, .ref x1), (2, .int x2), (3, .int z)]) dX5_copyWithout_48 rfl ik_1 (by decide) (fun _ => rfl) rfl (fun y1 => ?_)
  refine v_goto X 7 dX5_copyWithout_51 rfl ?_
  exact hK7 _ _ _ _ _
set_option maxRecDepth 4000 in
theorem L_X5_copyWithout_7 {G : Gx} (X : Cb G cX5_copyWithout 4 RX5 (RM 1 0 0) false) (Y : Cr G none 0 0) : ∀ (n : Nat) (x0 : Nat) (x1 : Nat) (x2 : Int32) (x3 : Int32) (M : MM), V G trV 4 0 0 7 [(0, .ref x0), (1, .ref x1), (2, .int x2), (3, .int x3)] [] M (f_X5_copyWithout_7 n x0 x1 x2 x3 M) := by
  intro n
  induction n with
  | zero => intro x0 x1 x2 x3 M; rw [f_X5_copyWithout_7]; exact v_none
  | succ n ih =>
    intro x0 x1 x2 x3 M
    rw [f_X5_copyWithout_7]
    refine v_iload_n X 8 3 dX5_copyWithout_7 rfl rfl ?_
    refine v_aload_n X 9 1 dX5_copyWithout_8 rfl rfl ?_
    refine v_getI X 12 fl_X5_13.r dX5_copyWithout_9 rfl (fun v1 => ?_)
    refine v_icge X 15 54 dX5_copyWithout_12 rfl rfl ?_ ?_
    · exact v_vret X Y (Nat.le_refl _) (Nat.le_refl _) dX5_copyWithout_54
    · refine v_iload_n X 16 2 dX5_copyWithout_15 rfl rfl ?_
      refine v_iload_n X 17 3 dX5_copyWithout_16 rfl rfl ?_
      refine v_ishr X 18 dX5_copyWithout_17 rfl ?_
      refine v_iconst X 19 dX5_copyWithout_18 ik_1 rfl ?_
      refine v_iand X 20 dX5_copyWithout_19 rfl ?_
      refine v_ifne X 23 48 dX5_copyWithout_20 rfl rfl ?_ ?_
      · exact L_X5_copyWithout_48 X Y ih _ _ _ _ _
      · refine v_aload_n X 24 0 dX5_copyWithout_23 rfl rfl ?_
        refine v_getR X 27 fl_X5_9.r dX5_copyWithout_24 rfl (fun v2 => ?_)
        refine v_aload_n X 28 0 dX5_copyWithout_27 rfl rfl ?_
        refine v_getI X 31 fl_X5_13.r dX5_copyWithout_28 rfl (fun v3 => ?_)
        refine v_aload_n X 32 1 dX5_copyWithout_31 rfl rfl ?_
        refine v_getR X 35 fl_X5_9.r dX5_copyWithout_32 rfl (fun v4 => ?_)
        refine v_iload_n X 36 3 dX5_copyWithout_35 rfl rfl ?_
        refine v_iald X 37 dX5_copyWithout_36 rfl (fun v5 => ?_)
        refine v_iast X 38 dX5_copyWithout_37 rfl (fun M6 => ?_)
        refine v_aload_n X 39 0 dX5_copyWithout_38 rfl rfl ?_
        refine v_dup X 40 dX5_copyWithout_39 rfl rfl ?_
        refine v_getI X 43 fl_X5_13.r dX5_copyWithout_40 rfl (fun v7 => ?_)
        refine v_iconst X 44 dX5_copyWithout_43 ik_1 rfl ?_
        refine v_iadd X 45 dX5_copyWithout_44 rfl ?_
        refine v_putI X 48 fl_X5_13 nof dX5_copyWithout_45 rfl (fun M8 => ?_)
        exact L_X5_copyWithout_48 X Y ih _ _ _ _ _
set_option maxRecDepth 4000 in
theorem L_X5_copyWithout_0 {G : Gx} (X : Cb G cX5_copyWithout 4 RX5 (RM 1 0 0) false) (Y : Cr G none 0 0) (x0 : Nat) (x1 : Nat) (x2 : Int32) (M : MM) : V G trV 4 0 0 0 [(0, .ref x0), (1, .ref x1), (2, .int x2)] [] M (f_X5_copyWithout_0 x0 x1 x2 M) := by
  unfold f_X5_copyWithout_0
  refine v_aload_n X 1 0 dX5_copyWithout_0 rfl rfl ?_
  refine v_iconst X 2 dX5_copyWithout_1 ik_0 rfl ?_
  refine v_putI X 5 fl_X5_13 nof dX5_copyWithout_2 rfl (fun M1 => ?_)
  refine v_iconst X 6 dX5_copyWithout_5 ik_0 rfl ?_
  refine v_istore_n (lv' := [(0, .ref x0), (1, .ref x1), (2, .int x2), (3, .int (0 : Int32))]) X 7 dX5_copyWithout_6 (by decide) rfl rfl ?_
  exact L_X5_copyWithout_7 X Y 1024 _ _ _ _ _
theorem c_X5_copyWithout (l : Launch) (x0 : Nat) (x1 : Nat) (x2 : Int32) (M : MM) (M1 : MM) (h : f_X5_copyWithout x0 x1 x2 M = some M1) : KV l yX5_copyWithout cX5_copyWithout 4 none (RM 1 0 0) false 5 x0 [.ref x1, .int x2] M none M1 := by
  obtain ⟨hO, h2⟩ := iteO_some h
  exact ⟨hO, ct_of (tr := trV) (by decide) (Nat.le_of_ble_eq_true rfl) [(0, .ref x0), (1, .ref x1), (2, .int x2)] rfl h2 (fun G X Y hn hl => L_X5_copyWithout_0 X Y x0 x1 x2 M)⟩

def f_X5_goTogether_0 (x0 : Nat) (x1 : Int32) (x2 : Int32) (x3 : Int32) (M : MM) : Option (Int32 × MM) :=
    b2 (f_X5_has x0 x1 M) fun r2 M1 =>
    if r2 = 0 then
      rz (0 : Int32) M1
    else
      b1 (gR 5 0 x0 M1) fun v3 =>
      b1 (ldI v3 x1 M1) fun v4 =>
      if (v4 >>> ((3 : Int32) &&& 31)) = (x2 ||| (x3 <<< ((3 : Int32) &&& 31))) then
        rz (1 : Int32) M1
      else
        rz (0 : Int32) M1

def f_X5_goTogether (x0 : Nat) (x1 : Int32) (x2 : Int32) (x3 : Int32) (M : MM) : Option (Int32 × MM) := if isO 5 x0 M = true then f_X5_goTogether_0 x0 x1 x2 x3 M else none
set_option maxRecDepth 4000 in
theorem L_X5_goTogether_0 {G : Gx} (X : Cb G cX5_goTogether 4 RX5 (RM 2 0 0) false) (Y : Cr G (some .boolean) 0 0) (x0 : Nat) (x1 : Int32) (x2 : Int32) (x3 : Int32) (M : MM) : V G trI 4 0 0 0 [(0, .ref x0), (1, .int x1), (2, .int x2), (3, .int x3)] [] M (f_X5_goTogether_0 x0 x1 x2 x3 M) := by
  unfold f_X5_goTogether_0
  refine v_aload_n X 1 0 dX5_goTogether_0 rfl rfl ?_
  refine v_iload_n X 2 1 dX5_goTogether_1 rfl rfl ?_
  refine v_vI X 5 cv_X5_has ml_X5_23 (n1 := 1) rfl [.int x1] rfl rfl rfl dX5_goTogether_2 rfl (fun r M1 h => c_X5_has _ _ _ _ _ _ h) (fun r2 M1 => ?_)
  refine v_ifeq X 8 28 dX5_goTogether_5 rfl rfl ?_ ?_
  · refine v_iconst X 29 dX5_goTogether_28 ik_0 rfl ?_
    exact v_zret X Y (Nat.le_refl _) (Nat.le_refl _) dX5_goTogether_29
  · refine v_aload_n X 9 0 dX5_goTogether_8 rfl rfl ?_
    refine v_getR X 12 fl_X5_9.r dX5_goTogether_9 rfl (fun v3 => ?_)
    refine v_iload_n X 13 1 dX5_goTogether_12 rfl rfl ?_
    refine v_iald X 14 dX5_goTogether_13 rfl (fun v4 => ?_)
    refine v_iconst X 15 dX5_goTogether_14 ik_3 rfl ?_
    refine v_ishr X 16 dX5_goTogether_15 rfl ?_
    refine v_iload_n X 17 2 dX5_goTogether_16 rfl rfl ?_
    refine v_iload_n X 18 3 dX5_goTogether_17 rfl rfl ?_
    refine v_iconst X 19 dX5_goTogether_18 ik_3 rfl ?_
    refine v_ishl X 20 dX5_goTogether_19 rfl ?_
    refine v_ior X 21 dX5_goTogether_20 rfl ?_
    refine v_icne X 24 28 dX5_goTogether_21 rfl rfl ?_ ?_
    · refine v_iconst X 29 dX5_goTogether_28 ik_0 rfl ?_
      exact v_zret X Y (Nat.le_refl _) (Nat.le_refl _) dX5_goTogether_29
    · refine v_iconst X 25 dX5_goTogether_24 ik_1 rfl ?_
      refine v_goto X 29 dX5_goTogether_25 rfl ?_
      exact v_zret X Y (Nat.le_refl _) (Nat.le_refl _) dX5_goTogether_29
theorem c_X5_goTogether (l : Launch) (x0 : Nat) (x1 : Int32) (x2 : Int32) (x3 : Int32) (M : MM) (r : Int32) (M1 : MM) (h : f_X5_goTogether x0 x1 x2 x3 M = some (r, M1)) : KV l yX5_goTogether cX5_goTogether 4 (some .boolean) (RM 2 0 0) false 5 x0 [.int x1, .int x2, .int x3] M (some (.int r)) M1 := by
  obtain ⟨hO, h2⟩ := iteO_some h
  exact ⟨hO, ct_of (tr := trI) (by decide) (Nat.le_of_ble_eq_true rfl) [(0, .ref x0), (1, .int x1), (2, .int x2), (3, .int x3)] rfl h2 (fun G X Y hn hl => L_X5_goTogether_0 X Y x0 x1 x2 x3 M)⟩

def f_X5_ofPerson_27 (K4 : Nat → Int32 → Int32 → Int32 → MM → Option (Int32 × MM)) (x0 : Nat) (x1 : Int32) (x3 : Int32) (s0 : Int32) (s1 : Int32) (M : MM) : Option (Int32 × MM) :=
    bn (s1 + s0 : Int32) fun y1 =>
    bn (x3 + 1 : Int32) fun y2 =>
    K4 x0 x1 y1 y2 M

def f_X5_ofPerson_4 : Nat → Nat → Int32 → Int32 → Int32 → MM → Option (Int32 × MM)
  | 0, _, _, _, _, _ => none
  | n + 1, x0, x1, x2, x3, M =>
    b1 (gI 5 1 x0 M) fun v1 =>
    if v1 ≤ x3 then
      some (x2, M)
    else
      b2 (f_X5_who x0 x3 M) fun r3 M2 =>
      if r3 = x1 then
        f_X5_ofPerson_27 (f_X5_ofPerson_4 n) x0 x1 x3 (1 : Int32) x2 M2
      else
        f_X5_ofPerson_27 (f_X5_ofPerson_4 n) x0 x1 x3 (0 : Int32) x2 M2

def f_X5_ofPerson_0 (x0 : Nat) (x1 : Int32) (M : MM) : Option (Int32 × MM) :=
    f_X5_ofPerson_4 1024 x0 x1 (0 : Int32) (0 : Int32) M

def f_X5_ofPerson (x0 : Nat) (x1 : Int32) (M : MM) : Option (Int32 × MM) := if isO 5 x0 M = true then f_X5_ofPerson_0 x0 x1 M else none
set_option maxRecDepth 4000 in
theorem L_X5_ofPerson_27 {G : Gx} (X : Cb G cX5_ofPerson 4 RX5 (RM 2 0 0) false) (Y : Cr G (some .int) 0 0) {K4 : Nat → Int32 → Int32 → Int32 → MM → Option (Int32 × MM)} (hK4 : ∀ (x0 : Nat) (x1 : Int32) (x2 : Int32) (x3 : Int32) (M : MM), V G trI 4 0 0 4 [(0, .ref x0), (1, .int x1), (2, .int x2), (3, .int x3)] [] M (K4 x0 x1 x2 x3 M)) (x0 : Nat) (x1 : Int32) (x3 : Int32) (s0 : Int32) (s1 : Int32) (M : MM) : V G trI 4 0 0 27 [(0, .ref x0), (1, .int x1), (3, .int x3)] [.int s0, .int s1] M (f_X5_ofPerson_27 K4 x0 x1 x3 s0 s1 M) := by
  unfold f_X5_ofPerson_27
  refine v_iadd X 28 dX5_ofPerson_27 rfl ?_
  refine v_bnI (fun y1 => ?_)
  refine v_istore_n (lv' := [(0, .ref x0), (1, .int x1), (2, .int y1), (3, .int x3)]) X 29 dX5_ofPerson_28 (by decide) rfl rfl ?_
  refine v_iinc X 32 3 (fun z => [(0, .ref x0), (1, .int x1), (2, .int y1), (3, .int z)]) dX5_ofPerson_29 rfl ik_1 (by decide) (fun _ => rfl) rfl (fun y2 => ?_)
  refine v_goto X 4 dX5_ofPerson_32 rfl ?_
  exact hK4 _ _ _ _ _
set_option maxRecDepth 4000 in
theorem L_X5_ofPerson_4 {G : Gx} (X : Cb G cX5_ofPerson 4 RX5 (RM 2 0 0) false) (Y : Cr G (some .int) 0 0) : ∀ (n : Nat) (x0 : Nat) (x1 : Int32) (x2 : Int32) (x3 : Int32) (M : MM), V G trI 4 0 0 4 [(0, .ref x0), (1, .int x1), (2, .int x2), (3, .int x3)] [] M (f_X5_ofPerson_4 n x0 x1 x2 x3 M) := by
  intro n
  induction n with
  | zero => intro x0 x1 x2 x3 M; rw [f_X5_ofPerson_4]; exact v_none
  | succ n ih =>
    intro x0 x1 x2 x3 M
    rw [f_X5_ofPerson_4]
    refine v_iload_n X 5 3 dX5_ofPerson_4 rfl rfl ?_
    refine v_aload_n X 6 0 dX5_ofPerson_5 rfl rfl ?_
    refine v_getI X 9 fl_X5_13.r dX5_ofPerson_6 rfl (fun v1 => ?_)
    refine v_icge X 12 35 dX5_ofPerson_9 rfl rfl ?_ ?_
    · refine v_iload_n X 36 2 dX5_ofPerson_35 rfl rfl ?_
      exact v_iret X Y (Nat.le_refl _) (Nat.le_refl _) dX5_ofPerson_36
    · refine v_iload_n X 13 2 dX5_ofPerson_12 rfl rfl ?_
      refine v_aload_n X 14 0 dX5_ofPerson_13 rfl rfl ?_
      refine v_iload_n X 15 3 dX5_ofPerson_14 rfl rfl ?_
      refine v_vI X 18 cv_X5_who ml_X5_33 (n1 := 1) rfl [.int x3] rfl rfl rfl dX5_ofPerson_15 rfl (fun r M1 h => c_X5_who _ _ _ _ _ _ h) (fun r3 M2 => ?_)
      refine v_iload_n X 19 1 dX5_ofPerson_18 rfl rfl ?_
      refine v_icne X 22 26 dX5_ofPerson_19 rfl rfl ?_ ?_
      · refine v_iconst X 27 dX5_ofPerson_26 ik_0 rfl ?_
        exact v_sb [0, 1, 3] (L_X5_ofPerson_27 X Y ih _ _ _ _ _ _) rfl
      · refine v_iconst X 23 dX5_ofPerson_22 ik_1 rfl ?_
        refine v_goto X 27 dX5_ofPerson_23 rfl ?_
        exact v_sb [0, 1, 3] (L_X5_ofPerson_27 X Y ih _ _ _ _ _ _) rfl
set_option maxRecDepth 4000 in
theorem L_X5_ofPerson_0 {G : Gx} (X : Cb G cX5_ofPerson 4 RX5 (RM 2 0 0) false) (Y : Cr G (some .int) 0 0) (x0 : Nat) (x1 : Int32) (M : MM) : V G trI 4 0 0 0 [(0, .ref x0), (1, .int x1)] [] M (f_X5_ofPerson_0 x0 x1 M) := by
  unfold f_X5_ofPerson_0
  refine v_iconst X 1 dX5_ofPerson_0 ik_0 rfl ?_
  refine v_istore_n (lv' := [(0, .ref x0), (1, .int x1), (2, .int (0 : Int32))]) X 2 dX5_ofPerson_1 (by decide) rfl rfl ?_
  refine v_iconst X 3 dX5_ofPerson_2 ik_0 rfl ?_
  refine v_istore_n (lv' := [(0, .ref x0), (1, .int x1), (2, .int (0 : Int32)), (3, .int (0 : Int32))]) X 4 dX5_ofPerson_3 (by decide) rfl rfl ?_
  exact L_X5_ofPerson_4 X Y 1024 _ _ _ _ _
theorem c_X5_ofPerson (l : Launch) (x0 : Nat) (x1 : Int32) (M : MM) (r : Int32) (M1 : MM) (h : f_X5_ofPerson x0 x1 M = some (r, M1)) : KV l yX5_ofPerson cX5_ofPerson 4 (some .int) (RM 2 0 0) false 5 x0 [.int x1] M (some (.int r)) M1 := by
  obtain ⟨hO, h2⟩ := iteO_some h
  exact ⟨hO, ct_of (tr := trI) (by decide) (Nat.le_of_ble_eq_true rfl) [(0, .ref x0), (1, .int x1)] rfl h2 (fun G X Y hn hl => L_X5_ofPerson_0 X Y x0 x1 M)⟩

def f_X5_ofErrand_27 (K4 : Nat → Int32 → Int32 → Int32 → MM → Option (Int32 × MM)) (x0 : Nat) (x1 : Int32) (x3 : Int32) (s0 : Int32) (s1 : Int32) (M : MM) : Option (Int32 × MM) :=
    bn (s1 + s0 : Int32) fun y1 =>
    bn (x3 + 1 : Int32) fun y2 =>
    K4 x0 x1 y1 y2 M

def f_X5_ofErrand_4 : Nat → Nat → Int32 → Int32 → Int32 → MM → Option (Int32 × MM)
  | 0, _, _, _, _, _ => none
  | n + 1, x0, x1, x2, x3, M =>
    b1 (gI 5 1 x0 M) fun v1 =>
    if v1 ≤ x3 then
      some (x2, M)
    else
      b2 (f_X5_what x0 x3 M) fun r3 M2 =>
      if r3 = x1 then
        f_X5_ofErrand_27 (f_X5_ofErrand_4 n) x0 x1 x3 (1 : Int32) x2 M2
      else
        f_X5_ofErrand_27 (f_X5_ofErrand_4 n) x0 x1 x3 (0 : Int32) x2 M2

def f_X5_ofErrand_0 (x0 : Nat) (x1 : Int32) (M : MM) : Option (Int32 × MM) :=
    f_X5_ofErrand_4 1024 x0 x1 (0 : Int32) (0 : Int32) M

def f_X5_ofErrand (x0 : Nat) (x1 : Int32) (M : MM) : Option (Int32 × MM) := if isO 5 x0 M = true then f_X5_ofErrand_0 x0 x1 M else none
set_option maxRecDepth 4000 in
theorem L_X5_ofErrand_27 {G : Gx} (X : Cb G cX5_ofErrand 4 RX5 (RM 2 0 0) false) (Y : Cr G (some .int) 0 0) {K4 : Nat → Int32 → Int32 → Int32 → MM → Option (Int32 × MM)} (hK4 : ∀ (x0 : Nat) (x1 : Int32) (x2 : Int32) (x3 : Int32) (M : MM), V G trI 4 0 0 4 [(0, .ref x0), (1, .int x1), (2, .int x2), (3, .int x3)] [] M (K4 x0 x1 x2 x3 M)) (x0 : Nat) (x1 : Int32) (x3 : Int32) (s0 : Int32) (s1 : Int32) (M : MM) : V G trI 4 0 0 27 [(0, .ref x0), (1, .int x1), (3, .int x3)] [.int s0, .int s1] M (f_X5_ofErrand_27 K4 x0 x1 x3 s0 s1 M) := by
  unfold f_X5_ofErrand_27
  refine v_iadd X 28 dX5_ofErrand_27 rfl ?_
  refine v_bnI (fun y1 => ?_)
  refine v_istore_n (lv' := [(0, .ref x0), (1, .int x1), (2, .int y1), (3, .int x3)]) X 29 dX5_ofErrand_28 (by decide) rfl rfl ?_
  refine v_iinc X 32 3 (fun z => [(0, .ref x0), (1, .int x1), (2, .int y1), (3, .int z)]) dX5_ofErrand_29 rfl ik_1 (by decide) (fun _ => rfl) rfl (fun y2 => ?_)
  refine v_goto X 4 dX5_ofErrand_32 rfl ?_
  exact hK4 _ _ _ _ _
set_option maxRecDepth 4000 in
theorem L_X5_ofErrand_4 {G : Gx} (X : Cb G cX5_ofErrand 4 RX5 (RM 2 0 0) false) (Y : Cr G (some .int) 0 0) : ∀ (n : Nat) (x0 : Nat) (x1 : Int32) (x2 : Int32) (x3 : Int32) (M : MM), V G trI 4 0 0 4 [(0, .ref x0), (1, .int x1), (2, .int x2), (3, .int x3)] [] M (f_X5_ofErrand_4 n x0 x1 x2 x3 M) := by
  intro n
  induction n with
  | zero => intro x0 x1 x2 x3 M; rw [f_X5_ofErrand_4]; exact v_none
  | succ n ih =>
    intro x0 x1 x2 x3 M
    rw [f_X5_ofErrand_4]
    refine v_iload_n X 5 3 dX5_ofErrand_4 rfl rfl ?_
    refine v_aload_n X 6 0 dX5_ofErrand_5 rfl rfl ?_
    refine v_getI X 9 fl_X5_13.r dX5_ofErrand_6 rfl (fun v1 => ?_)
    refine v_icge X 12 35 dX5_ofErrand_9 rfl rfl ?_ ?_
    · refine v_iload_n X 36 2 dX5_ofErrand_35 rfl rfl ?_
      exact v_iret X Y (Nat.le_refl _) (Nat.le_refl _) dX5_ofErrand_36
    · refine v_iload_n X 13 2 dX5_ofErrand_12 rfl rfl ?_
      refine v_aload_n X 14 0 dX5_ofErrand_13 rfl rfl ?_
      refine v_iload_n X 15 3 dX5_ofErrand_14 rfl rfl ?_
      refine v_vI X 18 cv_X5_what ml_X5_37 (n1 := 1) rfl [.int x3] rfl rfl rfl dX5_ofErrand_15 rfl (fun r M1 h => c_X5_what _ _ _ _ _ _ h) (fun r3 M2 => ?_)
      refine v_iload_n X 19 1 dX5_ofErrand_18 rfl rfl ?_
      refine v_icne X 22 26 dX5_ofErrand_19 rfl rfl ?_ ?_
      · refine v_iconst X 27 dX5_ofErrand_26 ik_0 rfl ?_
        exact v_sb [0, 1, 3] (L_X5_ofErrand_27 X Y ih _ _ _ _ _ _) rfl
      · refine v_iconst X 23 dX5_ofErrand_22 ik_1 rfl ?_
        refine v_goto X 27 dX5_ofErrand_23 rfl ?_
        exact v_sb [0, 1, 3] (L_X5_ofErrand_27 X Y ih _ _ _ _ _ _) rfl
set_option maxRecDepth 4000 in
theorem L_X5_ofErrand_0 {G : Gx} (X : Cb G cX5_ofErrand 4 RX5 (RM 2 0 0) false) (Y : Cr G (some .int) 0 0) (x0 : Nat) (x1 : Int32) (M : MM) : V G trI 4 0 0 0 [(0, .ref x0), (1, .int x1)] [] M (f_X5_ofErrand_0 x0 x1 M) := by
  unfold f_X5_ofErrand_0
  refine v_iconst X 1 dX5_ofErrand_0 ik_0 rfl ?_
  refine v_istore_n (lv' := [(0, .ref x0), (1, .int x1), (2, .int (0 : Int32))]) X 2 dX5_ofErrand_1 (by decide) rfl rfl ?_
  refine v_iconst X 3 dX5_ofErrand_2 ik_0 rfl ?_
  refine v_istore_n (lv' := [(0, .ref x0), (1, .int x1), (2, .int (0 : Int32)), (3, .int (0 : Int32))]) X 4 dX5_ofErrand_3 (by decide) rfl rfl ?_
  exact L_X5_ofErrand_4 X Y 1024 _ _ _ _ _
theorem c_X5_ofErrand (l : Launch) (x0 : Nat) (x1 : Int32) (M : MM) (r : Int32) (M1 : MM) (h : f_X5_ofErrand x0 x1 M = some (r, M1)) : KV l yX5_ofErrand cX5_ofErrand 4 (some .int) (RM 2 0 0) false 5 x0 [.int x1] M (some (.int r)) M1 := by
  obtain ⟨hO, h2⟩ := iteO_some h
  exact ⟨hO, ct_of (tr := trI) (by decide) (Nat.le_of_ble_eq_true rfl) [(0, .ref x0), (1, .int x1)] rfl h2 (fun G X Y hn hl => L_X5_ofErrand_0 X Y x0 x1 M)⟩

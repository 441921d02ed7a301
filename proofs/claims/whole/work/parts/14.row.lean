def f_X6_clear_0 (x0 : Nat) (M : MM) : Option (MM) :=
    b1 (pI 6 1 x0 (0 : Int32) M) fun M1 =>
    some M1

def f_X6_clear (x0 : Nat) (M : MM) : Option (MM) := if isO 6 x0 M = true then f_X6_clear_0 x0 M else none
set_option maxRecDepth 4000 in
theorem L_X6_clear_0 {G : Gx} (X : Cb G cX6_clear 1 RX6 (RM 1 0 0) false) (Y : Cr G none 0 0) (x0 : Nat) (M : MM) : V G trV 1 0 0 0 [(0, .ref x0)] [] M (f_X6_clear_0 x0 M) := by
  unfold f_X6_clear_0
  refine v_aload_n X 1 0 dX6_clear_0 rfl rfl ?_
  refine v_iconst X 2 dX6_clear_1 ik_0 rfl ?_
  refine v_putI X 5 fl_X6_13 nof dX6_clear_2 rfl (fun M1 => ?_)
  exact v_vret X Y (Nat.le_refl _) (Nat.le_refl _) dX6_clear_5
theorem c_X6_clear (l : Launch) (x0 : Nat) (M : MM) (M1 : MM) (h : f_X6_clear x0 M = some M1) : KV l yX6_clear cX6_clear 1 none (RM 1 0 0) false 6 x0 [] M none M1 := by
  obtain ⟨hO, h2⟩ := iteO_some h
  exact ⟨hO, ct_of (tr := trV) (by decide) (Nat.le_of_ble_eq_true rfl) [(0, .ref x0)] rfl h2 (fun G X Y hn hl => L_X6_clear_0 X Y x0 M)⟩

def f_X6_add_0 (x0 : Nat) (x1 : Int64) (M : MM) : Option (MM) :=
    b1 (gI 6 1 x0 M) fun v1 =>
    if (8 : Int32) ≤ v1 then
      some M
    else
      b1 (gR 6 0 x0 M) fun v2 =>
      b1 (gI 6 1 x0 M) fun v3 =>
      b1 (stL v2 v3 x1 M) fun M4 =>
      b1 (gI 6 1 x0 M4) fun v5 =>
      b1 (pI 6 1 x0 (v5 + (1 : Int32)) M4) fun M6 =>
      some M6

def f_X6_add (x0 : Nat) (x1 : Int64) (M : MM) : Option (MM) := if isO 6 x0 M = true then f_X6_add_0 x0 x1 M else none
set_option maxRecDepth 4000 in
theorem L_X6_add_0 {G : Gx} (X : Cb G cX6_add 3 RX6 (RM 1 0 0) false) (Y : Cr G none 0 0) (x0 : Nat) (x1 : Int64) (M : MM) : V G trV 3 0 0 0 [(0, .ref x0), (1, .long x1)] [] M (f_X6_add_0 x0 x1 M) := by
  unfold f_X6_add_0
  refine v_aload_n X 1 0 dX6_add_0 rfl rfl ?_
  refine v_getI X 4 fl_X6_13.r dX6_add_1 rfl (fun v1 => ?_)
  refine v_bipush X 6 dX6_add_4 bk_8 rfl ?_
  refine v_icge X 9 29 dX6_add_6 rfl rfl ?_ ?_
  · exact v_vret X Y (Nat.le_refl _) (Nat.le_refl _) dX6_add_29
  · refine v_aload_n X 10 0 dX6_add_9 rfl rfl ?_
    refine v_getR X 13 fl_X6_9.r dX6_add_10 rfl (fun v2 => ?_)
    refine v_aload_n X 14 0 dX6_add_13 rfl rfl ?_
    refine v_getI X 17 fl_X6_13.r dX6_add_14 rfl (fun v3 => ?_)
    refine v_lload_n X 18 1 dX6_add_17 rfl rfl ?_
    refine v_last X 19 dX6_add_18 rfl (fun M4 => ?_)
    refine v_aload_n X 20 0 dX6_add_19 rfl rfl ?_
    refine v_dup X 21 dX6_add_20 rfl rfl ?_
    refine v_getI X 24 fl_X6_13.r dX6_add_21 rfl (fun v5 => ?_)
    refine v_iconst X 25 dX6_add_24 ik_1 rfl ?_
    refine v_iadd X 26 dX6_add_25 rfl ?_
    refine v_putI X 29 fl_X6_13 nof dX6_add_26 rfl (fun M6 => ?_)
    exact v_vret X Y (Nat.le_refl _) (Nat.le_refl _) dX6_add_29
theorem c_X6_add (l : Launch) (x0 : Nat) (x1 : Int64) (M : MM) (M1 : MM) (h : f_X6_add x0 x1 M = some M1) : KV l yX6_add cX6_add 3 none (RM 1 0 0) false 6 x0 [.long x1] M none M1 := by
  obtain ⟨hO, h2⟩ := iteO_some h
  exact ⟨hO, ct_of (tr := trV) (by decide) (Nat.le_of_ble_eq_true rfl) [(0, .ref x0), (1, .long x1)] rfl h2 (fun G X Y hn hl => L_X6_add_0 X Y x0 x1 M)⟩

def f_X6_one_0 (x0 : Nat) (x1 : Int64) (M : MM) : Option (MM) :=
    b1 (f_X6_clear x0 M) fun M1 =>
    b1 (f_X6_add x0 x1 M1) fun M2 =>
    some M2

def f_X6_one (x0 : Nat) (x1 : Int64) (M : MM) : Option (MM) := if isO 6 x0 M = true then f_X6_one_0 x0 x1 M else none
set_option maxRecDepth 4000 in
theorem L_X6_one_0 {G : Gx} (X : Cb G cX6_one 3 RX6 (RM 2 0 0) false) (Y : Cr G none 0 0) (x0 : Nat) (x1 : Int64) (M : MM) : V G trV 3 0 0 0 [(0, .ref x0), (1, .long x1)] [] M (f_X6_one_0 x0 x1 M) := by
  unfold f_X6_one_0
  refine v_aload_n X 1 0 dX6_one_0 rfl rfl ?_
  refine v_vV X 4 cv_X6_clear ml_X6_17 (n1 := 1) rfl [] rfl rfl rfl dX6_one_1 rfl (fun M1 h => c_X6_clear _ _ _ _ h) (fun M1 => ?_)
  refine v_aload_n X 5 0 dX6_one_4 rfl rfl ?_
  refine v_lload_n X 6 1 dX6_one_5 rfl rfl ?_
  refine v_vV X 9 cv_X6_add ml_X6_20 (n1 := 1) rfl [.long x1] rfl rfl rfl dX6_one_6 rfl (fun M1 h => c_X6_add _ _ _ _ _ h) (fun M2 => ?_)
  exact v_vret X Y (Nat.le_refl _) (Nat.le_refl _) dX6_one_9
theorem c_X6_one (l : Launch) (x0 : Nat) (x1 : Int64) (M : MM) (M1 : MM) (h : f_X6_one x0 x1 M = some M1) : KV l yX6_one cX6_one 3 none (RM 2 0 0) false 6 x0 [.long x1] M none M1 := by
  obtain ⟨hO, h2⟩ := iteO_some h
  exact ⟨hO, ct_of (tr := trV) (by decide) (Nat.le_of_ble_eq_true rfl) [(0, .ref x0), (1, .long x1)] rfl h2 (fun G X Y hn hl => L_X6_one_0 X Y x0 x1 M)⟩

def f_X6_two_0 (x0 : Nat) (x1 : Int64) (x3 : Int64) (M : MM) : Option (MM) :=
    b1 (f_X6_one x0 x1 M) fun M1 =>
    b1 (f_X6_add x0 x3 M1) fun M2 =>
    some M2

def f_X6_two (x0 : Nat) (x1 : Int64) (x3 : Int64) (M : MM) : Option (MM) := if isO 6 x0 M = true then f_X6_two_0 x0 x1 x3 M else none
set_option maxRecDepth 4000 in
theorem L_X6_two_0 {G : Gx} (X : Cb G cX6_two 5 RX6 (RM 3 0 0) false) (Y : Cr G none 0 0) (x0 : Nat) (x1 : Int64) (x3 : Int64) (M : MM) : V G trV 5 0 0 0 [(0, .ref x0), (1, .long x1), (3, .long x3)] [] M (f_X6_two_0 x0 x1 x3 M) := by
  unfold f_X6_two_0
  refine v_aload_n X 1 0 dX6_two_0 rfl rfl ?_
  refine v_lload_n X 2 1 dX6_two_1 rfl rfl ?_
  refine v_vV X 5 cv_X6_one ml_X6_24 (n1 := 2) rfl [.long x1] rfl rfl rfl dX6_two_2 rfl (fun M1 h => c_X6_one _ _ _ _ _ h) (fun M1 => ?_)
  refine v_aload_n X 6 0 dX6_two_5 rfl rfl ?_
  refine v_lload_n X 7 2 dX6_two_6 rfl rfl ?_
  refine v_vV X 10 cv_X6_add ml_X6_20 (n1 := 1) rfl [.long x3] rfl rfl rfl dX6_two_7 rfl (fun M1 h => c_X6_add _ _ _ _ _ h) (fun M2 => ?_)
  exact v_vret X Y (Nat.le_refl _) (Nat.le_refl _) dX6_two_10
theorem c_X6_two (l : Launch) (x0 : Nat) (x1 : Int64) (x3 : Int64) (M : MM) (M1 : MM) (h : f_X6_two x0 x1 x3 M = some M1) : KV l yX6_two cX6_two 5 none (RM 3 0 0) false 6 x0 [.long x1, .long x3] M none M1 := by
  obtain ⟨hO, h2⟩ := iteO_some h
  exact ⟨hO, ct_of (tr := trV) (by decide) (Nat.le_of_ble_eq_true rfl) [(0, .ref x0), (1, .long x1), (3, .long x3)] rfl h2 (fun G X Y hn hl => L_X6_two_0 X Y x0 x1 x3 M)⟩

def f_X6_three_0 (x0 : Nat) (x1 : Int64) (x3 : Int64) (x5 : Int64) (M : MM) : Option (MM) :=
    b1 (f_X6_two x0 x1 x3 M) fun M1 =>
    b1 (f_X6_add x0 x5 M1) fun M2 =>
    some M2

def f_X6_three (x0 : Nat) (x1 : Int64) (x3 : Int64) (x5 : Int64) (M : MM) : Option (MM) := if isO 6 x0 M = true then f_X6_three_0 x0 x1 x3 x5 M else none
set_option maxRecDepth 4000 in
theorem L_X6_three_0 {G : Gx} (X : Cb G cX6_three 7 RX6 (RM 4 0 0) false) (Y : Cr G none 0 0) (x0 : Nat) (x1 : Int64) (x3 : Int64) (x5 : Int64) (M : MM) : V G trV 7 0 0 0 [(0, .ref x0), (1, .long x1), (3, .long x3), (5, .long x5)] [] M (f_X6_three_0 x0 x1 x3 x5 M) := by
  unfold f_X6_three_0
  refine v_aload_n X 1 0 dX6_three_0 rfl rfl ?_
  refine v_lload_n X 2 1 dX6_three_1 rfl rfl ?_
  refine v_lload_n X 3 2 dX6_three_2 rfl rfl ?_
  refine v_vV X 6 cv_X6_two ml_X6_27 (n1 := 3) rfl [.long x1, .long x3] rfl rfl rfl dX6_three_3 rfl (fun M1 h => c_X6_two _ _ _ _ _ _ h) (fun M1 => ?_)
  refine v_aload_n X 7 0 dX6_three_6 rfl rfl ?_
  refine v_lload X 9 3 dX6_three_7 rfl rfl ?_
  refine v_vV X 12 cv_X6_add ml_X6_20 (n1 := 1) rfl [.long x5] rfl rfl rfl dX6_three_9 rfl (fun M1 h => c_X6_add _ _ _ _ _ h) (fun M2 => ?_)
  exact v_vret X Y (Nat.le_refl _) (Nat.le_refl _) dX6_three_12
theorem c_X6_three (l : Launch) (x0 : Nat) (x1 : Int64) (x3 : Int64) (x5 : Int64) (M : MM) (M1 : MM) (h : f_X6_three x0 x1 x3 x5 M = some M1) : KV l yX6_three cX6_three 7 none (RM 4 0 0) false 6 x0 [.long x1, .long x3, .long x5] M none M1 := by
  obtain ⟨hO, h2⟩ := iteO_some h
  exact ⟨hO, ct_of (tr := trV) (by decide) (Nat.le_of_ble_eq_true rfl) [(0, .ref x0), (1, .long x1), (3, .long x3), (5, .long x5)] rfl h2 (fun G X Y hn hl => L_X6_three_0 X Y x0 x1 x3 x5 M)⟩

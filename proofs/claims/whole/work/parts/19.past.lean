def f_X4_forgetOldest_9 : Nat → Nat → Nat → Int32 → MM → Option (MM)
  | 0, _, _, _, _ => none
  | n + 1, x0, x1, x2, M =>
    if (15 : Int32) ≤ x2 then
      b1 (gR 4 0 x0 M) fun v1 =>
      b1 (stR 24 5 v1 (14 : Int32) x1 M) fun M2 =>
      b1 (pI 4 4 x0 (14 : Int32) M2) fun M3 =>
      some M3
    else
      b1 (gR 4 0 x0 M) fun v4 =>
      b1 (gR 4 0 x0 M) fun v5 =>
      b1 (ldR 24 v5 x2 M) fun v6 =>
      b1 (stR 24 5 v4 (x2 - (1 : Int32)) v6 M) fun M7 =>
      bn (x2 + 1 : Int32) fun y8 =>
      f_X4_forgetOldest_9 n x0 x1 y8 M7

def f_X4_forgetOldest_0 (x0 : Nat) (M : MM) : Option (MM) :=
    b1 (gR 4 0 x0 M) fun v1 =>
    b1 (ldR 24 v1 (0 : Int32) M) fun v2 =>
    f_X4_forgetOldest_9 1024 x0 v2 (1 : Int32) M

def f_X4_forgetOldest (x0 : Nat) (M : MM) : Option (MM) := if isO 4 x0 M = true then f_X4_forgetOldest_0 x0 M else none
set_option maxRecDepth 4000 in
theorem L_X4_forgetOldest_9 {G : Gx} (X : Cb G cX4_forgetOldest 3 RX4 (RM 1 0 0) false) (Y : Cr G none 0 0) : ∀ (n : Nat) (x0 : Nat) (x1 : Nat) (x2 : Int32) (M : MM), V G trV 3 0 0 9 [(0, .ref x0), (1, .ref x1), (2, .int x2)] [] M (f_X4_forgetOldest_9 n x0 x1 x2 M) := by
  intro n
  induction n with
  | zero => intro x0 x1 x2 M; rw [f_X4_forgetOldest_9]; exact v_none
  | succ n ih =>
    intro x0 x1 x2 M
    rw [f_X4_forgetOldest_9]
    refine v_iload_n X 10 2 dX4_forgetOldest_9 rfl rfl ?_
    refine v_bipush X 12 dX4_forgetOldest_10 bk_15 rfl ?_
    refine v_icge X 15 35 dX4_forgetOldest_12 rfl rfl ?_ ?_
    · refine v_aload_n X 36 0 dX4_forgetOldest_35 rfl rfl ?_
      refine v_getR X 39 fl_X4_13.r dX4_forgetOldest_36 rfl (fun v1 => ?_)
      refine v_bipush X 41 dX4_forgetOldest_39 bk_14 rfl ?_
      refine v_aload_n X 42 1 dX4_forgetOldest_41 rfl rfl ?_
      refine v_aast24 X 43 dX4_forgetOldest_42 rfl (fun M2 => ?_)
      refine v_aload_n X 44 0 dX4_forgetOldest_43 rfl rfl ?_
      refine v_bipush X 46 dX4_forgetOldest_44 bk_14 rfl ?_
      refine v_putI X 49 fl_X4_28 nof dX4_forgetOldest_46 rfl (fun M3 => ?_)
      exact v_vret X Y (Nat.le_refl _) (Nat.le_refl _) dX4_forgetOldest_49
    · refine v_aload_n X 16 0 dX4_forgetOldest_15 rfl rfl ?_
      refine v_getR X 19 fl_X4_13.r dX4_forgetOldest_16 rfl (fun v4 => ?_)
      refine v_iload_n X 20 2 dX4_forgetOldest_19 rfl rfl ?_
      refine v_iconst X 21 dX4_forgetOldest_20 ik_1 rfl ?_
      refine v_isub X 22 dX4_forgetOldest_21 rfl ?_
      refine v_aload_n X 23 0 dX4_forgetOldest_22 rfl rfl ?_
      refine v_getR X 26 fl_X4_13.r dX4_forgetOldest_23 rfl (fun v5 => ?_)
      refine v_iload_n X 27 2 dX4_forgetOldest_26 rfl rfl ?_
      refine v_aald24 X 28 dX4_forgetOldest_27 rfl (fun v6 => ?_)
      refine v_aast24 X 29 dX4_forgetOldest_28 rfl (fun M7 => ?_)
      refine v_iinc X 32 2 (fun z => [(0, .ref x0), (1, .ref x1), (2, .int z)]) dX4_forgetOldest_29 rfl ik_1 (by decide) (fun _ => rfl) rfl (fun y8 => ?_)
      refine v_goto X 9 dX4_forgetOldest_32 rfl ?_
      exact ih _ _ _ _
set_option maxRecDepth 4000 in
theorem L_X4_forgetOldest_0 {G : Gx} (X : Cb G cX4_forgetOldest 3 RX4 (RM 1 0 0) false) (Y : Cr G none 0 0) (x0 : Nat) (M : MM) : V G trV 3 0 0 0 [(0, .ref x0)] [] M (f_X4_forgetOldest_0 x0 M) := by
  unfold f_X4_forgetOldest_0
  refine v_aload_n X 1 0 dX4_forgetOldest_0 rfl rfl ?_
  refine v_getR X 4 fl_X4_13.r dX4_forgetOldest_1 rfl (fun v1 => ?_)
  refine v_iconst X 5 dX4_forgetOldest_4 ik_0 rfl ?_
  refine v_aald24 X 6 dX4_forgetOldest_5 rfl (fun v2 => ?_)
  refine v_astore_n (lv' := [(0, .ref x0), (1, .ref v2)]) X 7 dX4_forgetOldest_6 (by decide) rfl rfl ?_
  refine v_iconst X 8 dX4_forgetOldest_7 ik_1 rfl ?_
  refine v_istore_n (lv' := [(0, .ref x0), (1, .ref v2), (2, .int (1 : Int32))]) X 9 dX4_forgetOldest_8 (by decide) rfl rfl ?_
  exact L_X4_forgetOldest_9 X Y 1024 _ _ _ _
theorem c_X4_forgetOldest (l : Launch) (x0 : Nat) (M : MM) (M1 : MM) (h : f_X4_forgetOldest x0 M = some M1) : KV l yX4_forgetOldest cX4_forgetOldest 3 none (RM 1 0 0) false 4 x0 [] M none M1 := by
  obtain ⟨hO, h2⟩ := iteO_some h
  exact ⟨hO, ct_of (tr := trV) (by decide) (Nat.le_of_ble_eq_true rfl) [(0, .ref x0)] rfl h2 (fun G X Y hn hl => L_X4_forgetOldest_0 X Y x0 M)⟩

def f_X4_push_13 (x0 : Nat) (x1 : Nat) (M : MM) : Option (MM) :=
    b1 (gR 4 0 x0 M) fun v1 =>
    b1 (gI 4 4 x0 M) fun v2 =>
    b1 (ldR 24 v1 v2 M) fun v3 =>
    b1 (f_X5_copy v3 x1 M) fun M4 =>
    b1 (gI 4 4 x0 M4) fun v5 =>
    b1 (pI 4 4 x0 (v5 + (1 : Int32)) M4) fun M6 =>
    some M6

def f_X4_push_0 (x0 : Nat) (x1 : Nat) (M : MM) : Option (MM) :=
    b1 (gI 4 4 x0 M) fun v1 =>
    if v1 < (15 : Int32) then
      f_X4_push_13 x0 x1 M
    else
      b1 (f_X4_forgetOldest x0 M) fun M2 =>
      f_X4_push_13 x0 x1 M2

def f_X4_push (x0 : Nat) (x1 : Nat) (M : MM) : Option (MM) := if isO 4 x0 M = true then f_X4_push_0 x0 x1 M else none
set_option maxRecDepth 4000 in
theorem L_X4_push_13 {G : Gx} (X : Cb G cX4_push 2 RX4 (RM 2 0 0) false) (Y : Cr G none 0 0) (x0 : Nat) (x1 : Nat) (M : MM) : V G trV 2 0 0 13 [(0, .ref x0), (1, .ref x1)] [] M (f_X4_push_13 x0 x1 M) := by
  unfold f_X4_push_13
  refine v_aload_n X 14 0 dX4_push_13 rfl rfl ?_
  refine v_getR X 17 fl_X4_13.r dX4_push_14 rfl (fun v1 => ?_)
  refine v_aload_n X 18 0 dX4_push_17 rfl rfl ?_
  refine v_getI X 21 fl_X4_28.r dX4_push_18 rfl (fun v2 => ?_)
  refine v_aald24 X 22 dX4_push_21 rfl (fun v3 => ?_)
  refine v_aload_n X 23 1 dX4_push_22 rfl rfl ?_
  refine v_vV X 26 cv_X5_copy ml_X4_35 (n1 := 1) rfl [.ref x1] rfl rfl rfl dX4_push_23 rfl (fun M1 h => c_X5_copy _ _ _ _ _ h) (fun M4 => ?_)
  refine v_aload_n X 27 0 dX4_push_26 rfl rfl ?_
  refine v_dup X 28 dX4_push_27 rfl rfl ?_
  refine v_getI X 31 fl_X4_28.r dX4_push_28 rfl (fun v5 => ?_)
  refine v_iconst X 32 dX4_push_31 ik_1 rfl ?_
  refine v_iadd X 33 dX4_push_32 rfl ?_
  refine v_putI X 36 fl_X4_28 nof dX4_push_33 rfl (fun M6 => ?_)
  exact v_vret X Y (Nat.le_refl _) (Nat.le_refl _) dX4_push_36
set_option maxRecDepth 4000 in
theorem L_X4_push_0 {G : Gx} (X : Cb G cX4_push 2 RX4 (RM 2 0 0) false) (Y : Cr G none 0 0) (x0 : Nat) (x1 : Nat) (M : MM) : V G trV 2 0 0 0 [(0, .ref x0), (1, .ref x1)] [] M (f_X4_push_0 x0 x1 M) := by
  unfold f_X4_push_0
  refine v_aload_n X 1 0 dX4_push_0 rfl rfl ?_
  refine v_getI X 4 fl_X4_28.r dX4_push_1 rfl (fun v1 => ?_)
  refine v_bipush X 6 dX4_push_4 bk_15 rfl ?_
  refine v_iclt X 9 13 dX4_push_6 rfl rfl ?_ ?_
  · exact L_X4_push_13 X Y _ _ _
  · refine v_aload_n X 10 0 dX4_push_9 rfl rfl ?_
    refine v_vV X 13 cv_X4_forgetOldest ml_X4_32 (n1 := 1) rfl [] rfl rfl rfl dX4_push_10 rfl (fun M1 h => c_X4_forgetOldest _ _ _ _ h) (fun M2 => ?_)
    exact L_X4_push_13 X Y _ _ _
theorem c_X4_push (l : Launch) (x0 : Nat) (x1 : Nat) (M : MM) (M1 : MM) (h : f_X4_push x0 x1 M = some M1) : KV l yX4_push cX4_push 2 none (RM 2 0 0) false 4 x0 [.ref x1] M none M1 := by
  obtain ⟨hO, h2⟩ := iteO_some h
  exact ⟨hO, ct_of (tr := trV) (by decide) (Nat.le_of_ble_eq_true rfl) [(0, .ref x0), (1, .ref x1)] rfl h2 (fun G X Y hn hl => L_X4_push_0 X Y x0 x1 M)⟩

def f_X4_pop_0 (x0 : Nat) (x1 : Nat) (M : MM) : Option (Int32 × MM) :=
    b1 (gI 4 4 x0 M) fun v1 =>
    if 0 < v1 then
      b1 (gI 4 4 x0 M) fun v2 =>
      b1 (pI 4 4 x0 (v2 - (1 : Int32)) M) fun M3 =>
      b1 (gR 4 0 x0 M3) fun v4 =>
      b1 (gI 4 4 x0 M3) fun v5 =>
      b1 (ldR 24 v4 v5 M3) fun v6 =>
      b1 (f_X5_copy x1 v6 M3) fun M7 =>
      rz (1 : Int32) M7
    else
      rz (0 : Int32) M

def f_X4_pop (x0 : Nat) (x1 : Nat) (M : MM) : Option (Int32 × MM) := if isO 4 x0 M = true then f_X4_pop_0 x0 x1 M else none
set_option maxRecDepth 4000 in
theorem L_X4_pop_0 {G : Gx} (X : Cb G cX4_pop 2 RX4 (RM 2 0 0) false) (Y : Cr G (some .boolean) 0 0) (x0 : Nat) (x1 : Nat) (M : MM) : V G trI 2 0 0 0 [(0, .ref x0), (1, .ref x1)] [] M (f_X4_pop_0 x0 x1 M) := by
  unfold f_X4_pop_0
  refine v_aload_n X 1 0 dX4_pop_0 rfl rfl ?_
  refine v_getI X 4 fl_X4_28.r dX4_pop_1 rfl (fun v1 => ?_)
  refine v_ifgt X 7 9 dX4_pop_4 rfl rfl ?_ ?_
  · refine v_aload_n X 10 0 dX4_pop_9 rfl rfl ?_
    refine v_dup X 11 dX4_pop_10 rfl rfl ?_
    refine v_getI X 14 fl_X4_28.r dX4_pop_11 rfl (fun v2 => ?_)
    refine v_iconst X 15 dX4_pop_14 ik_1 rfl ?_
    refine v_isub X 16 dX4_pop_15 rfl ?_
    refine v_putI X 19 fl_X4_28 nof dX4_pop_16 rfl (fun M3 => ?_)
    refine v_aload_n X 20 1 dX4_pop_19 rfl rfl ?_
    refine v_aload_n X 21 0 dX4_pop_20 rfl rfl ?_
    refine v_getR X 24 fl_X4_13.r dX4_pop_21 rfl (fun v4 => ?_)
    refine v_aload_n X 25 0 dX4_pop_24 rfl rfl ?_
    refine v_getI X 28 fl_X4_28.r dX4_pop_25 rfl (fun v5 => ?_)
    refine v_aald24 X 29 dX4_pop_28 rfl (fun v6 => ?_)
    refine v_vV X 32 cv_X5_copy ml_X4_35 (n1 := 1) rfl [.ref v6] rfl rfl rfl dX4_pop_29 rfl (fun M1 h => c_X5_copy _ _ _ _ _ h) (fun M7 => ?_)
    refine v_iconst X 33 dX4_pop_32 ik_1 rfl ?_
    exact v_zret X Y (Nat.le_refl _) (Nat.le_refl _) dX4_pop_33
  · refine v_iconst X 8 dX4_pop_7 ik_0 rfl ?_
    exact v_zret X Y (Nat.le_refl _) (Nat.le_refl _) dX4_pop_8
theorem c_X4_pop (l : Launch) (x0 : Nat) (x1 : Nat) (M : MM) (r : Int32) (M1 : MM) (h : f_X4_pop x0 x1 M = some (r, M1)) : KV l yX4_pop cX4_pop 2 (some .boolean) (RM 2 0 0) false 4 x0 [.ref x1] M (some (.int r)) M1 := by
  obtain ⟨hO, h2⟩ := iteO_some h
  exact ⟨hO, ct_of (tr := trI) (by decide) (Nat.le_of_ble_eq_true rfl) [(0, .ref x0), (1, .ref x1)] rfl h2 (fun G X Y hn hl => L_X4_pop_0 X Y x0 x1 M)⟩

def f_X4_drop_0 (x0 : Nat) (M : MM) : Option (MM) :=
    b1 (pI 4 4 x0 (0 : Int32) M) fun M1 =>
    some M1

def f_X4_drop (x0 : Nat) (M : MM) : Option (MM) := if isO 4 x0 M = true then f_X4_drop_0 x0 M else none
set_option maxRecDepth 4000 in
theorem L_X4_drop_0 {G : Gx} (X : Cb G cX4_drop 1 RX4 (RM 1 0 0) false) (Y : Cr G none 0 0) (x0 : Nat) (M : MM) : V G trV 1 0 0 0 [(0, .ref x0)] [] M (f_X4_drop_0 x0 M) := by
  unfold f_X4_drop_0
  refine v_aload_n X 1 0 dX4_drop_0 rfl rfl ?_
  refine v_iconst X 2 dX4_drop_1 ik_0 rfl ?_
  refine v_putI X 5 fl_X4_28 nof dX4_drop_2 rfl (fun M1 => ?_)
  exact v_vret X Y (Nat.le_refl _) (Nat.le_refl _) dX4_drop_5
theorem c_X4_drop (l : Launch) (x0 : Nat) (M : MM) (M1 : MM) (h : f_X4_drop x0 M = some M1) : KV l yX4_drop cX4_drop 1 none (RM 1 0 0) false 4 x0 [] M none M1 := by
  obtain ⟨hO, h2⟩ := iteO_some h
  exact ⟨hO, ct_of (tr := trV) (by decide) (Nat.le_of_ble_eq_true rfl) [(0, .ref x0)] rfl h2 (fun G X Y hn hl => L_X4_drop_0 X Y x0 M)⟩

def f_X4_store_0 (x0 : Nat) (x1 : Int32) (x2 : Nat) (x3 : Nat) (M : MM) : Option (Int32 × MM) :=
    if x1 < 0 then
      rz (0 : Int32) M
    else
      if x1 < (3 : Int32) then
        b1 (gR 4 1 x0 M) fun v1 =>
        b1 (ldR 24 v1 x1 M) fun v2 =>
        b1 (f_X5_copy v2 x2 M) fun M3 =>
        b1 (gR 4 2 x0 M3) fun v4 =>
        b1 (gI 9 7 x3 M3) fun v5 =>
        b1 (stI v4 x1 v5 M3) fun M6 =>
        b1 (gR 4 3 x0 M6) fun v7 =>
        b1 (gI 9 8 x3 M6) fun v8 =>
        b1 (stI v7 x1 v8 M6) fun M9 =>
        rz (1 : Int32) M9
      else
        rz (0 : Int32) M

def f_X4_store (x0 : Nat) (x1 : Int32) (x2 : Nat) (x3 : Nat) (M : MM) : Option (Int32 × MM) := if isO 4 x0 M = true then f_X4_store_0 x0 x1 x2 x3 M else none
set_option maxRecDepth 4000 in
theorem L_X4_store_0 {G : Gx} (X : Cb G cX4_store 4 RX4 (RM 2 0 0) false) (Y : Cr G (some .boolean) 0 0) (x0 : Nat) (x1 : Int32) (x2 : Nat) (x3 : Nat) (M : MM) : V G trI 4 0 0 0 [(0, .ref x0), (1, .int x1), (2, .ref x2), (3, .ref x3)] [] M (f_X4_store_0 x0 x1 x2 x3 M) := by
  unfold f_X4_store_0
  refine v_iload_n X 1 1 dX4_store_0 rfl rfl ?_
  refine v_iflt X 4 9 dX4_store_1 rfl rfl ?_ ?_
  · refine v_iconst X 10 dX4_store_9 ik_0 rfl ?_
    exact v_zret X Y (Nat.le_refl _) (Nat.le_refl _) dX4_store_10
  · refine v_iload_n X 5 1 dX4_store_4 rfl rfl ?_
    refine v_iconst X 6 dX4_store_5 ik_3 rfl ?_
    refine v_iclt X 9 11 dX4_store_6 rfl rfl ?_ ?_
    · refine v_aload_n X 12 0 dX4_store_11 rfl rfl ?_
      refine v_getR X 15 fl_X4_17.r dX4_store_12 rfl (fun v1 => ?_)
      refine v_iload_n X 16 1 dX4_store_15 rfl rfl ?_
      refine v_aald24 X 17 dX4_store_16 rfl (fun v2 => ?_)
      refine v_aload_n X 18 2 dX4_store_17 rfl rfl ?_
      refine v_vV X 21 cv_X5_copy ml_X4_35 (n1 := 1) rfl [.ref x2] rfl rfl rfl dX4_store_18 rfl (fun M1 h => c_X5_copy _ _ _ _ _ h) (fun M3 => ?_)
      refine v_aload_n X 22 0 dX4_store_21 rfl rfl ?_
      refine v_getR X 25 fl_X4_20.r dX4_store_22 rfl (fun v4 => ?_)
      refine v_iload_n X 26 1 dX4_store_25 rfl rfl ?_
      refine v_aload_n X 27 3 dX4_store_26 rfl rfl ?_
      refine v_getI X 30 fl_X4_39.r dX4_store_27 rfl (fun v5 => ?_)
      refine v_iast X 31 dX4_store_30 rfl (fun M6 => ?_)
      refine v_aload_n X 32 0 dX4_store_31 rfl rfl ?_
      refine v_getR X 35 fl_X4_24.r dX4_store_32 rfl (fun v7 => ?_)
      refine v_iload_n X 36 1 dX4_store_35 rfl rfl ?_
      refine v_aload_n X 37 3 dX4_store_36 rfl rfl ?_
      refine v_getI X 40 fl_X4_43.r dX4_store_37 rfl (fun v8 => ?_)
      refine v_iast X 41 dX4_store_40 rfl (fun M9 => ?_)
      refine v_iconst X 42 dX4_store_41 ik_1 rfl ?_
      exact v_zret X Y (Nat.le_refl _) (Nat.le_refl _) dX4_store_42
    · refine v_iconst X 10 dX4_store_9 ik_0 rfl ?_
      exact v_zret X Y (Nat.le_refl _) (Nat.le_refl _) dX4_store_10
theorem c_X4_store (l : Launch) (x0 : Nat) (x1 : Int32) (x2 : Nat) (x3 : Nat) (M : MM) (r : Int32) (M1 : MM) (h : f_X4_store x0 x1 x2 x3 M = some (r, M1)) : KV l yX4_store cX4_store 4 (some .boolean) (RM 2 0 0) false 4 x0 [.int x1, .ref x2, .ref x3] M (some (.int r)) M1 := by
  obtain ⟨hO, h2⟩ := iteO_some h
  exact ⟨hO, ct_of (tr := trI) (by decide) (Nat.le_of_ble_eq_true rfl) [(0, .ref x0), (1, .int x1), (2, .ref x2), (3, .ref x3)] rfl h2 (fun G X Y hn hl => L_X4_store_0 X Y x0 x1 x2 x3 M)⟩

def f_X4_fetch_0 (x0 : Nat) (x1 : Int32) (x2 : Nat) (x3 : Nat) (M : MM) : Option (Int32 × MM) :=
    if x1 < 0 then
      rz (0 : Int32) M
    else
      if (3 : Int32) ≤ x1 then
        rz (0 : Int32) M
      else
        b1 (gR 4 2 x0 M) fun v1 =>
        b1 (ldI v1 x1 M) fun v2 =>
        b1 (gI 9 7 x3 M) fun v3 =>
        if v2 = v3 then
          b1 (gR 4 3 x0 M) fun v4 =>
          b1 (ldI v4 x1 M) fun v5 =>
          b1 (gI 9 8 x3 M) fun v6 =>
          if v5 = v6 then
            b1 (gR 4 1 x0 M) fun v7 =>
            b1 (ldR 24 v7 x1 M) fun v8 =>
            b1 (f_X5_copy x2 v8 M) fun M9 =>
            rz (1 : Int32) M9
          else
            rz (0 : Int32) M
        else
          rz (0 : Int32) M

def f_X4_fetch (x0 : Nat) (x1 : Int32) (x2 : Nat) (x3 : Nat) (M : MM) : Option (Int32 × MM) := if isO 4 x0 M = true then f_X4_fetch_0 x0 x1 x2 x3 M else none
set_option maxRecDepth 4000 in
theorem L_X4_fetch_0 {G : Gx} (X : Cb G cX4_fetch 4 RX4 (RM 2 0 0) false) (Y : Cr G (some .boolean) 0 0) (x0 : Nat) (x1 : Int32) (x2 : Nat) (x3 : Nat) (M : MM) : V G trI 4 0 0 0 [(0, .ref x0), (1, .int x1), (2, .ref x2), (3, .ref x3)] [] M (f_X4_fetch_0 x0 x1 x2 x3 M) := by
  unfold f_X4_fetch_0
  refine v_iload_n X 1 1 dX4_fetch_0 rfl rfl ?_
  refine v_iflt X 4 35 dX4_fetch_1 rfl rfl ?_ ?_
  · refine v_iconst X 36 dX4_fetch_35 ik_0 rfl ?_
    exact v_zret X Y (Nat.le_refl _) (Nat.le_refl _) dX4_fetch_36
  · refine v_iload_n X 5 1 dX4_fetch_4 rfl rfl ?_
    refine v_iconst X 6 dX4_fetch_5 ik_3 rfl ?_
    refine v_icge X 9 35 dX4_fetch_6 rfl rfl ?_ ?_
    · refine v_iconst X 36 dX4_fetch_35 ik_0 rfl ?_
      exact v_zret X Y (Nat.le_refl _) (Nat.le_refl _) dX4_fetch_36
    · refine v_aload_n X 10 0 dX4_fetch_9 rfl rfl ?_
      refine v_getR X 13 fl_X4_20.r dX4_fetch_10 rfl (fun v1 => ?_)
      refine v_iload_n X 14 1 dX4_fetch_13 rfl rfl ?_
      refine v_iald X 15 dX4_fetch_14 rfl (fun v2 => ?_)
      refine v_aload_n X 16 3 dX4_fetch_15 rfl rfl ?_
      refine v_getI X 19 fl_X4_39.r dX4_fetch_16 rfl (fun v3 => ?_)
      refine v_icne X 22 35 dX4_fetch_19 rfl rfl ?_ ?_
      · refine v_iconst X 36 dX4_fetch_35 ik_0 rfl ?_
        exact v_zret X Y (Nat.le_refl _) (Nat.le_refl _) dX4_fetch_36
      · refine v_aload_n X 23 0 dX4_fetch_22 rfl rfl ?_
        refine v_getR X 26 fl_X4_24.r dX4_fetch_23 rfl (fun v4 => ?_)
        refine v_iload_n X 27 1 dX4_fetch_26 rfl rfl ?_
        refine v_iald X 28 dX4_fetch_27 rfl (fun v5 => ?_)
        refine v_aload_n X 29 3 dX4_fetch_28 rfl rfl ?_
        refine v_getI X 32 fl_X4_43.r dX4_fetch_29 rfl (fun v6 => ?_)
        refine v_iceq X 35 37 dX4_fetch_32 rfl rfl ?_ ?_
        · refine v_aload_n X 38 2 dX4_fetch_37 rfl rfl ?_
          refine v_aload_n X 39 0 dX4_fetch_38 rfl rfl ?_
          refine v_getR X 42 fl_X4_17.r dX4_fetch_39 rfl (fun v7 => ?_)
          refine v_iload_n X 43 1 dX4_fetch_42 rfl rfl ?_
          refine v_aald24 X 44 dX4_fetch_43 rfl (fun v8 => ?_)
          refine v_vV X 47 cv_X5_copy ml_X4_35 (n1 := 1) rfl [.ref v8] rfl rfl rfl dX4_fetch_44 rfl (fun M1 h => c_X5_copy _ _ _ _ _ h) (fun M9 => ?_)
          refine v_iconst X 48 dX4_fetch_47 ik_1 rfl ?_
          exact v_zret X Y (Nat.le_refl _) (Nat.le_refl _) dX4_fetch_48
        · refine v_iconst X 36 dX4_fetch_35 ik_0 rfl ?_
          exact v_zret X Y (Nat.le_refl _) (Nat.le_refl _) dX4_fetch_36
theorem c_X4_fetch (l : Launch) (x0 : Nat) (x1 : Int32) (x2 : Nat) (x3 : Nat) (M : MM) (r : Int32) (M1 : MM) (h : f_X4_fetch x0 x1 x2 x3 M = some (r, M1)) : KV l yX4_fetch cX4_fetch 4 (some .boolean) (RM 2 0 0) false 4 x0 [.int x1, .ref x2, .ref x3] M (some (.int r)) M1 := by
  obtain ⟨hO, h2⟩ := iteO_some h
  exact ⟨hO, ct_of (tr := trI) (by decide) (Nat.le_of_ble_eq_true rfl) [(0, .ref x0), (1, .int x1), (2, .ref x2), (3, .ref x3)] rfl h2 (fun G X Y hn hl => L_X4_fetch_0 X Y x0 x1 x2 x3 M)⟩

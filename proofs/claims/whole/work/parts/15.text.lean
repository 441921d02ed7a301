def f_X10_put_16 : Nat → Nat → Int32 → Int32 → MM → Option (Int32 × MM)
  | 0, _, _, _, _ => none
  | n + 1, x0, x1, x2, M =>
    if x2 < 0 then
      rz (1 : Int32) M
    else
      b1 (gR 10 0 x0 M) fun v1 =>
      b1 (gI 10 1 x0 M) fun v2 =>
      b1 (stI v1 v2 ((iush x1 x2) &&& (255 : Int32)) M) fun M3 =>
      b1 (gI 10 1 x0 M3) fun v4 =>
      b1 (pI 10 1 x0 (v4 + (1 : Int32)) M3) fun M5 =>
      bn (x2 + (-8) : Int32) fun y6 =>
      f_X10_put_16 n x0 x1 y6 M5

def f_X10_put_0 (x0 : Nat) (x1 : Int32) (M : MM) : Option (Int32 × MM) :=
    b1 (gI 10 1 x0 M) fun v1 =>
    if (v1 + (4 : Int32)) ≤ (80 : Int32) then
      f_X10_put_16 1024 x0 x1 (24 : Int32) M
    else
      rz (0 : Int32) M

def f_X10_put (x0 : Nat) (x1 : Int32) (M : MM) : Option (Int32 × MM) := if isO 10 x0 M = true then f_X10_put_0 x0 x1 M else none
set_option maxRecDepth 4000 in
theorem L_X10_put_16 {G : Gx} (X : Cb G cX10_put 3 RX10 (RM 1 0 0) false) (Y : Cr G (some .boolean) 0 0) : ∀ (n : Nat) (x0 : Nat) (x1 : Int32) (x2 : Int32) (M : MM), V G trI 3 0 0 16 [(0, .ref x0), (1, .int x1), (2, .int x2)] [] M (f_X10_put_16 n x0 x1 x2 M) := by
  intro n
  induction n with
  | zero => intro x0 x1 x2 M; rw [f_X10_put_16]; exact v_none
  | succ n ih =>
    intro x0 x1 x2 M
    rw [f_X10_put_16]
    refine v_iload_n X 17 2 dX10_put_16 rfl rfl ?_
    refine v_iflt X 20 52 dX10_put_17 rfl rfl ?_ ?_
    · refine v_iconst X 53 dX10_put_52 ik_1 rfl ?_
      exact v_zret X Y (Nat.le_refl _) (Nat.le_refl _) dX10_put_53
    · refine v_aload_n X 21 0 dX10_put_20 rfl rfl ?_
      refine v_getR X 24 fl_X10_11.r dX10_put_21 rfl (fun v1 => ?_)
      refine v_aload_n X 25 0 dX10_put_24 rfl rfl ?_
      refine v_getI X 28 fl_X10_15.r dX10_put_25 rfl (fun v2 => ?_)
      refine v_iload_n X 29 1 dX10_put_28 rfl rfl ?_
      refine v_iload_n X 30 2 dX10_put_29 rfl rfl ?_
      refine v_iushr X 31 dX10_put_30 rfl ?_
      refine v_sipush X 34 dX10_put_31 sk_255 rfl ?_
      refine v_iand X 35 dX10_put_34 rfl ?_
      refine v_iast X 36 dX10_put_35 rfl (fun M3 => ?_)
      refine v_aload_n X 37 0 dX10_put_36 rfl rfl ?_
      refine v_dup X 38 dX10_put_37 rfl rfl ?_
      refine v_getI X 41 fl_X10_15.r dX10_put_38 rfl (fun v4 => ?_)
      refine v_iconst X 42 dX10_put_41 ik_1 rfl ?_
      refine v_iadd X 43 dX10_put_42 rfl ?_
      refine v_putI X 46 fl_X10_15 nof dX10_put_43 rfl (fun M5 => ?_)
      refine v_iinc X 49 2 (fun z => [(0, .ref x0), (1, .int x1), (2, .int z)]) dX10_put_46 rfl ik_m8 (by decide) (fun _ => rfl) rfl (fun y6 => ?_)
      refine v_goto X 16 dX10_put_49 rfl ?_
      exact ih _ _ _ _
set_option maxRecDepth 4000 in
theorem L_X10_put_0 {G : Gx} (X : Cb G cX10_put 3 RX10 (RM 1 0 0) false) (Y : Cr G (some .boolean) 0 0) (x0 : Nat) (x1 : Int32) (M : MM) : V G trI 3 0 0 0 [(0, .ref x0), (1, .int x1)] [] M (f_X10_put_0 x0 x1 M) := by
  unfold f_X10_put_0
  refine v_aload_n X 1 0 dX10_put_0 rfl rfl ?_
  refine v_getI X 4 fl_X10_15.r dX10_put_1 rfl (fun v1 => ?_)
  refine v_iconst X 5 dX10_put_4 ik_4 rfl ?_
  refine v_iadd X 6 dX10_put_5 rfl ?_
  refine v_bipush X 8 dX10_put_6 bk_80 rfl ?_
  refine v_icle X 11 13 dX10_put_8 rfl rfl ?_ ?_
  · refine v_bipush X 15 dX10_put_13 bk_24 rfl ?_
    refine v_istore_n (lv' := [(0, .ref x0), (1, .int x1), (2, .int (24 : Int32))]) X 16 dX10_put_15 (by decide) rfl rfl ?_
    exact L_X10_put_16 X Y 1024 _ _ _ _
  · refine v_iconst X 12 dX10_put_11 ik_0 rfl ?_
    exact v_zret X Y (Nat.le_refl _) (Nat.le_refl _) dX10_put_12
theorem c_X10_put (l : Launch) (x0 : Nat) (x1 : Int32) (M : MM) (r : Int32) (M1 : MM) (h : f_X10_put x0 x1 M = some (r, M1)) : KV l yX10_put cX10_put 3 (some .boolean) (RM 1 0 0) false 10 x0 [.int x1] M (some (.int r)) M1 := by
  obtain ⟨hO, h2⟩ := iteO_some h
  exact ⟨hO, ct_of (tr := trI) (by decide) (Nat.le_of_ble_eq_true rfl) [(0, .ref x0), (1, .int x1)] rfl h2 (fun G X Y hn hl => L_X10_put_0 X Y x0 x1 M)⟩

def f_X10_cut_0 (x0 : Nat) (x1 : Int32) (M : MM) : Option (Int32 × MM) :=
    if x1 < 0 then
      rz (0 : Int32) M
    else
      b1 (gI 10 1 x0 M) fun v1 =>
      if x1 ≤ v1 then
        b1 (pI 10 1 x0 x1 M) fun M2 =>
        rz (1 : Int32) M2
      else
        rz (0 : Int32) M

def f_X10_cut (x0 : Nat) (x1 : Int32) (M : MM) : Option (Int32 × MM) := if isO 10 x0 M = true then f_X10_cut_0 x0 x1 M else none
set_option maxRecDepth 4000 in
theorem L_X10_cut_0 {G : Gx} (X : Cb G cX10_cut 2 RX10 (RM 1 0 0) false) (Y : Cr G (some .boolean) 0 0) (x0 : Nat) (x1 : Int32) (M : MM) : V G trI 2 0 0 0 [(0, .ref x0), (1, .int x1)] [] M (f_X10_cut_0 x0 x1 M) := by
  unfold f_X10_cut_0
  refine v_iload_n X 1 1 dX10_cut_0 rfl rfl ?_
  refine v_iflt X 4 12 dX10_cut_1 rfl rfl ?_ ?_
  · refine v_iconst X 13 dX10_cut_12 ik_0 rfl ?_
    exact v_zret X Y (Nat.le_refl _) (Nat.le_refl _) dX10_cut_13
  · refine v_iload_n X 5 1 dX10_cut_4 rfl rfl ?_
    refine v_aload_n X 6 0 dX10_cut_5 rfl rfl ?_
    refine v_getI X 9 fl_X10_15.r dX10_cut_6 rfl (fun v1 => ?_)
    refine v_icle X 12 14 dX10_cut_9 rfl rfl ?_ ?_
    · refine v_aload_n X 15 0 dX10_cut_14 rfl rfl ?_
      refine v_iload_n X 16 1 dX10_cut_15 rfl rfl ?_
      refine v_putI X 19 fl_X10_15 nof dX10_cut_16 rfl (fun M2 => ?_)
      refine v_iconst X 20 dX10_cut_19 ik_1 rfl ?_
      exact v_zret X Y (Nat.le_refl _) (Nat.le_refl _) dX10_cut_20
    · refine v_iconst X 13 dX10_cut_12 ik_0 rfl ?_
      exact v_zret X Y (Nat.le_refl _) (Nat.le_refl _) dX10_cut_13
theorem c_X10_cut (l : Launch) (x0 : Nat) (x1 : Int32) (M : MM) (r : Int32) (M1 : MM) (h : f_X10_cut x0 x1 M = some (r, M1)) : KV l yX10_cut cX10_cut 2 (some .boolean) (RM 1 0 0) false 10 x0 [.int x1] M (some (.int r)) M1 := by
  obtain ⟨hO, h2⟩ := iteO_some h
  exact ⟨hO, ct_of (tr := trI) (by decide) (Nat.le_of_ble_eq_true rfl) [(0, .ref x0), (1, .int x1)] rfl h2 (fun G X Y hn hl => L_X10_cut_0 X Y x0 x1 M)⟩

def f_X10_begin_0 (x0 : Nat) (x1 : Int32) (M : MM) : Option (MM) :=
    b1 (gI 10 1 x0 M) fun v1 =>
    b1 (pI 10 2 x0 v1 M) fun M2 =>
    b1 (pI 10 1 x0 (0 : Int32) M2) fun M3 =>
    b1 (gI 10 2 x0 M3) fun v4 =>
    b1 (pI 10 3 x0 (minI v4 x1) M3) fun M5 =>
    b1 (pI 10 4 x0 (0 : Int32) M5) fun M6 =>
    some M6

def f_X10_begin (x0 : Nat) (x1 : Int32) (M : MM) : Option (MM) := if isO 10 x0 M = true then f_X10_begin_0 x0 x1 M else none
set_option maxRecDepth 4000 in
theorem L_X10_begin_0 {G : Gx} (X : Cb G cX10_begin 2 RX10 (RM 2 0 0) false) (Y : Cr G none 0 0) (x0 : Nat) (x1 : Int32) (M : MM) : V G trV 2 0 0 0 [(0, .ref x0), (1, .int x1)] [] M (f_X10_begin_0 x0 x1 M) := by
  unfold f_X10_begin_0
  refine v_aload_n X 1 0 dX10_begin_0 rfl rfl ?_
  refine v_aload_n X 2 0 dX10_begin_1 rfl rfl ?_
  refine v_getI X 5 fl_X10_15.r dX10_begin_2 rfl (fun v1 => ?_)
  refine v_putI X 8 fl_X10_19 nof dX10_begin_5 rfl (fun M2 => ?_)
  refine v_aload_n X 9 0 dX10_begin_8 rfl rfl ?_
  refine v_iconst X 10 dX10_begin_9 ik_0 rfl ?_
  refine v_putI X 13 fl_X10_15 nof dX10_begin_10 rfl (fun M3 => ?_)
  refine v_aload_n X 14 0 dX10_begin_13 rfl rfl ?_
  refine v_aload_n X 15 0 dX10_begin_14 rfl rfl ?_
  refine v_getI X 18 fl_X10_19.r dX10_begin_15 rfl (fun v4 => ?_)
  refine v_iload_n X 19 1 dX10_begin_18 rfl rfl ?_
  refine v_min X 22 ml_X10_22 w_min (Nat.le_of_ble_eq_true rfl) (Nat.le_of_ble_eq_true rfl) (Nat.zero_le _) (Nat.zero_le _) dX10_begin_19 rfl ?_
  refine v_putI X 25 fl_X10_28 nof dX10_begin_22 rfl (fun M5 => ?_)
  refine v_aload_n X 26 0 dX10_begin_25 rfl rfl ?_
  refine v_iconst X 27 dX10_begin_26 ik_0 rfl ?_
  refine v_putI X 30 fl_X10_31 nof dX10_begin_27 rfl (fun M6 => ?_)
  exact v_vret X Y (Nat.le_refl _) (Nat.le_refl _) dX10_begin_30
theorem c_X10_begin (l : Launch) (x0 : Nat) (x1 : Int32) (M : MM) (M1 : MM) (h : f_X10_begin x0 x1 M = some M1) : KV l yX10_begin cX10_begin 2 none (RM 2 0 0) false 10 x0 [.int x1] M none M1 := by
  obtain ⟨hO, h2⟩ := iteO_some h
  exact ⟨hO, ct_of (tr := trV) (by decide) (Nat.le_of_ble_eq_true rfl) [(0, .ref x0), (1, .int x1)] rfl h2 (fun G X Y hn hl => L_X10_begin_0 X Y x0 x1 M)⟩

def f_X10_rewind_0 (x0 : Nat) (M : MM) : Option (MM) :=
    b1 (pI 10 4 x0 (0 : Int32) M) fun M1 =>
    some M1

def f_X10_rewind (x0 : Nat) (M : MM) : Option (MM) := if isO 10 x0 M = true then f_X10_rewind_0 x0 M else none
set_option maxRecDepth 4000 in
theorem L_X10_rewind_0 {G : Gx} (X : Cb G cX10_rewind 1 RX10 (RM 1 0 0) false) (Y : Cr G none 0 0) (x0 : Nat) (M : MM) : V G trV 1 0 0 0 [(0, .ref x0)] [] M (f_X10_rewind_0 x0 M) := by
  unfold f_X10_rewind_0
  refine v_aload_n X 1 0 dX10_rewind_0 rfl rfl ?_
  refine v_iconst X 2 dX10_rewind_1 ik_0 rfl ?_
  refine v_putI X 5 fl_X10_31 nof dX10_rewind_2 rfl (fun M1 => ?_)
  exact v_vret X Y (Nat.le_refl _) (Nat.le_refl _) dX10_rewind_5
theorem c_X10_rewind (l : Launch) (x0 : Nat) (M : MM) (M1 : MM) (h : f_X10_rewind x0 M = some M1) : KV l yX10_rewind cX10_rewind 1 none (RM 1 0 0) false 10 x0 [] M none M1 := by
  obtain ⟨hO, h2⟩ := iteO_some h
  exact ⟨hO, ct_of (tr := trV) (by decide) (Nat.le_of_ble_eq_true rfl) [(0, .ref x0)] rfl h2 (fun G X Y hn hl => L_X10_rewind_0 X Y x0 M)⟩

def f_X10_isEmpty_0 (x0 : Nat) (M : MM) : Option (Int32 × MM) :=
    b1 (gI 10 2 x0 M) fun v1 =>
    if v1 = 0 then
      rz (1 : Int32) M
    else
      rz (0 : Int32) M

def f_X10_isEmpty (x0 : Nat) (M : MM) : Option (Int32 × MM) := if isO 10 x0 M = true then f_X10_isEmpty_0 x0 M else none
set_option maxRecDepth 4000 in
theorem L_X10_isEmpty_0 {G : Gx} (X : Cb G cX10_isEmpty 1 RX10 (RM 1 0 0) false) (Y : Cr G (some .boolean) 0 0) (x0 : Nat) (M : MM) : V G trI 1 0 0 0 [(0, .ref x0)] [] M (f_X10_isEmpty_0 x0 M) := by
  unfold f_X10_isEmpty_0
  refine v_aload_n X 1 0 dX10_isEmpty_0 rfl rfl ?_
  refine v_getI X 4 fl_X10_19.r dX10_isEmpty_1 rfl (fun v1 => ?_)
  refine v_ifne X 7 11 dX10_isEmpty_4 rfl rfl ?_ ?_
  · refine v_iconst X 12 dX10_isEmpty_11 ik_0 rfl ?_
    exact v_zret X Y (Nat.le_refl _) (Nat.le_refl _) dX10_isEmpty_12
  · refine v_iconst X 8 dX10_isEmpty_7 ik_1 rfl ?_
    refine v_goto X 12 dX10_isEmpty_8 rfl ?_
    exact v_zret X Y (Nat.le_refl _) (Nat.le_refl _) dX10_isEmpty_12
theorem c_X10_isEmpty (l : Launch) (x0 : Nat) (M : MM) (r : Int32) (M1 : MM) (h : f_X10_isEmpty x0 M = some (r, M1)) : KV l yX10_isEmpty cX10_isEmpty 1 (some .boolean) (RM 1 0 0) false 10 x0 [] M (some (.int r)) M1 := by
  obtain ⟨hO, h2⟩ := iteO_some h
  exact ⟨hO, ct_of (tr := trI) (by decide) (Nat.le_of_ble_eq_true rfl) [(0, .ref x0)] rfl h2 (fun G X Y hn hl => L_X10_isEmpty_0 X Y x0 M)⟩

def f_X10_atEnd_0 (x0 : Nat) (M : MM) : Option (Int32 × MM) :=
    b1 (gI 10 4 x0 M) fun v1 =>
    b1 (gI 10 3 x0 M) fun v2 =>
    if v1 < v2 then
      rz (0 : Int32) M
    else
      rz (1 : Int32) M

def f_X10_atEnd (x0 : Nat) (M : MM) : Option (Int32 × MM) := if isO 10 x0 M = true then f_X10_atEnd_0 x0 M else none
set_option maxRecDepth 4000 in
theorem L_X10_atEnd_0 {G : Gx} (X : Cb G cX10_atEnd 1 RX10 (RM 1 0 0) false) (Y : Cr G (some .boolean) 0 0) (x0 : Nat) (M : MM) : V G trI 1 0 0 0 [(0, .ref x0)] [] M (f_X10_atEnd_0 x0 M) := by
  unfold f_X10_atEnd_0
  refine v_aload_n X 1 0 dX10_atEnd_0 rfl rfl ?_
  refine v_getI X 4 fl_X10_31.r dX10_atEnd_1 rfl (fun v1 => ?_)
  refine v_aload_n X 5 0 dX10_atEnd_4 rfl rfl ?_
  refine v_getI X 8 fl_X10_28.r dX10_atEnd_5 rfl (fun v2 => ?_)
  refine v_iclt X 11 15 dX10_atEnd_8 rfl rfl ?_ ?_
  · refine v_iconst X 16 dX10_atEnd_15 ik_0 rfl ?_
    exact v_zret X Y (Nat.le_refl _) (Nat.le_refl _) dX10_atEnd_16
  · refine v_iconst X 12 dX10_atEnd_11 ik_1 rfl ?_
    refine v_goto X 16 dX10_atEnd_12 rfl ?_
    exact v_zret X Y (Nat.le_refl _) (Nat.le_refl _) dX10_atEnd_16
theorem c_X10_atEnd (l : Launch) (x0 : Nat) (M : MM) (r : Int32) (M1 : MM) (h : f_X10_atEnd x0 M = some (r, M1)) : KV l yX10_atEnd cX10_atEnd 1 (some .boolean) (RM 1 0 0) false 10 x0 [] M (some (.int r)) M1 := by
  obtain ⟨hO, h2⟩ := iteO_some h
  exact ⟨hO, ct_of (tr := trI) (by decide) (Nat.le_of_ble_eq_true rfl) [(0, .ref x0)] rfl h2 (fun G X Y hn hl => L_X10_atEnd_0 X Y x0 M)⟩

def f_X10_hasMore_0 (x0 : Nat) (M : MM) : Option (Int32 × MM) :=
    b1 (gI 10 2 x0 M) fun v1 =>
    b1 (gI 10 3 x0 M) fun v2 =>
    if v1 ≤ v2 then
      rz (0 : Int32) M
    else
      rz (1 : Int32) M

def f_X10_hasMore (x0 : Nat) (M : MM) : Option (Int32 × MM) := if isO 10 x0 M = true then f_X10_hasMore_0 x0 M else none
set_option maxRecDepth 4000 in
theorem L_X10_hasMore_0 {G : Gx} (X : Cb G cX10_hasMore 1 RX10 (RM 1 0 0) false) (Y : Cr G (some .boolean) 0 0) (x0 : Nat) (M : MM) : V G trI 1 0 0 0 [(0, .ref x0)] [] M (f_X10_hasMore_0 x0 M) := by
  unfold f_X10_hasMore_0
  refine v_aload_n X 1 0 dX10_hasMore_0 rfl rfl ?_
  refine v_getI X 4 fl_X10_19.r dX10_hasMore_1 rfl (fun v1 => ?_)
  refine v_aload_n X 5 0 dX10_hasMore_4 rfl rfl ?_
  refine v_getI X 8 fl_X10_28.r dX10_hasMore_5 rfl (fun v2 => ?_)
  refine v_icle X 11 15 dX10_hasMore_8 rfl rfl ?_ ?_
  · refine v_iconst X 16 dX10_hasMore_15 ik_0 rfl ?_
    exact v_zret X Y (Nat.le_refl _) (Nat.le_refl _) dX10_hasMore_16
  · refine v_iconst X 12 dX10_hasMore_11 ik_1 rfl ?_
    refine v_goto X 16 dX10_hasMore_12 rfl ?_
    exact v_zret X Y (Nat.le_refl _) (Nat.le_refl _) dX10_hasMore_16
theorem c_X10_hasMore (l : Launch) (x0 : Nat) (M : MM) (r : Int32) (M1 : MM) (h : f_X10_hasMore x0 M = some (r, M1)) : KV l yX10_hasMore cX10_hasMore 1 (some .boolean) (RM 1 0 0) false 10 x0 [] M (some (.int r)) M1 := by
  obtain ⟨hO, h2⟩ := iteO_some h
  exact ⟨hO, ct_of (tr := trI) (by decide) (Nat.le_of_ble_eq_true rfl) [(0, .ref x0)] rfl h2 (fun G X Y hn hl => L_X10_hasMore_0 X Y x0 M)⟩

def f_X10_refusal_0 (x0 : Nat) (M : MM) : Option (Int32 × MM) :=
    b1 (gI 10 4 x0 M) fun v1 =>
    some ((-1 : Int32) - v1, M)

def f_X10_refusal (x0 : Nat) (M : MM) : Option (Int32 × MM) := if isO 10 x0 M = true then f_X10_refusal_0 x0 M else none
set_option maxRecDepth 4000 in
theorem L_X10_refusal_0 {G : Gx} (X : Cb G cX10_refusal 1 RX10 (RM 1 0 0) false) (Y : Cr G (some .int) 0 0) (x0 : Nat) (M : MM) : V G trI 1 0 0 0 [(0, .ref x0)] [] M (f_X10_refusal_0 x0 M) := by
  unfold f_X10_refusal_0
  refine v_iconst X 1 dX10_refusal_0 ik_m1 rfl ?_
  refine v_aload_n X 2 0 dX10_refusal_1 rfl rfl ?_
  refine v_getI X 5 fl_X10_31.r dX10_refusal_2 rfl (fun v1 => ?_)
  refine v_isub X 6 dX10_refusal_5 rfl ?_
  exact v_iret X Y (Nat.le_refl _) (Nat.le_refl _) dX10_refusal_6
theorem c_X10_refusal (l : Launch) (x0 : Nat) (M : MM) (r : Int32) (M1 : MM) (h : f_X10_refusal x0 M = some (r, M1)) : KV l yX10_refusal cX10_refusal 1 (some .int) (RM 1 0 0) false 10 x0 [] M (some (.int r)) M1 := by
  obtain ⟨hO, h2⟩ := iteO_some h
  exact ⟨hO, ct_of (tr := trI) (by decide) (Nat.le_of_ble_eq_true rfl) [(0, .ref x0)] rfl h2 (fun G X Y hn hl => L_X10_refusal_0 X Y x0 M)⟩

def f_X10_peek_0 (x0 : Nat) (M : MM) : Option (Int32 × MM) :=
    b1 (gI 10 4 x0 M) fun v1 =>
    if v1 < 0 then
      some ((-1 : Int32), M)
    else
      b1 (gI 10 4 x0 M) fun v2 =>
      b1 (gI 10 3 x0 M) fun v3 =>
      if v3 ≤ v2 then
        some ((-1 : Int32), M)
      else
        b1 (gR 10 0 x0 M) fun v4 =>
        b1 (gI 10 4 x0 M) fun v5 =>
        b1 (ldI v4 v5 M) fun v6 =>
        some (v6, M)

def f_X10_peek (x0 : Nat) (M : MM) : Option (Int32 × MM) := if isO 10 x0 M = true then f_X10_peek_0 x0 M else none
set_option maxRecDepth 4000 in
theorem L_X10_peek_0 {G : Gx} (X : Cb G cX10_peek 1 RX10 (RM 1 0 0) false) (Y : Cr G (some .int) 0 0) (x0 : Nat) (M : MM) : V G trI 1 0 0 0 [(0, .ref x0)] [] M (f_X10_peek_0 x0 M) := by
  unfold f_X10_peek_0
  refine v_aload_n X 1 0 dX10_peek_0 rfl rfl ?_
  refine v_getI X 4 fl_X10_31.r dX10_peek_1 rfl (fun v1 => ?_)
  refine v_iflt X 7 30 dX10_peek_4 rfl rfl ?_ ?_
  · refine v_iconst X 31 dX10_peek_30 ik_m1 rfl ?_
    exact v_iret X Y (Nat.le_refl _) (Nat.le_refl _) dX10_peek_31
  · refine v_aload_n X 8 0 dX10_peek_7 rfl rfl ?_
    refine v_getI X 11 fl_X10_31.r dX10_peek_8 rfl (fun v2 => ?_)
    refine v_aload_n X 12 0 dX10_peek_11 rfl rfl ?_
    refine v_getI X 15 fl_X10_28.r dX10_peek_12 rfl (fun v3 => ?_)
    refine v_icge X 18 30 dX10_peek_15 rfl rfl ?_ ?_
    · refine v_iconst X 31 dX10_peek_30 ik_m1 rfl ?_
      exact v_iret X Y (Nat.le_refl _) (Nat.le_refl _) dX10_peek_31
    · refine v_aload_n X 19 0 dX10_peek_18 rfl rfl ?_
      refine v_getR X 22 fl_X10_11.r dX10_peek_19 rfl (fun v4 => ?_)
      refine v_aload_n X 23 0 dX10_peek_22 rfl rfl ?_
      refine v_getI X 26 fl_X10_31.r dX10_peek_23 rfl (fun v5 => ?_)
      refine v_iald X 27 dX10_peek_26 rfl (fun v6 => ?_)
      refine v_goto X 31 dX10_peek_27 rfl ?_
      exact v_iret X Y (Nat.le_refl _) (Nat.le_refl _) dX10_peek_31
theorem c_X10_peek (l : Launch) (x0 : Nat) (M : MM) (r : Int32) (M1 : MM) (h : f_X10_peek x0 M = some (r, M1)) : KV l yX10_peek cX10_peek 1 (some .int) (RM 1 0 0) false 10 x0 [] M (some (.int r)) M1 := by
  obtain ⟨hO, h2⟩ := iteO_some h
  exact ⟨hO, ct_of (tr := trI) (by decide) (Nat.le_of_ble_eq_true rfl) [(0, .ref x0)] rfl h2 (fun G X Y hn hl => L_X10_peek_0 X Y x0 M)⟩

def f_X10_skip_0 (x0 : Nat) (M : MM) : Option (MM) :=
    b1 (gI 10 4 x0 M) fun v1 =>
    b1 (gI 10 4 x0 M) fun v2 =>
    b1 (gI 10 3 x0 M) fun v3 =>
    if v3 ≤ v2 then
      b1 (pI 10 4 x0 (v1 + (0 : Int32)) M) fun M4 =>
      some M4
    else
      b1 (pI 10 4 x0 (v1 + (1 : Int32)) M) fun M5 =>
      some M5

def f_X10_skip (x0 : Nat) (M : MM) : Option (MM) := if isO 10 x0 M = true then f_X10_skip_0 x0 M else none
set_option maxRecDepth 4000 in
theorem L_X10_skip_0 {G : Gx} (X : Cb G cX10_skip 1 RX10 (RM 1 0 0) false) (Y : Cr G none 0 0) (x0 : Nat) (M : MM) : V G trV 1 0 0 0 [(0, .ref x0)] [] M (f_X10_skip_0 x0 M) := by
  unfold f_X10_skip_0
  refine v_aload_n X 1 0 dX10_skip_0 rfl rfl ?_
  refine v_dup X 2 dX10_skip_1 rfl rfl ?_
  refine v_getI X 5 fl_X10_31.r dX10_skip_2 rfl (fun v1 => ?_)
  refine v_aload_n X 6 0 dX10_skip_5 rfl rfl ?_
  refine v_getI X 9 fl_X10_31.r dX10_skip_6 rfl (fun v2 => ?_)
  refine v_aload_n X 10 0 dX10_skip_9 rfl rfl ?_
  refine v_getI X 13 fl_X10_28.r dX10_skip_10 rfl (fun v3 => ?_)
  refine v_icge X 16 20 dX10_skip_13 rfl rfl ?_ ?_
  · refine v_iconst X 21 dX10_skip_20 ik_0 rfl ?_
    refine v_iadd X 22 dX10_skip_21 rfl ?_
    refine v_putI X 25 fl_X10_31 nof dX10_skip_22 rfl (fun M4 => ?_)
    exact v_vret X Y (Nat.le_refl _) (Nat.le_refl _) dX10_skip_25
  · refine v_iconst X 17 dX10_skip_16 ik_1 rfl ?_
    refine v_goto X 21 dX10_skip_17 rfl ?_
    refine v_iadd X 22 dX10_skip_21 rfl ?_
    refine v_putI X 25 fl_X10_31 nof dX10_skip_22 rfl (fun M5 => ?_)
    exact v_vret X Y (Nat.le_refl _) (Nat.le_refl _) dX10_skip_25
theorem c_X10_skip (l : Launch) (x0 : Nat) (M : MM) (M1 : MM) (h : f_X10_skip x0 M = some M1) : KV l yX10_skip cX10_skip 1 none (RM 1 0 0) false 10 x0 [] M none M1 := by
  obtain ⟨hO, h2⟩ := iteO_some h
  exact ⟨hO, ct_of (tr := trV) (by decide) (Nat.le_of_ble_eq_true rfl) [(0, .ref x0)] rfl h2 (fun G X Y hn hl => L_X10_skip_0 X Y x0 M)⟩

def f_X10_stepBack_0 (x0 : Nat) (M : MM) : Option (MM) :=
    b1 (gI 10 4 x0 M) fun v1 =>
    b1 (gI 10 4 x0 M) fun v2 =>
    if v2 ≤ 0 then
      b1 (pI 10 4 x0 (v1 - (0 : Int32)) M) fun M3 =>
      some M3
    else
      b1 (pI 10 4 x0 (v1 - (1 : Int32)) M) fun M4 =>
      some M4

def f_X10_stepBack (x0 : Nat) (M : MM) : Option (MM) := if isO 10 x0 M = true then f_X10_stepBack_0 x0 M else none
set_option maxRecDepth 4000 in
theorem L_X10_stepBack_0 {G : Gx} (X : Cb G cX10_stepBack 1 RX10 (RM 1 0 0) false) (Y : Cr G none 0 0) (x0 : Nat) (M : MM) : V G trV 1 0 0 0 [(0, .ref x0)] [] M (f_X10_stepBack_0 x0 M) := by
  unfold f_X10_stepBack_0
  refine v_aload_n X 1 0 dX10_stepBack_0 rfl rfl ?_
  refine v_dup X 2 dX10_stepBack_1 rfl rfl ?_
  refine v_getI X 5 fl_X10_31.r dX10_stepBack_2 rfl (fun v1 => ?_)
  refine v_aload_n X 6 0 dX10_stepBack_5 rfl rfl ?_
  refine v_getI X 9 fl_X10_31.r dX10_stepBack_6 rfl (fun v2 => ?_)
  refine v_ifle X 12 16 dX10_stepBack_9 rfl rfl ?_ ?_
  · refine v_iconst X 17 dX10_stepBack_16 ik_0 rfl ?_
    refine v_isub X 18 dX10_stepBack_17 rfl ?_
    refine v_putI X 21 fl_X10_31 nof dX10_stepBack_18 rfl (fun M3 => ?_)
    exact v_vret X Y (Nat.le_refl _) (Nat.le_refl _) dX10_stepBack_21
  · refine v_iconst X 13 dX10_stepBack_12 ik_1 rfl ?_
    refine v_goto X 17 dX10_stepBack_13 rfl ?_
    refine v_isub X 18 dX10_stepBack_17 rfl ?_
    refine v_putI X 21 fl_X10_31 nof dX10_stepBack_18 rfl (fun M4 => ?_)
    exact v_vret X Y (Nat.le_refl _) (Nat.le_refl _) dX10_stepBack_21
theorem c_X10_stepBack (l : Launch) (x0 : Nat) (M : MM) (M1 : MM) (h : f_X10_stepBack x0 M = some M1) : KV l yX10_stepBack cX10_stepBack 1 none (RM 1 0 0) false 10 x0 [] M none M1 := by
  obtain ⟨hO, h2⟩ := iteO_some h
  exact ⟨hO, ct_of (tr := trV) (by decide) (Nat.le_of_ble_eq_true rfl) [(0, .ref x0)] rfl h2 (fun G X Y hn hl => L_X10_stepBack_0 X Y x0 M)⟩

def f_X10_take_0 (x0 : Nat) (x1 : Int32) (M : MM) : Option (Int32 × MM) :=
    b2 (f_X10_peek x0 M) fun r2 M1 =>
    if r2 = x1 then
      b1 (f_X10_skip x0 M1) fun M3 =>
      rz (1 : Int32) M3
    else
      rz (0 : Int32) M1

def f_X10_take (x0 : Nat) (x1 : Int32) (M : MM) : Option (Int32 × MM) := if isO 10 x0 M = true then f_X10_take_0 x0 x1 M else none
set_option maxRecDepth 4000 in
theorem L_X10_take_0 {G : Gx} (X : Cb G cX10_take 2 RX10 (RM 2 0 0) false) (Y : Cr G (some .boolean) 0 0) (x0 : Nat) (x1 : Int32) (M : MM) : V G trI 2 0 0 0 [(0, .ref x0), (1, .int x1)] [] M (f_X10_take_0 x0 x1 M) := by
  unfold f_X10_take_0
  refine v_aload_n X 1 0 dX10_take_0 rfl rfl ?_
  refine v_vI X 4 cv_X10_peek ml_X10_34 (n1 := 1) rfl [] rfl rfl rfl dX10_take_1 rfl (fun r M1 h => c_X10_peek _ _ _ _ _ h) (fun r2 M1 => ?_)
  refine v_iload_n X 5 1 dX10_take_4 rfl rfl ?_
  refine v_iceq X 8 10 dX10_take_5 rfl rfl ?_ ?_
  · refine v_aload_n X 11 0 dX10_take_10 rfl rfl ?_
    refine v_vV X 14 cv_X10_skip ml_X10_38 (n1 := 1) rfl [] rfl rfl rfl dX10_take_11 rfl (fun M1 h => c_X10_skip _ _ _ _ h) (fun M3 => ?_)
    refine v_iconst X 15 dX10_take_14 ik_1 rfl ?_
    exact v_zret X Y (Nat.le_refl _) (Nat.le_refl _) dX10_take_15
  · refine v_iconst X 9 dX10_take_8 ik_0 rfl ?_
    exact v_zret X Y (Nat.le_refl _) (Nat.le_refl _) dX10_take_9
theorem c_X10_take (l : Launch) (x0 : Nat) (x1 : Int32) (M : MM) (r : Int32) (M1 : MM) (h : f_X10_take x0 x1 M = some (r, M1)) : KV l yX10_take cX10_take 2 (some .boolean) (RM 2 0 0) false 10 x0 [.int x1] M (some (.int r)) M1 := by
  obtain ⟨hO, h2⟩ := iteO_some h
  exact ⟨hO, ct_of (tr := trI) (by decide) (Nat.le_of_ble_eq_true rfl) [(0, .ref x0), (1, .int x1)] rfl h2 (fun G X Y hn hl => L_X10_take_0 X Y x0 x1 M)⟩

def f_X10_digit_34 (x0 : Nat) (x1 : Int32) (s0 : Int32) (M : MM) : Option (Int32 × MM) :=
    if s0 < x1 then
      some ((-1 : Int32), M)
    else
      if s0 ≤ (9 : Int32) then
        b1 (gI 10 4 x0 M) fun v1 =>
        b1 (pI 10 4 x0 (v1 + (1 : Int32)) M) fun M2 =>
        some (s0, M2)
      else
        some ((-1 : Int32), M)

def f_X10_digit_33 (x0 : Nat) (x1 : Int32) (M : MM) : Option (Int32 × MM) :=
    f_X10_digit_34 x0 x1 (-1 : Int32) M

def f_X10_digit_0 (x0 : Nat) (x1 : Int32) (M : MM) : Option (Int32 × MM) :=
    b1 (gI 10 4 x0 M) fun v1 =>
    if v1 < 0 then
      f_X10_digit_33 x0 x1 M
    else
      b1 (gI 10 4 x0 M) fun v2 =>
      b1 (gI 10 3 x0 M) fun v3 =>
      if v3 ≤ v2 then
        f_X10_digit_33 x0 x1 M
      else
        b1 (gR 10 0 x0 M) fun v4 =>
        b1 (gI 10 4 x0 M) fun v5 =>
        b1 (ldI v4 v5 M) fun v6 =>
        f_X10_digit_34 x0 x1 (v6 - (48 : Int32)) M

def f_X10_digit (x0 : Nat) (x1 : Int32) (M : MM) : Option (Int32 × MM) := if isO 10 x0 M = true then f_X10_digit_0 x0 x1 M else none
set_option maxRecDepth 4000 in
theorem L_X10_digit_34 {G : Gx} (X : Cb G cX10_digit 3 RX10 (RM 1 0 0) false) (Y : Cr G (some .int) 0 0) (x0 : Nat) (x1 : Int32) (s0 : Int32) (M : MM) : V G trI 3 0 0 34 [(0, .ref x0), (1, .int x1)] [.int s0] M (f_X10_digit_34 x0 x1 s0 M) := by
  unfold f_X10_digit_34
  refine v_istore_n (lv' := [(0, .ref x0), (1, .int x1), (2, .int s0)]) X 35 dX10_digit_34 (by decide) rfl rfl ?_
  refine v_iload_n X 36 2 dX10_digit_35 rfl rfl ?_
  refine v_iload_n X 37 1 dX10_digit_36 rfl rfl ?_
  refine v_iclt X 40 46 dX10_digit_37 rfl rfl ?_ ?_
  · refine v_iconst X 47 dX10_digit_46 ik_m1 rfl ?_
    exact v_iret X Y (Nat.le_refl _) (Nat.le_refl _) dX10_digit_47
  · refine v_iload_n X 41 2 dX10_digit_40 rfl rfl ?_
    refine v_bipush X 43 dX10_digit_41 bk_9 rfl ?_
    refine v_icle X 46 48 dX10_digit_43 rfl rfl ?_ ?_
    · refine v_aload_n X 49 0 dX10_digit_48 rfl rfl ?_
      refine v_dup X 50 dX10_digit_49 rfl rfl ?_
      refine v_getI X 53 fl_X10_31.r dX10_digit_50 rfl (fun v1 => ?_)
      refine v_iconst X 54 dX10_digit_53 ik_1 rfl ?_
      refine v_iadd X 55 dX10_digit_54 rfl ?_
      refine v_putI X 58 fl_X10_31 nof dX10_digit_55 rfl (fun M2 => ?_)
      refine v_iload_n X 59 2 dX10_digit_58 rfl rfl ?_
      exact v_iret X Y (Nat.le_refl _) (Nat.le_refl _) dX10_digit_59
    · refine v_iconst X 47 dX10_digit_46 ik_m1 rfl ?_
      exact v_iret X Y (Nat.le_refl _) (Nat.le_refl _) dX10_digit_47
set_option maxRecDepth 4000 in
theorem L_X10_digit_33 {G : Gx} (X : Cb G cX10_digit 3 RX10 (RM 1 0 0) false) (Y : Cr G (some .int) 0 0) (x0 : Nat) (x1 : Int32) (M : MM) : V G trI 3 0 0 33 [(0, .ref x0), (1, .int x1)] [] M (f_X10_digit_33 x0 x1 M) := by
  unfold f_X10_digit_33
  refine v_iconst X 34 dX10_digit_33 ik_m1 rfl ?_
  exact L_X10_digit_34 X Y _ _ _ _
set_option maxRecDepth 4000 in
theorem L_X10_digit_0 {G : Gx} (X : Cb G cX10_digit 3 RX10 (RM 1 0 0) false) (Y : Cr G (some .int) 0 0) (x0 : Nat) (x1 : Int32) (M : MM) : V G trI 3 0 0 0 [(0, .ref x0), (1, .int x1)] [] M (f_X10_digit_0 x0 x1 M) := by
  unfold f_X10_digit_0
  refine v_aload_n X 1 0 dX10_digit_0 rfl rfl ?_
  refine v_getI X 4 fl_X10_31.r dX10_digit_1 rfl (fun v1 => ?_)
  refine v_iflt X 7 33 dX10_digit_4 rfl rfl ?_ ?_
  · exact L_X10_digit_33 X Y _ _ _
  · refine v_aload_n X 8 0 dX10_digit_7 rfl rfl ?_
    refine v_getI X 11 fl_X10_31.r dX10_digit_8 rfl (fun v2 => ?_)
    refine v_aload_n X 12 0 dX10_digit_11 rfl rfl ?_
    refine v_getI X 15 fl_X10_28.r dX10_digit_12 rfl (fun v3 => ?_)
    refine v_icge X 18 33 dX10_digit_15 rfl rfl ?_ ?_
    · exact L_X10_digit_33 X Y _ _ _
    · refine v_aload_n X 19 0 dX10_digit_18 rfl rfl ?_
      refine v_getR X 22 fl_X10_11.r dX10_digit_19 rfl (fun v4 => ?_)
      refine v_aload_n X 23 0 dX10_digit_22 rfl rfl ?_
      refine v_getI X 26 fl_X10_31.r dX10_digit_23 rfl (fun v5 => ?_)
      refine v_iald X 27 dX10_digit_26 rfl (fun v6 => ?_)
      refine v_bipush X 29 dX10_digit_27 bk_48 rfl ?_
      refine v_isub X 30 dX10_digit_29 rfl ?_
      refine v_goto X 34 dX10_digit_30 rfl ?_
      exact L_X10_digit_34 X Y _ _ _ _
theorem c_X10_digit (l : Launch) (x0 : Nat) (x1 : Int32) (M : MM) (r : Int32) (M1 : MM) (h : f_X10_digit x0 x1 M = some (r, M1)) : KV l yX10_digit cX10_digit 3 (some .int) (RM 1 0 0) false 10 x0 [.int x1] M (some (.int r)) M1 := by
  obtain ⟨hO, h2⟩ := iteO_some h
  exact ⟨hO, ct_of (tr := trI) (by decide) (Nat.le_of_ble_eq_true rfl) [(0, .ref x0), (1, .int x1)] rfl h2 (fun G X Y hn hl => L_X10_digit_0 X Y x0 x1 M)⟩

def f_X10_number_8 : Nat → Nat → Int32 → Int32 → Int32 → MM → Option (Int32 × MM)
  | 0, _, _, _, _, _ => none
  | n + 1, x0, x1, x2, x3, M =>
    if x1 ≤ x3 then
      some (x2, M)
    else
      if x2 < 0 then
        some (x2, M)
      else
        b2 (f_X10_digit x0 (0 : Int32) M) fun r2 M1 =>
        if 0 ≤ r2 then
          bn (((10 : Int32) * x2) + r2 : Int32) fun y3 =>
          bn (x3 + 1 : Int32) fun y4 =>
          f_X10_number_8 n x0 x1 y3 y4 M1
        else
          some (x2, M1)

def f_X10_number_0 (x0 : Nat) (x1 : Int32) (M : MM) : Option (Int32 × MM) :=
    b2 (f_X10_digit x0 (0 : Int32) M) fun r2 M1 =>
    f_X10_number_8 1024 x0 x1 r2 (1 : Int32) M1

def f_X10_number (x0 : Nat) (x1 : Int32) (M : MM) : Option (Int32 × MM) := if isO 10 x0 M = true then f_X10_number_0 x0 x1 M else none
set_option maxRecDepth 4000 in
theorem L_X10_number_8 {G : Gx} (X : Cb G cX10_number 5 RX10 (RM 2 0 0) false) (Y : Cr G (some .int) 0 0) : ∀ (n : Nat) (x0 : Nat) (x1 : Int32) (x2 : Int32) (x3 : Int32) (M : MM), V G trI 5 0 0 8 [(0, .ref x0), (1, .int x1), (2, .int x2), (3, .int x3)] [] M (f_X10_number_8 n x0 x1 x2 x3 M) := by
  intro n
  induction n with
  | zero => intro x0 x1 x2 x3 M; rw [f_X10_number_8]; exact v_none
  | succ n ih =>
    intro x0 x1 x2 x3 M
    rw [f_X10_number_8]
    refine v_iload_n X 9 3 dX10_number_8 rfl rfl ?_
    refine v_iload_n X 10 1 dX10_number_9 rfl rfl ?_
    refine v_icge X 13 45 dX10_number_10 rfl rfl ?_ ?_
    · refine v_iload_n X 46 2 dX10_number_45 rfl rfl ?_
      exact v_iret X Y (Nat.le_refl _) (Nat.le_refl _) dX10_number_46
    · refine v_iload_n X 14 2 dX10_number_13 rfl rfl ?_
      refine v_iflt X 17 45 dX10_number_14 rfl rfl ?_ ?_
      · refine v_iload_n X 46 2 dX10_number_45 rfl rfl ?_
        exact v_iret X Y (Nat.le_refl _) (Nat.le_refl _) dX10_number_46
      · refine v_aload_n X 18 0 dX10_number_17 rfl rfl ?_
        refine v_iconst X 19 dX10_number_18 ik_0 rfl ?_
        refine v_vI X 22 cv_X10_digit ml_X10_41 (n1 := 1) rfl [.int (0 : Int32)] rfl rfl rfl dX10_number_19 rfl (fun r M1 h => c_X10_digit _ _ _ _ _ _ h) (fun r2 M1 => ?_)
        refine v_istore (lv' := [(0, .ref x0), (1, .int x1), (2, .int x2), (3, .int x3), (4, .int r2)]) X 24 dX10_number_22 (by decide) rfl rfl ?_
        refine v_iload X 26 4 dX10_number_24 rfl rfl ?_
        refine v_ifge X 29 31 dX10_number_26 rfl rfl ?_ ?_
        · refine v_bipush X 33 dX10_number_31 bk_10 rfl ?_
          refine v_iload_n X 34 2 dX10_number_33 rfl rfl ?_
          refine v_imul X 35 dX10_number_34 rfl ?_
          refine v_iload X 37 4 dX10_number_35 rfl rfl ?_
          refine v_iadd X 38 dX10_number_37 rfl ?_
          refine v_bnI (fun y3 => ?_)
          refine v_istore_n (lv' := [(0, .ref x0), (1, .int x1), (2, .int y3), (3, .int x3), (4, .int r2)]) X 39 dX10_number_38 (by decide) rfl rfl ?_
          refine v_iinc X 42 3 (fun z => [(0, .ref x0), (1, .int x1), (2, .int y3), (3, .int z), (4, .int r2)]) dX10_number_39 rfl ik_1 (by decide) (fun _ => rfl) rfl (fun y4 => ?_)
          refine v_goto X 8 dX10_number_42 rfl ?_
          exact v_sb [0, 1, 2, 3] (ih _ _ _ _ _) rfl
        · refine v_iload_n X 30 2 dX10_number_29 rfl rfl ?_
          exact v_iret X Y (Nat.le_refl _) (Nat.le_refl _) dX10_number_30
set_option maxRecDepth 4000 in
theorem L_X10_number_0 {G : Gx} (X : Cb G cX10_number 5 RX10 (RM 2 0 0) false) (Y : Cr G (some .int) 0 0) (x0 : Nat) (x1 : Int32) (M : MM) : V G trI 5 0 0 0 [(0, .ref x0), (1, .int x1)] [] M (f_X10_number_0 x0 x1 M) := by
  unfold f_X10_number_0
  refine v_aload_n X 1 0 dX10_number_0 rfl rfl ?_
  refine v_iconst X 2 dX10_number_1 ik_0 rfl ?_
  refine v_vI X 5 cv_X10_digit ml_X10_41 (n1 := 1) rfl [.int (0 : Int32)] rfl rfl rfl dX10_number_2 rfl (fun r M1 h => c_X10_digit _ _ _ _ _ _ h) (fun r2 M1 => ?_)
  refine v_istore_n (lv' := [(0, .ref x0), (1, .int x1), (2, .int r2)]) X 6 dX10_number_5 (by decide) rfl rfl ?_
  refine v_iconst X 7 dX10_number_6 ik_1 rfl ?_
  refine v_istore_n (lv' := [(0, .ref x0), (1, .int x1), (2, .int r2), (3, .int (1 : Int32))]) X 8 dX10_number_7 (by decide) rfl rfl ?_
  exact L_X10_number_8 X Y 1024 _ _ _ _ _
theorem c_X10_number (l : Launch) (x0 : Nat) (x1 : Int32) (M : MM) (r : Int32) (M1 : MM) (h : f_X10_number x0 x1 M = some (r, M1)) : KV l yX10_number cX10_number 5 (some .int) (RM 2 0 0) false 10 x0 [.int x1] M (some (.int r)) M1 := by
  obtain ⟨hO, h2⟩ := iteO_some h
  exact ⟨hO, ct_of (tr := trI) (by decide) (Nat.le_of_ble_eq_true rfl) [(0, .ref x0), (1, .int x1)] rfl h2 (fun G X Y hn hl => L_X10_number_0 X Y x0 x1 M)⟩

def f_X10_letter_0 (x0 : Nat) (M : MM) : Option (Int32 × MM) :=
    b2 (f_X10_peek x0 M) fun r2 M1 =>
    bn (r2 - (97 : Int32) : Int32) fun y3 =>
    if y3 < 0 then
      some ((-1 : Int32), M1)
    else
      if y3 < (6 : Int32) then
        b1 (f_X10_skip x0 M1) fun M4 =>
        some (y3, M4)
      else
        some ((-1 : Int32), M1)

def f_X10_letter (x0 : Nat) (M : MM) : Option (Int32 × MM) := if isO 10 x0 M = true then f_X10_letter_0 x0 M else none
set_option maxRecDepth 4000 in
theorem L_X10_letter_0 {G : Gx} (X : Cb G cX10_letter 2 RX10 (RM 2 0 0) false) (Y : Cr G (some .int) 0 0) (x0 : Nat) (M : MM) : V G trI 2 0 0 0 [(0, .ref x0)] [] M (f_X10_letter_0 x0 M) := by
  unfold f_X10_letter_0
  refine v_aload_n X 1 0 dX10_letter_0 rfl rfl ?_
  refine v_vI X 4 cv_X10_peek ml_X10_34 (n1 := 1) rfl [] rfl rfl rfl dX10_letter_1 rfl (fun r M1 h => c_X10_peek _ _ _ _ _ h) (fun r2 M1 => ?_)
  refine v_bipush X 6 dX10_letter_4 bk_97 rfl ?_
  refine v_isub X 7 dX10_letter_6 rfl ?_
  refine v_bnI (fun y3 => ?_)
  refine v_istore_n (lv' := [(0, .ref x0), (1, .int y3)]) X 8 dX10_letter_7 (by decide) rfl rfl ?_
  refine v_iload_n X 9 1 dX10_letter_8 rfl rfl ?_
  refine v_iflt X 12 18 dX10_letter_9 rfl rfl ?_ ?_
  · refine v_iconst X 19 dX10_letter_18 ik_m1 rfl ?_
    exact v_iret X Y (Nat.le_refl _) (Nat.le_refl _) dX10_letter_19
  · refine v_iload_n X 13 1 dX10_letter_12 rfl rfl ?_
    refine v_bipush X 15 dX10_letter_13 bk_6 rfl ?_
    refine v_iclt X 18 20 dX10_letter_15 rfl rfl ?_ ?_
    · refine v_aload_n X 21 0 dX10_letter_20 rfl rfl ?_
      refine v_vV X 24 cv_X10_skip ml_X10_38 (n1 := 1) rfl [] rfl rfl rfl dX10_letter_21 rfl (fun M1 h => c_X10_skip _ _ _ _ h) (fun M4 => ?_)
      refine v_iload_n X 25 1 dX10_letter_24 rfl rfl ?_
      exact v_iret X Y (Nat.le_refl _) (Nat.le_refl _) dX10_letter_25
    · refine v_iconst X 19 dX10_letter_18 ik_m1 rfl ?_
      exact v_iret X Y (Nat.le_refl _) (Nat.le_refl _) dX10_letter_19
theorem c_X10_letter (l : Launch) (x0 : Nat) (M : MM) (r : Int32) (M1 : MM) (h : f_X10_letter x0 M = some (r, M1)) : KV l yX10_letter cX10_letter 2 (some .int) (RM 2 0 0) false 10 x0 [] M (some (.int r)) M1 := by
  obtain ⟨hO, h2⟩ := iteO_some h
  exact ⟨hO, ct_of (tr := trI) (by decide) (Nat.le_of_ble_eq_true rfl) [(0, .ref x0)] rfl h2 (fun G X Y hn hl => L_X10_letter_0 X Y x0 M)⟩

def f_X10_times_28 (K4 : Nat → Int32 → Int32 → Int32 → MM → Option (Int32 × MM)) (x0 : Nat) (x1 : Int32) (x3 : Int32) (s0 : Int32) (s1 : Int32) (M : MM) : Option (Int32 × MM) :=
    bn (s1 + s0 : Int32) fun y1 =>
    bn (x3 + 1 : Int32) fun y2 =>
    K4 x0 x1 y1 y2 M

def f_X10_times_4 : Nat → Nat → Int32 → Int32 → Int32 → MM → Option (Int32 × MM)
  | 0, _, _, _, _, _ => none
  | n + 1, x0, x1, x2, x3, M =>
    b1 (gI 10 3 x0 M) fun v1 =>
    if v1 ≤ x3 then
      some (x2, M)
    else
      b1 (gR 10 0 x0 M) fun v2 =>
      b1 (ldI v2 x3 M) fun v3 =>
      if v3 = x1 then
        f_X10_times_28 (f_X10_times_4 n) x0 x1 x3 (1 : Int32) x2 M
      else
        f_X10_times_28 (f_X10_times_4 n) x0 x1 x3 (0 : Int32) x2 M

def f_X10_times_0 (x0 : Nat) (x1 : Int32) (M : MM) : Option (Int32 × MM) :=
    f_X10_times_4 1024 x0 x1 (0 : Int32) (0 : Int32) M

def f_X10_times (x0 : Nat) (x1 : Int32) (M : MM) : Option (Int32 × MM) := if isO 10 x0 M = true then f_X10_times_0 x0 x1 M else none
set_option maxRecDepth 4000 in
theorem L_X10_times_28 {G : Gx} (X : Cb G cX10_times 4 RX10 (RM 1 0 0) false) (Y : Cr G (some .int) 0 0) {K4 : Nat → Int32 → Int32 → Int32 → MM → Option (Int32 × MM)} (hK4 : ∀ (x0 : Nat) (x1 : Int32) (x2 : Int32) (x3 : Int32) (M : MM), V G trI 4 0 0 4 [(0, .ref x0), (1, .int x1), (2, .int x2), (3, .int x3)] [] M (K4 x0 x1 x2 x3 M)) (x0 : Nat) (x1 : Int32) (x3 : Int32) (s0 : Int32) (s1 : Int32) (M : MM) : V G trI 4 0 0 28 [(0, .ref x0), (1, .int x1), (3, .int x3)] [.int s0, .int s1] M (f_X10_times_28 K4 x0 x1 x3 s0 s1 M) := by
  unfold f_X10_times_28
  refine v_iadd X 29 dX10_times_28 rfl ?_
  refine v_bnI (fun y1 => ?_)
  refine v_istore_n (lv' := [(0, .ref x0), (1, .int x1), (2, .int y1), (3, .int x3)]) X 30 dX10_times_29 (by decide) rfl rfl ?_
  refine v_iinc X 33 3 (fun z => [(0, .ref x0), (1, .int x1), (2, .int y1), (3, .int z)]) dX10_times_30 rfl ik_1 (by decide) (fun _ => rfl) rfl (fun y2 => ?_)
  refine v_goto X 4 dX10_times_33 rfl ?_
  exact hK4 _ _ _ _ _
set_option maxRecDepth 4000 in
theorem L_X10_times_4 {G : Gx} (X : Cb G cX10_times 4 RX10 (RM 1 0 0) false) (Y : Cr G (some .int) 0 0) : ∀ (n : Nat) (x0 : Nat) (x1 : Int32) (x2 : Int32) (x3 : Int32) (M : MM), V G trI 4 0 0 4 [(0, .ref x0), (1, .int x1), (2, .int x2), (3, .int x3)] [] M (f_X10_times_4 n x0 x1 x2 x3 M) := by
  intro n
  induction n with
  | zero => intro x0 x1 x2 x3 M; rw [f_X10_times_4]; exact v_none
  | succ n ih =>
    intro x0 x1 x2 x3 M
    rw [f_X10_times_4]
    refine v_iload_n X 5 3 dX10_times_4 rfl rfl ?_
    refine v_aload_n X 6 0 dX10_times_5 rfl rfl ?_
    refine v_getI X 9 fl_X10_28.r dX10_times_6 rfl (fun v1 => ?_)
    refine v_icge X 12 36 dX10_times_9 rfl rfl ?_ ?_
    · refine v_iload_n X 37 2 dX10_times_36 rfl rfl ?_
      exact v_iret X Y (Nat.le_refl _) (Nat.le_refl _) dX10_times_37
    · refine v_iload_n X 13 2 dX10_times_12 rfl rfl ?_
      refine v_aload_n X 14 0 dX10_times_13 rfl rfl ?_
      refine v_getR X 17 fl_X10_11.r dX10_times_14 rfl (fun v2 => ?_)
      refine v_iload_n X 18 3 dX10_times_17 rfl rfl ?_
      refine v_iald X 19 dX10_times_18 rfl (fun v3 => ?_)
      refine v_iload_n X 20 1 dX10_times_19 rfl rfl ?_
      refine v_icne X 23 27 dX10_times_20 rfl rfl ?_ ?_
      · refine v_iconst X 28 dX10_times_27 ik_0 rfl ?_
        exact v_sb [0, 1, 3] (L_X10_times_28 X Y ih _ _ _ _ _ _) rfl
      · refine v_iconst X 24 dX10_times_23 ik_1 rfl ?_
        refine v_goto X 28 dX10_times_24 rfl ?_
        exact v_sb [0, 1, 3] (L_X10_times_28 X Y ih _ _ _ _ _ _) rfl
set_option maxRecDepth 4000 in
theorem L_X10_times_0 {G : Gx} (X : Cb G cX10_times 4 RX10 (RM 1 0 0) false) (Y : Cr G (some .int) 0 0) (x0 : Nat) (x1 : Int32) (M : MM) : V G trI 4 0 0 0 [(0, .ref x0), (1, .int x1)] [] M (f_X10_times_0 x0 x1 M) := by
  unfold f_X10_times_0
  refine v_iconst X 1 dX10_times_0 ik_0 rfl ?_
  refine v_istore_n (lv' := [(0, .ref x0), (1, .int x1), (2, .int (0 : Int32))]) X 2 dX10_times_1 (by decide) rfl rfl ?_
  refine v_iconst X 3 dX10_times_2 ik_0 rfl ?_
  refine v_istore_n (lv' := [(0, .ref x0), (1, .int x1), (2, .int (0 : Int32)), (3, .int (0 : Int32))]) X 4 dX10_times_3 (by decide) rfl rfl ?_
  exact L_X10_times_4 X Y 1024 _ _ _ _ _
theorem c_X10_times (l : Launch) (x0 : Nat) (x1 : Int32) (M : MM) (r : Int32) (M1 : MM) (h : f_X10_times x0 x1 M = some (r, M1)) : KV l yX10_times cX10_times 4 (some .int) (RM 1 0 0) false 10 x0 [.int x1] M (some (.int r)) M1 := by
  obtain ⟨hO, h2⟩ := iteO_some h
  exact ⟨hO, ct_of (tr := trI) (by decide) (Nat.le_of_ble_eq_true rfl) [(0, .ref x0), (1, .int x1)] rfl h2 (fun G X Y hn hl => L_X10_times_0 X Y x0 x1 M)⟩

def f_X10_lastTime_27 (K4 : Nat → Int32 → Int32 → Int32 → MM → Option (Int32 × MM)) (x0 : Nat) (x1 : Int32) (x3 : Int32) (s0 : Int32) (M : MM) : Option (Int32 × MM) :=
    bn (x3 + 1 : Int32) fun y1 =>
    K4 x0 x1 s0 y1 M

def f_X10_lastTime_4 : Nat → Nat → Int32 → Int32 → Int32 → MM → Option (Int32 × MM)
  | 0, _, _, _, _, _ => none
  | n + 1, x0, x1, x2, x3, M =>
    b1 (gI 10 3 x0 M) fun v1 =>
    if v1 ≤ x3 then
      some (x2, M)
    else
      b1 (gR 10 0 x0 M) fun v2 =>
      b1 (ldI v2 x3 M) fun v3 =>
      if v3 = x1 then
        f_X10_lastTime_27 (f_X10_lastTime_4 n) x0 x1 x3 x3 M
      else
        f_X10_lastTime_27 (f_X10_lastTime_4 n) x0 x1 x3 x2 M

def f_X10_lastTime_0 (x0 : Nat) (x1 : Int32) (M : MM) : Option (Int32 × MM) :=
    f_X10_lastTime_4 1024 x0 x1 (-1 : Int32) (0 : Int32) M

def f_X10_lastTime (x0 : Nat) (x1 : Int32) (M : MM) : Option (Int32 × MM) := if isO 10 x0 M = true then f_X10_lastTime_0 x0 x1 M else none
set_option maxRecDepth 4000 in
theorem L_X10_lastTime_27 {G : Gx} (X : Cb G cX10_lastTime 4 RX10 (RM 1 0 0) false) (Y : Cr G (some .int) 0 0) {K4 : Nat → Int32 → Int32 → Int32 → MM → Option (Int32 × MM)} (hK4 : ∀ (x0 : Nat) (x1 : Int32) (x2 : Int32) (x3 : Int32) (M : MM), V G trI 4 0 0 4 [(0, .ref x0), (1, .int x1), (2, .int x2), (3, .int x3)] [] M (K4 x0 x1 x2 x3 M)) (x0 : Nat) (x1 : Int32) (x3 : Int32) (s0 : Int32) (M : MM) : V G trI 4 0 0 27 [(0, .ref x0), (1, .int x1), (3, .int x3)] [.int s0] M (f_X10_lastTime_27 K4 x0 x1 x3 s0 M) := by
  unfold f_X10_lastTime_27
  refine v_istore_n (lv' := [(0, .ref x0), (1, .int x1), (2, .int s0), (3, .int x3)]) X 28 dX10_lastTime_27 (by decide) rfl rfl ?_
  refine v_iinc X 31 3 (fun z => [(0, .ref x0), (1, .int x1), (2, .int s0), (3, .int z)]) dX10_lastTime_28 rfl ik_1 (by decide) (fun _ => rfl) rfl (fun y1 => ?_)
  refine v_goto X 4 dX10_lastTime_31 rfl ?_
  exact hK4 _ _ _ _ _
set_option maxRecDepth 4000 in
theorem L_X10_lastTime_4 {G : Gx} (X : Cb G cX10_lastTime 4 RX10 (RM 1 0 0) false) (Y : Cr G (some .int) 0 0) : ∀ (n : Nat) (x0 : Nat) (x1 : Int32) (x2 : Int32) (x3 : Int32) (M : MM), V G trI 4 0 0 4 [(0, .ref x0), (1, .int x1), (2, .int x2), (3, .int x3)] [] M (f_X10_lastTime_4 n x0 x1 x2 x3 M) := by
  intro n
  induction n with
  | zero => intro x0 x1 x2 x3 M; rw [f_X10_lastTime_4]; exact v_none
  | succ n ih =>
    intro x0 x1 x2 x3 M
    rw [f_X10_lastTime_4]
    refine v_iload_n X 5 3 dX10_lastTime_4 rfl rfl ?_
    refine v_aload_n X 6 0 dX10_lastTime_5 rfl rfl ?_
    refine v_getI X 9 fl_X10_28.r dX10_lastTime_6 rfl (fun v1 => ?_)
    refine v_icge X 12 34 dX10_lastTime_9 rfl rfl ?_ ?_
    · refine v_iload_n X 35 2 dX10_lastTime_34 rfl rfl ?_
      exact v_iret X Y (Nat.le_refl _) (Nat.le_refl _) dX10_lastTime_35
    · refine v_aload_n X 13 0 dX10_lastTime_12 rfl rfl ?_
      refine v_getR X 16 fl_X10_11.r dX10_lastTime_13 rfl (fun v2 => ?_)
      refine v_iload_n X 17 3 dX10_lastTime_16 rfl rfl ?_
      refine v_iald X 18 dX10_lastTime_17 rfl (fun v3 => ?_)
      refine v_iload_n X 19 1 dX10_lastTime_18 rfl rfl ?_
      refine v_icne X 22 26 dX10_lastTime_19 rfl rfl ?_ ?_
      · refine v_iload_n X 27 2 dX10_lastTime_26 rfl rfl ?_
        exact v_sb [0, 1, 3] (L_X10_lastTime_27 X Y ih _ _ _ _ _) rfl
      · refine v_iload_n X 23 3 dX10_lastTime_22 rfl rfl ?_
        refine v_goto X 27 dX10_lastTime_23 rfl ?_
        exact v_sb [0, 1, 3] (L_X10_lastTime_27 X Y ih _ _ _ _ _) rfl
set_option maxRecDepth 4000 in
theorem L_X10_lastTime_0 {G : Gx} (X : Cb G cX10_lastTime 4 RX10 (RM 1 0 0) false) (Y : Cr G (some .int) 0 0) (x0 : Nat) (x1 : Int32) (M : MM) : V G trI 4 0 0 0 [(0, .ref x0), (1, .int x1)] [] M (f_X10_lastTime_0 x0 x1 M) := by
  unfold f_X10_lastTime_0
  refine v_iconst X 1 dX10_lastTime_0 ik_m1 rfl ?_
  refine v_istore_n (lv' := [(0, .ref x0), (1, .int x1), (2, .int (-1 : Int32))]) X 2 dX10_lastTime_1 (by decide) rfl rfl ?_
  refine v_iconst X 3 dX10_lastTime_2 ik_0 rfl ?_
  refine v_istore_n (lv' := [(0, .ref x0), (1, .int x1), (2, .int (-1 : Int32)), (3, .int (0 : Int32))]) X 4 dX10_lastTime_3 (by decide) rfl rfl ?_
  exact L_X10_lastTime_4 X Y 1024 _ _ _ _ _
theorem c_X10_lastTime (l : Launch) (x0 : Nat) (x1 : Int32) (M : MM) (r : Int32) (M1 : MM) (h : f_X10_lastTime x0 x1 M = some (r, M1)) : KV l yX10_lastTime cX10_lastTime 4 (some .int) (RM 1 0 0) false 10 x0 [.int x1] M (some (.int r)) M1 := by
  obtain ⟨hO, h2⟩ := iteO_some h
  exact ⟨hO, ct_of (tr := trI) (by decide) (Nat.le_of_ble_eq_true rfl) [(0, .ref x0), (1, .int x1)] rfl h2 (fun G X Y hn hl => L_X10_lastTime_0 X Y x0 x1 M)⟩

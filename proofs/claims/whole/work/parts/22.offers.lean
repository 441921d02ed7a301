def f_X3_firstOpen_0 (x0 : Nat) (x1 : Int32) (M : MM) : Option (Int32 × MM) :=
    b1 (gR 3 0 x0 M) fun v1 =>
    b1 (gR 9 3 v1 M) fun v2 =>
    b1 (ldI v2 x1 M) fun v3 =>
    b1 (gR 3 0 x0 M) fun v4 =>
    b1 (gR 9 1 v4 M) fun v5 =>
    b1 (ldI v5 x1 M) fun v6 =>
    some (maxI (0 : Int32) (v3 - v6), M)

def f_X3_firstOpen (x0 : Nat) (x1 : Int32) (M : MM) : Option (Int32 × MM) := if isO 3 x0 M = true then f_X3_firstOpen_0 x0 x1 M else none
set_option maxRecDepth 4000 in
theorem L_X3_firstOpen_0 {G : Gx} (X : Cb G cX3_firstOpen 2 RX3 (RM 2 0 0) false) (Y : Cr G (some .int) 0 0) (x0 : Nat) (x1 : Int32) (M : MM) : V G trI 2 0 0 0 [(0, .ref x0), (1, .int x1)] [] M (f_X3_firstOpen_0 x0 x1 M) := by
  unfold f_X3_firstOpen_0
  refine v_iconst X 1 dX3_firstOpen_0 ik_0 rfl ?_
  refine v_aload_n X 2 0 dX3_firstOpen_1 rfl rfl ?_
  refine v_getR X 5 fl_X3_18.r dX3_firstOpen_2 rfl (fun v1 => ?_)
  refine v_getR X 8 fl_X3_34 dX3_firstOpen_5 rfl (fun v2 => ?_)
  refine v_iload_n X 9 1 dX3_firstOpen_8 rfl rfl ?_
  refine v_iald X 10 dX3_firstOpen_9 rfl (fun v3 => ?_)
  refine v_aload_n X 11 0 dX3_firstOpen_10 rfl rfl ?_
  refine v_getR X 14 fl_X3_18.r dX3_firstOpen_11 rfl (fun v4 => ?_)
  refine v_getR X 17 fl_X3_39 dX3_firstOpen_14 rfl (fun v5 => ?_)
  refine v_iload_n X 18 1 dX3_firstOpen_17 rfl rfl ?_
  refine v_iald X 19 dX3_firstOpen_18 rfl (fun v6 => ?_)
  refine v_isub X 20 dX3_firstOpen_19 rfl ?_
  refine v_max X 23 ml_X3_42 w_max (Nat.le_of_ble_eq_true rfl) (Nat.le_of_ble_eq_true rfl) (Nat.zero_le _) (Nat.zero_le _) dX3_firstOpen_20 rfl ?_
  exact v_iret X Y (Nat.le_refl _) (Nat.le_refl _) dX3_firstOpen_23
theorem c_X3_firstOpen (l : Launch) (x0 : Nat) (x1 : Int32) (M : MM) (r : Int32) (M1 : MM) (h : f_X3_firstOpen x0 x1 M = some (r, M1)) : KV l yX3_firstOpen cX3_firstOpen 2 (some .int) (RM 2 0 0) false 3 x0 [.int x1] M (some (.int r)) M1 := by
  obtain ⟨hO, h2⟩ := iteO_some h
  exact ⟨hO, ct_of (tr := trI) (by decide) (Nat.le_of_ble_eq_true rfl) [(0, .ref x0), (1, .int x1)] rfl h2 (fun G X Y hn hl => L_X3_firstOpen_0 X Y x0 x1 M)⟩

def f_X3_lastOpen_0 (x0 : Nat) (x1 : Int32) (M : MM) : Option (Int32 × MM) :=
    b1 (gR 3 0 x0 M) fun v1 =>
    b1 (gR 9 4 v1 M) fun v2 =>
    b1 (ldI v2 x1 M) fun v3 =>
    b1 (gR 3 0 x0 M) fun v4 =>
    b1 (gR 9 1 v4 M) fun v5 =>
    b1 (ldI v5 x1 M) fun v6 =>
    b1 (gR 3 0 x0 M) fun v7 =>
    b1 (gR 9 2 v7 M) fun v8 =>
    b1 (ldI v8 x1 M) fun v9 =>
    some (minI (99 : Int32) ((v3 - v6) - v9), M)

def f_X3_lastOpen (x0 : Nat) (x1 : Int32) (M : MM) : Option (Int32 × MM) := if isO 3 x0 M = true then f_X3_lastOpen_0 x0 x1 M else none
set_option maxRecDepth 4000 in
theorem L_X3_lastOpen_0 {G : Gx} (X : Cb G cX3_lastOpen 2 RX3 (RM 2 0 0) false) (Y : Cr G (some .int) 0 0) (x0 : Nat) (x1 : Int32) (M : MM) : V G trI 2 0 0 0 [(0, .ref x0), (1, .int x1)] [] M (f_X3_lastOpen_0 x0 x1 M) := by
  unfold f_X3_lastOpen_0
  refine v_bipush X 2 dX3_lastOpen_0 bk_99 rfl ?_
  refine v_aload_n X 3 0 dX3_lastOpen_2 rfl rfl ?_
  refine v_getR X 6 fl_X3_18.r dX3_lastOpen_3 rfl (fun v1 => ?_)
  refine v_getR X 9 fl_X3_48 dX3_lastOpen_6 rfl (fun v2 => ?_)
  refine v_iload_n X 10 1 dX3_lastOpen_9 rfl rfl ?_
  refine v_iald X 11 dX3_lastOpen_10 rfl (fun v3 => ?_)
  refine v_aload_n X 12 0 dX3_lastOpen_11 rfl rfl ?_
  refine v_getR X 15 fl_X3_18.r dX3_lastOpen_12 rfl (fun v4 => ?_)
  refine v_getR X 18 fl_X3_39 dX3_lastOpen_15 rfl (fun v5 => ?_)
  refine v_iload_n X 19 1 dX3_lastOpen_18 rfl rfl ?_
  refine v_iald X 20 dX3_lastOpen_19 rfl (fun v6 => ?_)
  refine v_isub X 21 dX3_lastOpen_20 rfl ?_
  refine v_aload_n X 22 0 dX3_lastOpen_21 rfl rfl ?_
  refine v_getR X 25 fl_X3_18.r dX3_lastOpen_22 rfl (fun v7 => ?_)
  refine v_getR X 28 fl_X3_51 dX3_lastOpen_25 rfl (fun v8 => ?_)
  refine v_iload_n X 29 1 dX3_lastOpen_28 rfl rfl ?_
  refine v_iald X 30 dX3_lastOpen_29 rfl (fun v9 => ?_)
  refine v_isub X 31 dX3_lastOpen_30 rfl ?_
  refine v_min X 34 ml_X3_54 w_min (Nat.le_of_ble_eq_true rfl) (Nat.le_of_ble_eq_true rfl) (Nat.zero_le _) (Nat.zero_le _) dX3_lastOpen_31 rfl ?_
  exact v_iret X Y (Nat.le_refl _) (Nat.le_refl _) dX3_lastOpen_34
theorem c_X3_lastOpen (l : Launch) (x0 : Nat) (x1 : Int32) (M : MM) (r : Int32) (M1 : MM) (h : f_X3_lastOpen x0 x1 M = some (r, M1)) : KV l yX3_lastOpen cX3_lastOpen 2 (some .int) (RM 2 0 0) false 3 x0 [.int x1] M (some (.int r)) M1 := by
  obtain ⟨hO, h2⟩ := iteO_some h
  exact ⟨hO, ct_of (tr := trI) (by decide) (Nat.le_of_ble_eq_true rfl) [(0, .ref x0), (1, .int x1)] rfl h2 (fun G X Y hn hl => L_X3_lastOpen_0 X Y x0 x1 M)⟩

def f_X3_soonest_6 : Nat → Nat → Int32 → Int32 → Int32 → MM → Option (Int32 × MM)
  | 0, _, _, _, _, _ => none
  | n + 1, x0, x1, x2, x3, M =>
    b2 (f_X3_lastOpen x0 x2 M) fun r2 M1 =>
    if r2 < x3 then
      some ((-1 : Int32), M1)
    else
      b1 (gR 3 2 x0 M1) fun v3 =>
      b2 (f_X1_hindrance v3 x1 x2 x3 M1) fun r5 M4 =>
      if r5 = 0 then
        some (x3, M4)
      else
        bn (x3 + 1 : Int32) fun y6 =>
        f_X3_soonest_6 n x0 x1 x2 y6 M4

def f_X3_soonest_0 (x0 : Nat) (x1 : Int32) (x2 : Int32) (M : MM) : Option (Int32 × MM) :=
    b2 (f_X3_firstOpen x0 x2 M) fun r2 M1 =>
    f_X3_soonest_6 1024 x0 x1 x2 r2 M1

def f_X3_soonest (x0 : Nat) (x1 : Int32) (x2 : Int32) (M : MM) : Option (Int32 × MM) := if isO 3 x0 M = true then f_X3_soonest_0 x0 x1 x2 M else none
set_option maxRecDepth 4000 in
theorem L_X3_soonest_6 {G : Gx} (X : Cb G cX3_soonest 4 RX3 (RM 5 0 0) false) (Y : Cr G (some .int) 0 0) : ∀ (n : Nat) (x0 : Nat) (x1 : Int32) (x2 : Int32) (x3 : Int32) (M : MM), V G trI 4 0 0 6 [(0, .ref x0), (1, .int x1), (2, .int x2), (3, .int x3)] [] M (f_X3_soonest_6 n x0 x1 x2 x3 M) := by
  intro n
  induction n with
  | zero => intro x0 x1 x2 x3 M; rw [f_X3_soonest_6]; exact v_none
  | succ n ih =>
    intro x0 x1 x2 x3 M
    rw [f_X3_soonest_6]
    refine v_iload_n X 7 3 dX3_soonest_6 rfl rfl ?_
    refine v_aload_n X 8 0 dX3_soonest_7 rfl rfl ?_
    refine v_iload_n X 9 2 dX3_soonest_8 rfl rfl ?_
    refine v_vI X 12 cv_X3_lastOpen ml_X3_61 (n1 := 2) rfl [.int x2] rfl rfl rfl dX3_soonest_9 rfl (fun r M1 h => c_X3_lastOpen _ _ _ _ _ _ h) (fun r2 M1 => ?_)
    refine v_icgt X 15 36 dX3_soonest_12 rfl rfl ?_ ?_
    · refine v_iconst X 37 dX3_soonest_36 ik_m1 rfl ?_
      exact v_iret X Y (Nat.le_refl _) (Nat.le_refl _) dX3_soonest_37
    · refine v_aload_n X 16 0 dX3_soonest_15 rfl rfl ?_
      refine v_getR X 19 fl_X3_26.r dX3_soonest_16 rfl (fun v3 => ?_)
      refine v_iload_n X 20 1 dX3_soonest_19 rfl rfl ?_
      refine v_iload_n X 21 2 dX3_soonest_20 rfl rfl ?_
      refine v_iload_n X 22 3 dX3_soonest_21 rfl rfl ?_
      refine v_vI X 25 cv_X1_hindrance ml_X3_64 (n1 := 4) rfl [.int x1, .int x2, .int x3] rfl rfl rfl dX3_soonest_22 rfl (fun r M1 h => c_X1_hindrance _ _ _ _ _ _ _ _ h) (fun r5 M4 => ?_)
      refine v_ifne X 28 30 dX3_soonest_25 rfl rfl ?_ ?_
      · refine v_iinc X 33 3 (fun z => [(0, .ref x0), (1, .int x1), (2, .int x2), (3, .int z)]) dX3_soonest_30 rfl ik_1 (by decide) (fun _ => rfl) rfl (fun y6 => ?_)
        refine v_goto X 6 dX3_soonest_33 rfl ?_
        exact ih _ _ _ _ _
      · refine v_iload_n X 29 3 dX3_soonest_28 rfl rfl ?_
        exact v_iret X Y (Nat.le_refl _) (Nat.le_refl _) dX3_soonest_29
set_option maxRecDepth 4000 in
theorem L_X3_soonest_0 {G : Gx} (X : Cb G cX3_soonest 4 RX3 (RM 5 0 0) false) (Y : Cr G (some .int) 0 0) (x0 : Nat) (x1 : Int32) (x2 : Int32) (M : MM) : V G trI 4 0 0 0 [(0, .ref x0), (1, .int x1), (2, .int x2)] [] M (f_X3_soonest_0 x0 x1 x2 M) := by
  unfold f_X3_soonest_0
  refine v_aload_n X 1 0 dX3_soonest_0 rfl rfl ?_
  refine v_iload_n X 2 2 dX3_soonest_1 rfl rfl ?_
  refine v_vI X 5 cv_X3_firstOpen ml_X3_57 (n1 := 2) rfl [.int x2] rfl rfl rfl dX3_soonest_2 rfl (fun r M1 h => c_X3_firstOpen _ _ _ _ _ _ h) (fun r2 M1 => ?_)
  refine v_istore_n (lv' := [(0, .ref x0), (1, .int x1), (2, .int x2), (3, .int r2)]) X 6 dX3_soonest_5 (by decide) rfl rfl ?_
  exact L_X3_soonest_6 X Y 1024 _ _ _ _ _
theorem c_X3_soonest (l : Launch) (x0 : Nat) (x1 : Int32) (x2 : Int32) (M : MM) (r : Int32) (M1 : MM) (h : f_X3_soonest x0 x1 x2 M = some (r, M1)) : KV l yX3_soonest cX3_soonest 4 (some .int) (RM 5 0 0) false 3 x0 [.int x1, .int x2] M (some (.int r)) M1 := by
  obtain ⟨hO, h2⟩ := iteO_some h
  exact ⟨hO, ct_of (tr := trI) (by decide) (Nat.le_of_ble_eq_true rfl) [(0, .ref x0), (1, .int x1), (2, .int x2)] rfl h2 (fun G X Y hn hl => L_X3_soonest_0 X Y x0 x1 x2 M)⟩

def f_X3_last_6 : Nat → Nat → Int32 → Int32 → Int32 → MM → Option (Int32 × MM)
  | 0, _, _, _, _, _ => none
  | n + 1, x0, x1, x2, x3, M =>
    b2 (f_X3_firstOpen x0 x2 M) fun r2 M1 =>
    if x3 < r2 then
      some ((-1 : Int32), M1)
    else
      b1 (gR 3 2 x0 M1) fun v3 =>
      b2 (f_X1_hindrance v3 x1 x2 x3 M1) fun r5 M4 =>
      if r5 = 0 then
        some (x3, M4)
      else
        bn (x3 + (-1) : Int32) fun y6 =>
        f_X3_last_6 n x0 x1 x2 y6 M4

def f_X3_last_0 (x0 : Nat) (x1 : Int32) (x2 : Int32) (M : MM) : Option (Int32 × MM) :=
    b2 (f_X3_lastOpen x0 x2 M) fun r2 M1 =>
    f_X3_last_6 1024 x0 x1 x2 r2 M1

def f_X3_last (x0 : Nat) (x1 : Int32) (x2 : Int32) (M : MM) : Option (Int32 × MM) := if isO 3 x0 M = true then f_X3_last_0 x0 x1 x2 M else none
set_option maxRecDepth 4000 in
theorem L_X3_last_6 {G : Gx} (X : Cb G cX3_last 4 RX3 (RM 5 0 0) false) (Y : Cr G (some .int) 0 0) : ∀ (n : Nat) (x0 : Nat) (x1 : Int32) (x2 : Int32) (x3 : Int32) (M : MM), V G trI 4 0 0 6 [(0, .ref x0), (1, .int x1), (2, .int x2), (3, .int x3)] [] M (f_X3_last_6 n x0 x1 x2 x3 M) := by
  intro n
  induction n with
  | zero => intro x0 x1 x2 x3 M; rw [f_X3_last_6]; exact v_none
  | succ n ih =>
    intro x0 x1 x2 x3 M
    rw [f_X3_last_6]
    refine v_iload_n X 7 3 dX3_last_6 rfl rfl ?_
    refine v_aload_n X 8 0 dX3_last_7 rfl rfl ?_
    refine v_iload_n X 9 2 dX3_last_8 rfl rfl ?_
    refine v_vI X 12 cv_X3_firstOpen ml_X3_57 (n1 := 2) rfl [.int x2] rfl rfl rfl dX3_last_9 rfl (fun r M1 h => c_X3_firstOpen _ _ _ _ _ _ h) (fun r2 M1 => ?_)
    refine v_iclt X 15 36 dX3_last_12 rfl rfl ?_ ?_
    · refine v_iconst X 37 dX3_last_36 ik_m1 rfl ?_
      exact v_iret X Y (Nat.le_refl _) (Nat.le_refl _) dX3_last_37
    · refine v_aload_n X 16 0 dX3_last_15 rfl rfl ?_
      refine v_getR X 19 fl_X3_26.r dX3_last_16 rfl (fun v3 => ?_)
      refine v_iload_n X 20 1 dX3_last_19 rfl rfl ?_
      refine v_iload_n X 21 2 dX3_last_20 rfl rfl ?_
      refine v_iload_n X 22 3 dX3_last_21 rfl rfl ?_
      refine v_vI X 25 cv_X1_hindrance ml_X3_64 (n1 := 4) rfl [.int x1, .int x2, .int x3] rfl rfl rfl dX3_last_22 rfl (fun r M1 h => c_X1_hindrance _ _ _ _ _ _ _ _ h) (fun r5 M4 => ?_)
      refine v_ifne X 28 30 dX3_last_25 rfl rfl ?_ ?_
      · refine v_iinc X 33 3 (fun z => [(0, .ref x0), (1, .int x1), (2, .int x2), (3, .int z)]) dX3_last_30 rfl ik_m1 (by decide) (fun _ => rfl) rfl (fun y6 => ?_)
        refine v_goto X 6 dX3_last_33 rfl ?_
        exact ih _ _ _ _ _
      · refine v_iload_n X 29 3 dX3_last_28 rfl rfl ?_
        exact v_iret X Y (Nat.le_refl _) (Nat.le_refl _) dX3_last_29
set_option maxRecDepth 4000 in
theorem L_X3_last_0 {G : Gx} (X : Cb G cX3_last 4 RX3 (RM 5 0 0) false) (Y : Cr G (some .int) 0 0) (x0 : Nat) (x1 : Int32) (x2 : Int32) (M : MM) : V G trI 4 0 0 0 [(0, .ref x0), (1, .int x1), (2, .int x2)] [] M (f_X3_last_0 x0 x1 x2 M) := by
  unfold f_X3_last_0
  refine v_aload_n X 1 0 dX3_last_0 rfl rfl ?_
  refine v_iload_n X 2 2 dX3_last_1 rfl rfl ?_
  refine v_vI X 5 cv_X3_lastOpen ml_X3_61 (n1 := 2) rfl [.int x2] rfl rfl rfl dX3_last_2 rfl (fun r M1 h => c_X3_lastOpen _ _ _ _ _ _ h) (fun r2 M1 => ?_)
  refine v_istore_n (lv' := [(0, .ref x0), (1, .int x1), (2, .int x2), (3, .int r2)]) X 6 dX3_last_5 (by decide) rfl rfl ?_
  exact L_X3_last_6 X Y 1024 _ _ _ _ _
theorem c_X3_last (l : Launch) (x0 : Nat) (x1 : Int32) (x2 : Int32) (M : MM) (r : Int32) (M1 : MM) (h : f_X3_last x0 x1 x2 M = some (r, M1)) : KV l yX3_last cX3_last 4 (some .int) (RM 5 0 0) false 3 x0 [.int x1, .int x2] M (some (.int r)) M1 := by
  obtain ⟨hO, h2⟩ := iteO_some h
  exact ⟨hO, ct_of (tr := trI) (by decide) (Nat.le_of_ble_eq_true rfl) [(0, .ref x0), (1, .int x1), (2, .int x2)] rfl h2 (fun G X Y hn hl => L_X3_last_0 X Y x0 x1 x2 M)⟩

def f_X3_someone_2 : Nat → Nat → Int32 → Int32 → MM → Option (Int32 × MM)
  | 0, _, _, _, _ => none
  | n + 1, x0, x1, x2, M =>
    b1 (gR 3 0 x0 M) fun v1 =>
    b1 (gI 9 7 v1 M) fun v2 =>
    if v2 ≤ x2 then
      rz (0 : Int32) M
    else
      b2 (f_X3_soonest x0 x2 x1 M) fun r4 M3 =>
      if r4 < 0 then
        bn (x2 + 1 : Int32) fun y5 =>
        f_X3_someone_2 n x0 x1 y5 M3
      else
        rz (1 : Int32) M3

def f_X3_someone_0 (x0 : Nat) (x1 : Int32) (M : MM) : Option (Int32 × MM) :=
    f_X3_someone_2 1024 x0 x1 (0 : Int32) M

def f_X3_someone (x0 : Nat) (x1 : Int32) (M : MM) : Option (Int32 × MM) := if isO 3 x0 M = true then f_X3_someone_0 x0 x1 M else none
set_option maxRecDepth 4000 in
theorem L_X3_someone_2 {G : Gx} (X : Cb G cX3_someone 3 RX3 (RM 6 0 0) false) (Y : Cr G (some .boolean) 0 0) : ∀ (n : Nat) (x0 : Nat) (x1 : Int32) (x2 : Int32) (M : MM), V G trI 3 0 0 2 [(0, .ref x0), (1, .int x1), (2, .int x2)] [] M (f_X3_someone_2 n x0 x1 x2 M) := by
  intro n
  induction n with
  | zero => intro x0 x1 x2 M; rw [f_X3_someone_2]; exact v_none
  | succ n ih =>
    intro x0 x1 x2 M
    rw [f_X3_someone_2]
    refine v_iload_n X 3 2 dX3_someone_2 rfl rfl ?_
    refine v_aload_n X 4 0 dX3_someone_3 rfl rfl ?_
    refine v_getR X 7 fl_X3_18.r dX3_someone_4 rfl (fun v1 => ?_)
    refine v_getI X 10 fl_X3_70.r dX3_someone_7 rfl (fun v2 => ?_)
    refine v_icge X 13 30 dX3_someone_10 rfl rfl ?_ ?_
    · refine v_iconst X 31 dX3_someone_30 ik_0 rfl ?_
      exact v_zret X Y (Nat.le_refl _) (Nat.le_refl _) dX3_someone_31
    · refine v_aload_n X 14 0 dX3_someone_13 rfl rfl ?_
      refine v_iload_n X 15 2 dX3_someone_14 rfl rfl ?_
      refine v_iload_n X 16 1 dX3_someone_15 rfl rfl ?_
      refine v_vI X 19 cv_X3_soonest ml_X3_74 (n1 := 5) rfl [.int x2, .int x1] rfl rfl rfl dX3_someone_16 rfl (fun r M1 h => c_X3_soonest _ _ _ _ _ _ _ h) (fun r4 M3 => ?_)
      refine v_iflt X 22 24 dX3_someone_19 rfl rfl ?_ ?_
      · refine v_iinc X 27 2 (fun z => [(0, .ref x0), (1, .int x1), (2, .int z)]) dX3_someone_24 rfl ik_1 (by decide) (fun _ => rfl) rfl (fun y5 => ?_)
        refine v_goto X 2 dX3_someone_27 rfl ?_
        exact ih _ _ _ _
      · refine v_iconst X 23 dX3_someone_22 ik_1 rfl ?_
        exact v_zret X Y (Nat.le_refl _) (Nat.le_refl _) dX3_someone_23
set_option maxRecDepth 4000 in
theorem L_X3_someone_0 {G : Gx} (X : Cb G cX3_someone 3 RX3 (RM 6 0 0) false) (Y : Cr G (some .boolean) 0 0) (x0 : Nat) (x1 : Int32) (M : MM) : V G trI 3 0 0 0 [(0, .ref x0), (1, .int x1)] [] M (f_X3_someone_0 x0 x1 M) := by
  unfold f_X3_someone_0
  refine v_iconst X 1 dX3_someone_0 ik_0 rfl ?_
  refine v_istore_n (lv' := [(0, .ref x0), (1, .int x1), (2, .int (0 : Int32))]) X 2 dX3_someone_1 (by decide) rfl rfl ?_
  exact L_X3_someone_2 X Y 1024 _ _ _ _
theorem c_X3_someone (l : Launch) (x0 : Nat) (x1 : Int32) (M : MM) (r : Int32) (M1 : MM) (h : f_X3_someone x0 x1 M = some (r, M1)) : KV l yX3_someone cX3_someone 3 (some .boolean) (RM 6 0 0) false 3 x0 [.int x1] M (some (.int r)) M1 := by
  obtain ⟨hO, h2⟩ := iteO_some h
  exact ⟨hO, ct_of (tr := trI) (by decide) (Nat.le_of_ble_eq_true rfl) [(0, .ref x0), (1, .int x1)] rfl h2 (fun G X Y hn hl => L_X3_someone_0 X Y x0 x1 M)⟩

def f_X3_bestFor_146 (K4 : Nat → Int32 → Int32 → Int32 → MM → Option (Int32 × MM)) (x0 : Nat) (x1 : Int32) (x2 : Int32) (x3 : Int32) (M : MM) : Option (Int32 × MM) :=
    bn (x3 + 1 : Int32) fun y1 =>
    K4 x0 x1 x2 y1 M

def f_X3_bestFor_132 (K4 : Nat → Int32 → Int32 → Int32 → MM → Option (Int32 × MM)) (x0 : Nat) (x1 : Int32) (x3 : Int32) (x4 : Int32) (x5 : Int32) (M : MM) : Option (Int32 × MM) :=
    b1 (pI 3 8 x0 x4 M) fun M1 =>
    b1 (pI 3 9 x0 x5 M1) fun M2 =>
    f_X3_bestFor_146 K4 x0 x1 x3 x3 M2

def f_X3_bestFor_112 (K4 : Nat → Int32 → Int32 → Int32 → MM → Option (Int32 × MM)) (x0 : Nat) (x1 : Int32) (x2 : Int32) (x3 : Int32) (x4 : Int32) (x5 : Int32) (s0 : Int32) (M : MM) : Option (Int32 × MM) :=
    if x2 < 0 then
      f_X3_bestFor_132 K4 x0 x1 x3 x4 x5 M
    else
      b1 (gI 3 9 x0 M) fun v1 =>
      if v1 < x5 then
        f_X3_bestFor_132 K4 x0 x1 x3 x4 x5 M
      else
        if s0 = 0 then
          f_X3_bestFor_146 K4 x0 x1 x2 x3 M
        else
          f_X3_bestFor_132 K4 x0 x1 x3 x4 x5 M

def f_X3_bestFor_111 (K4 : Nat → Int32 → Int32 → Int32 → MM → Option (Int32 × MM)) (x0 : Nat) (x1 : Int32) (x2 : Int32) (x3 : Int32) (x4 : Int32) (x5 : Int32) (M : MM) : Option (Int32 × MM) :=
    f_X3_bestFor_112 K4 x0 x1 x2 x3 x4 x5 (0 : Int32) M

def f_X3_bestFor_4 : Nat → Nat → Int32 → Int32 → Int32 → MM → Option (Int32 × MM)
  | 0, _, _, _, _, _ => none
  | n + 1, x0, x1, x2, x3, M =>
    b1 (gR 3 0 x0 M) fun v1 =>
    b1 (gI 9 8 v1 M) fun v2 =>
    if v2 ≤ x3 then
      some (x2, M)
    else
      b2 (f_X3_soonest x0 x1 x3 M) fun r4 M3 =>
      if 0 ≤ r4 then
        b1 (gR 3 1 x0 M3) fun v5 =>
        b1 (f_X5_add v5 x1 x3 r4 M3) fun M6 =>
        b1 (gR 3 3 x0 M6) fun v7 =>
        b1 (gR 3 1 x0 M6) fun v8 =>
        b1 (gI 5 1 v8 M6) fun v9 =>
        b2 (f_X7_of v7 (v9 - (1 : Int32)) M6) fun r11 M10 =>
        b1 (gR 3 1 x0 M10) fun v12 =>
        b1 (f_X5_removeLast v12 M10) fun M13 =>
        if x2 < 0 then
          f_X3_bestFor_111 (f_X3_bestFor_4 n) x0 x1 x2 x3 r4 r11 M13
        else
          b1 (gI 3 9 x0 M13) fun v14 =>
          if r11 = v14 then
            b1 (gR 3 0 x0 M13) fun v15 =>
            b2 (f_X9_length v15 x3 M13) fun r17 M16 =>
            b1 (gI 3 8 x0 M16) fun v18 =>
            b1 (gR 3 0 x0 M16) fun v19 =>
            b2 (f_X9_length v19 x2 M16) fun r21 M20 =>
            if (v18 + r21) ≤ (r4 + r17) then
              f_X3_bestFor_111 (f_X3_bestFor_4 n) x0 x1 x2 x3 r4 r11 M20
            else
              f_X3_bestFor_112 (f_X3_bestFor_4 n) x0 x1 x2 x3 r4 r11 (1 : Int32) M20
          else
            f_X3_bestFor_111 (f_X3_bestFor_4 n) x0 x1 x2 x3 r4 r11 M13
      else
        f_X3_bestFor_146 (f_X3_bestFor_4 n) x0 x1 x2 x3 M3

def f_X3_bestFor_0 (x0 : Nat) (x1 : Int32) (M : MM) : Option (Int32 × MM) :=
    f_X3_bestFor_4 1024 x0 x1 (-1 : Int32) (0 : Int32) M

def f_X3_bestFor (x0 : Nat) (x1 : Int32) (M : MM) : Option (Int32 × MM) := if isO 3 x0 M = true then f_X3_bestFor_0 x0 x1 M else none
set_option maxRecDepth 4000 in
theorem L_X3_bestFor_146 {G : Gx} (X : Cb G cX3_bestFor 7 RX3 (RM 6 0 0) false) (Y : Cr G (some .int) 0 0) {K4 : Nat → Int32 → Int32 → Int32 → MM → Option (Int32 × MM)} (hK4 : ∀ (x0 : Nat) (x1 : Int32) (x2 : Int32) (x3 : Int32) (M : MM), V G trI 7 0 0 4 [(0, .ref x0), (1, .int x1), (2, .int x2), (3, .int x3)] [] M (K4 x0 x1 x2 x3 M)) (x0 : Nat) (x1 : Int32) (x2 : Int32) (x3 : Int32) (M : MM) : V G trI 7 0 0 146 [(0, .ref x0), (1, .int x1), (2, .int x2), (3, .int x3)] [] M (f_X3_bestFor_146 K4 x0 x1 x2 x3 M) := by
  unfold f_X3_bestFor_146
  refine v_iinc X 149 3 (fun z => [(0, .ref x0), (1, .int x1), (2, .int x2), (3, .int z)]) dX3_bestFor_146 rfl ik_1 (by decide) (fun _ => rfl) rfl (fun y1 => ?_)
  refine v_goto X 4 dX3_bestFor_149 rfl ?_
  exact hK4 _ _ _ _ _
set_option maxRecDepth 4000 in
theorem L_X3_bestFor_132 {G : Gx} (X : Cb G cX3_bestFor 7 RX3 (RM 6 0 0) false) (Y : Cr G (some .int) 0 0) {K4 : Nat → Int32 → Int32 → Int32 → MM → Option (Int32 × MM)} (hK4 : ∀ (x0 : Nat) (x1 : Int32) (x2 : Int32) (x3 : Int32) (M : MM), V G trI 7 0 0 4 [(0, .ref x0), (1, .int x1), (2, .int x2), (3, .int x3)] [] M (K4 x0 x1 x2 x3 M)) (x0 : Nat) (x1 : Int32) (x3 : Int32) (x4 : Int32) (x5 : Int32) (M : MM) : V G trI 7 0 0 132 [(0, .ref x0), (1, .int x1), (3, .int x3), (4, .int x4), (5, .int x5)] [] M (f_X3_bestFor_132 K4 x0 x1 x3 x4 x5 M) := by
  unfold f_X3_bestFor_132
  refine v_iload_n X 133 2 dX3_bestFor_132 rfl rfl ?_
  refine v_istore_n (lv' := [(0, .ref x0), (1, .int x1), (2, .int x3), (3, .int x3), (4, .int x4), (5, .int x5)]) X 134 dX3_bestFor_133 (by decide) rfl rfl ?_
  refine v_aload_n X 135 0 dX3_bestFor_134 rfl rfl ?_
  refine v_iload X 137 4 dX3_bestFor_135 rfl rfl ?_
  refine v_putI X 140 fl_X3_103 nof dX3_bestFor_137 rfl (fun M1 => ?_)
  refine v_aload_n X 141 0 dX3_bestFor_140 rfl rfl ?_
  refine v_iload X 143 5 dX3_bestFor_141 rfl rfl ?_
  refine v_putI X 146 fl_X3_97 nof dX3_bestFor_143 rfl (fun M2 => ?_)
  exact v_sb [0, 1, 2, 3] (L_X3_bestFor_146 X Y hK4 _ _ _ _ _) rfl
set_option maxRecDepth 4000 in
theorem L_X3_bestFor_112 {G : Gx} (X : Cb G cX3_bestFor 7 RX3 (RM 6 0 0) false) (Y : Cr G (some .int) 0 0) {K4 : Nat → Int32 → Int32 → Int32 → MM → Option (Int32 × MM)} (hK4 : ∀ (x0 : Nat) (x1 : Int32) (x2 : Int32) (x3 : Int32) (M : MM), V G trI 7 0 0 4 [(0, .ref x0), (1, .int x1), (2, .int x2), (3, .int x3)] [] M (K4 x0 x1 x2 x3 M)) (x0 : Nat) (x1 : Int32) (x2 : Int32) (x3 : Int32) (x4 : Int32) (x5 : Int32) (s0 : Int32) (M : MM) : V G trI 7 0 0 112 [(0, .ref x0), (1, .int x1), (2, .int x2), (3, .int x3), (4, .int x4), (5, .int x5)] [.int s0] M (f_X3_bestFor_112 K4 x0 x1 x2 x3 x4 x5 s0 M) := by
  unfold f_X3_bestFor_112
  refine v_istore (lv' := [(0, .ref x0), (1, .int x1), (2, .int x2), (3, .int x3), (4, .int x4), (5, .int x5), (6, .int s0)]) X 114 dX3_bestFor_112 (by decide) rfl rfl ?_
  refine v_iload_n X 115 2 dX3_bestFor_114 rfl rfl ?_
  refine v_iflt X 118 132 dX3_bestFor_115 rfl rfl ?_ ?_
  · exact v_sb [0, 1, 3, 4, 5] (L_X3_bestFor_132 X Y hK4 _ _ _ _ _ _) rfl
  · refine v_iload X 120 5 dX3_bestFor_118 rfl rfl ?_
    refine v_aload_n X 121 0 dX3_bestFor_120 rfl rfl ?_
    refine v_getI X 124 fl_X3_97.r dX3_bestFor_121 rfl (fun v1 => ?_)
    refine v_icgt X 127 132 dX3_bestFor_124 rfl rfl ?_ ?_
    · exact v_sb [0, 1, 3, 4, 5] (L_X3_bestFor_132 X Y hK4 _ _ _ _ _ _) rfl
    · refine v_iload X 129 6 dX3_bestFor_127 rfl rfl ?_
      refine v_ifeq X 132 146 dX3_bestFor_129 rfl rfl ?_ ?_
      · exact v_sb [0, 1, 2, 3] (L_X3_bestFor_146 X Y hK4 _ _ _ _ _) rfl
      · exact v_sb [0, 1, 3, 4, 5] (L_X3_bestFor_132 X Y hK4 _ _ _ _ _ _) rfl
set_option maxRecDepth 4000 in
theorem L_X3_bestFor_111 {G : Gx} (X : Cb G cX3_bestFor 7 RX3 (RM 6 0 0) false) (Y : Cr G (some .int) 0 0) {K4 : Nat → Int32 → Int32 → Int32 → MM → Option (Int32 × MM)} (hK4 : ∀ (x0 : Nat) (x1 : Int32) (x2 : Int32) (x3 : Int32) (M : MM), V G trI 7 0 0 4 [(0, .ref x0), (1, .int x1), (2, .int x2), (3, .int x3)] [] M (K4 x0 x1 x2 x3 M)) (x0 : Nat) (x1 : Int32) (x2 : Int32) (x3 : Int32) (x4 : Int32) (x5 : Int32) (M : MM) : V G trI 7 0 0 111 [(0, .ref x0), (1, .int x1), (2, .int x2), (3, .int x3), (4, .int x4), (5, .int x5)] [] M (f_X3_bestFor_111 K4 x0 x1 x2 x3 x4 x5 M) := by
  unfold f_X3_bestFor_111
  refine v_iconst X 112 dX3_bestFor_111 ik_0 rfl ?_
  exact L_X3_bestFor_112 X Y hK4 _ _ _ _ _ _ _ _
set_option maxRecDepth 4000 in
theorem L_X3_bestFor_4 {G : Gx} (X : Cb G cX3_bestFor 7 RX3 (RM 6 0 0) false) (Y : Cr G (some .int) 0 0) : ∀ (n : Nat) (x0 : Nat) (x1 : Int32) (x2 : Int32) (x3 : Int32) (M : MM), V G trI 7 0 0 4 [(0, .ref x0), (1, .int x1), (2, .int x2), (3, .int x3)] [] M (f_X3_bestFor_4 n x0 x1 x2 x3 M) := by
  intro n
  induction n with
  | zero => intro x0 x1 x2 x3 M; rw [f_X3_bestFor_4]; exact v_none
  | succ n ih =>
    intro x0 x1 x2 x3 M
    rw [f_X3_bestFor_4]
    refine v_iload_n X 5 3 dX3_bestFor_4 rfl rfl ?_
    refine v_aload_n X 6 0 dX3_bestFor_5 rfl rfl ?_
    refine v_getR X 9 fl_X3_18.r dX3_bestFor_6 rfl (fun v1 => ?_)
    refine v_getI X 12 fl_X3_77.r dX3_bestFor_9 rfl (fun v2 => ?_)
    refine v_icge X 15 152 dX3_bestFor_12 rfl rfl ?_ ?_
    · refine v_iload_n X 153 2 dX3_bestFor_152 rfl rfl ?_
      exact v_iret X Y (Nat.le_refl _) (Nat.le_refl _) dX3_bestFor_153
    · refine v_aload_n X 16 0 dX3_bestFor_15 rfl rfl ?_
      refine v_iload_n X 17 1 dX3_bestFor_16 rfl rfl ?_
      refine v_iload_n X 18 3 dX3_bestFor_17 rfl rfl ?_
      refine v_vI X 21 cv_X3_soonest ml_X3_74 (n1 := 5) rfl [.int x1, .int x3] rfl rfl rfl dX3_bestFor_18 rfl (fun r M1 h => c_X3_soonest _ _ _ _ _ _ _ h) (fun r4 M3 => ?_)
      refine v_istore (lv' := [(0, .ref x0), (1, .int x1), (2, .int x2), (3, .int x3), (4, .int r4)]) X 23 dX3_bestFor_21 (by decide) rfl rfl ?_
      refine v_iload X 25 4 dX3_bestFor_23 rfl rfl ?_
      refine v_ifge X 28 31 dX3_bestFor_25 rfl rfl ?_ ?_
      · refine v_aload_n X 32 0 dX3_bestFor_31 rfl rfl ?_
        refine v_getR X 35 fl_X3_22.r dX3_bestFor_32 rfl (fun v5 => ?_)
        refine v_iload_n X 36 1 dX3_bestFor_35 rfl rfl ?_
        refine v_iload_n X 37 3 dX3_bestFor_36 rfl rfl ?_
        refine v_iload X 39 4 dX3_bestFor_37 rfl rfl ?_
        refine v_vV X 42 cv_X5_add ml_X3_80 (n1 := 1) rfl [.int x1, .int x3, .int r4] rfl rfl rfl dX3_bestFor_39 rfl (fun M1 h => c_X5_add _ _ _ _ _ _ _ h) (fun M6 => ?_)
        refine v_aload_n X 43 0 dX3_bestFor_42 rfl rfl ?_
        refine v_getR X 46 fl_X3_30.r dX3_bestFor_43 rfl (fun v7 => ?_)
        refine v_aload_n X 47 0 dX3_bestFor_46 rfl rfl ?_
        refine v_getR X 50 fl_X3_22.r dX3_bestFor_47 rfl (fun v8 => ?_)
        refine v_getI X 53 fl_X3_86.r dX3_bestFor_50 rfl (fun v9 => ?_)
        refine v_iconst X 54 dX3_bestFor_53 ik_1 rfl ?_
        refine v_isub X 55 dX3_bestFor_54 rfl ?_
        refine v_vI X 58 cv_X7_of ml_X3_89 (n1 := 3) rfl [.int (v9 - (1 : Int32))] rfl rfl rfl dX3_bestFor_55 rfl (fun r M1 h => c_X7_of _ _ _ _ _ _ h) (fun r11 M10 => ?_)
        refine v_istore (lv' := [(0, .ref x0), (1, .int x1), (2, .int x2), (3, .int x3), (4, .int r4), (5, .int r11)]) X 60 dX3_bestFor_58 (by decide) rfl rfl ?_
        refine v_aload_n X 61 0 dX3_bestFor_60 rfl rfl ?_
        refine v_getR X 64 fl_X3_22.r dX3_bestFor_61 rfl (fun v12 => ?_)
        refine v_vV X 67 cv_X5_removeLast ml_X3_94 (n1 := 2) rfl [] rfl rfl rfl dX3_bestFor_64 rfl (fun M1 h => c_X5_removeLast _ _ _ _ h) (fun M13 => ?_)
        refine v_iload_n X 68 2 dX3_bestFor_67 rfl rfl ?_
        refine v_iflt X 71 111 dX3_bestFor_68 rfl rfl ?_ ?_
        · exact L_X3_bestFor_111 X Y ih _ _ _ _ _ _ _
        · refine v_iload X 73 5 dX3_bestFor_71 rfl rfl ?_
          refine v_aload_n X 74 0 dX3_bestFor_73 rfl rfl ?_
          refine v_getI X 77 fl_X3_97.r dX3_bestFor_74 rfl (fun v14 => ?_)
          refine v_icne X 80 111 dX3_bestFor_77 rfl rfl ?_ ?_
          · exact L_X3_bestFor_111 X Y ih _ _ _ _ _ _ _
          · refine v_iload X 82 4 dX3_bestFor_80 rfl rfl ?_
            refine v_aload_n X 83 0 dX3_bestFor_82 rfl rfl ?_
            refine v_getR X 86 fl_X3_18.r dX3_bestFor_83 rfl (fun v15 => ?_)
            refine v_iload_n X 87 3 dX3_bestFor_86 rfl rfl ?_
            refine v_vI X 90 cv_X9_length ml_X3_100 (n1 := 1) rfl [.int x3] rfl rfl rfl dX3_bestFor_87 rfl (fun r M1 h => c_X9_length _ _ _ _ _ _ h) (fun r17 M16 => ?_)
            refine v_iadd X 91 dX3_bestFor_90 rfl ?_
            refine v_aload_n X 92 0 dX3_bestFor_91 rfl rfl ?_
            refine v_getI X 95 fl_X3_103.r dX3_bestFor_92 rfl (fun v18 => ?_)
            refine v_aload_n X 96 0 dX3_bestFor_95 rfl rfl ?_
            refine v_getR X 99 fl_X3_18.r dX3_bestFor_96 rfl (fun v19 => ?_)
            refine v_iload_n X 100 2 dX3_bestFor_99 rfl rfl ?_
            refine v_vI X 103 cv_X9_length ml_X3_100 (n1 := 1) rfl [.int x2] rfl rfl rfl dX3_bestFor_100 rfl (fun r M1 h => c_X9_length _ _ _ _ _ _ h) (fun r21 M20 => ?_)
            refine v_iadd X 104 dX3_bestFor_103 rfl ?_
            refine v_icge X 107 111 dX3_bestFor_104 rfl rfl ?_ ?_
            · exact L_X3_bestFor_111 X Y ih _ _ _ _ _ _ _
            · refine v_iconst X 108 dX3_bestFor_107 ik_1 rfl ?_
              refine v_goto X 112 dX3_bestFor_108 rfl ?_
              exact L_X3_bestFor_112 X Y ih _ _ _ _ _ _ _ _
      · refine v_goto X 146 dX3_bestFor_28 rfl ?_
        exact v_sb [0, 1, 2, 3] (L_X3_bestFor_146 X Y ih _ _ _ _ _) rfl
set_option maxRecDepth 4000 in
theorem L_X3_bestFor_0 {G : Gx} (X : Cb G cX3_bestFor 7 RX3 (RM 6 0 0) false) (Y : Cr G (some .int) 0 0) (x0 : Nat) (x1 : Int32) (M : MM) : V G trI 7 0 0 0 [(0, .ref x0), (1, .int x1)] [] M (f_X3_bestFor_0 x0 x1 M) := by
  unfold f_X3_bestFor_0
  refine v_iconst X 1 dX3_bestFor_0 ik_m1 rfl ?_
  refine v_istore_n (lv' := [(0, .ref x0), (1, .int x1), (2, .int (-1 : Int32))]) X 2 dX3_bestFor_1 (by decide) rfl rfl ?_
  refine v_iconst X 3 dX3_bestFor_2 ik_0 rfl ?_
  refine v_istore_n (lv' := [(0, .ref x0), (1, .int x1), (2, .int (-1 : Int32)), (3, .int (0 : Int32))]) X 4 dX3_bestFor_3 (by decide) rfl rfl ?_
  exact L_X3_bestFor_4 X Y 1024 _ _ _ _ _
theorem c_X3_bestFor (l : Launch) (x0 : Nat) (x1 : Int32) (M : MM) (r : Int32) (M1 : MM) (h : f_X3_bestFor x0 x1 M = some (r, M1)) : KV l yX3_bestFor cX3_bestFor 7 (some .int) (RM 6 0 0) false 3 x0 [.int x1] M (some (.int r)) M1 := by
  obtain ⟨hO, h2⟩ := iteO_some h
  exact ⟨hO, ct_of (tr := trI) (by decide) (Nat.le_of_ble_eq_true rfl) [(0, .ref x0), (1, .int x1)] rfl h2 (fun G X Y hn hl => L_X3_bestFor_0 X Y x0 x1 M)⟩

def f_X3_put_0 (x0 : Nat) (x1 : Int32) (x2 : Int32) (x3 : Int32) (x4 : Int32) (M : MM) : Option (Int32 × MM) :=
    b1 (gR 3 3 x0 M) fun v1 =>
    b2 (f_X7_sumTogether v1 x2 x3 M) fun r3 M2 =>
    b1 (gR 3 1 x0 M2) fun v4 =>
    b1 (f_X5_add v4 x1 x2 x3 M2) fun M5 =>
    b1 (gR 3 5 x0 M5) fun v6 =>
    b1 (stI v6 x4 x1 M5) fun M7 =>
    b1 (gR 3 5 x0 M7) fun v8 =>
    b1 (stI v8 (x4 + (1 : Int32)) x2 M7) fun M9 =>
    b1 (gR 3 5 x0 M9) fun v10 =>
    b1 (stI v10 (x4 + (2 : Int32)) x3 M9) fun M11 =>
    b1 (gR 3 3 x0 M11) fun v12 =>
    b2 (f_X7_sumTogether v12 x2 x3 M11) fun r14 M13 =>
    some (r14 - r3, M13)

def f_X3_put (x0 : Nat) (x1 : Int32) (x2 : Int32) (x3 : Int32) (x4 : Int32) (M : MM) : Option (Int32 × MM) := if isO 3 x0 M = true then f_X3_put_0 x0 x1 x2 x3 x4 M else none
set_option maxRecDepth 4000 in
theorem L_X3_put_0 {G : Gx} (X : Cb G cX3_put 6 RX3 (RM 5 0 0) false) (Y : Cr G (some .int) 0 0) (x0 : Nat) (x1 : Int32) (x2 : Int32) (x3 : Int32) (x4 : Int32) (M : MM) : V G trI 6 0 0 0 [(0, .ref x0), (1, .int x1), (2, .int x2), (3, .int x3), (4, .int x4)] [] M (f_X3_put_0 x0 x1 x2 x3 x4 M) := by
  unfold f_X3_put_0
  refine v_aload_n X 1 0 dX3_put_0 rfl rfl ?_
  refine v_getR X 4 fl_X3_30.r dX3_put_1 rfl (fun v1 => ?_)
  refine v_iload_n X 5 2 dX3_put_4 rfl rfl ?_
  refine v_iload_n X 6 3 dX3_put_5 rfl rfl ?_
  refine v_vI X 9 cv_X7_sumTogether ml_X3_127 (n1 := 4) rfl [.int x2, .int x3] rfl rfl rfl dX3_put_6 rfl (fun r M1 h => c_X7_sumTogether _ _ _ _ _ _ _ h) (fun r3 M2 => ?_)
  refine v_istore (lv' := [(0, .ref x0), (1, .int x1), (2, .int x2), (3, .int x3), (4, .int x4), (5, .int r3)]) X 11 dX3_put_9 (by decide) rfl rfl ?_
  refine v_aload_n X 12 0 dX3_put_11 rfl rfl ?_
  refine v_getR X 15 fl_X3_22.r dX3_put_12 rfl (fun v4 => ?_)
  refine v_iload_n X 16 1 dX3_put_15 rfl rfl ?_
  refine v_iload_n X 17 2 dX3_put_16 rfl rfl ?_
  refine v_iload_n X 18 3 dX3_put_17 rfl rfl ?_
  refine v_vV X 21 cv_X5_add ml_X3_80 (n1 := 1) rfl [.int x1, .int x2, .int x3] rfl rfl rfl dX3_put_18 rfl (fun M1 h => c_X5_add _ _ _ _ _ _ _ h) (fun M5 => ?_)
  refine v_aload_n X 22 0 dX3_put_21 rfl rfl ?_
  refine v_getR X 25 fl_X3_15.r dX3_put_22 rfl (fun v6 => ?_)
  refine v_iload X 27 4 dX3_put_25 rfl rfl ?_
  refine v_iload_n X 28 1 dX3_put_27 rfl rfl ?_
  refine v_iast X 29 dX3_put_28 rfl (fun M7 => ?_)
  refine v_aload_n X 30 0 dX3_put_29 rfl rfl ?_
  refine v_getR X 33 fl_X3_15.r dX3_put_30 rfl (fun v8 => ?_)
  refine v_iload X 35 4 dX3_put_33 rfl rfl ?_
  refine v_iconst X 36 dX3_put_35 ik_1 rfl ?_
  refine v_iadd X 37 dX3_put_36 rfl ?_
  refine v_iload_n X 38 2 dX3_put_37 rfl rfl ?_
  refine v_iast X 39 dX3_put_38 rfl (fun M9 => ?_)
  refine v_aload_n X 40 0 dX3_put_39 rfl rfl ?_
  refine v_getR X 43 fl_X3_15.r dX3_put_40 rfl (fun v10 => ?_)
  refine v_iload X 45 4 dX3_put_43 rfl rfl ?_
  refine v_iconst X 46 dX3_put_45 ik_2 rfl ?_
  refine v_iadd X 47 dX3_put_46 rfl ?_
  refine v_iload_n X 48 3 dX3_put_47 rfl rfl ?_
  refine v_iast X 49 dX3_put_48 rfl (fun M11 => ?_)
  refine v_aload_n X 50 0 dX3_put_49 rfl rfl ?_
  refine v_getR X 53 fl_X3_30.r dX3_put_50 rfl (fun v12 => ?_)
  refine v_iload_n X 54 2 dX3_put_53 rfl rfl ?_
  refine v_iload_n X 55 3 dX3_put_54 rfl rfl ?_
  refine v_vI X 58 cv_X7_sumTogether ml_X3_127 (n1 := 4) rfl [.int x2, .int x3] rfl rfl rfl dX3_put_55 rfl (fun r M1 h => c_X7_sumTogether _ _ _ _ _ _ _ h) (fun r14 M13 => ?_)
  refine v_iload X 60 5 dX3_put_58 rfl rfl ?_
  refine v_isub X 61 dX3_put_60 rfl ?_
  exact v_iret X Y (Nat.le_refl _) (Nat.le_refl _) dX3_put_61
theorem c_X3_put (l : Launch) (x0 : Nat) (x1 : Int32) (x2 : Int32) (x3 : Int32) (x4 : Int32) (M : MM) (r : Int32) (M1 : MM) (h : f_X3_put x0 x1 x2 x3 x4 M = some (r, M1)) : KV l yX3_put cX3_put 6 (some .int) (RM 5 0 0) false 3 x0 [.int x1, .int x2, .int x3, .int x4] M (some (.int r)) M1 := by
  obtain ⟨hO, h2⟩ := iteO_some h
  exact ⟨hO, ct_of (tr := trI) (by decide) (Nat.le_of_ble_eq_true rfl) [(0, .ref x0), (1, .int x1), (2, .int x2), (3, .int x3), (4, .int x4)] rfl h2 (fun G X Y hn hl => L_X3_put_0 X Y x0 x1 x2 x3 x4 M)⟩

def f_X3_take_0 (x0 : Nat) (x1 : Int32) (x2 : Int32) (M : MM) : Option (MM) :=
    b1 (gI 3 7 x0 M) fun v1 =>
    if x1 ≤ v1 then
      some M
    else
      b1 (pI 3 7 x0 x1 M) fun M2 =>
      b1 (pI 3 6 x0 x2 M2) fun M3 =>
      b1 (gR 3 5 x0 M3) fun v4 =>
      b1 (gR 3 4 x0 M3) fun v5 =>
      b1 (cpI v4 (0 : Int32) v5 (0 : Int32) (6 : Int32) M3) fun M6 =>
      some M6

def f_X3_take (x0 : Nat) (x1 : Int32) (x2 : Int32) (M : MM) : Option (MM) := if isO 3 x0 M = true then f_X3_take_0 x0 x1 x2 M else none
set_option maxRecDepth 4000 in
theorem L_X3_take_0 {G : Gx} (X : Cb G cX3_take 3 RX3 (RM 1 0 0) false) (Y : Cr G none 0 0) (x0 : Nat) (x1 : Int32) (x2 : Int32) (M : MM) : V G trV 3 0 0 0 [(0, .ref x0), (1, .int x1), (2, .int x2)] [] M (f_X3_take_0 x0 x1 x2 M) := by
  unfold f_X3_take_0
  refine v_iload_n X 1 1 dX3_take_0 rfl rfl ?_
  refine v_aload_n X 2 0 dX3_take_1 rfl rfl ?_
  refine v_getI X 5 fl_X3_109.r dX3_take_2 rfl (fun v1 => ?_)
  refine v_icle X 8 33 dX3_take_5 rfl rfl ?_ ?_
  · exact v_vret X Y (Nat.le_refl _) (Nat.le_refl _) dX3_take_33
  · refine v_aload_n X 9 0 dX3_take_8 rfl rfl ?_
    refine v_iload_n X 10 1 dX3_take_9 rfl rfl ?_
    refine v_putI X 13 fl_X3_109 nof dX3_take_10 rfl (fun M2 => ?_)
    refine v_aload_n X 14 0 dX3_take_13 rfl rfl ?_
    refine v_iload_n X 15 2 dX3_take_14 rfl rfl ?_
    refine v_putI X 18 fl_X3_106 nof dX3_take_15 rfl (fun M3 => ?_)
    refine v_aload_n X 19 0 dX3_take_18 rfl rfl ?_
    refine v_getR X 22 fl_X3_15.r dX3_take_19 rfl (fun v4 => ?_)
    refine v_iconst X 23 dX3_take_22 ik_0 rfl ?_
    refine v_aload_n X 24 0 dX3_take_23 rfl rfl ?_
    refine v_getR X 27 fl_X3_9.r dX3_take_24 rfl (fun v5 => ?_)
    refine v_iconst X 28 dX3_take_27 ik_0 rfl ?_
    refine v_bipush X 30 dX3_take_28 bk_6 rfl ?_
    refine v_copy X 33 ml_X3_130 wCopy (Nat.le_of_ble_eq_true rfl) (Nat.le_of_ble_eq_true rfl) dX3_take_30 rfl (fun M6 => ?_)
    exact v_vret X Y (Nat.le_refl _) (Nat.le_refl _) dX3_take_33
theorem c_X3_take (l : Launch) (x0 : Nat) (x1 : Int32) (x2 : Int32) (M : MM) (M1 : MM) (h : f_X3_take x0 x1 x2 M = some M1) : KV l yX3_take cX3_take 3 none (RM 1 0 0) false 3 x0 [.int x1, .int x2] M none M1 := by
  obtain ⟨hO, h2⟩ := iteO_some h
  exact ⟨hO, ct_of (tr := trV) (by decide) (Nat.le_of_ble_eq_true rfl) [(0, .ref x0), (1, .int x1), (2, .int x2)] rfl h2 (fun G X Y hn hl => L_X3_take_0 X Y x0 x1 x2 M)⟩

def f_X3_trySecond_69 (K9 : Nat → Int32 → Int32 → MM → Option (MM)) (K22 : Nat → Int32 → Int32 → Int32 → MM → Option (MM)) (x0 : Nat) (x1 : Int32) (x2 : Int32) (x3 : Int32) (M : MM) : Option (MM) :=
    bn (x3 + 1 : Int32) fun y1 =>
    K22 x0 x1 x2 y1 M

def f_X3_trySecond_22 (K9 : Nat → Int32 → Int32 → MM → Option (MM)) : Nat → Nat → Int32 → Int32 → Int32 → MM → Option (MM)
  | 0, _, _, _, _, _ => none
  | n + 1, x0, x1, x2, x3, M =>
    b1 (gR 3 0 x0 M) fun v1 =>
    b1 (gI 9 8 v1 M) fun v2 =>
    if v2 ≤ x3 then
      bn (x2 + 1 : Int32) fun y3 =>
      K9 x0 x1 y3 M
    else
      b2 (f_X3_soonest x0 x2 x3 M) fun r5 M4 =>
      if r5 < 0 then
        f_X3_trySecond_69 K9 (f_X3_trySecond_22 K9 n) x0 x1 x2 x3 M4
      else
        b2 (f_X3_put x0 x2 x3 r5 (3 : Int32) M4) fun r7 M6 =>
        b1 (f_X3_take x0 (x1 + r7) (2 : Int32) M6) fun M8 =>
        b1 (gR 3 1 x0 M8) fun v9 =>
        b1 (f_X5_removeLast v9 M8) fun M10 =>
        f_X3_trySecond_69 K9 (f_X3_trySecond_22 K9 n) x0 x1 x2 x3 M10

def f_X3_trySecond_9 : Nat → Nat → Int32 → Int32 → MM → Option (MM)
  | 0, _, _, _, _ => none
  | n + 1, x0, x1, x2, M =>
    b1 (gR 3 0 x0 M) fun v1 =>
    b1 (gI 9 7 v1 M) fun v2 =>
    if v2 ≤ x2 then
      some M
    else
      f_X3_trySecond_22 (f_X3_trySecond_9 n) 1024 x0 x1 x2 (0 : Int32) M

def f_X3_trySecond_0 (x0 : Nat) (x1 : Int32) (M : MM) : Option (MM) :=
    b1 (gR 3 2 x0 M) fun v1 =>
    b1 (f_X1_look v1 M) fun M2 =>
    f_X3_trySecond_9 1024 x0 x1 (0 : Int32) M2

def f_X3_trySecond (x0 : Nat) (x1 : Int32) (M : MM) : Option (MM) := if isO 3 x0 M = true then f_X3_trySecond_0 x0 x1 M else none
set_option maxRecDepth 4000 in
theorem L_X3_trySecond_69 {G : Gx} (X : Cb G cX3_trySecond 5 RX3 (RM 6 0 0) false) (Y : Cr G none 0 0) {K9 : Nat → Int32 → Int32 → MM → Option (MM)} (hK9 : ∀ (x0 : Nat) (x1 : Int32) (x2 : Int32) (M : MM), V G trV 5 0 0 9 [(0, .ref x0), (1, .int x1), (2, .int x2)] [] M (K9 x0 x1 x2 M)) {K22 : Nat → Int32 → Int32 → Int32 → MM → Option (MM)} (hK22 : ∀ (x0 : Nat) (x1 : Int32) (x2 : Int32) (x3 : Int32) (M : MM), V G trV 5 0 0 22 [(0, .ref x0), (1, .int x1), (2, .int x2), (3, .int x3)] [] M (K22 x0 x1 x2 x3 M)) (x0 : Nat) (x1 : Int32) (x2 : Int32) (x3 : Int32) (M : MM) : V G trV 5 0 0 69 [(0, .ref x0), (1, .int x1), (2, .int x2), (3, .int x3)] [] M (f_X3_trySecond_69 K9 K22 x0 x1 x2 x3 M) := by
  unfold f_X3_trySecond_69
  refine v_iinc X 72 3 (fun z => [(0, .ref x0), (1, .int x1), (2, .int x2), (3, .int z)]) dX3_trySecond_69 rfl ik_1 (by decide) (fun _ => rfl) rfl (fun y1 => ?_)
  refine v_goto X 22 dX3_trySecond_72 rfl ?_
  exact hK22 _ _ _ _ _
set_option maxRecDepth 4000 in
theorem L_X3_trySecond_22 {G : Gx} (X : Cb G cX3_trySecond 5 RX3 (RM 6 0 0) false) (Y : Cr G none 0 0) {K9 : Nat → Int32 → Int32 → MM → Option (MM)} (hK9 : ∀ (x0 : Nat) (x1 : Int32) (x2 : Int32) (M : MM), V G trV 5 0 0 9 [(0, .ref x0), (1, .int x1), (2, .int x2)] [] M (K9 x0 x1 x2 M)) : ∀ (n : Nat) (x0 : Nat) (x1 : Int32) (x2 : Int32) (x3 : Int32) (M : MM), V G trV 5 0 0 22 [(0, .ref x0), (1, .int x1), (2, .int x2), (3, .int x3)] [] M (f_X3_trySecond_22 K9 n x0 x1 x2 x3 M) := by
  intro n
  induction n with
  | zero => intro x0 x1 x2 x3 M; rw [f_X3_trySecond_22]; exact v_none
  | succ n ih =>
    intro x0 x1 x2 x3 M
    rw [f_X3_trySecond_22]
    refine v_iload_n X 23 3 dX3_trySecond_22 rfl rfl ?_
    refine v_aload_n X 24 0 dX3_trySecond_23 rfl rfl ?_
    refine v_getR X 27 fl_X3_18.r dX3_trySecond_24 rfl (fun v1 => ?_)
    refine v_getI X 30 fl_X3_77.r dX3_trySecond_27 rfl (fun v2 => ?_)
    refine v_icge X 33 75 dX3_trySecond_30 rfl rfl ?_ ?_
    · refine v_iinc X 78 2 (fun z => [(0, .ref x0), (1, .int x1), (2, .int z), (3, .int x3)]) dX3_trySecond_75 rfl ik_1 (by decide) (fun _ => rfl) rfl (fun y3 => ?_)
      refine v_goto X 9 dX3_trySecond_78 rfl ?_
      exact v_sb [0, 1, 2] (hK9 _ _ _ _) rfl
    · refine v_aload_n X 34 0 dX3_trySecond_33 rfl rfl ?_
      refine v_iload_n X 35 2 dX3_trySecond_34 rfl rfl ?_
      refine v_iload_n X 36 3 dX3_trySecond_35 rfl rfl ?_
      refine v_vI X 39 cv_X3_soonest ml_X3_74 (n1 := 5) rfl [.int x2, .int x3] rfl rfl rfl dX3_trySecond_36 rfl (fun r M1 h => c_X3_soonest _ _ _ _ _ _ _ h) (fun r5 M4 => ?_)
      refine v_istore (lv' := [(0, .ref x0), (1, .int x1), (2, .int x2), (3, .int x3), (4, .int r5)]) X 41 dX3_trySecond_39 (by decide) rfl rfl ?_
      refine v_iload X 43 4 dX3_trySecond_41 rfl rfl ?_
      refine v_iflt X 46 69 dX3_trySecond_43 rfl rfl ?_ ?_
      · exact v_sb [0, 1, 2, 3] (L_X3_trySecond_69 X Y hK9 ih _ _ _ _ _) rfl
      · refine v_aload_n X 47 0 dX3_trySecond_46 rfl rfl ?_
        refine v_iload_n X 48 1 dX3_trySecond_47 rfl rfl ?_
        refine v_aload_n X 49 0 dX3_trySecond_48 rfl rfl ?_
        refine v_iload_n X 50 2 dX3_trySecond_49 rfl rfl ?_
        refine v_iload_n X 51 3 dX3_trySecond_50 rfl rfl ?_
        refine v_iload X 53 4 dX3_trySecond_51 rfl rfl ?_
        refine v_iconst X 54 dX3_trySecond_53 ik_3 rfl ?_
        refine v_vI X 57 cv_X3_put ml_X3_115 (n1 := 5) rfl [.int x2, .int x3, .int r5, .int (3 : Int32)] rfl rfl rfl dX3_trySecond_54 rfl (fun r M1 h => c_X3_put _ _ _ _ _ _ _ _ _ h) (fun r7 M6 => ?_)
        refine v_iadd X 58 dX3_trySecond_57 rfl ?_
        refine v_iconst X 59 dX3_trySecond_58 ik_2 rfl ?_
        refine v_vV X 62 cv_X3_take ml_X3_119 (n1 := 1) rfl [.int (x1 + r7), .int (2 : Int32)] rfl rfl rfl dX3_trySecond_59 rfl (fun M1 h => c_X3_take _ _ _ _ _ _ h) (fun M8 => ?_)
        refine v_aload_n X 63 0 dX3_trySecond_62 rfl rfl ?_
        refine v_getR X 66 fl_X3_22.r dX3_trySecond_63 rfl (fun v9 => ?_)
        refine v_vV X 69 cv_X5_removeLast ml_X3_94 (n1 := 2) rfl [] rfl rfl rfl dX3_trySecond_66 rfl (fun M1 h => c_X5_removeLast _ _ _ _ h) (fun M10 => ?_)
        exact v_sb [0, 1, 2, 3] (L_X3_trySecond_69 X Y hK9 ih _ _ _ _ _) rfl
set_option maxRecDepth 4000 in
theorem L_X3_trySecond_9 {G : Gx} (X : Cb G cX3_trySecond 5 RX3 (RM 6 0 0) false) (Y : Cr G none 0 0) : ∀ (n : Nat) (x0 : Nat) (x1 : Int32) (x2 : Int32) (M : MM), V G trV 5 0 0 9 [(0, .ref x0), (1, .int x1), (2, .int x2)] [] M (f_X3_trySecond_9 n x0 x1 x2 M) := by
  intro n
  induction n with
  | zero => intro x0 x1 x2 M; rw [f_X3_trySecond_9]; exact v_none
  | succ n ih =>
    intro x0 x1 x2 M
    rw [f_X3_trySecond_9]
    refine v_iload_n X 10 2 dX3_trySecond_9 rfl rfl ?_
    refine v_aload_n X 11 0 dX3_trySecond_10 rfl rfl ?_
    refine v_getR X 14 fl_X3_18.r dX3_trySecond_11 rfl (fun v1 => ?_)
    refine v_getI X 17 fl_X3_70.r dX3_trySecond_14 rfl (fun v2 => ?_)
    refine v_icge X 20 81 dX3_trySecond_17 rfl rfl ?_ ?_
    · exact v_vret X Y (Nat.le_refl _) (Nat.le_refl _) dX3_trySecond_81
    · refine v_iconst X 21 dX3_trySecond_20 ik_0 rfl ?_
      refine v_istore_n (lv' := [(0, .ref x0), (1, .int x1), (2, .int x2), (3, .int (0 : Int32))]) X 22 dX3_trySecond_21 (by decide) rfl rfl ?_
      exact L_X3_trySecond_22 X Y ih 1024 _ _ _ _ _
set_option maxRecDepth 4000 in
theorem L_X3_trySecond_0 {G : Gx} (X : Cb G cX3_trySecond 5 RX3 (RM 6 0 0) false) (Y : Cr G none 0 0) (x0 : Nat) (x1 : Int32) (M : MM) : V G trV 5 0 0 0 [(0, .ref x0), (1, .int x1)] [] M (f_X3_trySecond_0 x0 x1 M) := by
  unfold f_X3_trySecond_0
  refine v_aload_n X 1 0 dX3_trySecond_0 rfl rfl ?_
  refine v_getR X 4 fl_X3_26.r dX3_trySecond_1 rfl (fun v1 => ?_)
  refine v_vV X 7 cv_X1_look ml_X3_112 (n1 := 3) rfl [] rfl rfl rfl dX3_trySecond_4 rfl (fun M1 h => c_X1_look _ _ _ _ h) (fun M2 => ?_)
  refine v_iconst X 8 dX3_trySecond_7 ik_0 rfl ?_
  refine v_istore_n (lv' := [(0, .ref x0), (1, .int x1), (2, .int (0 : Int32))]) X 9 dX3_trySecond_8 (by decide) rfl rfl ?_
  exact L_X3_trySecond_9 X Y 1024 _ _ _ _
theorem c_X3_trySecond (l : Launch) (x0 : Nat) (x1 : Int32) (M : MM) (M1 : MM) (h : f_X3_trySecond x0 x1 M = some M1) : KV l yX3_trySecond cX3_trySecond 5 none (RM 6 0 0) false 3 x0 [.int x1] M none M1 := by
  obtain ⟨hO, h2⟩ := iteO_some h
  exact ⟨hO, ct_of (tr := trV) (by decide) (Nat.le_of_ble_eq_true rfl) [(0, .ref x0), (1, .int x1)] rfl h2 (fun G X Y hn hl => L_X3_trySecond_0 X Y x0 x1 M)⟩

def f_X3_search_109 (K12 : Nat → Int32 → Int32 → MM → Option (MM)) (K19 : Nat → Int32 → Int32 → Int32 → MM → Option (MM)) (K33 : Nat → Int32 → Int32 → Int32 → Int32 → MM → Option (MM)) (x0 : Nat) (x1 : Int32) (x2 : Int32) (x3 : Int32) (x4 : Int32) (M : MM) : Option (MM) :=
    bn (x4 + 1 : Int32) fun y1 =>
    K33 x0 x1 x2 x3 y1 M

def f_X3_search_102 (K12 : Nat → Int32 → Int32 → MM → Option (MM)) (K19 : Nat → Int32 → Int32 → Int32 → MM → Option (MM)) (K33 : Nat → Int32 → Int32 → Int32 → Int32 → MM → Option (MM)) (x0 : Nat) (x1 : Int32) (x2 : Int32) (x3 : Int32) (x4 : Int32) (M : MM) : Option (MM) :=
    b1 (gR 3 1 x0 M) fun v1 =>
    b1 (f_X5_removeLast v1 M) fun M2 =>
    f_X3_search_109 K12 K19 K33 x0 x1 x2 x3 x4 M2

def f_X3_search_33 (K12 : Nat → Int32 → Int32 → MM → Option (MM)) (K19 : Nat → Int32 → Int32 → Int32 → MM → Option (MM)) : Nat → Nat → Int32 → Int32 → Int32 → Int32 → MM → Option (MM)
  | 0, _, _, _, _, _, _ => none
  | n + 1, x0, x1, x2, x3, x4, M =>
    b1 (gR 3 0 x0 M) fun v1 =>
    b1 (gI 9 8 v1 M) fun v2 =>
    if v2 ≤ x4 then
      bn (x3 + 1 : Int32) fun y3 =>
      K19 x0 x1 x2 y3 M
    else
      b1 (gR 3 2 x0 M) fun v4 =>
      b1 (f_X1_look v4 M) fun M5 =>
      b2 (f_X3_soonest x0 x3 x4 M5) fun r7 M6 =>
      if 0 ≤ r7 then
        b2 (f_X3_put x0 x3 x4 r7 (0 : Int32) M6) fun r9 M8 =>
        if x2 = (1 : Int32) then
          b1 (f_X3_take x0 r9 (1 : Int32) M8) fun M11 =>
          f_X3_search_102 K12 K19 (f_X3_search_33 K12 K19 n) x0 x1 x2 x3 x4 M11
        else
          b1 (f_X3_trySecond x0 r9 M8) fun M10 =>
          f_X3_search_102 K12 K19 (f_X3_search_33 K12 K19 n) x0 x1 x2 x3 x4 M10
      else
        f_X3_search_109 K12 K19 (f_X3_search_33 K12 K19 n) x0 x1 x2 x3 x4 M6

def f_X3_search_19 (K12 : Nat → Int32 → Int32 → MM → Option (MM)) : Nat → Nat → Int32 → Int32 → Int32 → MM → Option (MM)
  | 0, _, _, _, _, _ => none
  | n + 1, x0, x1, x2, x3, M =>
    b1 (gR 3 0 x0 M) fun v1 =>
    b1 (gI 9 7 v1 M) fun v2 =>
    if v2 ≤ x3 then
      bn (x2 + 1 : Int32) fun y3 =>
      K12 x0 x1 y3 M
    else
      f_X3_search_33 K12 (f_X3_search_19 K12 n) 1024 x0 x1 x2 x3 (0 : Int32) M

def f_X3_search_12 : Nat → Nat → Int32 → Int32 → MM → Option (MM)
  | 0, _, _, _, _ => none
  | n + 1, x0, x1, x2, M =>
    if x1 < x2 then
      some M
    else
      f_X3_search_19 (f_X3_search_12 n) 1024 x0 x1 x2 (0 : Int32) M

def f_X3_search_0 (x0 : Nat) (x1 : Int32) (M : MM) : Option (MM) :=
    b1 (pI 3 6 x0 (0 : Int32) M) fun M1 =>
    b1 (pI 3 7 x0 (0 : Int32) M1) fun M2 =>
    f_X3_search_12 1024 x0 x1 (1 : Int32) M2

def f_X3_search (x0 : Nat) (x1 : Int32) (M : MM) : Option (MM) := if isO 3 x0 M = true then f_X3_search_0 x0 x1 M else none
set_option maxRecDepth 4000 in
theorem L_X3_search_109 {G : Gx} (X : Cb G cX3_search 7 RX3 (RM 7 0 0) false) (Y : Cr G none 0 0) {K12 : Nat → Int32 → Int32 → MM → Option (MM)} (hK12 : ∀ (x0 : Nat) (x1 : Int32) (x2 : Int32) (M : MM), V G trV 7 0 0 12 [(0, .ref x0), (1, .int x1), (2, .int x2)] [] M (K12 x0 x1 x2 M)) {K19 : Nat → Int32 → Int32 → Int32 → MM → Option (MM)} (hK19 : ∀ (x0 : Nat) (x1 : Int32) (x2 : Int32) (x3 : Int32) (M : MM), V G trV 7 0 0 19 [(0, .ref x0), (1, .int x1), (2, .int x2), (3, .int x3)] [] M (K19 x0 x1 x2 x3 M)) {K33 : Nat → Int32 → Int32 → Int32 → Int32 → MM → Option (MM)} (hK33 : ∀ (x0 : Nat) (x1 : Int32) (x2 : Int32) (x3 : Int32) (x4 : Int32) (M : MM), V G trV 7 0 0 33 [(0, .ref x0), (1, .int x1), (2, .int x2), (3, .int x3), (4, .int x4)] [] M (K33 x0 x1 x2 x3 x4 M)) (x0 : Nat) (x1 : Int32) (x2 : Int32) (x3 : Int32) (x4 : Int32) (M : MM) : V G trV 7 0 0 109 [(0, .ref x0), (1, .int x1), (2, .int x2), (3, .int x3), (4, .int x4)] [] M (f_X3_search_109 K12 K19 K33 x0 x1 x2 x3 x4 M) := by
  unfold f_X3_search_109
  refine v_iinc X 112 4 (fun z => [(0, .ref x0), (1, .int x1), (2, .int x2), (3, .int x3), (4, .int z)]) dX3_search_109 rfl ik_1 (by decide) (fun _ => rfl) rfl (fun y1 => ?_)
  refine v_goto X 33 dX3_search_112 rfl ?_
  exact hK33 _ _ _ _ _ _
set_option maxRecDepth 4000 in
theorem L_X3_search_102 {G : Gx} (X : Cb G cX3_search 7 RX3 (RM 7 0 0) false) (Y : Cr G none 0 0) {K12 : Nat → Int32 → Int32 → MM → Option (MM)} (hK12 : ∀ (x0 : Nat) (x1 : Int32) (x2 : Int32) (M : MM), V G trV 7 0 0 12 [(0, .ref x0), (1, .int x1), (2, .int x2)] [] M (K12 x0 x1 x2 M)) {K19 : Nat → Int32 → Int32 → Int32 → MM → Option (MM)} (hK19 : ∀ (x0 : Nat) (x1 : Int32) (x2 : Int32) (x3 : Int32) (M : MM), V G trV 7 0 0 19 [(0, .ref x0), (1, .int x1), (2, .int x2), (3, .int x3)] [] M (K19 x0 x1 x2 x3 M)) {K33 : Nat → Int32 → Int32 → Int32 → Int32 → MM → Option (MM)} (hK33 : ∀ (x0 : Nat) (x1 : Int32) (x2 : Int32) (x3 : Int32) (x4 : Int32) (M : MM), V G trV 7 0 0 33 [(0, .ref x0), (1, .int x1), (2, .int x2), (3, .int x3), (4, .int x4)] [] M (K33 x0 x1 x2 x3 x4 M)) (x0 : Nat) (x1 : Int32) (x2 : Int32) (x3 : Int32) (x4 : Int32) (M : MM) : V G trV 7 0 0 102 [(0, .ref x0), (1, .int x1), (2, .int x2), (3, .int x3), (4, .int x4)] [] M (f_X3_search_102 K12 K19 K33 x0 x1 x2 x3 x4 M) := by
  unfold f_X3_search_102
  refine v_aload_n X 103 0 dX3_search_102 rfl rfl ?_
  refine v_getR X 106 fl_X3_22.r dX3_search_103 rfl (fun v1 => ?_)
  refine v_vV X 109 cv_X5_removeLast ml_X3_94 (n1 := 2) rfl [] rfl rfl rfl dX3_search_106 rfl (fun M1 h => c_X5_removeLast _ _ _ _ h) (fun M2 => ?_)
  exact L_X3_search_109 X Y hK12 hK19 hK33 _ _ _ _ _ _
set_option maxRecDepth 4000 in
theorem L_X3_search_33 {G : Gx} (X : Cb G cX3_search 7 RX3 (RM 7 0 0) false) (Y : Cr G none 0 0) {K12 : Nat → Int32 → Int32 → MM → Option (MM)} (hK12 : ∀ (x0 : Nat) (x1 : Int32) (x2 : Int32) (M : MM), V G trV 7 0 0 12 [(0, .ref x0), (1, .int x1), (2, .int x2)] [] M (K12 x0 x1 x2 M)) {K19 : Nat → Int32 → Int32 → Int32 → MM → Option (MM)} (hK19 : ∀ (x0 : Nat) (x1 : Int32) (x2 : Int32) (x3 : Int32) (M : MM), V G trV 7 0 0 19 [(0, .ref x0), (1, .int x1), (2, .int x2), (3, .int x3)] [] M (K19 x0 x1 x2 x3 M)) : ∀ (n : Nat) (x0 : Nat) (x1 : Int32) (x2 : Int32) (x3 : Int32) (x4 : Int32) (M : MM), V G trV 7 0 0 33 [(0, .ref x0), (1, .int x1), (2, .int x2), (3, .int x3), (4, .int x4)] [] M (f_X3_search_33 K12 K19 n x0 x1 x2 x3 x4 M) := by
  intro n
  induction n with
  | zero => intro x0 x1 x2 x3 x4 M; rw [f_X3_search_33]; exact v_none
  | succ n ih =>
    intro x0 x1 x2 x3 x4 M
    rw [f_X3_search_33]
    refine v_iload X 35 4 dX3_search_33 rfl rfl ?_
    refine v_aload_n X 36 0 dX3_search_35 rfl rfl ?_
    refine v_getR X 39 fl_X3_18.r dX3_search_36 rfl (fun v1 => ?_)
    refine v_getI X 42 fl_X3_77.r dX3_search_39 rfl (fun v2 => ?_)
    refine v_icge X 45 115 dX3_search_42 rfl rfl ?_ ?_
    · refine v_iinc X 118 3 (fun z => [(0, .ref x0), (1, .int x1), (2, .int x2), (3, .int z), (4, .int x4)]) dX3_search_115 rfl ik_1 (by decide) (fun _ => rfl) rfl (fun y3 => ?_)
      refine v_goto X 19 dX3_search_118 rfl ?_
      exact v_sb [0, 1, 2, 3] (hK19 _ _ _ _ _) rfl
    · refine v_aload_n X 46 0 dX3_search_45 rfl rfl ?_
      refine v_getR X 49 fl_X3_26.r dX3_search_46 rfl (fun v4 => ?_)
      refine v_vV X 52 cv_X1_look ml_X3_112 (n1 := 3) rfl [] rfl rfl rfl dX3_search_49 rfl (fun M1 h => c_X1_look _ _ _ _ h) (fun M5 => ?_)
      refine v_aload_n X 53 0 dX3_search_52 rfl rfl ?_
      refine v_iload_n X 54 3 dX3_search_53 rfl rfl ?_
      refine v_iload X 56 4 dX3_search_54 rfl rfl ?_
      refine v_vI X 59 cv_X3_soonest ml_X3_74 (n1 := 5) rfl [.int x3, .int x4] rfl rfl rfl dX3_search_56 rfl (fun r M1 h => c_X3_soonest _ _ _ _ _ _ _ h) (fun r7 M6 => ?_)
      refine v_istore (lv' := [(0, .ref x0), (1, .int x1), (2, .int x2), (3, .int x3), (4, .int x4), (5, .int r7)]) X 61 dX3_search_59 (by decide) rfl rfl ?_
      refine v_iload X 63 5 dX3_search_61 rfl rfl ?_
      refine v_ifge X 66 69 dX3_search_63 rfl rfl ?_ ?_
      · refine v_aload_n X 70 0 dX3_search_69 rfl rfl ?_
        refine v_iload_n X 71 3 dX3_search_70 rfl rfl ?_
        refine v_iload X 73 4 dX3_search_71 rfl rfl ?_
        refine v_iload X 75 5 dX3_search_73 rfl rfl ?_
        refine v_iconst X 76 dX3_search_75 ik_0 rfl ?_
        refine v_vI X 79 cv_X3_put ml_X3_115 (n1 := 5) rfl [.int x3, .int x4, .int r7, .int (0 : Int32)] rfl rfl rfl dX3_search_76 rfl (fun r M1 h => c_X3_put _ _ _ _ _ _ _ _ _ h) (fun r9 M8 => ?_)
        refine v_istore (lv' := [(0, .ref x0), (1, .int x1), (2, .int x2), (3, .int x3), (4, .int x4), (5, .int r7), (6, .int r9)]) X 81 dX3_search_79 (by decide) rfl rfl ?_
        refine v_iload_n X 82 2 dX3_search_81 rfl rfl ?_
        refine v_iconst X 83 dX3_search_82 ik_1 rfl ?_
        refine v_icne X 86 96 dX3_search_83 rfl rfl ?_ ?_
        · refine v_aload_n X 97 0 dX3_search_96 rfl rfl ?_
          refine v_iload X 99 6 dX3_search_97 rfl rfl ?_
          refine v_vV X 102 cv_X3_trySecond ml_X3_123 (n1 := 6) rfl [.int r9] rfl rfl rfl dX3_search_99 rfl (fun M1 h => c_X3_trySecond _ _ _ _ _ h) (fun M10 => ?_)
          exact v_sb [0, 1, 2, 3, 4] (L_X3_search_102 X Y hK12 hK19 ih _ _ _ _ _ _) rfl
        · refine v_aload_n X 87 0 dX3_search_86 rfl rfl ?_
          refine v_iload X 89 6 dX3_search_87 rfl rfl ?_
          refine v_iconst X 90 dX3_search_89 ik_1 rfl ?_
          refine v_vV X 93 cv_X3_take ml_X3_119 (n1 := 1) rfl [.int r9, .int (1 : Int32)] rfl rfl rfl dX3_search_90 rfl (fun M1 h => c_X3_take _ _ _ _ _ _ h) (fun M11 => ?_)
          refine v_goto X 102 dX3_search_93 rfl ?_
          exact v_sb [0, 1, 2, 3, 4] (L_X3_search_102 X Y hK12 hK19 ih _ _ _ _ _ _) rfl
      · refine v_goto X 109 dX3_search_66 rfl ?_
        exact v_sb [0, 1, 2, 3, 4] (L_X3_search_109 X Y hK12 hK19 ih _ _ _ _ _ _) rfl
set_option maxRecDepth 4000 in
theorem L_X3_search_19 {G : Gx} (X : Cb G cX3_search 7 RX3 (RM 7 0 0) false) (Y : Cr G none 0 0) {K12 : Nat → Int32 → Int32 → MM → Option (MM)} (hK12 : ∀ (x0 : Nat) (x1 : Int32) (x2 : Int32) (M : MM), V G trV 7 0 0 12 [(0, .ref x0), (1, .int x1), (2, .int x2)] [] M (K12 x0 x1 x2 M)) : ∀ (n : Nat) (x0 : Nat) (x1 : Int32) (x2 : Int32) (x3 : Int32) (M : MM), V G trV 7 0 0 19 [(0, .ref x0), (1, .int x1), (2, .int x2), (3, .int x3)] [] M (f_X3_search_19 K12 n x0 x1 x2 x3 M) := by
  intro n
  induction n with
  | zero => intro x0 x1 x2 x3 M; rw [f_X3_search_19]; exact v_none
  | succ n ih =>
    intro x0 x1 x2 x3 M
    rw [f_X3_search_19]
    refine v_iload_n X 20 3 dX3_search_19 rfl rfl ?_
    refine v_aload_n X 21 0 dX3_search_20 rfl rfl ?_
    refine v_getR X 24 fl_X3_18.r dX3_search_21 rfl (fun v1 => ?_)
    refine v_getI X 27 fl_X3_70.r dX3_search_24 rfl (fun v2 => ?_)
    refine v_icge X 30 121 dX3_search_27 rfl rfl ?_ ?_
    · refine v_iinc X 124 2 (fun z => [(0, .ref x0), (1, .int x1), (2, .int z), (3, .int x3)]) dX3_search_121 rfl ik_1 (by decide) (fun _ => rfl) rfl (fun y3 => ?_)
      refine v_goto X 12 dX3_search_124 rfl ?_
      exact v_sb [0, 1, 2] (hK12 _ _ _ _) rfl
    · refine v_iconst X 31 dX3_search_30 ik_0 rfl ?_
      refine v_istore (lv' := [(0, .ref x0), (1, .int x1), (2, .int x2), (3, .int x3), (4, .int (0 : Int32))]) X 33 dX3_search_31 (by decide) rfl rfl ?_
      exact L_X3_search_33 X Y hK12 ih 1024 _ _ _ _ _ _
set_option maxRecDepth 4000 in
theorem L_X3_search_12 {G : Gx} (X : Cb G cX3_search 7 RX3 (RM 7 0 0) false) (Y : Cr G none 0 0) : ∀ (n : Nat) (x0 : Nat) (x1 : Int32) (x2 : Int32) (M : MM), V G trV 7 0 0 12 [(0, .ref x0), (1, .int x1), (2, .int x2)] [] M (f_X3_search_12 n x0 x1 x2 M) := by
  intro n
  induction n with
  | zero => intro x0 x1 x2 M; rw [f_X3_search_12]; exact v_none
  | succ n ih =>
    intro x0 x1 x2 M
    rw [f_X3_search_12]
    refine v_iload_n X 13 2 dX3_search_12 rfl rfl ?_
    refine v_iload_n X 14 1 dX3_search_13 rfl rfl ?_
    refine v_icgt X 17 127 dX3_search_14 rfl rfl ?_ ?_
    · exact v_vret X Y (Nat.le_refl _) (Nat.le_refl _) dX3_search_127
    · refine v_iconst X 18 dX3_search_17 ik_0 rfl ?_
      refine v_istore_n (lv' := [(0, .ref x0), (1, .int x1), (2, .int x2), (3, .int (0 : Int32))]) X 19 dX3_search_18 (by decide) rfl rfl ?_
      exact L_X3_search_19 X Y ih 1024 _ _ _ _ _
set_option maxRecDepth 4000 in
theorem L_X3_search_0 {G : Gx} (X : Cb G cX3_search 7 RX3 (RM 7 0 0) false) (Y : Cr G none 0 0) (x0 : Nat) (x1 : Int32) (M : MM) : V G trV 7 0 0 0 [(0, .ref x0), (1, .int x1)] [] M (f_X3_search_0 x0 x1 M) := by
  unfold f_X3_search_0
  refine v_aload_n X 1 0 dX3_search_0 rfl rfl ?_
  refine v_iconst X 2 dX3_search_1 ik_0 rfl ?_
  refine v_putI X 5 fl_X3_106 nof dX3_search_2 rfl (fun M1 => ?_)
  refine v_aload_n X 6 0 dX3_search_5 rfl rfl ?_
  refine v_iconst X 7 dX3_search_6 ik_0 rfl ?_
  refine v_putI X 10 fl_X3_109 nof dX3_search_7 rfl (fun M2 => ?_)
  refine v_iconst X 11 dX3_search_10 ik_1 rfl ?_
  refine v_istore_n (lv' := [(0, .ref x0), (1, .int x1), (2, .int (1 : Int32))]) X 12 dX3_search_11 (by decide) rfl rfl ?_
  exact L_X3_search_12 X Y 1024 _ _ _ _
theorem c_X3_search (l : Launch) (x0 : Nat) (x1 : Int32) (M : MM) (M1 : MM) (h : f_X3_search x0 x1 M = some M1) : KV l yX3_search cX3_search 7 none (RM 7 0 0) false 3 x0 [.int x1] M none M1 := by
  obtain ⟨hO, h2⟩ := iteO_some h
  exact ⟨hO, ct_of (tr := trV) (by decide) (Nat.le_of_ble_eq_true rfl) [(0, .ref x0), (1, .int x1)] rfl h2 (fun G X Y hn hl => L_X3_search_0 X Y x0 x1 M)⟩

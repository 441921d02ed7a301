def f_X2_clear_0 (x0 : Nat) (M : MM) : Option (MM) :=
    b1 (pL 2 0 x0 (0 : Int64) M) fun M1 =>
    b1 (pL 2 1 x0 (0 : Int64) M1) fun M2 =>
    some M2

def f_X2_clear (x0 : Nat) (M : MM) : Option (MM) := if isO 2 x0 M = true then f_X2_clear_0 x0 M else none
set_option maxRecDepth 4000 in
theorem L_X2_clear_0 {G : Gx} (X : Cb G cX2_clear 1 RX2 (RM 1 0 0) false) (Y : Cr G none 0 0) (x0 : Nat) (M : MM) : V G trV 1 0 0 0 [(0, .ref x0)] [] M (f_X2_clear_0 x0 M) := by
  unfold f_X2_clear_0
  refine v_aload_n X 1 0 dX2_clear_0 rfl rfl ?_
  refine v_lconst X 2 dX2_clear_1 lk_0 rfl ?_
  refine v_putL X 5 fl_X2_7 nof dX2_clear_2 rfl (fun M1 => ?_)
  refine v_aload_n X 6 0 dX2_clear_5 rfl rfl ?_
  refine v_lconst X 7 dX2_clear_6 lk_0 rfl ?_
  refine v_putL X 10 fl_X2_13 nof dX2_clear_7 rfl (fun M2 => ?_)
  exact v_vret X Y (Nat.le_refl _) (Nat.le_refl _) dX2_clear_10
theorem c_X2_clear (l : Launch) (x0 : Nat) (M : MM) (M1 : MM) (h : f_X2_clear x0 M = some M1) : KV l yX2_clear cX2_clear 1 none (RM 1 0 0) false 2 x0 [] M none M1 := by
  obtain ⟨hO, h2⟩ := iteO_some h
  exact ⟨hO, ct_of (tr := trV) (by decide) (Nat.le_of_ble_eq_true rfl) [(0, .ref x0)] rfl h2 (fun G X Y hn hl => L_X2_clear_0 X Y x0 M)⟩

def f_X2_fillTo_18 (x0 : Nat) (x1 : Int32) (s0 : Int64) (s1 : Nat) (M : MM) : Option (MM) :=
    b1 (pL 2 0 s1 s0 M) fun M1 =>
    if x1 ≤ (64 : Int32) then
      b1 (pL 2 1 x0 (0 : Int64) M1) fun M2 =>
      some M2
    else
      b1 (pL 2 1 x0 ((lshlv (1 : Int64) (x1 - (64 : Int32))) - (1 : Int64)) M1) fun M3 =>
      some M3

def f_X2_fillTo_0 (x0 : Nat) (x1 : Int32) (M : MM) : Option (MM) :=
    if x1 < (64 : Int32) then
      f_X2_fillTo_18 x0 x1 ((lshlv (1 : Int64) x1) - (1 : Int64)) x0 M
    else
      f_X2_fillTo_18 x0 x1 (-1 : Int64) x0 M

def f_X2_fillTo (x0 : Nat) (x1 : Int32) (M : MM) : Option (MM) := if isO 2 x0 M = true then f_X2_fillTo_0 x0 x1 M else none
set_option maxRecDepth 4000 in
theorem L_X2_fillTo_18 {G : Gx} (X : Cb G cX2_fillTo 2 RX2 (RM 1 0 0) false) (Y : Cr G none 0 0) (x0 : Nat) (x1 : Int32) (s0 : Int64) (s1 : Nat) (M : MM) : V G trV 2 0 0 18 [(0, .ref x0), (1, .int x1)] [.long s0, .ref s1] M (f_X2_fillTo_18 x0 x1 s0 s1 M) := by
  unfold f_X2_fillTo_18
  refine v_putL X 21 fl_X2_7 nof dX2_fillTo_18 rfl (fun M1 => ?_)
  refine v_aload_n X 22 0 dX2_fillTo_21 rfl rfl ?_
  refine v_iload_n X 23 1 dX2_fillTo_22 rfl rfl ?_
  refine v_bipush X 25 dX2_fillTo_23 bk_64 rfl ?_
  refine v_icle X 28 39 dX2_fillTo_25 rfl rfl ?_ ?_
  · refine v_lconst X 40 dX2_fillTo_39 lk_0 rfl ?_
    refine v_putL X 43 fl_X2_13 nof dX2_fillTo_40 rfl (fun M2 => ?_)
    exact v_vret X Y (Nat.le_refl _) (Nat.le_refl _) dX2_fillTo_43
  · refine v_lconst X 29 dX2_fillTo_28 lk_1 rfl ?_
    refine v_iload_n X 30 1 dX2_fillTo_29 rfl rfl ?_
    refine v_bipush X 32 dX2_fillTo_30 bk_64 rfl ?_
    refine v_isub X 33 dX2_fillTo_32 rfl ?_
    refine v_lshl X 34 dX2_fillTo_33 rfl ?_
    refine v_lconst X 35 dX2_fillTo_34 lk_1 rfl ?_
    refine v_lsub X 36 dX2_fillTo_35 rfl ?_
    refine v_goto X 40 dX2_fillTo_36 rfl ?_
    refine v_putL X 43 fl_X2_13 nof dX2_fillTo_40 rfl (fun M3 => ?_)
    exact v_vret X Y (Nat.le_refl _) (Nat.le_refl _) dX2_fillTo_43
set_option maxRecDepth 4000 in
theorem L_X2_fillTo_0 {G : Gx} (X : Cb G cX2_fillTo 2 RX2 (RM 1 0 0) false) (Y : Cr G none 0 0) (x0 : Nat) (x1 : Int32) (M : MM) : V G trV 2 0 0 0 [(0, .ref x0), (1, .int x1)] [] M (f_X2_fillTo_0 x0 x1 M) := by
  unfold f_X2_fillTo_0
  refine v_aload_n X 1 0 dX2_fillTo_0 rfl rfl ?_
  refine v_iload_n X 2 1 dX2_fillTo_1 rfl rfl ?_
  refine v_bipush X 4 dX2_fillTo_2 bk_64 rfl ?_
  refine v_iclt X 7 13 dX2_fillTo_4 rfl rfl ?_ ?_
  · refine v_lconst X 14 dX2_fillTo_13 lk_1 rfl ?_
    refine v_iload_n X 15 1 dX2_fillTo_14 rfl rfl ?_
    refine v_lshl X 16 dX2_fillTo_15 rfl ?_
    refine v_lconst X 17 dX2_fillTo_16 lk_1 rfl ?_
    refine v_lsub X 18 dX2_fillTo_17 rfl ?_
    exact L_X2_fillTo_18 X Y _ _ _ _ _
  · refine v_ldc2 X 10 dX2_fillTo_7 kl_X2_16 rfl ?_
    refine v_goto X 18 dX2_fillTo_10 rfl ?_
    exact L_X2_fillTo_18 X Y _ _ _ _ _
theorem c_X2_fillTo (l : Launch) (x0 : Nat) (x1 : Int32) (M : MM) (M1 : MM) (h : f_X2_fillTo x0 x1 M = some M1) : KV l yX2_fillTo cX2_fillTo 2 none (RM 1 0 0) false 2 x0 [.int x1] M none M1 := by
  obtain ⟨hO, h2⟩ := iteO_some h
  exact ⟨hO, ct_of (tr := trV) (by decide) (Nat.le_of_ble_eq_true rfl) [(0, .ref x0), (1, .int x1)] rfl h2 (fun G X Y hn hl => L_X2_fillTo_0 X Y x0 x1 M)⟩

def f_X2_add_0 (x0 : Nat) (x1 : Int32) (x2 : Int32) (M : MM) : Option (MM) :=
    bn ((lshlv (1 : Int64) x2) - (1 : Int64) : Int64) fun y1 =>
    if x1 < (64 : Int32) then
      b1 (gL 2 0 x0 M) fun v2 =>
      b1 (pL 2 0 x0 (v2 ||| (lshlv y1 x1)) M) fun M3 =>
      if x1 ≤ 0 then
        some M3
      else
        b1 (gL 2 1 x0 M3) fun v4 =>
        b1 (pL 2 1 x0 (v4 ||| (lushv y1 ((64 : Int32) - x1))) M3) fun M5 =>
        some M5
    else
      b1 (gL 2 1 x0 M) fun v6 =>
      b1 (pL 2 1 x0 (v6 ||| (lshlv y1 (x1 - (64 : Int32)))) M) fun M7 =>
      some M7

def f_X2_add (x0 : Nat) (x1 : Int32) (x2 : Int32) (M : MM) : Option (MM) := if isO 2 x0 M = true then f_X2_add_0 x0 x1 x2 M else none
set_option maxRecDepth 4000 in
theorem L_X2_add_0 {G : Gx} (X : Cb G cX2_add 5 RX2 (RM 1 0 0) false) (Y : Cr G none 0 0) (x0 : Nat) (x1 : Int32) (x2 : Int32) (M : MM) : V G trV 5 0 0 0 [(0, .ref x0), (1, .int x1), (2, .int x2)] [] M (f_X2_add_0 x0 x1 x2 M) := by
  unfold f_X2_add_0
  refine v_lconst X 1 dX2_add_0 lk_1 rfl ?_
  refine v_iload_n X 2 2 dX2_add_1 rfl rfl ?_
  refine v_lshl X 3 dX2_add_2 rfl ?_
  refine v_lconst X 4 dX2_add_3 lk_1 rfl ?_
  refine v_lsub X 5 dX2_add_4 rfl ?_
  refine v_bnJ (fun y1 => ?_)
  refine v_lstore_n (lv' := [(0, .ref x0), (1, .int x1), (2, .int x2), (3, .long y1)]) X 6 dX2_add_5 (by decide) rfl rfl ?_
  refine v_iload_n X 7 1 dX2_add_6 rfl rfl ?_
  refine v_bipush X 9 dX2_add_7 bk_64 rfl ?_
  refine v_iclt X 12 28 dX2_add_9 rfl rfl ?_ ?_
  · refine v_aload_n X 29 0 dX2_add_28 rfl rfl ?_
    refine v_dup X 30 dX2_add_29 rfl rfl ?_
    refine v_getL X 33 fl_X2_7.r dX2_add_30 rfl (fun v2 => ?_)
    refine v_lload_n X 34 3 dX2_add_33 rfl rfl ?_
    refine v_iload_n X 35 1 dX2_add_34 rfl rfl ?_
    refine v_lshl X 36 dX2_add_35 rfl ?_
    refine v_lor X 37 dX2_add_36 rfl ?_
    refine v_putL X 40 fl_X2_7 nof dX2_add_37 rfl (fun M3 => ?_)
    refine v_iload_n X 41 1 dX2_add_40 rfl rfl ?_
    refine v_ifle X 44 59 dX2_add_41 rfl rfl ?_ ?_
    · exact v_vret X Y (Nat.le_refl _) (Nat.le_refl _) dX2_add_59
    · refine v_aload_n X 45 0 dX2_add_44 rfl rfl ?_
      refine v_dup X 46 dX2_add_45 rfl rfl ?_
      refine v_getL X 49 fl_X2_13.r dX2_add_46 rfl (fun v4 => ?_)
      refine v_lload_n X 50 3 dX2_add_49 rfl rfl ?_
      refine v_bipush X 52 dX2_add_50 bk_64 rfl ?_
      refine v_iload_n X 53 1 dX2_add_52 rfl rfl ?_
      refine v_isub X 54 dX2_add_53 rfl ?_
      refine v_lushr X 55 dX2_add_54 rfl ?_
      refine v_lor X 56 dX2_add_55 rfl ?_
      refine v_putL X 59 fl_X2_13 nof dX2_add_56 rfl (fun M5 => ?_)
      exact v_vret X Y (Nat.le_refl _) (Nat.le_refl _) dX2_add_59
  · refine v_aload_n X 13 0 dX2_add_12 rfl rfl ?_
    refine v_dup X 14 dX2_add_13 rfl rfl ?_
    refine v_getL X 17 fl_X2_13.r dX2_add_14 rfl (fun v6 => ?_)
    refine v_lload_n X 18 3 dX2_add_17 rfl rfl ?_
    refine v_iload_n X 19 1 dX2_add_18 rfl rfl ?_
    refine v_bipush X 21 dX2_add_19 bk_64 rfl ?_
    refine v_isub X 22 dX2_add_21 rfl ?_
    refine v_lshl X 23 dX2_add_22 rfl ?_
    refine v_lor X 24 dX2_add_23 rfl ?_
    refine v_putL X 27 fl_X2_13 nof dX2_add_24 rfl (fun M7 => ?_)
    exact v_vret X Y (Nat.le_refl _) (Nat.le_refl _) dX2_add_27
theorem c_X2_add (l : Launch) (x0 : Nat) (x1 : Int32) (x2 : Int32) (M : MM) (M1 : MM) (h : f_X2_add x0 x1 x2 M = some M1) : KV l yX2_add cX2_add 5 none (RM 1 0 0) false 2 x0 [.int x1, .int x2] M none M1 := by
  obtain ⟨hO, h2⟩ := iteO_some h
  exact ⟨hO, ct_of (tr := trV) (by decide) (Nat.le_of_ble_eq_true rfl) [(0, .ref x0), (1, .int x1), (2, .int x2)] rfl h2 (fun G X Y hn hl => L_X2_add_0 X Y x0 x1 x2 M)⟩

def f_X2_has_24 (s0 : Int64) (M : MM) : Option (Int32 × MM) :=
    if (lg_cmp (s0 &&& (1 : Int64)) (0 : Int64)) = 0 then
      rz (0 : Int32) M
    else
      rz (1 : Int32) M

def f_X2_has_0 (x0 : Nat) (x1 : Int32) (M : MM) : Option (Int32 × MM) :=
    if x1 < (64 : Int32) then
      b1 (gL 2 0 x0 M) fun v1 =>
      f_X2_has_24 (lushv v1 x1) M
    else
      b1 (gL 2 1 x0 M) fun v2 =>
      f_X2_has_24 (lushv v2 (x1 - (64 : Int32))) M

def f_X2_has (x0 : Nat) (x1 : Int32) (M : MM) : Option (Int32 × MM) := if isO 2 x0 M = true then f_X2_has_0 x0 x1 M else none
set_option maxRecDepth 4000 in
theorem L_X2_has_24 {G : Gx} (X : Cb G cX2_has 2 RX2 (RM 1 0 0) false) (Y : Cr G (some .boolean) 0 0) (s0 : Int64) (M : MM) : V G trI 2 0 0 24 [] [.long s0] M (f_X2_has_24 s0 M) := by
  unfold f_X2_has_24
  refine v_lconst X 25 dX2_has_24 lk_1 rfl ?_
  refine v_land X 26 dX2_has_25 rfl ?_
  refine v_lconst X 27 dX2_has_26 lk_0 rfl ?_
  refine v_lcmp X 28 dX2_has_27 rfl ?_
  refine v_ifeq X 31 35 dX2_has_28 rfl rfl ?_ ?_
  · refine v_iconst X 36 dX2_has_35 ik_0 rfl ?_
    exact v_zret X Y (Nat.le_refl _) (Nat.le_refl _) dX2_has_36
  · refine v_iconst X 32 dX2_has_31 ik_1 rfl ?_
    refine v_goto X 36 dX2_has_32 rfl ?_
    exact v_zret X Y (Nat.le_refl _) (Nat.le_refl _) dX2_has_36
set_option maxRecDepth 4000 in
theorem L_X2_has_0 {G : Gx} (X : Cb G cX2_has 2 RX2 (RM 1 0 0) false) (Y : Cr G (some .boolean) 0 0) (x0 : Nat) (x1 : Int32) (M : MM) : V G trI 2 0 0 0 [(0, .ref x0), (1, .int x1)] [] M (f_X2_has_0 x0 x1 M) := by
  unfold f_X2_has_0
  refine v_iload_n X 1 1 dX2_has_0 rfl rfl ?_
  refine v_bipush X 3 dX2_has_1 bk_64 rfl ?_
  refine v_iclt X 6 18 dX2_has_3 rfl rfl ?_ ?_
  · refine v_aload_n X 19 0 dX2_has_18 rfl rfl ?_
    refine v_getL X 22 fl_X2_7.r dX2_has_19 rfl (fun v1 => ?_)
    refine v_iload_n X 23 1 dX2_has_22 rfl rfl ?_
    refine v_lushr X 24 dX2_has_23 rfl ?_
    exact v_sb [] (L_X2_has_24 X Y _ _) rfl
  · refine v_aload_n X 7 0 dX2_has_6 rfl rfl ?_
    refine v_getL X 10 fl_X2_13.r dX2_has_7 rfl (fun v2 => ?_)
    refine v_iload_n X 11 1 dX2_has_10 rfl rfl ?_
    refine v_bipush X 13 dX2_has_11 bk_64 rfl ?_
    refine v_isub X 14 dX2_has_13 rfl ?_
    refine v_lushr X 15 dX2_has_14 rfl ?_
    refine v_goto X 24 dX2_has_15 rfl ?_
    exact v_sb [] (L_X2_has_24 X Y _ _) rfl
theorem c_X2_has (l : Launch) (x0 : Nat) (x1 : Int32) (M : MM) (r : Int32) (M1 : MM) (h : f_X2_has x0 x1 M = some (r, M1)) : KV l yX2_has cX2_has 2 (some .boolean) (RM 1 0 0) false 2 x0 [.int x1] M (some (.int r)) M1 := by
  obtain ⟨hO, h2⟩ := iteO_some h
  exact ⟨hO, ct_of (tr := trI) (by decide) (Nat.le_of_ble_eq_true rfl) [(0, .ref x0), (1, .int x1)] rfl h2 (fun G X Y hn hl => L_X2_has_0 X Y x0 x1 M)⟩

def f_X2_part_47 (x2 : Int32) (x3 : Int64) (M : MM) : Option (Int64 × MM) :=
    some (x3 &&& ((lshlv (1 : Int64) x2) - (1 : Int64)), M)

def f_X2_part_24 (x0 : Nat) (x1 : Int32) (x2 : Int32) (s0 : Int64) (M : MM) : Option (Int64 × MM) :=
    if x1 ≤ 0 then
      f_X2_part_47 x2 s0 M
    else
      if (64 : Int32) ≤ x1 then
        f_X2_part_47 x2 s0 M
      else
        b1 (gL 2 1 x0 M) fun v1 =>
        bn (s0 ||| (lshlv v1 ((64 : Int32) - x1)) : Int64) fun y2 =>
        f_X2_part_47 x2 y2 M

def f_X2_part_0 (x0 : Nat) (x1 : Int32) (x2 : Int32) (M : MM) : Option (Int64 × MM) :=
    if x1 < (64 : Int32) then
      b1 (gL 2 0 x0 M) fun v1 =>
      f_X2_part_24 x0 x1 x2 (lushv v1 x1) M
    else
      b1 (gL 2 1 x0 M) fun v2 =>
      f_X2_part_24 x0 x1 x2 (lushv v2 (x1 - (64 : Int32))) M

def f_X2_part (x0 : Nat) (x1 : Int32) (x2 : Int32) (M : MM) : Option (Int64 × MM) := if isO 2 x0 M = true then f_X2_part_0 x0 x1 x2 M else none
set_option maxRecDepth 4000 in
theorem L_X2_part_47 {G : Gx} (X : Cb G cX2_part 5 RX2 (RM 1 0 0) false) (Y : Cr G (some .long) 0 0) (x2 : Int32) (x3 : Int64) (M : MM) : V G trL 5 0 0 47 [(2, .int x2), (3, .long x3)] [] M (f_X2_part_47 x2 x3 M) := by
  unfold f_X2_part_47
  refine v_lload_n X 48 1 dX2_part_47 rfl rfl ?_
  refine v_lconst X 49 dX2_part_48 lk_1 rfl ?_
  refine v_iload_n X 50 0 dX2_part_49 rfl rfl ?_
  refine v_lshl X 51 dX2_part_50 rfl ?_
  refine v_lconst X 52 dX2_part_51 lk_1 rfl ?_
  refine v_lsub X 53 dX2_part_52 rfl ?_
  refine v_land X 54 dX2_part_53 rfl ?_
  exact v_lret X Y (Nat.le_refl _) (Nat.le_refl _) dX2_part_54
set_option maxRecDepth 4000 in
theorem L_X2_part_24 {G : Gx} (X : Cb G cX2_part 5 RX2 (RM 1 0 0) false) (Y : Cr G (some .long) 0 0) (x0 : Nat) (x1 : Int32) (x2 : Int32) (s0 : Int64) (M : MM) : V G trL 5 0 0 24 [(0, .ref x0), (1, .int x1), (2, .int x2)] [.long s0] M (f_X2_part_24 x0 x1 x2 s0 M) := by
  unfold f_X2_part_24
  refine v_lstore_n (lv' := [(0, .ref x0), (1, .int x1), (2, .int x2), (3, .long s0)]) X 25 dX2_part_24 (by decide) rfl rfl ?_
  refine v_iload_n X 26 1 dX2_part_25 rfl rfl ?_
  refine v_ifle X 29 47 dX2_part_26 rfl rfl ?_ ?_
  · exact v_sb [2, 3] (L_X2_part_47 X Y _ _ _) rfl
  · refine v_iload_n X 30 1 dX2_part_29 rfl rfl ?_
    refine v_bipush X 32 dX2_part_30 bk_64 rfl ?_
    refine v_icge X 35 47 dX2_part_32 rfl rfl ?_ ?_
    · exact v_sb [2, 3] (L_X2_part_47 X Y _ _ _) rfl
    · refine v_lload_n X 36 3 dX2_part_35 rfl rfl ?_
      refine v_aload_n X 37 0 dX2_part_36 rfl rfl ?_
      refine v_getL X 40 fl_X2_13.r dX2_part_37 rfl (fun v1 => ?_)
      refine v_bipush X 42 dX2_part_40 bk_64 rfl ?_
      refine v_iload_n X 43 1 dX2_part_42 rfl rfl ?_
      refine v_isub X 44 dX2_part_43 rfl ?_
      refine v_lshl X 45 dX2_part_44 rfl ?_
      refine v_lor X 46 dX2_part_45 rfl ?_
      refine v_bnJ (fun y2 => ?_)
      refine v_lstore_n (lv' := [(0, .ref x0), (1, .int x1), (2, .int x2), (3, .long y2)]) X 47 dX2_part_46 (by decide) rfl rfl ?_
      exact v_sb [2, 3] (L_X2_part_47 X Y _ _ _) rfl
set_option maxRecDepth 4000 in
theorem L_X2_part_0 {G : Gx} (X : Cb G cX2_part 5 RX2 (RM 1 0 0) false) (Y : Cr G (some .long) 0 0) (x0 : Nat) (x1 : Int32) (x2 : Int32) (M : MM) : V G trL 5 0 0 0 [(0, .ref x0), (1, .int x1), (2, .int x2)] [] M (f_X2_part_0 x0 x1 x2 M) := by
  unfold f_X2_part_0
  refine v_iload_n X 1 1 dX2_part_0 rfl rfl ?_
  refine v_bipush X 3 dX2_part_1 bk_64 rfl ?_
  refine v_iclt X 6 18 dX2_part_3 rfl rfl ?_ ?_
  · refine v_aload_n X 19 0 dX2_part_18 rfl rfl ?_
    refine v_getL X 22 fl_X2_7.r dX2_part_19 rfl (fun v1 => ?_)
    refine v_iload_n X 23 1 dX2_part_22 rfl rfl ?_
    refine v_lushr X 24 dX2_part_23 rfl ?_
    exact L_X2_part_24 X Y _ _ _ _ _
  · refine v_aload_n X 7 0 dX2_part_6 rfl rfl ?_
    refine v_getL X 10 fl_X2_13.r dX2_part_7 rfl (fun v2 => ?_)
    refine v_iload_n X 11 1 dX2_part_10 rfl rfl ?_
    refine v_bipush X 13 dX2_part_11 bk_64 rfl ?_
    refine v_isub X 14 dX2_part_13 rfl ?_
    refine v_lushr X 15 dX2_part_14 rfl ?_
    refine v_goto X 24 dX2_part_15 rfl ?_
    exact L_X2_part_24 X Y _ _ _ _ _
theorem c_X2_part (l : Launch) (x0 : Nat) (x1 : Int32) (x2 : Int32) (M : MM) (r : Int64) (M1 : MM) (h : f_X2_part x0 x1 x2 M = some (r, M1)) : KV l yX2_part cX2_part 5 (some .long) (RM 1 0 0) false 2 x0 [.int x1, .int x2] M (some (.long r)) M1 := by
  obtain ⟨hO, h2⟩ := iteO_some h
  exact ⟨hO, ct_of (tr := trL) (by decide) (Nat.le_of_ble_eq_true rfl) [(0, .ref x0), (1, .int x1), (2, .int x2)] rfl h2 (fun G X Y hn hl => L_X2_part_0 X Y x0 x1 x2 M)⟩

def f_X2_isEmpty_0 (x0 : Nat) (M : MM) : Option (Int32 × MM) :=
    b1 (gL 2 0 x0 M) fun v1 =>
    b1 (gL 2 1 x0 M) fun v2 =>
    if (lg_cmp (v1 ||| v2) (0 : Int64)) = 0 then
      rz (1 : Int32) M
    else
      rz (0 : Int32) M

def f_X2_isEmpty (x0 : Nat) (M : MM) : Option (Int32 × MM) := if isO 2 x0 M = true then f_X2_isEmpty_0 x0 M else none
set_option maxRecDepth 4000 in
theorem L_X2_isEmpty_0 {G : Gx} (X : Cb G cX2_isEmpty 1 RX2 (RM 1 0 0) false) (Y : Cr G (some .boolean) 0 0) (x0 : Nat) (M : MM) : V G trI 1 0 0 0 [(0, .ref x0)] [] M (f_X2_isEmpty_0 x0 M) := by
  unfold f_X2_isEmpty_0
  refine v_aload_n X 1 0 dX2_isEmpty_0 rfl rfl ?_
  refine v_getL X 4 fl_X2_7.r dX2_isEmpty_1 rfl (fun v1 => ?_)
  refine v_aload_n X 5 0 dX2_isEmpty_4 rfl rfl ?_
  refine v_getL X 8 fl_X2_13.r dX2_isEmpty_5 rfl (fun v2 => ?_)
  refine v_lor X 9 dX2_isEmpty_8 rfl ?_
  refine v_lconst X 10 dX2_isEmpty_9 lk_0 rfl ?_
  refine v_lcmp X 11 dX2_isEmpty_10 rfl ?_
  refine v_ifne X 14 18 dX2_isEmpty_11 rfl rfl ?_ ?_
  · refine v_iconst X 19 dX2_isEmpty_18 ik_0 rfl ?_
    exact v_zret X Y (Nat.le_refl _) (Nat.le_refl _) dX2_isEmpty_19
  · refine v_iconst X 15 dX2_isEmpty_14 ik_1 rfl ?_
    refine v_goto X 19 dX2_isEmpty_15 rfl ?_
    exact v_zret X Y (Nat.le_refl _) (Nat.le_refl _) dX2_isEmpty_19
theorem c_X2_isEmpty (l : Launch) (x0 : Nat) (M : MM) (r : Int32) (M1 : MM) (h : f_X2_isEmpty x0 M = some (r, M1)) : KV l yX2_isEmpty cX2_isEmpty 1 (some .boolean) (RM 1 0 0) false 2 x0 [] M (some (.int r)) M1 := by
  obtain ⟨hO, h2⟩ := iteO_some h
  exact ⟨hO, ct_of (tr := trI) (by decide) (Nat.le_of_ble_eq_true rfl) [(0, .ref x0)] rfl h2 (fun G X Y hn hl => L_X2_isEmpty_0 X Y x0 M)⟩

def f_X2_hasMoreThan_0 (x0 : Nat) (x1 : Nat) (M : MM) : Option (Int32 × MM) :=
    b1 (gL 2 0 x0 M) fun v1 =>
    b1 (gL 2 0 x1 M) fun v2 =>
    b1 (gL 2 1 x0 M) fun v3 =>
    b1 (gL 2 1 x1 M) fun v4 =>
    if (lg_cmp ((v1 &&& (v2 ^^^ (-1 : Int64))) ||| (v3 &&& (v4 ^^^ (-1 : Int64)))) (0 : Int64)) = 0 then
      rz (0 : Int32) M
    else
      rz (1 : Int32) M

def f_X2_hasMoreThan (x0 : Nat) (x1 : Nat) (M : MM) : Option (Int32 × MM) := if isO 2 x0 M = true then f_X2_hasMoreThan_0 x0 x1 M else none
set_option maxRecDepth 4000 in
theorem L_X2_hasMoreThan_0 {G : Gx} (X : Cb G cX2_hasMoreThan 2 RX2 (RM 1 0 0) false) (Y : Cr G (some .boolean) 0 0) (x0 : Nat) (x1 : Nat) (M : MM) : V G trI 2 0 0 0 [(0, .ref x0), (1, .ref x1)] [] M (f_X2_hasMoreThan_0 x0 x1 M) := by
  unfold f_X2_hasMoreThan_0
  refine v_aload_n X 1 0 dX2_hasMoreThan_0 rfl rfl ?_
  refine v_getL X 4 fl_X2_7.r dX2_hasMoreThan_1 rfl (fun v1 => ?_)
  refine v_aload_n X 5 1 dX2_hasMoreThan_4 rfl rfl ?_
  refine v_getL X 8 fl_X2_7.r dX2_hasMoreThan_5 rfl (fun v2 => ?_)
  refine v_ldc2 X 11 dX2_hasMoreThan_8 kl_X2_16 rfl ?_
  refine v_lxor X 12 dX2_hasMoreThan_11 rfl ?_
  refine v_land X 13 dX2_hasMoreThan_12 rfl ?_
  refine v_aload_n X 14 0 dX2_hasMoreThan_13 rfl rfl ?_
  refine v_getL X 17 fl_X2_13.r dX2_hasMoreThan_14 rfl (fun v3 => ?_)
  refine v_aload_n X 18 1 dX2_hasMoreThan_17 rfl rfl ?_
  refine v_getL X 21 fl_X2_13.r dX2_hasMoreThan_18 rfl (fun v4 => ?_)
  refine v_ldc2 X 24 dX2_hasMoreThan_21 kl_X2_16 rfl ?_
  refine v_lxor X 25 dX2_hasMoreThan_24 rfl ?_
  refine v_land X 26 dX2_hasMoreThan_25 rfl ?_
  refine v_lor X 27 dX2_hasMoreThan_26 rfl ?_
  refine v_lconst X 28 dX2_hasMoreThan_27 lk_0 rfl ?_
  refine v_lcmp X 29 dX2_hasMoreThan_28 rfl ?_
  refine v_ifeq X 32 36 dX2_hasMoreThan_29 rfl rfl ?_ ?_
  · refine v_iconst X 37 dX2_hasMoreThan_36 ik_0 rfl ?_
    exact v_zret X Y (Nat.le_refl _) (Nat.le_refl _) dX2_hasMoreThan_37
  · refine v_iconst X 33 dX2_hasMoreThan_32 ik_1 rfl ?_
    refine v_goto X 37 dX2_hasMoreThan_33 rfl ?_
    exact v_zret X Y (Nat.le_refl _) (Nat.le_refl _) dX2_hasMoreThan_37
theorem c_X2_hasMoreThan (l : Launch) (x0 : Nat) (x1 : Nat) (M : MM) (r : Int32) (M1 : MM) (h : f_X2_hasMoreThan x0 x1 M = some (r, M1)) : KV l yX2_hasMoreThan cX2_hasMoreThan 2 (some .boolean) (RM 1 0 0) false 2 x0 [.ref x1] M (some (.int r)) M1 := by
  obtain ⟨hO, h2⟩ := iteO_some h
  exact ⟨hO, ct_of (tr := trI) (by decide) (Nat.le_of_ble_eq_true rfl) [(0, .ref x0), (1, .ref x1)] rfl h2 (fun G X Y hn hl => L_X2_hasMoreThan_0 X Y x0 x1 M)⟩

def f_X2_join_0 (x0 : Nat) (x1 : Nat) (M : MM) : Option (MM) :=
    b1 (gL 2 0 x0 M) fun v1 =>
    b1 (gL 2 0 x1 M) fun v2 =>
    b1 (pL 2 0 x0 (v1 ||| v2) M) fun M3 =>
    b1 (gL 2 1 x0 M3) fun v4 =>
    b1 (gL 2 1 x1 M3) fun v5 =>
    b1 (pL 2 1 x0 (v4 ||| v5) M3) fun M6 =>
    some M6

def f_X2_join (x0 : Nat) (x1 : Nat) (M : MM) : Option (MM) := if isO 2 x0 M = true then f_X2_join_0 x0 x1 M else none
set_option maxRecDepth 4000 in
theorem L_X2_join_0 {G : Gx} (X : Cb G cX2_join 2 RX2 (RM 1 0 0) false) (Y : Cr G none 0 0) (x0 : Nat) (x1 : Nat) (M : MM) : V G trV 2 0 0 0 [(0, .ref x0), (1, .ref x1)] [] M (f_X2_join_0 x0 x1 M) := by
  unfold f_X2_join_0
  refine v_aload_n X 1 0 dX2_join_0 rfl rfl ?_
  refine v_dup X 2 dX2_join_1 rfl rfl ?_
  refine v_getL X 5 fl_X2_7.r dX2_join_2 rfl (fun v1 => ?_)
  refine v_aload_n X 6 1 dX2_join_5 rfl rfl ?_
  refine v_getL X 9 fl_X2_7.r dX2_join_6 rfl (fun v2 => ?_)
  refine v_lor X 10 dX2_join_9 rfl ?_
  refine v_putL X 13 fl_X2_7 nof dX2_join_10 rfl (fun M3 => ?_)
  refine v_aload_n X 14 0 dX2_join_13 rfl rfl ?_
  refine v_dup X 15 dX2_join_14 rfl rfl ?_
  refine v_getL X 18 fl_X2_13.r dX2_join_15 rfl (fun v4 => ?_)
  refine v_aload_n X 19 1 dX2_join_18 rfl rfl ?_
  refine v_getL X 22 fl_X2_13.r dX2_join_19 rfl (fun v5 => ?_)
  refine v_lor X 23 dX2_join_22 rfl ?_
  refine v_putL X 26 fl_X2_13 nof dX2_join_23 rfl (fun M6 => ?_)
  exact v_vret X Y (Nat.le_refl _) (Nat.le_refl _) dX2_join_26
theorem c_X2_join (l : Launch) (x0 : Nat) (x1 : Nat) (M : MM) (M1 : MM) (h : f_X2_join x0 x1 M = some M1) : KV l yX2_join cX2_join 2 none (RM 1 0 0) false 2 x0 [.ref x1] M none M1 := by
  obtain ⟨hO, h2⟩ := iteO_some h
  exact ⟨hO, ct_of (tr := trV) (by decide) (Nat.le_of_ble_eq_true rfl) [(0, .ref x0), (1, .ref x1)] rfl h2 (fun G X Y hn hl => L_X2_join_0 X Y x0 x1 M)⟩

def f_X2_without_0 (x0 : Nat) (x1 : Nat) (M : MM) : Option (MM) :=
    b1 (gL 2 0 x0 M) fun v1 =>
    b1 (gL 2 0 x1 M) fun v2 =>
    b1 (pL 2 0 x0 (v1 &&& (v2 ^^^ (-1 : Int64))) M) fun M3 =>
    b1 (gL 2 1 x0 M3) fun v4 =>
    b1 (gL 2 1 x1 M3) fun v5 =>
    b1 (pL 2 1 x0 (v4 &&& (v5 ^^^ (-1 : Int64))) M3) fun M6 =>
    some M6

def f_X2_without (x0 : Nat) (x1 : Nat) (M : MM) : Option (MM) := if isO 2 x0 M = true then f_X2_without_0 x0 x1 M else none
set_option maxRecDepth 4000 in
theorem L_X2_without_0 {G : Gx} (X : Cb G cX2_without 2 RX2 (RM 1 0 0) false) (Y : Cr G none 0 0) (x0 : Nat) (x1 : Nat) (M : MM) : V G trV 2 0 0 0 [(0, .ref x0), (1, .ref x1)] [] M (f_X2_without_0 x0 x1 M) := by
  unfold f_X2_without_0
  refine v_aload_n X 1 0 dX2_without_0 rfl rfl ?_
  refine v_aload_n X 2 0 dX2_without_1 rfl rfl ?_
  refine v_getL X 5 fl_X2_7.r dX2_without_2 rfl (fun v1 => ?_)
  refine v_aload_n X 6 1 dX2_without_5 rfl rfl ?_
  refine v_getL X 9 fl_X2_7.r dX2_without_6 rfl (fun v2 => ?_)
  refine v_ldc2 X 12 dX2_without_9 kl_X2_16 rfl ?_
  refine v_lxor X 13 dX2_without_12 rfl ?_
  refine v_land X 14 dX2_without_13 rfl ?_
  refine v_putL X 17 fl_X2_7 nof dX2_without_14 rfl (fun M3 => ?_)
  refine v_aload_n X 18 0 dX2_without_17 rfl rfl ?_
  refine v_aload_n X 19 0 dX2_without_18 rfl rfl ?_
  refine v_getL X 22 fl_X2_13.r dX2_without_19 rfl (fun v4 => ?_)
  refine v_aload_n X 23 1 dX2_without_22 rfl rfl ?_
  refine v_getL X 26 fl_X2_13.r dX2_without_23 rfl (fun v5 => ?_)
  refine v_ldc2 X 29 dX2_without_26 kl_X2_16 rfl ?_
  refine v_lxor X 30 dX2_without_29 rfl ?_
  refine v_land X 31 dX2_without_30 rfl ?_
  refine v_putL X 34 fl_X2_13 nof dX2_without_31 rfl (fun M6 => ?_)
  exact v_vret X Y (Nat.le_refl _) (Nat.le_refl _) dX2_without_34
theorem c_X2_without (l : Launch) (x0 : Nat) (x1 : Nat) (M : MM) (M1 : MM) (h : f_X2_without x0 x1 M = some M1) : KV l yX2_without cX2_without 2 none (RM 1 0 0) false 2 x0 [.ref x1] M none M1 := by
  obtain ⟨hO, h2⟩ := iteO_some h
  exact ⟨hO, ct_of (tr := trV) (by decide) (Nat.le_of_ble_eq_true rfl) [(0, .ref x0), (1, .ref x1)] rfl h2 (fun G X Y hn hl => L_X2_without_0 X Y x0 x1 M)⟩

def f_X2_keepOnly_0 (x0 : Nat) (x1 : Nat) (M : MM) : Option (MM) :=
    b1 (gL 2 0 x0 M) fun v1 =>
    b1 (gL 2 0 x1 M) fun v2 =>
    b1 (pL 2 0 x0 (v1 &&& v2) M) fun M3 =>
    b1 (gL 2 1 x0 M3) fun v4 =>
    b1 (gL 2 1 x1 M3) fun v5 =>
    b1 (pL 2 1 x0 (v4 &&& v5) M3) fun M6 =>
    some M6

def f_X2_keepOnly (x0 : Nat) (x1 : Nat) (M : MM) : Option (MM) := if isO 2 x0 M = true then f_X2_keepOnly_0 x0 x1 M else none
set_option maxRecDepth 4000 in
theorem L_X2_keepOnly_0 {G : Gx} (X : Cb G cX2_keepOnly 2 RX2 (RM 1 0 0) false) (Y : Cr G none 0 0) (x0 : Nat) (x1 : Nat) (M : MM) : V G trV 2 0 0 0 [(0, .ref x0), (1, .ref x1)] [] M (f_X2_keepOnly_0 x0 x1 M) := by
  unfold f_X2_keepOnly_0
  refine v_aload_n X 1 0 dX2_keepOnly_0 rfl rfl ?_
  refine v_dup X 2 dX2_keepOnly_1 rfl rfl ?_
  refine v_getL X 5 fl_X2_7.r dX2_keepOnly_2 rfl (fun v1 => ?_)
  refine v_aload_n X 6 1 dX2_keepOnly_5 rfl rfl ?_
  refine v_getL X 9 fl_X2_7.r dX2_keepOnly_6 rfl (fun v2 => ?_)
  refine v_land X 10 dX2_keepOnly_9 rfl ?_
  refine v_putL X 13 fl_X2_7 nof dX2_keepOnly_10 rfl (fun M3 => ?_)
  refine v_aload_n X 14 0 dX2_keepOnly_13 rfl rfl ?_
  refine v_dup X 15 dX2_keepOnly_14 rfl rfl ?_
  refine v_getL X 18 fl_X2_13.r dX2_keepOnly_15 rfl (fun v4 => ?_)
  refine v_aload_n X 19 1 dX2_keepOnly_18 rfl rfl ?_
  refine v_getL X 22 fl_X2_13.r dX2_keepOnly_19 rfl (fun v5 => ?_)
  refine v_land X 23 dX2_keepOnly_22 rfl ?_
  refine v_putL X 26 fl_X2_13 nof dX2_keepOnly_23 rfl (fun M6 => ?_)
  exact v_vret X Y (Nat.le_refl _) (Nat.le_refl _) dX2_keepOnly_26
theorem c_X2_keepOnly (l : Launch) (x0 : Nat) (x1 : Nat) (M : MM) (M1 : MM) (h : f_X2_keepOnly x0 x1 M = some M1) : KV l yX2_keepOnly cX2_keepOnly 2 none (RM 1 0 0) false 2 x0 [.ref x1] M none M1 := by
  obtain ⟨hO, h2⟩ := iteO_some h
  exact ⟨hO, ct_of (tr := trV) (by decide) (Nat.le_of_ble_eq_true rfl) [(0, .ref x0), (1, .ref x1)] rfl h2 (fun G X Y hn hl => L_X2_keepOnly_0 X Y x0 x1 M)⟩

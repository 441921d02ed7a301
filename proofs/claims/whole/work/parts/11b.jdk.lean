def f_J6_numberOfTrailingZeros_0f7a4_74 (x0 : Int32) (x1 : Int32) (M : MM) : Option (Int32 × MM) :=
    some (x1 + (iush x0 (1 : Int32)), M)

def f_J6_numberOfTrailingZeros_0f7a4_62 (x0 : Int32) (x1 : Int32) (M : MM) : Option (Int32 × MM) :=
    if x0 ≤ (4 : Int32) then
      f_J6_numberOfTrailingZeros_0f7a4_74 x0 x1 M
    else
      bn (x1 + 2 : Int32) fun y1 =>
      bn (iush x0 (2 : Int32) : Int32) fun y2 =>
      f_J6_numberOfTrailingZeros_0f7a4_74 y2 y1 M

def f_J6_numberOfTrailingZeros_0f7a4_49 (x0 : Int32) (x1 : Int32) (M : MM) : Option (Int32 × MM) :=
    if x0 ≤ (16 : Int32) then
      f_J6_numberOfTrailingZeros_0f7a4_62 x0 x1 M
    else
      bn (x1 + 4 : Int32) fun y1 =>
      bn (iush x0 (4 : Int32) : Int32) fun y2 =>
      f_J6_numberOfTrailingZeros_0f7a4_62 y2 y1 M

def f_J6_numberOfTrailingZeros_0f7a4_34 (x0 : Int32) (x1 : Int32) (M : MM) : Option (Int32 × MM) :=
    if x0 ≤ (256 : Int32) then
      f_J6_numberOfTrailingZeros_0f7a4_49 x0 x1 M
    else
      bn (x1 + 8 : Int32) fun y1 =>
      bn (iush x0 (8 : Int32) : Int32) fun y2 =>
      f_J6_numberOfTrailingZeros_0f7a4_49 y2 y1 M

def f_J6_numberOfTrailingZeros_0f7a4_0 (x0 : Int32) (M : MM) : Option (Int32 × MM) :=
    bn ((x0 ^^^ (-1 : Int32)) &&& (x0 - (1 : Int32)) : Int32) fun y1 =>
    if 0 < y1 then
      if y1 ≤ (65536 : Int32) then
        f_J6_numberOfTrailingZeros_0f7a4_34 y1 (1 : Int32) M
      else
        bn ((1 : Int32) + 16 : Int32) fun y2 =>
        bn (iush y1 (16 : Int32) : Int32) fun y3 =>
        f_J6_numberOfTrailingZeros_0f7a4_34 y3 y2 M
    else
      some (y1 &&& (32 : Int32), M)

def f_J6_numberOfTrailingZeros_0f7a4 (x0 : Int32) (M : MM) : Option (Int32 × MM) := f_J6_numberOfTrailingZeros_0f7a4_0 x0 M
set_option maxRecDepth 4000 in
theorem L_J6_numberOfTrailingZeros_0f7a4_74 {tg : Bool} {G : Gx} (X : Cb G cJ6_numberOfTrailingZeros_0f7a4 2 RJ6 (RM 1 0 0) tg) (Y : Cr G (some .int) 0 0) (x0 : Int32) (x1 : Int32) (M : MM) : V G trI 2 0 0 74 [(0, .int x0), (1, .int x1)] [] M (f_J6_numberOfTrailingZeros_0f7a4_74 x0 x1 M) := by
  unfold f_J6_numberOfTrailingZeros_0f7a4_74
  refine v_iload_n X 75 1 dJ6_numberOfTrailingZeros_0f7a4_74 rfl rfl ?_
  refine v_iload_n X 76 0 dJ6_numberOfTrailingZeros_0f7a4_75 rfl rfl ?_
  refine v_iconst X 77 dJ6_numberOfTrailingZeros_0f7a4_76 ik_1 rfl ?_
  refine v_iushr X 78 dJ6_numberOfTrailingZeros_0f7a4_77 rfl ?_
  refine v_iadd X 79 dJ6_numberOfTrailingZeros_0f7a4_78 rfl ?_
  exact v_iret X Y (Nat.le_refl _) (Nat.le_refl _) dJ6_numberOfTrailingZeros_0f7a4_79
set_option maxRecDepth 4000 in
theorem L_J6_numberOfTrailingZeros_0f7a4_62 {tg : Bool} {G : Gx} (X : Cb G cJ6_numberOfTrailingZeros_0f7a4 2 RJ6 (RM 1 0 0) tg) (Y : Cr G (some .int) 0 0) (x0 : Int32) (x1 : Int32) (M : MM) : V G trI 2 0 0 62 [(0, .int x0), (1, .int x1)] [] M (f_J6_numberOfTrailingZeros_0f7a4_62 x0 x1 M) := by
  unfold f_J6_numberOfTrailingZeros_0f7a4_62
  refine v_iload_n X 63 0 dJ6_numberOfTrailingZeros_0f7a4_62 rfl rfl ?_
  refine v_iconst X 64 dJ6_numberOfTrailingZeros_0f7a4_63 ik_4 rfl ?_
  refine v_icle X 67 74 dJ6_numberOfTrailingZeros_0f7a4_64 rfl rfl ?_ ?_
  · exact L_J6_numberOfTrailingZeros_0f7a4_74 X Y _ _ _
  · refine v_iinc X 70 1 (fun z => [(0, .int x0), (1, .int z)]) dJ6_numberOfTrailingZeros_0f7a4_67 rfl ik_2 (by decide) (fun _ => rfl) rfl (fun y1 => ?_)
    refine v_iload_n X 71 0 dJ6_numberOfTrailingZeros_0f7a4_70 rfl rfl ?_
    refine v_iconst X 72 dJ6_numberOfTrailingZeros_0f7a4_71 ik_2 rfl ?_
    refine v_iushr X 73 dJ6_numberOfTrailingZeros_0f7a4_72 rfl ?_
    refine v_bnI (fun y2 => ?_)
    refine v_istore_n (lv' := [(0, .int y2), (1, .int y1)]) X 74 dJ6_numberOfTrailingZeros_0f7a4_73 (by decide) rfl rfl ?_
    exact L_J6_numberOfTrailingZeros_0f7a4_74 X Y _ _ _
set_option maxRecDepth 4000 in
theorem L_J6_numberOfTrailingZeros_0f7a4_49 {tg : Bool} {G : Gx} (X : Cb G cJ6_numberOfTrailingZeros_0f7a4 2 RJ6 (RM 1 0 0) tg) (Y : Cr G (some .int) 0 0) (x0 : Int32) (x1 : Int32) (M : MM) : V G trI 2 0 0 49 [(0, .int x0), (1, .int x1)] [] M (f_J6_numberOfTrailingZeros_0f7a4_49 x0 x1 M) := by
  unfold f_J6_numberOfTrailingZeros_0f7a4_49
  refine v_iload_n X 50 0 dJ6_numberOfTrailingZeros_0f7a4_49 rfl rfl ?_
  refine v_bipush X 52 dJ6_numberOfTrailingZeros_0f7a4_50 bk_16 rfl ?_
  refine v_icle X 55 62 dJ6_numberOfTrailingZeros_0f7a4_52 rfl rfl ?_ ?_
  · exact L_J6_numberOfTrailingZeros_0f7a4_62 X Y _ _ _
  · refine v_iinc X 58 1 (fun z => [(0, .int x0), (1, .int z)]) dJ6_numberOfTrailingZeros_0f7a4_55 rfl ik_4 (by decide) (fun _ => rfl) rfl (fun y1 => ?_)
    refine v_iload_n X 59 0 dJ6_numberOfTrailingZeros_0f7a4_58 rfl rfl ?_
    refine v_iconst X 60 dJ6_numberOfTrailingZeros_0f7a4_59 ik_4 rfl ?_
    refine v_iushr X 61 dJ6_numberOfTrailingZeros_0f7a4_60 rfl ?_
    refine v_bnI (fun y2 => ?_)
    refine v_istore_n (lv' := [(0, .int y2), (1, .int y1)]) X 62 dJ6_numberOfTrailingZeros_0f7a4_61 (by decide) rfl rfl ?_
    exact L_J6_numberOfTrailingZeros_0f7a4_62 X Y _ _ _
set_option maxRecDepth 4000 in
theorem L_J6_numberOfTrailingZeros_0f7a4_34 {tg : Bool} {G : Gx} (X : Cb G cJ6_numberOfTrailingZeros_0f7a4 2 RJ6 (RM 1 0 0) tg) (Y : Cr G (some .int) 0 0) (x0 : Int32) (x1 : Int32) (M : MM) : V G trI 2 0 0 34 [(0, .int x0), (1, .int x1)] [] M (f_J6_numberOfTrailingZeros_0f7a4_34 x0 x1 M) := by
  unfold f_J6_numberOfTrailingZeros_0f7a4_34
  refine v_iload_n X 35 0 dJ6_numberOfTrailingZeros_0f7a4_34 rfl rfl ?_
  refine v_sipush X 38 dJ6_numberOfTrailingZeros_0f7a4_35 sk_256 rfl ?_
  refine v_icle X 41 49 dJ6_numberOfTrailingZeros_0f7a4_38 rfl rfl ?_ ?_
  · exact L_J6_numberOfTrailingZeros_0f7a4_49 X Y _ _ _
  · refine v_iinc X 44 1 (fun z => [(0, .int x0), (1, .int z)]) dJ6_numberOfTrailingZeros_0f7a4_41 rfl ik_8 (by decide) (fun _ => rfl) rfl (fun y1 => ?_)
    refine v_iload_n X 45 0 dJ6_numberOfTrailingZeros_0f7a4_44 rfl rfl ?_
    refine v_bipush X 47 dJ6_numberOfTrailingZeros_0f7a4_45 bk_8 rfl ?_
    refine v_iushr X 48 dJ6_numberOfTrailingZeros_0f7a4_47 rfl ?_
    refine v_bnI (fun y2 => ?_)
    refine v_istore_n (lv' := [(0, .int y2), (1, .int y1)]) X 49 dJ6_numberOfTrailingZeros_0f7a4_48 (by decide) rfl rfl ?_
    exact L_J6_numberOfTrailingZeros_0f7a4_49 X Y _ _ _
set_option maxRecDepth 4000 in
theorem L_J6_numberOfTrailingZeros_0f7a4_0 {tg : Bool} {G : Gx} (X : Cb G cJ6_numberOfTrailingZeros_0f7a4 2 RJ6 (RM 1 0 0) tg) (Y : Cr G (some .int) 0 0) (x0 : Int32) (M : MM) : V G trI 2 0 0 0 [(0, .int x0)] [] M (f_J6_numberOfTrailingZeros_0f7a4_0 x0 M) := by
  unfold f_J6_numberOfTrailingZeros_0f7a4_0
  refine v_iload_n X 1 0 dJ6_numberOfTrailingZeros_0f7a4_0 rfl rfl ?_
  refine v_iconst X 2 dJ6_numberOfTrailingZeros_0f7a4_1 ik_m1 rfl ?_
  refine v_ixor X 3 dJ6_numberOfTrailingZeros_0f7a4_2 rfl ?_
  refine v_iload_n X 4 0 dJ6_numberOfTrailingZeros_0f7a4_3 rfl rfl ?_
  refine v_iconst X 5 dJ6_numberOfTrailingZeros_0f7a4_4 ik_1 rfl ?_
  refine v_isub X 6 dJ6_numberOfTrailingZeros_0f7a4_5 rfl ?_
  refine v_iand X 7 dJ6_numberOfTrailingZeros_0f7a4_6 rfl ?_
  refine v_bnI (fun y1 => ?_)
  refine v_istore_n (lv' := [(0, .int y1)]) X 8 dJ6_numberOfTrailingZeros_0f7a4_7 (by decide) rfl rfl ?_
  refine v_iload_n X 9 0 dJ6_numberOfTrailingZeros_0f7a4_8 rfl rfl ?_
  refine v_ifgt X 12 17 dJ6_numberOfTrailingZeros_0f7a4_9 rfl rfl ?_ ?_
  · refine v_iconst X 18 dJ6_numberOfTrailingZeros_0f7a4_17 ik_1 rfl ?_
    refine v_istore_n (lv' := [(0, .int y1), (1, .int (1 : Int32))]) X 19 dJ6_numberOfTrailingZeros_0f7a4_18 (by decide) rfl rfl ?_
    refine v_iload_n X 20 0 dJ6_numberOfTrailingZeros_0f7a4_19 rfl rfl ?_
    refine v_ldcw X 23 dJ6_numberOfTrailingZeros_0f7a4_20 kc_J6_264 rfl ?_
    refine v_icle X 26 34 dJ6_numberOfTrailingZeros_0f7a4_23 rfl rfl ?_ ?_
    · exact L_J6_numberOfTrailingZeros_0f7a4_34 X Y _ _ _
    · refine v_iinc X 29 1 (fun z => [(0, .int y1), (1, .int z)]) dJ6_numberOfTrailingZeros_0f7a4_26 rfl ik_16 (by decide) (fun _ => rfl) rfl (fun y2 => ?_)
      refine v_iload_n X 30 0 dJ6_numberOfTrailingZeros_0f7a4_29 rfl rfl ?_
      refine v_bipush X 32 dJ6_numberOfTrailingZeros_0f7a4_30 bk_16 rfl ?_
      refine v_iushr X 33 dJ6_numberOfTrailingZeros_0f7a4_32 rfl ?_
      refine v_bnI (fun y3 => ?_)
      refine v_istore_n (lv' := [(0, .int y3), (1, .int y2)]) X 34 dJ6_numberOfTrailingZeros_0f7a4_33 (by decide) rfl rfl ?_
      exact L_J6_numberOfTrailingZeros_0f7a4_34 X Y _ _ _
  · refine v_iload_n X 13 0 dJ6_numberOfTrailingZeros_0f7a4_12 rfl rfl ?_
    refine v_bipush X 15 dJ6_numberOfTrailingZeros_0f7a4_13 bk_32 rfl ?_
    refine v_iand X 16 dJ6_numberOfTrailingZeros_0f7a4_15 rfl ?_
    exact v_iret X Y (Nat.le_refl _) (Nat.le_refl _) dJ6_numberOfTrailingZeros_0f7a4_16
theorem c_J6_numberOfTrailingZeros_0f7a4 {tg : Bool} (l : Launch) (x0 : Int32) (M : MM) (r : Int32) (M1 : MM) (h : f_J6_numberOfTrailingZeros_0f7a4 x0 M = some (r, M1)) : CtAt l yJ6_numberOfTrailingZeros_0f7a4 cJ6_numberOfTrailingZeros_0f7a4 2 (some .int) (RM 1 0 0) tg [.int x0] M (some (.int r)) M1 :=
  ct_of (tr := trI) (by decide) (Nat.le_of_ble_eq_true rfl) [(0, .int x0)] rfl h (fun G X Y hn hl => L_J6_numberOfTrailingZeros_0f7a4_0 X Y x0 M)

def f_J6_bitCount_0f7a4_0 (x0 : Int32) (M : MM) : Option (Int32 × MM) :=
    bn (x0 - ((iush x0 (1 : Int32)) &&& (1431655765 : Int32)) : Int32) fun y1 =>
    bn ((y1 &&& (858993459 : Int32)) + ((iush y1 (2 : Int32)) &&& (858993459 : Int32)) : Int32) fun y2 =>
    bn ((y2 + (iush y2 (4 : Int32))) &&& (252645135 : Int32) : Int32) fun y3 =>
    bn (y3 + (iush y3 (8 : Int32)) : Int32) fun y4 =>
    bn (y4 + (iush y4 (16 : Int32)) : Int32) fun y5 =>
    some (y5 &&& (63 : Int32), M)

def f_J6_bitCount_0f7a4 (x0 : Int32) (M : MM) : Option (Int32 × MM) := f_J6_bitCount_0f7a4_0 x0 M
set_option maxRecDepth 4000 in
theorem L_J6_bitCount_0f7a4_0 {tg : Bool} {G : Gx} (X : Cb G cJ6_bitCount_0f7a4 1 RJ6 (RM 1 0 0) tg) (Y : Cr G (some .int) 0 0) (x0 : Int32) (M : MM) : V G trI 1 0 0 0 [(0, .int x0)] [] M (f_J6_bitCount_0f7a4_0 x0 M) := by
  unfold f_J6_bitCount_0f7a4_0
  refine v_iload_n X 1 0 dJ6_bitCount_0f7a4_0 rfl rfl ?_
  refine v_iload_n X 2 0 dJ6_bitCount_0f7a4_1 rfl rfl ?_
  refine v_iconst X 3 dJ6_bitCount_0f7a4_2 ik_1 rfl ?_
  refine v_iushr X 4 dJ6_bitCount_0f7a4_3 rfl ?_
  refine v_ldcw X 7 dJ6_bitCount_0f7a4_4 kc_J6_265 rfl ?_
  refine v_iand X 8 dJ6_bitCount_0f7a4_7 rfl ?_
  refine v_isub X 9 dJ6_bitCount_0f7a4_8 rfl ?_
  refine v_bnI (fun y1 => ?_)
  refine v_istore_n (lv' := [(0, .int y1)]) X 10 dJ6_bitCount_0f7a4_9 (by decide) rfl rfl ?_
  refine v_iload_n X 11 0 dJ6_bitCount_0f7a4_10 rfl rfl ?_
  refine v_ldcw X 14 dJ6_bitCount_0f7a4_11 kc_J6_266 rfl ?_
  refine v_iand X 15 dJ6_bitCount_0f7a4_14 rfl ?_
  refine v_iload_n X 16 0 dJ6_bitCount_0f7a4_15 rfl rfl ?_
  refine v_iconst X 17 dJ6_bitCount_0f7a4_16 ik_2 rfl ?_
  refine v_iushr X 18 dJ6_bitCount_0f7a4_17 rfl ?_
  refine v_ldcw X 21 dJ6_bitCount_0f7a4_18 kc_J6_266 rfl ?_
  refine v_iand X 22 dJ6_bitCount_0f7a4_21 rfl ?_
  refine v_iadd X 23 dJ6_bitCount_0f7a4_22 rfl ?_
  refine v_bnI (fun y2 => ?_)
  refine v_istore_n (lv' := [(0, .int y2)]) X 24 dJ6_bitCount_0f7a4_23 (by decide) rfl rfl ?_
  refine v_iload_n X 25 0 dJ6_bitCount_0f7a4_24 rfl rfl ?_
  refine v_iload_n X 26 0 dJ6_bitCount_0f7a4_25 rfl rfl ?_
  refine v_iconst X 27 dJ6_bitCount_0f7a4_26 ik_4 rfl ?_
  refine v_iushr X 28 dJ6_bitCount_0f7a4_27 rfl ?_
  refine v_iadd X 29 dJ6_bitCount_0f7a4_28 rfl ?_
  refine v_ldcw X 32 dJ6_bitCount_0f7a4_29 kc_J6_267 rfl ?_
  refine v_iand X 33 dJ6_bitCount_0f7a4_32 rfl ?_
  refine v_bnI (fun y3 => ?_)
  refine v_istore_n (lv' := [(0, .int y3)]) X 34 dJ6_bitCount_0f7a4_33 (by decide) rfl rfl ?_
  refine v_iload_n X 35 0 dJ6_bitCount_0f7a4_34 rfl rfl ?_
  refine v_iload_n X 36 0 dJ6_bitCount_0f7a4_35 rfl rfl ?_
  refine v_bipush X 38 dJ6_bitCount_0f7a4_36 bk_8 rfl ?_
  refine v_iushr X 39 dJ6_bitCount_0f7a4_38 rfl ?_
  refine v_iadd X 40 dJ6_bitCount_0f7a4_39 rfl ?_
  refine v_bnI (fun y4 => ?_)
  refine v_istore_n (lv' := [(0, .int y4)]) X 41 dJ6_bitCount_0f7a4_40 (by decide) rfl rfl ?_
  refine v_iload_n X 42 0 dJ6_bitCount_0f7a4_41 rfl rfl ?_
  refine v_iload_n X 43 0 dJ6_bitCount_0f7a4_42 rfl rfl ?_
  refine v_bipush X 45 dJ6_bitCount_0f7a4_43 bk_16 rfl ?_
  refine v_iushr X 46 dJ6_bitCount_0f7a4_45 rfl ?_
  refine v_iadd X 47 dJ6_bitCount_0f7a4_46 rfl ?_
  refine v_bnI (fun y5 => ?_)
  refine v_istore_n (lv' := [(0, .int y5)]) X 48 dJ6_bitCount_0f7a4_47 (by decide) rfl rfl ?_
  refine v_iload_n X 49 0 dJ6_bitCount_0f7a4_48 rfl rfl ?_
  refine v_bipush X 51 dJ6_bitCount_0f7a4_49 bk_63 rfl ?_
  refine v_iand X 52 dJ6_bitCount_0f7a4_51 rfl ?_
  exact v_iret X Y (Nat.le_refl _) (Nat.le_refl _) dJ6_bitCount_0f7a4_52
theorem c_J6_bitCount_0f7a4 {tg : Bool} (l : Launch) (x0 : Int32) (M : MM) (r : Int32) (M1 : MM) (h : f_J6_bitCount_0f7a4 x0 M = some (r, M1)) : CtAt l yJ6_bitCount_0f7a4 cJ6_bitCount_0f7a4 1 (some .int) (RM 1 0 0) tg [.int x0] M (some (.int r)) M1 :=
  ct_of (tr := trI) (by decide) (Nat.le_of_ble_eq_true rfl) [(0, .int x0)] rfl h (fun G X Y hn hl => L_J6_bitCount_0f7a4_0 X Y x0 M)

def f_J7_fill_53178_5 : Nat → Nat → Int32 → Int32 → Int32 → MM → Option (MM)
  | 0, _, _, _, _, _ => none
  | n + 1, x0, x1, x2, x3, M =>
    if x3 ≤ x2 then
      some M
    else
      b1 (stI x0 x2 x1 M) fun M1 =>
      bn (x2 + 1 : Int32) fun y2 =>
      f_J7_fill_53178_5 n x0 x1 y2 x3 M1

def f_J7_fill_53178_0 (x0 : Nat) (x1 : Int32) (M : MM) : Option (MM) :=
    b1 (alI x0 M) fun v1 =>
    f_J7_fill_53178_5 1024 x0 x1 (0 : Int32) v1 M

def f_J7_fill_53178 (x0 : Nat) (x1 : Int32) (M : MM) : Option (MM) := f_J7_fill_53178_0 x0 x1 M
set_option maxRecDepth 4000 in
theorem L_J7_fill_53178_5 {tg : Bool} {G : Gx} (X : Cb G cJ7_fill_53178 4 RJ7 (RM 1 0 0) tg) (Y : Cr G none 0 0) : ∀ (n : Nat) (x0 : Nat) (x1 : Int32) (x2 : Int32) (x3 : Int32) (M : MM), V G trV 4 0 0 5 [(0, .ref x0), (1, .int x1), (2, .int x2), (3, .int x3)] [] M (f_J7_fill_53178_5 n x0 x1 x2 x3 M) := by
  intro n
  induction n with
  | zero => intro x0 x1 x2 x3 M; rw [f_J7_fill_53178_5]; exact v_none
  | succ n ih =>
    intro x0 x1 x2 x3 M
    rw [f_J7_fill_53178_5]
    refine v_iload_n X 6 2 dJ7_fill_53178_5 rfl rfl ?_
    refine v_iload_n X 7 3 dJ7_fill_53178_6 rfl rfl ?_
    refine v_icge X 10 20 dJ7_fill_53178_7 rfl rfl ?_ ?_
    · exact v_vret X Y (Nat.le_refl _) (Nat.le_refl _) dJ7_fill_53178_20
    · refine v_aload_n X 11 0 dJ7_fill_53178_10 rfl rfl ?_
      refine v_iload_n X 12 2 dJ7_fill_53178_11 rfl rfl ?_
      refine v_iload_n X 13 1 dJ7_fill_53178_12 rfl rfl ?_
      refine v_iast X 14 dJ7_fill_53178_13 rfl (fun M1 => ?_)
      refine v_iinc X 17 2 (fun z => [(0, .ref x0), (1, .int x1), (2, .int z), (3, .int x3)]) dJ7_fill_53178_14 rfl ik_1 (by decide) (fun _ => rfl) rfl (fun y2 => ?_)
      refine v_goto X 5 dJ7_fill_53178_17 rfl ?_
      exact ih _ _ _ _ _
set_option maxRecDepth 4000 in
theorem L_J7_fill_53178_0 {tg : Bool} {G : Gx} (X : Cb G cJ7_fill_53178 4 RJ7 (RM 1 0 0) tg) (Y : Cr G none 0 0) (x0 : Nat) (x1 : Int32) (M : MM) : V G trV 4 0 0 0 [(0, .ref x0), (1, .int x1)] [] M (f_J7_fill_53178_0 x0 x1 M) := by
  unfold f_J7_fill_53178_0
  refine v_iconst X 1 dJ7_fill_53178_0 ik_0 rfl ?_
  refine v_istore_n (lv' := [(0, .ref x0), (1, .int x1), (2, .int (0 : Int32))]) X 2 dJ7_fill_53178_1 (by decide) rfl rfl ?_
  refine v_aload_n X 3 0 dJ7_fill_53178_2 rfl rfl ?_
  refine v_alen X 4 dJ7_fill_53178_3 rfl (fun v1 => ?_)
  refine v_istore_n (lv' := [(0, .ref x0), (1, .int x1), (2, .int (0 : Int32)), (3, .int v1)]) X 5 dJ7_fill_53178_4 (by decide) rfl rfl ?_
  exact L_J7_fill_53178_5 X Y 1024 _ _ _ _ _
theorem c_J7_fill_53178 {tg : Bool} (l : Launch) (x0 : Nat) (x1 : Int32) (M : MM) (M1 : MM) (h : f_J7_fill_53178 x0 x1 M = some M1) : CtAt l yJ7_fill_53178 cJ7_fill_53178 4 none (RM 1 0 0) tg [.ref x0, .int x1] M none M1 :=
  ct_of (tr := trV) (by decide) (Nat.le_of_ble_eq_true rfl) [(0, .ref x0), (1, .int x1)] rfl h (fun G X Y hn hl => L_J7_fill_53178_0 X Y x0 x1 M)

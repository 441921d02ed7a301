def f_J0_coder_7d493_0 (x0 : Nat) (M : MM) : Option (Int32 × MM) :=
    if (1 : Int32) = 0 then
      rB (1 : Int32) M
    else
      b1 (sC x0) fun v1 =>
      rB v1 M

def f_J0_coder_7d493 (x0 : Nat) (M : MM) : Option (Int32 × MM) := if isS x0 = true then f_J0_coder_7d493_0 x0 M else none
set_option maxRecDepth 4000 in
theorem L_J0_coder_7d493_0 {tg : Bool} {G : Gx} (X : Cb G cJ0_coder_7d493 1 RJ0 (RM 3 0 0) tg) (Y : Cr G (some .byte) 0 0) (x0 : Nat) (M : MM) : V G trI 1 0 0 0 [(0, .ref x0)] [] M (f_J0_coder_7d493_0 x0 M) := by
  unfold f_J0_coder_7d493_0
  refine v_getsC X 3 sf_38 dJ0_coder_7d493_0 rfl ?_
  refine v_ifeq X 6 13 dJ0_coder_7d493_3 rfl rfl ?_ ?_
  · refine v_iconst X 14 dJ0_coder_7d493_13 ik_1 rfl ?_
    exact v_bret X Y (Nat.le_refl _) (Nat.le_refl _) dJ0_coder_7d493_14
  · refine v_aload_n X 7 0 dJ0_coder_7d493_6 rfl rfl ?_
    refine v_getSc X 10 sf_15 dJ0_coder_7d493_7 rfl (fun v1 => ?_)
    refine v_goto X 14 dJ0_coder_7d493_10 rfl ?_
    exact v_bret X Y (Nat.le_refl _) (Nat.le_refl _) dJ0_coder_7d493_14
theorem c_J0_coder_7d493 {tg : Bool} (l : Launch) (x0 : Nat) (M : MM) (r : Int32) (M1 : MM) (h : f_J0_coder_7d493 x0 M = some (r, M1)) : KS l yJ0_coder_7d493 cJ0_coder_7d493 1 (some .byte) (RM 3 0 0) tg x0 [] M (some (.int r)) M1 := by
  obtain ⟨hO, h2⟩ := iteO_some h
  exact ⟨hO, ct_of (tr := trI) (by decide) (Nat.le_of_ble_eq_true rfl) [(0, .ref x0)] rfl h2 (fun G X Y hn hl => L_J0_coder_7d493_0 X Y x0 M)⟩

def f_J0_length_8abf5_0 (x0 : Nat) (M : MM) : Option (Int32 × MM) :=
    b1 (sV x0) fun v1 =>
    b1 (sN v1) fun v2 =>
    b2 (f_J0_coder_7d493 x0 M) fun r4 M3 =>
    some (v2 >>> (r4 &&& 31), M3)

def f_J0_length_8abf5 (x0 : Nat) (M : MM) : Option (Int32 × MM) := if isS x0 = true then f_J0_length_8abf5_0 x0 M else none
set_option maxRecDepth 4000 in
theorem L_J0_length_8abf5_0 {tg : Bool} {G : Gx} (X : Cb G cJ0_length_8abf5 1 RJ0 (RM 4 0 0) tg) (Y : Cr G (some .int) 0 0) (x0 : Nat) (M : MM) : V G trI 1 0 0 0 [(0, .ref x0)] [] M (f_J0_length_8abf5_0 x0 M) := by
  unfold f_J0_length_8abf5_0
  refine v_aload_n X 1 0 dJ0_length_8abf5_0 rfl rfl ?_
  refine v_getSv X 4 sf_9 dJ0_length_8abf5_1 rfl (fun v1 => ?_)
  refine v_alenB X 5 dJ0_length_8abf5_4 rfl (fun v2 => ?_)
  refine v_aload_n X 6 0 dJ0_length_8abf5_5 rfl rfl ?_
  refine v_tI X 9 cvs_J0_coder_7d493 ml_J0_335 (n1 := 3) rfl [] rfl rfl rfl dJ0_length_8abf5_6 rfl (fun r M1 h => c_J0_coder_7d493 _ _ _ _ _ h) (fun r4 M3 => ?_)
  refine v_ishr X 10 dJ0_length_8abf5_9 rfl ?_
  exact v_iret X Y (Nat.le_refl _) (Nat.le_refl _) dJ0_length_8abf5_10
theorem c_J0_length_8abf5 {tg : Bool} (l : Launch) (x0 : Nat) (M : MM) (r : Int32) (M1 : MM) (h : f_J0_length_8abf5 x0 M = some (r, M1)) : KS l yJ0_length_8abf5 cJ0_length_8abf5 1 (some .int) (RM 4 0 0) tg x0 [] M (some (.int r)) M1 := by
  obtain ⟨hO, h2⟩ := iteO_some h
  exact ⟨hO, ct_of (tr := trI) (by decide) (Nat.le_of_ble_eq_true rfl) [(0, .ref x0)] rfl h2 (fun G X Y hn hl => L_J0_length_8abf5_0 X Y x0 M)⟩

def f_J0_isLatin1_aae02_0 (x0 : Nat) (M : MM) : Option (Int32 × MM) :=
    if (1 : Int32) = 0 then
      rz (0 : Int32) M
    else
      b1 (sC x0) fun v1 =>
      if v1 = 0 then
        rz (1 : Int32) M
      else
        rz (0 : Int32) M

def f_J0_isLatin1_aae02 (x0 : Nat) (M : MM) : Option (Int32 × MM) := if isS x0 = true then f_J0_isLatin1_aae02_0 x0 M else none
set_option maxRecDepth 4000 in
theorem L_J0_isLatin1_aae02_0 {tg : Bool} {G : Gx} (X : Cb G cJ0_isLatin1_aae02 1 RJ0 (RM 3 0 0) tg) (Y : Cr G (some .boolean) 0 0) (x0 : Nat) (M : MM) : V G trI 1 0 0 0 [(0, .ref x0)] [] M (f_J0_isLatin1_aae02_0 x0 M) := by
  unfold f_J0_isLatin1_aae02_0
  refine v_getsC X 3 sf_38 dJ0_isLatin1_aae02_0 rfl ?_
  refine v_ifeq X 6 17 dJ0_isLatin1_aae02_3 rfl rfl ?_ ?_
  · refine v_iconst X 18 dJ0_isLatin1_aae02_17 ik_0 rfl ?_
    exact v_zret X Y (Nat.le_refl _) (Nat.le_refl _) dJ0_isLatin1_aae02_18
  · refine v_aload_n X 7 0 dJ0_isLatin1_aae02_6 rfl rfl ?_
    refine v_getSc X 10 sf_15 dJ0_isLatin1_aae02_7 rfl (fun v1 => ?_)
    refine v_ifne X 13 17 dJ0_isLatin1_aae02_10 rfl rfl ?_ ?_
    · refine v_iconst X 18 dJ0_isLatin1_aae02_17 ik_0 rfl ?_
      exact v_zret X Y (Nat.le_refl _) (Nat.le_refl _) dJ0_isLatin1_aae02_18
    · refine v_iconst X 14 dJ0_isLatin1_aae02_13 ik_1 rfl ?_
      refine v_goto X 18 dJ0_isLatin1_aae02_14 rfl ?_
      exact v_zret X Y (Nat.le_refl _) (Nat.le_refl _) dJ0_isLatin1_aae02_18
theorem c_J0_isLatin1_aae02 {tg : Bool} (l : Launch) (x0 : Nat) (M : MM) (r : Int32) (M1 : MM) (h : f_J0_isLatin1_aae02 x0 M = some (r, M1)) : KS l yJ0_isLatin1_aae02 cJ0_isLatin1_aae02 1 (some .boolean) (RM 3 0 0) tg x0 [] M (some (.int r)) M1 := by
  obtain ⟨hO, h2⟩ := iteO_some h
  exact ⟨hO, ct_of (tr := trI) (by decide) (Nat.le_of_ble_eq_true rfl) [(0, .ref x0)] rfl h2 (fun G X Y hn hl => L_J0_isLatin1_aae02_0 X Y x0 M)⟩

def f_J1_charAt_3b067_0 (x0 : Nat) (x1 : Int32) (M : MM) : Option (Int32 × MM) :=
    b1 (sN x0) fun v1 =>
    b1 (f_J0_checkIndex_df160 x1 v1 M) fun M2 =>
    b1 (sBy x0 x1) fun v3 =>
    rC (i2cv (v3 &&& (255 : Int32))) M2

def f_J1_charAt_3b067 (x0 : Nat) (x1 : Int32) (M : MM) : Option (Int32 × MM) := f_J1_charAt_3b067_0 x0 x1 M
set_option maxRecDepth 4000 in
theorem L_J1_charAt_3b067_0 {tg : Bool} {G : Gx} (X : Cb G cJ1_charAt_3b067 2 RJ1 (RM 3 0 0) tg) (Y : Cr G (some .char) 0 0) (x0 : Nat) (x1 : Int32) (M : MM) : V G trI 2 0 0 0 [(0, .ref x0), (1, .int x1)] [] M (f_J1_charAt_3b067_0 x0 x1 M) := by
  unfold f_J1_charAt_3b067_0
  refine v_iload_n X 1 1 dJ1_charAt_3b067_0 rfl rfl ?_
  refine v_aload_n X 2 0 dJ1_charAt_3b067_1 rfl rfl ?_
  refine v_alenB X 3 dJ1_charAt_3b067_2 rfl (fun v1 => ?_)
  refine v_sV X 6 cs_J0_checkIndex_df160 ml_J1_9 (n1 := 2) rfl [.int x1, .int v1] rfl rfl rfl dJ1_charAt_3b067_3 rfl (fun M1 h => c_J0_checkIndex_df160 _ _ _ _ _ h) (fun M2 => ?_)
  refine v_aload_n X 7 0 dJ1_charAt_3b067_6 rfl rfl ?_
  refine v_iload_n X 8 1 dJ1_charAt_3b067_7 rfl rfl ?_
  refine v_baldB X 9 dJ1_charAt_3b067_8 rfl (fun v3 => ?_)
  refine v_sipush X 12 dJ1_charAt_3b067_9 sk_255 rfl ?_
  refine v_iand X 13 dJ1_charAt_3b067_12 rfl ?_
  refine v_i2c X 14 dJ1_charAt_3b067_13 rfl ?_
  exact v_cret X Y (Nat.le_refl _) (Nat.le_refl _) dJ1_charAt_3b067_14
theorem c_J1_charAt_3b067 {tg : Bool} (l : Launch) (x0 : Nat) (x1 : Int32) (M : MM) (r : Int32) (M1 : MM) (h : f_J1_charAt_3b067 x0 x1 M = some (r, M1)) : CtAt l yJ1_charAt_3b067 cJ1_charAt_3b067 2 (some .char) (RM 3 0 0) tg [.ref x0, .int x1] M (some (.int r)) M1 :=
  ct_of (tr := trI) (by decide) (Nat.le_of_ble_eq_true rfl) [(0, .ref x0), (1, .int x1)] rfl h (fun G X Y hn hl => L_J1_charAt_3b067_0 X Y x0 x1 M)

def f_J0_charAt_5068e_0 (x0 : Nat) (x1 : Int32) (M : MM) : Option (Int32 × MM) :=
    b2 (f_J0_isLatin1_aae02 x0 M) fun r2 M1 =>
    if r2 = 0 then
      b1 (sV x0) fun v3 =>
      none
    else
      b1 (sV x0) fun v4 =>
      b2 (f_J1_charAt_3b067 v4 x1 M1) fun r6 M5 =>
      rC r6 M5

def f_J0_charAt_5068e (x0 : Nat) (x1 : Int32) (M : MM) : Option (Int32 × MM) := if isS x0 = true then f_J0_charAt_5068e_0 x0 x1 M else none
set_option maxRecDepth 4000 in
theorem L_J0_charAt_5068e_0 {tg : Bool} {G : Gx} (X : Cb G cJ0_charAt_5068e 2 RJ0 (RM 5 0 0) tg) (Y : Cr G (some .char) 0 0) (x0 : Nat) (x1 : Int32) (M : MM) : V G trI 2 0 0 0 [(0, .ref x0), (1, .int x1)] [] M (f_J0_charAt_5068e_0 x0 x1 M) := by
  unfold f_J0_charAt_5068e_0
  refine v_aload_n X 1 0 dJ0_charAt_5068e_0 rfl rfl ?_
  refine v_tI X 4 cvs_J0_isLatin1_aae02 ml_J0_492 (n1 := 3) rfl [] rfl rfl rfl dJ0_charAt_5068e_1 rfl (fun r M1 h => c_J0_isLatin1_aae02 _ _ _ _ _ h) (fun r2 M1 => ?_)
  refine v_ifeq X 7 16 dJ0_charAt_5068e_4 rfl rfl ?_ ?_
  · refine v_aload_n X 17 0 dJ0_charAt_5068e_16 rfl rfl ?_
    refine v_getSv X 20 sf_9 dJ0_charAt_5068e_17 rfl (fun v3 => ?_)
    refine v_iload_n X 21 1 dJ0_charAt_5068e_20 rfl rfl ?_
    exact v_none
  · refine v_aload_n X 8 0 dJ0_charAt_5068e_7 rfl rfl ?_
    refine v_getSv X 11 sf_9 dJ0_charAt_5068e_8 rfl (fun v4 => ?_)
    refine v_iload_n X 12 1 dJ0_charAt_5068e_11 rfl rfl ?_
    refine v_sI X 15 cs_J1_charAt_3b067 ml_J0_495 (n1 := 3) rfl [.ref v4, .int x1] rfl rfl rfl dJ0_charAt_5068e_12 rfl (fun r M1 h => c_J1_charAt_3b067 _ _ _ _ _ _ h) (fun r6 M5 => ?_)
    exact v_cret X Y (Nat.le_refl _) (Nat.le_refl _) dJ0_charAt_5068e_15
theorem c_J0_charAt_5068e {tg : Bool} (l : Launch) (x0 : Nat) (x1 : Int32) (M : MM) (r : Int32) (M1 : MM) (h : f_J0_charAt_5068e x0 x1 M = some (r, M1)) : KS l yJ0_charAt_5068e cJ0_charAt_5068e 2 (some .char) (RM 5 0 0) tg x0 [.int x1] M (some (.int r)) M1 := by
  obtain ⟨hO, h2⟩ := iteO_some h
  exact ⟨hO, ct_of (tr := trI) (by decide) (Nat.le_of_ble_eq_true rfl) [(0, .ref x0), (1, .int x1)] rfl h2 (fun G X Y hn hl => L_J0_charAt_5068e_0 X Y x0 x1 M)⟩

def f_J1_canEncode_9a6ad_0 (x0 : Int32) (M : MM) : Option (Int32 × MM) :=
    if x0 < 0 then
      rz (0 : Int32) M
    else
      if (255 : Int32) < x0 then
        rz (0 : Int32) M
      else
        rz (1 : Int32) M

def f_J1_canEncode_9a6ad (x0 : Int32) (M : MM) : Option (Int32 × MM) := f_J1_canEncode_9a6ad_0 x0 M
set_option maxRecDepth 4000 in
theorem L_J1_canEncode_9a6ad_0 {tg : Bool} {G : Gx} (X : Cb G cJ1_canEncode_9a6ad 1 RJ1 (RM 3 0 0) tg) (Y : Cr G (some .boolean) 0 0) (x0 : Int32) (M : MM) : V G trI 1 0 0 0 [(0, .int x0)] [] M (f_J1_canEncode_9a6ad_0 x0 M) := by
  unfold f_J1_canEncode_9a6ad_0
  refine v_iload_n X 1 0 dJ1_canEncode_9a6ad_0 rfl rfl ?_
  refine v_iflt X 4 15 dJ1_canEncode_9a6ad_1 rfl rfl ?_ ?_
  · refine v_iconst X 16 dJ1_canEncode_9a6ad_15 ik_0 rfl ?_
    exact v_zret X Y (Nat.le_refl _) (Nat.le_refl _) dJ1_canEncode_9a6ad_16
  · refine v_iload_n X 5 0 dJ1_canEncode_9a6ad_4 rfl rfl ?_
    refine v_sipush X 8 dJ1_canEncode_9a6ad_5 sk_255 rfl ?_
    refine v_icgt X 11 15 dJ1_canEncode_9a6ad_8 rfl rfl ?_ ?_
    · refine v_iconst X 16 dJ1_canEncode_9a6ad_15 ik_0 rfl ?_
      exact v_zret X Y (Nat.le_refl _) (Nat.le_refl _) dJ1_canEncode_9a6ad_16
    · refine v_iconst X 12 dJ1_canEncode_9a6ad_11 ik_1 rfl ?_
      refine v_goto X 16 dJ1_canEncode_9a6ad_12 rfl ?_
      exact v_zret X Y (Nat.le_refl _) (Nat.le_refl _) dJ1_canEncode_9a6ad_16
theorem c_J1_canEncode_9a6ad {tg : Bool} (l : Launch) (x0 : Int32) (M : MM) (r : Int32) (M1 : MM) (h : f_J1_canEncode_9a6ad x0 M = some (r, M1)) : CtAt l yJ1_canEncode_9a6ad cJ1_canEncode_9a6ad 1 (some .boolean) (RM 3 0 0) tg [.int x0] M (some (.int r)) M1 :=
  ct_of (tr := trI) (by decide) (Nat.le_of_ble_eq_true rfl) [(0, .int x0)] rfl h (fun G X Y hn hl => L_J1_canEncode_9a6ad_0 X Y x0 M)

def f_J1_indexOfChar_4cfef_7 : Nat → Nat → Int32 → Int32 → Int32 → MM → Option (Int32 × MM)
  | 0, _, _, _, _, _ => none
  | n + 1, x0, x3, x4, x5, M =>
    if x3 ≤ x5 then
      some ((-1 : Int32), M)
    else
      b1 (sBy x0 x5) fun v1 =>
      if v1 = x4 then
        some (x5, M)
      else
        bn (x5 + 1 : Int32) fun y2 =>
        f_J1_indexOfChar_4cfef_7 n x0 x3 x4 y2 M

def f_J1_indexOfChar_4cfef_0 (x0 : Nat) (x1 : Int32) (x2 : Int32) (x3 : Int32) (M : MM) : Option (Int32 × MM) :=
    bn (Int8.toInt32 (Int32.toInt8 x1) : Int32) fun y1 =>
    f_J1_indexOfChar_4cfef_7 1024 x0 x3 y1 x2 M

def f_J1_indexOfChar_4cfef (x0 : Nat) (x1 : Int32) (x2 : Int32) (x3 : Int32) (M : MM) : Option (Int32 × MM) := f_J1_indexOfChar_4cfef_0 x0 x1 x2 x3 M
set_option maxRecDepth 4000 in
theorem L_J1_indexOfChar_4cfef_7 {tg : Bool} {G : Gx} (X : Cb G cJ1_indexOfChar_4cfef 6 RJ1 (RM 3 0 0) tg) (Y : Cr G (some .int) 0 0) : ∀ (n : Nat) (x0 : Nat) (x3 : Int32) (x4 : Int32) (x5 : Int32) (M : MM), V G trI 6 0 0 7 [(0, .ref x0), (3, .int x3), (4, .int x4), (5, .int x5)] [] M (f_J1_indexOfChar_4cfef_7 n x0 x3 x4 x5 M) := by
  intro n
  induction n with
  | zero => intro x0 x3 x4 x5 M; rw [f_J1_indexOfChar_4cfef_7]; exact v_none
  | succ n ih =>
    intro x0 x3 x4 x5 M
    rw [f_J1_indexOfChar_4cfef_7]
    refine v_iload X 9 3 dJ1_indexOfChar_4cfef_7 rfl rfl ?_
    refine v_iload_n X 10 1 dJ1_indexOfChar_4cfef_9 rfl rfl ?_
    refine v_icge X 13 31 dJ1_indexOfChar_4cfef_10 rfl rfl ?_ ?_
    · refine v_iconst X 32 dJ1_indexOfChar_4cfef_31 ik_m1 rfl ?_
      exact v_iret X Y (Nat.le_refl _) (Nat.le_refl _) dJ1_indexOfChar_4cfef_32
    · refine v_aload_n X 14 0 dJ1_indexOfChar_4cfef_13 rfl rfl ?_
      refine v_iload X 16 3 dJ1_indexOfChar_4cfef_14 rfl rfl ?_
      refine v_baldB X 17 dJ1_indexOfChar_4cfef_16 rfl (fun v1 => ?_)
      refine v_iload X 19 2 dJ1_indexOfChar_4cfef_17 rfl rfl ?_
      refine v_icne X 22 25 dJ1_indexOfChar_4cfef_19 rfl rfl ?_ ?_
      · refine v_iinc X 28 3 (fun z => [(0, .ref x0), (3, .int x3), (4, .int x4), (5, .int z)]) dJ1_indexOfChar_4cfef_25 rfl ik_1 (by decide) (fun _ => rfl) rfl (fun y2 => ?_)
        refine v_goto X 7 dJ1_indexOfChar_4cfef_28 rfl ?_
        exact ih _ _ _ _ _
      · refine v_iload X 24 3 dJ1_indexOfChar_4cfef_22 rfl rfl ?_
        exact v_iret X Y (Nat.le_refl _) (Nat.le_refl _) dJ1_indexOfChar_4cfef_24
set_option maxRecDepth 4000 in
theorem L_J1_indexOfChar_4cfef_0 {tg : Bool} {G : Gx} (X : Cb G cJ1_indexOfChar_4cfef 6 RJ1 (RM 3 0 0) tg) (Y : Cr G (some .int) 0 0) (x0 : Nat) (x1 : Int32) (x2 : Int32) (x3 : Int32) (M : MM) : V G trI 6 0 0 0 [(0, .ref x0), (1, .int x1), (2, .int x2), (3, .int x3)] [] M (f_J1_indexOfChar_4cfef_0 x0 x1 x2 x3 M) := by
  unfold f_J1_indexOfChar_4cfef_0
  refine v_iload_n X 1 1 dJ1_indexOfChar_4cfef_0 rfl rfl ?_
  refine v_i2b X 2 dJ1_indexOfChar_4cfef_1 rfl ?_
  refine v_bnI (fun y1 => ?_)
  refine v_istore (lv' := [(0, .ref x0), (1, .int x1), (2, .int x2), (3, .int x3), (4, .int y1)]) X 4 dJ1_indexOfChar_4cfef_2 (by decide) rfl rfl ?_
  refine v_iload_n X 5 2 dJ1_indexOfChar_4cfef_4 rfl rfl ?_
  refine v_istore (lv' := [(0, .ref x0), (1, .int x1), (2, .int x2), (3, .int x3), (4, .int y1), (5, .int x2)]) X 7 dJ1_indexOfChar_4cfef_5 (by decide) rfl rfl ?_
  exact v_sb [0, 3, 4, 5] (L_J1_indexOfChar_4cfef_7 X Y 1024 _ _ _ _ _) rfl
theorem c_J1_indexOfChar_4cfef {tg : Bool} (l : Launch) (x0 : Nat) (x1 : Int32) (x2 : Int32) (x3 : Int32) (M : MM) (r : Int32) (M1 : MM) (h : f_J1_indexOfChar_4cfef x0 x1 x2 x3 M = some (r, M1)) : CtAt l yJ1_indexOfChar_4cfef cJ1_indexOfChar_4cfef 6 (some .int) (RM 3 0 0) tg [.ref x0, .int x1, .int x2, .int x3] M (some (.int r)) M1 :=
  ct_of (tr := trI) (by decide) (Nat.le_of_ble_eq_true rfl) [(0, .ref x0), (1, .int x1), (2, .int x2), (3, .int x3)] rfl h (fun G X Y hn hl => L_J1_indexOfChar_4cfef_0 X Y x0 x1 x2 x3 M)

def f_J1_indexOf_4cfef_0 (x0 : Nat) (x1 : Int32) (x2 : Int32) (x3 : Int32) (M : MM) : Option (Int32 × MM) :=
    b2 (f_J1_canEncode_9a6ad x1 M) fun r2 M1 =>
    if r2 = 0 then
      some ((-1 : Int32), M1)
    else
      bn (maxI x2 (0 : Int32) : Int32) fun y3 =>
      b1 (sN x0) fun v4 =>
      bn (minI x3 v4 : Int32) fun y5 =>
      if y3 < y5 then
        b2 (f_J1_indexOfChar_4cfef x0 x1 y3 y5 M1) fun r7 M6 =>
        some (r7, M6)
      else
        some ((-1 : Int32), M1)

def f_J1_indexOf_4cfef (x0 : Nat) (x1 : Int32) (x2 : Int32) (x3 : Int32) (M : MM) : Option (Int32 × MM) := f_J1_indexOf_4cfef_0 x0 x1 x2 x3 M
set_option maxRecDepth 4000 in
theorem L_J1_indexOf_4cfef_0 {tg : Bool} {G : Gx} (X : Cb G cJ1_indexOf_4cfef 4 RJ1 (RM 5 0 0) tg) (Y : Cr G (some .int) 0 0) (x0 : Nat) (x1 : Int32) (x2 : Int32) (x3 : Int32) (M : MM) : V G trI 4 0 0 0 [(0, .ref x0), (1, .int x1), (2, .int x2), (3, .int x3)] [] M (f_J1_indexOf_4cfef_0 x0 x1 x2 x3 M) := by
  unfold f_J1_indexOf_4cfef_0
  refine v_iload_n X 1 1 dJ1_indexOf_4cfef_0 rfl rfl ?_
  refine v_sI X 4 cs_J1_canEncode_9a6ad ml_J1_88 (n1 := 3) rfl [.int x1] rfl rfl rfl dJ1_indexOf_4cfef_1 rfl (fun r M1 h => c_J1_canEncode_9a6ad _ _ _ _ _ h) (fun r2 M1 => ?_)
  refine v_ifne X 7 9 dJ1_indexOf_4cfef_4 rfl rfl ?_ ?_
  · refine v_iload_n X 10 2 dJ1_indexOf_4cfef_9 rfl rfl ?_
    refine v_iconst X 11 dJ1_indexOf_4cfef_10 ik_0 rfl ?_
    refine v_max X 14 ml_J1_92 w_max (Nat.le_of_ble_eq_true rfl) (Nat.le_of_ble_eq_true rfl) (Nat.zero_le _) (Nat.zero_le _) dJ1_indexOf_4cfef_11 rfl ?_
    refine v_bnI (fun y3 => ?_)
    refine v_istore_n (lv' := [(0, .ref x0), (1, .int x1), (2, .int y3), (3, .int x3)]) X 15 dJ1_indexOf_4cfef_14 (by decide) rfl rfl ?_
    refine v_iload_n X 16 3 dJ1_indexOf_4cfef_15 rfl rfl ?_
    refine v_aload_n X 17 0 dJ1_indexOf_4cfef_16 rfl rfl ?_
    refine v_alenB X 18 dJ1_indexOf_4cfef_17 rfl (fun v4 => ?_)
    refine v_min X 21 ml_J1_38 w_min (Nat.le_of_ble_eq_true rfl) (Nat.le_of_ble_eq_true rfl) (Nat.zero_le _) (Nat.zero_le _) dJ1_indexOf_4cfef_18 rfl ?_
    refine v_bnI (fun y5 => ?_)
    refine v_istore_n (lv' := [(0, .ref x0), (1, .int x1), (2, .int y3), (3, .int y5)]) X 22 dJ1_indexOf_4cfef_21 (by decide) rfl rfl ?_
    refine v_iload_n X 23 2 dJ1_indexOf_4cfef_22 rfl rfl ?_
    refine v_iload_n X 24 3 dJ1_indexOf_4cfef_23 rfl rfl ?_
    refine v_iclt X 27 29 dJ1_indexOf_4cfef_24 rfl rfl ?_ ?_
    · refine v_aload_n X 30 0 dJ1_indexOf_4cfef_29 rfl rfl ?_
      refine v_iload_n X 31 1 dJ1_indexOf_4cfef_30 rfl rfl ?_
      refine v_iload_n X 32 2 dJ1_indexOf_4cfef_31 rfl rfl ?_
      refine v_iload_n X 33 3 dJ1_indexOf_4cfef_32 rfl rfl ?_
      refine v_sI X 36 cs_J1_indexOfChar_4cfef ml_J1_95 (n1 := 3) rfl [.ref x0, .int x1, .int y3, .int y5] rfl rfl rfl dJ1_indexOf_4cfef_33 rfl (fun r M1 h => c_J1_indexOfChar_4cfef _ _ _ _ _ _ _ _ h) (fun r7 M6 => ?_)
      exact v_iret X Y (Nat.le_refl _) (Nat.le_refl _) dJ1_indexOf_4cfef_36
    · refine v_iconst X 28 dJ1_indexOf_4cfef_27 ik_m1 rfl ?_
      exact v_iret X Y (Nat.le_refl _) (Nat.le_refl _) dJ1_indexOf_4cfef_28
  · refine v_iconst X 8 dJ1_indexOf_4cfef_7 ik_m1 rfl ?_
    exact v_iret X Y (Nat.le_refl _) (Nat.le_refl _) dJ1_indexOf_4cfef_8
theorem c_J1_indexOf_4cfef {tg : Bool} (l : Launch) (x0 : Nat) (x1 : Int32) (x2 : Int32) (x3 : Int32) (M : MM) (r : Int32) (M1 : MM) (h : f_J1_indexOf_4cfef x0 x1 x2 x3 M = some (r, M1)) : CtAt l yJ1_indexOf_4cfef cJ1_indexOf_4cfef 4 (some .int) (RM 5 0 0) tg [.ref x0, .int x1, .int x2, .int x3] M (some (.int r)) M1 :=
  ct_of (tr := trI) (by decide) (Nat.le_of_ble_eq_true rfl) [(0, .ref x0), (1, .int x1), (2, .int x2), (3, .int x3)] rfl h (fun G X Y hn hl => L_J1_indexOf_4cfef_0 X Y x0 x1 x2 x3 M)

def f_J0_indexOf_7cf53_0 (x0 : Nat) (x1 : Int32) (x2 : Int32) (M : MM) : Option (Int32 × MM) :=
    b2 (f_J0_isLatin1_aae02 x0 M) fun r2 M1 =>
    if r2 = 0 then
      b1 (sV x0) fun v3 =>
      b2 (f_J0_length_8abf5 x0 M1) fun r5 M4 =>
      none
    else
      b1 (sV x0) fun v6 =>
      b2 (f_J0_length_8abf5 x0 M1) fun r8 M7 =>
      b2 (f_J1_indexOf_4cfef v6 x1 x2 r8 M7) fun r10 M9 =>
      some (r10, M9)

def f_J0_indexOf_7cf53 (x0 : Nat) (x1 : Int32) (x2 : Int32) (M : MM) : Option (Int32 × MM) := if isS x0 = true then f_J0_indexOf_7cf53_0 x0 x1 x2 M else none
set_option maxRecDepth 4000 in
theorem L_J0_indexOf_7cf53_0 {tg : Bool} {G : Gx} (X : Cb G cJ0_indexOf_7cf53 3 RJ0 (RM 9 0 0) tg) (Y : Cr G (some .int) 0 0) (x0 : Nat) (x1 : Int32) (x2 : Int32) (M : MM) : V G trI 3 0 0 0 [(0, .ref x0), (1, .int x1), (2, .int x2)] [] M (f_J0_indexOf_7cf53_0 x0 x1 x2 M) := by
  unfold f_J0_indexOf_7cf53_0
  refine v_aload_n X 1 0 dJ0_indexOf_7cf53_0 rfl rfl ?_
  refine v_tI X 4 cvs_J0_isLatin1_aae02 ml_J0_492 (n1 := 3) rfl [] rfl rfl rfl dJ0_indexOf_7cf53_1 rfl (fun r M1 h => c_J0_isLatin1_aae02 _ _ _ _ _ h) (fun r2 M1 => ?_)
  refine v_ifeq X 7 23 dJ0_indexOf_7cf53_4 rfl rfl ?_ ?_
  · refine v_aload_n X 24 0 dJ0_indexOf_7cf53_23 rfl rfl ?_
    refine v_getSv X 27 sf_9 dJ0_indexOf_7cf53_24 rfl (fun v3 => ?_)
    refine v_iload_n X 28 1 dJ0_indexOf_7cf53_27 rfl rfl ?_
    refine v_iload_n X 29 2 dJ0_indexOf_7cf53_28 rfl rfl ?_
    refine v_aload_n X 30 0 dJ0_indexOf_7cf53_29 rfl rfl ?_
    refine v_tI X 33 cvs_J0_length_8abf5 ml_J0_505 (n1 := 4) rfl [] rfl rfl rfl dJ0_indexOf_7cf53_30 rfl (fun r M1 h => c_J0_length_8abf5 _ _ _ _ _ h) (fun r5 M4 => ?_)
    exact v_none
  · refine v_aload_n X 8 0 dJ0_indexOf_7cf53_7 rfl rfl ?_
    refine v_getSv X 11 sf_9 dJ0_indexOf_7cf53_8 rfl (fun v6 => ?_)
    refine v_iload_n X 12 1 dJ0_indexOf_7cf53_11 rfl rfl ?_
    refine v_iload_n X 13 2 dJ0_indexOf_7cf53_12 rfl rfl ?_
    refine v_aload_n X 14 0 dJ0_indexOf_7cf53_13 rfl rfl ?_
    refine v_tI X 17 cvs_J0_length_8abf5 ml_J0_505 (n1 := 4) rfl [] rfl rfl rfl dJ0_indexOf_7cf53_14 rfl (fun r M1 h => c_J0_length_8abf5 _ _ _ _ _ h) (fun r8 M7 => ?_)
    refine v_sI X 20 cs_J1_indexOf_4cfef ml_J0_637 (n1 := 5) rfl [.ref v6, .int x1, .int x2, .int r8] rfl rfl rfl dJ0_indexOf_7cf53_17 rfl (fun r M1 h => c_J1_indexOf_4cfef _ _ _ _ _ _ _ _ h) (fun r10 M9 => ?_)
    refine v_goto X 36 dJ0_indexOf_7cf53_20 rfl ?_
    exact v_iret X Y (Nat.le_refl _) (Nat.le_refl _) dJ0_indexOf_7cf53_36
theorem c_J0_indexOf_7cf53 {tg : Bool} (l : Launch) (x0 : Nat) (x1 : Int32) (x2 : Int32) (M : MM) (r : Int32) (M1 : MM) (h : f_J0_indexOf_7cf53 x0 x1 x2 M = some (r, M1)) : KS l yJ0_indexOf_7cf53 cJ0_indexOf_7cf53 3 (some .int) (RM 9 0 0) tg x0 [.int x1, .int x2] M (some (.int r)) M1 := by
  obtain ⟨hO, h2⟩ := iteO_some h
  exact ⟨hO, ct_of (tr := trI) (by decide) (Nat.le_of_ble_eq_true rfl) [(0, .ref x0), (1, .int x1), (2, .int x2)] rfl h2 (fun G X Y hn hl => L_J0_indexOf_7cf53_0 X Y x0 x1 x2 M)⟩

def f_J0_indexOf_0f7a4_0 (x0 : Nat) (x1 : Int32) (M : MM) : Option (Int32 × MM) :=
    b2 (f_J0_indexOf_7cf53 x0 x1 (0 : Int32) M) fun r2 M1 =>
    some (r2, M1)

def f_J0_indexOf_0f7a4 (x0 : Nat) (x1 : Int32) (M : MM) : Option (Int32 × MM) := if isS x0 = true then f_J0_indexOf_0f7a4_0 x0 x1 M else none
set_option maxRecDepth 4000 in
theorem L_J0_indexOf_0f7a4_0 {tg : Bool} {G : Gx} (X : Cb G cJ0_indexOf_0f7a4 2 RJ0 (RM 10 0 0) tg) (Y : Cr G (some .int) 0 0) (x0 : Nat) (x1 : Int32) (M : MM) : V G trI 2 0 0 0 [(0, .ref x0), (1, .int x1)] [] M (f_J0_indexOf_0f7a4_0 x0 x1 M) := by
  unfold f_J0_indexOf_0f7a4_0
  refine v_aload_n X 1 0 dJ0_indexOf_0f7a4_0 rfl rfl ?_
  refine v_iload_n X 2 1 dJ0_indexOf_0f7a4_1 rfl rfl ?_
  refine v_iconst X 3 dJ0_indexOf_0f7a4_2 ik_0 rfl ?_
  refine v_tI X 6 cvs_J0_indexOf_7cf53 ml_J0_633 (n1 := 9) rfl [.int x1, .int (0 : Int32)] rfl rfl rfl dJ0_indexOf_0f7a4_3 rfl (fun r M1 h => c_J0_indexOf_7cf53 _ _ _ _ _ _ _ h) (fun r2 M1 => ?_)
  exact v_iret X Y (Nat.le_refl _) (Nat.le_refl _) dJ0_indexOf_0f7a4_6
theorem c_J0_indexOf_0f7a4 {tg : Bool} (l : Launch) (x0 : Nat) (x1 : Int32) (M : MM) (r : Int32) (M1 : MM) (h : f_J0_indexOf_0f7a4 x0 x1 M = some (r, M1)) : KS l yJ0_indexOf_0f7a4 cJ0_indexOf_0f7a4 2 (some .int) (RM 10 0 0) tg x0 [.int x1] M (some (.int r)) M1 := by
  obtain ⟨hO, h2⟩ := iteO_some h
  exact ⟨hO, ct_of (tr := trI) (by decide) (Nat.le_of_ble_eq_true rfl) [(0, .ref x0), (1, .int x1)] rfl h2 (fun G X Y hn hl => L_J0_indexOf_0f7a4_0 X Y x0 x1 M)⟩

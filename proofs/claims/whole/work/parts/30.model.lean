def f_X12_thrown_0 (x0 : Nat) (M : MM) : Option (Int32 × MM) :=
    b1 (gI 12 0 x0 M) fun v1 =>
    some (v1, M)

def f_X12_thrown (x0 : Nat) (M : MM) : Option (Int32 × MM) := if isO 12 x0 M = true then f_X12_thrown_0 x0 M else none
set_option maxRecDepth 4000 in
theorem L_X12_thrown_0 {G : Gx} (X : Cb G cX12_thrown 1 RX12 (RM 1 0 0) false) (Y : Cr G (some .int) 0 0) (x0 : Nat) (M : MM) : V G trI 1 0 0 0 [(0, .ref x0)] [] M (f_X12_thrown_0 x0 M) := by
  unfold f_X12_thrown_0
  refine v_aload_n X 1 0 dX12_thrown_0 rfl rfl ?_
  refine v_getI X 4 fl_X12_133.r dX12_thrown_1 rfl (fun v1 => ?_)
  exact v_iret X Y (Nat.le_refl _) (Nat.le_refl _) dX12_thrown_4
theorem c_X12_thrown (l : Launch) (x0 : Nat) (M : MM) (r : Int32) (M1 : MM) (h : f_X12_thrown x0 M = some (r, M1)) : KV l yX12_thrown cX12_thrown 1 (some .int) (RM 1 0 0) false 12 x0 [] M (some (.int r)) M1 := by
  obtain ⟨hO, h2⟩ := iteO_some h
  exact ⟨hO, ct_of (tr := trI) (by decide) (Nat.le_of_ble_eq_true rfl) [(0, .ref x0)] rfl h2 (fun G X Y hn hl => L_X12_thrown_0 X Y x0 M)⟩

def f_X12_refuse_0 (x0 : Nat) (M : MM) : Option (Int32 × MM) :=
    b1 (pI 12 0 x0 (1 : Int32) M) fun M1 =>
    some ((0 : Int32), M1)

def f_X12_refuse (x0 : Nat) (M : MM) : Option (Int32 × MM) := if isO 12 x0 M = true then f_X12_refuse_0 x0 M else none
set_option maxRecDepth 4000 in
theorem L_X12_refuse_0 {G : Gx} (X : Cb G cX12_refuse 1 RX12 (RM 1 0 0) false) (Y : Cr G (some .int) 0 0) (x0 : Nat) (M : MM) : V G trI 1 0 0 0 [(0, .ref x0)] [] M (f_X12_refuse_0 x0 M) := by
  unfold f_X12_refuse_0
  refine v_aload_n X 1 0 dX12_refuse_0 rfl rfl ?_
  refine v_iconst X 2 dX12_refuse_1 ik_1 rfl ?_
  refine v_putI X 5 fl_X12_133 nof dX12_refuse_2 rfl (fun M1 => ?_)
  refine v_iconst X 6 dX12_refuse_5 ik_0 rfl ?_
  exact v_iret X Y (Nat.le_refl _) (Nat.le_refl _) dX12_refuse_6
theorem c_X12_refuse (l : Launch) (x0 : Nat) (M : MM) (r : Int32) (M1 : MM) (h : f_X12_refuse x0 M = some (r, M1)) : KV l yX12_refuse cX12_refuse 1 (some .int) (RM 1 0 0) false 12 x0 [] M (some (.int r)) M1 := by
  obtain ⟨hO, h2⟩ := iteO_some h
  exact ⟨hO, ct_of (tr := trI) (by decide) (Nat.le_of_ble_eq_true rfl) [(0, .ref x0)] rfl h2 (fun G X Y hn hl => L_X12_refuse_0 X Y x0 M)⟩

def f_X12_in_0 (x0 : Int64) (x2 : Int64) (x4 : Int64) (M : MM) : Option (Int32 × MM) :=
    if (lg_cmp x0 x2) < 0 then
      rz (0 : Int32) M
    else
      if 0 < (lg_cmp x0 x4) then
        rz (0 : Int32) M
      else
        rz (1 : Int32) M

def f_X12_in (x0 : Int64) (x2 : Int64) (x4 : Int64) (M : MM) : Option (Int32 × MM) := f_X12_in_0 x0 x2 x4 M
set_option maxRecDepth 4000 in
theorem L_X12_in_0 {G : Gx} (X : Cb G cX12_in 6 RX12 (RM 1 0 0) false) (Y : Cr G (some .boolean) 0 0) (x0 : Int64) (x2 : Int64) (x4 : Int64) (M : MM) : V G trI 6 0 0 0 [(0, .long x0), (2, .long x2), (4, .long x4)] [] M (f_X12_in_0 x0 x2 x4 M) := by
  unfold f_X12_in_0
  refine v_lload_n X 1 0 dX12_in_0 rfl rfl ?_
  refine v_lload_n X 2 1 dX12_in_1 rfl rfl ?_
  refine v_lcmp X 3 dX12_in_2 rfl ?_
  refine v_iflt X 6 17 dX12_in_3 rfl rfl ?_ ?_
  · refine v_iconst X 18 dX12_in_17 ik_0 rfl ?_
    exact v_zret X Y (Nat.le_refl _) (Nat.le_refl _) dX12_in_18
  · refine v_lload_n X 7 0 dX12_in_6 rfl rfl ?_
    refine v_lload X 9 2 dX12_in_7 rfl rfl ?_
    refine v_lcmp X 10 dX12_in_9 rfl ?_
    refine v_ifgt X 13 17 dX12_in_10 rfl rfl ?_ ?_
    · refine v_iconst X 18 dX12_in_17 ik_0 rfl ?_
      exact v_zret X Y (Nat.le_refl _) (Nat.le_refl _) dX12_in_18
    · refine v_iconst X 14 dX12_in_13 ik_1 rfl ?_
      refine v_goto X 18 dX12_in_14 rfl ?_
      exact v_zret X Y (Nat.le_refl _) (Nat.le_refl _) dX12_in_18
theorem c_X12_in (l : Launch) (x0 : Int64) (x2 : Int64) (x4 : Int64) (M : MM) (r : Int32) (M1 : MM) (h : f_X12_in x0 x2 x4 M = some (r, M1)) : CtAt l yX12_in cX12_in 6 (some .boolean) (RM 1 0 0) false [.long x0, .long x2, .long x4] M (some (.int r)) M1 :=
  ct_of (tr := trI) (by decide) (Nat.le_of_ble_eq_true rfl) [(0, .long x0), (2, .long x2), (4, .long x4)] rfl h (fun G X Y hn hl => L_X12_in_0 X Y x0 x2 x4 M)

def f_X12_has_0 (x0 : Int32) (x1 : Int32) (M : MM) : Option (Int32 × MM) :=
    if ((x0 >>> (x1 &&& 31)) &&& (1 : Int32)) = (1 : Int32) then
      rz (1 : Int32) M
    else
      rz (0 : Int32) M

def f_X12_has (x0 : Int32) (x1 : Int32) (M : MM) : Option (Int32 × MM) := f_X12_has_0 x0 x1 M
set_option maxRecDepth 4000 in
theorem L_X12_has_0 {G : Gx} (X : Cb G cX12_has 2 RX12 (RM 1 0 0) false) (Y : Cr G (some .boolean) 0 0) (x0 : Int32) (x1 : Int32) (M : MM) : V G trI 2 0 0 0 [(0, .int x0), (1, .int x1)] [] M (f_X12_has_0 x0 x1 M) := by
  unfold f_X12_has_0
  refine v_iload_n X 1 0 dX12_has_0 rfl rfl ?_
  refine v_iload_n X 2 1 dX12_has_1 rfl rfl ?_
  refine v_ishr X 3 dX12_has_2 rfl ?_
  refine v_iconst X 4 dX12_has_3 ik_1 rfl ?_
  refine v_iand X 5 dX12_has_4 rfl ?_
  refine v_iconst X 6 dX12_has_5 ik_1 rfl ?_
  refine v_icne X 9 13 dX12_has_6 rfl rfl ?_ ?_
  · refine v_iconst X 14 dX12_has_13 ik_0 rfl ?_
    exact v_zret X Y (Nat.le_refl _) (Nat.le_refl _) dX12_has_14
  · refine v_iconst X 10 dX12_has_9 ik_1 rfl ?_
    refine v_goto X 14 dX12_has_10 rfl ?_
    exact v_zret X Y (Nat.le_refl _) (Nat.le_refl _) dX12_has_14
theorem c_X12_has (l : Launch) (x0 : Int32) (x1 : Int32) (M : MM) (r : Int32) (M1 : MM) (h : f_X12_has x0 x1 M = some (r, M1)) : CtAt l yX12_has cX12_has 2 (some .boolean) (RM 1 0 0) false [.int x0, .int x1] M (some (.int r)) M1 :=
  ct_of (tr := trI) (by decide) (Nat.le_of_ble_eq_true rfl) [(0, .int x0), (1, .int x1)] rfl h (fun G X Y hn hl => L_X12_has_0 X Y x0 x1 M)

def f_X12_flag_0 (x0 : Int32) (M : MM) : Option (Int32 × MM) :=
    if x0 = 0 then
      some ((0 : Int32), M)
    else
      some ((1 : Int32), M)

def f_X12_flag (x0 : Int32) (M : MM) : Option (Int32 × MM) := f_X12_flag_0 x0 M
set_option maxRecDepth 4000 in
theorem L_X12_flag_0 {G : Gx} (X : Cb G cX12_flag 1 RX12 (RM 1 0 0) false) (Y : Cr G (some .int) 0 0) (x0 : Int32) (M : MM) : V G trI 1 0 0 0 [(0, .int x0)] [] M (f_X12_flag_0 x0 M) := by
  unfold f_X12_flag_0
  refine v_iload_n X 1 0 dX12_flag_0 rfl rfl ?_
  refine v_ifeq X 4 8 dX12_flag_1 rfl rfl ?_ ?_
  · refine v_iconst X 9 dX12_flag_8 ik_0 rfl ?_
    exact v_iret X Y (Nat.le_refl _) (Nat.le_refl _) dX12_flag_9
  · refine v_iconst X 5 dX12_flag_4 ik_1 rfl ?_
    refine v_goto X 9 dX12_flag_5 rfl ?_
    exact v_iret X Y (Nat.le_refl _) (Nat.le_refl _) dX12_flag_9
theorem c_X12_flag (l : Launch) (x0 : Int32) (M : MM) (r : Int32) (M1 : MM) (h : f_X12_flag x0 M = some (r, M1)) : CtAt l yX12_flag cX12_flag 1 (some .int) (RM 1 0 0) false [.int x0] M (some (.int r)) M1 :=
  ct_of (tr := trI) (by decide) (Nat.le_of_ble_eq_true rfl) [(0, .int x0)] rfl h (fun G X Y hn hl => L_X12_flag_0 X Y x0 M)

def f_X12_common_0 (P0 : Int64 → Int64 → MM → Option (Int64 × MM)) (x0 : Int64) (x2 : Int64) (M : MM) : Option (Int64 × MM) :=
    if (lg_cmp x2 (0 : Int64)) = 0 then
      some (x0, M)
    else
      b1 (remL x0 x2) fun v1 =>
      b2 (P0 x2 v1 M) fun r3 M2 =>
      some (r3, M2)

set_option maxRecDepth 4000 in
theorem L_X12_common_0 {k : Nat} {G : Gx} (X : Cb G cX12_common 4 RX12 (RM (1 + (k + 1)) 0 0) false) (Y : Cr G (some .long) 0 0) {P0 : Int64 → Int64 → MM → Option (Int64 × MM)} (hP0 : ∀ (x0 : Int64) (x2 : Int64) (M : MM) (r : Int64) (M1 : MM), P0 x0 x2 M = some (r, M1) → CtAt G.1.2.1 yX12_common cX12_common 4 (some .long) (RM (1 + k) 0 0) false [.long x0, .long x2] M (some (.long r)) M1) (x0 : Int64) (x2 : Int64) (M : MM) : V G trL 4 0 0 0 [(0, .long x0), (2, .long x2)] [] M (f_X12_common_0 P0 x0 x2 M) := by
  unfold f_X12_common_0
  refine v_lload_n X 1 1 dX12_common_0 rfl rfl ?_
  refine v_lconst X 2 dX12_common_1 lk_0 rfl ?_
  refine v_lcmp X 3 dX12_common_2 rfl ?_
  refine v_ifne X 6 10 dX12_common_3 rfl rfl ?_ ?_
  · refine v_lload_n X 11 1 dX12_common_10 rfl rfl ?_
    refine v_lload_n X 12 0 dX12_common_11 rfl rfl ?_
    refine v_lload_n X 13 1 dX12_common_12 rfl rfl ?_
    refine v_lrem X 14 dX12_common_13 rfl (fun v1 => ?_)
    refine v_sL X 17 cs_X12_common ml_X12_136 (n1 := (1 + k)) (rmq (by omega) (by decide)) [.long x2, .long v1] rfl rfl rfl dX12_common_14 rfl (fun r M1 h => hP0 _ _ _ _ _ h) (fun r3 M2 => ?_)
    exact v_lret X Y (Nat.le_refl _) (Nat.le_refl _) dX12_common_17
  · refine v_lload_n X 7 0 dX12_common_6 rfl rfl ?_
    refine v_goto X 17 dX12_common_7 rfl ?_
    exact v_lret X Y (Nat.le_refl _) (Nat.le_refl _) dX12_common_17
def f_X12_common : Nat → Int64 → Int64 → MM → Option (Int64 × MM)
  | 0, _, _, _ => none
  | n + 1, x0, x2, M => f_X12_common_0 (f_X12_common n) x0 x2 M
theorem c_X12_common (l : Launch) : ∀ (n : Nat) (x0 : Int64) (x2 : Int64) (M : MM) (r : Int64) (M1 : MM) (h : f_X12_common n x0 x2 M = some (r, M1)), CtAt l yX12_common cX12_common 4 (some .long) (RM (1 + n) 0 0) false [.long x0, .long x2] M (some (.long r)) M1 := by
  intro n
  induction n with
  | zero => intro x0 x2 M r M1 h; rw [f_X12_common] at h; cases h
  | succ n ih =>
    intro x0 x2 M r M1 h
    rw [f_X12_common] at h
    exact ct_of (tr := trL) (by decide) (Nat.le_of_ble_eq_true rfl) [(0, .long x0), (2, .long x2)] rfl h (fun G X Y hn hl => L_X12_common_0 (k := n) X Y (by rw [hl]; exact ih) x0 x2 M)

def f_X12_enters_0 (x0 : Nat) (x1 : Int64) (M : MM) : Option (MM) :=
    b1 (gR 12 2 x0 M) fun v1 =>
    b1 (gI 12 1 x0 M) fun v2 =>
    b1 (stL v1 v2 x1 M) fun M3 =>
    b1 (gI 12 1 x0 M3) fun v4 =>
    b1 (pI 12 1 x0 (v4 + (1 : Int32)) M3) fun M5 =>
    some M5

def f_X12_enters (x0 : Nat) (x1 : Int64) (M : MM) : Option (MM) := if isO 12 x0 M = true then f_X12_enters_0 x0 x1 M else none
set_option maxRecDepth 4000 in
theorem L_X12_enters_0 {G : Gx} (X : Cb G cX12_enters 3 RX12 (RM 1 0 0) false) (Y : Cr G none 0 0) (x0 : Nat) (x1 : Int64) (M : MM) : V G trV 3 0 0 0 [(0, .ref x0), (1, .long x1)] [] M (f_X12_enters_0 x0 x1 M) := by
  unfold f_X12_enters_0
  refine v_aload_n X 1 0 dX12_enters_0 rfl rfl ?_
  refine v_getR X 4 fl_X12_9.r dX12_enters_1 rfl (fun v1 => ?_)
  refine v_aload_n X 5 0 dX12_enters_4 rfl rfl ?_
  refine v_getI X 8 fl_X12_140.r dX12_enters_5 rfl (fun v2 => ?_)
  refine v_lload_n X 9 1 dX12_enters_8 rfl rfl ?_
  refine v_last X 10 dX12_enters_9 rfl (fun M3 => ?_)
  refine v_aload_n X 11 0 dX12_enters_10 rfl rfl ?_
  refine v_dup X 12 dX12_enters_11 rfl rfl ?_
  refine v_getI X 15 fl_X12_140.r dX12_enters_12 rfl (fun v4 => ?_)
  refine v_iconst X 16 dX12_enters_15 ik_1 rfl ?_
  refine v_iadd X 17 dX12_enters_16 rfl ?_
  refine v_putI X 20 fl_X12_140 nof dX12_enters_17 rfl (fun M5 => ?_)
  exact v_vret X Y (Nat.le_refl _) (Nat.le_refl _) dX12_enters_20
theorem c_X12_enters (l : Launch) (x0 : Nat) (x1 : Int64) (M : MM) (M1 : MM) (h : f_X12_enters x0 x1 M = some M1) : KV l yX12_enters cX12_enters 3 none (RM 1 0 0) false 12 x0 [.long x1] M none M1 := by
  obtain ⟨hO, h2⟩ := iteO_some h
  exact ⟨hO, ct_of (tr := trV) (by decide) (Nat.le_of_ble_eq_true rfl) [(0, .ref x0), (1, .long x1)] rfl h2 (fun G X Y hn hl => L_X12_enters_0 X Y x0 x1 M)⟩

def f_X12_isPerson_0 (x0 : Nat) (x1 : Int32) (M : MM) : Option (Int32 × MM) :=
    b1 (gI 12 3 x0 M) fun v1 =>
    b2 (f_X12_in (Int32.toInt64 x1) (0 : Int64) (Int32.toInt64 (v1 - (1 : Int32))) M) fun r3 M2 =>
    rz r3 M2

def f_X12_isPerson (x0 : Nat) (x1 : Int32) (M : MM) : Option (Int32 × MM) := if isO 12 x0 M = true then f_X12_isPerson_0 x0 x1 M else none
set_option maxRecDepth 4000 in
theorem L_X12_isPerson_0 {G : Gx} (X : Cb G cX12_isPerson 2 RX12 (RM 2 0 0) false) (Y : Cr G (some .boolean) 0 0) (x0 : Nat) (x1 : Int32) (M : MM) : V G trI 2 0 0 0 [(0, .ref x0), (1, .int x1)] [] M (f_X12_isPerson_0 x0 x1 M) := by
  unfold f_X12_isPerson_0
  refine v_iload_n X 1 1 dX12_isPerson_0 rfl rfl ?_
  refine v_i2l X 2 dX12_isPerson_1 rfl ?_
  refine v_lconst X 3 dX12_isPerson_2 lk_0 rfl ?_
  refine v_aload_n X 4 0 dX12_isPerson_3 rfl rfl ?_
  refine v_getI X 7 fl_X12_143.r dX12_isPerson_4 rfl (fun v1 => ?_)
  refine v_iconst X 8 dX12_isPerson_7 ik_1 rfl ?_
  refine v_isub X 9 dX12_isPerson_8 rfl ?_
  refine v_i2l X 10 dX12_isPerson_9 rfl ?_
  refine v_sI X 13 cs_X12_in ml_X12_146 (n1 := 1) rfl [.long (Int32.toInt64 x1), .long (0 : Int64), .long (Int32.toInt64 (v1 - (1 : Int32)))] rfl rfl rfl dX12_isPerson_10 rfl (fun r M1 h => c_X12_in _ _ _ _ _ _ _ h) (fun r3 M2 => ?_)
  exact v_zret X Y (Nat.le_refl _) (Nat.le_refl _) dX12_isPerson_13
theorem c_X12_isPerson (l : Launch) (x0 : Nat) (x1 : Int32) (M : MM) (r : Int32) (M1 : MM) (h : f_X12_isPerson x0 x1 M = some (r, M1)) : KV l yX12_isPerson cX12_isPerson 2 (some .boolean) (RM 2 0 0) false 12 x0 [.int x1] M (some (.int r)) M1 := by
  obtain ⟨hO, h2⟩ := iteO_some h
  exact ⟨hO, ct_of (tr := trI) (by decide) (Nat.le_of_ble_eq_true rfl) [(0, .ref x0), (1, .int x1)] rfl h2 (fun G X Y hn hl => L_X12_isPerson_0 X Y x0 x1 M)⟩

def f_X12_isErrand_0 (x0 : Nat) (x1 : Int32) (M : MM) : Option (Int32 × MM) :=
    b1 (gI 12 4 x0 M) fun v1 =>
    b2 (f_X12_in (Int32.toInt64 x1) (0 : Int64) (Int32.toInt64 (v1 - (1 : Int32))) M) fun r3 M2 =>
    rz r3 M2

def f_X12_isErrand (x0 : Nat) (x1 : Int32) (M : MM) : Option (Int32 × MM) := if isO 12 x0 M = true then f_X12_isErrand_0 x0 x1 M else none
set_option maxRecDepth 4000 in
theorem L_X12_isErrand_0 {G : Gx} (X : Cb G cX12_isErrand 2 RX12 (RM 2 0 0) false) (Y : Cr G (some .boolean) 0 0) (x0 : Nat) (x1 : Int32) (M : MM) : V G trI 2 0 0 0 [(0, .ref x0), (1, .int x1)] [] M (f_X12_isErrand_0 x0 x1 M) := by
  unfold f_X12_isErrand_0
  refine v_iload_n X 1 1 dX12_isErrand_0 rfl rfl ?_
  refine v_i2l X 2 dX12_isErrand_1 rfl ?_
  refine v_lconst X 3 dX12_isErrand_2 lk_0 rfl ?_
  refine v_aload_n X 4 0 dX12_isErrand_3 rfl rfl ?_
  refine v_getI X 7 fl_X12_150.r dX12_isErrand_4 rfl (fun v1 => ?_)
  refine v_iconst X 8 dX12_isErrand_7 ik_1 rfl ?_
  refine v_isub X 9 dX12_isErrand_8 rfl ?_
  refine v_i2l X 10 dX12_isErrand_9 rfl ?_
  refine v_sI X 13 cs_X12_in ml_X12_146 (n1 := 1) rfl [.long (Int32.toInt64 x1), .long (0 : Int64), .long (Int32.toInt64 (v1 - (1 : Int32)))] rfl rfl rfl dX12_isErrand_10 rfl (fun r M1 h => c_X12_in _ _ _ _ _ _ _ h) (fun r3 M2 => ?_)
  exact v_zret X Y (Nat.le_refl _) (Nat.le_refl _) dX12_isErrand_13
theorem c_X12_isErrand (l : Launch) (x0 : Nat) (x1 : Int32) (M : MM) (r : Int32) (M1 : MM) (h : f_X12_isErrand x0 x1 M = some (r, M1)) : KV l yX12_isErrand cX12_isErrand 2 (some .boolean) (RM 2 0 0) false 12 x0 [.int x1] M (some (.int r)) M1 := by
  obtain ⟨hO, h2⟩ := iteO_some h
  exact ⟨hO, ct_of (tr := trI) (by decide) (Nat.le_of_ble_eq_true rfl) [(0, .ref x0), (1, .int x1)] rfl h2 (fun G X Y hn hl => L_X12_isErrand_0 X Y x0 x1 M)⟩

def f_X12_isTrip_0 (x0 : Nat) (x1 : Int32) (M : MM) : Option (Int32 × MM) :=
    b1 (gR 12 15 x0 M) fun v1 =>
    b1 (ldI v1 (45 : Int32) M) fun v2 =>
    b2 (f_X12_in (Int32.toInt64 x1) (0 : Int64) (Int32.toInt64 (v2 - (1 : Int32))) M) fun r4 M3 =>
    rz r4 M3

def f_X12_isTrip (x0 : Nat) (x1 : Int32) (M : MM) : Option (Int32 × MM) := if isO 12 x0 M = true then f_X12_isTrip_0 x0 x1 M else none
set_option maxRecDepth 4000 in
theorem L_X12_isTrip_0 {G : Gx} (X : Cb G cX12_isTrip 2 RX12 (RM 2 0 0) false) (Y : Cr G (some .boolean) 0 0) (x0 : Nat) (x1 : Int32) (M : MM) : V G trI 2 0 0 0 [(0, .ref x0), (1, .int x1)] [] M (f_X12_isTrip_0 x0 x1 M) := by
  unfold f_X12_isTrip_0
  refine v_iload_n X 1 1 dX12_isTrip_0 rfl rfl ?_
  refine v_i2l X 2 dX12_isTrip_1 rfl ?_
  refine v_lconst X 3 dX12_isTrip_2 lk_0 rfl ?_
  refine v_aload_n X 4 0 dX12_isTrip_3 rfl rfl ?_
  refine v_getR X 7 fl_X12_43.r dX12_isTrip_4 rfl (fun v1 => ?_)
  refine v_bipush X 9 dX12_isTrip_7 bk_45 rfl ?_
  refine v_iald X 10 dX12_isTrip_9 rfl (fun v2 => ?_)
  refine v_iconst X 11 dX12_isTrip_10 ik_1 rfl ?_
  refine v_isub X 12 dX12_isTrip_11 rfl ?_
  refine v_i2l X 13 dX12_isTrip_12 rfl ?_
  refine v_sI X 16 cs_X12_in ml_X12_146 (n1 := 1) rfl [.long (Int32.toInt64 x1), .long (0 : Int64), .long (Int32.toInt64 (v2 - (1 : Int32)))] rfl rfl rfl dX12_isTrip_13 rfl (fun r M1 h => c_X12_in _ _ _ _ _ _ _ h) (fun r4 M3 => ?_)
  exact v_zret X Y (Nat.le_refl _) (Nat.le_refl _) dX12_isTrip_16
theorem c_X12_isTrip (l : Launch) (x0 : Nat) (x1 : Int32) (M : MM) (r : Int32) (M1 : MM) (h : f_X12_isTrip x0 x1 M = some (r, M1)) : KV l yX12_isTrip cX12_isTrip 2 (some .boolean) (RM 2 0 0) false 12 x0 [.int x1] M (some (.int r)) M1 := by
  obtain ⟨hO, h2⟩ := iteO_some h
  exact ⟨hO, ct_of (tr := trI) (by decide) (Nat.le_of_ble_eq_true rfl) [(0, .ref x0), (1, .int x1)] rfl h2 (fun G X Y hn hl => L_X12_isTrip_0 X Y x0 x1 M)⟩

def f_X12_sign_18 : Nat → Nat → Int32 → Int32 → MM → Option (Int32 × MM)
  | 0, _, _, _, _ => none
  | n + 1, x0, x1, x2, M =>
    if (4 : Int32) ≤ x2 then
      b1 (gI 12 18 x0 M) fun v1 =>
      b1 (pI 12 18 x0 (v1 + (4 : Int32)) M) fun M2 =>
      b1 (gI 12 18 x0 M2) fun v3 =>
      some (v3, M2)
    else
      b1 (gR 12 17 x0 M) fun v4 =>
      b1 (gI 12 18 x0 M) fun v5 =>
      b1 (stI v4 (v5 + x2) ((x1 >>> (((24 : Int32) - ((8 : Int32) * x2)) &&& 31)) &&& (255 : Int32)) M) fun M6 =>
      bn (x2 + 1 : Int32) fun y7 =>
      f_X12_sign_18 n x0 x1 y7 M6

def f_X12_sign_0 (x0 : Nat) (x1 : Int32) (M : MM) : Option (Int32 × MM) :=
    b1 (pI 12 0 x0 (0 : Int32) M) fun M1 =>
    b1 (gI 12 18 x0 M1) fun v2 =>
    if v2 ≤ (76 : Int32) then
      f_X12_sign_18 1024 x0 x1 (0 : Int32) M1
    else
      some ((-1 : Int32), M1)

def f_X12_sign (x0 : Nat) (x1 : Int32) (M : MM) : Option (Int32 × MM) := if isO 12 x0 M = true then f_X12_sign_0 x0 x1 M else none
set_option maxRecDepth 4000 in
theorem L_X12_sign_18 {G : Gx} (X : Cb G cX12_sign 3 RX12 (RM 1 0 0) false) (Y : Cr G (some .int) 0 0) : ∀ (n : Nat) (x0 : Nat) (x1 : Int32) (x2 : Int32) (M : MM), V G trI 3 0 0 18 [(0, .ref x0), (1, .int x1), (2, .int x2)] [] M (f_X12_sign_18 n x0 x1 x2 M) := by
  intro n
  induction n with
  | zero => intro x0 x1 x2 M; rw [f_X12_sign_18]; exact v_none
  | succ n ih =>
    intro x0 x1 x2 M
    rw [f_X12_sign_18]
    refine v_iload_n X 19 2 dX12_sign_18 rfl rfl ?_
    refine v_iconst X 20 dX12_sign_19 ik_4 rfl ?_
    refine v_icge X 23 53 dX12_sign_20 rfl rfl ?_ ?_
    · refine v_aload_n X 54 0 dX12_sign_53 rfl rfl ?_
      refine v_dup X 55 dX12_sign_54 rfl rfl ?_
      refine v_getI X 58 fl_X12_153.r dX12_sign_55 rfl (fun v1 => ?_)
      refine v_iconst X 59 dX12_sign_58 ik_4 rfl ?_
      refine v_iadd X 60 dX12_sign_59 rfl ?_
      refine v_putI X 63 fl_X12_153 nof dX12_sign_60 rfl (fun M2 => ?_)
      refine v_aload_n X 64 0 dX12_sign_63 rfl rfl ?_
      refine v_getI X 67 fl_X12_153.r dX12_sign_64 rfl (fun v3 => ?_)
      exact v_iret X Y (Nat.le_refl _) (Nat.le_refl _) dX12_sign_67
    · refine v_aload_n X 24 0 dX12_sign_23 rfl rfl ?_
      refine v_getR X 27 fl_X12_49.r dX12_sign_24 rfl (fun v4 => ?_)
      refine v_aload_n X 28 0 dX12_sign_27 rfl rfl ?_
      refine v_getI X 31 fl_X12_153.r dX12_sign_28 rfl (fun v5 => ?_)
      refine v_iload_n X 32 2 dX12_sign_31 rfl rfl ?_
      refine v_iadd X 33 dX12_sign_32 rfl ?_
      refine v_iload_n X 34 1 dX12_sign_33 rfl rfl ?_
      refine v_bipush X 36 dX12_sign_34 bk_24 rfl ?_
      refine v_bipush X 38 dX12_sign_36 bk_8 rfl ?_
      refine v_iload_n X 39 2 dX12_sign_38 rfl rfl ?_
      refine v_imul X 40 dX12_sign_39 rfl ?_
      refine v_isub X 41 dX12_sign_40 rfl ?_
      refine v_ishr X 42 dX12_sign_41 rfl ?_
      refine v_sipush X 45 dX12_sign_42 sk_255 rfl ?_
      refine v_iand X 46 dX12_sign_45 rfl ?_
      refine v_iast X 47 dX12_sign_46 rfl (fun M6 => ?_)
      refine v_iinc X 50 2 (fun z => [(0, .ref x0), (1, .int x1), (2, .int z)]) dX12_sign_47 rfl ik_1 (by decide) (fun _ => rfl) rfl (fun y7 => ?_)
      refine v_goto X 18 dX12_sign_50 rfl ?_
      exact ih _ _ _ _
set_option maxRecDepth 4000 in
theorem L_X12_sign_0 {G : Gx} (X : Cb G cX12_sign 3 RX12 (RM 1 0 0) false) (Y : Cr G (some .int) 0 0) (x0 : Nat) (x1 : Int32) (M : MM) : V G trI 3 0 0 0 [(0, .ref x0), (1, .int x1)] [] M (f_X12_sign_0 x0 x1 M) := by
  unfold f_X12_sign_0
  refine v_aload_n X 1 0 dX12_sign_0 rfl rfl ?_
  refine v_iconst X 2 dX12_sign_1 ik_0 rfl ?_
  refine v_putI X 5 fl_X12_133 nof dX12_sign_2 rfl (fun M1 => ?_)
  refine v_aload_n X 6 0 dX12_sign_5 rfl rfl ?_
  refine v_getI X 9 fl_X12_153.r dX12_sign_6 rfl (fun v2 => ?_)
  refine v_bipush X 11 dX12_sign_9 bk_76 rfl ?_
  refine v_icle X 14 16 dX12_sign_11 rfl rfl ?_ ?_
  · refine v_iconst X 17 dX12_sign_16 ik_0 rfl ?_
    refine v_istore_n (lv' := [(0, .ref x0), (1, .int x1), (2, .int (0 : Int32))]) X 18 dX12_sign_17 (by decide) rfl rfl ?_
    exact L_X12_sign_18 X Y 1024 _ _ _ _
  · refine v_iconst X 15 dX12_sign_14 ik_m1 rfl ?_
    exact v_iret X Y (Nat.le_refl _) (Nat.le_refl _) dX12_sign_15
theorem c_X12_sign (l : Launch) (x0 : Nat) (x1 : Int32) (M : MM) (r : Int32) (M1 : MM) (h : f_X12_sign x0 x1 M = some (r, M1)) : KV l yX12_sign cX12_sign 3 (some .int) (RM 1 0 0) false 12 x0 [.int x1] M (some (.int r)) M1 := by
  obtain ⟨hO, h2⟩ := iteO_some h
  exact ⟨hO, ct_of (tr := trI) (by decide) (Nat.le_of_ble_eq_true rfl) [(0, .ref x0), (1, .int x1)] rfl h2 (fun G X Y hn hl => L_X12_sign_0 X Y x0 x1 M)⟩

def f_X12_end_0 (x0 : Nat) (x1 : Int32) (M : MM) : Option (Int32 × MM) :=
    b1 (pI 12 0 x0 (0 : Int32) M) fun M1 =>
    b1 (gI 12 18 x0 M1) fun v2 =>
    b2 (f_X12_in (Int32.toInt64 x1) (0 : Int64) (Int32.toInt64 v2) M1) fun r4 M3 =>
    if r4 = 0 then
      rz (0 : Int32) M3
    else
      b1 (pI 12 18 x0 x1 M3) fun M5 =>
      rz (1 : Int32) M5

def f_X12_end (x0 : Nat) (x1 : Int32) (M : MM) : Option (Int32 × MM) := if isO 12 x0 M = true then f_X12_end_0 x0 x1 M else none
set_option maxRecDepth 4000 in
theorem L_X12_end_0 {G : Gx} (X : Cb G cX12_end 2 RX12 (RM 2 0 0) false) (Y : Cr G (some .boolean) 0 0) (x0 : Nat) (x1 : Int32) (M : MM) : V G trI 2 0 0 0 [(0, .ref x0), (1, .int x1)] [] M (f_X12_end_0 x0 x1 M) := by
  unfold f_X12_end_0
  refine v_aload_n X 1 0 dX12_end_0 rfl rfl ?_
  refine v_iconst X 2 dX12_end_1 ik_0 rfl ?_
  refine v_putI X 5 fl_X12_133 nof dX12_end_2 rfl (fun M1 => ?_)
  refine v_iload_n X 6 1 dX12_end_5 rfl rfl ?_
  refine v_i2l X 7 dX12_end_6 rfl ?_
  refine v_lconst X 8 dX12_end_7 lk_0 rfl ?_
  refine v_aload_n X 9 0 dX12_end_8 rfl rfl ?_
  refine v_getI X 12 fl_X12_153.r dX12_end_9 rfl (fun v2 => ?_)
  refine v_i2l X 13 dX12_end_12 rfl ?_
  refine v_sI X 16 cs_X12_in ml_X12_146 (n1 := 1) rfl [.long (Int32.toInt64 x1), .long (0 : Int64), .long (Int32.toInt64 v2)] rfl rfl rfl dX12_end_13 rfl (fun r M1 h => c_X12_in _ _ _ _ _ _ _ h) (fun r4 M3 => ?_)
  refine v_ifne X 19 21 dX12_end_16 rfl rfl ?_ ?_
  · refine v_aload_n X 22 0 dX12_end_21 rfl rfl ?_
    refine v_iload_n X 23 1 dX12_end_22 rfl rfl ?_
    refine v_putI X 26 fl_X12_153 nof dX12_end_23 rfl (fun M5 => ?_)
    refine v_iconst X 27 dX12_end_26 ik_1 rfl ?_
    exact v_zret X Y (Nat.le_refl _) (Nat.le_refl _) dX12_end_27
  · refine v_iconst X 20 dX12_end_19 ik_0 rfl ?_
    exact v_zret X Y (Nat.le_refl _) (Nat.le_refl _) dX12_end_20
theorem c_X12_end (l : Launch) (x0 : Nat) (x1 : Int32) (M : MM) (r : Int32) (M1 : MM) (h : f_X12_end x0 x1 M = some (r, M1)) : KV l yX12_end cX12_end 2 (some .boolean) (RM 2 0 0) false 12 x0 [.int x1] M (some (.int r)) M1 := by
  obtain ⟨hO, h2⟩ := iteO_some h
  exact ⟨hO, ct_of (tr := trI) (by decide) (Nat.le_of_ble_eq_true rfl) [(0, .ref x0), (1, .int x1)] rfl h2 (fun G X Y hn hl => L_X12_end_0 X Y x0 x1 M)⟩

def f_X12_begins_0 (x0 : Nat) (x1 : Int32) (M : MM) : Option (Int32 × MM) :=
    b1 (gI 12 18 x0 M) fun v1 =>
    b1 (pI 12 18 x0 (0 : Int32) M) fun M2 =>
    b1 (pI 12 19 x0 (0 : Int32) M2) fun M3 =>
    b1 (pI 12 21 x0 (0 : Int32) M3) fun M4 =>
    b1 (pI 12 20 x0 (minI v1 x1) M4) fun M5 =>
    some (v1, M5)

def f_X12_begins (x0 : Nat) (x1 : Int32) (M : MM) : Option (Int32 × MM) := if isO 12 x0 M = true then f_X12_begins_0 x0 x1 M else none
set_option maxRecDepth 4000 in
theorem L_X12_begins_0 {G : Gx} (X : Cb G cX12_begins 3 RX12 (RM 2 0 0) false) (Y : Cr G (some .int) 0 0) (x0 : Nat) (x1 : Int32) (M : MM) : V G trI 3 0 0 0 [(0, .ref x0), (1, .int x1)] [] M (f_X12_begins_0 x0 x1 M) := by
  unfold f_X12_begins_0
  refine v_aload_n X 1 0 dX12_begins_0 rfl rfl ?_
  refine v_getI X 4 fl_X12_153.r dX12_begins_1 rfl (fun v1 => ?_)
  refine v_istore_n (lv' := [(0, .ref x0), (1, .int x1), (2, .int v1)]) X 5 dX12_begins_4 (by decide) rfl rfl ?_
  refine v_aload_n X 6 0 dX12_begins_5 rfl rfl ?_
  refine v_iconst X 7 dX12_begins_6 ik_0 rfl ?_
  refine v_putI X 10 fl_X12_153 nof dX12_begins_7 rfl (fun M2 => ?_)
  refine v_aload_n X 11 0 dX12_begins_10 rfl rfl ?_
  refine v_iconst X 12 dX12_begins_11 ik_0 rfl ?_
  refine v_putI X 15 fl_X12_156 nof dX12_begins_12 rfl (fun M3 => ?_)
  refine v_aload_n X 16 0 dX12_begins_15 rfl rfl ?_
  refine v_iconst X 17 dX12_begins_16 ik_0 rfl ?_
  refine v_putI X 20 fl_X12_159 nof dX12_begins_17 rfl (fun M4 => ?_)
  refine v_aload_n X 21 0 dX12_begins_20 rfl rfl ?_
  refine v_iload_n X 22 2 dX12_begins_21 rfl rfl ?_
  refine v_iload_n X 23 1 dX12_begins_22 rfl rfl ?_
  refine v_min X 26 ml_X12_162 w_min (Nat.le_of_ble_eq_true rfl) (Nat.le_of_ble_eq_true rfl) (Nat.zero_le _) (Nat.zero_le _) dX12_begins_23 rfl ?_
  refine v_putI X 29 fl_X12_168 nof dX12_begins_26 rfl (fun M5 => ?_)
  refine v_iload_n X 30 2 dX12_begins_29 rfl rfl ?_
  exact v_iret X Y (Nat.le_refl _) (Nat.le_refl _) dX12_begins_30
theorem c_X12_begins (l : Launch) (x0 : Nat) (x1 : Int32) (M : MM) (r : Int32) (M1 : MM) (h : f_X12_begins x0 x1 M = some (r, M1)) : KV l yX12_begins cX12_begins 3 (some .int) (RM 2 0 0) false 12 x0 [.int x1] M (some (.int r)) M1 := by
  obtain ⟨hO, h2⟩ := iteO_some h
  exact ⟨hO, ct_of (tr := trI) (by decide) (Nat.le_of_ble_eq_true rfl) [(0, .ref x0), (1, .int x1)] rfl h2 (fun G X Y hn hl => L_X12_begins_0 X Y x0 x1 M)⟩

def f_X12_takes_29 (x0 : Nat) (s0 : Int32) (M : MM) : Option (Int32 × MM) :=
    b1 (gI 12 19 x0 M) fun v1 =>
    b2 (f_X12_flag s0 M) fun r3 M2 =>
    b1 (pI 12 19 x0 (v1 + r3) M2) fun M4 =>
    rz s0 M4

def f_X12_takes_28 (x0 : Nat) (M : MM) : Option (Int32 × MM) :=
    f_X12_takes_29 x0 (0 : Int32) M

def f_X12_takes_0 (x0 : Nat) (x1 : Int32) (M : MM) : Option (Int32 × MM) :=
    b1 (gI 12 19 x0 M) fun v1 =>
    b1 (gI 12 20 x0 M) fun v2 =>
    if v2 ≤ v1 then
      f_X12_takes_28 x0 M
    else
      b1 (gR 12 17 x0 M) fun v3 =>
      b1 (gI 12 19 x0 M) fun v4 =>
      b1 (ldI v3 v4 M) fun v5 =>
      if v5 = x1 then
        f_X12_takes_29 x0 (1 : Int32) M
      else
        f_X12_takes_28 x0 M

def f_X12_takes (x0 : Nat) (x1 : Int32) (M : MM) : Option (Int32 × MM) := if isO 12 x0 M = true then f_X12_takes_0 x0 x1 M else none
set_option maxRecDepth 4000 in
theorem L_X12_takes_29 {G : Gx} (X : Cb G cX12_takes 3 RX12 (RM 2 0 0) false) (Y : Cr G (some .boolean) 0 0) (x0 : Nat) (s0 : Int32) (M : MM) : V G trI 3 0 0 29 [(0, .ref x0)] [.int s0] M (f_X12_takes_29 x0 s0 M) := by
  unfold f_X12_takes_29
  refine v_istore_n (lv' := [(0, .ref x0), (2, .int s0)]) X 30 dX12_takes_29 (by decide) rfl rfl ?_
  refine v_aload_n X 31 0 dX12_takes_30 rfl rfl ?_
  refine v_dup X 32 dX12_takes_31 rfl rfl ?_
  refine v_getI X 35 fl_X12_156.r dX12_takes_32 rfl (fun v1 => ?_)
  refine v_iload_n X 36 1 dX12_takes_35 rfl rfl ?_
  refine v_sI X 39 cs_X12_flag ml_X12_171 (n1 := 1) rfl [.int s0] rfl rfl rfl dX12_takes_36 rfl (fun r M1 h => c_X12_flag _ _ _ _ _ h) (fun r3 M2 => ?_)
  refine v_iadd X 40 dX12_takes_39 rfl ?_
  refine v_putI X 43 fl_X12_156 nof dX12_takes_40 rfl (fun M4 => ?_)
  refine v_iload_n X 44 1 dX12_takes_43 rfl rfl ?_
  exact v_zret X Y (Nat.le_refl _) (Nat.le_refl _) dX12_takes_44
set_option maxRecDepth 4000 in
theorem L_X12_takes_28 {G : Gx} (X : Cb G cX12_takes 3 RX12 (RM 2 0 0) false) (Y : Cr G (some .boolean) 0 0) (x0 : Nat) (M : MM) : V G trI 3 0 0 28 [(0, .ref x0)] [] M (f_X12_takes_28 x0 M) := by
  unfold f_X12_takes_28
  refine v_iconst X 29 dX12_takes_28 ik_0 rfl ?_
  exact L_X12_takes_29 X Y _ _ _
set_option maxRecDepth 4000 in
theorem L_X12_takes_0 {G : Gx} (X : Cb G cX12_takes 3 RX12 (RM 2 0 0) false) (Y : Cr G (some .boolean) 0 0) (x0 : Nat) (x1 : Int32) (M : MM) : V G trI 3 0 0 0 [(0, .ref x0), (1, .int x1)] [] M (f_X12_takes_0 x0 x1 M) := by
  unfold f_X12_takes_0
  refine v_aload_n X 1 0 dX12_takes_0 rfl rfl ?_
  refine v_getI X 4 fl_X12_156.r dX12_takes_1 rfl (fun v1 => ?_)
  refine v_aload_n X 5 0 dX12_takes_4 rfl rfl ?_
  refine v_getI X 8 fl_X12_168.r dX12_takes_5 rfl (fun v2 => ?_)
  refine v_icge X 11 28 dX12_takes_8 rfl rfl ?_ ?_
  · exact v_sb [0] (L_X12_takes_28 X Y _ _) rfl
  · refine v_aload_n X 12 0 dX12_takes_11 rfl rfl ?_
    refine v_getR X 15 fl_X12_49.r dX12_takes_12 rfl (fun v3 => ?_)
    refine v_aload_n X 16 0 dX12_takes_15 rfl rfl ?_
    refine v_getI X 19 fl_X12_156.r dX12_takes_16 rfl (fun v4 => ?_)
    refine v_iald X 20 dX12_takes_19 rfl (fun v5 => ?_)
    refine v_iload_n X 21 1 dX12_takes_20 rfl rfl ?_
    refine v_icne X 24 28 dX12_takes_21 rfl rfl ?_ ?_
    · exact v_sb [0] (L_X12_takes_28 X Y _ _) rfl
    · refine v_iconst X 25 dX12_takes_24 ik_1 rfl ?_
      refine v_goto X 29 dX12_takes_25 rfl ?_
      exact v_sb [0] (L_X12_takes_29 X Y _ _ _) rfl
theorem c_X12_takes (l : Launch) (x0 : Nat) (x1 : Int32) (M : MM) (r : Int32) (M1 : MM) (h : f_X12_takes x0 x1 M = some (r, M1)) : KV l yX12_takes cX12_takes 3 (some .boolean) (RM 2 0 0) false 12 x0 [.int x1] M (some (.int r)) M1 := by
  obtain ⟨hO, h2⟩ := iteO_some h
  exact ⟨hO, ct_of (tr := trI) (by decide) (Nat.le_of_ble_eq_true rfl) [(0, .ref x0), (1, .int x1)] rfl h2 (fun G X Y hn hl => L_X12_takes_0 X Y x0 x1 M)⟩

def f_X12_isDigit_0 (x0 : Nat) (M : MM) : Option (Int32 × MM) :=
    b1 (gI 12 19 x0 M) fun v1 =>
    b1 (gI 12 20 x0 M) fun v2 =>
    if v2 ≤ v1 then
      rz (0 : Int32) M
    else
      b1 (gR 12 17 x0 M) fun v3 =>
      b1 (gI 12 19 x0 M) fun v4 =>
      b1 (ldI v3 v4 M) fun v5 =>
      b2 (f_X12_in (Int32.toInt64 v5) (48 : Int64) (57 : Int64) M) fun r7 M6 =>
      if r7 = 0 then
        rz (0 : Int32) M6
      else
        rz (1 : Int32) M6

def f_X12_isDigit (x0 : Nat) (M : MM) : Option (Int32 × MM) := if isO 12 x0 M = true then f_X12_isDigit_0 x0 M else none
set_option maxRecDepth 4000 in
theorem L_X12_isDigit_0 {G : Gx} (X : Cb G cX12_isDigit 1 RX12 (RM 2 0 0) false) (Y : Cr G (some .boolean) 0 0) (x0 : Nat) (M : MM) : V G trI 1 0 0 0 [(0, .ref x0)] [] M (f_X12_isDigit_0 x0 M) := by
  unfold f_X12_isDigit_0
  refine v_aload_n X 1 0 dX12_isDigit_0 rfl rfl ?_
  refine v_getI X 4 fl_X12_156.r dX12_isDigit_1 rfl (fun v1 => ?_)
  refine v_aload_n X 5 0 dX12_isDigit_4 rfl rfl ?_
  refine v_getI X 8 fl_X12_168.r dX12_isDigit_5 rfl (fun v2 => ?_)
  refine v_icge X 11 37 dX12_isDigit_8 rfl rfl ?_ ?_
  · refine v_iconst X 38 dX12_isDigit_37 ik_0 rfl ?_
    exact v_zret X Y (Nat.le_refl _) (Nat.le_refl _) dX12_isDigit_38
  · refine v_aload_n X 12 0 dX12_isDigit_11 rfl rfl ?_
    refine v_getR X 15 fl_X12_49.r dX12_isDigit_12 rfl (fun v3 => ?_)
    refine v_aload_n X 16 0 dX12_isDigit_15 rfl rfl ?_
    refine v_getI X 19 fl_X12_156.r dX12_isDigit_16 rfl (fun v4 => ?_)
    refine v_iald X 20 dX12_isDigit_19 rfl (fun v5 => ?_)
    refine v_i2l X 21 dX12_isDigit_20 rfl ?_
    refine v_ldc2 X 24 dX12_isDigit_21 kl_X12_175 rfl ?_
    refine v_ldc2 X 27 dX12_isDigit_24 kl_X12_177 rfl ?_
    refine v_sI X 30 cs_X12_in ml_X12_146 (n1 := 1) rfl [.long (Int32.toInt64 v5), .long (48 : Int64), .long (57 : Int64)] rfl rfl rfl dX12_isDigit_27 rfl (fun r M1 h => c_X12_in _ _ _ _ _ _ _ h) (fun r7 M6 => ?_)
    refine v_ifeq X 33 37 dX12_isDigit_30 rfl rfl ?_ ?_
    · refine v_iconst X 38 dX12_isDigit_37 ik_0 rfl ?_
      exact v_zret X Y (Nat.le_refl _) (Nat.le_refl _) dX12_isDigit_38
    · refine v_iconst X 34 dX12_isDigit_33 ik_1 rfl ?_
      refine v_goto X 38 dX12_isDigit_34 rfl ?_
      exact v_zret X Y (Nat.le_refl _) (Nat.le_refl _) dX12_isDigit_38
theorem c_X12_isDigit (l : Launch) (x0 : Nat) (M : MM) (r : Int32) (M1 : MM) (h : f_X12_isDigit x0 M = some (r, M1)) : KV l yX12_isDigit cX12_isDigit 1 (some .boolean) (RM 2 0 0) false 12 x0 [] M (some (.int r)) M1 := by
  obtain ⟨hO, h2⟩ := iteO_some h
  exact ⟨hO, ct_of (tr := trI) (by decide) (Nat.le_of_ble_eq_true rfl) [(0, .ref x0)] rfl h2 (fun G X Y hn hl => L_X12_isDigit_0 X Y x0 M)⟩

def f_X12_among_2 : Nat → Nat → Nat → Int32 → MM → Option (Int32 × MM)
  | 0, _, _, _, _ => none
  | n + 1, x0, x1, x2, M =>
    b2 (f_J0_length_8abf5 x1 M) fun r2 M1 =>
    if r2 ≤ x2 then
      some ((-1 : Int32), M1)
    else
      b1 (gI 12 19 x0 M1) fun v3 =>
      b1 (gI 12 20 x0 M1) fun v4 =>
      if v4 ≤ v3 then
        some ((-1 : Int32), M1)
      else
        b2 (f_J0_charAt_5068e x1 x2 M1) fun r6 M5 =>
        b1 (gR 12 17 x0 M5) fun v7 =>
        b1 (gI 12 19 x0 M5) fun v8 =>
        b1 (ldI v7 v8 M5) fun v9 =>
        if r6 = v9 then
          some (x2, M5)
        else
          bn (x2 + 1 : Int32) fun y10 =>
          f_X12_among_2 n x0 x1 y10 M5

def f_X12_among_0 (x0 : Nat) (x1 : Nat) (M : MM) : Option (Int32 × MM) :=
    f_X12_among_2 1024 x0 x1 (0 : Int32) M

def f_X12_among (x0 : Nat) (x1 : Nat) (M : MM) : Option (Int32 × MM) := if isO 12 x0 M = true then f_X12_among_0 x0 x1 M else none
set_option maxRecDepth 4000 in
theorem L_X12_among_2 {G : Gx} (X : Cb G cX12_among 3 RX12 (RM 13 0 0) false) (Y : Cr G (some .int) 0 0) : ∀ (n : Nat) (x0 : Nat) (x1 : Nat) (x2 : Int32) (M : MM), V G trI 3 0 0 2 [(0, .ref x0), (1, .ref x1), (2, .int x2)] [] M (f_X12_among_2 n x0 x1 x2 M) := by
  intro n
  induction n with
  | zero => intro x0 x1 x2 M; rw [f_X12_among_2]; exact v_none
  | succ n ih =>
    intro x0 x1 x2 M
    rw [f_X12_among_2]
    refine v_iload_n X 3 2 dX12_among_2 rfl rfl ?_
    refine v_aload_n X 4 1 dX12_among_3 rfl rfl ?_
    refine v_tI X 7 cvs_J0_length_8abf5 ml_X12_179 (n1 := 4) rfl [] rfl rfl rfl dX12_among_4 rfl (fun r M1 h => c_J0_length_8abf5 _ _ _ _ _ h) (fun r2 M1 => ?_)
    refine v_icge X 10 46 dX12_among_7 rfl rfl ?_ ?_
    · refine v_iconst X 47 dX12_among_46 ik_m1 rfl ?_
      exact v_iret X Y (Nat.le_refl _) (Nat.le_refl _) dX12_among_47
    · refine v_aload_n X 11 0 dX12_among_10 rfl rfl ?_
      refine v_getI X 14 fl_X12_156.r dX12_among_11 rfl (fun v3 => ?_)
      refine v_aload_n X 15 0 dX12_among_14 rfl rfl ?_
      refine v_getI X 18 fl_X12_168.r dX12_among_15 rfl (fun v4 => ?_)
      refine v_icge X 21 46 dX12_among_18 rfl rfl ?_ ?_
      · refine v_iconst X 47 dX12_among_46 ik_m1 rfl ?_
        exact v_iret X Y (Nat.le_refl _) (Nat.le_refl _) dX12_among_47
      · refine v_aload_n X 22 1 dX12_among_21 rfl rfl ?_
        refine v_iload_n X 23 2 dX12_among_22 rfl rfl ?_
        refine v_tI X 26 cvs_J0_charAt_5068e ml_X12_185 (n1 := 5) rfl [.int x2] rfl rfl rfl dX12_among_23 rfl (fun r M1 h => c_J0_charAt_5068e _ _ _ _ _ _ h) (fun r6 M5 => ?_)
        refine v_aload_n X 27 0 dX12_among_26 rfl rfl ?_
        refine v_getR X 30 fl_X12_49.r dX12_among_27 rfl (fun v7 => ?_)
        refine v_aload_n X 31 0 dX12_among_30 rfl rfl ?_
        refine v_getI X 34 fl_X12_156.r dX12_among_31 rfl (fun v8 => ?_)
        refine v_iald X 35 dX12_among_34 rfl (fun v9 => ?_)
        refine v_icne X 38 40 dX12_among_35 rfl rfl ?_ ?_
        · refine v_iinc X 43 2 (fun z => [(0, .ref x0), (1, .ref x1), (2, .int z)]) dX12_among_40 rfl ik_1 (by decide) (fun _ => rfl) rfl (fun y10 => ?_)
          refine v_goto X 2 dX12_among_43 rfl ?_
          exact ih _ _ _ _
        · refine v_iload_n X 39 2 dX12_among_38 rfl rfl ?_
          exact v_iret X Y (Nat.le_refl _) (Nat.le_refl _) dX12_among_39
set_option maxRecDepth 4000 in
theorem L_X12_among_0 {G : Gx} (X : Cb G cX12_among 3 RX12 (RM 13 0 0) false) (Y : Cr G (some .int) 0 0) (x0 : Nat) (x1 : Nat) (M : MM) : V G trI 3 0 0 0 [(0, .ref x0), (1, .ref x1)] [] M (f_X12_among_0 x0 x1 M) := by
  unfold f_X12_among_0
  refine v_iconst X 1 dX12_among_0 ik_0 rfl ?_
  refine v_istore_n (lv' := [(0, .ref x0), (1, .ref x1), (2, .int (0 : Int32))]) X 2 dX12_among_1 (by decide) rfl rfl ?_
  exact L_X12_among_2 X Y 1024 _ _ _ _
theorem c_X12_among (l : Launch) (x0 : Nat) (x1 : Nat) (M : MM) (r : Int32) (M1 : MM) (h : f_X12_among x0 x1 M = some (r, M1)) : KV l yX12_among cX12_among 3 (some .int) (RM 13 0 0) false 12 x0 [.ref x1] M (some (.int r)) M1 := by
  obtain ⟨hO, h2⟩ := iteO_some h
  exact ⟨hO, ct_of (tr := trI) (by decide) (Nat.le_of_ble_eq_true rfl) [(0, .ref x0), (1, .ref x1)] rfl h2 (fun G X Y hn hl => L_X12_among_0 X Y x0 x1 M)⟩

def f_X12_takesOf_20 (x2 : Int32) (s0 : Int32) (s1 : Int32) (s2 : Nat) (M : MM) : Option (Int32 × MM) :=
    b2 (f_X12_flag s0 M) fun r2 M1 =>
    b1 (pI 12 19 s2 (s1 + r2) M1) fun M3 =>
    some (x2, M3)

def f_X12_takesOf_0 (x0 : Nat) (x1 : Nat) (M : MM) : Option (Int32 × MM) :=
    b2 (f_X12_among x0 x1 M) fun r2 M1 =>
    b1 (gI 12 19 x0 M1) fun v3 =>
    if r2 < 0 then
      f_X12_takesOf_20 r2 (0 : Int32) v3 x0 M1
    else
      f_X12_takesOf_20 r2 (1 : Int32) v3 x0 M1

def f_X12_takesOf (x0 : Nat) (x1 : Nat) (M : MM) : Option (Int32 × MM) := if isO 12 x0 M = true then f_X12_takesOf_0 x0 x1 M else none
set_option maxRecDepth 4000 in
theorem L_X12_takesOf_20 {G : Gx} (X : Cb G cX12_takesOf 3 RX12 (RM 14 0 0) false) (Y : Cr G (some .int) 0 0) (x2 : Int32) (s0 : Int32) (s1 : Int32) (s2 : Nat) (M : MM) : V G trI 3 0 0 20 [(2, .int x2)] [.int s0, .int s1, .ref s2] M (f_X12_takesOf_20 x2 s0 s1 s2 M) := by
  unfold f_X12_takesOf_20
  refine v_sI X 23 cs_X12_flag ml_X12_171 (n1 := 1) rfl [.int s0] rfl rfl rfl dX12_takesOf_20 rfl (fun r M1 h => c_X12_flag _ _ _ _ _ h) (fun r2 M1 => ?_)
  refine v_iadd X 24 dX12_takesOf_23 rfl ?_
  refine v_putI X 27 fl_X12_156 nof dX12_takesOf_24 rfl (fun M3 => ?_)
  refine v_iload_n X 28 0 dX12_takesOf_27 rfl rfl ?_
  exact v_iret X Y (Nat.le_refl _) (Nat.le_refl _) dX12_takesOf_28
set_option maxRecDepth 4000 in
theorem L_X12_takesOf_0 {G : Gx} (X : Cb G cX12_takesOf 3 RX12 (RM 14 0 0) false) (Y : Cr G (some .int) 0 0) (x0 : Nat) (x1 : Nat) (M : MM) : V G trI 3 0 0 0 [(0, .ref x0), (1, .ref x1)] [] M (f_X12_takesOf_0 x0 x1 M) := by
  unfold f_X12_takesOf_0
  refine v_aload_n X 1 0 dX12_takesOf_0 rfl rfl ?_
  refine v_aload_n X 2 1 dX12_takesOf_1 rfl rfl ?_
  refine v_vI X 5 cv_X12_among ml_X12_189 (n1 := 13) rfl [.ref x1] rfl rfl rfl dX12_takesOf_2 rfl (fun r M1 h => c_X12_among _ _ _ _ _ _ h) (fun r2 M1 => ?_)
  refine v_istore_n (lv' := [(0, .ref x0), (1, .ref x1), (2, .int r2)]) X 6 dX12_takesOf_5 (by decide) rfl rfl ?_
  refine v_aload_n X 7 0 dX12_takesOf_6 rfl rfl ?_
  refine v_dup X 8 dX12_takesOf_7 rfl rfl ?_
  refine v_getI X 11 fl_X12_156.r dX12_takesOf_8 rfl (fun v3 => ?_)
  refine v_iload_n X 12 2 dX12_takesOf_11 rfl rfl ?_
  refine v_iflt X 15 19 dX12_takesOf_12 rfl rfl ?_ ?_
  · refine v_iconst X 20 dX12_takesOf_19 ik_0 rfl ?_
    exact v_sb [2] (L_X12_takesOf_20 X Y _ _ _ _ _) rfl
  · refine v_iconst X 16 dX12_takesOf_15 ik_1 rfl ?_
    refine v_goto X 20 dX12_takesOf_16 rfl ?_
    exact v_sb [2] (L_X12_takesOf_20 X Y _ _ _ _ _) rfl
theorem c_X12_takesOf (l : Launch) (x0 : Nat) (x1 : Nat) (M : MM) (r : Int32) (M1 : MM) (h : f_X12_takesOf x0 x1 M = some (r, M1)) : KV l yX12_takesOf cX12_takesOf 3 (some .int) (RM 14 0 0) false 12 x0 [.ref x1] M (some (.int r)) M1 := by
  obtain ⟨hO, h2⟩ := iteO_some h
  exact ⟨hO, ct_of (tr := trI) (by decide) (Nat.le_of_ble_eq_true rfl) [(0, .ref x0), (1, .ref x1)] rfl h2 (fun G X Y hn hl => L_X12_takesOf_0 X Y x0 x1 M)⟩

def f_X12_digit_0 (x0 : Nat) (x1 : Int32) (x2 : Int32) (M : MM) : Option (Int32 × MM) :=
    b2 (f_X12_isDigit x0 M) fun r2 M1 =>
    if r2 = 0 then
      some ((-1 : Int32), M1)
    else
      b1 (gR 12 17 x0 M1) fun v3 =>
      b1 (gI 12 19 x0 M1) fun v4 =>
      b1 (ldI v3 v4 M1) fun v5 =>
      b2 (f_X12_in (Int32.toInt64 (v5 - (48 : Int32))) (Int32.toInt64 x1) (Int32.toInt64 x2) M1) fun r7 M6 =>
      if r7 = 0 then
        some ((-1 : Int32), M6)
      else
        b1 (gI 12 19 x0 M6) fun v8 =>
        b1 (pI 12 19 x0 (v8 + (1 : Int32)) M6) fun M9 =>
        b1 (gR 12 17 x0 M9) fun v10 =>
        b1 (gI 12 19 x0 M9) fun v11 =>
        b1 (ldI v10 (v11 - (1 : Int32)) M9) fun v12 =>
        some (v12 - (48 : Int32), M9)

def f_X12_digit (x0 : Nat) (x1 : Int32) (x2 : Int32) (M : MM) : Option (Int32 × MM) := if isO 12 x0 M = true then f_X12_digit_0 x0 x1 x2 M else none
set_option maxRecDepth 4000 in
theorem L_X12_digit_0 {G : Gx} (X : Cb G cX12_digit 3 RX12 (RM 3 0 0) false) (Y : Cr G (some .int) 0 0) (x0 : Nat) (x1 : Int32) (x2 : Int32) (M : MM) : V G trI 3 0 0 0 [(0, .ref x0), (1, .int x1), (2, .int x2)] [] M (f_X12_digit_0 x0 x1 x2 M) := by
  unfold f_X12_digit_0
  refine v_aload_n X 1 0 dX12_digit_0 rfl rfl ?_
  refine v_vI X 4 cv_X12_isDigit ml_X12_193 (n1 := 2) rfl [] rfl rfl rfl dX12_digit_1 rfl (fun r M1 h => c_X12_isDigit _ _ _ _ _ h) (fun r2 M1 => ?_)
  refine v_ifeq X 7 30 dX12_digit_4 rfl rfl ?_ ?_
  · refine v_iconst X 31 dX12_digit_30 ik_m1 rfl ?_
    exact v_iret X Y (Nat.le_refl _) (Nat.le_refl _) dX12_digit_31
  · refine v_aload_n X 8 0 dX12_digit_7 rfl rfl ?_
    refine v_getR X 11 fl_X12_49.r dX12_digit_8 rfl (fun v3 => ?_)
    refine v_aload_n X 12 0 dX12_digit_11 rfl rfl ?_
    refine v_getI X 15 fl_X12_156.r dX12_digit_12 rfl (fun v4 => ?_)
    refine v_iald X 16 dX12_digit_15 rfl (fun v5 => ?_)
    refine v_bipush X 18 dX12_digit_16 bk_48 rfl ?_
    refine v_isub X 19 dX12_digit_18 rfl ?_
    refine v_i2l X 20 dX12_digit_19 rfl ?_
    refine v_iload_n X 21 1 dX12_digit_20 rfl rfl ?_
    refine v_i2l X 22 dX12_digit_21 rfl ?_
    refine v_iload_n X 23 2 dX12_digit_22 rfl rfl ?_
    refine v_i2l X 24 dX12_digit_23 rfl ?_
    refine v_sI X 27 cs_X12_in ml_X12_146 (n1 := 1) rfl [.long (Int32.toInt64 (v5 - (48 : Int32))), .long (Int32.toInt64 x1), .long (Int32.toInt64 x2)] rfl rfl rfl dX12_digit_24 rfl (fun r M1 h => c_X12_in _ _ _ _ _ _ _ h) (fun r7 M6 => ?_)
    refine v_ifne X 30 32 dX12_digit_27 rfl rfl ?_ ?_
    · refine v_aload_n X 33 0 dX12_digit_32 rfl rfl ?_
      refine v_dup X 34 dX12_digit_33 rfl rfl ?_
      refine v_getI X 37 fl_X12_156.r dX12_digit_34 rfl (fun v8 => ?_)
      refine v_iconst X 38 dX12_digit_37 ik_1 rfl ?_
      refine v_iadd X 39 dX12_digit_38 rfl ?_
      refine v_putI X 42 fl_X12_156 nof dX12_digit_39 rfl (fun M9 => ?_)
      refine v_aload_n X 43 0 dX12_digit_42 rfl rfl ?_
      refine v_getR X 46 fl_X12_49.r dX12_digit_43 rfl (fun v10 => ?_)
      refine v_aload_n X 47 0 dX12_digit_46 rfl rfl ?_
      refine v_getI X 50 fl_X12_156.r dX12_digit_47 rfl (fun v11 => ?_)
      refine v_iconst X 51 dX12_digit_50 ik_1 rfl ?_
      refine v_isub X 52 dX12_digit_51 rfl ?_
      refine v_iald X 53 dX12_digit_52 rfl (fun v12 => ?_)
      refine v_bipush X 55 dX12_digit_53 bk_48 rfl ?_
      refine v_isub X 56 dX12_digit_55 rfl ?_
      exact v_iret X Y (Nat.le_refl _) (Nat.le_refl _) dX12_digit_56
    · refine v_iconst X 31 dX12_digit_30 ik_m1 rfl ?_
      exact v_iret X Y (Nat.le_refl _) (Nat.le_refl _) dX12_digit_31
theorem c_X12_digit (l : Launch) (x0 : Nat) (x1 : Int32) (x2 : Int32) (M : MM) (r : Int32) (M1 : MM) (h : f_X12_digit x0 x1 x2 M = some (r, M1)) : KV l yX12_digit cX12_digit 3 (some .int) (RM 3 0 0) false 12 x0 [.int x1, .int x2] M (some (.int r)) M1 := by
  obtain ⟨hO, h2⟩ := iteO_some h
  exact ⟨hO, ct_of (tr := trI) (by decide) (Nat.le_of_ble_eq_true rfl) [(0, .ref x0), (1, .int x1), (2, .int x2)] rfl h2 (fun G X Y hn hl => L_X12_digit_0 X Y x0 x1 x2 M)⟩

def f_X12_number_13 : Nat → Nat → Int32 → Int32 → Int32 → MM → Option (Int32 × MM)
  | 0, _, _, _, _, _ => none
  | n + 1, x0, x1, x2, x3, M =>
    if x1 ≤ x3 then
      some (x2, M)
    else
      b2 (f_X12_isDigit x0 M) fun r2 M1 =>
      if r2 = 0 then
        some (x2, M1)
      else
        b1 (gR 12 17 x0 M1) fun v3 =>
        b1 (gI 12 19 x0 M1) fun v4 =>
        b1 (ldI v3 v4 M1) fun v5 =>
        bn ((((10 : Int32) * x2) + v5) - (48 : Int32) : Int32) fun y6 =>
        b1 (gI 12 19 x0 M1) fun v7 =>
        b1 (pI 12 19 x0 (v7 + (1 : Int32)) M1) fun M8 =>
        bn (x3 + 1 : Int32) fun y9 =>
        f_X12_number_13 n x0 x1 y6 y9 M8

def f_X12_number_0 (x0 : Nat) (x1 : Int32) (M : MM) : Option (Int32 × MM) :=
    b2 (f_X12_isDigit x0 M) fun r2 M1 =>
    if r2 = 0 then
      some ((-1 : Int32), M1)
    else
      f_X12_number_13 1024 x0 x1 (0 : Int32) (0 : Int32) M1

def f_X12_number (x0 : Nat) (x1 : Int32) (M : MM) : Option (Int32 × MM) := if isO 12 x0 M = true then f_X12_number_0 x0 x1 M else none
set_option maxRecDepth 4000 in
theorem L_X12_number_13 {G : Gx} (X : Cb G cX12_number 4 RX12 (RM 3 0 0) false) (Y : Cr G (some .int) 0 0) : ∀ (n : Nat) (x0 : Nat) (x1 : Int32) (x2 : Int32) (x3 : Int32) (M : MM), V G trI 4 0 0 13 [(0, .ref x0), (1, .int x1), (2, .int x2), (3, .int x3)] [] M (f_X12_number_13 n x0 x1 x2 x3 M) := by
  intro n
  induction n with
  | zero => intro x0 x1 x2 x3 M; rw [f_X12_number_13]; exact v_none
  | succ n ih =>
    intro x0 x1 x2 x3 M
    rw [f_X12_number_13]
    refine v_iload_n X 14 3 dX12_number_13 rfl rfl ?_
    refine v_iload_n X 15 1 dX12_number_14 rfl rfl ?_
    refine v_icge X 18 59 dX12_number_15 rfl rfl ?_ ?_
    · refine v_iload_n X 60 2 dX12_number_59 rfl rfl ?_
      exact v_iret X Y (Nat.le_refl _) (Nat.le_refl _) dX12_number_60
    · refine v_aload_n X 19 0 dX12_number_18 rfl rfl ?_
      refine v_vI X 22 cv_X12_isDigit ml_X12_193 (n1 := 2) rfl [] rfl rfl rfl dX12_number_19 rfl (fun r M1 h => c_X12_isDigit _ _ _ _ _ h) (fun r2 M1 => ?_)
      refine v_ifeq X 25 59 dX12_number_22 rfl rfl ?_ ?_
      · refine v_iload_n X 60 2 dX12_number_59 rfl rfl ?_
        exact v_iret X Y (Nat.le_refl _) (Nat.le_refl _) dX12_number_60
      · refine v_bipush X 27 dX12_number_25 bk_10 rfl ?_
        refine v_iload_n X 28 2 dX12_number_27 rfl rfl ?_
        refine v_imul X 29 dX12_number_28 rfl ?_
        refine v_aload_n X 30 0 dX12_number_29 rfl rfl ?_
        refine v_getR X 33 fl_X12_49.r dX12_number_30 rfl (fun v3 => ?_)
        refine v_aload_n X 34 0 dX12_number_33 rfl rfl ?_
        refine v_getI X 37 fl_X12_156.r dX12_number_34 rfl (fun v4 => ?_)
        refine v_iald X 38 dX12_number_37 rfl (fun v5 => ?_)
        refine v_iadd X 39 dX12_number_38 rfl ?_
        refine v_bipush X 41 dX12_number_39 bk_48 rfl ?_
        refine v_isub X 42 dX12_number_41 rfl ?_
        refine v_bnI (fun y6 => ?_)
        refine v_istore_n (lv' := [(0, .ref x0), (1, .int x1), (2, .int y6), (3, .int x3)]) X 43 dX12_number_42 (by decide) rfl rfl ?_
        refine v_aload_n X 44 0 dX12_number_43 rfl rfl ?_
        refine v_dup X 45 dX12_number_44 rfl rfl ?_
        refine v_getI X 48 fl_X12_156.r dX12_number_45 rfl (fun v7 => ?_)
        refine v_iconst X 49 dX12_number_48 ik_1 rfl ?_
        refine v_iadd X 50 dX12_number_49 rfl ?_
        refine v_putI X 53 fl_X12_156 nof dX12_number_50 rfl (fun M8 => ?_)
        refine v_iinc X 56 3 (fun z => [(0, .ref x0), (1, .int x1), (2, .int y6), (3, .int z)]) dX12_number_53 rfl ik_1 (by decide) (fun _ => rfl) rfl (fun y9 => ?_)
        refine v_goto X 13 dX12_number_56 rfl ?_
        exact ih _ _ _ _ _
set_option maxRecDepth 4000 in
theorem L_X12_number_0 {G : Gx} (X : Cb G cX12_number 4 RX12 (RM 3 0 0) false) (Y : Cr G (some .int) 0 0) (x0 : Nat) (x1 : Int32) (M : MM) : V G trI 4 0 0 0 [(0, .ref x0), (1, .int x1)] [] M (f_X12_number_0 x0 x1 M) := by
  unfold f_X12_number_0
  refine v_aload_n X 1 0 dX12_number_0 rfl rfl ?_
  refine v_vI X 4 cv_X12_isDigit ml_X12_193 (n1 := 2) rfl [] rfl rfl rfl dX12_number_1 rfl (fun r M1 h => c_X12_isDigit _ _ _ _ _ h) (fun r2 M1 => ?_)
  refine v_ifne X 7 9 dX12_number_4 rfl rfl ?_ ?_
  · refine v_iconst X 10 dX12_number_9 ik_0 rfl ?_
    refine v_istore_n (lv' := [(0, .ref x0), (1, .int x1), (2, .int (0 : Int32))]) X 11 dX12_number_10 (by decide) rfl rfl ?_
    refine v_iconst X 12 dX12_number_11 ik_0 rfl ?_
    refine v_istore_n (lv' := [(0, .ref x0), (1, .int x1), (2, .int (0 : Int32)), (3, .int (0 : Int32))]) X 13 dX12_number_12 (by decide) rfl rfl ?_
    exact L_X12_number_13 X Y 1024 _ _ _ _ _
  · refine v_iconst X 8 dX12_number_7 ik_m1 rfl ?_
    exact v_iret X Y (Nat.le_refl _) (Nat.le_refl _) dX12_number_8
theorem c_X12_number (l : Launch) (x0 : Nat) (x1 : Int32) (M : MM) (r : Int32) (M1 : MM) (h : f_X12_number x0 x1 M = some (r, M1)) : KV l yX12_number cX12_number 4 (some .int) (RM 3 0 0) false 12 x0 [.int x1] M (some (.int r)) M1 := by
  obtain ⟨hO, h2⟩ := iteO_some h
  exact ⟨hO, ct_of (tr := trI) (by decide) (Nat.le_of_ble_eq_true rfl) [(0, .ref x0), (1, .int x1)] rfl h2 (fun G X Y hn hl => L_X12_number_0 X Y x0 x1 M)⟩

def f_X12_letter_0 (x0 : Nat) (x1 : Int32) (M : MM) : Option (Int32 × MM) :=
    b1 (gI 12 19 x0 M) fun v1 =>
    b1 (gI 12 20 x0 M) fun v2 =>
    if v2 ≤ v1 then
      some ((-1 : Int32), M)
    else
      b1 (gR 12 17 x0 M) fun v3 =>
      b1 (gI 12 19 x0 M) fun v4 =>
      b1 (ldI v3 v4 M) fun v5 =>
      b2 (f_X12_in (Int32.toInt64 v5) (97 : Int64) (Int32.toInt64 (((97 : Int32) + x1) - (1 : Int32))) M) fun r7 M6 =>
      if r7 = 0 then
        some ((-1 : Int32), M6)
      else
        b1 (gI 12 19 x0 M6) fun v8 =>
        b1 (pI 12 19 x0 (v8 + (1 : Int32)) M6) fun M9 =>
        b1 (gR 12 17 x0 M9) fun v10 =>
        b1 (gI 12 19 x0 M9) fun v11 =>
        b1 (ldI v10 (v11 - (1 : Int32)) M9) fun v12 =>
        some (v12 - (97 : Int32), M9)

def f_X12_letter (x0 : Nat) (x1 : Int32) (M : MM) : Option (Int32 × MM) := if isO 12 x0 M = true then f_X12_letter_0 x0 x1 M else none
set_option maxRecDepth 4000 in
theorem L_X12_letter_0 {G : Gx} (X : Cb G cX12_letter 2 RX12 (RM 2 0 0) false) (Y : Cr G (some .int) 0 0) (x0 : Nat) (x1 : Int32) (M : MM) : V G trI 2 0 0 0 [(0, .ref x0), (1, .int x1)] [] M (f_X12_letter_0 x0 x1 M) := by
  unfold f_X12_letter_0
  refine v_aload_n X 1 0 dX12_letter_0 rfl rfl ?_
  refine v_getI X 4 fl_X12_156.r dX12_letter_1 rfl (fun v1 => ?_)
  refine v_aload_n X 5 0 dX12_letter_4 rfl rfl ?_
  refine v_getI X 8 fl_X12_168.r dX12_letter_5 rfl (fun v2 => ?_)
  refine v_icge X 11 37 dX12_letter_8 rfl rfl ?_ ?_
  · refine v_iconst X 38 dX12_letter_37 ik_m1 rfl ?_
    exact v_iret X Y (Nat.le_refl _) (Nat.le_refl _) dX12_letter_38
  · refine v_aload_n X 12 0 dX12_letter_11 rfl rfl ?_
    refine v_getR X 15 fl_X12_49.r dX12_letter_12 rfl (fun v3 => ?_)
    refine v_aload_n X 16 0 dX12_letter_15 rfl rfl ?_
    refine v_getI X 19 fl_X12_156.r dX12_letter_16 rfl (fun v4 => ?_)
    refine v_iald X 20 dX12_letter_19 rfl (fun v5 => ?_)
    refine v_i2l X 21 dX12_letter_20 rfl ?_
    refine v_ldc2 X 24 dX12_letter_21 kl_X12_197 rfl ?_
    refine v_bipush X 26 dX12_letter_24 bk_97 rfl ?_
    refine v_iload_n X 27 1 dX12_letter_26 rfl rfl ?_
    refine v_iadd X 28 dX12_letter_27 rfl ?_
    refine v_iconst X 29 dX12_letter_28 ik_1 rfl ?_
    refine v_isub X 30 dX12_letter_29 rfl ?_
    refine v_i2l X 31 dX12_letter_30 rfl ?_
    refine v_sI X 34 cs_X12_in ml_X12_146 (n1 := 1) rfl [.long (Int32.toInt64 v5), .long (97 : Int64), .long (Int32.toInt64 (((97 : Int32) + x1) - (1 : Int32)))] rfl rfl rfl dX12_letter_31 rfl (fun r M1 h => c_X12_in _ _ _ _ _ _ _ h) (fun r7 M6 => ?_)
    refine v_ifne X 37 39 dX12_letter_34 rfl rfl ?_ ?_
    · refine v_aload_n X 40 0 dX12_letter_39 rfl rfl ?_
      refine v_dup X 41 dX12_letter_40 rfl rfl ?_
      refine v_getI X 44 fl_X12_156.r dX12_letter_41 rfl (fun v8 => ?_)
      refine v_iconst X 45 dX12_letter_44 ik_1 rfl ?_
      refine v_iadd X 46 dX12_letter_45 rfl ?_
      refine v_putI X 49 fl_X12_156 nof dX12_letter_46 rfl (fun M9 => ?_)
      refine v_aload_n X 50 0 dX12_letter_49 rfl rfl ?_
      refine v_getR X 53 fl_X12_49.r dX12_letter_50 rfl (fun v10 => ?_)
      refine v_aload_n X 54 0 dX12_letter_53 rfl rfl ?_
      refine v_getI X 57 fl_X12_156.r dX12_letter_54 rfl (fun v11 => ?_)
      refine v_iconst X 58 dX12_letter_57 ik_1 rfl ?_
      refine v_isub X 59 dX12_letter_58 rfl ?_
      refine v_iald X 60 dX12_letter_59 rfl (fun v12 => ?_)
      refine v_bipush X 62 dX12_letter_60 bk_97 rfl ?_
      refine v_isub X 63 dX12_letter_62 rfl ?_
      exact v_iret X Y (Nat.le_refl _) (Nat.le_refl _) dX12_letter_63
    · refine v_iconst X 38 dX12_letter_37 ik_m1 rfl ?_
      exact v_iret X Y (Nat.le_refl _) (Nat.le_refl _) dX12_letter_38
theorem c_X12_letter (l : Launch) (x0 : Nat) (x1 : Int32) (M : MM) (r : Int32) (M1 : MM) (h : f_X12_letter x0 x1 M = some (r, M1)) : KV l yX12_letter cX12_letter 2 (some .int) (RM 2 0 0) false 12 x0 [.int x1] M (some (.int r)) M1 := by
  obtain ⟨hO, h2⟩ := iteO_some h
  exact ⟨hO, ct_of (tr := trI) (by decide) (Nat.le_of_ble_eq_true rfl) [(0, .ref x0), (1, .int x1)] rfl h2 (fun G X Y hn hl => L_X12_letter_0 X Y x0 x1 M)⟩

def f_X12_faultOf_44 (x0 : Nat) (x4 : Int32) (M : MM) : Option (Int32 × MM) :=
    if x4 = 0 then
      b1 (gI 12 19 x0 M) fun v1 =>
      some ((-1 : Int32) - v1, M)
    else
      some ((0 : Int32), M)

def f_X12_faultOf_20 (x0 : Nat) (x1 : Int32) (x2 : Int32) (s0 : Int32) (M : MM) : Option (Int32 × MM) :=
    if x1 ≤ x2 then
      f_X12_faultOf_44 x0 s0 M
    else
      if s0 = 0 then
        b1 (gI 12 19 x0 M) fun v1 =>
        if v1 < x2 then
          f_X12_faultOf_44 x0 s0 M
        else
          some ((-1 : Int32) - x2, M)
      else
        some ((-1 : Int32) - x2, M)

def f_X12_faultOf_19 (x0 : Nat) (x1 : Int32) (x2 : Int32) (M : MM) : Option (Int32 × MM) :=
    f_X12_faultOf_20 x0 x1 x2 (0 : Int32) M

def f_X12_faultOf_0 (x0 : Nat) (x1 : Int32) (x2 : Int32) (x3 : Int32) (M : MM) : Option (Int32 × MM) :=
    if x3 = 0 then
      f_X12_faultOf_19 x0 x1 x2 M
    else
      b1 (gI 12 19 x0 M) fun v1 =>
      b1 (gI 12 20 x0 M) fun v2 =>
      if v1 = v2 then
        f_X12_faultOf_20 x0 x1 x2 (1 : Int32) M
      else
        f_X12_faultOf_19 x0 x1 x2 M

def f_X12_faultOf (x0 : Nat) (x1 : Int32) (x2 : Int32) (x3 : Int32) (M : MM) : Option (Int32 × MM) := if isO 12 x0 M = true then f_X12_faultOf_0 x0 x1 x2 x3 M else none
set_option maxRecDepth 4000 in
theorem L_X12_faultOf_44 {G : Gx} (X : Cb G cX12_faultOf 5 RX12 (RM 1 0 0) false) (Y : Cr G (some .int) 0 0) (x0 : Nat) (x4 : Int32) (M : MM) : V G trI 5 0 0 44 [(0, .ref x0), (4, .int x4)] [] M (f_X12_faultOf_44 x0 x4 M) := by
  unfold f_X12_faultOf_44
  refine v_iload X 46 1 dX12_faultOf_44 rfl rfl ?_
  refine v_ifeq X 49 53 dX12_faultOf_46 rfl rfl ?_ ?_
  · refine v_iconst X 54 dX12_faultOf_53 ik_m1 rfl ?_
    refine v_aload_n X 55 0 dX12_faultOf_54 rfl rfl ?_
    refine v_getI X 58 fl_X12_156.r dX12_faultOf_55 rfl (fun v1 => ?_)
    refine v_isub X 59 dX12_faultOf_58 rfl ?_
    exact v_iret X Y (Nat.le_refl _) (Nat.le_refl _) dX12_faultOf_59
  · refine v_iconst X 50 dX12_faultOf_49 ik_0 rfl ?_
    refine v_goto X 59 dX12_faultOf_50 rfl ?_
    exact v_iret X Y (Nat.le_refl _) (Nat.le_refl _) dX12_faultOf_59
set_option maxRecDepth 4000 in
theorem L_X12_faultOf_20 {G : Gx} (X : Cb G cX12_faultOf 5 RX12 (RM 1 0 0) false) (Y : Cr G (some .int) 0 0) (x0 : Nat) (x1 : Int32) (x2 : Int32) (s0 : Int32) (M : MM) : V G trI 5 0 0 20 [(0, .ref x0), (1, .int x1), (2, .int x2)] [.int s0] M (f_X12_faultOf_20 x0 x1 x2 s0 M) := by
  unfold f_X12_faultOf_20
  refine v_istore (lv' := [(0, .ref x0), (1, .int x1), (2, .int x2), (4, .int s0)]) X 22 dX12_faultOf_20 (by decide) rfl rfl ?_
  refine v_iload_n X 23 1 dX12_faultOf_22 rfl rfl ?_
  refine v_iload_n X 24 2 dX12_faultOf_23 rfl rfl ?_
  refine v_icle X 27 44 dX12_faultOf_24 rfl rfl ?_ ?_
  · exact v_sb [0, 3] (L_X12_faultOf_44 X Y _ _ _) rfl
  · refine v_iload X 29 3 dX12_faultOf_27 rfl rfl ?_
    refine v_ifne X 32 40 dX12_faultOf_29 rfl rfl ?_ ?_
    · refine v_iconst X 41 dX12_faultOf_40 ik_m1 rfl ?_
      refine v_iload_n X 42 2 dX12_faultOf_41 rfl rfl ?_
      refine v_isub X 43 dX12_faultOf_42 rfl ?_
      exact v_iret X Y (Nat.le_refl _) (Nat.le_refl _) dX12_faultOf_43
    · refine v_aload_n X 33 0 dX12_faultOf_32 rfl rfl ?_
      refine v_getI X 36 fl_X12_156.r dX12_faultOf_33 rfl (fun v1 => ?_)
      refine v_iload_n X 37 2 dX12_faultOf_36 rfl rfl ?_
      refine v_iclt X 40 44 dX12_faultOf_37 rfl rfl ?_ ?_
      · exact v_sb [0, 3] (L_X12_faultOf_44 X Y _ _ _) rfl
      · refine v_iconst X 41 dX12_faultOf_40 ik_m1 rfl ?_
        refine v_iload_n X 42 2 dX12_faultOf_41 rfl rfl ?_
        refine v_isub X 43 dX12_faultOf_42 rfl ?_
        exact v_iret X Y (Nat.le_refl _) (Nat.le_refl _) dX12_faultOf_43
set_option maxRecDepth 4000 in
theorem L_X12_faultOf_19 {G : Gx} (X : Cb G cX12_faultOf 5 RX12 (RM 1 0 0) false) (Y : Cr G (some .int) 0 0) (x0 : Nat) (x1 : Int32) (x2 : Int32) (M : MM) : V G trI 5 0 0 19 [(0, .ref x0), (1, .int x1), (2, .int x2)] [] M (f_X12_faultOf_19 x0 x1 x2 M) := by
  unfold f_X12_faultOf_19
  refine v_iconst X 20 dX12_faultOf_19 ik_0 rfl ?_
  exact L_X12_faultOf_20 X Y _ _ _ _ _
set_option maxRecDepth 4000 in
theorem L_X12_faultOf_0 {G : Gx} (X : Cb G cX12_faultOf 5 RX12 (RM 1 0 0) false) (Y : Cr G (some .int) 0 0) (x0 : Nat) (x1 : Int32) (x2 : Int32) (x3 : Int32) (M : MM) : V G trI 5 0 0 0 [(0, .ref x0), (1, .int x1), (2, .int x2), (3, .int x3)] [] M (f_X12_faultOf_0 x0 x1 x2 x3 M) := by
  unfold f_X12_faultOf_0
  refine v_iload_n X 1 3 dX12_faultOf_0 rfl rfl ?_
  refine v_ifeq X 4 19 dX12_faultOf_1 rfl rfl ?_ ?_
  · exact v_sb [0, 1, 2] (L_X12_faultOf_19 X Y _ _ _ _) rfl
  · refine v_aload_n X 5 0 dX12_faultOf_4 rfl rfl ?_
    refine v_getI X 8 fl_X12_156.r dX12_faultOf_5 rfl (fun v1 => ?_)
    refine v_aload_n X 9 0 dX12_faultOf_8 rfl rfl ?_
    refine v_getI X 12 fl_X12_168.r dX12_faultOf_9 rfl (fun v2 => ?_)
    refine v_icne X 15 19 dX12_faultOf_12 rfl rfl ?_ ?_
    · exact v_sb [0, 1, 2] (L_X12_faultOf_19 X Y _ _ _ _) rfl
    · refine v_iconst X 16 dX12_faultOf_15 ik_1 rfl ?_
      refine v_goto X 20 dX12_faultOf_16 rfl ?_
      exact v_sb [0, 1, 2] (L_X12_faultOf_20 X Y _ _ _ _ _) rfl
theorem c_X12_faultOf (l : Launch) (x0 : Nat) (x1 : Int32) (x2 : Int32) (x3 : Int32) (M : MM) (r : Int32) (M1 : MM) (h : f_X12_faultOf x0 x1 x2 x3 M = some (r, M1)) : KV l yX12_faultOf cX12_faultOf 5 (some .int) (RM 1 0 0) false 12 x0 [.int x1, .int x2, .int x3] M (some (.int r)) M1 := by
  obtain ⟨hO, h2⟩ := iteO_some h
  exact ⟨hO, ct_of (tr := trI) (by decide) (Nat.le_of_ble_eq_true rfl) [(0, .ref x0), (1, .int x1), (2, .int x2), (3, .int x3)] rfl h2 (fun G X Y hn hl => L_X12_faultOf_0 X Y x0 x1 x2 x3 M)⟩

def f_X12_readsPerson_0 (x0 : Nat) (M : MM) : Option (Int32 × MM) :=
    b1 (gI 12 3 x0 M) fun v1 =>
    b1 (gI 12 24 x0 M) fun v2 =>
    if (v1 + v2) = (6 : Int32) then
      rz (0 : Int32) M
    else
      b1 (gI 12 19 x0 M) fun v3 =>
      b1 (pI 12 19 x0 (v3 + (1 : Int32)) M) fun M4 =>
      b1 (gR 12 22 x0 M4) fun v5 =>
      b1 (gI 12 24 x0 M4) fun v6 =>
      b2 (f_X12_takes x0 (33 : Int32) M4) fun r8 M7 =>
      b1 (stZ v5 v6 r8 M7) fun M9 =>
      b1 (gI 12 24 x0 M9) fun v10 =>
      b1 (pI 12 24 x0 (v10 + (1 : Int32)) M9) fun M11 =>
      rz (1 : Int32) M11

def f_X12_readsPerson (x0 : Nat) (M : MM) : Option (Int32 × MM) := if isO 12 x0 M = true then f_X12_readsPerson_0 x0 M else none
set_option maxRecDepth 4000 in
theorem L_X12_readsPerson_0 {G : Gx} (X : Cb G cX12_readsPerson 1 RX12 (RM 3 0 0) false) (Y : Cr G (some .boolean) 0 0) (x0 : Nat) (M : MM) : V G trI 1 0 0 0 [(0, .ref x0)] [] M (f_X12_readsPerson_0 x0 M) := by
  unfold f_X12_readsPerson_0
  refine v_aload_n X 1 0 dX12_readsPerson_0 rfl rfl ?_
  refine v_getI X 4 fl_X12_143.r dX12_readsPerson_1 rfl (fun v1 => ?_)
  refine v_aload_n X 5 0 dX12_readsPerson_4 rfl rfl ?_
  refine v_getI X 8 fl_X12_199.r dX12_readsPerson_5 rfl (fun v2 => ?_)
  refine v_iadd X 9 dX12_readsPerson_8 rfl ?_
  refine v_bipush X 11 dX12_readsPerson_9 bk_6 rfl ?_
  refine v_icne X 14 16 dX12_readsPerson_11 rfl rfl ?_ ?_
  · refine v_aload_n X 17 0 dX12_readsPerson_16 rfl rfl ?_
    refine v_dup X 18 dX12_readsPerson_17 rfl rfl ?_
    refine v_getI X 21 fl_X12_156.r dX12_readsPerson_18 rfl (fun v3 => ?_)
    refine v_iconst X 22 dX12_readsPerson_21 ik_1 rfl ?_
    refine v_iadd X 23 dX12_readsPerson_22 rfl ?_
    refine v_putI X 26 fl_X12_156 nof dX12_readsPerson_23 rfl (fun M4 => ?_)
    refine v_aload_n X 27 0 dX12_readsPerson_26 rfl rfl ?_
    refine v_getR X 30 fl_X12_52.r dX12_readsPerson_27 rfl (fun v5 => ?_)
    refine v_aload_n X 31 0 dX12_readsPerson_30 rfl rfl ?_
    refine v_getI X 34 fl_X12_199.r dX12_readsPerson_31 rfl (fun v6 => ?_)
    refine v_aload_n X 35 0 dX12_readsPerson_34 rfl rfl ?_
    refine v_bipush X 37 dX12_readsPerson_35 bk_33 rfl ?_
    refine v_vI X 40 cv_X12_takes ml_X12_202 (n1 := 2) rfl [.int (33 : Int32)] rfl rfl rfl dX12_readsPerson_37 rfl (fun r M1 h => c_X12_takes _ _ _ _ _ _ h) (fun r8 M7 => ?_)
    refine v_zast X 41 dX12_readsPerson_40 rfl (fun M9 => ?_)
    refine v_aload_n X 42 0 dX12_readsPerson_41 rfl rfl ?_
    refine v_dup X 43 dX12_readsPerson_42 rfl rfl ?_
    refine v_getI X 46 fl_X12_199.r dX12_readsPerson_43 rfl (fun v10 => ?_)
    refine v_iconst X 47 dX12_readsPerson_46 ik_1 rfl ?_
    refine v_iadd X 48 dX12_readsPerson_47 rfl ?_
    refine v_putI X 51 fl_X12_199 nof dX12_readsPerson_48 rfl (fun M11 => ?_)
    refine v_iconst X 52 dX12_readsPerson_51 ik_1 rfl ?_
    exact v_zret X Y (Nat.le_refl _) (Nat.le_refl _) dX12_readsPerson_52
  · refine v_iconst X 15 dX12_readsPerson_14 ik_0 rfl ?_
    exact v_zret X Y (Nat.le_refl _) (Nat.le_refl _) dX12_readsPerson_15
theorem c_X12_readsPerson (l : Launch) (x0 : Nat) (M : MM) (r : Int32) (M1 : MM) (h : f_X12_readsPerson x0 M = some (r, M1)) : KV l yX12_readsPerson cX12_readsPerson 1 (some .boolean) (RM 3 0 0) false 12 x0 [] M (some (.int r)) M1 := by
  obtain ⟨hO, h2⟩ := iteO_some h
  exact ⟨hO, ct_of (tr := trI) (by decide) (Nat.le_of_ble_eq_true rfl) [(0, .ref x0)] rfl h2 (fun G X Y hn hl => L_X12_readsPerson_0 X Y x0 M)⟩

def f_X12_readsErrand_183 (s0 : Int32) (s1 : Int32) (s2 : Nat) (M : MM) : Option (Int32 × MM) :=
    b2 (f_X12_flag s0 M) fun r2 M1 =>
    b1 (pI 12 19 s2 (s1 - r2) M1) fun M3 =>
    rz (0 : Int32) M3

def f_X12_readsErrand_0 (x0 : Nat) (M : MM) : Option (Int32 × MM) :=
    b1 (gI 12 4 x0 M) fun v1 =>
    b1 (gI 12 25 x0 M) fun v2 =>
    if (v1 + v2) = (8 : Int32) then
      rz (0 : Int32) M
    else
      b1 (gI 12 25 x0 M) fun v3 =>
      bn ((6 : Int32) * v3 : Int32) fun y4 =>
      b1 (gI 12 19 x0 M) fun v5 =>
      b1 (pI 12 19 x0 (v5 + (1 : Int32)) M) fun M6 =>
      b1 (gR 12 23 x0 M6) fun v7 =>
      b2 (f_X12_digit x0 (0 : Int32) (9 : Int32) M6) fun r9 M8 =>
      b1 (stI v7 y4 r9 M8) fun M10 =>
      b1 (gR 12 23 x0 M10) fun v11 =>
      b1 (ldI v11 y4 M10) fun v12 =>
      if 0 ≤ v12 then
        b1 (gR 12 23 x0 M10) fun v13 =>
        b2 (f_X12_digit x0 (1 : Int32) (9 : Int32) M10) fun r15 M14 =>
        b1 (stI v13 (y4 + (1 : Int32)) r15 M14) fun M16 =>
        b1 (gR 12 23 x0 M16) fun v17 =>
        b1 (ldI v17 (y4 + (1 : Int32)) M16) fun v18 =>
        if v18 < 0 then
          rz (0 : Int32) M16
        else
          b2 (f_X12_takes x0 (64 : Int32) M16) fun r20 M19 =>
          if r20 = 0 then
            rz (0 : Int32) M19
          else
            b1 (gR 12 23 x0 M19) fun v21 =>
            b2 (f_X12_number x0 (2 : Int32) M19) fun r23 M22 =>
            b1 (stI v21 (y4 + (2 : Int32)) r23 M22) fun M24 =>
            b1 (gR 12 23 x0 M24) fun v25 =>
            b1 (ldI v25 (y4 + (2 : Int32)) M24) fun v26 =>
            if v26 < 0 then
              rz (0 : Int32) M24
            else
              b2 (f_X12_takes x0 (45 : Int32) M24) fun r28 M27 =>
              if r28 = 0 then
                rz (0 : Int32) M27
              else
                b1 (gR 12 23 x0 M27) fun v29 =>
                b2 (f_X12_number x0 (2 : Int32) M27) fun r31 M30 =>
                b1 (stI v29 (y4 + (3 : Int32)) r31 M30) fun M32 =>
                b1 (gR 12 23 x0 M32) fun v33 =>
                b1 (ldI v33 (y4 + (3 : Int32)) M32) fun v34 =>
                b1 (gR 12 23 x0 M32) fun v35 =>
                b1 (ldI v35 (y4 + (2 : Int32)) M32) fun v36 =>
                if v36 ≤ v34 then
                  b1 (gR 12 23 x0 M32) fun v37 =>
                  b2 (f_X12_takesOf x0 (sB + 3) M32) fun r39 M38 =>
                  b1 (stI v37 (y4 + (4 : Int32)) ((1 : Int32) + r39) M38) fun M40 =>
                  b1 (gR 12 23 x0 M40) fun v41 =>
                  b2 (f_X12_takes x0 (94 : Int32) M40) fun r43 M42 =>
                  b2 (f_X12_flag r43 M42) fun r45 M44 =>
                  b1 (stI v41 (y4 + (5 : Int32)) r45 M44) fun M46 =>
                  b1 (gI 12 25 x0 M46) fun v47 =>
                  b1 (pI 12 25 x0 (v47 + (1 : Int32)) M46) fun M48 =>
                  rz (1 : Int32) M48
                else
                  b1 (gI 12 19 x0 M32) fun v49 =>
                  b1 (gR 12 23 x0 M32) fun v50 =>
                  b1 (ldI v50 (y4 + (3 : Int32)) M32) fun v51 =>
                  if v51 < 0 then
                    f_X12_readsErrand_183 (0 : Int32) v49 x0 M32
                  else
                    f_X12_readsErrand_183 (1 : Int32) v49 x0 M32
      else
        rz (0 : Int32) M10

def f_X12_readsErrand (x0 : Nat) (M : MM) : Option (Int32 × MM) := if isO 12 x0 M = true then f_X12_readsErrand_0 x0 M else none
set_option maxRecDepth 4000 in
theorem L_X12_readsErrand_183 {G : Gx} (X : Cb G cX12_readsErrand 2 RX12 (RM 15 0 0) false) (Y : Cr G (some .boolean) 0 0) (s0 : Int32) (s1 : Int32) (s2 : Nat) (M : MM) : V G trI 2 0 0 183 [] [.int s0, .int s1, .ref s2] M (f_X12_readsErrand_183 s0 s1 s2 M) := by
  unfold f_X12_readsErrand_183
  refine v_sI X 186 cs_X12_flag ml_X12_171 (n1 := 1) rfl [.int s0] rfl rfl rfl dX12_readsErrand_183 rfl (fun r M1 h => c_X12_flag _ _ _ _ _ h) (fun r2 M1 => ?_)
  refine v_isub X 187 dX12_readsErrand_186 rfl ?_
  refine v_putI X 190 fl_X12_156 nof dX12_readsErrand_187 rfl (fun M3 => ?_)
  refine v_iconst X 191 dX12_readsErrand_190 ik_0 rfl ?_
  exact v_zret X Y (Nat.le_refl _) (Nat.le_refl _) dX12_readsErrand_191
set_option maxRecDepth 4000 in
theorem L_X12_readsErrand_0 {G : Gx} (X : Cb G cX12_readsErrand 2 RX12 (RM 15 0 0) false) (Y : Cr G (some .boolean) 0 0) (x0 : Nat) (M : MM) : V G trI 2 0 0 0 [(0, .ref x0)] [] M (f_X12_readsErrand_0 x0 M) := by
  unfold f_X12_readsErrand_0
  refine v_aload_n X 1 0 dX12_readsErrand_0 rfl rfl ?_
  refine v_getI X 4 fl_X12_150.r dX12_readsErrand_1 rfl (fun v1 => ?_)
  refine v_aload_n X 5 0 dX12_readsErrand_4 rfl rfl ?_
  refine v_getI X 8 fl_X12_206.r dX12_readsErrand_5 rfl (fun v2 => ?_)
  refine v_iadd X 9 dX12_readsErrand_8 rfl ?_
  refine v_bipush X 11 dX12_readsErrand_9 bk_8 rfl ?_
  refine v_icne X 14 16 dX12_readsErrand_11 rfl rfl ?_ ?_
  · refine v_bipush X 18 dX12_readsErrand_16 bk_6 rfl ?_
    refine v_aload_n X 19 0 dX12_readsErrand_18 rfl rfl ?_
    refine v_getI X 22 fl_X12_206.r dX12_readsErrand_19 rfl (fun v3 => ?_)
    refine v_imul X 23 dX12_readsErrand_22 rfl ?_
    refine v_bnI (fun y4 => ?_)
    refine v_istore_n (lv' := [(0, .ref x0), (1, .int y4)]) X 24 dX12_readsErrand_23 (by decide) rfl rfl ?_
    refine v_aload_n X 25 0 dX12_readsErrand_24 rfl rfl ?_
    refine v_dup X 26 dX12_readsErrand_25 rfl rfl ?_
    refine v_getI X 29 fl_X12_156.r dX12_readsErrand_26 rfl (fun v5 => ?_)
    refine v_iconst X 30 dX12_readsErrand_29 ik_1 rfl ?_
    refine v_iadd X 31 dX12_readsErrand_30 rfl ?_
    refine v_putI X 34 fl_X12_156 nof dX12_readsErrand_31 rfl (fun M6 => ?_)
    refine v_aload_n X 35 0 dX12_readsErrand_34 rfl rfl ?_
    refine v_getR X 38 fl_X12_55.r dX12_readsErrand_35 rfl (fun v7 => ?_)
    refine v_iload_n X 39 1 dX12_readsErrand_38 rfl rfl ?_
    refine v_aload_n X 40 0 dX12_readsErrand_39 rfl rfl ?_
    refine v_iconst X 41 dX12_readsErrand_40 ik_0 rfl ?_
    refine v_bipush X 43 dX12_readsErrand_41 bk_9 rfl ?_
    refine v_vI X 46 cv_X12_digit ml_X12_209 (n1 := 3) rfl [.int (0 : Int32), .int (9 : Int32)] rfl rfl rfl dX12_readsErrand_43 rfl (fun r M1 h => c_X12_digit _ _ _ _ _ _ _ h) (fun r9 M8 => ?_)
    refine v_iast X 47 dX12_readsErrand_46 rfl (fun M10 => ?_)
    refine v_aload_n X 48 0 dX12_readsErrand_47 rfl rfl ?_
    refine v_getR X 51 fl_X12_55.r dX12_readsErrand_48 rfl (fun v11 => ?_)
    refine v_iload_n X 52 1 dX12_readsErrand_51 rfl rfl ?_
    refine v_iald X 53 dX12_readsErrand_52 rfl (fun v12 => ?_)
    refine v_ifge X 56 58 dX12_readsErrand_53 rfl rfl ?_ ?_
    · refine v_aload_n X 59 0 dX12_readsErrand_58 rfl rfl ?_
      refine v_getR X 62 fl_X12_55.r dX12_readsErrand_59 rfl (fun v13 => ?_)
      refine v_iload_n X 63 1 dX12_readsErrand_62 rfl rfl ?_
      refine v_iconst X 64 dX12_readsErrand_63 ik_1 rfl ?_
      refine v_iadd X 65 dX12_readsErrand_64 rfl ?_
      refine v_aload_n X 66 0 dX12_readsErrand_65 rfl rfl ?_
      refine v_iconst X 67 dX12_readsErrand_66 ik_1 rfl ?_
      refine v_bipush X 69 dX12_readsErrand_67 bk_9 rfl ?_
      refine v_vI X 72 cv_X12_digit ml_X12_209 (n1 := 3) rfl [.int (1 : Int32), .int (9 : Int32)] rfl rfl rfl dX12_readsErrand_69 rfl (fun r M1 h => c_X12_digit _ _ _ _ _ _ _ h) (fun r15 M14 => ?_)
      refine v_iast X 73 dX12_readsErrand_72 rfl (fun M16 => ?_)
      refine v_aload_n X 74 0 dX12_readsErrand_73 rfl rfl ?_
      refine v_getR X 77 fl_X12_55.r dX12_readsErrand_74 rfl (fun v17 => ?_)
      refine v_iload_n X 78 1 dX12_readsErrand_77 rfl rfl ?_
      refine v_iconst X 79 dX12_readsErrand_78 ik_1 rfl ?_
      refine v_iadd X 80 dX12_readsErrand_79 rfl ?_
      refine v_iald X 81 dX12_readsErrand_80 rfl (fun v18 => ?_)
      refine v_iflt X 84 93 dX12_readsErrand_81 rfl rfl ?_ ?_
      · refine v_iconst X 94 dX12_readsErrand_93 ik_0 rfl ?_
        exact v_zret X Y (Nat.le_refl _) (Nat.le_refl _) dX12_readsErrand_94
      · refine v_aload_n X 85 0 dX12_readsErrand_84 rfl rfl ?_
        refine v_bipush X 87 dX12_readsErrand_85 bk_64 rfl ?_
        refine v_vI X 90 cv_X12_takes ml_X12_202 (n1 := 2) rfl [.int (64 : Int32)] rfl rfl rfl dX12_readsErrand_87 rfl (fun r M1 h => c_X12_takes _ _ _ _ _ _ h) (fun r20 M19 => ?_)
        refine v_ifne X 93 95 dX12_readsErrand_90 rfl rfl ?_ ?_
        · refine v_aload_n X 96 0 dX12_readsErrand_95 rfl rfl ?_
          refine v_getR X 99 fl_X12_55.r dX12_readsErrand_96 rfl (fun v21 => ?_)
          refine v_iload_n X 100 1 dX12_readsErrand_99 rfl rfl ?_
          refine v_iconst X 101 dX12_readsErrand_100 ik_2 rfl ?_
          refine v_iadd X 102 dX12_readsErrand_101 rfl ?_
          refine v_aload_n X 103 0 dX12_readsErrand_102 rfl rfl ?_
          refine v_iconst X 104 dX12_readsErrand_103 ik_2 rfl ?_
          refine v_vI X 107 cv_X12_number ml_X12_212 (n1 := 3) rfl [.int (2 : Int32)] rfl rfl rfl dX12_readsErrand_104 rfl (fun r M1 h => c_X12_number _ _ _ _ _ _ h) (fun r23 M22 => ?_)
          refine v_iast X 108 dX12_readsErrand_107 rfl (fun M24 => ?_)
          refine v_aload_n X 109 0 dX12_readsErrand_108 rfl rfl ?_
          refine v_getR X 112 fl_X12_55.r dX12_readsErrand_109 rfl (fun v25 => ?_)
          refine v_iload_n X 113 1 dX12_readsErrand_112 rfl rfl ?_
          refine v_iconst X 114 dX12_readsErrand_113 ik_2 rfl ?_
          refine v_iadd X 115 dX12_readsErrand_114 rfl ?_
          refine v_iald X 116 dX12_readsErrand_115 rfl (fun v26 => ?_)
          refine v_iflt X 119 128 dX12_readsErrand_116 rfl rfl ?_ ?_
          · refine v_iconst X 129 dX12_readsErrand_128 ik_0 rfl ?_
            exact v_zret X Y (Nat.le_refl _) (Nat.le_refl _) dX12_readsErrand_129
          · refine v_aload_n X 120 0 dX12_readsErrand_119 rfl rfl ?_
            refine v_bipush X 122 dX12_readsErrand_120 bk_45 rfl ?_
            refine v_vI X 125 cv_X12_takes ml_X12_202 (n1 := 2) rfl [.int (45 : Int32)] rfl rfl rfl dX12_readsErrand_122 rfl (fun r M1 h => c_X12_takes _ _ _ _ _ _ h) (fun r28 M27 => ?_)
            refine v_ifne X 128 130 dX12_readsErrand_125 rfl rfl ?_ ?_
            · refine v_aload_n X 131 0 dX12_readsErrand_130 rfl rfl ?_
              refine v_getR X 134 fl_X12_55.r dX12_readsErrand_131 rfl (fun v29 => ?_)
              refine v_iload_n X 135 1 dX12_readsErrand_134 rfl rfl ?_
              refine v_iconst X 136 dX12_readsErrand_135 ik_3 rfl ?_
              refine v_iadd X 137 dX12_readsErrand_136 rfl ?_
              refine v_aload_n X 138 0 dX12_readsErrand_137 rfl rfl ?_
              refine v_iconst X 139 dX12_readsErrand_138 ik_2 rfl ?_
              refine v_vI X 142 cv_X12_number ml_X12_212 (n1 := 3) rfl [.int (2 : Int32)] rfl rfl rfl dX12_readsErrand_139 rfl (fun r M1 h => c_X12_number _ _ _ _ _ _ h) (fun r31 M30 => ?_)
              refine v_iast X 143 dX12_readsErrand_142 rfl (fun M32 => ?_)
              refine v_aload_n X 144 0 dX12_readsErrand_143 rfl rfl ?_
              refine v_getR X 147 fl_X12_55.r dX12_readsErrand_144 rfl (fun v33 => ?_)
              refine v_iload_n X 148 1 dX12_readsErrand_147 rfl rfl ?_
              refine v_iconst X 149 dX12_readsErrand_148 ik_3 rfl ?_
              refine v_iadd X 150 dX12_readsErrand_149 rfl ?_
              refine v_iald X 151 dX12_readsErrand_150 rfl (fun v34 => ?_)
              refine v_aload_n X 152 0 dX12_readsErrand_151 rfl rfl ?_
              refine v_getR X 155 fl_X12_55.r dX12_readsErrand_152 rfl (fun v35 => ?_)
              refine v_iload_n X 156 1 dX12_readsErrand_155 rfl rfl ?_
              refine v_iconst X 157 dX12_readsErrand_156 ik_2 rfl ?_
              refine v_iadd X 158 dX12_readsErrand_157 rfl ?_
              refine v_iald X 159 dX12_readsErrand_158 rfl (fun v36 => ?_)
              refine v_icge X 162 192 dX12_readsErrand_159 rfl rfl ?_ ?_
              · refine v_aload_n X 193 0 dX12_readsErrand_192 rfl rfl ?_
                refine v_getR X 196 fl_X12_55.r dX12_readsErrand_193 rfl (fun v37 => ?_)
                refine v_iload_n X 197 1 dX12_readsErrand_196 rfl rfl ?_
                refine v_iconst X 198 dX12_readsErrand_197 ik_4 rfl ?_
                refine v_iadd X 199 dX12_readsErrand_198 rfl ?_
                refine v_iconst X 200 dX12_readsErrand_199 ik_1 rfl ?_
                refine v_aload_n X 201 0 dX12_readsErrand_200 rfl rfl ?_
                refine v_ldcS X 203 (tx := "+*") (no := 3) dX12_readsErrand_201 (by decide) rfl ?_
                refine v_vI X 206 cv_X12_takesOf ml_X12_218 (n1 := 14) rfl [.ref (sB + 3)] rfl rfl rfl dX12_readsErrand_203 rfl (fun r M1 h => c_X12_takesOf _ _ _ _ _ _ h) (fun r39 M38 => ?_)
                refine v_iadd X 207 dX12_readsErrand_206 rfl ?_
                refine v_iast X 208 dX12_readsErrand_207 rfl (fun M40 => ?_)
                refine v_aload_n X 209 0 dX12_readsErrand_208 rfl rfl ?_
                refine v_getR X 212 fl_X12_55.r dX12_readsErrand_209 rfl (fun v41 => ?_)
                refine v_iload_n X 213 1 dX12_readsErrand_212 rfl rfl ?_
                refine v_iconst X 214 dX12_readsErrand_213 ik_5 rfl ?_
                refine v_iadd X 215 dX12_readsErrand_214 rfl ?_
                refine v_aload_n X 216 0 dX12_readsErrand_215 rfl rfl ?_
                refine v_bipush X 218 dX12_readsErrand_216 bk_94 rfl ?_
                refine v_vI X 221 cv_X12_takes ml_X12_202 (n1 := 2) rfl [.int (94 : Int32)] rfl rfl rfl dX12_readsErrand_218 rfl (fun r M1 h => c_X12_takes _ _ _ _ _ _ h) (fun r43 M42 => ?_)
                refine v_sI X 224 cs_X12_flag ml_X12_171 (n1 := 1) rfl [.int r43] rfl rfl rfl dX12_readsErrand_221 rfl (fun r M1 h => c_X12_flag _ _ _ _ _ h) (fun r45 M44 => ?_)
                refine v_iast X 225 dX12_readsErrand_224 rfl (fun M46 => ?_)
                refine v_aload_n X 226 0 dX12_readsErrand_225 rfl rfl ?_
                refine v_dup X 227 dX12_readsErrand_226 rfl rfl ?_
                refine v_getI X 230 fl_X12_206.r dX12_readsErrand_227 rfl (fun v47 => ?_)
                refine v_iconst X 231 dX12_readsErrand_230 ik_1 rfl ?_
                refine v_iadd X 232 dX12_readsErrand_231 rfl ?_
                refine v_putI X 235 fl_X12_206 nof dX12_readsErrand_232 rfl (fun M48 => ?_)
                refine v_iconst X 236 dX12_readsErrand_235 ik_1 rfl ?_
                exact v_zret X Y (Nat.le_refl _) (Nat.le_refl _) dX12_readsErrand_236
              · refine v_aload_n X 163 0 dX12_readsErrand_162 rfl rfl ?_
                refine v_dup X 164 dX12_readsErrand_163 rfl rfl ?_
                refine v_getI X 167 fl_X12_156.r dX12_readsErrand_164 rfl (fun v49 => ?_)
                refine v_aload_n X 168 0 dX12_readsErrand_167 rfl rfl ?_
                refine v_getR X 171 fl_X12_55.r dX12_readsErrand_168 rfl (fun v50 => ?_)
                refine v_iload_n X 172 1 dX12_readsErrand_171 rfl rfl ?_
                refine v_iconst X 173 dX12_readsErrand_172 ik_3 rfl ?_
                refine v_iadd X 174 dX12_readsErrand_173 rfl ?_
                refine v_iald X 175 dX12_readsErrand_174 rfl (fun v51 => ?_)
                refine v_iflt X 178 182 dX12_readsErrand_175 rfl rfl ?_ ?_
                · refine v_iconst X 183 dX12_readsErrand_182 ik_0 rfl ?_
                  exact v_sb [] (L_X12_readsErrand_183 X Y _ _ _ _) rfl
                · refine v_iconst X 179 dX12_readsErrand_178 ik_1 rfl ?_
                  refine v_goto X 183 dX12_readsErrand_179 rfl ?_
                  exact v_sb [] (L_X12_readsErrand_183 X Y _ _ _ _) rfl
            · refine v_iconst X 129 dX12_readsErrand_128 ik_0 rfl ?_
              exact v_zret X Y (Nat.le_refl _) (Nat.le_refl _) dX12_readsErrand_129
        · refine v_iconst X 94 dX12_readsErrand_93 ik_0 rfl ?_
          exact v_zret X Y (Nat.le_refl _) (Nat.le_refl _) dX12_readsErrand_94
    · refine v_iconst X 57 dX12_readsErrand_56 ik_0 rfl ?_
      exact v_zret X Y (Nat.le_refl _) (Nat.le_refl _) dX12_readsErrand_57
  · refine v_iconst X 15 dX12_readsErrand_14 ik_0 rfl ?_
    exact v_zret X Y (Nat.le_refl _) (Nat.le_refl _) dX12_readsErrand_15
theorem c_X12_readsErrand (l : Launch) (x0 : Nat) (M : MM) (r : Int32) (M1 : MM) (h : f_X12_readsErrand x0 M = some (r, M1)) : KV l yX12_readsErrand cX12_readsErrand 2 (some .boolean) (RM 15 0 0) false 12 x0 [] M (some (.int r)) M1 := by
  obtain ⟨hO, h2⟩ := iteO_some h
  exact ⟨hO, ct_of (tr := trI) (by decide) (Nat.le_of_ble_eq_true rfl) [(0, .ref x0)] rfl h2 (fun G X Y hn hl => L_X12_readsErrand_0 X Y x0 M)⟩

def f_X12_readsLine_0 (x0 : Nat) (M : MM) : Option (Int32 × MM) :=
    b2 (f_X12_among x0 (sB + 1) M) fun r2 M1 =>
    if r2 = 0 then
      b2 (f_X12_readsPerson x0 M1) fun r8 M7 =>
      rz r8 M7
    else
      b2 (f_X12_among x0 (sB + 2) M1) fun r4 M3 =>
      if r4 = 0 then
        b2 (f_X12_readsErrand x0 M3) fun r6 M5 =>
        if r6 = 0 then
          rz (0 : Int32) M5
        else
          rz (1 : Int32) M5
      else
        rz (0 : Int32) M3

def f_X12_readsLine (x0 : Nat) (M : MM) : Option (Int32 × MM) := if isO 12 x0 M = true then f_X12_readsLine_0 x0 M else none
set_option maxRecDepth 4000 in
theorem L_X12_readsLine_0 {G : Gx} (X : Cb G cX12_readsLine 1 RX12 (RM 16 0 0) false) (Y : Cr G (some .boolean) 0 0) (x0 : Nat) (M : MM) : V G trI 1 0 0 0 [(0, .ref x0)] [] M (f_X12_readsLine_0 x0 M) := by
  unfold f_X12_readsLine_0
  refine v_aload_n X 1 0 dX12_readsLine_0 rfl rfl ?_
  refine v_ldcS X 3 (tx := "p") (no := 1) dX12_readsLine_1 (by decide) rfl ?_
  refine v_vI X 6 cv_X12_among ml_X12_189 (n1 := 13) rfl [.ref (sB + 1)] rfl rfl rfl dX12_readsLine_3 rfl (fun r M1 h => c_X12_among _ _ _ _ _ _ h) (fun r2 M1 => ?_)
  refine v_ifne X 9 16 dX12_readsLine_6 rfl rfl ?_ ?_
  · refine v_aload_n X 17 0 dX12_readsLine_16 rfl rfl ?_
    refine v_ldcS X 19 (tx := "e") (no := 2) dX12_readsLine_17 (by decide) rfl ?_
    refine v_vI X 22 cv_X12_among ml_X12_189 (n1 := 13) rfl [.ref (sB + 2)] rfl rfl rfl dX12_readsLine_19 rfl (fun r M1 h => c_X12_among _ _ _ _ _ _ h) (fun r4 M3 => ?_)
    refine v_ifne X 25 36 dX12_readsLine_22 rfl rfl ?_ ?_
    · refine v_iconst X 37 dX12_readsLine_36 ik_0 rfl ?_
      exact v_zret X Y (Nat.le_refl _) (Nat.le_refl _) dX12_readsLine_37
    · refine v_aload_n X 26 0 dX12_readsLine_25 rfl rfl ?_
      refine v_vI X 29 cv_X12_readsErrand ml_X12_228 (n1 := 15) rfl [] rfl rfl rfl dX12_readsLine_26 rfl (fun r M1 h => c_X12_readsErrand _ _ _ _ _ h) (fun r6 M5 => ?_)
      refine v_ifeq X 32 36 dX12_readsLine_29 rfl rfl ?_ ?_
      · refine v_iconst X 37 dX12_readsLine_36 ik_0 rfl ?_
        exact v_zret X Y (Nat.le_refl _) (Nat.le_refl _) dX12_readsLine_37
      · refine v_iconst X 33 dX12_readsLine_32 ik_1 rfl ?_
        refine v_goto X 37 dX12_readsLine_33 rfl ?_
        exact v_zret X Y (Nat.le_refl _) (Nat.le_refl _) dX12_readsLine_37
  · refine v_aload_n X 10 0 dX12_readsLine_9 rfl rfl ?_
    refine v_vI X 13 cv_X12_readsPerson ml_X12_223 (n1 := 3) rfl [] rfl rfl rfl dX12_readsLine_10 rfl (fun r M1 h => c_X12_readsPerson _ _ _ _ _ h) (fun r8 M7 => ?_)
    refine v_goto X 37 dX12_readsLine_13 rfl ?_
    exact v_zret X Y (Nat.le_refl _) (Nat.le_refl _) dX12_readsLine_37
theorem c_X12_readsLine (l : Launch) (x0 : Nat) (M : MM) (r : Int32) (M1 : MM) (h : f_X12_readsLine x0 M = some (r, M1)) : KV l yX12_readsLine cX12_readsLine 1 (some .boolean) (RM 16 0 0) false 12 x0 [] M (some (.int r)) M1 := by
  obtain ⟨hO, h2⟩ := iteO_some h
  exact ⟨hO, ct_of (tr := trI) (by decide) (Nat.le_of_ble_eq_true rfl) [(0, .ref x0)] rfl h2 (fun G X Y hn hl => L_X12_readsLine_0 X Y x0 M)⟩

def f_X12_station_61 (K34 : Nat → Int32 → Int32 → Int32 → MM → Option (Int32 × MM)) (x0 : Nat) (x1 : Int32) (x2 : Int32) (s0 : Int32) (M : MM) : Option (Int32 × MM) :=
    K34 x0 x1 x2 s0 M

def f_X12_station_60 (K34 : Nat → Int32 → Int32 → Int32 → MM → Option (Int32 × MM)) (x0 : Nat) (x1 : Int32) (x2 : Int32) (M : MM) : Option (Int32 × MM) :=
    f_X12_station_61 K34 x0 x1 x2 (0 : Int32) M

def f_X12_station_114 (K86 : Nat → Int32 → Int32 → MM → Option (Int32 × MM)) : Nat → Nat → Int32 → Int32 → Int32 → MM → Option (Int32 × MM)
  | 0, _, _, _, _, _ => none
  | n + 1, x0, x1, x5, x6, M =>
    if (8 : Int32) ≤ x6 then
      b1 (gI 12 3 x0 M) fun v1 =>
      b1 (pI 12 3 x0 (v1 + (1 : Int32)) M) fun M2 =>
      bn (x5 + 1 : Int32) fun y3 =>
      K86 x0 x1 y3 M2
    else
      b1 (gR 12 8 x0 M) fun v4 =>
      b1 (gI 12 3 x0 M) fun v5 =>
      b1 (stI v4 (((8 : Int32) * v5) + x6) (1 : Int32) M) fun M6 =>
      bn (x6 + 1 : Int32) fun y7 =>
      f_X12_station_114 K86 n x0 x1 x5 y7 M6

def f_X12_station_292 (K162 : Nat → Int32 → Int32 → MM → Option (Int32 × MM)) (x0 : Nat) (x1 : Int32) (x5 : Int32) (s0 : Int32) (s1 : Int32) (s2 : Nat) (M : MM) : Option (Int32 × MM) :=
    b1 (stZ s2 s1 s0 M) fun M1 =>
    b1 (gI 12 4 x0 M1) fun v2 =>
    b1 (pI 12 4 x0 (v2 + (1 : Int32)) M1) fun M3 =>
    bn (x5 + 1 : Int32) fun y4 =>
    K162 x0 x1 y4 M3

def f_X12_station_328 (x0 : Nat) (M : MM) : Option (Int32 × MM) :=
    b1 (gI 12 24 x0 M) fun v1 =>
    b1 (gI 12 25 x0 M) fun v2 =>
    some (v1 + v2, M)

def f_X12_station_162 : Nat → Nat → Int32 → Int32 → MM → Option (Int32 × MM)
  | 0, _, _, _, _ => none
  | n + 1, x0, x1, x5, M =>
    b1 (gI 12 25 x0 M) fun v1 =>
    if v1 ≤ x5 then
      if x1 ≤ 0 then
        f_X12_station_328 x0 M
      else
        b1 (pI 12 33 x0 (0 : Int32) M) fun M2 =>
        b1 (gI 12 5 x0 M2) fun v3 =>
        b1 (pI 12 5 x0 (v3 + (1 : Int32)) M2) fun M4 =>
        f_X12_station_328 x0 M4
    else
      bn ((6 : Int32) * x5 : Int32) fun y5 =>
      b1 (gR 12 9 x0 M) fun v6 =>
      b1 (gI 12 4 x0 M) fun v7 =>
      b1 (gR 12 23 x0 M) fun v8 =>
      b1 (ldI v8 y5 M) fun v9 =>
      b1 (stI v6 v7 v9 M) fun M10 =>
      b1 (gR 12 10 x0 M10) fun v11 =>
      b1 (gI 12 4 x0 M10) fun v12 =>
      b1 (gR 12 23 x0 M10) fun v13 =>
      b1 (ldI v13 (y5 + (1 : Int32)) M10) fun v14 =>
      b1 (stI v11 v12 v14 M10) fun M15 =>
      b1 (gR 12 11 x0 M15) fun v16 =>
      b1 (gI 12 4 x0 M15) fun v17 =>
      b1 (gR 12 23 x0 M15) fun v18 =>
      b1 (ldI v18 (y5 + (2 : Int32)) M15) fun v19 =>
      b1 (stI v16 v17 v19 M15) fun M20 =>
      b1 (gR 12 12 x0 M20) fun v21 =>
      b1 (gI 12 4 x0 M20) fun v22 =>
      b1 (gR 12 23 x0 M20) fun v23 =>
      b1 (ldI v23 (y5 + (3 : Int32)) M20) fun v24 =>
      b1 (stI v21 v22 v24 M20) fun M25 =>
      b1 (gR 12 13 x0 M25) fun v26 =>
      b1 (gI 12 4 x0 M25) fun v27 =>
      b1 (gR 12 23 x0 M25) fun v28 =>
      b1 (ldI v28 (y5 + (4 : Int32)) M25) fun v29 =>
      b1 (stI v26 v27 v29 M25) fun M30 =>
      b1 (gR 12 14 x0 M30) fun v31 =>
      b1 (gI 12 4 x0 M30) fun v32 =>
      b1 (gR 12 23 x0 M30) fun v33 =>
      b1 (ldI v33 (y5 + (5 : Int32)) M30) fun v34 =>
      if v34 = (1 : Int32) then
        f_X12_station_292 (f_X12_station_162 n) x0 x1 x5 (1 : Int32) v32 v31 M30
      else
        f_X12_station_292 (f_X12_station_162 n) x0 x1 x5 (0 : Int32) v32 v31 M30

def f_X12_station_86 : Nat → Nat → Int32 → Int32 → MM → Option (Int32 × MM)
  | 0, _, _, _, _ => none
  | n + 1, x0, x1, x5, M =>
    b1 (gI 12 24 x0 M) fun v1 =>
    if v1 ≤ x5 then
      f_X12_station_162 1024 x0 x1 (0 : Int32) M
    else
      b1 (gR 12 7 x0 M) fun v2 =>
      b1 (gI 12 3 x0 M) fun v3 =>
      b1 (gR 12 22 x0 M) fun v4 =>
      b1 (ldZ v4 x5 M) fun v5 =>
      b1 (stZ v2 v3 v5 M) fun M6 =>
      f_X12_station_114 (f_X12_station_86 n) 1024 x0 x1 x5 (0 : Int32) M6

def f_X12_station_34 : Nat → Nat → Int32 → Int32 → Int32 → MM → Option (Int32 × MM)
  | 0, _, _, _, _, _ => none
  | n + 1, x0, x1, x2, x3, M =>
    if x3 = 0 then
      b2 (f_X12_faultOf x0 x1 (76 : Int32) x2 M) fun r2 M1 =>
      if 0 ≤ r2 then
        f_X12_station_86 1024 x0 x1 (0 : Int32) M1
      else
        some (r2, M1)
    else
      b2 (f_X12_readsLine x0 M) fun r4 M3 =>
      if r4 = 0 then
        f_X12_station_60 (f_X12_station_34 n) x0 x1 r4 M3
      else
        b2 (f_X12_takes x0 (59 : Int32) M3) fun r6 M5 =>
        if r6 = 0 then
          f_X12_station_60 (f_X12_station_34 n) x0 x1 r4 M5
        else
          f_X12_station_61 (f_X12_station_34 n) x0 x1 r4 (1 : Int32) M5

def f_X12_station_33 (x0 : Nat) (x1 : Int32) (x2 : Int32) (s0 : Int32) (M : MM) : Option (Int32 × MM) :=
    f_X12_station_34 1024 x0 x1 x2 s0 M

def f_X12_station_0 (x0 : Nat) (M : MM) : Option (Int32 × MM) :=
    b1 (pI 12 0 x0 (0 : Int32) M) fun M1 =>
    b2 (f_X12_begins x0 (76 : Int32) M1) fun r3 M2 =>
    b1 (pI 12 24 x0 (0 : Int32) M2) fun M4 =>
    b1 (pI 12 25 x0 (0 : Int32) M4) fun M5 =>
    if r3 ≤ 0 then
      f_X12_station_33 x0 r3 (1 : Int32) (0 : Int32) M5
    else
      f_X12_station_33 x0 r3 (1 : Int32) (1 : Int32) M5

def f_X12_station (x0 : Nat) (M : MM) : Option (Int32 × MM) := if isO 12 x0 M = true then f_X12_station_0 x0 M else none
set_option maxRecDepth 4000 in
theorem L_X12_station_61 {G : Gx} (X : Cb G cX12_station 7 RX12 (RM 17 0 0) false) (Y : Cr G (some .int) 0 0) {K34 : Nat → Int32 → Int32 → Int32 → MM → Option (Int32 × MM)} (hK34 : ∀ (x0 : Nat) (x1 : Int32) (x2 : Int32) (x3 : Int32) (M : MM), V G trI 7 0 0 34 [(0, .ref x0), (1, .int x1), (2, .int x2), (3, .int x3)] [] M (K34 x0 x1 x2 x3 M)) (x0 : Nat) (x1 : Int32) (x2 : Int32) (s0 : Int32) (M : MM) : V G trI 7 0 0 61 [(0, .ref x0), (1, .int x1), (2, .int x2)] [.int s0] M (f_X12_station_61 K34 x0 x1 x2 s0 M) := by
  unfold f_X12_station_61
  refine v_istore_n (lv' := [(0, .ref x0), (1, .int x1), (2, .int x2), (3, .int s0)]) X 62 dX12_station_61 (by decide) rfl rfl ?_
  refine v_goto X 34 dX12_station_62 rfl ?_
  exact hK34 _ _ _ _ _
set_option maxRecDepth 4000 in
theorem L_X12_station_60 {G : Gx} (X : Cb G cX12_station 7 RX12 (RM 17 0 0) false) (Y : Cr G (some .int) 0 0) {K34 : Nat → Int32 → Int32 → Int32 → MM → Option (Int32 × MM)} (hK34 : ∀ (x0 : Nat) (x1 : Int32) (x2 : Int32) (x3 : Int32) (M : MM), V G trI 7 0 0 34 [(0, .ref x0), (1, .int x1), (2, .int x2), (3, .int x3)] [] M (K34 x0 x1 x2 x3 M)) (x0 : Nat) (x1 : Int32) (x2 : Int32) (M : MM) : V G trI 7 0 0 60 [(0, .ref x0), (1, .int x1), (2, .int x2)] [] M (f_X12_station_60 K34 x0 x1 x2 M) := by
  unfold f_X12_station_60
  refine v_iconst X 61 dX12_station_60 ik_0 rfl ?_
  exact L_X12_station_61 X Y hK34 _ _ _ _ _
set_option maxRecDepth 4000 in
theorem L_X12_station_114 {G : Gx} (X : Cb G cX12_station 7 RX12 (RM 17 0 0) false) (Y : Cr G (some .int) 0 0) {K86 : Nat → Int32 → Int32 → MM → Option (Int32 × MM)} (hK86 : ∀ (x0 : Nat) (x1 : Int32) (x5 : Int32) (M : MM), V G trI 7 0 0 86 [(0, .ref x0), (1, .int x1), (5, .int x5)] [] M (K86 x0 x1 x5 M)) : ∀ (n : Nat) (x0 : Nat) (x1 : Int32) (x5 : Int32) (x6 : Int32) (M : MM), V G trI 7 0 0 114 [(0, .ref x0), (1, .int x1), (5, .int x5), (6, .int x6)] [] M (f_X12_station_114 K86 n x0 x1 x5 x6 M) := by
  intro n
  induction n with
  | zero => intro x0 x1 x5 x6 M; rw [f_X12_station_114]; exact v_none
  | succ n ih =>
    intro x0 x1 x5 x6 M
    rw [f_X12_station_114]
    refine v_iload X 116 3 dX12_station_114 rfl rfl ?_
    refine v_bipush X 118 dX12_station_116 bk_8 rfl ?_
    refine v_icge X 121 143 dX12_station_118 rfl rfl ?_ ?_
    · refine v_aload_n X 144 0 dX12_station_143 rfl rfl ?_
      refine v_dup X 145 dX12_station_144 rfl rfl ?_
      refine v_getI X 148 fl_X12_143.r dX12_station_145 rfl (fun v1 => ?_)
      refine v_iconst X 149 dX12_station_148 ik_1 rfl ?_
      refine v_iadd X 150 dX12_station_149 rfl ?_
      refine v_putI X 153 fl_X12_143 nof dX12_station_150 rfl (fun M2 => ?_)
      refine v_iinc X 156 2 (fun z => [(0, .ref x0), (1, .int x1), (5, .int z), (6, .int x6)]) dX12_station_153 rfl ik_1 (by decide) (fun _ => rfl) rfl (fun y3 => ?_)
      refine v_goto X 86 dX12_station_156 rfl ?_
      exact v_sb [0, 1, 2] (hK86 _ _ _ _) rfl
    · refine v_aload_n X 122 0 dX12_station_121 rfl rfl ?_
      refine v_getR X 125 fl_X12_21.r dX12_station_122 rfl (fun v4 => ?_)
      refine v_bipush X 127 dX12_station_125 bk_8 rfl ?_
      refine v_aload_n X 128 0 dX12_station_127 rfl rfl ?_
      refine v_getI X 131 fl_X12_143.r dX12_station_128 rfl (fun v5 => ?_)
      refine v_imul X 132 dX12_station_131 rfl ?_
      refine v_iload X 134 3 dX12_station_132 rfl rfl ?_
      refine v_iadd X 135 dX12_station_134 rfl ?_
      refine v_iconst X 136 dX12_station_135 ik_1 rfl ?_
      refine v_iast X 137 dX12_station_136 rfl (fun M6 => ?_)
      refine v_iinc X 140 3 (fun z => [(0, .ref x0), (1, .int x1), (5, .int x5), (6, .int z)]) dX12_station_137 rfl ik_1 (by decide) (fun _ => rfl) rfl (fun y7 => ?_)
      refine v_goto X 114 dX12_station_140 rfl ?_
      exact ih _ _ _ _ _
set_option maxRecDepth 4000 in
theorem L_X12_station_292 {G : Gx} (X : Cb G cX12_station 7 RX12 (RM 17 0 0) false) (Y : Cr G (some .int) 0 0) {K162 : Nat → Int32 → Int32 → MM → Option (Int32 × MM)} (hK162 : ∀ (x0 : Nat) (x1 : Int32) (x5 : Int32) (M : MM), V G trI 7 0 0 162 [(0, .ref x0), (1, .int x1), (5, .int x5)] [] M (K162 x0 x1 x5 M)) (x0 : Nat) (x1 : Int32) (x5 : Int32) (s0 : Int32) (s1 : Int32) (s2 : Nat) (M : MM) : V G trI 7 0 0 292 [(0, .ref x0), (1, .int x1), (5, .int x5)] [.int s0, .int s1, .ref s2] M (f_X12_station_292 K162 x0 x1 x5 s0 s1 s2 M) := by
  unfold f_X12_station_292
  refine v_zast X 293 dX12_station_292 rfl (fun M1 => ?_)
  refine v_aload_n X 294 0 dX12_station_293 rfl rfl ?_
  refine v_dup X 295 dX12_station_294 rfl rfl ?_
  refine v_getI X 298 fl_X12_150.r dX12_station_295 rfl (fun v2 => ?_)
  refine v_iconst X 299 dX12_station_298 ik_1 rfl ?_
  refine v_iadd X 300 dX12_station_299 rfl ?_
  refine v_putI X 303 fl_X12_150 nof dX12_station_300 rfl (fun M3 => ?_)
  refine v_iinc X 306 2 (fun z => [(0, .ref x0), (1, .int x1), (5, .int z)]) dX12_station_303 rfl ik_1 (by decide) (fun _ => rfl) rfl (fun y4 => ?_)
  refine v_goto X 162 dX12_station_306 rfl ?_
  exact hK162 _ _ _ _
set_option maxRecDepth 4000 in
theorem L_X12_station_328 {G : Gx} (X : Cb G cX12_station 7 RX12 (RM 17 0 0) false) (Y : Cr G (some .int) 0 0) (x0 : Nat) (M : MM) : V G trI 7 0 0 328 [(0, .ref x0)] [] M (f_X12_station_328 x0 M) := by
  unfold f_X12_station_328
  refine v_aload_n X 329 0 dX12_station_328 rfl rfl ?_
  refine v_getI X 332 fl_X12_199.r dX12_station_329 rfl (fun v1 => ?_)
  refine v_aload_n X 333 0 dX12_station_332 rfl rfl ?_
  refine v_getI X 336 fl_X12_206.r dX12_station_333 rfl (fun v2 => ?_)
  refine v_iadd X 337 dX12_station_336 rfl ?_
  exact v_iret X Y (Nat.le_refl _) (Nat.le_refl _) dX12_station_337
set_option maxRecDepth 4000 in
theorem L_X12_station_162 {G : Gx} (X : Cb G cX12_station 7 RX12 (RM 17 0 0) false) (Y : Cr G (some .int) 0 0) : ∀ (n : Nat) (x0 : Nat) (x1 : Int32) (x5 : Int32) (M : MM), V G trI 7 0 0 162 [(0, .ref x0), (1, .int x1), (5, .int x5)] [] M (f_X12_station_162 n x0 x1 x5 M) := by
  intro n
  induction n with
  | zero => intro x0 x1 x5 M; rw [f_X12_station_162]; exact v_none
  | succ n ih =>
    intro x0 x1 x5 M
    rw [f_X12_station_162]
    refine v_iload X 164 2 dX12_station_162 rfl rfl ?_
    refine v_aload_n X 165 0 dX12_station_164 rfl rfl ?_
    refine v_getI X 168 fl_X12_206.r dX12_station_165 rfl (fun v1 => ?_)
    refine v_icge X 171 309 dX12_station_168 rfl rfl ?_ ?_
    · refine v_iload_n X 310 1 dX12_station_309 rfl rfl ?_
      refine v_ifle X 313 328 dX12_station_310 rfl rfl ?_ ?_
      · exact v_sb [0] (L_X12_station_328 X Y _ _) rfl
      · refine v_aload_n X 314 0 dX12_station_313 rfl rfl ?_
        refine v_iconst X 315 dX12_station_314 ik_0 rfl ?_
        refine v_putI X 318 fl_X12_241 nof dX12_station_315 rfl (fun M2 => ?_)
        refine v_aload_n X 319 0 dX12_station_318 rfl rfl ?_
        refine v_dup X 320 dX12_station_319 rfl rfl ?_
        refine v_getI X 323 fl_X12_244.r dX12_station_320 rfl (fun v3 => ?_)
        refine v_iconst X 324 dX12_station_323 ik_1 rfl ?_
        refine v_iadd X 325 dX12_station_324 rfl ?_
        refine v_putI X 328 fl_X12_244 nof dX12_station_325 rfl (fun M4 => ?_)
        exact v_sb [0] (L_X12_station_328 X Y _ _) rfl
    · refine v_bipush X 173 dX12_station_171 bk_6 rfl ?_
      refine v_iload X 175 2 dX12_station_173 rfl rfl ?_
      refine v_imul X 176 dX12_station_175 rfl ?_
      refine v_bnI (fun y5 => ?_)
      refine v_istore (lv' := [(0, .ref x0), (1, .int x1), (5, .int x5), (6, .int y5)]) X 178 dX12_station_176 (by decide) rfl rfl ?_
      refine v_aload_n X 179 0 dX12_station_178 rfl rfl ?_
      refine v_getR X 182 fl_X12_25.r dX12_station_179 rfl (fun v6 => ?_)
      refine v_aload_n X 183 0 dX12_station_182 rfl rfl ?_
      refine v_getI X 186 fl_X12_150.r dX12_station_183 rfl (fun v7 => ?_)
      refine v_aload_n X 187 0 dX12_station_186 rfl rfl ?_
      refine v_getR X 190 fl_X12_55.r dX12_station_187 rfl (fun v8 => ?_)
      refine v_iload X 192 3 dX12_station_190 rfl rfl ?_
      refine v_iald X 193 dX12_station_192 rfl (fun v9 => ?_)
      refine v_iast X 194 dX12_station_193 rfl (fun M10 => ?_)
      refine v_aload_n X 195 0 dX12_station_194 rfl rfl ?_
      refine v_getR X 198 fl_X12_28.r dX12_station_195 rfl (fun v11 => ?_)
      refine v_aload_n X 199 0 dX12_station_198 rfl rfl ?_
      refine v_getI X 202 fl_X12_150.r dX12_station_199 rfl (fun v12 => ?_)
      refine v_aload_n X 203 0 dX12_station_202 rfl rfl ?_
      refine v_getR X 206 fl_X12_55.r dX12_station_203 rfl (fun v13 => ?_)
      refine v_iload X 208 3 dX12_station_206 rfl rfl ?_
      refine v_iconst X 209 dX12_station_208 ik_1 rfl ?_
      refine v_iadd X 210 dX12_station_209 rfl ?_
      refine v_iald X 211 dX12_station_210 rfl (fun v14 => ?_)
      refine v_iast X 212 dX12_station_211 rfl (fun M15 => ?_)
      refine v_aload_n X 213 0 dX12_station_212 rfl rfl ?_
      refine v_getR X 216 fl_X12_31.r dX12_station_213 rfl (fun v16 => ?_)
      refine v_aload_n X 217 0 dX12_station_216 rfl rfl ?_
      refine v_getI X 220 fl_X12_150.r dX12_station_217 rfl (fun v17 => ?_)
      refine v_aload_n X 221 0 dX12_station_220 rfl rfl ?_
      refine v_getR X 224 fl_X12_55.r dX12_station_221 rfl (fun v18 => ?_)
      refine v_iload X 226 3 dX12_station_224 rfl rfl ?_
      refine v_iconst X 227 dX12_station_226 ik_2 rfl ?_
      refine v_iadd X 228 dX12_station_227 rfl ?_
      refine v_iald X 229 dX12_station_228 rfl (fun v19 => ?_)
      refine v_iast X 230 dX12_station_229 rfl (fun M20 => ?_)
      refine v_aload_n X 231 0 dX12_station_230 rfl rfl ?_
      refine v_getR X 234 fl_X12_34.r dX12_station_231 rfl (fun v21 => ?_)
      refine v_aload_n X 235 0 dX12_station_234 rfl rfl ?_
      refine v_getI X 238 fl_X12_150.r dX12_station_235 rfl (fun v22 => ?_)
      refine v_aload_n X 239 0 dX12_station_238 rfl rfl ?_
      refine v_getR X 242 fl_X12_55.r dX12_station_239 rfl (fun v23 => ?_)
      refine v_iload X 244 3 dX12_station_242 rfl rfl ?_
      refine v_iconst X 245 dX12_station_244 ik_3 rfl ?_
      refine v_iadd X 246 dX12_station_245 rfl ?_
      refine v_iald X 247 dX12_station_246 rfl (fun v24 => ?_)
      refine v_iast X 248 dX12_station_247 rfl (fun M25 => ?_)
      refine v_aload_n X 249 0 dX12_station_248 rfl rfl ?_
      refine v_getR X 252 fl_X12_37.r dX12_station_249 rfl (fun v26 => ?_)
      refine v_aload_n X 253 0 dX12_station_252 rfl rfl ?_
      refine v_getI X 256 fl_X12_150.r dX12_station_253 rfl (fun v27 => ?_)
      refine v_aload_n X 257 0 dX12_station_256 rfl rfl ?_
      refine v_getR X 260 fl_X12_55.r dX12_station_257 rfl (fun v28 => ?_)
      refine v_iload X 262 3 dX12_station_260 rfl rfl ?_
      refine v_iconst X 263 dX12_station_262 ik_4 rfl ?_
      refine v_iadd X 264 dX12_station_263 rfl ?_
      refine v_iald X 265 dX12_station_264 rfl (fun v29 => ?_)
      refine v_iast X 266 dX12_station_265 rfl (fun M30 => ?_)
      refine v_aload_n X 267 0 dX12_station_266 rfl rfl ?_
      refine v_getR X 270 fl_X12_40.r dX12_station_267 rfl (fun v31 => ?_)
      refine v_aload_n X 271 0 dX12_station_270 rfl rfl ?_
      refine v_getI X 274 fl_X12_150.r dX12_station_271 rfl (fun v32 => ?_)
      refine v_aload_n X 275 0 dX12_station_274 rfl rfl ?_
      refine v_getR X 278 fl_X12_55.r dX12_station_275 rfl (fun v33 => ?_)
      refine v_iload X 280 3 dX12_station_278 rfl rfl ?_
      refine v_iconst X 281 dX12_station_280 ik_5 rfl ?_
      refine v_iadd X 282 dX12_station_281 rfl ?_
      refine v_iald X 283 dX12_station_282 rfl (fun v34 => ?_)
      refine v_iconst X 284 dX12_station_283 ik_1 rfl ?_
      refine v_icne X 287 291 dX12_station_284 rfl rfl ?_ ?_
      · refine v_iconst X 292 dX12_station_291 ik_0 rfl ?_
        exact v_sb [0, 1, 2] (L_X12_station_292 X Y ih _ _ _ _ _ _ _) rfl
      · refine v_iconst X 288 dX12_station_287 ik_1 rfl ?_
        refine v_goto X 292 dX12_station_288 rfl ?_
        exact v_sb [0, 1, 2] (L_X12_station_292 X Y ih _ _ _ _ _ _ _) rfl
set_option maxRecDepth 4000 in
theorem L_X12_station_86 {G : Gx} (X : Cb G cX12_station 7 RX12 (RM 17 0 0) false) (Y : Cr G (some .int) 0 0) : ∀ (n : Nat) (x0 : Nat) (x1 : Int32) (x5 : Int32) (M : MM), V G trI 7 0 0 86 [(0, .ref x0), (1, .int x1), (5, .int x5)] [] M (f_X12_station_86 n x0 x1 x5 M) := by
  intro n
  induction n with
  | zero => intro x0 x1 x5 M; rw [f_X12_station_86]; exact v_none
  | succ n ih =>
    intro x0 x1 x5 M
    rw [f_X12_station_86]
    refine v_iload X 88 2 dX12_station_86 rfl rfl ?_
    refine v_aload_n X 89 0 dX12_station_88 rfl rfl ?_
    refine v_getI X 92 fl_X12_199.r dX12_station_89 rfl (fun v1 => ?_)
    refine v_icge X 95 159 dX12_station_92 rfl rfl ?_ ?_
    · refine v_iconst X 160 dX12_station_159 ik_0 rfl ?_
      refine v_istore (lv' := [(0, .ref x0), (1, .int x1), (5, .int (0 : Int32))]) X 162 dX12_station_160 (by decide) rfl rfl ?_
      exact L_X12_station_162 X Y 1024 _ _ _ _
    · refine v_aload_n X 96 0 dX12_station_95 rfl rfl ?_
      refine v_getR X 99 fl_X12_17.r dX12_station_96 rfl (fun v2 => ?_)
      refine v_aload_n X 100 0 dX12_station_99 rfl rfl ?_
      refine v_getI X 103 fl_X12_143.r dX12_station_100 rfl (fun v3 => ?_)
      refine v_aload_n X 104 0 dX12_station_103 rfl rfl ?_
      refine v_getR X 107 fl_X12_52.r dX12_station_104 rfl (fun v4 => ?_)
      refine v_iload X 109 2 dX12_station_107 rfl rfl ?_
      refine v_zald X 110 dX12_station_109 rfl (fun v5 => ?_)
      refine v_zast X 111 dX12_station_110 rfl (fun M6 => ?_)
      refine v_iconst X 112 dX12_station_111 ik_0 rfl ?_
      refine v_istore (lv' := [(0, .ref x0), (1, .int x1), (5, .int x5), (6, .int (0 : Int32))]) X 114 dX12_station_112 (by decide) rfl rfl ?_
      exact L_X12_station_114 X Y ih 1024 _ _ _ _ _
set_option maxRecDepth 4000 in
theorem L_X12_station_34 {G : Gx} (X : Cb G cX12_station 7 RX12 (RM 17 0 0) false) (Y : Cr G (some .int) 0 0) : ∀ (n : Nat) (x0 : Nat) (x1 : Int32) (x2 : Int32) (x3 : Int32) (M : MM), V G trI 7 0 0 34 [(0, .ref x0), (1, .int x1), (2, .int x2), (3, .int x3)] [] M (f_X12_station_34 n x0 x1 x2 x3 M) := by
  intro n
  induction n with
  | zero => intro x0 x1 x2 x3 M; rw [f_X12_station_34]; exact v_none
  | succ n ih =>
    intro x0 x1 x2 x3 M
    rw [f_X12_station_34]
    refine v_iload_n X 35 3 dX12_station_34 rfl rfl ?_
    refine v_ifeq X 38 65 dX12_station_35 rfl rfl ?_ ?_
    · refine v_aload_n X 66 0 dX12_station_65 rfl rfl ?_
      refine v_iload_n X 67 1 dX12_station_66 rfl rfl ?_
      refine v_bipush X 69 dX12_station_67 bk_76 rfl ?_
      refine v_iload_n X 70 2 dX12_station_69 rfl rfl ?_
      refine v_vI X 73 cv_X12_faultOf ml_X12_237 (n1 := 1) rfl [.int x1, .int (76 : Int32), .int x2] rfl rfl rfl dX12_station_70 rfl (fun r M1 h => c_X12_faultOf _ _ _ _ _ _ _ _ h) (fun r2 M1 => ?_)
      refine v_istore (lv' := [(0, .ref x0), (1, .int x1), (2, .int x2), (3, .int x3), (4, .int r2)]) X 75 dX12_station_73 (by decide) rfl rfl ?_
      refine v_iload X 77 4 dX12_station_75 rfl rfl ?_
      refine v_ifge X 80 83 dX12_station_77 rfl rfl ?_ ?_
      · refine v_iconst X 84 dX12_station_83 ik_0 rfl ?_
        refine v_istore (lv' := [(0, .ref x0), (1, .int x1), (2, .int x2), (3, .int x3), (4, .int r2), (5, .int (0 : Int32))]) X 86 dX12_station_84 (by decide) rfl rfl ?_
        exact v_sb [0, 1, 5] (L_X12_station_86 X Y 1024 _ _ _ _) rfl
      · refine v_iload X 82 4 dX12_station_80 rfl rfl ?_
        exact v_iret X Y (Nat.le_refl _) (Nat.le_refl _) dX12_station_82
    · refine v_aload_n X 39 0 dX12_station_38 rfl rfl ?_
      refine v_vI X 42 cv_X12_readsLine ml_X12_234 (n1 := 16) rfl [] rfl rfl rfl dX12_station_39 rfl (fun r M1 h => c_X12_readsLine _ _ _ _ _ h) (fun r4 M3 => ?_)
      refine v_istore_n (lv' := [(0, .ref x0), (1, .int x1), (2, .int r4), (3, .int x3)]) X 43 dX12_station_42 (by decide) rfl rfl ?_
      refine v_iload_n X 44 2 dX12_station_43 rfl rfl ?_
      refine v_ifeq X 47 60 dX12_station_44 rfl rfl ?_ ?_
      · exact v_sb [0, 1, 2] (L_X12_station_60 X Y ih _ _ _ _) rfl
      · refine v_aload_n X 48 0 dX12_station_47 rfl rfl ?_
        refine v_bipush X 50 dX12_station_48 bk_59 rfl ?_
        refine v_vI X 53 cv_X12_takes ml_X12_202 (n1 := 2) rfl [.int (59 : Int32)] rfl rfl rfl dX12_station_50 rfl (fun r M1 h => c_X12_takes _ _ _ _ _ _ h) (fun r6 M5 => ?_)
        refine v_ifeq X 56 60 dX12_station_53 rfl rfl ?_ ?_
        · exact v_sb [0, 1, 2] (L_X12_station_60 X Y ih _ _ _ _) rfl
        · refine v_iconst X 57 dX12_station_56 ik_1 rfl ?_
          refine v_goto X 61 dX12_station_57 rfl ?_
          exact v_sb [0, 1, 2] (L_X12_station_61 X Y ih _ _ _ _ _) rfl
set_option maxRecDepth 4000 in
theorem L_X12_station_33 {G : Gx} (X : Cb G cX12_station 7 RX12 (RM 17 0 0) false) (Y : Cr G (some .int) 0 0) (x0 : Nat) (x1 : Int32) (x2 : Int32) (s0 : Int32) (M : MM) : V G trI 7 0 0 33 [(0, .ref x0), (1, .int x1), (2, .int x2)] [.int s0] M (f_X12_station_33 x0 x1 x2 s0 M) := by
  unfold f_X12_station_33
  refine v_istore_n (lv' := [(0, .ref x0), (1, .int x1), (2, .int x2), (3, .int s0)]) X 34 dX12_station_33 (by decide) rfl rfl ?_
  exact L_X12_station_34 X Y 1024 _ _ _ _ _
set_option maxRecDepth 4000 in
theorem L_X12_station_0 {G : Gx} (X : Cb G cX12_station 7 RX12 (RM 17 0 0) false) (Y : Cr G (some .int) 0 0) (x0 : Nat) (M : MM) : V G trI 7 0 0 0 [(0, .ref x0)] [] M (f_X12_station_0 x0 M) := by
  unfold f_X12_station_0
  refine v_aload_n X 1 0 dX12_station_0 rfl rfl ?_
  refine v_iconst X 2 dX12_station_1 ik_0 rfl ?_
  refine v_putI X 5 fl_X12_133 nof dX12_station_2 rfl (fun M1 => ?_)
  refine v_aload_n X 6 0 dX12_station_5 rfl rfl ?_
  refine v_bipush X 8 dX12_station_6 bk_76 rfl ?_
  refine v_vI X 11 cv_X12_begins ml_X12_231 (n1 := 2) rfl [.int (76 : Int32)] rfl rfl rfl dX12_station_8 rfl (fun r M1 h => c_X12_begins _ _ _ _ _ _ h) (fun r3 M2 => ?_)
  refine v_istore_n (lv' := [(0, .ref x0), (1, .int r3)]) X 12 dX12_station_11 (by decide) rfl rfl ?_
  refine v_aload_n X 13 0 dX12_station_12 rfl rfl ?_
  refine v_iconst X 14 dX12_station_13 ik_0 rfl ?_
  refine v_putI X 17 fl_X12_199 nof dX12_station_14 rfl (fun M4 => ?_)
  refine v_aload_n X 18 0 dX12_station_17 rfl rfl ?_
  refine v_iconst X 19 dX12_station_18 ik_0 rfl ?_
  refine v_putI X 22 fl_X12_206 nof dX12_station_19 rfl (fun M5 => ?_)
  refine v_iconst X 23 dX12_station_22 ik_1 rfl ?_
  refine v_istore_n (lv' := [(0, .ref x0), (1, .int r3), (2, .int (1 : Int32))]) X 24 dX12_station_23 (by decide) rfl rfl ?_
  refine v_iload_n X 25 1 dX12_station_24 rfl rfl ?_
  refine v_ifle X 28 32 dX12_station_25 rfl rfl ?_ ?_
  · refine v_iconst X 33 dX12_station_32 ik_0 rfl ?_
    exact L_X12_station_33 X Y _ _ _ _ _
  · refine v_iconst X 29 dX12_station_28 ik_1 rfl ?_
    refine v_goto X 33 dX12_station_29 rfl ?_
    exact L_X12_station_33 X Y _ _ _ _ _
theorem c_X12_station (l : Launch) (x0 : Nat) (M : MM) (r : Int32) (M1 : MM) (h : f_X12_station x0 M = some (r, M1)) : KV l yX12_station cX12_station 7 (some .int) (RM 17 0 0) false 12 x0 [] M (some (.int r)) M1 := by
  obtain ⟨hO, h2⟩ := iteO_some h
  exact ⟨hO, ct_of (tr := trI) (by decide) (Nat.le_of_ble_eq_true rfl) [(0, .ref x0)] rfl h2 (fun G X Y hn hl => L_X12_station_0 X Y x0 M)⟩

def f_X12_wishes_85 : Nat → Nat → Int32 → Int32 → MM → Option (Int32 × MM)
  | 0, _, _, _, _ => none
  | n + 1, x0, x1, x4, M =>
    b1 (gI 12 4 x0 M) fun v1 =>
    if v1 ≤ x4 then
      b1 (gI 12 4 x0 M) fun v2 =>
      some (v2, M)
    else
      b1 (gR 12 8 x0 M) fun v3 =>
      b1 (gR 12 26 x0 M) fun v4 =>
      b1 (ldI v4 x4 M) fun v5 =>
      b1 (stI v3 (((8 : Int32) * x1) + x4) v5 M) fun M6 =>
      bn (x4 + 1 : Int32) fun y7 =>
      f_X12_wishes_85 n x0 x1 y7 M6

def f_X12_wishes_59 (x0 : Nat) (x1 : Int32) (x2 : Int32) (x3 : Int32) (M : MM) : Option (Int32 × MM) :=
    b1 (gI 12 4 x0 M) fun v1 =>
    if x3 < v1 then
      b1 (gI 12 19 x0 M) fun v2 =>
      some ((-1 : Int32) - v2, M)
    else
      b1 (gI 12 19 x0 M) fun v3 =>
      if x2 ≤ v3 then
        f_X12_wishes_85 1024 x0 x1 (0 : Int32) M
      else
        b1 (gI 12 19 x0 M) fun v4 =>
        some ((-1 : Int32) - v4, M)

def f_X12_wishes_25 : Nat → Nat → Int32 → Int32 → Int32 → MM → Option (Int32 × MM)
  | 0, _, _, _, _, _ => none
  | n + 1, x0, x1, x2, x3, M =>
    b1 (gI 12 4 x0 M) fun v1 =>
    if v1 ≤ x3 then
      f_X12_wishes_59 x0 x1 x2 x3 M
    else
      b2 (f_X12_isDigit x0 M) fun r3 M2 =>
      if r3 = 0 then
        f_X12_wishes_59 x0 x1 x2 x3 M2
      else
        b1 (gR 12 26 x0 M2) fun v4 =>
        b2 (f_X12_digit x0 (0 : Int32) (9 : Int32) M2) fun r6 M5 =>
        b1 (stI v4 x3 r6 M5) fun M7 =>
        bn (x3 + 1 : Int32) fun y8 =>
        f_X12_wishes_25 n x0 x1 x2 y8 M7

def f_X12_wishes_0 (x0 : Nat) (x1 : Int32) (M : MM) : Option (Int32 × MM) :=
    b1 (pI 12 0 x0 (0 : Int32) M) fun M1 =>
    b2 (f_X12_begins x0 (80 : Int32) M1) fun r3 M2 =>
    b2 (f_X12_isPerson x0 x1 M2) fun r5 M4 =>
    if r5 = 0 then
      some ((-100 : Int32), M4)
    else
      f_X12_wishes_25 1024 x0 x1 r3 (0 : Int32) M4

def f_X12_wishes (x0 : Nat) (x1 : Int32) (M : MM) : Option (Int32 × MM) := if isO 12 x0 M = true then f_X12_wishes_0 x0 x1 M else none
set_option maxRecDepth 4000 in
theorem L_X12_wishes_85 {G : Gx} (X : Cb G cX12_wishes 5 RX12 (RM 4 0 0) false) (Y : Cr G (some .int) 0 0) : ∀ (n : Nat) (x0 : Nat) (x1 : Int32) (x4 : Int32) (M : MM), V G trI 5 0 0 85 [(0, .ref x0), (1, .int x1), (4, .int x4)] [] M (f_X12_wishes_85 n x0 x1 x4 M) := by
  intro n
  induction n with
  | zero => intro x0 x1 x4 M; rw [f_X12_wishes_85]; exact v_none
  | succ n ih =>
    intro x0 x1 x4 M
    rw [f_X12_wishes_85]
    refine v_iload X 87 2 dX12_wishes_85 rfl rfl ?_
    refine v_aload_n X 88 0 dX12_wishes_87 rfl rfl ?_
    refine v_getI X 91 fl_X12_150.r dX12_wishes_88 rfl (fun v1 => ?_)
    refine v_icge X 94 119 dX12_wishes_91 rfl rfl ?_ ?_
    · refine v_aload_n X 120 0 dX12_wishes_119 rfl rfl ?_
      refine v_getI X 123 fl_X12_150.r dX12_wishes_120 rfl (fun v2 => ?_)
      exact v_iret X Y (Nat.le_refl _) (Nat.le_refl _) dX12_wishes_123
    · refine v_aload_n X 95 0 dX12_wishes_94 rfl rfl ?_
      refine v_getR X 98 fl_X12_21.r dX12_wishes_95 rfl (fun v3 => ?_)
      refine v_bipush X 100 dX12_wishes_98 bk_8 rfl ?_
      refine v_iload_n X 101 1 dX12_wishes_100 rfl rfl ?_
      refine v_imul X 102 dX12_wishes_101 rfl ?_
      refine v_iload X 104 2 dX12_wishes_102 rfl rfl ?_
      refine v_iadd X 105 dX12_wishes_104 rfl ?_
      refine v_aload_n X 106 0 dX12_wishes_105 rfl rfl ?_
      refine v_getR X 109 fl_X12_58.r dX12_wishes_106 rfl (fun v4 => ?_)
      refine v_iload X 111 2 dX12_wishes_109 rfl rfl ?_
      refine v_iald X 112 dX12_wishes_111 rfl (fun v5 => ?_)
      refine v_iast X 113 dX12_wishes_112 rfl (fun M6 => ?_)
      refine v_iinc X 116 2 (fun z => [(0, .ref x0), (1, .int x1), (4, .int z)]) dX12_wishes_113 rfl ik_1 (by decide) (fun _ => rfl) rfl (fun y7 => ?_)
      refine v_goto X 85 dX12_wishes_116 rfl ?_
      exact ih _ _ _ _
set_option maxRecDepth 4000 in
theorem L_X12_wishes_59 {G : Gx} (X : Cb G cX12_wishes 5 RX12 (RM 4 0 0) false) (Y : Cr G (some .int) 0 0) (x0 : Nat) (x1 : Int32) (x2 : Int32) (x3 : Int32) (M : MM) : V G trI 5 0 0 59 [(0, .ref x0), (1, .int x1), (2, .int x2), (3, .int x3)] [] M (f_X12_wishes_59 x0 x1 x2 x3 M) := by
  unfold f_X12_wishes_59
  refine v_iload_n X 60 3 dX12_wishes_59 rfl rfl ?_
  refine v_aload_n X 61 0 dX12_wishes_60 rfl rfl ?_
  refine v_getI X 64 fl_X12_150.r dX12_wishes_61 rfl (fun v1 => ?_)
  refine v_iclt X 67 75 dX12_wishes_64 rfl rfl ?_ ?_
  · refine v_iconst X 76 dX12_wishes_75 ik_m1 rfl ?_
    refine v_aload_n X 77 0 dX12_wishes_76 rfl rfl ?_
    refine v_getI X 80 fl_X12_156.r dX12_wishes_77 rfl (fun v2 => ?_)
    refine v_isub X 81 dX12_wishes_80 rfl ?_
    exact v_iret X Y (Nat.le_refl _) (Nat.le_refl _) dX12_wishes_81
  · refine v_aload_n X 68 0 dX12_wishes_67 rfl rfl ?_
    refine v_getI X 71 fl_X12_156.r dX12_wishes_68 rfl (fun v3 => ?_)
    refine v_iload_n X 72 2 dX12_wishes_71 rfl rfl ?_
    refine v_icge X 75 82 dX12_wishes_72 rfl rfl ?_ ?_
    · refine v_iconst X 83 dX12_wishes_82 ik_0 rfl ?_
      refine v_istore (lv' := [(0, .ref x0), (1, .int x1), (2, .int x2), (3, .int x3), (4, .int (0 : Int32))]) X 85 dX12_wishes_83 (by decide) rfl rfl ?_
      exact v_sb [0, 1, 4] (L_X12_wishes_85 X Y 1024 _ _ _ _) rfl
    · refine v_iconst X 76 dX12_wishes_75 ik_m1 rfl ?_
      refine v_aload_n X 77 0 dX12_wishes_76 rfl rfl ?_
      refine v_getI X 80 fl_X12_156.r dX12_wishes_77 rfl (fun v4 => ?_)
      refine v_isub X 81 dX12_wishes_80 rfl ?_
      exact v_iret X Y (Nat.le_refl _) (Nat.le_refl _) dX12_wishes_81
set_option maxRecDepth 4000 in
theorem L_X12_wishes_25 {G : Gx} (X : Cb G cX12_wishes 5 RX12 (RM 4 0 0) false) (Y : Cr G (some .int) 0 0) : ∀ (n : Nat) (x0 : Nat) (x1 : Int32) (x2 : Int32) (x3 : Int32) (M : MM), V G trI 5 0 0 25 [(0, .ref x0), (1, .int x1), (2, .int x2), (3, .int x3)] [] M (f_X12_wishes_25 n x0 x1 x2 x3 M) := by
  intro n
  induction n with
  | zero => intro x0 x1 x2 x3 M; rw [f_X12_wishes_25]; exact v_none
  | succ n ih =>
    intro x0 x1 x2 x3 M
    rw [f_X12_wishes_25]
    refine v_iload_n X 26 3 dX12_wishes_25 rfl rfl ?_
    refine v_aload_n X 27 0 dX12_wishes_26 rfl rfl ?_
    refine v_getI X 30 fl_X12_150.r dX12_wishes_27 rfl (fun v1 => ?_)
    refine v_icge X 33 59 dX12_wishes_30 rfl rfl ?_ ?_
    · exact L_X12_wishes_59 X Y _ _ _ _ _
    · refine v_aload_n X 34 0 dX12_wishes_33 rfl rfl ?_
      refine v_vI X 37 cv_X12_isDigit ml_X12_193 (n1 := 2) rfl [] rfl rfl rfl dX12_wishes_34 rfl (fun r M1 h => c_X12_isDigit _ _ _ _ _ h) (fun r3 M2 => ?_)
      refine v_ifeq X 40 59 dX12_wishes_37 rfl rfl ?_ ?_
      · exact L_X12_wishes_59 X Y _ _ _ _ _
      · refine v_aload_n X 41 0 dX12_wishes_40 rfl rfl ?_
        refine v_getR X 44 fl_X12_58.r dX12_wishes_41 rfl (fun v4 => ?_)
        refine v_iload_n X 45 3 dX12_wishes_44 rfl rfl ?_
        refine v_aload_n X 46 0 dX12_wishes_45 rfl rfl ?_
        refine v_iconst X 47 dX12_wishes_46 ik_0 rfl ?_
        refine v_bipush X 49 dX12_wishes_47 bk_9 rfl ?_
        refine v_vI X 52 cv_X12_digit ml_X12_209 (n1 := 3) rfl [.int (0 : Int32), .int (9 : Int32)] rfl rfl rfl dX12_wishes_49 rfl (fun r M1 h => c_X12_digit _ _ _ _ _ _ _ h) (fun r6 M5 => ?_)
        refine v_iast X 53 dX12_wishes_52 rfl (fun M7 => ?_)
        refine v_iinc X 56 3 (fun z => [(0, .ref x0), (1, .int x1), (2, .int x2), (3, .int z)]) dX12_wishes_53 rfl ik_1 (by decide) (fun _ => rfl) rfl (fun y8 => ?_)
        refine v_goto X 25 dX12_wishes_56 rfl ?_
        exact ih _ _ _ _ _
set_option maxRecDepth 4000 in
theorem L_X12_wishes_0 {G : Gx} (X : Cb G cX12_wishes 5 RX12 (RM 4 0 0) false) (Y : Cr G (some .int) 0 0) (x0 : Nat) (x1 : Int32) (M : MM) : V G trI 5 0 0 0 [(0, .ref x0), (1, .int x1)] [] M (f_X12_wishes_0 x0 x1 M) := by
  unfold f_X12_wishes_0
  refine v_aload_n X 1 0 dX12_wishes_0 rfl rfl ?_
  refine v_iconst X 2 dX12_wishes_1 ik_0 rfl ?_
  refine v_putI X 5 fl_X12_133 nof dX12_wishes_2 rfl (fun M1 => ?_)
  refine v_aload_n X 6 0 dX12_wishes_5 rfl rfl ?_
  refine v_bipush X 8 dX12_wishes_6 bk_80 rfl ?_
  refine v_vI X 11 cv_X12_begins ml_X12_231 (n1 := 2) rfl [.int (80 : Int32)] rfl rfl rfl dX12_wishes_8 rfl (fun r M1 h => c_X12_begins _ _ _ _ _ _ h) (fun r3 M2 => ?_)
  refine v_istore_n (lv' := [(0, .ref x0), (1, .int x1), (2, .int r3)]) X 12 dX12_wishes_11 (by decide) rfl rfl ?_
  refine v_aload_n X 13 0 dX12_wishes_12 rfl rfl ?_
  refine v_iload_n X 14 1 dX12_wishes_13 rfl rfl ?_
  refine v_vI X 17 cv_X12_isPerson ml_X12_247 (n1 := 2) rfl [.int x1] rfl rfl rfl dX12_wishes_14 rfl (fun r M1 h => c_X12_isPerson _ _ _ _ _ _ h) (fun r5 M4 => ?_)
  refine v_ifne X 20 23 dX12_wishes_17 rfl rfl ?_ ?_
  · refine v_iconst X 24 dX12_wishes_23 ik_0 rfl ?_
    refine v_istore_n (lv' := [(0, .ref x0), (1, .int x1), (2, .int r3), (3, .int (0 : Int32))]) X 25 dX12_wishes_24 (by decide) rfl rfl ?_
    exact L_X12_wishes_25 X Y 1024 _ _ _ _ _
  · refine v_bipush X 22 dX12_wishes_20 bk_m100 rfl ?_
    exact v_iret X Y (Nat.le_refl _) (Nat.le_refl _) dX12_wishes_22
theorem c_X12_wishes (l : Launch) (x0 : Nat) (x1 : Int32) (M : MM) (r : Int32) (M1 : MM) (h : f_X12_wishes x0 x1 M = some (r, M1)) : KV l yX12_wishes cX12_wishes 5 (some .int) (RM 4 0 0) false 12 x0 [.int x1] M (some (.int r)) M1 := by
  obtain ⟨hO, h2⟩ := iteO_some h
  exact ⟨hO, ct_of (tr := trI) (by decide) (Nat.le_of_ble_eq_true rfl) [(0, .ref x0), (1, .int x1)] rfl h2 (fun G X Y hn hl => L_X12_wishes_0 X Y x0 x1 M)⟩

def f_X12_codes_0 (x0 : Nat) (x1 : Int32) (M : MM) : Option (MM) :=
    b1 (gR 12 28 x0 M) fun v1 =>
    b1 (gI 12 30 x0 M) fun v2 =>
    b1 (stI v1 v2 x1 M) fun M3 =>
    b1 (gI 12 30 x0 M3) fun v4 =>
    b1 (pI 12 30 x0 (v4 + (1 : Int32)) M3) fun M5 =>
    some M5

def f_X12_codes (x0 : Nat) (x1 : Int32) (M : MM) : Option (MM) := if isO 12 x0 M = true then f_X12_codes_0 x0 x1 M else none
set_option maxRecDepth 4000 in
theorem L_X12_codes_0 {G : Gx} (X : Cb G cX12_codes 2 RX12 (RM 1 0 0) false) (Y : Cr G none 0 0) (x0 : Nat) (x1 : Int32) (M : MM) : V G trV 2 0 0 0 [(0, .ref x0), (1, .int x1)] [] M (f_X12_codes_0 x0 x1 M) := by
  unfold f_X12_codes_0
  refine v_aload_n X 1 0 dX12_codes_0 rfl rfl ?_
  refine v_getR X 4 fl_X12_64.r dX12_codes_1 rfl (fun v1 => ?_)
  refine v_aload_n X 5 0 dX12_codes_4 rfl rfl ?_
  refine v_getI X 8 fl_X12_250.r dX12_codes_5 rfl (fun v2 => ?_)
  refine v_iload_n X 9 1 dX12_codes_8 rfl rfl ?_
  refine v_iast X 10 dX12_codes_9 rfl (fun M3 => ?_)
  refine v_aload_n X 11 0 dX12_codes_10 rfl rfl ?_
  refine v_dup X 12 dX12_codes_11 rfl rfl ?_
  refine v_getI X 15 fl_X12_250.r dX12_codes_12 rfl (fun v4 => ?_)
  refine v_iconst X 16 dX12_codes_15 ik_1 rfl ?_
  refine v_iadd X 17 dX12_codes_16 rfl ?_
  refine v_putI X 20 fl_X12_250 nof dX12_codes_17 rfl (fun M5 => ?_)
  exact v_vret X Y (Nat.le_refl _) (Nat.le_refl _) dX12_codes_20
theorem c_X12_codes (l : Launch) (x0 : Nat) (x1 : Int32) (M : MM) (M1 : MM) (h : f_X12_codes x0 x1 M = some M1) : KV l yX12_codes cX12_codes 2 none (RM 1 0 0) false 12 x0 [.int x1] M none M1 := by
  obtain ⟨hO, h2⟩ := iteO_some h
  exact ⟨hO, ct_of (tr := trV) (by decide) (Nat.le_of_ble_eq_true rfl) [(0, .ref x0), (1, .int x1)] rfl h2 (fun G X Y hn hl => L_X12_codes_0 X Y x0 x1 M)⟩

def f_X12_readsNode_0 (P0 : Nat → MM → Option (Int32 × MM)) (P1 : Nat → Int32 → MM → Option (Int32 × MM)) (x0 : Nat) (M : MM) : Option (Int32 × MM) :=
    b2 (f_X12_takes x0 (45 : Int32) M) fun r2 M1 =>
    if r2 = 0 then
      b2 (f_X12_isDigit x0 M1) fun r4 M3 =>
      if r4 = 0 then
        b2 (f_X12_takesOf x0 (sB + 0) M3) fun r6 M5 =>
        if r6 < 0 then
          b1 (gI 12 21 x0 M5) fun v7 =>
          if v7 = (4 : Int32) then
            rz (0 : Int32) M5
          else
            b2 (f_X12_takes x0 (40 : Int32) M5) fun r9 M8 =>
            if r9 = 0 then
              rz (0 : Int32) M8
            else
              b1 (gI 12 21 x0 M8) fun v10 =>
              b1 (pI 12 21 x0 (v10 + (1 : Int32)) M8) fun M11 =>
              b2 (P1 x0 (0 : Int32) M11) fun r13 M12 =>
              if r13 = 0 then
                rz (0 : Int32) M12
              else
                b2 (f_X12_takes x0 (41 : Int32) M12) fun r15 M14 =>
                if r15 = 0 then
                  rz (0 : Int32) M14
                else
                  b1 (gI 12 21 x0 M14) fun v16 =>
                  b1 (pI 12 21 x0 (v16 - (1 : Int32)) M14) fun M17 =>
                  rz (1 : Int32) M17
        else
          b1 (f_X12_codes x0 ((1000 : Int32) + r6) M5) fun M18 =>
          rz (1 : Int32) M18
      else
        b2 (f_X12_number x0 (3 : Int32) M3) fun r20 M19 =>
        b1 (f_X12_codes x0 r20 M19) fun M21 =>
        rz (1 : Int32) M21
    else
      b2 (P0 x0 M1) fun r23 M22 =>
      b1 (f_X12_codes x0 (3000 : Int32) M22) fun M24 =>
      rz r23 M24

set_option maxRecDepth 4000 in
theorem L_X12_readsNode_0 {k : Nat} {G : Gx} (X : Cb G cX12_readsNode 2 RX12 (RM (15 + (k + 1)) 0 0) false) (Y : Cr G (some .boolean) 0 0) {P0 : Nat → MM → Option (Int32 × MM)} (hP0 : ∀ (x0 : Nat) (M : MM) (r : Int32) (M1 : MM), P0 x0 M = some (r, M1) → KV G.1.2.1 yX12_readsNode cX12_readsNode 2 (some .boolean) (RM (15 + k) 0 0) false 12 x0 [] M (some (.int r)) M1) {P1 : Nat → Int32 → MM → Option (Int32 × MM)} (hP1 : ∀ (x0 : Nat) (x1 : Int32) (M : MM) (r : Int32) (M1 : MM), P1 x0 x1 M = some (r, M1) → KV G.1.2.1 yX12_readsRank cX12_readsRank 4 (some .boolean) (RM (15 + k) 0 0) false 12 x0 [.int x1] M (some (.int r)) M1) (x0 : Nat) (M : MM) : V G trI 2 0 0 0 [(0, .ref x0)] [] M (f_X12_readsNode_0 P0 P1 x0 M) := by
  unfold f_X12_readsNode_0
  refine v_aload_n X 1 0 dX12_readsNode_0 rfl rfl ?_
  refine v_bipush X 3 dX12_readsNode_1 bk_45 rfl ?_
  refine v_vI X 6 cv_X12_takes ml_X12_202 (n1 := 2) (rmq (by omega) (by decide)) [.int (45 : Int32)] rfl rfl rfl dX12_readsNode_3 rfl (fun r M1 h => c_X12_takes _ _ _ _ _ _ h) (fun r2 M1 => ?_)
  refine v_ifeq X 9 23 dX12_readsNode_6 rfl rfl ?_ ?_
  · refine v_aload_n X 24 0 dX12_readsNode_23 rfl rfl ?_
    refine v_vI X 27 cv_X12_isDigit ml_X12_193 (n1 := 2) (rmq (by omega) (by decide)) [] rfl rfl rfl dX12_readsNode_24 rfl (fun r M1 h => c_X12_isDigit _ _ _ _ _ h) (fun r4 M3 => ?_)
    refine v_ifeq X 30 41 dX12_readsNode_27 rfl rfl ?_ ?_
    · refine v_aload_n X 42 0 dX12_readsNode_41 rfl rfl ?_
      refine v_ldcSw X 45 (tx := "wasnieyz") (no := 0) dX12_readsNode_42 (by decide) rfl ?_
      refine v_vI X 48 cv_X12_takesOf ml_X12_218 (n1 := 14) (rmq (by omega) (by decide)) [.ref (sB + 0)] rfl rfl rfl dX12_readsNode_45 rfl (fun r M1 h => c_X12_takesOf _ _ _ _ _ _ h) (fun r6 M5 => ?_)
      refine v_istore_n (lv' := [(0, .ref x0), (1, .int r6)]) X 49 dX12_readsNode_48 (by decide) rfl rfl ?_
      refine v_iload_n X 50 1 dX12_readsNode_49 rfl rfl ?_
      refine v_iflt X 53 64 dX12_readsNode_50 rfl rfl ?_ ?_
      · refine v_aload_n X 65 0 dX12_readsNode_64 rfl rfl ?_
        refine v_getI X 68 fl_X12_159.r dX12_readsNode_65 rfl (fun v7 => ?_)
        refine v_iconst X 69 dX12_readsNode_68 ik_4 rfl ?_
        refine v_iceq X 72 81 dX12_readsNode_69 rfl rfl ?_ ?_
        · refine v_iconst X 82 dX12_readsNode_81 ik_0 rfl ?_
          exact v_zret X Y (Nat.le_refl _) (Nat.le_refl _) dX12_readsNode_82
        · refine v_aload_n X 73 0 dX12_readsNode_72 rfl rfl ?_
          refine v_bipush X 75 dX12_readsNode_73 bk_40 rfl ?_
          refine v_vI X 78 cv_X12_takes ml_X12_202 (n1 := 2) (rmq (by omega) (by decide)) [.int (40 : Int32)] rfl rfl rfl dX12_readsNode_75 rfl (fun r M1 h => c_X12_takes _ _ _ _ _ _ h) (fun r9 M8 => ?_)
          refine v_ifne X 81 83 dX12_readsNode_78 rfl rfl ?_ ?_
          · refine v_aload_n X 84 0 dX12_readsNode_83 rfl rfl ?_
            refine v_dup X 85 dX12_readsNode_84 rfl rfl ?_
            refine v_getI X 88 fl_X12_159.r dX12_readsNode_85 rfl (fun v10 => ?_)
            refine v_iconst X 89 dX12_readsNode_88 ik_1 rfl ?_
            refine v_iadd X 90 dX12_readsNode_89 rfl ?_
            refine v_putI X 93 fl_X12_159 nof dX12_readsNode_90 rfl (fun M11 => ?_)
            refine v_aload_n X 94 0 dX12_readsNode_93 rfl rfl ?_
            refine v_iconst X 95 dX12_readsNode_94 ik_0 rfl ?_
            refine v_vI X 98 cv_X12_readsRank ml_X12_262 (n1 := (15 + k)) (rmq (by omega) (by decide)) [.int (0 : Int32)] rfl rfl rfl dX12_readsNode_95 rfl (fun r M1 h => hP1 _ _ _ _ _ h) (fun r13 M12 => ?_)
            refine v_ifeq X 101 110 dX12_readsNode_98 rfl rfl ?_ ?_
            · refine v_iconst X 111 dX12_readsNode_110 ik_0 rfl ?_
              exact v_zret X Y (Nat.le_refl _) (Nat.le_refl _) dX12_readsNode_111
            · refine v_aload_n X 102 0 dX12_readsNode_101 rfl rfl ?_
              refine v_bipush X 104 dX12_readsNode_102 bk_41 rfl ?_
              refine v_vI X 107 cv_X12_takes ml_X12_202 (n1 := 2) (rmq (by omega) (by decide)) [.int (41 : Int32)] rfl rfl rfl dX12_readsNode_104 rfl (fun r M1 h => c_X12_takes _ _ _ _ _ _ h) (fun r15 M14 => ?_)
              refine v_ifne X 110 112 dX12_readsNode_107 rfl rfl ?_ ?_
              · refine v_aload_n X 113 0 dX12_readsNode_112 rfl rfl ?_
                refine v_dup X 114 dX12_readsNode_113 rfl rfl ?_
                refine v_getI X 117 fl_X12_159.r dX12_readsNode_114 rfl (fun v16 => ?_)
                refine v_iconst X 118 dX12_readsNode_117 ik_1 rfl ?_
                refine v_isub X 119 dX12_readsNode_118 rfl ?_
                refine v_putI X 122 fl_X12_159 nof dX12_readsNode_119 rfl (fun M17 => ?_)
                refine v_iconst X 123 dX12_readsNode_122 ik_1 rfl ?_
                exact v_zret X Y (Nat.le_refl _) (Nat.le_refl _) dX12_readsNode_123
              · refine v_iconst X 111 dX12_readsNode_110 ik_0 rfl ?_
                exact v_zret X Y (Nat.le_refl _) (Nat.le_refl _) dX12_readsNode_111
          · refine v_iconst X 82 dX12_readsNode_81 ik_0 rfl ?_
            exact v_zret X Y (Nat.le_refl _) (Nat.le_refl _) dX12_readsNode_82
      · refine v_aload_n X 54 0 dX12_readsNode_53 rfl rfl ?_
        refine v_sipush X 57 dX12_readsNode_54 sk_1000 rfl ?_
        refine v_iload_n X 58 1 dX12_readsNode_57 rfl rfl ?_
        refine v_iadd X 59 dX12_readsNode_58 rfl ?_
        refine v_vV X 62 cv_X12_codes ml_X12_256 (n1 := 1) (rmq (by omega) (by decide)) [.int ((1000 : Int32) + r6)] rfl rfl rfl dX12_readsNode_59 rfl (fun M1 h => c_X12_codes _ _ _ _ _ h) (fun M18 => ?_)
        refine v_iconst X 63 dX12_readsNode_62 ik_1 rfl ?_
        exact v_zret X Y (Nat.le_refl _) (Nat.le_refl _) dX12_readsNode_63
    · refine v_aload_n X 31 0 dX12_readsNode_30 rfl rfl ?_
      refine v_aload_n X 32 0 dX12_readsNode_31 rfl rfl ?_
      refine v_iconst X 33 dX12_readsNode_32 ik_3 rfl ?_
      refine v_vI X 36 cv_X12_number ml_X12_212 (n1 := 3) (rmq (by omega) (by decide)) [.int (3 : Int32)] rfl rfl rfl dX12_readsNode_33 rfl (fun r M1 h => c_X12_number _ _ _ _ _ _ h) (fun r20 M19 => ?_)
      refine v_vV X 39 cv_X12_codes ml_X12_256 (n1 := 1) (rmq (by omega) (by decide)) [.int r20] rfl rfl rfl dX12_readsNode_36 rfl (fun M1 h => c_X12_codes _ _ _ _ _ h) (fun M21 => ?_)
      refine v_iconst X 40 dX12_readsNode_39 ik_1 rfl ?_
      exact v_zret X Y (Nat.le_refl _) (Nat.le_refl _) dX12_readsNode_40
  · refine v_aload_n X 10 0 dX12_readsNode_9 rfl rfl ?_
    refine v_vI X 13 cv_X12_readsNode ml_X12_253 (n1 := (15 + k)) (rmq (by omega) (by decide)) [] rfl rfl rfl dX12_readsNode_10 rfl (fun r M1 h => hP0 _ _ _ _ h) (fun r23 M22 => ?_)
    refine v_istore_n (lv' := [(0, .ref x0), (1, .int r23)]) X 14 dX12_readsNode_13 (by decide) rfl rfl ?_
    refine v_aload_n X 15 0 dX12_readsNode_14 rfl rfl ?_
    refine v_sipush X 18 dX12_readsNode_15 sk_3000 rfl ?_
    refine v_vV X 21 cv_X12_codes ml_X12_256 (n1 := 1) (rmq (by omega) (by decide)) [.int (3000 : Int32)] rfl rfl rfl dX12_readsNode_18 rfl (fun M1 h => c_X12_codes _ _ _ _ _ h) (fun M24 => ?_)
    refine v_iload_n X 22 1 dX12_readsNode_21 rfl rfl ?_
    exact v_zret X Y (Nat.le_refl _) (Nat.le_refl _) dX12_readsNode_22
def f_X12_readsRank_112 (P0 : Nat → MM → Option (Int32 × MM)) (P1 : Nat → Int32 → MM → Option (Int32 × MM)) (K24 : Nat → Int32 → Int32 → MM → Option (Int32 × MM)) (x0 : Nat) (x1 : Int32) (s0 : Int32) (M : MM) : Option (Int32 × MM) :=
    K24 x0 x1 s0 M

def f_X12_readsRank_99 (P0 : Nat → MM → Option (Int32 × MM)) (P1 : Nat → Int32 → MM → Option (Int32 × MM)) (K24 : Nat → Int32 → Int32 → MM → Option (Int32 × MM)) (x0 : Nat) (x1 : Int32) (s0 : Int32) (s1 : Int32) (s2 : Nat) (M : MM) : Option (Int32 × MM) :=
    b1 (f_X12_codes s2 (s1 + s0) M) fun M1 =>
    if x1 ≤ 0 then
      f_X12_readsRank_112 P0 P1 K24 x0 x1 (0 : Int32) M1
    else
      f_X12_readsRank_112 P0 P1 K24 x0 x1 (1 : Int32) M1

def f_X12_readsRank_53 (P0 : Nat → MM → Option (Int32 × MM)) (P1 : Nat → Int32 → MM → Option (Int32 × MM)) (K24 : Nat → Int32 → Int32 → MM → Option (Int32 × MM)) (x0 : Nat) (x1 : Int32) (s0 : Nat) (s1 : Nat) (M : MM) : Option (Int32 × MM) :=
    b2 (f_X12_takesOf s1 s0 M) fun r2 M1 =>
    if 0 ≤ r2 then
      b2 (P1 x0 (x1 + (1 : Int32)) M1) fun r4 M3 =>
      if r4 = 0 then
        rz (0 : Int32) M3
      else
        if x1 = 0 then
          f_X12_readsRank_99 P0 P1 K24 x0 x1 (0 : Int32) ((2000 : Int32) + r2) x0 M3
        else
          if x1 = (1 : Int32) then
            f_X12_readsRank_99 P0 P1 K24 x0 x1 (3 : Int32) ((2000 : Int32) + r2) x0 M3
          else
            f_X12_readsRank_99 P0 P1 K24 x0 x1 (5 : Int32) ((2000 : Int32) + r2) x0 M3
    else
      rz (1 : Int32) M1

def f_X12_readsRank_24 (P0 : Nat → MM → Option (Int32 × MM)) (P1 : Nat → Int32 → MM → Option (Int32 × MM)) : Nat → Nat → Int32 → Int32 → MM → Option (Int32 × MM)
  | 0, _, _, _, _ => none
  | n + 1, x0, x1, x2, M =>
    if x2 = 0 then
      rz (1 : Int32) M
    else
      if x1 = 0 then
        f_X12_readsRank_53 P0 P1 (f_X12_readsRank_24 P0 P1 n) x0 x1 (sB + 4) x0 M
      else
        if x1 = (1 : Int32) then
          f_X12_readsRank_53 P0 P1 (f_X12_readsRank_24 P0 P1 n) x0 x1 (sB + 5) x0 M
        else
          f_X12_readsRank_53 P0 P1 (f_X12_readsRank_24 P0 P1 n) x0 x1 (sB + 6) x0 M

def f_X12_readsRank_0 (P0 : Nat → MM → Option (Int32 × MM)) (P1 : Nat → Int32 → MM → Option (Int32 × MM)) (x0 : Nat) (x1 : Int32) (M : MM) : Option (Int32 × MM) :=
    if x1 = (3 : Int32) then
      b2 (P0 x0 M) fun r4 M3 =>
      rz r4 M3
    else
      b2 (P1 x0 (x1 + (1 : Int32)) M) fun r2 M1 =>
      if r2 = 0 then
        rz (0 : Int32) M1
      else
        f_X12_readsRank_24 P0 P1 1024 x0 x1 (1 : Int32) M1

set_option maxRecDepth 4000 in
theorem L_X12_readsRank_112 {k : Nat} {G : Gx} (X : Cb G cX12_readsRank 4 RX12 (RM (15 + (k + 1)) 0 0) false) (Y : Cr G (some .boolean) 0 0) {P0 : Nat → MM → Option (Int32 × MM)} (hP0 : ∀ (x0 : Nat) (M : MM) (r : Int32) (M1 : MM), P0 x0 M = some (r, M1) → KV G.1.2.1 yX12_readsNode cX12_readsNode 2 (some .boolean) (RM (15 + k) 0 0) false 12 x0 [] M (some (.int r)) M1) {P1 : Nat → Int32 → MM → Option (Int32 × MM)} (hP1 : ∀ (x0 : Nat) (x1 : Int32) (M : MM) (r : Int32) (M1 : MM), P1 x0 x1 M = some (r, M1) → KV G.1.2.1 yX12_readsRank cX12_readsRank 4 (some .boolean) (RM (15 + k) 0 0) false 12 x0 [.int x1] M (some (.int r)) M1) {K24 : Nat → Int32 → Int32 → MM → Option (Int32 × MM)} (hK24 : ∀ (x0 : Nat) (x1 : Int32) (x2 : Int32) (M : MM), V G trI 4 0 0 24 [(0, .ref x0), (1, .int x1), (2, .int x2)] [] M (K24 x0 x1 x2 M)) (x0 : Nat) (x1 : Int32) (s0 : Int32) (M : MM) : V G trI 4 0 0 112 [(0, .ref x0), (1, .int x1)] [.int s0] M (f_X12_readsRank_112 P0 P1 K24 x0 x1 s0 M) := by
  unfold f_X12_readsRank_112
  refine v_istore_n (lv' := [(0, .ref x0), (1, .int x1), (2, .int s0)]) X 113 dX12_readsRank_112 (by decide) rfl rfl ?_
  refine v_goto X 24 dX12_readsRank_113 rfl ?_
  exact hK24 _ _ _ _
set_option maxRecDepth 4000 in
theorem L_X12_readsRank_99 {k : Nat} {G : Gx} (X : Cb G cX12_readsRank 4 RX12 (RM (15 + (k + 1)) 0 0) false) (Y : Cr G (some .boolean) 0 0) {P0 : Nat → MM → Option (Int32 × MM)} (hP0 : ∀ (x0 : Nat) (M : MM) (r : Int32) (M1 : MM), P0 x0 M = some (r, M1) → KV G.1.2.1 yX12_readsNode cX12_readsNode 2 (some .boolean) (RM (15 + k) 0 0) false 12 x0 [] M (some (.int r)) M1) {P1 : Nat → Int32 → MM → Option (Int32 × MM)} (hP1 : ∀ (x0 : Nat) (x1 : Int32) (M : MM) (r : Int32) (M1 : MM), P1 x0 x1 M = some (r, M1) → KV G.1.2.1 yX12_readsRank cX12_readsRank 4 (some .boolean) (RM (15 + k) 0 0) false 12 x0 [.int x1] M (some (.int r)) M1) {K24 : Nat → Int32 → Int32 → MM → Option (Int32 × MM)} (hK24 : ∀ (x0 : Nat) (x1 : Int32) (x2 : Int32) (M : MM), V G trI 4 0 0 24 [(0, .ref x0), (1, .int x1), (2, .int x2)] [] M (K24 x0 x1 x2 M)) (x0 : Nat) (x1 : Int32) (s0 : Int32) (s1 : Int32) (s2 : Nat) (M : MM) : V G trI 4 0 0 99 [(0, .ref x0), (1, .int x1)] [.int s0, .int s1, .ref s2] M (f_X12_readsRank_99 P0 P1 K24 x0 x1 s0 s1 s2 M) := by
  unfold f_X12_readsRank_99
  refine v_iadd X 100 dX12_readsRank_99 rfl ?_
  refine v_vV X 103 cv_X12_codes ml_X12_256 (n1 := 1) (rmq (by omega) (by decide)) [.int (s1 + s0)] rfl rfl rfl dX12_readsRank_100 rfl (fun M1 h => c_X12_codes _ _ _ _ _ h) (fun M1 => ?_)
  refine v_iload_n X 104 1 dX12_readsRank_103 rfl rfl ?_
  refine v_ifle X 107 111 dX12_readsRank_104 rfl rfl ?_ ?_
  · refine v_iconst X 112 dX12_readsRank_111 ik_0 rfl ?_
    exact L_X12_readsRank_112 X Y hP0 hP1 hK24 _ _ _ _
  · refine v_iconst X 108 dX12_readsRank_107 ik_1 rfl ?_
    refine v_goto X 112 dX12_readsRank_108 rfl ?_
    exact L_X12_readsRank_112 X Y hP0 hP1 hK24 _ _ _ _
set_option maxRecDepth 4000 in
theorem L_X12_readsRank_53 {k : Nat} {G : Gx} (X : Cb G cX12_readsRank 4 RX12 (RM (15 + (k + 1)) 0 0) false) (Y : Cr G (some .boolean) 0 0) {P0 : Nat → MM → Option (Int32 × MM)} (hP0 : ∀ (x0 : Nat) (M : MM) (r : Int32) (M1 : MM), P0 x0 M = some (r, M1) → KV G.1.2.1 yX12_readsNode cX12_readsNode 2 (some .boolean) (RM (15 + k) 0 0) false 12 x0 [] M (some (.int r)) M1) {P1 : Nat → Int32 → MM → Option (Int32 × MM)} (hP1 : ∀ (x0 : Nat) (x1 : Int32) (M : MM) (r : Int32) (M1 : MM), P1 x0 x1 M = some (r, M1) → KV G.1.2.1 yX12_readsRank cX12_readsRank 4 (some .boolean) (RM (15 + k) 0 0) false 12 x0 [.int x1] M (some (.int r)) M1) {K24 : Nat → Int32 → Int32 → MM → Option (Int32 × MM)} (hK24 : ∀ (x0 : Nat) (x1 : Int32) (x2 : Int32) (M : MM), V G trI 4 0 0 24 [(0, .ref x0), (1, .int x1), (2, .int x2)] [] M (K24 x0 x1 x2 M)) (x0 : Nat) (x1 : Int32) (s0 : Nat) (s1 : Nat) (M : MM) : V G trI 4 0 0 53 [(0, .ref x0), (1, .int x1)] [.ref s0, .ref s1] M (f_X12_readsRank_53 P0 P1 K24 x0 x1 s0 s1 M) := by
  unfold f_X12_readsRank_53
  refine v_vI X 56 cv_X12_takesOf ml_X12_218 (n1 := 14) (rmq (by omega) (by decide)) [.ref s0] rfl rfl rfl dX12_readsRank_53 rfl (fun r M1 h => c_X12_takesOf _ _ _ _ _ _ h) (fun r2 M1 => ?_)
  refine v_istore_n (lv' := [(0, .ref x0), (1, .int x1), (3, .int r2)]) X 57 dX12_readsRank_56 (by decide) rfl rfl ?_
  refine v_iload_n X 58 2 dX12_readsRank_57 rfl rfl ?_
  refine v_ifge X 61 63 dX12_readsRank_58 rfl rfl ?_ ?_
  · refine v_aload_n X 64 0 dX12_readsRank_63 rfl rfl ?_
    refine v_iload_n X 65 1 dX12_readsRank_64 rfl rfl ?_
    refine v_iconst X 66 dX12_readsRank_65 ik_1 rfl ?_
    refine v_iadd X 67 dX12_readsRank_66 rfl ?_
    refine v_vI X 70 cv_X12_readsRank ml_X12_262 (n1 := (15 + k)) (rmq (by omega) (by decide)) [.int (x1 + (1 : Int32))] rfl rfl rfl dX12_readsRank_67 rfl (fun r M1 h => hP1 _ _ _ _ _ h) (fun r4 M3 => ?_)
    refine v_ifne X 73 75 dX12_readsRank_70 rfl rfl ?_ ?_
    · refine v_aload_n X 76 0 dX12_readsRank_75 rfl rfl ?_
      refine v_sipush X 79 dX12_readsRank_76 sk_2000 rfl ?_
      refine v_iload_n X 80 2 dX12_readsRank_79 rfl rfl ?_
      refine v_iadd X 81 dX12_readsRank_80 rfl ?_
      refine v_iload_n X 82 1 dX12_readsRank_81 rfl rfl ?_
      refine v_ifne X 85 89 dX12_readsRank_82 rfl rfl ?_ ?_
      · refine v_iload_n X 90 1 dX12_readsRank_89 rfl rfl ?_
        refine v_iconst X 91 dX12_readsRank_90 ik_1 rfl ?_
        refine v_icne X 94 98 dX12_readsRank_91 rfl rfl ?_ ?_
        · refine v_iconst X 99 dX12_readsRank_98 ik_5 rfl ?_
          exact v_sb [0, 1] (L_X12_readsRank_99 X Y hP0 hP1 hK24 _ _ _ _ _ _) rfl
        · refine v_iconst X 95 dX12_readsRank_94 ik_3 rfl ?_
          refine v_goto X 99 dX12_readsRank_95 rfl ?_
          exact v_sb [0, 1] (L_X12_readsRank_99 X Y hP0 hP1 hK24 _ _ _ _ _ _) rfl
      · refine v_iconst X 86 dX12_readsRank_85 ik_0 rfl ?_
        refine v_goto X 99 dX12_readsRank_86 rfl ?_
        exact v_sb [0, 1] (L_X12_readsRank_99 X Y hP0 hP1 hK24 _ _ _ _ _ _) rfl
    · refine v_iconst X 74 dX12_readsRank_73 ik_0 rfl ?_
      exact v_zret X Y (Nat.le_refl _) (Nat.le_refl _) dX12_readsRank_74
  · refine v_iconst X 62 dX12_readsRank_61 ik_1 rfl ?_
    exact v_zret X Y (Nat.le_refl _) (Nat.le_refl _) dX12_readsRank_62
set_option maxRecDepth 4000 in
theorem L_X12_readsRank_24 {k : Nat} {G : Gx} (X : Cb G cX12_readsRank 4 RX12 (RM (15 + (k + 1)) 0 0) false) (Y : Cr G (some .boolean) 0 0) {P0 : Nat → MM → Option (Int32 × MM)} (hP0 : ∀ (x0 : Nat) (M : MM) (r : Int32) (M1 : MM), P0 x0 M = some (r, M1) → KV G.1.2.1 yX12_readsNode cX12_readsNode 2 (some .boolean) (RM (15 + k) 0 0) false 12 x0 [] M (some (.int r)) M1) {P1 : Nat → Int32 → MM → Option (Int32 × MM)} (hP1 : ∀ (x0 : Nat) (x1 : Int32) (M : MM) (r : Int32) (M1 : MM), P1 x0 x1 M = some (r, M1) → KV G.1.2.1 yX12_readsRank cX12_readsRank 4 (some .boolean) (RM (15 + k) 0 0) false 12 x0 [.int x1] M (some (.int r)) M1) : ∀ (n : Nat) (x0 : Nat) (x1 : Int32) (x2 : Int32) (M : MM), V G trI 4 0 0 24 [(0, .ref x0), (1, .int x1), (2, .int x2)] [] M (f_X12_readsRank_24 P0 P1 n x0 x1 x2 M) := by
  intro n
  induction n with
  | zero => intro x0 x1 x2 M; rw [f_X12_readsRank_24]; exact v_none
  | succ n ih =>
    intro x0 x1 x2 M
    rw [f_X12_readsRank_24]
    refine v_iload_n X 25 2 dX12_readsRank_24 rfl rfl ?_
    refine v_ifeq X 28 116 dX12_readsRank_25 rfl rfl ?_ ?_
    · refine v_iconst X 117 dX12_readsRank_116 ik_1 rfl ?_
      exact v_zret X Y (Nat.le_refl _) (Nat.le_refl _) dX12_readsRank_117
    · refine v_aload_n X 29 0 dX12_readsRank_28 rfl rfl ?_
      refine v_iload_n X 30 1 dX12_readsRank_29 rfl rfl ?_
      refine v_ifne X 33 39 dX12_readsRank_30 rfl rfl ?_ ?_
      · refine v_iload_n X 40 1 dX12_readsRank_39 rfl rfl ?_
        refine v_iconst X 41 dX12_readsRank_40 ik_1 rfl ?_
        refine v_icne X 44 50 dX12_readsRank_41 rfl rfl ?_ ?_
        · refine v_ldcSw X 53 (tx := "*/") (no := 6) dX12_readsRank_50 (by decide) rfl ?_
          exact v_sb [0, 1] (L_X12_readsRank_53 X Y hP0 hP1 ih _ _ _ _ _) rfl
        · refine v_ldcSw X 47 (tx := "+-") (no := 5) dX12_readsRank_44 (by decide) rfl ?_
          refine v_goto X 53 dX12_readsRank_47 rfl ?_
          exact v_sb [0, 1] (L_X12_readsRank_53 X Y hP0 hP1 ih _ _ _ _ _) rfl
      · refine v_ldcSw X 36 (tx := "<>=") (no := 4) dX12_readsRank_33 (by decide) rfl ?_
        refine v_goto X 53 dX12_readsRank_36 rfl ?_
        exact v_sb [0, 1] (L_X12_readsRank_53 X Y hP0 hP1 ih _ _ _ _ _) rfl
set_option maxRecDepth 4000 in
theorem L_X12_readsRank_0 {k : Nat} {G : Gx} (X : Cb G cX12_readsRank 4 RX12 (RM (15 + (k + 1)) 0 0) false) (Y : Cr G (some .boolean) 0 0) {P0 : Nat → MM → Option (Int32 × MM)} (hP0 : ∀ (x0 : Nat) (M : MM) (r : Int32) (M1 : MM), P0 x0 M = some (r, M1) → KV G.1.2.1 yX12_readsNode cX12_readsNode 2 (some .boolean) (RM (15 + k) 0 0) false 12 x0 [] M (some (.int r)) M1) {P1 : Nat → Int32 → MM → Option (Int32 × MM)} (hP1 : ∀ (x0 : Nat) (x1 : Int32) (M : MM) (r : Int32) (M1 : MM), P1 x0 x1 M = some (r, M1) → KV G.1.2.1 yX12_readsRank cX12_readsRank 4 (some .boolean) (RM (15 + k) 0 0) false 12 x0 [.int x1] M (some (.int r)) M1) (x0 : Nat) (x1 : Int32) (M : MM) : V G trI 4 0 0 0 [(0, .ref x0), (1, .int x1)] [] M (f_X12_readsRank_0 P0 P1 x0 x1 M) := by
  unfold f_X12_readsRank_0
  refine v_iload_n X 1 1 dX12_readsRank_0 rfl rfl ?_
  refine v_iconst X 2 dX12_readsRank_1 ik_3 rfl ?_
  refine v_icne X 5 10 dX12_readsRank_2 rfl rfl ?_ ?_
  · refine v_aload_n X 11 0 dX12_readsRank_10 rfl rfl ?_
    refine v_iload_n X 12 1 dX12_readsRank_11 rfl rfl ?_
    refine v_iconst X 13 dX12_readsRank_12 ik_1 rfl ?_
    refine v_iadd X 14 dX12_readsRank_13 rfl ?_
    refine v_vI X 17 cv_X12_readsRank ml_X12_262 (n1 := (15 + k)) (rmq (by omega) (by decide)) [.int (x1 + (1 : Int32))] rfl rfl rfl dX12_readsRank_14 rfl (fun r M1 h => hP1 _ _ _ _ _ h) (fun r2 M1 => ?_)
    refine v_ifne X 20 22 dX12_readsRank_17 rfl rfl ?_ ?_
    · refine v_iconst X 23 dX12_readsRank_22 ik_1 rfl ?_
      refine v_istore_n (lv' := [(0, .ref x0), (1, .int x1), (2, .int (1 : Int32))]) X 24 dX12_readsRank_23 (by decide) rfl rfl ?_
      exact L_X12_readsRank_24 X Y hP0 hP1 1024 _ _ _ _
    · refine v_iconst X 21 dX12_readsRank_20 ik_0 rfl ?_
      exact v_zret X Y (Nat.le_refl _) (Nat.le_refl _) dX12_readsRank_21
  · refine v_aload_n X 6 0 dX12_readsRank_5 rfl rfl ?_
    refine v_vI X 9 cv_X12_readsNode ml_X12_253 (n1 := (15 + k)) (rmq (by omega) (by decide)) [] rfl rfl rfl dX12_readsRank_6 rfl (fun r M1 h => hP0 _ _ _ _ h) (fun r4 M3 => ?_)
    exact v_zret X Y (Nat.le_refl _) (Nat.le_refl _) dX12_readsRank_9
def f_X12_nr : Nat → Option Int32 → Nat → MM → Option (Int32 × MM)
  | 0, _, _, _ => none
  | n + 1, none, x0, M => if isO 12 x0 M = true then f_X12_readsNode_0 (f_X12_nr n none) (fun x0 x1 M => f_X12_nr n (some x1) x0 M) x0 M else none
  | n + 1, some x1, x0, M => if isO 12 x0 M = true then f_X12_readsRank_0 (f_X12_nr n none) (fun x0 x1 M => f_X12_nr n (some x1) x0 M) x0 x1 M else none
def f_X12_readsNode (n : Nat) (x0 : Nat) (M : MM) : Option (Int32 × MM) := f_X12_nr n none x0 M
def f_X12_readsRank (n : Nat) (x0 : Nat) (x1 : Int32) (M : MM) : Option (Int32 × MM) := f_X12_nr n (some x1) x0 M
theorem c_X12_nr (l : Launch) : ∀ (n : Nat), (∀ (x0 : Nat) (M : MM) (r : Int32) (M1 : MM), f_X12_nr n none x0 M = some (r, M1) → KV l yX12_readsNode cX12_readsNode 2 (some .boolean) (RM (15 + n) 0 0) false 12 x0 [] M (some (.int r)) M1) ∧ (∀ (x0 : Nat) (x1 : Int32) (M : MM) (r : Int32) (M1 : MM), f_X12_nr n (some x1) x0 M = some (r, M1) → KV l yX12_readsRank cX12_readsRank 4 (some .boolean) (RM (15 + n) 0 0) false 12 x0 [.int x1] M (some (.int r)) M1) := by
  intro n
  induction n with
  | zero => exact ⟨fun x0 M r M1 h => (by rw [f_X12_nr] at h; cases h), fun x0 x1 M r M1 h => (by rw [f_X12_nr] at h; cases h)⟩
  | succ n ih =>
    refine ⟨fun x0 M r M1 h => ?_, fun x0 x1 M r M1 h => ?_⟩
    · rw [f_X12_nr] at h
      obtain ⟨hO, h2⟩ := iteO_some h
      exact ⟨hO, ct_of (tr := trI) (by decide) (Nat.le_of_ble_eq_true rfl) [(0, .ref x0)] rfl h2 (fun G X Y hn hl => L_X12_readsNode_0 (k := n) X Y (by rw [hl]; exact ih.1) (by rw [hl]; exact ih.2) x0 M)⟩
    · rw [f_X12_nr] at h
      obtain ⟨hO, h2⟩ := iteO_some h
      exact ⟨hO, ct_of (tr := trI) (by decide) (Nat.le_of_ble_eq_true rfl) [(0, .ref x0), (1, .int x1)] rfl h2 (fun G X Y hn hl => L_X12_readsRank_0 (k := n) X Y (by rw [hl]; exact ih.1) (by rw [hl]; exact ih.2) x0 x1 M)⟩
theorem c_X12_readsNode (l : Launch) (n : Nat) (x0 : Nat) (M : MM) (r : Int32) (M1 : MM) (h : f_X12_readsNode n x0 M = some (r, M1)) : KV l yX12_readsNode cX12_readsNode 2 (some .boolean) (RM (15 + n) 0 0) false 12 x0 [] M (some (.int r)) M1 := (c_X12_nr l n).1 x0 M r M1 h
theorem c_X12_readsRank (l : Launch) (n : Nat) (x0 : Nat) (x1 : Int32) (M : MM) (r : Int32) (M1 : MM) (h : f_X12_readsRank n x0 x1 M = some (r, M1)) : KV l yX12_readsRank cX12_readsRank 4 (some .boolean) (RM (15 + n) 0 0) false 12 x0 [.int x1] M (some (.int r)) M1 := (c_X12_nr l n).2 x0 x1 M r M1 h

def f_X12_rule_61 : Nat → Nat → Int32 → MM → Option (Int32 × MM)
  | 0, _, _, _ => none
  | n + 1, x0, x4, M =>
    b1 (gI 12 30 x0 M) fun v1 =>
    if v1 ≤ x4 then
      some ((0 : Int32), M)
    else
      b1 (gR 12 27 x0 M) fun v2 =>
      b1 (gR 12 28 x0 M) fun v3 =>
      b1 (ldI v3 x4 M) fun v4 =>
      b1 (stI v2 x4 v4 M) fun M5 =>
      bn (x4 + 1 : Int32) fun y6 =>
      f_X12_rule_61 n x0 y6 M5

def f_X12_rule_34 (x0 : Nat) (x1 : Int32) (s0 : Int32) (M : MM) : Option (Int32 × MM) :=
    b2 (f_X12_faultOf x0 x1 (40 : Int32) s0 M) fun r2 M1 =>
    if 0 ≤ r2 then
      b1 (gI 12 30 x0 M1) fun v3 =>
      b1 (pI 12 29 x0 v3 M1) fun M4 =>
      f_X12_rule_61 1024 x0 (0 : Int32) M4
    else
      some (r2, M1)

def f_X12_rule_29 (x0 : Nat) (x1 : Int32) (M : MM) : Option (Int32 × MM) :=
    f_X12_rule_34 x0 x1 (1 : Int32) M

def f_X12_rule_0 (x0 : Nat) (M : MM) : Option (Int32 × MM) :=
    b1 (pI 12 0 x0 (0 : Int32) M) fun M1 =>
    b2 (f_X12_begins x0 (40 : Int32) M1) fun r3 M2 =>
    b1 (pI 12 30 x0 (0 : Int32) M2) fun M4 =>
    if r3 = 0 then
      f_X12_rule_29 x0 r3 M4
    else
      b2 (f_X12_readsRank 100 x0 (0 : Int32) M4) fun r6 M5 =>
      if r6 = 0 then
        f_X12_rule_34 x0 r3 (0 : Int32) M5
      else
        f_X12_rule_29 x0 r3 M5

def f_X12_rule (x0 : Nat) (M : MM) : Option (Int32 × MM) := if isO 12 x0 M = true then f_X12_rule_0 x0 M else none
set_option maxRecDepth 4000 in
theorem L_X12_rule_61 {G : Gx} (X : Cb G cX12_rule 5 RX12 (RM 116 0 0) false) (Y : Cr G (some .int) 0 0) : ∀ (n : Nat) (x0 : Nat) (x4 : Int32) (M : MM), V G trI 5 0 0 61 [(0, .ref x0), (4, .int x4)] [] M (f_X12_rule_61 n x0 x4 M) := by
  intro n
  induction n with
  | zero => intro x0 x4 M; rw [f_X12_rule_61]; exact v_none
  | succ n ih =>
    intro x0 x4 M
    rw [f_X12_rule_61]
    refine v_iload X 63 1 dX12_rule_61 rfl rfl ?_
    refine v_aload_n X 64 0 dX12_rule_63 rfl rfl ?_
    refine v_getI X 67 fl_X12_250.r dX12_rule_64 rfl (fun v1 => ?_)
    refine v_icge X 70 90 dX12_rule_67 rfl rfl ?_ ?_
    · refine v_iconst X 91 dX12_rule_90 ik_0 rfl ?_
      exact v_iret X Y (Nat.le_refl _) (Nat.le_refl _) dX12_rule_91
    · refine v_aload_n X 71 0 dX12_rule_70 rfl rfl ?_
      refine v_getR X 74 fl_X12_61.r dX12_rule_71 rfl (fun v2 => ?_)
      refine v_iload X 76 1 dX12_rule_74 rfl rfl ?_
      refine v_aload_n X 77 0 dX12_rule_76 rfl rfl ?_
      refine v_getR X 80 fl_X12_64.r dX12_rule_77 rfl (fun v3 => ?_)
      refine v_iload X 82 1 dX12_rule_80 rfl rfl ?_
      refine v_iald X 83 dX12_rule_82 rfl (fun v4 => ?_)
      refine v_iast X 84 dX12_rule_83 rfl (fun M5 => ?_)
      refine v_iinc X 87 1 (fun z => [(0, .ref x0), (4, .int z)]) dX12_rule_84 rfl ik_1 (by decide) (fun _ => rfl) rfl (fun y6 => ?_)
      refine v_goto X 61 dX12_rule_87 rfl ?_
      exact ih _ _ _
set_option maxRecDepth 4000 in
theorem L_X12_rule_34 {G : Gx} (X : Cb G cX12_rule 5 RX12 (RM 116 0 0) false) (Y : Cr G (some .int) 0 0) (x0 : Nat) (x1 : Int32) (s0 : Int32) (M : MM) : V G trI 5 0 0 34 [(0, .ref x0), (1, .int x1)] [.int s0] M (f_X12_rule_34 x0 x1 s0 M) := by
  unfold f_X12_rule_34
  refine v_istore_n (lv' := [(0, .ref x0), (1, .int x1), (2, .int s0)]) X 35 dX12_rule_34 (by decide) rfl rfl ?_
  refine v_aload_n X 36 0 dX12_rule_35 rfl rfl ?_
  refine v_iload_n X 37 1 dX12_rule_36 rfl rfl ?_
  refine v_bipush X 39 dX12_rule_37 bk_40 rfl ?_
  refine v_iload_n X 40 2 dX12_rule_39 rfl rfl ?_
  refine v_vI X 43 cv_X12_faultOf ml_X12_237 (n1 := 1) rfl [.int x1, .int (40 : Int32), .int s0] rfl rfl rfl dX12_rule_40 rfl (fun r M1 h => c_X12_faultOf _ _ _ _ _ _ _ _ h) (fun r2 M1 => ?_)
  refine v_istore_n (lv' := [(0, .ref x0), (1, .int x1), (2, .int s0), (3, .int r2)]) X 44 dX12_rule_43 (by decide) rfl rfl ?_
  refine v_iload_n X 45 3 dX12_rule_44 rfl rfl ?_
  refine v_ifge X 48 50 dX12_rule_45 rfl rfl ?_ ?_
  · refine v_aload_n X 51 0 dX12_rule_50 rfl rfl ?_
    refine v_aload_n X 52 0 dX12_rule_51 rfl rfl ?_
    refine v_getI X 55 fl_X12_250.r dX12_rule_52 rfl (fun v3 => ?_)
    refine v_putI X 58 fl_X12_271 nof dX12_rule_55 rfl (fun M4 => ?_)
    refine v_iconst X 59 dX12_rule_58 ik_0 rfl ?_
    refine v_istore (lv' := [(0, .ref x0), (1, .int x1), (2, .int s0), (3, .int r2), (4, .int (0 : Int32))]) X 61 dX12_rule_59 (by decide) rfl rfl ?_
    exact v_sb [0, 4] (L_X12_rule_61 X Y 1024 _ _ _) rfl
  · refine v_iload_n X 49 3 dX12_rule_48 rfl rfl ?_
    exact v_iret X Y (Nat.le_refl _) (Nat.le_refl _) dX12_rule_49
set_option maxRecDepth 4000 in
theorem L_X12_rule_29 {G : Gx} (X : Cb G cX12_rule 5 RX12 (RM 116 0 0) false) (Y : Cr G (some .int) 0 0) (x0 : Nat) (x1 : Int32) (M : MM) : V G trI 5 0 0 29 [(0, .ref x0), (1, .int x1)] [] M (f_X12_rule_29 x0 x1 M) := by
  unfold f_X12_rule_29
  refine v_iconst X 30 dX12_rule_29 ik_1 rfl ?_
  refine v_goto X 34 dX12_rule_30 rfl ?_
  exact L_X12_rule_34 X Y _ _ _ _
set_option maxRecDepth 4000 in
theorem L_X12_rule_0 {G : Gx} (X : Cb G cX12_rule 5 RX12 (RM 116 0 0) false) (Y : Cr G (some .int) 0 0) (x0 : Nat) (M : MM) : V G trI 5 0 0 0 [(0, .ref x0)] [] M (f_X12_rule_0 x0 M) := by
  unfold f_X12_rule_0
  refine v_aload_n X 1 0 dX12_rule_0 rfl rfl ?_
  refine v_iconst X 2 dX12_rule_1 ik_0 rfl ?_
  refine v_putI X 5 fl_X12_133 nof dX12_rule_2 rfl (fun M1 => ?_)
  refine v_aload_n X 6 0 dX12_rule_5 rfl rfl ?_
  refine v_bipush X 8 dX12_rule_6 bk_40 rfl ?_
  refine v_vI X 11 cv_X12_begins ml_X12_231 (n1 := 2) rfl [.int (40 : Int32)] rfl rfl rfl dX12_rule_8 rfl (fun r M1 h => c_X12_begins _ _ _ _ _ _ h) (fun r3 M2 => ?_)
  refine v_istore_n (lv' := [(0, .ref x0), (1, .int r3)]) X 12 dX12_rule_11 (by decide) rfl rfl ?_
  refine v_aload_n X 13 0 dX12_rule_12 rfl rfl ?_
  refine v_iconst X 14 dX12_rule_13 ik_0 rfl ?_
  refine v_putI X 17 fl_X12_250 nof dX12_rule_14 rfl (fun M4 => ?_)
  refine v_iload_n X 18 1 dX12_rule_17 rfl rfl ?_
  refine v_ifeq X 21 29 dX12_rule_18 rfl rfl ?_ ?_
  · exact L_X12_rule_29 X Y _ _ _
  · refine v_aload_n X 22 0 dX12_rule_21 rfl rfl ?_
    refine v_iconst X 23 dX12_rule_22 ik_0 rfl ?_
    refine v_vI X 26 cv_X12_readsRank ml_X12_262 (n1 := 115) rfl [.int (0 : Int32)] rfl rfl rfl dX12_rule_23 rfl (fun r M1 h => c_X12_readsRank _ 100 _ _ _ _ _ h) (fun r6 M5 => ?_)
    refine v_ifeq X 29 33 dX12_rule_26 rfl rfl ?_ ?_
    · refine v_iconst X 34 dX12_rule_33 ik_0 rfl ?_
      exact L_X12_rule_34 X Y _ _ _ _
    · exact L_X12_rule_29 X Y _ _ _
theorem c_X12_rule (l : Launch) (x0 : Nat) (M : MM) (r : Int32) (M1 : MM) (h : f_X12_rule x0 M = some (r, M1)) : KV l yX12_rule cX12_rule 5 (some .int) (RM 116 0 0) false 12 x0 [] M (some (.int r)) M1 := by
  obtain ⟨hO, h2⟩ := iteO_some h
  exact ⟨hO, ct_of (tr := trI) (by decide) (Nat.le_of_ble_eq_true rfl) [(0, .ref x0)] rfl h2 (fun G X Y hn hl => L_X12_rule_0 X Y x0 M)⟩

def f_X12_worked_50 (s0 : Int32) (M : MM) : Option (Int32 × MM) :=
    b2 (f_X12_flag s0 M) fun r2 M1 =>
    some (r2, M1)

def f_X12_worked_64 (s0 : Int32) (M : MM) : Option (Int32 × MM) :=
    b2 (f_X12_flag s0 M) fun r2 M1 =>
    some (r2, M1)

def f_X12_worked_78 (s0 : Int32) (M : MM) : Option (Int32 × MM) :=
    b2 (f_X12_flag s0 M) fun r2 M1 =>
    some (r2, M1)

def f_X12_worked_0 (x0 : Int32) (x1 : Int32) (x2 : Int32) (M : MM) : Option (Int32 × MM) :=
    if x0 = 0 then
      if x2 ≤ x1 then
        f_X12_worked_50 (0 : Int32) M
      else
        f_X12_worked_50 (1 : Int32) M
    else
    if x0 = 1 then
      if x1 ≤ x2 then
        f_X12_worked_64 (0 : Int32) M
      else
        f_X12_worked_64 (1 : Int32) M
    else
    if x0 = 2 then
      if x1 = x2 then
        f_X12_worked_78 (1 : Int32) M
      else
        f_X12_worked_78 (0 : Int32) M
    else
    if x0 = 3 then
      some (x1 + x2, M)
    else
    if x0 = 4 then
      some (x1 - x2, M)
    else
    if x0 = 5 then
      some (x1 * x2, M)
    else
      if x2 = 0 then
        some ((0 : Int32), M)
      else
        b1 (divI x1 x2) fun v1 =>
        some (v1, M)

def f_X12_worked (x0 : Int32) (x1 : Int32) (x2 : Int32) (M : MM) : Option (Int32 × MM) := f_X12_worked_0 x0 x1 x2 M
set_option maxRecDepth 4000 in
theorem L_X12_worked_50 {G : Gx} (X : Cb G cX12_worked 3 RX12 (RM 2 0 0) false) (Y : Cr G (some .int) 0 0) (s0 : Int32) (M : MM) : V G trI 3 0 0 50 [] [.int s0] M (f_X12_worked_50 s0 M) := by
  unfold f_X12_worked_50
  refine v_sI X 53 cs_X12_flag ml_X12_171 (n1 := 1) rfl [.int s0] rfl rfl rfl dX12_worked_50 rfl (fun r M1 h => c_X12_flag _ _ _ _ _ h) (fun r2 M1 => ?_)
  exact v_iret X Y (Nat.le_refl _) (Nat.le_refl _) dX12_worked_53
set_option maxRecDepth 4000 in
theorem L_X12_worked_64 {G : Gx} (X : Cb G cX12_worked 3 RX12 (RM 2 0 0) false) (Y : Cr G (some .int) 0 0) (s0 : Int32) (M : MM) : V G trI 3 0 0 64 [] [.int s0] M (f_X12_worked_64 s0 M) := by
  unfold f_X12_worked_64
  refine v_sI X 67 cs_X12_flag ml_X12_171 (n1 := 1) rfl [.int s0] rfl rfl rfl dX12_worked_64 rfl (fun r M1 h => c_X12_flag _ _ _ _ _ h) (fun r2 M1 => ?_)
  exact v_iret X Y (Nat.le_refl _) (Nat.le_refl _) dX12_worked_67
set_option maxRecDepth 4000 in
theorem L_X12_worked_78 {G : Gx} (X : Cb G cX12_worked 3 RX12 (RM 2 0 0) false) (Y : Cr G (some .int) 0 0) (s0 : Int32) (M : MM) : V G trI 3 0 0 78 [] [.int s0] M (f_X12_worked_78 s0 M) := by
  unfold f_X12_worked_78
  refine v_sI X 81 cs_X12_flag ml_X12_171 (n1 := 1) rfl [.int s0] rfl rfl rfl dX12_worked_78 rfl (fun r M1 h => c_X12_flag _ _ _ _ _ h) (fun r2 M1 => ?_)
  exact v_iret X Y (Nat.le_refl _) (Nat.le_refl _) dX12_worked_81
set_option maxRecDepth 4000 in
theorem L_X12_worked_0 {G : Gx} (X : Cb G cX12_worked 3 RX12 (RM 2 0 0) false) (Y : Cr G (some .int) 0 0) (x0 : Int32) (x1 : Int32) (x2 : Int32) (M : MM) : V G trI 3 0 0 0 [(0, .int x0), (1, .int x1), (2, .int x2)] [] M (f_X12_worked_0 x0 x1 x2 M) := by
  unfold f_X12_worked_0
  refine v_iload_n X 1 0 dX12_worked_0 rfl rfl ?_
  refine v_ite (fun e => ?_) (fun e0 => ?_)
  · refine v_tabIn X 40 dX12_worked_1 e rfl ?_
    refine v_iload_n X 41 1 dX12_worked_40 rfl rfl ?_
    refine v_iload_n X 42 2 dX12_worked_41 rfl rfl ?_
    refine v_icge X 45 49 dX12_worked_42 rfl rfl ?_ ?_
    · refine v_iconst X 50 dX12_worked_49 ik_0 rfl ?_
      exact v_sb [] (L_X12_worked_50 X Y _ _) rfl
    · refine v_iconst X 46 dX12_worked_45 ik_1 rfl ?_
      refine v_goto X 50 dX12_worked_46 rfl ?_
      exact v_sb [] (L_X12_worked_50 X Y _ _) rfl
  refine v_ite (fun e => ?_) (fun e1 => ?_)
  · refine v_tabIn X 54 dX12_worked_1 e rfl ?_
    refine v_iload_n X 55 1 dX12_worked_54 rfl rfl ?_
    refine v_iload_n X 56 2 dX12_worked_55 rfl rfl ?_
    refine v_icle X 59 63 dX12_worked_56 rfl rfl ?_ ?_
    · refine v_iconst X 64 dX12_worked_63 ik_0 rfl ?_
      exact v_sb [] (L_X12_worked_64 X Y _ _) rfl
    · refine v_iconst X 60 dX12_worked_59 ik_1 rfl ?_
      refine v_goto X 64 dX12_worked_60 rfl ?_
      exact v_sb [] (L_X12_worked_64 X Y _ _) rfl
  refine v_ite (fun e => ?_) (fun e2 => ?_)
  · refine v_tabIn X 68 dX12_worked_1 e rfl ?_
    refine v_iload_n X 69 1 dX12_worked_68 rfl rfl ?_
    refine v_iload_n X 70 2 dX12_worked_69 rfl rfl ?_
    refine v_icne X 73 77 dX12_worked_70 rfl rfl ?_ ?_
    · refine v_iconst X 78 dX12_worked_77 ik_0 rfl ?_
      exact v_sb [] (L_X12_worked_78 X Y _ _) rfl
    · refine v_iconst X 74 dX12_worked_73 ik_1 rfl ?_
      refine v_goto X 78 dX12_worked_74 rfl ?_
      exact v_sb [] (L_X12_worked_78 X Y _ _) rfl
  refine v_ite (fun e => ?_) (fun e3 => ?_)
  · refine v_tabIn X 82 dX12_worked_1 e rfl ?_
    refine v_iload_n X 83 1 dX12_worked_82 rfl rfl ?_
    refine v_iload_n X 84 2 dX12_worked_83 rfl rfl ?_
    refine v_iadd X 85 dX12_worked_84 rfl ?_
    exact v_iret X Y (Nat.le_refl _) (Nat.le_refl _) dX12_worked_85
  refine v_ite (fun e => ?_) (fun e4 => ?_)
  · refine v_tabIn X 86 dX12_worked_1 e rfl ?_
    refine v_iload_n X 87 1 dX12_worked_86 rfl rfl ?_
    refine v_iload_n X 88 2 dX12_worked_87 rfl rfl ?_
    refine v_isub X 89 dX12_worked_88 rfl ?_
    exact v_iret X Y (Nat.le_refl _) (Nat.le_refl _) dX12_worked_89
  refine v_ite (fun e => ?_) (fun e5 => ?_)
  · refine v_tabIn X 90 dX12_worked_1 e rfl ?_
    refine v_iload_n X 91 1 dX12_worked_90 rfl rfl ?_
    refine v_iload_n X 92 2 dX12_worked_91 rfl rfl ?_
    refine v_imul X 93 dX12_worked_92 rfl ?_
    exact v_iret X Y (Nat.le_refl _) (Nat.le_refl _) dX12_worked_93
  refine v_tabOut X 94 dX12_worked_1 [0, 1, 2, 3, 4, 5] ⟨e0, e1, e2, e3, e4, e5, trivial⟩ rfl rfl ?_
  refine v_iload_n X 95 2 dX12_worked_94 rfl rfl ?_
  refine v_ifne X 98 102 dX12_worked_95 rfl rfl ?_ ?_
  · refine v_iload_n X 103 1 dX12_worked_102 rfl rfl ?_
    refine v_iload_n X 104 2 dX12_worked_103 rfl rfl ?_
    refine v_idiv X 105 dX12_worked_104 rfl (fun v1 => ?_)
    exact v_iret X Y (Nat.le_refl _) (Nat.le_refl _) dX12_worked_105
  · refine v_iconst X 99 dX12_worked_98 ik_0 rfl ?_
    refine v_goto X 105 dX12_worked_99 rfl ?_
    exact v_iret X Y (Nat.le_refl _) (Nat.le_refl _) dX12_worked_105
theorem c_X12_worked (l : Launch) (x0 : Int32) (x1 : Int32) (x2 : Int32) (M : MM) (r : Int32) (M1 : MM) (h : f_X12_worked x0 x1 x2 M = some (r, M1)) : CtAt l yX12_worked cX12_worked 3 (some .int) (RM 2 0 0) false [.int x0, .int x1, .int x2] M (some (.int r)) M1 :=
  ct_of (tr := trI) (by decide) (Nat.le_of_ble_eq_true rfl) [(0, .int x0), (1, .int x1), (2, .int x2)] rfl h (fun G X Y hn hl => L_X12_worked_0 X Y x0 x1 x2 M)

def f_X12_who_0 (x0 : Nat) (x1 : Int32) (M : MM) : Option (Int32 × MM) :=
    b1 (ldI x0 ((3 : Int32) * x1) M) fun v1 =>
    some (v1, M)

def f_X12_who (x0 : Nat) (x1 : Int32) (M : MM) : Option (Int32 × MM) := f_X12_who_0 x0 x1 M
set_option maxRecDepth 4000 in
theorem L_X12_who_0 {G : Gx} (X : Cb G cX12_who 2 RX12 (RM 1 0 0) false) (Y : Cr G (some .int) 0 0) (x0 : Nat) (x1 : Int32) (M : MM) : V G trI 2 0 0 0 [(0, .ref x0), (1, .int x1)] [] M (f_X12_who_0 x0 x1 M) := by
  unfold f_X12_who_0
  refine v_aload_n X 1 0 dX12_who_0 rfl rfl ?_
  refine v_iconst X 2 dX12_who_1 ik_3 rfl ?_
  refine v_iload_n X 3 1 dX12_who_2 rfl rfl ?_
  refine v_imul X 4 dX12_who_3 rfl ?_
  refine v_iald X 5 dX12_who_4 rfl (fun v1 => ?_)
  exact v_iret X Y (Nat.le_refl _) (Nat.le_refl _) dX12_who_5
theorem c_X12_who (l : Launch) (x0 : Nat) (x1 : Int32) (M : MM) (r : Int32) (M1 : MM) (h : f_X12_who x0 x1 M = some (r, M1)) : CtAt l yX12_who cX12_who 2 (some .int) (RM 1 0 0) false [.ref x0, .int x1] M (some (.int r)) M1 :=
  ct_of (tr := trI) (by decide) (Nat.le_of_ble_eq_true rfl) [(0, .ref x0), (1, .int x1)] rfl h (fun G X Y hn hl => L_X12_who_0 X Y x0 x1 M)

def f_X12_what_0 (x0 : Nat) (x1 : Int32) (M : MM) : Option (Int32 × MM) :=
    b1 (ldI x0 (((3 : Int32) * x1) + (1 : Int32)) M) fun v1 =>
    some (v1, M)

def f_X12_what (x0 : Nat) (x1 : Int32) (M : MM) : Option (Int32 × MM) := f_X12_what_0 x0 x1 M
set_option maxRecDepth 4000 in
theorem L_X12_what_0 {G : Gx} (X : Cb G cX12_what 2 RX12 (RM 1 0 0) false) (Y : Cr G (some .int) 0 0) (x0 : Nat) (x1 : Int32) (M : MM) : V G trI 2 0 0 0 [(0, .ref x0), (1, .int x1)] [] M (f_X12_what_0 x0 x1 M) := by
  unfold f_X12_what_0
  refine v_aload_n X 1 0 dX12_what_0 rfl rfl ?_
  refine v_iconst X 2 dX12_what_1 ik_3 rfl ?_
  refine v_iload_n X 3 1 dX12_what_2 rfl rfl ?_
  refine v_imul X 4 dX12_what_3 rfl ?_
  refine v_iconst X 5 dX12_what_4 ik_1 rfl ?_
  refine v_iadd X 6 dX12_what_5 rfl ?_
  refine v_iald X 7 dX12_what_6 rfl (fun v1 => ?_)
  exact v_iret X Y (Nat.le_refl _) (Nat.le_refl _) dX12_what_7
theorem c_X12_what (l : Launch) (x0 : Nat) (x1 : Int32) (M : MM) (r : Int32) (M1 : MM) (h : f_X12_what x0 x1 M = some (r, M1)) : CtAt l yX12_what cX12_what 2 (some .int) (RM 1 0 0) false [.ref x0, .int x1] M (some (.int r)) M1 :=
  ct_of (tr := trI) (by decide) (Nat.le_of_ble_eq_true rfl) [(0, .ref x0), (1, .int x1)] rfl h (fun G X Y hn hl => L_X12_what_0 X Y x0 x1 M)

def f_X12_start_0 (x0 : Nat) (x1 : Int32) (M : MM) : Option (Int32 × MM) :=
    b1 (ldI x0 (((3 : Int32) * x1) + (2 : Int32)) M) fun v1 =>
    some (v1, M)

def f_X12_start (x0 : Nat) (x1 : Int32) (M : MM) : Option (Int32 × MM) := f_X12_start_0 x0 x1 M
set_option maxRecDepth 4000 in
theorem L_X12_start_0 {G : Gx} (X : Cb G cX12_start 2 RX12 (RM 1 0 0) false) (Y : Cr G (some .int) 0 0) (x0 : Nat) (x1 : Int32) (M : MM) : V G trI 2 0 0 0 [(0, .ref x0), (1, .int x1)] [] M (f_X12_start_0 x0 x1 M) := by
  unfold f_X12_start_0
  refine v_aload_n X 1 0 dX12_start_0 rfl rfl ?_
  refine v_iconst X 2 dX12_start_1 ik_3 rfl ?_
  refine v_iload_n X 3 1 dX12_start_2 rfl rfl ?_
  refine v_imul X 4 dX12_start_3 rfl ?_
  refine v_iconst X 5 dX12_start_4 ik_2 rfl ?_
  refine v_iadd X 6 dX12_start_5 rfl ?_
  refine v_iald X 7 dX12_start_6 rfl (fun v1 => ?_)
  exact v_iret X Y (Nat.le_refl _) (Nat.le_refl _) dX12_start_7
theorem c_X12_start (l : Launch) (x0 : Nat) (x1 : Int32) (M : MM) (r : Int32) (M1 : MM) (h : f_X12_start x0 x1 M = some (r, M1)) : CtAt l yX12_start cX12_start 2 (some .int) (RM 1 0 0) false [.ref x0, .int x1] M (some (.int r)) M1 :=
  ct_of (tr := trI) (by decide) (Nat.le_of_ble_eq_true rfl) [(0, .ref x0), (1, .int x1)] rfl h (fun G X Y hn hl => L_X12_start_0 X Y x0 x1 M)

def f_X12_puts_2 : Nat → Nat → Nat → Int32 → MM → Option (MM)
  | 0, _, _, _, _ => none
  | n + 1, x0, x1, x2, M =>
    if (46 : Int32) ≤ x2 then
      some M
    else
      b1 (ldI x0 x2 M) fun v1 =>
      b1 (stI x1 x2 v1 M) fun M2 =>
      bn (x2 + 1 : Int32) fun y3 =>
      f_X12_puts_2 n x0 x1 y3 M2

def f_X12_puts_0 (x0 : Nat) (x1 : Nat) (M : MM) : Option (MM) :=
    f_X12_puts_2 1024 x0 x1 (0 : Int32) M

def f_X12_puts (x0 : Nat) (x1 : Nat) (M : MM) : Option (MM) := f_X12_puts_0 x0 x1 M
set_option maxRecDepth 4000 in
theorem L_X12_puts_2 {G : Gx} (X : Cb G cX12_puts 3 RX12 (RM 1 0 0) false) (Y : Cr G none 0 0) : ∀ (n : Nat) (x0 : Nat) (x1 : Nat) (x2 : Int32) (M : MM), V G trV 3 0 0 2 [(0, .ref x0), (1, .ref x1), (2, .int x2)] [] M (f_X12_puts_2 n x0 x1 x2 M) := by
  intro n
  induction n with
  | zero => intro x0 x1 x2 M; rw [f_X12_puts_2]; exact v_none
  | succ n ih =>
    intro x0 x1 x2 M
    rw [f_X12_puts_2]
    refine v_iload_n X 3 2 dX12_puts_2 rfl rfl ?_
    refine v_bipush X 5 dX12_puts_3 bk_46 rfl ?_
    refine v_icge X 8 20 dX12_puts_5 rfl rfl ?_ ?_
    · exact v_vret X Y (Nat.le_refl _) (Nat.le_refl _) dX12_puts_20
    · refine v_aload_n X 9 1 dX12_puts_8 rfl rfl ?_
      refine v_iload_n X 10 2 dX12_puts_9 rfl rfl ?_
      refine v_aload_n X 11 0 dX12_puts_10 rfl rfl ?_
      refine v_iload_n X 12 2 dX12_puts_11 rfl rfl ?_
      refine v_iald X 13 dX12_puts_12 rfl (fun v1 => ?_)
      refine v_iast X 14 dX12_puts_13 rfl (fun M2 => ?_)
      refine v_iinc X 17 2 (fun z => [(0, .ref x0), (1, .ref x1), (2, .int z)]) dX12_puts_14 rfl ik_1 (by decide) (fun _ => rfl) rfl (fun y3 => ?_)
      refine v_goto X 2 dX12_puts_17 rfl ?_
      exact ih _ _ _ _
set_option maxRecDepth 4000 in
theorem L_X12_puts_0 {G : Gx} (X : Cb G cX12_puts 3 RX12 (RM 1 0 0) false) (Y : Cr G none 0 0) (x0 : Nat) (x1 : Nat) (M : MM) : V G trV 3 0 0 0 [(0, .ref x0), (1, .ref x1)] [] M (f_X12_puts_0 x0 x1 M) := by
  unfold f_X12_puts_0
  refine v_iconst X 1 dX12_puts_0 ik_0 rfl ?_
  refine v_istore_n (lv' := [(0, .ref x0), (1, .ref x1), (2, .int (0 : Int32))]) X 2 dX12_puts_1 (by decide) rfl rfl ?_
  exact L_X12_puts_2 X Y 1024 _ _ _ _
theorem c_X12_puts (l : Launch) (x0 : Nat) (x1 : Nat) (M : MM) (M1 : MM) (h : f_X12_puts x0 x1 M = some M1) : CtAt l yX12_puts cX12_puts 3 none (RM 1 0 0) false [.ref x0, .ref x1] M none M1 :=
  ct_of (tr := trV) (by decide) (Nat.le_of_ble_eq_true rfl) [(0, .ref x0), (1, .ref x1)] rfl h (fun G X Y hn hl => L_X12_puts_0 X Y x0 x1 M)

def f_X12_comes_0 (x0 : Nat) (x1 : Int32) (x2 : Int32) (x3 : Int32) (M : MM) : Option (MM) :=
    b1 (ldI x0 (45 : Int32) M) fun v1 =>
    bn ((3 : Int32) * v1 : Int32) fun y2 =>
    b1 (stI x0 y2 x1 M) fun M3 =>
    b1 (stI x0 (y2 + (1 : Int32)) x2 M3) fun M4 =>
    b1 (stI x0 (y2 + (2 : Int32)) x3 M4) fun M5 =>
    b1 (ldI x0 (45 : Int32) M5) fun v6 =>
    b1 (stI x0 (45 : Int32) (v6 + (1 : Int32)) M5) fun M7 =>
    some M7

def f_X12_comes (x0 : Nat) (x1 : Int32) (x2 : Int32) (x3 : Int32) (M : MM) : Option (MM) := f_X12_comes_0 x0 x1 x2 x3 M
set_option maxRecDepth 4000 in
theorem L_X12_comes_0 {G : Gx} (X : Cb G cX12_comes 5 RX12 (RM 1 0 0) false) (Y : Cr G none 0 0) (x0 : Nat) (x1 : Int32) (x2 : Int32) (x3 : Int32) (M : MM) : V G trV 5 0 0 0 [(0, .ref x0), (1, .int x1), (2, .int x2), (3, .int x3)] [] M (f_X12_comes_0 x0 x1 x2 x3 M) := by
  unfold f_X12_comes_0
  refine v_iconst X 1 dX12_comes_0 ik_3 rfl ?_
  refine v_aload_n X 2 0 dX12_comes_1 rfl rfl ?_
  refine v_bipush X 4 dX12_comes_2 bk_45 rfl ?_
  refine v_iald X 5 dX12_comes_4 rfl (fun v1 => ?_)
  refine v_imul X 6 dX12_comes_5 rfl ?_
  refine v_bnI (fun y2 => ?_)
  refine v_istore (lv' := [(0, .ref x0), (1, .int x1), (2, .int x2), (3, .int x3), (4, .int y2)]) X 8 dX12_comes_6 (by decide) rfl rfl ?_
  refine v_aload_n X 9 0 dX12_comes_8 rfl rfl ?_
  refine v_iload X 11 4 dX12_comes_9 rfl rfl ?_
  refine v_iload_n X 12 1 dX12_comes_11 rfl rfl ?_
  refine v_iast X 13 dX12_comes_12 rfl (fun M3 => ?_)
  refine v_aload_n X 14 0 dX12_comes_13 rfl rfl ?_
  refine v_iload X 16 4 dX12_comes_14 rfl rfl ?_
  refine v_iconst X 17 dX12_comes_16 ik_1 rfl ?_
  refine v_iadd X 18 dX12_comes_17 rfl ?_
  refine v_iload_n X 19 2 dX12_comes_18 rfl rfl ?_
  refine v_iast X 20 dX12_comes_19 rfl (fun M4 => ?_)
  refine v_aload_n X 21 0 dX12_comes_20 rfl rfl ?_
  refine v_iload X 23 4 dX12_comes_21 rfl rfl ?_
  refine v_iconst X 24 dX12_comes_23 ik_2 rfl ?_
  refine v_iadd X 25 dX12_comes_24 rfl ?_
  refine v_iload_n X 26 3 dX12_comes_25 rfl rfl ?_
  refine v_iast X 27 dX12_comes_26 rfl (fun M5 => ?_)
  refine v_aload_n X 28 0 dX12_comes_27 rfl rfl ?_
  refine v_bipush X 30 dX12_comes_28 bk_45 rfl ?_
  refine v_dup2 X 31 dX12_comes_30 rfl rfl rfl ?_
  refine v_iald X 32 dX12_comes_31 rfl (fun v6 => ?_)
  refine v_iconst X 33 dX12_comes_32 ik_1 rfl ?_
  refine v_iadd X 34 dX12_comes_33 rfl ?_
  refine v_iast X 35 dX12_comes_34 rfl (fun M7 => ?_)
  exact v_vret X Y (Nat.le_refl _) (Nat.le_refl _) dX12_comes_35
theorem c_X12_comes (l : Launch) (x0 : Nat) (x1 : Int32) (x2 : Int32) (x3 : Int32) (M : MM) (M1 : MM) (h : f_X12_comes x0 x1 x2 x3 M = some M1) : CtAt l yX12_comes cX12_comes 5 none (RM 1 0 0) false [.ref x0, .int x1, .int x2, .int x3] M none M1 :=
  ct_of (tr := trV) (by decide) (Nat.le_of_ble_eq_true rfl) [(0, .ref x0), (1, .int x1), (2, .int x2), (3, .int x3)] rfl h (fun G X Y hn hl => L_X12_comes_0 X Y x0 x1 x2 x3 M)

def f_X12_leaves_4 : Nat → Nat → Int32 → MM → Option (MM)
  | 0, _, _, _ => none
  | n + 1, x0, x2, M =>
    b1 (ldI x0 (45 : Int32) M) fun v1 =>
    if ((3 : Int32) * (v1 - (1 : Int32))) ≤ x2 then
      b1 (ldI x0 (45 : Int32) M) fun v2 =>
      b1 (stI x0 (45 : Int32) (v2 - (1 : Int32)) M) fun M3 =>
      some M3
    else
      b1 (ldI x0 (x2 + (3 : Int32)) M) fun v4 =>
      b1 (stI x0 x2 v4 M) fun M5 =>
      bn (x2 + 1 : Int32) fun y6 =>
      f_X12_leaves_4 n x0 y6 M5

def f_X12_leaves_0 (x0 : Nat) (x1 : Int32) (M : MM) : Option (MM) :=
    bn ((3 : Int32) * x1 : Int32) fun y1 =>
    f_X12_leaves_4 1024 x0 y1 M

def f_X12_leaves (x0 : Nat) (x1 : Int32) (M : MM) : Option (MM) := f_X12_leaves_0 x0 x1 M
set_option maxRecDepth 4000 in
theorem L_X12_leaves_4 {G : Gx} (X : Cb G cX12_leaves 3 RX12 (RM 1 0 0) false) (Y : Cr G none 0 0) : ∀ (n : Nat) (x0 : Nat) (x2 : Int32) (M : MM), V G trV 3 0 0 4 [(0, .ref x0), (2, .int x2)] [] M (f_X12_leaves_4 n x0 x2 M) := by
  intro n
  induction n with
  | zero => intro x0 x2 M; rw [f_X12_leaves_4]; exact v_none
  | succ n ih =>
    intro x0 x2 M
    rw [f_X12_leaves_4]
    refine v_iload_n X 5 1 dX12_leaves_4 rfl rfl ?_
    refine v_iconst X 6 dX12_leaves_5 ik_3 rfl ?_
    refine v_aload_n X 7 0 dX12_leaves_6 rfl rfl ?_
    refine v_bipush X 9 dX12_leaves_7 bk_45 rfl ?_
    refine v_iald X 10 dX12_leaves_9 rfl (fun v1 => ?_)
    refine v_iconst X 11 dX12_leaves_10 ik_1 rfl ?_
    refine v_isub X 12 dX12_leaves_11 rfl ?_
    refine v_imul X 13 dX12_leaves_12 rfl ?_
    refine v_icge X 16 30 dX12_leaves_13 rfl rfl ?_ ?_
    · refine v_aload_n X 31 0 dX12_leaves_30 rfl rfl ?_
      refine v_bipush X 33 dX12_leaves_31 bk_45 rfl ?_
      refine v_dup2 X 34 dX12_leaves_33 rfl rfl rfl ?_
      refine v_iald X 35 dX12_leaves_34 rfl (fun v2 => ?_)
      refine v_iconst X 36 dX12_leaves_35 ik_1 rfl ?_
      refine v_isub X 37 dX12_leaves_36 rfl ?_
      refine v_iast X 38 dX12_leaves_37 rfl (fun M3 => ?_)
      exact v_vret X Y (Nat.le_refl _) (Nat.le_refl _) dX12_leaves_38
    · refine v_aload_n X 17 0 dX12_leaves_16 rfl rfl ?_
      refine v_iload_n X 18 1 dX12_leaves_17 rfl rfl ?_
      refine v_aload_n X 19 0 dX12_leaves_18 rfl rfl ?_
      refine v_iload_n X 20 1 dX12_leaves_19 rfl rfl ?_
      refine v_iconst X 21 dX12_leaves_20 ik_3 rfl ?_
      refine v_iadd X 22 dX12_leaves_21 rfl ?_
      refine v_iald X 23 dX12_leaves_22 rfl (fun v4 => ?_)
      refine v_iast X 24 dX12_leaves_23 rfl (fun M5 => ?_)
      refine v_iinc X 27 1 (fun z => [(0, .ref x0), (2, .int z)]) dX12_leaves_24 rfl ik_1 (by decide) (fun _ => rfl) rfl (fun y6 => ?_)
      refine v_goto X 4 dX12_leaves_27 rfl ?_
      exact ih _ _ _
set_option maxRecDepth 4000 in
theorem L_X12_leaves_0 {G : Gx} (X : Cb G cX12_leaves 3 RX12 (RM 1 0 0) false) (Y : Cr G none 0 0) (x0 : Nat) (x1 : Int32) (M : MM) : V G trV 3 0 0 0 [(0, .ref x0), (1, .int x1)] [] M (f_X12_leaves_0 x0 x1 M) := by
  unfold f_X12_leaves_0
  refine v_iconst X 1 dX12_leaves_0 ik_3 rfl ?_
  refine v_iload_n X 2 1 dX12_leaves_1 rfl rfl ?_
  refine v_imul X 3 dX12_leaves_2 rfl ?_
  refine v_bnI (fun y1 => ?_)
  refine v_istore_n (lv' := [(0, .ref x0), (1, .int x1), (2, .int y1)]) X 4 dX12_leaves_3 (by decide) rfl rfl ?_
  exact v_sb [0, 2] (L_X12_leaves_4 X Y 1024 _ _ _) rfl
theorem c_X12_leaves (l : Launch) (x0 : Nat) (x1 : Int32) (M : MM) (M1 : MM) (h : f_X12_leaves x0 x1 M = some M1) : CtAt l yX12_leaves cX12_leaves 3 none (RM 1 0 0) false [.ref x0, .int x1] M none M1 :=
  ct_of (tr := trV) (by decide) (Nat.le_of_ble_eq_true rfl) [(0, .ref x0), (1, .int x1)] rfl h (fun G X Y hn hl => L_X12_leaves_0 X Y x0 x1 M)

def f_X12_awayLong_0 (x0 : Nat) (x1 : Int32) (M : MM) : Option (Int32 × MM) :=
    b1 (gR 12 9 x0 M) fun v1 =>
    b1 (ldI v1 x1 M) fun v2 =>
    b1 (gR 12 10 x0 M) fun v3 =>
    b1 (ldI v3 x1 M) fun v4 =>
    some (((2 : Int32) * v2) + v4, M)

def f_X12_awayLong (x0 : Nat) (x1 : Int32) (M : MM) : Option (Int32 × MM) := if isO 12 x0 M = true then f_X12_awayLong_0 x0 x1 M else none
set_option maxRecDepth 4000 in
theorem L_X12_awayLong_0 {G : Gx} (X : Cb G cX12_awayLong 2 RX12 (RM 1 0 0) false) (Y : Cr G (some .int) 0 0) (x0 : Nat) (x1 : Int32) (M : MM) : V G trI 2 0 0 0 [(0, .ref x0), (1, .int x1)] [] M (f_X12_awayLong_0 x0 x1 M) := by
  unfold f_X12_awayLong_0
  refine v_iconst X 1 dX12_awayLong_0 ik_2 rfl ?_
  refine v_aload_n X 2 0 dX12_awayLong_1 rfl rfl ?_
  refine v_getR X 5 fl_X12_25.r dX12_awayLong_2 rfl (fun v1 => ?_)
  refine v_iload_n X 6 1 dX12_awayLong_5 rfl rfl ?_
  refine v_iald X 7 dX12_awayLong_6 rfl (fun v2 => ?_)
  refine v_imul X 8 dX12_awayLong_7 rfl ?_
  refine v_aload_n X 9 0 dX12_awayLong_8 rfl rfl ?_
  refine v_getR X 12 fl_X12_28.r dX12_awayLong_9 rfl (fun v3 => ?_)
  refine v_iload_n X 13 1 dX12_awayLong_12 rfl rfl ?_
  refine v_iald X 14 dX12_awayLong_13 rfl (fun v4 => ?_)
  refine v_iadd X 15 dX12_awayLong_14 rfl ?_
  exact v_iret X Y (Nat.le_refl _) (Nat.le_refl _) dX12_awayLong_15
theorem c_X12_awayLong (l : Launch) (x0 : Nat) (x1 : Int32) (M : MM) (r : Int32) (M1 : MM) (h : f_X12_awayLong x0 x1 M = some (r, M1)) : KV l yX12_awayLong cX12_awayLong 2 (some .int) (RM 1 0 0) false 12 x0 [.int x1] M (some (.int r)) M1 := by
  obtain ⟨hO, h2⟩ := iteO_some h
  exact ⟨hO, ct_of (tr := trI) (by decide) (Nat.le_of_ble_eq_true rfl) [(0, .ref x0), (1, .int x1)] rfl h2 (fun G X Y hn hl => L_X12_awayLong_0 X Y x0 x1 M)⟩

def f_X12_back_0 (x0 : Nat) (x1 : Nat) (x2 : Int32) (M : MM) : Option (Int32 × MM) :=
    b2 (f_X12_start x1 x2 M) fun r2 M1 =>
    b2 (f_X12_what x1 x2 M1) fun r4 M3 =>
    b2 (f_X12_awayLong x0 r4 M3) fun r6 M5 =>
    some (r2 + r6, M5)

def f_X12_back (x0 : Nat) (x1 : Nat) (x2 : Int32) (M : MM) : Option (Int32 × MM) := if isO 12 x0 M = true then f_X12_back_0 x0 x1 x2 M else none
set_option maxRecDepth 4000 in
theorem L_X12_back_0 {G : Gx} (X : Cb G cX12_back 3 RX12 (RM 2 0 0) false) (Y : Cr G (some .int) 0 0) (x0 : Nat) (x1 : Nat) (x2 : Int32) (M : MM) : V G trI 3 0 0 0 [(0, .ref x0), (1, .ref x1), (2, .int x2)] [] M (f_X12_back_0 x0 x1 x2 M) := by
  unfold f_X12_back_0
  refine v_aload_n X 1 1 dX12_back_0 rfl rfl ?_
  refine v_iload_n X 2 2 dX12_back_1 rfl rfl ?_
  refine v_sI X 5 cs_X12_start ml_X12_274 (n1 := 1) rfl [.ref x1, .int x2] rfl rfl rfl dX12_back_2 rfl (fun r M1 h => c_X12_start _ _ _ _ _ _ h) (fun r2 M1 => ?_)
  refine v_aload_n X 6 0 dX12_back_5 rfl rfl ?_
  refine v_aload_n X 7 1 dX12_back_6 rfl rfl ?_
  refine v_iload_n X 8 2 dX12_back_7 rfl rfl ?_
  refine v_sI X 11 cs_X12_what ml_X12_278 (n1 := 1) rfl [.ref x1, .int x2] rfl rfl rfl dX12_back_8 rfl (fun r M1 h => c_X12_what _ _ _ _ _ _ h) (fun r4 M3 => ?_)
  refine v_vI X 14 cv_X12_awayLong ml_X12_281 (n1 := 1) rfl [.int r4] rfl rfl rfl dX12_back_11 rfl (fun r M1 h => c_X12_awayLong _ _ _ _ _ _ h) (fun r6 M5 => ?_)
  refine v_iadd X 15 dX12_back_14 rfl ?_
  exact v_iret X Y (Nat.le_refl _) (Nat.le_refl _) dX12_back_15
theorem c_X12_back (l : Launch) (x0 : Nat) (x1 : Nat) (x2 : Int32) (M : MM) (r : Int32) (M1 : MM) (h : f_X12_back x0 x1 x2 M = some (r, M1)) : KV l yX12_back cX12_back 3 (some .int) (RM 2 0 0) false 12 x0 [.ref x1, .int x2] M (some (.int r)) M1 := by
  obtain ⟨hO, h2⟩ := iteO_some h
  exact ⟨hO, ct_of (tr := trI) (by decide) (Nat.le_of_ble_eq_true rfl) [(0, .ref x0), (1, .ref x1), (2, .int x2)] rfl h2 (fun G X Y hn hl => L_X12_back_0 X Y x0 x1 x2 M)⟩

def f_X12_isAway_0 (x0 : Nat) (x1 : Nat) (x2 : Int32) (x3 : Int32) (M : MM) : Option (Int32 × MM) :=
    b2 (f_X12_start x1 x2 M) fun r2 M1 =>
    b2 (f_X12_back x0 x1 x2 M1) fun r4 M3 =>
    b2 (f_X12_in (Int32.toInt64 x3) (Int32.toInt64 r2) (Int32.toInt64 (r4 - (1 : Int32))) M3) fun r6 M5 =>
    rz r6 M5

def f_X12_isAway (x0 : Nat) (x1 : Nat) (x2 : Int32) (x3 : Int32) (M : MM) : Option (Int32 × MM) := if isO 12 x0 M = true then f_X12_isAway_0 x0 x1 x2 x3 M else none
set_option maxRecDepth 4000 in
theorem L_X12_isAway_0 {G : Gx} (X : Cb G cX12_isAway 4 RX12 (RM 3 0 0) false) (Y : Cr G (some .boolean) 0 0) (x0 : Nat) (x1 : Nat) (x2 : Int32) (x3 : Int32) (M : MM) : V G trI 4 0 0 0 [(0, .ref x0), (1, .ref x1), (2, .int x2), (3, .int x3)] [] M (f_X12_isAway_0 x0 x1 x2 x3 M) := by
  unfold f_X12_isAway_0
  refine v_iload_n X 1 3 dX12_isAway_0 rfl rfl ?_
  refine v_i2l X 2 dX12_isAway_1 rfl ?_
  refine v_aload_n X 3 1 dX12_isAway_2 rfl rfl ?_
  refine v_iload_n X 4 2 dX12_isAway_3 rfl rfl ?_
  refine v_sI X 7 cs_X12_start ml_X12_274 (n1 := 1) rfl [.ref x1, .int x2] rfl rfl rfl dX12_isAway_4 rfl (fun r M1 h => c_X12_start _ _ _ _ _ _ h) (fun r2 M1 => ?_)
  refine v_i2l X 8 dX12_isAway_7 rfl ?_
  refine v_aload_n X 9 0 dX12_isAway_8 rfl rfl ?_
  refine v_aload_n X 10 1 dX12_isAway_9 rfl rfl ?_
  refine v_iload_n X 11 2 dX12_isAway_10 rfl rfl ?_
  refine v_vI X 14 cv_X12_back ml_X12_284 (n1 := 2) rfl [.ref x1, .int x2] rfl rfl rfl dX12_isAway_11 rfl (fun r M1 h => c_X12_back _ _ _ _ _ _ _ h) (fun r4 M3 => ?_)
  refine v_iconst X 15 dX12_isAway_14 ik_1 rfl ?_
  refine v_isub X 16 dX12_isAway_15 rfl ?_
  refine v_i2l X 17 dX12_isAway_16 rfl ?_
  refine v_sI X 20 cs_X12_in ml_X12_146 (n1 := 1) rfl [.long (Int32.toInt64 x3), .long (Int32.toInt64 r2), .long (Int32.toInt64 (r4 - (1 : Int32)))] rfl rfl rfl dX12_isAway_17 rfl (fun r M1 h => c_X12_in _ _ _ _ _ _ _ h) (fun r6 M5 => ?_)
  exact v_zret X Y (Nat.le_refl _) (Nat.le_refl _) dX12_isAway_20
theorem c_X12_isAway (l : Launch) (x0 : Nat) (x1 : Nat) (x2 : Int32) (x3 : Int32) (M : MM) (r : Int32) (M1 : MM) (h : f_X12_isAway x0 x1 x2 x3 M = some (r, M1)) : KV l yX12_isAway cX12_isAway 4 (some .boolean) (RM 3 0 0) false 12 x0 [.ref x1, .int x2, .int x3] M (some (.int r)) M1 := by
  obtain ⟨hO, h2⟩ := iteO_some h
  exact ⟨hO, ct_of (tr := trI) (by decide) (Nat.le_of_ble_eq_true rfl) [(0, .ref x0), (1, .ref x1), (2, .int x2), (3, .int x3)] rfl h2 (fun G X Y hn hl => L_X12_isAway_0 X Y x0 x1 x2 x3 M)⟩

def f_X12_isThere_0 (x0 : Nat) (x1 : Nat) (x2 : Int32) (x3 : Int32) (M : MM) : Option (Int32 × MM) :=
    b2 (f_X12_start x1 x2 M) fun r2 M1 =>
    b1 (gR 12 9 x0 M1) fun v3 =>
    b2 (f_X12_what x1 x2 M1) fun r5 M4 =>
    b1 (ldI v3 r5 M4) fun v6 =>
    bn (r2 + v6 : Int32) fun y7 =>
    b1 (gR 12 10 x0 M4) fun v8 =>
    b2 (f_X12_what x1 x2 M4) fun r10 M9 =>
    b1 (ldI v8 r10 M9) fun v11 =>
    b2 (f_X12_in (Int32.toInt64 x3) (Int32.toInt64 y7) (Int32.toInt64 ((y7 + v11) - (1 : Int32))) M9) fun r13 M12 =>
    rz r13 M12

def f_X12_isThere (x0 : Nat) (x1 : Nat) (x2 : Int32) (x3 : Int32) (M : MM) : Option (Int32 × MM) := if isO 12 x0 M = true then f_X12_isThere_0 x0 x1 x2 x3 M else none
set_option maxRecDepth 4000 in
theorem L_X12_isThere_0 {G : Gx} (X : Cb G cX12_isThere 5 RX12 (RM 2 0 0) false) (Y : Cr G (some .boolean) 0 0) (x0 : Nat) (x1 : Nat) (x2 : Int32) (x3 : Int32) (M : MM) : V G trI 5 0 0 0 [(0, .ref x0), (1, .ref x1), (2, .int x2), (3, .int x3)] [] M (f_X12_isThere_0 x0 x1 x2 x3 M) := by
  unfold f_X12_isThere_0
  refine v_aload_n X 1 1 dX12_isThere_0 rfl rfl ?_
  refine v_iload_n X 2 2 dX12_isThere_1 rfl rfl ?_
  refine v_sI X 5 cs_X12_start ml_X12_274 (n1 := 1) rfl [.ref x1, .int x2] rfl rfl rfl dX12_isThere_2 rfl (fun r M1 h => c_X12_start _ _ _ _ _ _ h) (fun r2 M1 => ?_)
  refine v_aload_n X 6 0 dX12_isThere_5 rfl rfl ?_
  refine v_getR X 9 fl_X12_25.r dX12_isThere_6 rfl (fun v3 => ?_)
  refine v_aload_n X 10 1 dX12_isThere_9 rfl rfl ?_
  refine v_iload_n X 11 2 dX12_isThere_10 rfl rfl ?_
  refine v_sI X 14 cs_X12_what ml_X12_278 (n1 := 1) rfl [.ref x1, .int x2] rfl rfl rfl dX12_isThere_11 rfl (fun r M1 h => c_X12_what _ _ _ _ _ _ h) (fun r5 M4 => ?_)
  refine v_iald X 15 dX12_isThere_14 rfl (fun v6 => ?_)
  refine v_iadd X 16 dX12_isThere_15 rfl ?_
  refine v_bnI (fun y7 => ?_)
  refine v_istore (lv' := [(0, .ref x0), (1, .ref x1), (2, .int x2), (3, .int x3), (4, .int y7)]) X 18 dX12_isThere_16 (by decide) rfl rfl ?_
  refine v_iload_n X 19 3 dX12_isThere_18 rfl rfl ?_
  refine v_i2l X 20 dX12_isThere_19 rfl ?_
  refine v_iload X 22 4 dX12_isThere_20 rfl rfl ?_
  refine v_i2l X 23 dX12_isThere_22 rfl ?_
  refine v_iload X 25 4 dX12_isThere_23 rfl rfl ?_
  refine v_aload_n X 26 0 dX12_isThere_25 rfl rfl ?_
  refine v_getR X 29 fl_X12_28.r dX12_isThere_26 rfl (fun v8 => ?_)
  refine v_aload_n X 30 1 dX12_isThere_29 rfl rfl ?_
  refine v_iload_n X 31 2 dX12_isThere_30 rfl rfl ?_
  refine v_sI X 34 cs_X12_what ml_X12_278 (n1 := 1) rfl [.ref x1, .int x2] rfl rfl rfl dX12_isThere_31 rfl (fun r M1 h => c_X12_what _ _ _ _ _ _ h) (fun r10 M9 => ?_)
  refine v_iald X 35 dX12_isThere_34 rfl (fun v11 => ?_)
  refine v_iadd X 36 dX12_isThere_35 rfl ?_
  refine v_iconst X 37 dX12_isThere_36 ik_1 rfl ?_
  refine v_isub X 38 dX12_isThere_37 rfl ?_
  refine v_i2l X 39 dX12_isThere_38 rfl ?_
  refine v_sI X 42 cs_X12_in ml_X12_146 (n1 := 1) rfl [.long (Int32.toInt64 x3), .long (Int32.toInt64 y7), .long (Int32.toInt64 ((y7 + v11) - (1 : Int32)))] rfl rfl rfl dX12_isThere_39 rfl (fun r M1 h => c_X12_in _ _ _ _ _ _ _ h) (fun r13 M12 => ?_)
  exact v_zret X Y (Nat.le_refl _) (Nat.le_refl _) dX12_isThere_42
theorem c_X12_isThere (l : Launch) (x0 : Nat) (x1 : Nat) (x2 : Int32) (x3 : Int32) (M : MM) (r : Int32) (M1 : MM) (h : f_X12_isThere x0 x1 x2 x3 M = some (r, M1)) : KV l yX12_isThere cX12_isThere 5 (some .boolean) (RM 2 0 0) false 12 x0 [.ref x1, .int x2, .int x3] M (some (.int r)) M1 := by
  obtain ⟨hO, h2⟩ := iteO_some h
  exact ⟨hO, ct_of (tr := trI) (by decide) (Nat.le_of_ble_eq_true rfl) [(0, .ref x0), (1, .ref x1), (2, .int x2), (3, .int x3)] rfl h2 (fun G X Y hn hl => L_X12_isThere_0 X Y x0 x1 x2 x3 M)⟩

def f_X12_meet_0 (x0 : Nat) (x1 : Nat) (x2 : Int32) (x3 : Int32) (M : MM) : Option (Int32 × MM) :=
    b2 (f_X12_start x1 x2 M) fun r2 M1 =>
    b2 (f_X12_back x0 x1 x3 M1) fun r4 M3 =>
    if r4 ≤ r2 then
      rz (0 : Int32) M3
    else
      b2 (f_X12_start x1 x3 M3) fun r6 M5 =>
      b2 (f_X12_back x0 x1 x2 M5) fun r8 M7 =>
      if r8 ≤ r6 then
        rz (0 : Int32) M7
      else
        rz (1 : Int32) M7

def f_X12_meet (x0 : Nat) (x1 : Nat) (x2 : Int32) (x3 : Int32) (M : MM) : Option (Int32 × MM) := if isO 12 x0 M = true then f_X12_meet_0 x0 x1 x2 x3 M else none
set_option maxRecDepth 4000 in
theorem L_X12_meet_0 {G : Gx} (X : Cb G cX12_meet 4 RX12 (RM 3 0 0) false) (Y : Cr G (some .boolean) 0 0) (x0 : Nat) (x1 : Nat) (x2 : Int32) (x3 : Int32) (M : MM) : V G trI 4 0 0 0 [(0, .ref x0), (1, .ref x1), (2, .int x2), (3, .int x3)] [] M (f_X12_meet_0 x0 x1 x2 x3 M) := by
  unfold f_X12_meet_0
  refine v_aload_n X 1 1 dX12_meet_0 rfl rfl ?_
  refine v_iload_n X 2 2 dX12_meet_1 rfl rfl ?_
  refine v_sI X 5 cs_X12_start ml_X12_274 (n1 := 1) rfl [.ref x1, .int x2] rfl rfl rfl dX12_meet_2 rfl (fun r M1 h => c_X12_start _ _ _ _ _ _ h) (fun r2 M1 => ?_)
  refine v_aload_n X 6 0 dX12_meet_5 rfl rfl ?_
  refine v_aload_n X 7 1 dX12_meet_6 rfl rfl ?_
  refine v_iload_n X 8 3 dX12_meet_7 rfl rfl ?_
  refine v_vI X 11 cv_X12_back ml_X12_284 (n1 := 2) rfl [.ref x1, .int x3] rfl rfl rfl dX12_meet_8 rfl (fun r M1 h => c_X12_back _ _ _ _ _ _ _ h) (fun r4 M3 => ?_)
  refine v_icge X 14 32 dX12_meet_11 rfl rfl ?_ ?_
  · refine v_iconst X 33 dX12_meet_32 ik_0 rfl ?_
    exact v_zret X Y (Nat.le_refl _) (Nat.le_refl _) dX12_meet_33
  · refine v_aload_n X 15 1 dX12_meet_14 rfl rfl ?_
    refine v_iload_n X 16 3 dX12_meet_15 rfl rfl ?_
    refine v_sI X 19 cs_X12_start ml_X12_274 (n1 := 1) rfl [.ref x1, .int x3] rfl rfl rfl dX12_meet_16 rfl (fun r M1 h => c_X12_start _ _ _ _ _ _ h) (fun r6 M5 => ?_)
    refine v_aload_n X 20 0 dX12_meet_19 rfl rfl ?_
    refine v_aload_n X 21 1 dX12_meet_20 rfl rfl ?_
    refine v_iload_n X 22 2 dX12_meet_21 rfl rfl ?_
    refine v_vI X 25 cv_X12_back ml_X12_284 (n1 := 2) rfl [.ref x1, .int x2] rfl rfl rfl dX12_meet_22 rfl (fun r M1 h => c_X12_back _ _ _ _ _ _ _ h) (fun r8 M7 => ?_)
    refine v_icge X 28 32 dX12_meet_25 rfl rfl ?_ ?_
    · refine v_iconst X 33 dX12_meet_32 ik_0 rfl ?_
      exact v_zret X Y (Nat.le_refl _) (Nat.le_refl _) dX12_meet_33
    · refine v_iconst X 29 dX12_meet_28 ik_1 rfl ?_
      refine v_goto X 33 dX12_meet_29 rfl ?_
      exact v_zret X Y (Nat.le_refl _) (Nat.le_refl _) dX12_meet_33
theorem c_X12_meet (l : Launch) (x0 : Nat) (x1 : Nat) (x2 : Int32) (x3 : Int32) (M : MM) (r : Int32) (M1 : MM) (h : f_X12_meet x0 x1 x2 x3 M = some (r, M1)) : KV l yX12_meet cX12_meet 4 (some .boolean) (RM 3 0 0) false 12 x0 [.ref x1, .int x2, .int x3] M (some (.int r)) M1 := by
  obtain ⟨hO, h2⟩ := iteO_some h
  exact ⟨hO, ct_of (tr := trI) (by decide) (Nat.le_of_ble_eq_true rfl) [(0, .ref x0), (1, .ref x1), (2, .int x2), (3, .int x3)] rfl h2 (fun G X Y hn hl => L_X12_meet_0 X Y x0 x1 x2 x3 M)⟩

def f_X12_areOne_0 (x0 : Nat) (x1 : Int32) (x2 : Int32) (M : MM) : Option (Int32 × MM) :=
    b2 (f_X12_what x0 x1 M) fun r2 M1 =>
    b2 (f_X12_what x0 x2 M1) fun r4 M3 =>
    if r2 = r4 then
      b2 (f_X12_start x0 x1 M3) fun r6 M5 =>
      b2 (f_X12_start x0 x2 M5) fun r8 M7 =>
      if r6 = r8 then
        rz (1 : Int32) M7
      else
        rz (0 : Int32) M7
    else
      rz (0 : Int32) M3

def f_X12_areOne (x0 : Nat) (x1 : Int32) (x2 : Int32) (M : MM) : Option (Int32 × MM) := f_X12_areOne_0 x0 x1 x2 M
set_option maxRecDepth 4000 in
theorem L_X12_areOne_0 {G : Gx} (X : Cb G cX12_areOne 3 RX12 (RM 2 0 0) false) (Y : Cr G (some .boolean) 0 0) (x0 : Nat) (x1 : Int32) (x2 : Int32) (M : MM) : V G trI 3 0 0 0 [(0, .ref x0), (1, .int x1), (2, .int x2)] [] M (f_X12_areOne_0 x0 x1 x2 M) := by
  unfold f_X12_areOne_0
  refine v_aload_n X 1 0 dX12_areOne_0 rfl rfl ?_
  refine v_iload_n X 2 1 dX12_areOne_1 rfl rfl ?_
  refine v_sI X 5 cs_X12_what ml_X12_278 (n1 := 1) rfl [.ref x0, .int x1] rfl rfl rfl dX12_areOne_2 rfl (fun r M1 h => c_X12_what _ _ _ _ _ _ h) (fun r2 M1 => ?_)
  refine v_aload_n X 6 0 dX12_areOne_5 rfl rfl ?_
  refine v_iload_n X 7 2 dX12_areOne_6 rfl rfl ?_
  refine v_sI X 10 cs_X12_what ml_X12_278 (n1 := 1) rfl [.ref x0, .int x2] rfl rfl rfl dX12_areOne_7 rfl (fun r M1 h => c_X12_what _ _ _ _ _ _ h) (fun r4 M3 => ?_)
  refine v_icne X 13 30 dX12_areOne_10 rfl rfl ?_ ?_
  · refine v_iconst X 31 dX12_areOne_30 ik_0 rfl ?_
    exact v_zret X Y (Nat.le_refl _) (Nat.le_refl _) dX12_areOne_31
  · refine v_aload_n X 14 0 dX12_areOne_13 rfl rfl ?_
    refine v_iload_n X 15 1 dX12_areOne_14 rfl rfl ?_
    refine v_sI X 18 cs_X12_start ml_X12_274 (n1 := 1) rfl [.ref x0, .int x1] rfl rfl rfl dX12_areOne_15 rfl (fun r M1 h => c_X12_start _ _ _ _ _ _ h) (fun r6 M5 => ?_)
    refine v_aload_n X 19 0 dX12_areOne_18 rfl rfl ?_
    refine v_iload_n X 20 2 dX12_areOne_19 rfl rfl ?_
    refine v_sI X 23 cs_X12_start ml_X12_274 (n1 := 1) rfl [.ref x0, .int x2] rfl rfl rfl dX12_areOne_20 rfl (fun r M1 h => c_X12_start _ _ _ _ _ _ h) (fun r8 M7 => ?_)
    refine v_icne X 26 30 dX12_areOne_23 rfl rfl ?_ ?_
    · refine v_iconst X 31 dX12_areOne_30 ik_0 rfl ?_
      exact v_zret X Y (Nat.le_refl _) (Nat.le_refl _) dX12_areOne_31
    · refine v_iconst X 27 dX12_areOne_26 ik_1 rfl ?_
      refine v_goto X 31 dX12_areOne_27 rfl ?_
      exact v_zret X Y (Nat.le_refl _) (Nat.le_refl _) dX12_areOne_31
theorem c_X12_areOne (l : Launch) (x0 : Nat) (x1 : Int32) (x2 : Int32) (M : MM) (r : Int32) (M1 : MM) (h : f_X12_areOne x0 x1 x2 M = some (r, M1)) : CtAt l yX12_areOne cX12_areOne 3 (some .boolean) (RM 2 0 0) false [.ref x0, .int x1, .int x2] M (some (.int r)) M1 :=
  ct_of (tr := trI) (by decide) (Nat.le_of_ble_eq_true rfl) [(0, .ref x0), (1, .int x1), (2, .int x2)] rfl h (fun G X Y hn hl => L_X12_areOne_0 X Y x0 x1 x2 M)

def f_X12_fitsIn_0 (x0 : Nat) (x1 : Int32) (x2 : Int32) (M : MM) : Option (Int32 × MM) :=
    b1 (gR 12 9 x0 M) fun v1 =>
    b1 (ldI v1 x1 M) fun v2 =>
    b1 (gR 12 11 x0 M) fun v3 =>
    b1 (ldI v3 x1 M) fun v4 =>
    b2 (f_X12_in (Int32.toInt64 (x2 + v2)) (Int32.toInt64 v4) (198 : Int64) M) fun r6 M5 =>
    if r6 = 0 then
      rz (0 : Int32) M5
    else
      b1 (gR 12 9 x0 M5) fun v7 =>
      b1 (ldI v7 x1 M5) fun v8 =>
      b1 (gR 12 10 x0 M5) fun v9 =>
      b1 (ldI v9 x1 M5) fun v10 =>
      b1 (gR 12 12 x0 M5) fun v11 =>
      b1 (ldI v11 x1 M5) fun v12 =>
      if v12 < ((x2 + v8) + v10) then
        rz (0 : Int32) M5
      else
        rz (1 : Int32) M5

def f_X12_fitsIn (x0 : Nat) (x1 : Int32) (x2 : Int32) (M : MM) : Option (Int32 × MM) := if isO 12 x0 M = true then f_X12_fitsIn_0 x0 x1 x2 M else none
set_option maxRecDepth 4000 in
theorem L_X12_fitsIn_0 {G : Gx} (X : Cb G cX12_fitsIn 3 RX12 (RM 2 0 0) false) (Y : Cr G (some .boolean) 0 0) (x0 : Nat) (x1 : Int32) (x2 : Int32) (M : MM) : V G trI 3 0 0 0 [(0, .ref x0), (1, .int x1), (2, .int x2)] [] M (f_X12_fitsIn_0 x0 x1 x2 M) := by
  unfold f_X12_fitsIn_0
  refine v_iload_n X 1 2 dX12_fitsIn_0 rfl rfl ?_
  refine v_aload_n X 2 0 dX12_fitsIn_1 rfl rfl ?_
  refine v_getR X 5 fl_X12_25.r dX12_fitsIn_2 rfl (fun v1 => ?_)
  refine v_iload_n X 6 1 dX12_fitsIn_5 rfl rfl ?_
  refine v_iald X 7 dX12_fitsIn_6 rfl (fun v2 => ?_)
  refine v_iadd X 8 dX12_fitsIn_7 rfl ?_
  refine v_i2l X 9 dX12_fitsIn_8 rfl ?_
  refine v_aload_n X 10 0 dX12_fitsIn_9 rfl rfl ?_
  refine v_getR X 13 fl_X12_31.r dX12_fitsIn_10 rfl (fun v3 => ?_)
  refine v_iload_n X 14 1 dX12_fitsIn_13 rfl rfl ?_
  refine v_iald X 15 dX12_fitsIn_14 rfl (fun v4 => ?_)
  refine v_i2l X 16 dX12_fitsIn_15 rfl ?_
  refine v_ldc2 X 19 dX12_fitsIn_16 kl_X12_287 rfl ?_
  refine v_sI X 22 cs_X12_in ml_X12_146 (n1 := 1) rfl [.long (Int32.toInt64 (x2 + v2)), .long (Int32.toInt64 v4), .long (198 : Int64)] rfl rfl rfl dX12_fitsIn_19 rfl (fun r M1 h => c_X12_in _ _ _ _ _ _ _ h) (fun r6 M5 => ?_)
  refine v_ifeq X 25 53 dX12_fitsIn_22 rfl rfl ?_ ?_
  · refine v_iconst X 54 dX12_fitsIn_53 ik_0 rfl ?_
    exact v_zret X Y (Nat.le_refl _) (Nat.le_refl _) dX12_fitsIn_54
  · refine v_iload_n X 26 2 dX12_fitsIn_25 rfl rfl ?_
    refine v_aload_n X 27 0 dX12_fitsIn_26 rfl rfl ?_
    refine v_getR X 30 fl_X12_25.r dX12_fitsIn_27 rfl (fun v7 => ?_)
    refine v_iload_n X 31 1 dX12_fitsIn_30 rfl rfl ?_
    refine v_iald X 32 dX12_fitsIn_31 rfl (fun v8 => ?_)
    refine v_iadd X 33 dX12_fitsIn_32 rfl ?_
    refine v_aload_n X 34 0 dX12_fitsIn_33 rfl rfl ?_
    refine v_getR X 37 fl_X12_28.r dX12_fitsIn_34 rfl (fun v9 => ?_)
    refine v_iload_n X 38 1 dX12_fitsIn_37 rfl rfl ?_
    refine v_iald X 39 dX12_fitsIn_38 rfl (fun v10 => ?_)
    refine v_iadd X 40 dX12_fitsIn_39 rfl ?_
    refine v_aload_n X 41 0 dX12_fitsIn_40 rfl rfl ?_
    refine v_getR X 44 fl_X12_34.r dX12_fitsIn_41 rfl (fun v11 => ?_)
    refine v_iload_n X 45 1 dX12_fitsIn_44 rfl rfl ?_
    refine v_iald X 46 dX12_fitsIn_45 rfl (fun v12 => ?_)
    refine v_icgt X 49 53 dX12_fitsIn_46 rfl rfl ?_ ?_
    · refine v_iconst X 54 dX12_fitsIn_53 ik_0 rfl ?_
      exact v_zret X Y (Nat.le_refl _) (Nat.le_refl _) dX12_fitsIn_54
    · refine v_iconst X 50 dX12_fitsIn_49 ik_1 rfl ?_
      refine v_goto X 54 dX12_fitsIn_50 rfl ?_
      exact v_zret X Y (Nat.le_refl _) (Nat.le_refl _) dX12_fitsIn_54
theorem c_X12_fitsIn (l : Launch) (x0 : Nat) (x1 : Int32) (x2 : Int32) (M : MM) (r : Int32) (M1 : MM) (h : f_X12_fitsIn x0 x1 x2 M = some (r, M1)) : KV l yX12_fitsIn cX12_fitsIn 3 (some .boolean) (RM 2 0 0) false 12 x0 [.int x1, .int x2] M (some (.int r)) M1 := by
  obtain ⟨hO, h2⟩ := iteO_some h
  exact ⟨hO, ct_of (tr := trI) (by decide) (Nat.le_of_ble_eq_true rfl) [(0, .ref x0), (1, .int x1), (2, .int x2)] rfl h2 (fun G X Y hn hl => L_X12_fitsIn_0 X Y x0 x1 x2 M)⟩

def f_X12_whyNot_215 (K65 : Nat → Nat → Int32 → Int32 → Int32 → Int32 → Int32 → Int32 → MM → Option (Int32 × MM)) (x0 : Nat) (x1 : Nat) (x2 : Int32) (x3 : Int32) (x4 : Int32) (x5 : Int32) (x6 : Int32) (x7 : Int32) (M : MM) : Option (Int32 × MM) :=
    bn (x7 + 1 : Int32) fun y1 =>
    K65 x0 x1 x2 x3 x4 x5 x6 y1 M

def f_X12_whyNot_213 (K65 : Nat → Nat → Int32 → Int32 → Int32 → Int32 → Int32 → Int32 → MM → Option (Int32 × MM)) (x0 : Nat) (x1 : Nat) (x2 : Int32) (x3 : Int32) (x4 : Int32) (x5 : Int32) (x7 : Int32) (s0 : Int32) (M : MM) : Option (Int32 × MM) :=
    f_X12_whyNot_215 K65 x0 x1 x2 x3 x4 x5 s0 x7 M

def f_X12_whyNot_208 (K65 : Nat → Nat → Int32 → Int32 → Int32 → Int32 → Int32 → Int32 → MM → Option (Int32 × MM)) (x0 : Nat) (x1 : Nat) (x2 : Int32) (x3 : Int32) (x4 : Int32) (x5 : Int32) (x7 : Int32) (M : MM) : Option (Int32 × MM) :=
    f_X12_whyNot_213 K65 x0 x1 x2 x3 x4 x5 x7 (1 : Int32) M

def f_X12_whyNot_212 (K65 : Nat → Nat → Int32 → Int32 → Int32 → Int32 → Int32 → Int32 → MM → Option (Int32 × MM)) (x0 : Nat) (x1 : Nat) (x2 : Int32) (x3 : Int32) (x4 : Int32) (x5 : Int32) (x7 : Int32) (M : MM) : Option (Int32 × MM) :=
    f_X12_whyNot_213 K65 x0 x1 x2 x3 x4 x5 x7 (0 : Int32) M

def f_X12_whyNot_177 (K65 : Nat → Nat → Int32 → Int32 → Int32 → Int32 → Int32 → Int32 → MM → Option (Int32 × MM)) (x0 : Nat) (x1 : Nat) (x2 : Int32) (x3 : Int32) (x4 : Int32) (x6 : Int32) (x7 : Int32) (s0 : Int32) (M : MM) : Option (Int32 × MM) :=
    if x6 = 0 then
      b2 (f_X12_who x1 x7 M) fun r2 M1 =>
      b2 (f_X12_who x1 x2 M1) fun r4 M3 =>
      if r2 = r4 then
        f_X12_whyNot_212 K65 x0 x1 x2 x3 x4 s0 x7 M3
      else
        b2 (f_X12_areOne x1 x2 x7 M3) fun r6 M5 =>
        if r6 = 0 then
          f_X12_whyNot_212 K65 x0 x1 x2 x3 x4 s0 x7 M5
        else
          f_X12_whyNot_208 K65 x0 x1 x2 x3 x4 s0 x7 M5
    else
      f_X12_whyNot_208 K65 x0 x1 x2 x3 x4 s0 x7 M

def f_X12_whyNot_172 (K65 : Nat → Nat → Int32 → Int32 → Int32 → Int32 → Int32 → Int32 → MM → Option (Int32 × MM)) (x0 : Nat) (x1 : Nat) (x2 : Int32) (x3 : Int32) (x4 : Int32) (x6 : Int32) (x7 : Int32) (M : MM) : Option (Int32 × MM) :=
    f_X12_whyNot_177 K65 x0 x1 x2 x3 x4 x6 x7 (1 : Int32) M

def f_X12_whyNot_176 (K65 : Nat → Nat → Int32 → Int32 → Int32 → Int32 → Int32 → Int32 → MM → Option (Int32 × MM)) (x0 : Nat) (x1 : Nat) (x2 : Int32) (x3 : Int32) (x4 : Int32) (x6 : Int32) (x7 : Int32) (M : MM) : Option (Int32 × MM) :=
    f_X12_whyNot_177 K65 x0 x1 x2 x3 x4 x6 x7 (0 : Int32) M

def f_X12_whyNot_115 (K65 : Nat → Nat → Int32 → Int32 → Int32 → Int32 → Int32 → Int32 → MM → Option (Int32 × MM)) (x0 : Nat) (x1 : Nat) (x2 : Int32) (x3 : Int32) (x5 : Int32) (x6 : Int32) (x7 : Int32) (s0 : Int32) (M : MM) : Option (Int32 × MM) :=
    if x5 = 0 then
      b1 (gR 12 13 x0 M) fun v1 =>
      b1 (ldI v1 x3 M) fun v2 =>
      if v2 ≤ 0 then
        f_X12_whyNot_176 K65 x0 x1 x2 x3 s0 x6 x7 M
      else
        b1 (gR 12 13 x0 M) fun v3 =>
        b2 (f_X12_what x1 x7 M) fun r5 M4 =>
        b1 (ldI v3 r5 M4) fun v6 =>
        b1 (gR 12 13 x0 M4) fun v7 =>
        b1 (ldI v7 x3 M4) fun v8 =>
        if v6 = v8 then
          b2 (f_X12_meet x0 x1 x2 x7 M4) fun r10 M9 =>
          if r10 = 0 then
            f_X12_whyNot_176 K65 x0 x1 x2 x3 s0 x6 x7 M9
          else
            b2 (f_X12_areOne x1 x2 x7 M9) fun r12 M11 =>
            if r12 = 0 then
              f_X12_whyNot_172 K65 x0 x1 x2 x3 s0 x6 x7 M11
            else
              f_X12_whyNot_176 K65 x0 x1 x2 x3 s0 x6 x7 M11
        else
          f_X12_whyNot_176 K65 x0 x1 x2 x3 s0 x6 x7 M4
    else
      f_X12_whyNot_172 K65 x0 x1 x2 x3 s0 x6 x7 M

def f_X12_whyNot_110 (K65 : Nat → Nat → Int32 → Int32 → Int32 → Int32 → Int32 → Int32 → MM → Option (Int32 × MM)) (x0 : Nat) (x1 : Nat) (x2 : Int32) (x3 : Int32) (x5 : Int32) (x6 : Int32) (x7 : Int32) (M : MM) : Option (Int32 × MM) :=
    f_X12_whyNot_115 K65 x0 x1 x2 x3 x5 x6 x7 (1 : Int32) M

def f_X12_whyNot_114 (K65 : Nat → Nat → Int32 → Int32 → Int32 → Int32 → Int32 → Int32 → MM → Option (Int32 × MM)) (x0 : Nat) (x1 : Nat) (x2 : Int32) (x3 : Int32) (x5 : Int32) (x6 : Int32) (x7 : Int32) (M : MM) : Option (Int32 × MM) :=
    f_X12_whyNot_115 K65 x0 x1 x2 x3 x5 x6 x7 (0 : Int32) M

def f_X12_whyNot_65 : Nat → Nat → Nat → Int32 → Int32 → Int32 → Int32 → Int32 → Int32 → MM → Option (Int32 × MM)
  | 0, _, _, _, _, _, _, _, _, _ => none
  | n + 1, x0, x1, x2, x3, x4, x5, x6, x7, M =>
    b1 (ldI x1 (45 : Int32) M) fun v1 =>
    if v1 ≤ x7 then
      if x4 = 0 then
        if x5 = 0 then
          if x6 = 0 then
            some ((5 : Int32), M)
          else
            some ((0 : Int32), M)
        else
          some ((4 : Int32), M)
      else
        some ((3 : Int32), M)
    else
      if x7 = x2 then
        f_X12_whyNot_215 (f_X12_whyNot_65 n) x0 x1 x2 x3 x4 x5 x6 x7 M
      else
        if x4 = 0 then
          b2 (f_X12_who x1 x7 M) fun r3 M2 =>
          b2 (f_X12_who x1 x2 M2) fun r5 M4 =>
          if r3 = r5 then
            b2 (f_X12_meet x0 x1 x2 x7 M4) fun r7 M6 =>
            if r7 = 0 then
              f_X12_whyNot_114 (f_X12_whyNot_65 n) x0 x1 x2 x3 x5 x6 x7 M6
            else
              f_X12_whyNot_110 (f_X12_whyNot_65 n) x0 x1 x2 x3 x5 x6 x7 M6
          else
            f_X12_whyNot_114 (f_X12_whyNot_65 n) x0 x1 x2 x3 x5 x6 x7 M4
        else
          f_X12_whyNot_110 (f_X12_whyNot_65 n) x0 x1 x2 x3 x5 x6 x7 M

def f_X12_whyNot_60 (x0 : Nat) (x1 : Nat) (x2 : Int32) (x3 : Int32) (x4 : Int32) (x5 : Int32) (s0 : Int32) (M : MM) : Option (Int32 × MM) :=
    f_X12_whyNot_65 1024 x0 x1 x2 x3 x4 x5 s0 (0 : Int32) M

def f_X12_whyNot_0 (x0 : Nat) (x1 : Nat) (x2 : Int32) (M : MM) : Option (Int32 × MM) :=
    b2 (f_X12_what x1 x2 M) fun r2 M1 =>
    b2 (f_X12_back x0 x1 x2 M1) fun r4 M3 =>
    b1 (gI 12 6 x0 M3) fun v5 =>
    if r4 ≤ v5 then
      b2 (f_X12_start x1 x2 M3) fun r7 M6 =>
      b2 (f_X12_fitsIn x0 r2 r7 M6) fun r9 M8 =>
      if r9 = 0 then
        some ((2 : Int32), M8)
      else
        b1 (gR 12 7 x0 M8) fun v10 =>
        b2 (f_X12_who x1 x2 M8) fun r12 M11 =>
        b1 (ldZ v10 r12 M11) fun v13 =>
        if v13 = 0 then
          f_X12_whyNot_60 x0 x1 x2 r2 (0 : Int32) (0 : Int32) (1 : Int32) M11
        else
          f_X12_whyNot_60 x0 x1 x2 r2 (0 : Int32) (0 : Int32) (0 : Int32) M11
    else
      some ((1 : Int32), M3)

def f_X12_whyNot (x0 : Nat) (x1 : Nat) (x2 : Int32) (M : MM) : Option (Int32 × MM) := if isO 12 x0 M = true then f_X12_whyNot_0 x0 x1 x2 M else none
set_option maxRecDepth 4000 in
theorem L_X12_whyNot_215 {G : Gx} (X : Cb G cX12_whyNot 8 RX12 (RM 4 0 0) false) (Y : Cr G (some .int) 0 0) {K65 : Nat → Nat → Int32 → Int32 → Int32 → Int32 → Int32 → Int32 → MM → Option (Int32 × MM)} (hK65 : ∀ (x0 : Nat) (x1 : Nat) (x2 : Int32) (x3 : Int32) (x4 : Int32) (x5 : Int32) (x6 : Int32) (x7 : Int32) (M : MM), V G trI 8 0 0 65 [(0, .ref x0), (1, .ref x1), (2, .int x2), (3, .int x3), (4, .int x4), (5, .int x5), (6, .int x6), (7, .int x7)] [] M (K65 x0 x1 x2 x3 x4 x5 x6 x7 M)) (x0 : Nat) (x1 : Nat) (x2 : Int32) (x3 : Int32) (x4 : Int32) (x5 : Int32) (x6 : Int32) (x7 : Int32) (M : MM) : V G trI 8 0 0 215 [(0, .ref x0), (1, .ref x1), (2, .int x2), (3, .int x3), (4, .int x4), (5, .int x5), (6, .int x6), (7, .int x7)] [] M (f_X12_whyNot_215 K65 x0 x1 x2 x3 x4 x5 x6 x7 M) := by
  unfold f_X12_whyNot_215
  refine v_iinc X 218 7 (fun z => [(0, .ref x0), (1, .ref x1), (2, .int x2), (3, .int x3), (4, .int x4), (5, .int x5), (6, .int x6), (7, .int z)]) dX12_whyNot_215 rfl ik_1 (by decide) (fun _ => rfl) rfl (fun y1 => ?_)
  refine v_goto X 65 dX12_whyNot_218 rfl ?_
  exact hK65 _ _ _ _ _ _ _ _ _
set_option maxRecDepth 4000 in
theorem L_X12_whyNot_213 {G : Gx} (X : Cb G cX12_whyNot 8 RX12 (RM 4 0 0) false) (Y : Cr G (some .int) 0 0) {K65 : Nat → Nat → Int32 → Int32 → Int32 → Int32 → Int32 → Int32 → MM → Option (Int32 × MM)} (hK65 : ∀ (x0 : Nat) (x1 : Nat) (x2 : Int32) (x3 : Int32) (x4 : Int32) (x5 : Int32) (x6 : Int32) (x7 : Int32) (M : MM), V G trI 8 0 0 65 [(0, .ref x0), (1, .ref x1), (2, .int x2), (3, .int x3), (4, .int x4), (5, .int x5), (6, .int x6), (7, .int x7)] [] M (K65 x0 x1 x2 x3 x4 x5 x6 x7 M)) (x0 : Nat) (x1 : Nat) (x2 : Int32) (x3 : Int32) (x4 : Int32) (x5 : Int32) (x7 : Int32) (s0 : Int32) (M : MM) : V G trI 8 0 0 213 [(0, .ref x0), (1, .ref x1), (2, .int x2), (3, .int x3), (4, .int x4), (5, .int x5), (7, .int x7)] [.int s0] M (f_X12_whyNot_213 K65 x0 x1 x2 x3 x4 x5 x7 s0 M) := by
  unfold f_X12_whyNot_213
  refine v_istore (lv' := [(0, .ref x0), (1, .ref x1), (2, .int x2), (3, .int x3), (4, .int x4), (5, .int x5), (6, .int s0), (7, .int x7)]) X 215 dX12_whyNot_213 (by decide) rfl rfl ?_
  exact L_X12_whyNot_215 X Y hK65 _ _ _ _ _ _ _ _ _
set_option maxRecDepth 4000 in
theorem L_X12_whyNot_208 {G : Gx} (X : Cb G cX12_whyNot 8 RX12 (RM 4 0 0) false) (Y : Cr G (some .int) 0 0) {K65 : Nat → Nat → Int32 → Int32 → Int32 → Int32 → Int32 → Int32 → MM → Option (Int32 × MM)} (hK65 : ∀ (x0 : Nat) (x1 : Nat) (x2 : Int32) (x3 : Int32) (x4 : Int32) (x5 : Int32) (x6 : Int32) (x7 : Int32) (M : MM), V G trI 8 0 0 65 [(0, .ref x0), (1, .ref x1), (2, .int x2), (3, .int x3), (4, .int x4), (5, .int x5), (6, .int x6), (7, .int x7)] [] M (K65 x0 x1 x2 x3 x4 x5 x6 x7 M)) (x0 : Nat) (x1 : Nat) (x2 : Int32) (x3 : Int32) (x4 : Int32) (x5 : Int32) (x7 : Int32) (M : MM) : V G trI 8 0 0 208 [(0, .ref x0), (1, .ref x1), (2, .int x2), (3, .int x3), (4, .int x4), (5, .int x5), (7, .int x7)] [] M (f_X12_whyNot_208 K65 x0 x1 x2 x3 x4 x5 x7 M) := by
  unfold f_X12_whyNot_208
  refine v_iconst X 209 dX12_whyNot_208 ik_1 rfl ?_
  refine v_goto X 213 dX12_whyNot_209 rfl ?_
  exact L_X12_whyNot_213 X Y hK65 _ _ _ _ _ _ _ _ _
set_option maxRecDepth 4000 in
theorem L_X12_whyNot_212 {G : Gx} (X : Cb G cX12_whyNot 8 RX12 (RM 4 0 0) false) (Y : Cr G (some .int) 0 0) {K65 : Nat → Nat → Int32 → Int32 → Int32 → Int32 → Int32 → Int32 → MM → Option (Int32 × MM)} (hK65 : ∀ (x0 : Nat) (x1 : Nat) (x2 : Int32) (x3 : Int32) (x4 : Int32) (x5 : Int32) (x6 : Int32) (x7 : Int32) (M : MM), V G trI 8 0 0 65 [(0, .ref x0), (1, .ref x1), (2, .int x2), (3, .int x3), (4, .int x4), (5, .int x5), (6, .int x6), (7, .int x7)] [] M (K65 x0 x1 x2 x3 x4 x5 x6 x7 M)) (x0 : Nat) (x1 : Nat) (x2 : Int32) (x3 : Int32) (x4 : Int32) (x5 : Int32) (x7 : Int32) (M : MM) : V G trI 8 0 0 212 [(0, .ref x0), (1, .ref x1), (2, .int x2), (3, .int x3), (4, .int x4), (5, .int x5), (7, .int x7)] [] M (f_X12_whyNot_212 K65 x0 x1 x2 x3 x4 x5 x7 M) := by
  unfold f_X12_whyNot_212
  refine v_iconst X 213 dX12_whyNot_212 ik_0 rfl ?_
  exact L_X12_whyNot_213 X Y hK65 _ _ _ _ _ _ _ _ _
set_option maxRecDepth 4000 in
theorem L_X12_whyNot_177 {G : Gx} (X : Cb G cX12_whyNot 8 RX12 (RM 4 0 0) false) (Y : Cr G (some .int) 0 0) {K65 : Nat → Nat → Int32 → Int32 → Int32 → Int32 → Int32 → Int32 → MM → Option (Int32 × MM)} (hK65 : ∀ (x0 : Nat) (x1 : Nat) (x2 : Int32) (x3 : Int32) (x4 : Int32) (x5 : Int32) (x6 : Int32) (x7 : Int32) (M : MM), V G trI 8 0 0 65 [(0, .ref x0), (1, .ref x1), (2, .int x2), (3, .int x3), (4, .int x4), (5, .int x5), (6, .int x6), (7, .int x7)] [] M (K65 x0 x1 x2 x3 x4 x5 x6 x7 M)) (x0 : Nat) (x1 : Nat) (x2 : Int32) (x3 : Int32) (x4 : Int32) (x6 : Int32) (x7 : Int32) (s0 : Int32) (M : MM) : V G trI 8 0 0 177 [(0, .ref x0), (1, .ref x1), (2, .int x2), (3, .int x3), (4, .int x4), (6, .int x6), (7, .int x7)] [.int s0] M (f_X12_whyNot_177 K65 x0 x1 x2 x3 x4 x6 x7 s0 M) := by
  unfold f_X12_whyNot_177
  refine v_istore (lv' := [(0, .ref x0), (1, .ref x1), (2, .int x2), (3, .int x3), (4, .int x4), (5, .int s0), (6, .int x6), (7, .int x7)]) X 179 dX12_whyNot_177 (by decide) rfl rfl ?_
  refine v_iload X 181 6 dX12_whyNot_179 rfl rfl ?_
  refine v_ifne X 184 208 dX12_whyNot_181 rfl rfl ?_ ?_
  · exact v_sb [0, 1, 2, 3, 4, 5, 7] (L_X12_whyNot_208 X Y hK65 _ _ _ _ _ _ _ _) rfl
  · refine v_aload_n X 185 1 dX12_whyNot_184 rfl rfl ?_
    refine v_iload X 187 7 dX12_whyNot_185 rfl rfl ?_
    refine v_sI X 190 cs_X12_who ml_X12_293 (n1 := 1) rfl [.ref x1, .int x7] rfl rfl rfl dX12_whyNot_187 rfl (fun r M1 h => c_X12_who _ _ _ _ _ _ h) (fun r2 M1 => ?_)
    refine v_aload_n X 191 1 dX12_whyNot_190 rfl rfl ?_
    refine v_iload_n X 192 2 dX12_whyNot_191 rfl rfl ?_
    refine v_sI X 195 cs_X12_who ml_X12_293 (n1 := 1) rfl [.ref x1, .int x2] rfl rfl rfl dX12_whyNot_192 rfl (fun r M1 h => c_X12_who _ _ _ _ _ _ h) (fun r4 M3 => ?_)
    refine v_iceq X 198 212 dX12_whyNot_195 rfl rfl ?_ ?_
    · exact v_sb [0, 1, 2, 3, 4, 5, 7] (L_X12_whyNot_212 X Y hK65 _ _ _ _ _ _ _ _) rfl
    · refine v_aload_n X 199 1 dX12_whyNot_198 rfl rfl ?_
      refine v_iload_n X 200 2 dX12_whyNot_199 rfl rfl ?_
      refine v_iload X 202 7 dX12_whyNot_200 rfl rfl ?_
      refine v_sI X 205 cs_X12_areOne ml_X12_300 (n1 := 2) rfl [.ref x1, .int x2, .int x7] rfl rfl rfl dX12_whyNot_202 rfl (fun r M1 h => c_X12_areOne _ _ _ _ _ _ _ h) (fun r6 M5 => ?_)
      refine v_ifeq X 208 212 dX12_whyNot_205 rfl rfl ?_ ?_
      · exact v_sb [0, 1, 2, 3, 4, 5, 7] (L_X12_whyNot_212 X Y hK65 _ _ _ _ _ _ _ _) rfl
      · exact v_sb [0, 1, 2, 3, 4, 5, 7] (L_X12_whyNot_208 X Y hK65 _ _ _ _ _ _ _ _) rfl
set_option maxRecDepth 4000 in
theorem L_X12_whyNot_172 {G : Gx} (X : Cb G cX12_whyNot 8 RX12 (RM 4 0 0) false) (Y : Cr G (some .int) 0 0) {K65 : Nat → Nat → Int32 → Int32 → Int32 → Int32 → Int32 → Int32 → MM → Option (Int32 × MM)} (hK65 : ∀ (x0 : Nat) (x1 : Nat) (x2 : Int32) (x3 : Int32) (x4 : Int32) (x5 : Int32) (x6 : Int32) (x7 : Int32) (M : MM), V G trI 8 0 0 65 [(0, .ref x0), (1, .ref x1), (2, .int x2), (3, .int x3), (4, .int x4), (5, .int x5), (6, .int x6), (7, .int x7)] [] M (K65 x0 x1 x2 x3 x4 x5 x6 x7 M)) (x0 : Nat) (x1 : Nat) (x2 : Int32) (x3 : Int32) (x4 : Int32) (x6 : Int32) (x7 : Int32) (M : MM) : V G trI 8 0 0 172 [(0, .ref x0), (1, .ref x1), (2, .int x2), (3, .int x3), (4, .int x4), (6, .int x6), (7, .int x7)] [] M (f_X12_whyNot_172 K65 x0 x1 x2 x3 x4 x6 x7 M) := by
  unfold f_X12_whyNot_172
  refine v_iconst X 173 dX12_whyNot_172 ik_1 rfl ?_
  refine v_goto X 177 dX12_whyNot_173 rfl ?_
  exact L_X12_whyNot_177 X Y hK65 _ _ _ _ _ _ _ _ _
set_option maxRecDepth 4000 in
theorem L_X12_whyNot_176 {G : Gx} (X : Cb G cX12_whyNot 8 RX12 (RM 4 0 0) false) (Y : Cr G (some .int) 0 0) {K65 : Nat → Nat → Int32 → Int32 → Int32 → Int32 → Int32 → Int32 → MM → Option (Int32 × MM)} (hK65 : ∀ (x0 : Nat) (x1 : Nat) (x2 : Int32) (x3 : Int32) (x4 : Int32) (x5 : Int32) (x6 : Int32) (x7 : Int32) (M : MM), V G trI 8 0 0 65 [(0, .ref x0), (1, .ref x1), (2, .int x2), (3, .int x3), (4, .int x4), (5, .int x5), (6, .int x6), (7, .int x7)] [] M (K65 x0 x1 x2 x3 x4 x5 x6 x7 M)) (x0 : Nat) (x1 : Nat) (x2 : Int32) (x3 : Int32) (x4 : Int32) (x6 : Int32) (x7 : Int32) (M : MM) : V G trI 8 0 0 176 [(0, .ref x0), (1, .ref x1), (2, .int x2), (3, .int x3), (4, .int x4), (6, .int x6), (7, .int x7)] [] M (f_X12_whyNot_176 K65 x0 x1 x2 x3 x4 x6 x7 M) := by
  unfold f_X12_whyNot_176
  refine v_iconst X 177 dX12_whyNot_176 ik_0 rfl ?_
  exact L_X12_whyNot_177 X Y hK65 _ _ _ _ _ _ _ _ _
set_option maxRecDepth 4000 in
theorem L_X12_whyNot_115 {G : Gx} (X : Cb G cX12_whyNot 8 RX12 (RM 4 0 0) false) (Y : Cr G (some .int) 0 0) {K65 : Nat → Nat → Int32 → Int32 → Int32 → Int32 → Int32 → Int32 → MM → Option (Int32 × MM)} (hK65 : ∀ (x0 : Nat) (x1 : Nat) (x2 : Int32) (x3 : Int32) (x4 : Int32) (x5 : Int32) (x6 : Int32) (x7 : Int32) (M : MM), V G trI 8 0 0 65 [(0, .ref x0), (1, .ref x1), (2, .int x2), (3, .int x3), (4, .int x4), (5, .int x5), (6, .int x6), (7, .int x7)] [] M (K65 x0 x1 x2 x3 x4 x5 x6 x7 M)) (x0 : Nat) (x1 : Nat) (x2 : Int32) (x3 : Int32) (x5 : Int32) (x6 : Int32) (x7 : Int32) (s0 : Int32) (M : MM) : V G trI 8 0 0 115 [(0, .ref x0), (1, .ref x1), (2, .int x2), (3, .int x3), (5, .int x5), (6, .int x6), (7, .int x7)] [.int s0] M (f_X12_whyNot_115 K65 x0 x1 x2 x3 x5 x6 x7 s0 M) := by
  unfold f_X12_whyNot_115
  refine v_istore (lv' := [(0, .ref x0), (1, .ref x1), (2, .int x2), (3, .int x3), (4, .int s0), (5, .int x5), (6, .int x6), (7, .int x7)]) X 117 dX12_whyNot_115 (by decide) rfl rfl ?_
  refine v_iload X 119 5 dX12_whyNot_117 rfl rfl ?_
  refine v_ifne X 122 172 dX12_whyNot_119 rfl rfl ?_ ?_
  · exact v_sb [0, 1, 2, 3, 4, 6, 7] (L_X12_whyNot_172 X Y hK65 _ _ _ _ _ _ _ _) rfl
  · refine v_aload_n X 123 0 dX12_whyNot_122 rfl rfl ?_
    refine v_getR X 126 fl_X12_37.r dX12_whyNot_123 rfl (fun v1 => ?_)
    refine v_iload_n X 127 3 dX12_whyNot_126 rfl rfl ?_
    refine v_iald X 128 dX12_whyNot_127 rfl (fun v2 => ?_)
    refine v_ifle X 131 176 dX12_whyNot_128 rfl rfl ?_ ?_
    · exact v_sb [0, 1, 2, 3, 4, 6, 7] (L_X12_whyNot_176 X Y hK65 _ _ _ _ _ _ _ _) rfl
    · refine v_aload_n X 132 0 dX12_whyNot_131 rfl rfl ?_
      refine v_getR X 135 fl_X12_37.r dX12_whyNot_132 rfl (fun v3 => ?_)
      refine v_aload_n X 136 1 dX12_whyNot_135 rfl rfl ?_
      refine v_iload X 138 7 dX12_whyNot_136 rfl rfl ?_
      refine v_sI X 141 cs_X12_what ml_X12_278 (n1 := 1) rfl [.ref x1, .int x7] rfl rfl rfl dX12_whyNot_138 rfl (fun r M1 h => c_X12_what _ _ _ _ _ _ h) (fun r5 M4 => ?_)
      refine v_iald X 142 dX12_whyNot_141 rfl (fun v6 => ?_)
      refine v_aload_n X 143 0 dX12_whyNot_142 rfl rfl ?_
      refine v_getR X 146 fl_X12_37.r dX12_whyNot_143 rfl (fun v7 => ?_)
      refine v_iload_n X 147 3 dX12_whyNot_146 rfl rfl ?_
      refine v_iald X 148 dX12_whyNot_147 rfl (fun v8 => ?_)
      refine v_icne X 151 176 dX12_whyNot_148 rfl rfl ?_ ?_
      · exact v_sb [0, 1, 2, 3, 4, 6, 7] (L_X12_whyNot_176 X Y hK65 _ _ _ _ _ _ _ _) rfl
      · refine v_aload_n X 152 0 dX12_whyNot_151 rfl rfl ?_
        refine v_aload_n X 153 1 dX12_whyNot_152 rfl rfl ?_
        refine v_iload_n X 154 2 dX12_whyNot_153 rfl rfl ?_
        refine v_iload X 156 7 dX12_whyNot_154 rfl rfl ?_
        refine v_vI X 159 cv_X12_meet ml_X12_296 (n1 := 3) rfl [.ref x1, .int x2, .int x7] rfl rfl rfl dX12_whyNot_156 rfl (fun r M1 h => c_X12_meet _ _ _ _ _ _ _ _ h) (fun r10 M9 => ?_)
        refine v_ifeq X 162 176 dX12_whyNot_159 rfl rfl ?_ ?_
        · exact v_sb [0, 1, 2, 3, 4, 6, 7] (L_X12_whyNot_176 X Y hK65 _ _ _ _ _ _ _ _) rfl
        · refine v_aload_n X 163 1 dX12_whyNot_162 rfl rfl ?_
          refine v_iload_n X 164 2 dX12_whyNot_163 rfl rfl ?_
          refine v_iload X 166 7 dX12_whyNot_164 rfl rfl ?_
          refine v_sI X 169 cs_X12_areOne ml_X12_300 (n1 := 2) rfl [.ref x1, .int x2, .int x7] rfl rfl rfl dX12_whyNot_166 rfl (fun r M1 h => c_X12_areOne _ _ _ _ _ _ _ h) (fun r12 M11 => ?_)
          refine v_ifne X 172 176 dX12_whyNot_169 rfl rfl ?_ ?_
          · exact v_sb [0, 1, 2, 3, 4, 6, 7] (L_X12_whyNot_176 X Y hK65 _ _ _ _ _ _ _ _) rfl
          · exact v_sb [0, 1, 2, 3, 4, 6, 7] (L_X12_whyNot_172 X Y hK65 _ _ _ _ _ _ _ _) rfl
set_option maxRecDepth 4000 in
theorem L_X12_whyNot_110 {G : Gx} (X : Cb G cX12_whyNot 8 RX12 (RM 4 0 0) false) (Y : Cr G (some .int) 0 0) {K65 : Nat → Nat → Int32 → Int32 → Int32 → Int32 → Int32 → Int32 → MM → Option (Int32 × MM)} (hK65 : ∀ (x0 : Nat) (x1 : Nat) (x2 : Int32) (x3 : Int32) (x4 : Int32) (x5 : Int32) (x6 : Int32) (x7 : Int32) (M : MM), V G trI 8 0 0 65 [(0, .ref x0), (1, .ref x1), (2, .int x2), (3, .int x3), (4, .int x4), (5, .int x5), (6, .int x6), (7, .int x7)] [] M (K65 x0 x1 x2 x3 x4 x5 x6 x7 M)) (x0 : Nat) (x1 : Nat) (x2 : Int32) (x3 : Int32) (x5 : Int32) (x6 : Int32) (x7 : Int32) (M : MM) : V G trI 8 0 0 110 [(0, .ref x0), (1, .ref x1), (2, .int x2), (3, .int x3), (5, .int x5), (6, .int x6), (7, .int x7)] [] M (f_X12_whyNot_110 K65 x0 x1 x2 x3 x5 x6 x7 M) := by
  unfold f_X12_whyNot_110
  refine v_iconst X 111 dX12_whyNot_110 ik_1 rfl ?_
  refine v_goto X 115 dX12_whyNot_111 rfl ?_
  exact L_X12_whyNot_115 X Y hK65 _ _ _ _ _ _ _ _ _
set_option maxRecDepth 4000 in
theorem L_X12_whyNot_114 {G : Gx} (X : Cb G cX12_whyNot 8 RX12 (RM 4 0 0) false) (Y : Cr G (some .int) 0 0) {K65 : Nat → Nat → Int32 → Int32 → Int32 → Int32 → Int32 → Int32 → MM → Option (Int32 × MM)} (hK65 : ∀ (x0 : Nat) (x1 : Nat) (x2 : Int32) (x3 : Int32) (x4 : Int32) (x5 : Int32) (x6 : Int32) (x7 : Int32) (M : MM), V G trI 8 0 0 65 [(0, .ref x0), (1, .ref x1), (2, .int x2), (3, .int x3), (4, .int x4), (5, .int x5), (6, .int x6), (7, .int x7)] [] M (K65 x0 x1 x2 x3 x4 x5 x6 x7 M)) (x0 : Nat) (x1 : Nat) (x2 : Int32) (x3 : Int32) (x5 : Int32) (x6 : Int32) (x7 : Int32) (M : MM) : V G trI 8 0 0 114 [(0, .ref x0), (1, .ref x1), (2, .int x2), (3, .int x3), (5, .int x5), (6, .int x6), (7, .int x7)] [] M (f_X12_whyNot_114 K65 x0 x1 x2 x3 x5 x6 x7 M) := by
  unfold f_X12_whyNot_114
  refine v_iconst X 115 dX12_whyNot_114 ik_0 rfl ?_
  exact L_X12_whyNot_115 X Y hK65 _ _ _ _ _ _ _ _ _
set_option maxRecDepth 4000 in
theorem L_X12_whyNot_65 {G : Gx} (X : Cb G cX12_whyNot 8 RX12 (RM 4 0 0) false) (Y : Cr G (some .int) 0 0) : ∀ (n : Nat) (x0 : Nat) (x1 : Nat) (x2 : Int32) (x3 : Int32) (x4 : Int32) (x5 : Int32) (x6 : Int32) (x7 : Int32) (M : MM), V G trI 8 0 0 65 [(0, .ref x0), (1, .ref x1), (2, .int x2), (3, .int x3), (4, .int x4), (5, .int x5), (6, .int x6), (7, .int x7)] [] M (f_X12_whyNot_65 n x0 x1 x2 x3 x4 x5 x6 x7 M) := by
  intro n
  induction n with
  | zero => intro x0 x1 x2 x3 x4 x5 x6 x7 M; rw [f_X12_whyNot_65]; exact v_none
  | succ n ih =>
    intro x0 x1 x2 x3 x4 x5 x6 x7 M
    rw [f_X12_whyNot_65]
    refine v_iload X 67 7 dX12_whyNot_65 rfl rfl ?_
    refine v_aload_n X 68 1 dX12_whyNot_67 rfl rfl ?_
    refine v_bipush X 70 dX12_whyNot_68 bk_45 rfl ?_
    refine v_iald X 71 dX12_whyNot_70 rfl (fun v1 => ?_)
    refine v_icge X 74 221 dX12_whyNot_71 rfl rfl ?_ ?_
    · refine v_iload X 223 4 dX12_whyNot_221 rfl rfl ?_
      refine v_ifeq X 226 230 dX12_whyNot_223 rfl rfl ?_ ?_
      · refine v_iload X 232 5 dX12_whyNot_230 rfl rfl ?_
        refine v_ifeq X 235 239 dX12_whyNot_232 rfl rfl ?_ ?_
        · refine v_iload X 241 6 dX12_whyNot_239 rfl rfl ?_
          refine v_ifeq X 244 248 dX12_whyNot_241 rfl rfl ?_ ?_
          · refine v_iconst X 249 dX12_whyNot_248 ik_5 rfl ?_
            exact v_iret X Y (Nat.le_refl _) (Nat.le_refl _) dX12_whyNot_249
          · refine v_iconst X 245 dX12_whyNot_244 ik_0 rfl ?_
            refine v_goto X 249 dX12_whyNot_245 rfl ?_
            exact v_iret X Y (Nat.le_refl _) (Nat.le_refl _) dX12_whyNot_249
        · refine v_iconst X 236 dX12_whyNot_235 ik_4 rfl ?_
          refine v_goto X 249 dX12_whyNot_236 rfl ?_
          exact v_iret X Y (Nat.le_refl _) (Nat.le_refl _) dX12_whyNot_249
      · refine v_iconst X 227 dX12_whyNot_226 ik_3 rfl ?_
        refine v_goto X 249 dX12_whyNot_227 rfl ?_
        exact v_iret X Y (Nat.le_refl _) (Nat.le_refl _) dX12_whyNot_249
    · refine v_iload X 76 7 dX12_whyNot_74 rfl rfl ?_
      refine v_iload_n X 77 2 dX12_whyNot_76 rfl rfl ?_
      refine v_iceq X 80 215 dX12_whyNot_77 rfl rfl ?_ ?_
      · exact L_X12_whyNot_215 X Y ih _ _ _ _ _ _ _ _ _
      · refine v_iload X 82 4 dX12_whyNot_80 rfl rfl ?_
        refine v_ifne X 85 110 dX12_whyNot_82 rfl rfl ?_ ?_
        · exact v_sb [0, 1, 2, 3, 5, 6, 7] (L_X12_whyNot_110 X Y ih _ _ _ _ _ _ _ _) rfl
        · refine v_aload_n X 86 1 dX12_whyNot_85 rfl rfl ?_
          refine v_iload X 88 7 dX12_whyNot_86 rfl rfl ?_
          refine v_sI X 91 cs_X12_who ml_X12_293 (n1 := 1) rfl [.ref x1, .int x7] rfl rfl rfl dX12_whyNot_88 rfl (fun r M1 h => c_X12_who _ _ _ _ _ _ h) (fun r3 M2 => ?_)
          refine v_aload_n X 92 1 dX12_whyNot_91 rfl rfl ?_
          refine v_iload_n X 93 2 dX12_whyNot_92 rfl rfl ?_
          refine v_sI X 96 cs_X12_who ml_X12_293 (n1 := 1) rfl [.ref x1, .int x2] rfl rfl rfl dX12_whyNot_93 rfl (fun r M1 h => c_X12_who _ _ _ _ _ _ h) (fun r5 M4 => ?_)
          refine v_icne X 99 114 dX12_whyNot_96 rfl rfl ?_ ?_
          · exact v_sb [0, 1, 2, 3, 5, 6, 7] (L_X12_whyNot_114 X Y ih _ _ _ _ _ _ _ _) rfl
          · refine v_aload_n X 100 0 dX12_whyNot_99 rfl rfl ?_
            refine v_aload_n X 101 1 dX12_whyNot_100 rfl rfl ?_
            refine v_iload_n X 102 2 dX12_whyNot_101 rfl rfl ?_
            refine v_iload X 104 7 dX12_whyNot_102 rfl rfl ?_
            refine v_vI X 107 cv_X12_meet ml_X12_296 (n1 := 3) rfl [.ref x1, .int x2, .int x7] rfl rfl rfl dX12_whyNot_104 rfl (fun r M1 h => c_X12_meet _ _ _ _ _ _ _ _ h) (fun r7 M6 => ?_)
            refine v_ifeq X 110 114 dX12_whyNot_107 rfl rfl ?_ ?_
            · exact v_sb [0, 1, 2, 3, 5, 6, 7] (L_X12_whyNot_114 X Y ih _ _ _ _ _ _ _ _) rfl
            · exact v_sb [0, 1, 2, 3, 5, 6, 7] (L_X12_whyNot_110 X Y ih _ _ _ _ _ _ _ _) rfl
set_option maxRecDepth 4000 in
theorem L_X12_whyNot_60 {G : Gx} (X : Cb G cX12_whyNot 8 RX12 (RM 4 0 0) false) (Y : Cr G (some .int) 0 0) (x0 : Nat) (x1 : Nat) (x2 : Int32) (x3 : Int32) (x4 : Int32) (x5 : Int32) (s0 : Int32) (M : MM) : V G trI 8 0 0 60 [(0, .ref x0), (1, .ref x1), (2, .int x2), (3, .int x3), (4, .int x4), (5, .int x5)] [.int s0] M (f_X12_whyNot_60 x0 x1 x2 x3 x4 x5 s0 M) := by
  unfold f_X12_whyNot_60
  refine v_istore (lv' := [(0, .ref x0), (1, .ref x1), (2, .int x2), (3, .int x3), (4, .int x4), (5, .int x5), (6, .int s0)]) X 62 dX12_whyNot_60 (by decide) rfl rfl ?_
  refine v_iconst X 63 dX12_whyNot_62 ik_0 rfl ?_
  refine v_istore (lv' := [(0, .ref x0), (1, .ref x1), (2, .int x2), (3, .int x3), (4, .int x4), (5, .int x5), (6, .int s0), (7, .int (0 : Int32))]) X 65 dX12_whyNot_63 (by decide) rfl rfl ?_
  exact L_X12_whyNot_65 X Y 1024 _ _ _ _ _ _ _ _ _
set_option maxRecDepth 4000 in
theorem L_X12_whyNot_0 {G : Gx} (X : Cb G cX12_whyNot 8 RX12 (RM 4 0 0) false) (Y : Cr G (some .int) 0 0) (x0 : Nat) (x1 : Nat) (x2 : Int32) (M : MM) : V G trI 8 0 0 0 [(0, .ref x0), (1, .ref x1), (2, .int x2)] [] M (f_X12_whyNot_0 x0 x1 x2 M) := by
  unfold f_X12_whyNot_0
  refine v_aload_n X 1 1 dX12_whyNot_0 rfl rfl ?_
  refine v_iload_n X 2 2 dX12_whyNot_1 rfl rfl ?_
  refine v_sI X 5 cs_X12_what ml_X12_278 (n1 := 1) rfl [.ref x1, .int x2] rfl rfl rfl dX12_whyNot_2 rfl (fun r M1 h => c_X12_what _ _ _ _ _ _ h) (fun r2 M1 => ?_)
  refine v_istore_n (lv' := [(0, .ref x0), (1, .ref x1), (2, .int x2), (3, .int r2)]) X 6 dX12_whyNot_5 (by decide) rfl rfl ?_
  refine v_aload_n X 7 0 dX12_whyNot_6 rfl rfl ?_
  refine v_aload_n X 8 1 dX12_whyNot_7 rfl rfl ?_
  refine v_iload_n X 9 2 dX12_whyNot_8 rfl rfl ?_
  refine v_vI X 12 cv_X12_back ml_X12_284 (n1 := 2) rfl [.ref x1, .int x2] rfl rfl rfl dX12_whyNot_9 rfl (fun r M1 h => c_X12_back _ _ _ _ _ _ _ h) (fun r4 M3 => ?_)
  refine v_aload_n X 13 0 dX12_whyNot_12 rfl rfl ?_
  refine v_getI X 16 fl_X12_13.r dX12_whyNot_13 rfl (fun v5 => ?_)
  refine v_icle X 19 21 dX12_whyNot_16 rfl rfl ?_ ?_
  · refine v_aload_n X 22 0 dX12_whyNot_21 rfl rfl ?_
    refine v_iload_n X 23 3 dX12_whyNot_22 rfl rfl ?_
    refine v_aload_n X 24 1 dX12_whyNot_23 rfl rfl ?_
    refine v_iload_n X 25 2 dX12_whyNot_24 rfl rfl ?_
    refine v_sI X 28 cs_X12_start ml_X12_274 (n1 := 1) rfl [.ref x1, .int x2] rfl rfl rfl dX12_whyNot_25 rfl (fun r M1 h => c_X12_start _ _ _ _ _ _ h) (fun r7 M6 => ?_)
    refine v_vI X 31 cv_X12_fitsIn ml_X12_289 (n1 := 2) rfl [.int r2, .int r7] rfl rfl rfl dX12_whyNot_28 rfl (fun r M1 h => c_X12_fitsIn _ _ _ _ _ _ _ h) (fun r9 M8 => ?_)
    refine v_ifne X 34 36 dX12_whyNot_31 rfl rfl ?_ ?_
    · refine v_iconst X 37 dX12_whyNot_36 ik_0 rfl ?_
      refine v_istore (lv' := [(0, .ref x0), (1, .ref x1), (2, .int x2), (3, .int r2), (4, .int (0 : Int32))]) X 39 dX12_whyNot_37 (by decide) rfl rfl ?_
      refine v_iconst X 40 dX12_whyNot_39 ik_0 rfl ?_
      refine v_istore (lv' := [(0, .ref x0), (1, .ref x1), (2, .int x2), (3, .int r2), (4, .int (0 : Int32)), (5, .int (0 : Int32))]) X 42 dX12_whyNot_40 (by decide) rfl rfl ?_
      refine v_aload_n X 43 0 dX12_whyNot_42 rfl rfl ?_
      refine v_getR X 46 fl_X12_17.r dX12_whyNot_43 rfl (fun v10 => ?_)
      refine v_aload_n X 47 1 dX12_whyNot_46 rfl rfl ?_
      refine v_iload_n X 48 2 dX12_whyNot_47 rfl rfl ?_
      refine v_sI X 51 cs_X12_who ml_X12_293 (n1 := 1) rfl [.ref x1, .int x2] rfl rfl rfl dX12_whyNot_48 rfl (fun r M1 h => c_X12_who _ _ _ _ _ _ h) (fun r12 M11 => ?_)
      refine v_zald X 52 dX12_whyNot_51 rfl (fun v13 => ?_)
      refine v_ifne X 55 59 dX12_whyNot_52 rfl rfl ?_ ?_
      · refine v_iconst X 60 dX12_whyNot_59 ik_0 rfl ?_
        exact L_X12_whyNot_60 X Y _ _ _ _ _ _ _ _
      · refine v_iconst X 56 dX12_whyNot_55 ik_1 rfl ?_
        refine v_goto X 60 dX12_whyNot_56 rfl ?_
        exact L_X12_whyNot_60 X Y _ _ _ _ _ _ _ _
    · refine v_iconst X 35 dX12_whyNot_34 ik_2 rfl ?_
      exact v_iret X Y (Nat.le_refl _) (Nat.le_refl _) dX12_whyNot_35
  · refine v_iconst X 20 dX12_whyNot_19 ik_1 rfl ?_
    exact v_iret X Y (Nat.le_refl _) (Nat.le_refl _) dX12_whyNot_20
theorem c_X12_whyNot (l : Launch) (x0 : Nat) (x1 : Nat) (x2 : Int32) (M : MM) (r : Int32) (M1 : MM) (h : f_X12_whyNot x0 x1 x2 M = some (r, M1)) : KV l yX12_whyNot cX12_whyNot 8 (some .int) (RM 4 0 0) false 12 x0 [.ref x1, .int x2] M (some (.int r)) M1 := by
  obtain ⟨hO, h2⟩ := iteO_some h
  exact ⟨hO, ct_of (tr := trI) (by decide) (Nat.le_of_ble_eq_true rfl) [(0, .ref x0), (1, .ref x1), (2, .int x2)] rfl h2 (fun G X Y hn hl => L_X12_whyNot_0 X Y x0 x1 x2 M)⟩

def f_X12_thingOf_119 (K87 : Nat → Int32 → Int32 → Int32 → MM → Option (Int32 × MM)) (x1 : Nat) (x2 : Int32) (x5 : Int32) (s0 : Int32) (s1 : Int32) (M : MM) : Option (Int32 × MM) :=
    b2 (f_X12_flag s0 M) fun r2 M1 =>
    bn (s1 + r2 : Int32) fun y3 =>
    bn (x5 + 1 : Int32) fun y4 =>
    K87 x1 x2 y3 y4 M1

def f_X12_thingOf_118 (K87 : Nat → Int32 → Int32 → Int32 → MM → Option (Int32 × MM)) (x1 : Nat) (x2 : Int32) (x5 : Int32) (s0 : Int32) (M : MM) : Option (Int32 × MM) :=
    f_X12_thingOf_119 K87 x1 x2 x5 (0 : Int32) s0 M

def f_X12_thingOf_87 : Nat → Nat → Int32 → Int32 → Int32 → MM → Option (Int32 × MM)
  | 0, _, _, _, _, _ => none
  | n + 1, x1, x2, x4, x5, M =>
    b1 (ldI x1 (45 : Int32) M) fun v1 =>
    if v1 ≤ x5 then
      some (x4, M)
    else
      if x5 = x2 then
        f_X12_thingOf_118 (f_X12_thingOf_87 n) x1 x2 x5 x4 M
      else
        b2 (f_X12_areOne x1 x2 x5 M) fun r3 M2 =>
        if r3 = 0 then
          f_X12_thingOf_118 (f_X12_thingOf_87 n) x1 x2 x5 x4 M2
        else
          f_X12_thingOf_119 (f_X12_thingOf_87 n) x1 x2 x5 (1 : Int32) x4 M2

def f_X12_thingOf_204 (K163 : Nat → Int32 → Int32 → Int32 → MM → Option (Int32 × MM)) (x1 : Nat) (x2 : Int32) (x5 : Int32) (s0 : Int32) (s1 : Int32) (M : MM) : Option (Int32 × MM) :=
    b2 (f_X12_flag s0 M) fun r2 M1 =>
    bn (s1 + r2 : Int32) fun y3 =>
    bn (x5 + 1 : Int32) fun y4 =>
    K163 x1 x2 y3 y4 M1

def f_X12_thingOf_203 (K163 : Nat → Int32 → Int32 → Int32 → MM → Option (Int32 × MM)) (x1 : Nat) (x2 : Int32) (x5 : Int32) (s0 : Int32) (M : MM) : Option (Int32 × MM) :=
    f_X12_thingOf_204 K163 x1 x2 x5 (0 : Int32) s0 M

def f_X12_thingOf_226 (s0 : Int32) (M : MM) : Option (Int32 × MM) :=
    b2 (f_X12_flag s0 M) fun r2 M1 =>
    some (r2, M1)

def f_X12_thingOf_163 : Nat → Nat → Int32 → Int32 → Int32 → MM → Option (Int32 × MM)
  | 0, _, _, _, _, _ => none
  | n + 1, x1, x2, x4, x5, M =>
    if x2 ≤ x5 then
      if x4 ≤ 0 then
        f_X12_thingOf_226 (0 : Int32) M
      else
        f_X12_thingOf_226 (1 : Int32) M
    else
      b2 (f_X12_who x1 x5 M) fun r2 M1 =>
      b2 (f_X12_who x1 x2 M1) fun r4 M3 =>
      if r2 = r4 then
        b2 (f_X12_what x1 x5 M3) fun r6 M5 =>
        b2 (f_X12_what x1 x2 M5) fun r8 M7 =>
        if r6 = r8 then
          f_X12_thingOf_204 (f_X12_thingOf_163 n) x1 x2 x5 (1 : Int32) x4 M7
        else
          f_X12_thingOf_203 (f_X12_thingOf_163 n) x1 x2 x5 x4 M7
      else
        f_X12_thingOf_203 (f_X12_thingOf_163 n) x1 x2 x5 x4 M3

def f_X12_thingOf_0 (x0 : Nat) (x1 : Nat) (x2 : Int32) (x3 : Int32) (M : MM) : Option (Int32 × MM) :=
    if x3 = 0 then
      b1 (gR 12 8 x0 M) fun v1 =>
      b2 (f_X12_who x1 x2 M) fun r3 M2 =>
      b2 (f_X12_what x1 x2 M2) fun r5 M4 =>
      b1 (ldI v1 (((8 : Int32) * r3) + r5) M4) fun v6 =>
      some (v6, M4)
    else
    if x3 = 1 then
      b2 (f_X12_what x1 x2 M) fun r8 M7 =>
      b2 (f_X12_awayLong x0 r8 M7) fun r10 M9 =>
      some (r10, M9)
    else
    if x3 = 2 then
      b2 (f_X12_start x1 x2 M) fun r12 M11 =>
      some (r12, M11)
    else
    if x3 = 3 then
      f_X12_thingOf_87 1024 x1 x2 (0 : Int32) (0 : Int32) M
    else
    if x3 = 4 then
      b2 (f_X12_who x1 x2 M) fun r14 M13 =>
      some (r14, M13)
    else
    if x3 = 5 then
      b2 (f_X12_what x1 x2 M) fun r16 M15 =>
      some (r16, M15)
    else
    if x3 = 6 then
      b1 (gR 12 7 x0 M) fun v17 =>
      b2 (f_X12_who x1 x2 M) fun r19 M18 =>
      b1 (ldZ v17 r19 M18) fun v20 =>
      b2 (f_X12_flag v20 M18) fun r22 M21 =>
      some (r22, M21)
    else
      f_X12_thingOf_163 1024 x1 x2 (0 : Int32) (0 : Int32) M

def f_X12_thingOf (x0 : Nat) (x1 : Nat) (x2 : Int32) (x3 : Int32) (M : MM) : Option (Int32 × MM) := if isO 12 x0 M = true then f_X12_thingOf_0 x0 x1 x2 x3 M else none
set_option maxRecDepth 4000 in
theorem L_X12_thingOf_119 {G : Gx} (X : Cb G cX12_thingOf 6 RX12 (RM 3 0 0) false) (Y : Cr G (some .int) 0 0) {K87 : Nat → Int32 → Int32 → Int32 → MM → Option (Int32 × MM)} (hK87 : ∀ (x1 : Nat) (x2 : Int32) (x4 : Int32) (x5 : Int32) (M : MM), V G trI 6 0 0 87 [(1, .ref x1), (2, .int x2), (4, .int x4), (5, .int x5)] [] M (K87 x1 x2 x4 x5 M)) (x1 : Nat) (x2 : Int32) (x5 : Int32) (s0 : Int32) (s1 : Int32) (M : MM) : V G trI 6 0 0 119 [(1, .ref x1), (2, .int x2), (5, .int x5)] [.int s0, .int s1] M (f_X12_thingOf_119 K87 x1 x2 x5 s0 s1 M) := by
  unfold f_X12_thingOf_119
  refine v_sI X 122 cs_X12_flag ml_X12_171 (n1 := 1) rfl [.int s0] rfl rfl rfl dX12_thingOf_119 rfl (fun r M1 h => c_X12_flag _ _ _ _ _ h) (fun r2 M1 => ?_)
  refine v_iadd X 123 dX12_thingOf_122 rfl ?_
  refine v_bnI (fun y3 => ?_)
  refine v_istore (lv' := [(1, .ref x1), (2, .int x2), (4, .int y3), (5, .int x5)]) X 125 dX12_thingOf_123 (by decide) rfl rfl ?_
  refine v_iinc X 128 3 (fun z => [(1, .ref x1), (2, .int x2), (4, .int y3), (5, .int z)]) dX12_thingOf_125 rfl ik_1 (by decide) (fun _ => rfl) rfl (fun y4 => ?_)
  refine v_goto X 87 dX12_thingOf_128 rfl ?_
  exact hK87 _ _ _ _ _
set_option maxRecDepth 4000 in
theorem L_X12_thingOf_118 {G : Gx} (X : Cb G cX12_thingOf 6 RX12 (RM 3 0 0) false) (Y : Cr G (some .int) 0 0) {K87 : Nat → Int32 → Int32 → Int32 → MM → Option (Int32 × MM)} (hK87 : ∀ (x1 : Nat) (x2 : Int32) (x4 : Int32) (x5 : Int32) (M : MM), V G trI 6 0 0 87 [(1, .ref x1), (2, .int x2), (4, .int x4), (5, .int x5)] [] M (K87 x1 x2 x4 x5 M)) (x1 : Nat) (x2 : Int32) (x5 : Int32) (s0 : Int32) (M : MM) : V G trI 6 0 0 118 [(1, .ref x1), (2, .int x2), (5, .int x5)] [.int s0] M (f_X12_thingOf_118 K87 x1 x2 x5 s0 M) := by
  unfold f_X12_thingOf_118
  refine v_iconst X 119 dX12_thingOf_118 ik_0 rfl ?_
  exact L_X12_thingOf_119 X Y hK87 _ _ _ _ _ _
set_option maxRecDepth 4000 in
theorem L_X12_thingOf_87 {G : Gx} (X : Cb G cX12_thingOf 6 RX12 (RM 3 0 0) false) (Y : Cr G (some .int) 0 0) : ∀ (n : Nat) (x1 : Nat) (x2 : Int32) (x4 : Int32) (x5 : Int32) (M : MM), V G trI 6 0 0 87 [(1, .ref x1), (2, .int x2), (4, .int x4), (5, .int x5)] [] M (f_X12_thingOf_87 n x1 x2 x4 x5 M) := by
  intro n
  induction n with
  | zero => intro x1 x2 x4 x5 M; rw [f_X12_thingOf_87]; exact v_none
  | succ n ih =>
    intro x1 x2 x4 x5 M
    rw [f_X12_thingOf_87]
    refine v_iload X 89 3 dX12_thingOf_87 rfl rfl ?_
    refine v_aload_n X 90 0 dX12_thingOf_89 rfl rfl ?_
    refine v_bipush X 92 dX12_thingOf_90 bk_45 rfl ?_
    refine v_iald X 93 dX12_thingOf_92 rfl (fun v1 => ?_)
    refine v_icge X 96 131 dX12_thingOf_93 rfl rfl ?_ ?_
    · refine v_iload X 133 2 dX12_thingOf_131 rfl rfl ?_
      exact v_iret X Y (Nat.le_refl _) (Nat.le_refl _) dX12_thingOf_133
    · refine v_iload X 98 2 dX12_thingOf_96 rfl rfl ?_
      refine v_iload X 100 3 dX12_thingOf_98 rfl rfl ?_
      refine v_iload_n X 101 1 dX12_thingOf_100 rfl rfl ?_
      refine v_iceq X 104 118 dX12_thingOf_101 rfl rfl ?_ ?_
      · exact v_sb [0, 1, 3] (L_X12_thingOf_118 X Y ih _ _ _ _ _) rfl
      · refine v_aload_n X 105 0 dX12_thingOf_104 rfl rfl ?_
        refine v_iload_n X 106 1 dX12_thingOf_105 rfl rfl ?_
        refine v_iload X 108 3 dX12_thingOf_106 rfl rfl ?_
        refine v_sI X 111 cs_X12_areOne ml_X12_300 (n1 := 2) rfl [.ref x1, .int x2, .int x5] rfl rfl rfl dX12_thingOf_108 rfl (fun r M1 h => c_X12_areOne _ _ _ _ _ _ _ h) (fun r3 M2 => ?_)
        refine v_ifeq X 114 118 dX12_thingOf_111 rfl rfl ?_ ?_
        · exact v_sb [0, 1, 3] (L_X12_thingOf_118 X Y ih _ _ _ _ _) rfl
        · refine v_iconst X 115 dX12_thingOf_114 ik_1 rfl ?_
          refine v_goto X 119 dX12_thingOf_115 rfl ?_
          exact v_sb [0, 1, 3] (L_X12_thingOf_119 X Y ih _ _ _ _ _ _) rfl
set_option maxRecDepth 4000 in
theorem L_X12_thingOf_204 {G : Gx} (X : Cb G cX12_thingOf 6 RX12 (RM 3 0 0) false) (Y : Cr G (some .int) 0 0) {K163 : Nat → Int32 → Int32 → Int32 → MM → Option (Int32 × MM)} (hK163 : ∀ (x1 : Nat) (x2 : Int32) (x4 : Int32) (x5 : Int32) (M : MM), V G trI 6 0 0 163 [(1, .ref x1), (2, .int x2), (4, .int x4), (5, .int x5)] [] M (K163 x1 x2 x4 x5 M)) (x1 : Nat) (x2 : Int32) (x5 : Int32) (s0 : Int32) (s1 : Int32) (M : MM) : V G trI 6 0 0 204 [(1, .ref x1), (2, .int x2), (5, .int x5)] [.int s0, .int s1] M (f_X12_thingOf_204 K163 x1 x2 x5 s0 s1 M) := by
  unfold f_X12_thingOf_204
  refine v_sI X 207 cs_X12_flag ml_X12_171 (n1 := 1) rfl [.int s0] rfl rfl rfl dX12_thingOf_204 rfl (fun r M1 h => c_X12_flag _ _ _ _ _ h) (fun r2 M1 => ?_)
  refine v_iadd X 208 dX12_thingOf_207 rfl ?_
  refine v_bnI (fun y3 => ?_)
  refine v_istore (lv' := [(1, .ref x1), (2, .int x2), (4, .int y3), (5, .int x5)]) X 210 dX12_thingOf_208 (by decide) rfl rfl ?_
  refine v_iinc X 213 3 (fun z => [(1, .ref x1), (2, .int x2), (4, .int y3), (5, .int z)]) dX12_thingOf_210 rfl ik_1 (by decide) (fun _ => rfl) rfl (fun y4 => ?_)
  refine v_goto X 163 dX12_thingOf_213 rfl ?_
  exact hK163 _ _ _ _ _
set_option maxRecDepth 4000 in
theorem L_X12_thingOf_203 {G : Gx} (X : Cb G cX12_thingOf 6 RX12 (RM 3 0 0) false) (Y : Cr G (some .int) 0 0) {K163 : Nat → Int32 → Int32 → Int32 → MM → Option (Int32 × MM)} (hK163 : ∀ (x1 : Nat) (x2 : Int32) (x4 : Int32) (x5 : Int32) (M : MM), V G trI 6 0 0 163 [(1, .ref x1), (2, .int x2), (4, .int x4), (5, .int x5)] [] M (K163 x1 x2 x4 x5 M)) (x1 : Nat) (x2 : Int32) (x5 : Int32) (s0 : Int32) (M : MM) : V G trI 6 0 0 203 [(1, .ref x1), (2, .int x2), (5, .int x5)] [.int s0] M (f_X12_thingOf_203 K163 x1 x2 x5 s0 M) := by
  unfold f_X12_thingOf_203
  refine v_iconst X 204 dX12_thingOf_203 ik_0 rfl ?_
  exact L_X12_thingOf_204 X Y hK163 _ _ _ _ _ _
set_option maxRecDepth 4000 in
theorem L_X12_thingOf_226 {G : Gx} (X : Cb G cX12_thingOf 6 RX12 (RM 3 0 0) false) (Y : Cr G (some .int) 0 0) (s0 : Int32) (M : MM) : V G trI 6 0 0 226 [] [.int s0] M (f_X12_thingOf_226 s0 M) := by
  unfold f_X12_thingOf_226
  refine v_sI X 229 cs_X12_flag ml_X12_171 (n1 := 1) rfl [.int s0] rfl rfl rfl dX12_thingOf_226 rfl (fun r M1 h => c_X12_flag _ _ _ _ _ h) (fun r2 M1 => ?_)
  exact v_iret X Y (Nat.le_refl _) (Nat.le_refl _) dX12_thingOf_229
set_option maxRecDepth 4000 in
theorem L_X12_thingOf_163 {G : Gx} (X : Cb G cX12_thingOf 6 RX12 (RM 3 0 0) false) (Y : Cr G (some .int) 0 0) : ∀ (n : Nat) (x1 : Nat) (x2 : Int32) (x4 : Int32) (x5 : Int32) (M : MM), V G trI 6 0 0 163 [(1, .ref x1), (2, .int x2), (4, .int x4), (5, .int x5)] [] M (f_X12_thingOf_163 n x1 x2 x4 x5 M) := by
  intro n
  induction n with
  | zero => intro x1 x2 x4 x5 M; rw [f_X12_thingOf_163]; exact v_none
  | succ n ih =>
    intro x1 x2 x4 x5 M
    rw [f_X12_thingOf_163]
    refine v_iload X 165 3 dX12_thingOf_163 rfl rfl ?_
    refine v_iload_n X 166 1 dX12_thingOf_165 rfl rfl ?_
    refine v_icge X 169 216 dX12_thingOf_166 rfl rfl ?_ ?_
    · refine v_iload X 218 2 dX12_thingOf_216 rfl rfl ?_
      refine v_ifle X 221 225 dX12_thingOf_218 rfl rfl ?_ ?_
      · refine v_iconst X 226 dX12_thingOf_225 ik_0 rfl ?_
        exact v_sb [] (L_X12_thingOf_226 X Y _ _) rfl
      · refine v_iconst X 222 dX12_thingOf_221 ik_1 rfl ?_
        refine v_goto X 226 dX12_thingOf_222 rfl ?_
        exact v_sb [] (L_X12_thingOf_226 X Y _ _) rfl
    · refine v_iload X 171 2 dX12_thingOf_169 rfl rfl ?_
      refine v_aload_n X 172 0 dX12_thingOf_171 rfl rfl ?_
      refine v_iload X 174 3 dX12_thingOf_172 rfl rfl ?_
      refine v_sI X 177 cs_X12_who ml_X12_293 (n1 := 1) rfl [.ref x1, .int x5] rfl rfl rfl dX12_thingOf_174 rfl (fun r M1 h => c_X12_who _ _ _ _ _ _ h) (fun r2 M1 => ?_)
      refine v_aload_n X 178 0 dX12_thingOf_177 rfl rfl ?_
      refine v_iload_n X 179 1 dX12_thingOf_178 rfl rfl ?_
      refine v_sI X 182 cs_X12_who ml_X12_293 (n1 := 1) rfl [.ref x1, .int x2] rfl rfl rfl dX12_thingOf_179 rfl (fun r M1 h => c_X12_who _ _ _ _ _ _ h) (fun r4 M3 => ?_)
      refine v_icne X 185 203 dX12_thingOf_182 rfl rfl ?_ ?_
      · exact v_sb [0, 1, 3] (L_X12_thingOf_203 X Y ih _ _ _ _ _) rfl
      · refine v_aload_n X 186 0 dX12_thingOf_185 rfl rfl ?_
        refine v_iload X 188 3 dX12_thingOf_186 rfl rfl ?_
        refine v_sI X 191 cs_X12_what ml_X12_278 (n1 := 1) rfl [.ref x1, .int x5] rfl rfl rfl dX12_thingOf_188 rfl (fun r M1 h => c_X12_what _ _ _ _ _ _ h) (fun r6 M5 => ?_)
        refine v_aload_n X 192 0 dX12_thingOf_191 rfl rfl ?_
        refine v_iload_n X 193 1 dX12_thingOf_192 rfl rfl ?_
        refine v_sI X 196 cs_X12_what ml_X12_278 (n1 := 1) rfl [.ref x1, .int x2] rfl rfl rfl dX12_thingOf_193 rfl (fun r M1 h => c_X12_what _ _ _ _ _ _ h) (fun r8 M7 => ?_)
        refine v_icne X 199 203 dX12_thingOf_196 rfl rfl ?_ ?_
        · exact v_sb [0, 1, 3] (L_X12_thingOf_203 X Y ih _ _ _ _ _) rfl
        · refine v_iconst X 200 dX12_thingOf_199 ik_1 rfl ?_
          refine v_goto X 204 dX12_thingOf_200 rfl ?_
          exact v_sb [0, 1, 3] (L_X12_thingOf_204 X Y ih _ _ _ _ _ _) rfl
set_option maxRecDepth 4000 in
theorem L_X12_thingOf_0 {G : Gx} (X : Cb G cX12_thingOf 6 RX12 (RM 3 0 0) false) (Y : Cr G (some .int) 0 0) (x0 : Nat) (x1 : Nat) (x2 : Int32) (x3 : Int32) (M : MM) : V G trI 6 0 0 0 [(0, .ref x0), (1, .ref x1), (2, .int x2), (3, .int x3)] [] M (f_X12_thingOf_0 x0 x1 x2 x3 M) := by
  unfold f_X12_thingOf_0
  refine v_iconst X 1 dX12_thingOf_0 ik_0 rfl ?_
  refine v_istore (lv' := [(0, .ref x0), (1, .ref x1), (2, .int x2), (3, .int x3), (4, .int (0 : Int32))]) X 3 dX12_thingOf_1 (by decide) rfl rfl ?_
  refine v_iload_n X 4 3 dX12_thingOf_3 rfl rfl ?_
  refine v_ite (fun e => ?_) (fun e0 => ?_)
  · refine v_tabIn X 48 dX12_thingOf_4 e rfl ?_
    refine v_aload_n X 49 0 dX12_thingOf_48 rfl rfl ?_
    refine v_getR X 52 fl_X12_21.r dX12_thingOf_49 rfl (fun v1 => ?_)
    refine v_bipush X 54 dX12_thingOf_52 bk_8 rfl ?_
    refine v_aload_n X 55 1 dX12_thingOf_54 rfl rfl ?_
    refine v_iload_n X 56 2 dX12_thingOf_55 rfl rfl ?_
    refine v_sI X 59 cs_X12_who ml_X12_293 (n1 := 1) rfl [.ref x1, .int x2] rfl rfl rfl dX12_thingOf_56 rfl (fun r M1 h => c_X12_who _ _ _ _ _ _ h) (fun r3 M2 => ?_)
    refine v_imul X 60 dX12_thingOf_59 rfl ?_
    refine v_aload_n X 61 1 dX12_thingOf_60 rfl rfl ?_
    refine v_iload_n X 62 2 dX12_thingOf_61 rfl rfl ?_
    refine v_sI X 65 cs_X12_what ml_X12_278 (n1 := 1) rfl [.ref x1, .int x2] rfl rfl rfl dX12_thingOf_62 rfl (fun r M1 h => c_X12_what _ _ _ _ _ _ h) (fun r5 M4 => ?_)
    refine v_iadd X 66 dX12_thingOf_65 rfl ?_
    refine v_iald X 67 dX12_thingOf_66 rfl (fun v6 => ?_)
    exact v_iret X Y (Nat.le_refl _) (Nat.le_refl _) dX12_thingOf_67
  refine v_ite (fun e => ?_) (fun e1 => ?_)
  · refine v_tabIn X 68 dX12_thingOf_4 e rfl ?_
    refine v_aload_n X 69 0 dX12_thingOf_68 rfl rfl ?_
    refine v_aload_n X 70 1 dX12_thingOf_69 rfl rfl ?_
    refine v_iload_n X 71 2 dX12_thingOf_70 rfl rfl ?_
    refine v_sI X 74 cs_X12_what ml_X12_278 (n1 := 1) rfl [.ref x1, .int x2] rfl rfl rfl dX12_thingOf_71 rfl (fun r M1 h => c_X12_what _ _ _ _ _ _ h) (fun r8 M7 => ?_)
    refine v_vI X 77 cv_X12_awayLong ml_X12_281 (n1 := 1) rfl [.int r8] rfl rfl rfl dX12_thingOf_74 rfl (fun r M1 h => c_X12_awayLong _ _ _ _ _ _ h) (fun r10 M9 => ?_)
    exact v_iret X Y (Nat.le_refl _) (Nat.le_refl _) dX12_thingOf_77
  refine v_ite (fun e => ?_) (fun e2 => ?_)
  · refine v_tabIn X 78 dX12_thingOf_4 e rfl ?_
    refine v_aload_n X 79 1 dX12_thingOf_78 rfl rfl ?_
    refine v_iload_n X 80 2 dX12_thingOf_79 rfl rfl ?_
    refine v_sI X 83 cs_X12_start ml_X12_274 (n1 := 1) rfl [.ref x1, .int x2] rfl rfl rfl dX12_thingOf_80 rfl (fun r M1 h => c_X12_start _ _ _ _ _ _ h) (fun r12 M11 => ?_)
    exact v_iret X Y (Nat.le_refl _) (Nat.le_refl _) dX12_thingOf_83
  refine v_ite (fun e => ?_) (fun e3 => ?_)
  · refine v_tabIn X 84 dX12_thingOf_4 e rfl ?_
    refine v_iconst X 85 dX12_thingOf_84 ik_0 rfl ?_
    refine v_istore (lv' := [(0, .ref x0), (1, .ref x1), (2, .int x2), (3, .int x3), (4, .int (0 : Int32)), (5, .int (0 : Int32))]) X 87 dX12_thingOf_85 (by decide) rfl rfl ?_
    exact v_sb [1, 2, 4, 5] (L_X12_thingOf_87 X Y 1024 _ _ _ _ _) rfl
  refine v_ite (fun e => ?_) (fun e4 => ?_)
  · refine v_tabIn X 134 dX12_thingOf_4 e rfl ?_
    refine v_aload_n X 135 1 dX12_thingOf_134 rfl rfl ?_
    refine v_iload_n X 136 2 dX12_thingOf_135 rfl rfl ?_
    refine v_sI X 139 cs_X12_who ml_X12_293 (n1 := 1) rfl [.ref x1, .int x2] rfl rfl rfl dX12_thingOf_136 rfl (fun r M1 h => c_X12_who _ _ _ _ _ _ h) (fun r14 M13 => ?_)
    exact v_iret X Y (Nat.le_refl _) (Nat.le_refl _) dX12_thingOf_139
  refine v_ite (fun e => ?_) (fun e5 => ?_)
  · refine v_tabIn X 140 dX12_thingOf_4 e rfl ?_
    refine v_aload_n X 141 1 dX12_thingOf_140 rfl rfl ?_
    refine v_iload_n X 142 2 dX12_thingOf_141 rfl rfl ?_
    refine v_sI X 145 cs_X12_what ml_X12_278 (n1 := 1) rfl [.ref x1, .int x2] rfl rfl rfl dX12_thingOf_142 rfl (fun r M1 h => c_X12_what _ _ _ _ _ _ h) (fun r16 M15 => ?_)
    exact v_iret X Y (Nat.le_refl _) (Nat.le_refl _) dX12_thingOf_145
  refine v_ite (fun e => ?_) (fun e6 => ?_)
  · refine v_tabIn X 146 dX12_thingOf_4 e rfl ?_
    refine v_aload_n X 147 0 dX12_thingOf_146 rfl rfl ?_
    refine v_getR X 150 fl_X12_17.r dX12_thingOf_147 rfl (fun v17 => ?_)
    refine v_aload_n X 151 1 dX12_thingOf_150 rfl rfl ?_
    refine v_iload_n X 152 2 dX12_thingOf_151 rfl rfl ?_
    refine v_sI X 155 cs_X12_who ml_X12_293 (n1 := 1) rfl [.ref x1, .int x2] rfl rfl rfl dX12_thingOf_152 rfl (fun r M1 h => c_X12_who _ _ _ _ _ _ h) (fun r19 M18 => ?_)
    refine v_zald X 156 dX12_thingOf_155 rfl (fun v20 => ?_)
    refine v_sI X 159 cs_X12_flag ml_X12_171 (n1 := 1) rfl [.int v20] rfl rfl rfl dX12_thingOf_156 rfl (fun r M1 h => c_X12_flag _ _ _ _ _ h) (fun r22 M21 => ?_)
    exact v_iret X Y (Nat.le_refl _) (Nat.le_refl _) dX12_thingOf_159
  refine v_tabOut X 160 dX12_thingOf_4 [0, 1, 2, 3, 4, 5, 6] ⟨e0, e1, e2, e3, e4, e5, e6, trivial⟩ rfl rfl ?_
  refine v_iconst X 161 dX12_thingOf_160 ik_0 rfl ?_
  refine v_istore (lv' := [(0, .ref x0), (1, .ref x1), (2, .int x2), (3, .int x3), (4, .int (0 : Int32)), (5, .int (0 : Int32))]) X 163 dX12_thingOf_161 (by decide) rfl rfl ?_
  exact v_sb [1, 2, 4, 5] (L_X12_thingOf_163 X Y 1024 _ _ _ _ _) rfl
theorem c_X12_thingOf (l : Launch) (x0 : Nat) (x1 : Nat) (x2 : Int32) (x3 : Int32) (M : MM) (r : Int32) (M1 : MM) (h : f_X12_thingOf x0 x1 x2 x3 M = some (r, M1)) : KV l yX12_thingOf cX12_thingOf 6 (some .int) (RM 3 0 0) false 12 x0 [.ref x1, .int x2, .int x3] M (some (.int r)) M1 := by
  obtain ⟨hO, h2⟩ := iteO_some h
  exact ⟨hO, ct_of (tr := trI) (by decide) (Nat.le_of_ble_eq_true rfl) [(0, .ref x0), (1, .ref x1), (2, .int x2), (3, .int x3)] rfl h2 (fun G X Y hn hl => L_X12_thingOf_0 X Y x0 x1 x2 x3 M)⟩

def f_X12_worthOf_130 (K5 : Nat → Nat → Int32 → Int32 → Int32 → MM → Option (Int32 × MM)) (x0 : Nat) (x1 : Nat) (x2 : Int32) (x3 : Int32) (x4 : Int32) (M : MM) : Option (Int32 × MM) :=
    bn (x4 + 1 : Int32) fun y1 =>
    K5 x0 x1 x2 x3 y1 M

def f_X12_worthOf_126 (K5 : Nat → Nat → Int32 → Int32 → Int32 → MM → Option (Int32 × MM)) (x0 : Nat) (x1 : Nat) (x2 : Int32) (x3 : Int32) (x4 : Int32) (s0 : Int32) (s1 : Int32) (s2 : Nat) (M : MM) : Option (Int32 × MM) :=
    b1 (stI s2 s1 s0 M) fun M1 =>
    bn (x3 + 1 : Int32) fun y2 =>
    f_X12_worthOf_130 K5 x0 x1 x2 y2 x4 M1

def f_X12_worthOf_159 (s0 : Int32) (M : MM) : Option (Int32 × MM) :=
    some (maxI (-999 : Int32) (minI (999 : Int32) s0), M)

def f_X12_worthOf_5 : Nat → Nat → Nat → Int32 → Int32 → Int32 → MM → Option (Int32 × MM)
  | 0, _, _, _, _, _, _ => none
  | n + 1, x0, x1, x2, x3, x4, M =>
    b1 (gI 12 29 x0 M) fun v1 =>
    if v1 ≤ x4 then
      b1 (gI 12 29 x0 M) fun v2 =>
      if v2 = 0 then
        b2 (f_X12_thingOf x0 x1 x2 (0 : Int32) M) fun r6 M5 =>
        f_X12_worthOf_159 r6 M5
      else
        b1 (gR 12 31 x0 M) fun v3 =>
        b1 (ldI v3 (0 : Int32) M) fun v4 =>
        f_X12_worthOf_159 v4 M
    else
      b1 (gR 12 27 x0 M) fun v7 =>
      b1 (ldI v7 x4 M) fun v8 =>
      if v8 = (3000 : Int32) then
        b1 (gR 12 31 x0 M) fun v21 =>
        b1 (gR 12 31 x0 M) fun v22 =>
        b1 (ldI v22 (x3 - (1 : Int32)) M) fun v23 =>
        b1 (stI v21 (x3 - (1 : Int32)) (-v23) M) fun M24 =>
        f_X12_worthOf_130 (f_X12_worthOf_5 n) x0 x1 x2 x3 x4 M24
      else
        if v8 < (2000 : Int32) then
          b1 (gR 12 31 x0 M) fun v9 =>
          if v8 < (1000 : Int32) then
            f_X12_worthOf_126 (f_X12_worthOf_5 n) x0 x1 x2 x3 x4 v8 x3 v9 M
          else
            b2 (f_X12_thingOf x0 x1 x2 (v8 - (1000 : Int32)) M) fun r11 M10 =>
            f_X12_worthOf_126 (f_X12_worthOf_5 n) x0 x1 x2 x3 x4 r11 x3 v9 M10
        else
          bn (x3 + (-1) : Int32) fun y12 =>
          b1 (gR 12 31 x0 M) fun v13 =>
          b1 (gR 12 31 x0 M) fun v14 =>
          b1 (ldI v14 (y12 - (1 : Int32)) M) fun v15 =>
          b1 (gR 12 31 x0 M) fun v16 =>
          b1 (ldI v16 y12 M) fun v17 =>
          b2 (f_X12_worked (v8 - (2000 : Int32)) v15 v17 M) fun r19 M18 =>
          b1 (stI v13 (y12 - (1 : Int32)) r19 M18) fun M20 =>
          f_X12_worthOf_130 (f_X12_worthOf_5 n) x0 x1 x2 y12 x4 M20

def f_X12_worthOf_0 (x0 : Nat) (x1 : Nat) (x2 : Int32) (M : MM) : Option (Int32 × MM) :=
    f_X12_worthOf_5 1024 x0 x1 x2 (0 : Int32) (0 : Int32) M

def f_X12_worthOf (x0 : Nat) (x1 : Nat) (x2 : Int32) (M : MM) : Option (Int32 × MM) := if isO 12 x0 M = true then f_X12_worthOf_0 x0 x1 x2 M else none
set_option maxRecDepth 4000 in
theorem L_X12_worthOf_130 {G : Gx} (X : Cb G cX12_worthOf 6 RX12 (RM 4 0 0) false) (Y : Cr G (some .int) 0 0) {K5 : Nat → Nat → Int32 → Int32 → Int32 → MM → Option (Int32 × MM)} (hK5 : ∀ (x0 : Nat) (x1 : Nat) (x2 : Int32) (x3 : Int32) (x4 : Int32) (M : MM), V G trI 6 0 0 5 [(0, .ref x0), (1, .ref x1), (2, .int x2), (3, .int x3), (4, .int x4)] [] M (K5 x0 x1 x2 x3 x4 M)) (x0 : Nat) (x1 : Nat) (x2 : Int32) (x3 : Int32) (x4 : Int32) (M : MM) : V G trI 6 0 0 130 [(0, .ref x0), (1, .ref x1), (2, .int x2), (3, .int x3), (4, .int x4)] [] M (f_X12_worthOf_130 K5 x0 x1 x2 x3 x4 M) := by
  unfold f_X12_worthOf_130
  refine v_iinc X 133 4 (fun z => [(0, .ref x0), (1, .ref x1), (2, .int x2), (3, .int x3), (4, .int z)]) dX12_worthOf_130 rfl ik_1 (by decide) (fun _ => rfl) rfl (fun y1 => ?_)
  refine v_goto X 5 dX12_worthOf_133 rfl ?_
  exact hK5 _ _ _ _ _ _
set_option maxRecDepth 4000 in
theorem L_X12_worthOf_126 {G : Gx} (X : Cb G cX12_worthOf 6 RX12 (RM 4 0 0) false) (Y : Cr G (some .int) 0 0) {K5 : Nat → Nat → Int32 → Int32 → Int32 → MM → Option (Int32 × MM)} (hK5 : ∀ (x0 : Nat) (x1 : Nat) (x2 : Int32) (x3 : Int32) (x4 : Int32) (M : MM), V G trI 6 0 0 5 [(0, .ref x0), (1, .ref x1), (2, .int x2), (3, .int x3), (4, .int x4)] [] M (K5 x0 x1 x2 x3 x4 M)) (x0 : Nat) (x1 : Nat) (x2 : Int32) (x3 : Int32) (x4 : Int32) (s0 : Int32) (s1 : Int32) (s2 : Nat) (M : MM) : V G trI 6 0 0 126 [(0, .ref x0), (1, .ref x1), (2, .int x2), (3, .int x3), (4, .int x4)] [.int s0, .int s1, .ref s2] M (f_X12_worthOf_126 K5 x0 x1 x2 x3 x4 s0 s1 s2 M) := by
  unfold f_X12_worthOf_126
  refine v_iast X 127 dX12_worthOf_126 rfl (fun M1 => ?_)
  refine v_iinc X 130 3 (fun z => [(0, .ref x0), (1, .ref x1), (2, .int x2), (3, .int z), (4, .int x4)]) dX12_worthOf_127 rfl ik_1 (by decide) (fun _ => rfl) rfl (fun y2 => ?_)
  exact L_X12_worthOf_130 X Y hK5 _ _ _ _ _ _
set_option maxRecDepth 4000 in
theorem L_X12_worthOf_159 {G : Gx} (X : Cb G cX12_worthOf 6 RX12 (RM 4 0 0) false) (Y : Cr G (some .int) 0 0) (s0 : Int32) (M : MM) : V G trI 6 0 0 159 [] [.int s0] M (f_X12_worthOf_159 s0 M) := by
  unfold f_X12_worthOf_159
  refine v_istore (lv' := [(4, .int s0)]) X 161 dX12_worthOf_159 (by decide) rfl rfl ?_
  refine v_sipush X 164 dX12_worthOf_161 sk_m999 rfl ?_
  refine v_sipush X 167 dX12_worthOf_164 sk_999 rfl ?_
  refine v_iload X 169 0 dX12_worthOf_167 rfl rfl ?_
  refine v_min X 172 ml_X12_162 w_min (Nat.le_of_ble_eq_true rfl) (Nat.le_of_ble_eq_true rfl) (Nat.zero_le _) (Nat.zero_le _) dX12_worthOf_169 rfl ?_
  refine v_max X 175 ml_X12_311 w_max (Nat.le_of_ble_eq_true rfl) (Nat.le_of_ble_eq_true rfl) (Nat.zero_le _) (Nat.zero_le _) dX12_worthOf_172 rfl ?_
  exact v_iret X Y (Nat.le_refl _) (Nat.le_refl _) dX12_worthOf_175
set_option maxRecDepth 4000 in
theorem L_X12_worthOf_5 {G : Gx} (X : Cb G cX12_worthOf 6 RX12 (RM 4 0 0) false) (Y : Cr G (some .int) 0 0) : ∀ (n : Nat) (x0 : Nat) (x1 : Nat) (x2 : Int32) (x3 : Int32) (x4 : Int32) (M : MM), V G trI 6 0 0 5 [(0, .ref x0), (1, .ref x1), (2, .int x2), (3, .int x3), (4, .int x4)] [] M (f_X12_worthOf_5 n x0 x1 x2 x3 x4 M) := by
  intro n
  induction n with
  | zero => intro x0 x1 x2 x3 x4 M; rw [f_X12_worthOf_5]; exact v_none
  | succ n ih =>
    intro x0 x1 x2 x3 x4 M
    rw [f_X12_worthOf_5]
    refine v_iload X 7 4 dX12_worthOf_5 rfl rfl ?_
    refine v_aload_n X 8 0 dX12_worthOf_7 rfl rfl ?_
    refine v_getI X 11 fl_X12_271.r dX12_worthOf_8 rfl (fun v1 => ?_)
    refine v_icge X 14 136 dX12_worthOf_11 rfl rfl ?_ ?_
    · refine v_aload_n X 137 0 dX12_worthOf_136 rfl rfl ?_
      refine v_getI X 140 fl_X12_271.r dX12_worthOf_137 rfl (fun v2 => ?_)
      refine v_ifne X 143 153 dX12_worthOf_140 rfl rfl ?_ ?_
      · refine v_aload_n X 154 0 dX12_worthOf_153 rfl rfl ?_
        refine v_getR X 157 fl_X12_67.r dX12_worthOf_154 rfl (fun v3 => ?_)
        refine v_iconst X 158 dX12_worthOf_157 ik_0 rfl ?_
        refine v_iald X 159 dX12_worthOf_158 rfl (fun v4 => ?_)
        exact v_sb [] (L_X12_worthOf_159 X Y _ _) rfl
      · refine v_aload_n X 144 0 dX12_worthOf_143 rfl rfl ?_
        refine v_aload_n X 145 1 dX12_worthOf_144 rfl rfl ?_
        refine v_iload_n X 146 2 dX12_worthOf_145 rfl rfl ?_
        refine v_iconst X 147 dX12_worthOf_146 ik_0 rfl ?_
        refine v_vI X 150 cv_X12_thingOf ml_X12_307 (n1 := 3) rfl [.ref x1, .int x2, .int (0 : Int32)] rfl rfl rfl dX12_worthOf_147 rfl (fun r M1 h => c_X12_thingOf _ _ _ _ _ _ _ _ h) (fun r6 M5 => ?_)
        refine v_goto X 159 dX12_worthOf_150 rfl ?_
        exact v_sb [] (L_X12_worthOf_159 X Y _ _) rfl
    · refine v_aload_n X 15 0 dX12_worthOf_14 rfl rfl ?_
      refine v_getR X 18 fl_X12_61.r dX12_worthOf_15 rfl (fun v7 => ?_)
      refine v_iload X 20 4 dX12_worthOf_18 rfl rfl ?_
      refine v_iald X 21 dX12_worthOf_20 rfl (fun v8 => ?_)
      refine v_istore (lv' := [(0, .ref x0), (1, .ref x1), (2, .int x2), (3, .int x3), (4, .int x4), (5, .int v8)]) X 23 dX12_worthOf_21 (by decide) rfl rfl ?_
      refine v_iload X 25 5 dX12_worthOf_23 rfl rfl ?_
      refine v_sipush X 28 dX12_worthOf_25 sk_3000 rfl ?_
      refine v_icne X 31 51 dX12_worthOf_28 rfl rfl ?_ ?_
      · refine v_iload X 53 5 dX12_worthOf_51 rfl rfl ?_
        refine v_sipush X 56 dX12_worthOf_53 sk_2000 rfl ?_
        refine v_iclt X 59 96 dX12_worthOf_56 rfl rfl ?_ ?_
        · refine v_aload_n X 97 0 dX12_worthOf_96 rfl rfl ?_
          refine v_getR X 100 fl_X12_67.r dX12_worthOf_97 rfl (fun v9 => ?_)
          refine v_iload_n X 101 3 dX12_worthOf_100 rfl rfl ?_
          refine v_iload X 103 5 dX12_worthOf_101 rfl rfl ?_
          refine v_sipush X 106 dX12_worthOf_103 sk_1000 rfl ?_
          refine v_iclt X 109 124 dX12_worthOf_106 rfl rfl ?_ ?_
          · refine v_iload X 126 5 dX12_worthOf_124 rfl rfl ?_
            exact v_sb [0, 1, 2, 3, 4] (L_X12_worthOf_126 X Y ih _ _ _ _ _ _ _ _ _) rfl
          · refine v_aload_n X 110 0 dX12_worthOf_109 rfl rfl ?_
            refine v_aload_n X 111 1 dX12_worthOf_110 rfl rfl ?_
            refine v_iload_n X 112 2 dX12_worthOf_111 rfl rfl ?_
            refine v_iload X 114 5 dX12_worthOf_112 rfl rfl ?_
            refine v_sipush X 117 dX12_worthOf_114 sk_1000 rfl ?_
            refine v_isub X 118 dX12_worthOf_117 rfl ?_
            refine v_vI X 121 cv_X12_thingOf ml_X12_307 (n1 := 3) rfl [.ref x1, .int x2, .int (v8 - (1000 : Int32))] rfl rfl rfl dX12_worthOf_118 rfl (fun r M1 h => c_X12_thingOf _ _ _ _ _ _ _ _ h) (fun r11 M10 => ?_)
            refine v_goto X 126 dX12_worthOf_121 rfl ?_
            exact v_sb [0, 1, 2, 3, 4] (L_X12_worthOf_126 X Y ih _ _ _ _ _ _ _ _ _) rfl
        · refine v_iinc X 62 3 (fun z => [(0, .ref x0), (1, .ref x1), (2, .int x2), (3, .int z), (4, .int x4), (5, .int v8)]) dX12_worthOf_59 rfl ik_m1 (by decide) (fun _ => rfl) rfl (fun y12 => ?_)
          refine v_aload_n X 63 0 dX12_worthOf_62 rfl rfl ?_
          refine v_getR X 66 fl_X12_67.r dX12_worthOf_63 rfl (fun v13 => ?_)
          refine v_iload_n X 67 3 dX12_worthOf_66 rfl rfl ?_
          refine v_iconst X 68 dX12_worthOf_67 ik_1 rfl ?_
          refine v_isub X 69 dX12_worthOf_68 rfl ?_
          refine v_iload X 71 5 dX12_worthOf_69 rfl rfl ?_
          refine v_sipush X 74 dX12_worthOf_71 sk_2000 rfl ?_
          refine v_isub X 75 dX12_worthOf_74 rfl ?_
          refine v_aload_n X 76 0 dX12_worthOf_75 rfl rfl ?_
          refine v_getR X 79 fl_X12_67.r dX12_worthOf_76 rfl (fun v14 => ?_)
          refine v_iload_n X 80 3 dX12_worthOf_79 rfl rfl ?_
          refine v_iconst X 81 dX12_worthOf_80 ik_1 rfl ?_
          refine v_isub X 82 dX12_worthOf_81 rfl ?_
          refine v_iald X 83 dX12_worthOf_82 rfl (fun v15 => ?_)
          refine v_aload_n X 84 0 dX12_worthOf_83 rfl rfl ?_
          refine v_getR X 87 fl_X12_67.r dX12_worthOf_84 rfl (fun v16 => ?_)
          refine v_iload_n X 88 3 dX12_worthOf_87 rfl rfl ?_
          refine v_iald X 89 dX12_worthOf_88 rfl (fun v17 => ?_)
          refine v_sI X 92 cs_X12_worked ml_X12_303 (n1 := 2) rfl [.int (v8 - (2000 : Int32)), .int v15, .int v17] rfl rfl rfl dX12_worthOf_89 rfl (fun r M1 h => c_X12_worked _ _ _ _ _ _ _ h) (fun r19 M18 => ?_)
          refine v_iast X 93 dX12_worthOf_92 rfl (fun M20 => ?_)
          refine v_goto X 130 dX12_worthOf_93 rfl ?_
          exact v_sb [0, 1, 2, 3, 4] (L_X12_worthOf_130 X Y ih _ _ _ _ _ _) rfl
      · refine v_aload_n X 32 0 dX12_worthOf_31 rfl rfl ?_
        refine v_getR X 35 fl_X12_67.r dX12_worthOf_32 rfl (fun v21 => ?_)
        refine v_iload_n X 36 3 dX12_worthOf_35 rfl rfl ?_
        refine v_iconst X 37 dX12_worthOf_36 ik_1 rfl ?_
        refine v_isub X 38 dX12_worthOf_37 rfl ?_
        refine v_aload_n X 39 0 dX12_worthOf_38 rfl rfl ?_
        refine v_getR X 42 fl_X12_67.r dX12_worthOf_39 rfl (fun v22 => ?_)
        refine v_iload_n X 43 3 dX12_worthOf_42 rfl rfl ?_
        refine v_iconst X 44 dX12_worthOf_43 ik_1 rfl ?_
        refine v_isub X 45 dX12_worthOf_44 rfl ?_
        refine v_iald X 46 dX12_worthOf_45 rfl (fun v23 => ?_)
        refine v_ineg X 47 dX12_worthOf_46 rfl ?_
        refine v_iast X 48 dX12_worthOf_47 rfl (fun M24 => ?_)
        refine v_goto X 130 dX12_worthOf_48 rfl ?_
        exact v_sb [0, 1, 2, 3, 4] (L_X12_worthOf_130 X Y ih _ _ _ _ _ _) rfl
set_option maxRecDepth 4000 in
theorem L_X12_worthOf_0 {G : Gx} (X : Cb G cX12_worthOf 6 RX12 (RM 4 0 0) false) (Y : Cr G (some .int) 0 0) (x0 : Nat) (x1 : Nat) (x2 : Int32) (M : MM) : V G trI 6 0 0 0 [(0, .ref x0), (1, .ref x1), (2, .int x2)] [] M (f_X12_worthOf_0 x0 x1 x2 M) := by
  unfold f_X12_worthOf_0
  refine v_iconst X 1 dX12_worthOf_0 ik_0 rfl ?_
  refine v_istore_n (lv' := [(0, .ref x0), (1, .ref x1), (2, .int x2), (3, .int (0 : Int32))]) X 2 dX12_worthOf_1 (by decide) rfl rfl ?_
  refine v_iconst X 3 dX12_worthOf_2 ik_0 rfl ?_
  refine v_istore (lv' := [(0, .ref x0), (1, .ref x1), (2, .int x2), (3, .int (0 : Int32)), (4, .int (0 : Int32))]) X 5 dX12_worthOf_3 (by decide) rfl rfl ?_
  exact L_X12_worthOf_5 X Y 1024 _ _ _ _ _ _
theorem c_X12_worthOf (l : Launch) (x0 : Nat) (x1 : Nat) (x2 : Int32) (M : MM) (r : Int32) (M1 : MM) (h : f_X12_worthOf x0 x1 x2 M = some (r, M1)) : KV l yX12_worthOf cX12_worthOf 6 (some .int) (RM 4 0 0) false 12 x0 [.ref x1, .int x2] M (some (.int r)) M1 := by
  obtain ⟨hO, h2⟩ := iteO_some h
  exact ⟨hO, ct_of (tr := trI) (by decide) (Nat.le_of_ble_eq_true rfl) [(0, .ref x0), (1, .ref x1), (2, .int x2)] rfl h2 (fun G X Y hn hl => L_X12_worthOf_0 X Y x0 x1 x2 M)⟩

def f_X12_worthAll_4 : Nat → Nat → Nat → Int32 → Int32 → MM → Option (Int32 × MM)
  | 0, _, _, _, _, _ => none
  | n + 1, x0, x1, x2, x3, M =>
    b1 (ldI x1 (45 : Int32) M) fun v1 =>
    if v1 ≤ x3 then
      some (x2, M)
    else
      b2 (f_X12_worthOf x0 x1 x3 M) fun r3 M2 =>
      bn (x2 + r3 : Int32) fun y4 =>
      bn (x3 + 1 : Int32) fun y5 =>
      f_X12_worthAll_4 n x0 x1 y4 y5 M2

def f_X12_worthAll_0 (x0 : Nat) (x1 : Nat) (M : MM) : Option (Int32 × MM) :=
    f_X12_worthAll_4 1024 x0 x1 (0 : Int32) (0 : Int32) M

def f_X12_worthAll (x0 : Nat) (x1 : Nat) (M : MM) : Option (Int32 × MM) := if isO 12 x0 M = true then f_X12_worthAll_0 x0 x1 M else none
set_option maxRecDepth 4000 in
theorem L_X12_worthAll_4 {G : Gx} (X : Cb G cX12_worthAll 4 RX12 (RM 5 0 0) false) (Y : Cr G (some .int) 0 0) : ∀ (n : Nat) (x0 : Nat) (x1 : Nat) (x2 : Int32) (x3 : Int32) (M : MM), V G trI 4 0 0 4 [(0, .ref x0), (1, .ref x1), (2, .int x2), (3, .int x3)] [] M (f_X12_worthAll_4 n x0 x1 x2 x3 M) := by
  intro n
  induction n with
  | zero => intro x0 x1 x2 x3 M; rw [f_X12_worthAll_4]; exact v_none
  | succ n ih =>
    intro x0 x1 x2 x3 M
    rw [f_X12_worthAll_4]
    refine v_iload_n X 5 3 dX12_worthAll_4 rfl rfl ?_
    refine v_aload_n X 6 1 dX12_worthAll_5 rfl rfl ?_
    refine v_bipush X 8 dX12_worthAll_6 bk_45 rfl ?_
    refine v_iald X 9 dX12_worthAll_8 rfl (fun v1 => ?_)
    refine v_icge X 12 27 dX12_worthAll_9 rfl rfl ?_ ?_
    · refine v_iload_n X 28 2 dX12_worthAll_27 rfl rfl ?_
      exact v_iret X Y (Nat.le_refl _) (Nat.le_refl _) dX12_worthAll_28
    · refine v_iload_n X 13 2 dX12_worthAll_12 rfl rfl ?_
      refine v_aload_n X 14 0 dX12_worthAll_13 rfl rfl ?_
      refine v_aload_n X 15 1 dX12_worthAll_14 rfl rfl ?_
      refine v_iload_n X 16 3 dX12_worthAll_15 rfl rfl ?_
      refine v_vI X 19 cv_X12_worthOf ml_X12_314 (n1 := 4) rfl [.ref x1, .int x3] rfl rfl rfl dX12_worthAll_16 rfl (fun r M1 h => c_X12_worthOf _ _ _ _ _ _ _ h) (fun r3 M2 => ?_)
      refine v_iadd X 20 dX12_worthAll_19 rfl ?_
      refine v_bnI (fun y4 => ?_)
      refine v_istore_n (lv' := [(0, .ref x0), (1, .ref x1), (2, .int y4), (3, .int x3)]) X 21 dX12_worthAll_20 (by decide) rfl rfl ?_
      refine v_iinc X 24 3 (fun z => [(0, .ref x0), (1, .ref x1), (2, .int y4), (3, .int z)]) dX12_worthAll_21 rfl ik_1 (by decide) (fun _ => rfl) rfl (fun y5 => ?_)
      refine v_goto X 4 dX12_worthAll_24 rfl ?_
      exact ih _ _ _ _ _
set_option maxRecDepth 4000 in
theorem L_X12_worthAll_0 {G : Gx} (X : Cb G cX12_worthAll 4 RX12 (RM 5 0 0) false) (Y : Cr G (some .int) 0 0) (x0 : Nat) (x1 : Nat) (M : MM) : V G trI 4 0 0 0 [(0, .ref x0), (1, .ref x1)] [] M (f_X12_worthAll_0 x0 x1 M) := by
  unfold f_X12_worthAll_0
  refine v_iconst X 1 dX12_worthAll_0 ik_0 rfl ?_
  refine v_istore_n (lv' := [(0, .ref x0), (1, .ref x1), (2, .int (0 : Int32))]) X 2 dX12_worthAll_1 (by decide) rfl rfl ?_
  refine v_iconst X 3 dX12_worthAll_2 ik_0 rfl ?_
  refine v_istore_n (lv' := [(0, .ref x0), (1, .ref x1), (2, .int (0 : Int32)), (3, .int (0 : Int32))]) X 4 dX12_worthAll_3 (by decide) rfl rfl ?_
  exact L_X12_worthAll_4 X Y 1024 _ _ _ _ _
theorem c_X12_worthAll (l : Launch) (x0 : Nat) (x1 : Nat) (M : MM) (r : Int32) (M1 : MM) (h : f_X12_worthAll x0 x1 M = some (r, M1)) : KV l yX12_worthAll cX12_worthAll 4 (some .int) (RM 5 0 0) false 12 x0 [.ref x1] M (some (.int r)) M1 := by
  obtain ⟨hO, h2⟩ := iteO_some h
  exact ⟨hO, ct_of (tr := trI) (by decide) (Nat.le_of_ble_eq_true rfl) [(0, .ref x0), (1, .ref x1)] rfl h2 (fun G X Y hn hl => L_X12_worthAll_0 X Y x0 x1 M)⟩

def f_X12_benchIn_47 (K12 : Nat → Nat → Int32 → Int32 → Int32 → MM → Option (Int32 × MM)) (x0 : Nat) (x1 : Nat) (x2 : Int32) (x4 : Int32) (s0 : Int32) (s1 : Int32) (M : MM) : Option (Int32 × MM) :=
    bn (s1 &&& s0 : Int32) fun y1 =>
    bn (x4 + 1 : Int32) fun y2 =>
    K12 x0 x1 x2 y1 y2 M

def f_X12_benchIn_12 : Nat → Nat → Nat → Int32 → Int32 → Int32 → MM → Option (Int32 × MM)
  | 0, _, _, _, _, _, _ => none
  | n + 1, x0, x1, x2, x3, x4, M =>
    b1 (ldI x1 (45 : Int32) M) fun v1 =>
    if v1 ≤ x4 then
      some (x3, M)
    else
      b2 (f_X12_isAway x0 x1 x4 x2 M) fun r3 M2 =>
      if r3 = 0 then
        f_X12_benchIn_47 (f_X12_benchIn_12 n) x0 x1 x2 x4 (-1 : Int32) x3 M2
      else
        b2 (f_X12_who x1 x4 M2) fun r5 M4 =>
        f_X12_benchIn_47 (f_X12_benchIn_12 n) x0 x1 x2 x4 (((1 : Int32) <<< (r5 &&& 31)) ^^^ (-1 : Int32)) x3 M4

def f_X12_benchIn_0 (x0 : Nat) (x1 : Nat) (x2 : Int32) (M : MM) : Option (Int32 × MM) :=
    b1 (gI 12 3 x0 M) fun v1 =>
    bn (((1 : Int32) <<< (v1 &&& 31)) - (1 : Int32) : Int32) fun y2 =>
    f_X12_benchIn_12 1024 x0 x1 x2 y2 (0 : Int32) M

def f_X12_benchIn (x0 : Nat) (x1 : Nat) (x2 : Int32) (M : MM) : Option (Int32 × MM) := if isO 12 x0 M = true then f_X12_benchIn_0 x0 x1 x2 M else none
set_option maxRecDepth 4000 in
theorem L_X12_benchIn_47 {G : Gx} (X : Cb G cX12_benchIn 5 RX12 (RM 4 0 0) false) (Y : Cr G (some .int) 0 0) {K12 : Nat → Nat → Int32 → Int32 → Int32 → MM → Option (Int32 × MM)} (hK12 : ∀ (x0 : Nat) (x1 : Nat) (x2 : Int32) (x3 : Int32) (x4 : Int32) (M : MM), V G trI 5 0 0 12 [(0, .ref x0), (1, .ref x1), (2, .int x2), (3, .int x3), (4, .int x4)] [] M (K12 x0 x1 x2 x3 x4 M)) (x0 : Nat) (x1 : Nat) (x2 : Int32) (x4 : Int32) (s0 : Int32) (s1 : Int32) (M : MM) : V G trI 5 0 0 47 [(0, .ref x0), (1, .ref x1), (2, .int x2), (4, .int x4)] [.int s0, .int s1] M (f_X12_benchIn_47 K12 x0 x1 x2 x4 s0 s1 M) := by
  unfold f_X12_benchIn_47
  refine v_iand X 48 dX12_benchIn_47 rfl ?_
  refine v_bnI (fun y1 => ?_)
  refine v_istore_n (lv' := [(0, .ref x0), (1, .ref x1), (2, .int x2), (3, .int y1), (4, .int x4)]) X 49 dX12_benchIn_48 (by decide) rfl rfl ?_
  refine v_iinc X 52 4 (fun z => [(0, .ref x0), (1, .ref x1), (2, .int x2), (3, .int y1), (4, .int z)]) dX12_benchIn_49 rfl ik_1 (by decide) (fun _ => rfl) rfl (fun y2 => ?_)
  refine v_goto X 12 dX12_benchIn_52 rfl ?_
  exact hK12 _ _ _ _ _ _
set_option maxRecDepth 4000 in
theorem L_X12_benchIn_12 {G : Gx} (X : Cb G cX12_benchIn 5 RX12 (RM 4 0 0) false) (Y : Cr G (some .int) 0 0) : ∀ (n : Nat) (x0 : Nat) (x1 : Nat) (x2 : Int32) (x3 : Int32) (x4 : Int32) (M : MM), V G trI 5 0 0 12 [(0, .ref x0), (1, .ref x1), (2, .int x2), (3, .int x3), (4, .int x4)] [] M (f_X12_benchIn_12 n x0 x1 x2 x3 x4 M) := by
  intro n
  induction n with
  | zero => intro x0 x1 x2 x3 x4 M; rw [f_X12_benchIn_12]; exact v_none
  | succ n ih =>
    intro x0 x1 x2 x3 x4 M
    rw [f_X12_benchIn_12]
    refine v_iload X 14 4 dX12_benchIn_12 rfl rfl ?_
    refine v_aload_n X 15 1 dX12_benchIn_14 rfl rfl ?_
    refine v_bipush X 17 dX12_benchIn_15 bk_45 rfl ?_
    refine v_iald X 18 dX12_benchIn_17 rfl (fun v1 => ?_)
    refine v_icge X 21 55 dX12_benchIn_18 rfl rfl ?_ ?_
    · refine v_iload_n X 56 3 dX12_benchIn_55 rfl rfl ?_
      exact v_iret X Y (Nat.le_refl _) (Nat.le_refl _) dX12_benchIn_56
    · refine v_iload_n X 22 3 dX12_benchIn_21 rfl rfl ?_
      refine v_aload_n X 23 0 dX12_benchIn_22 rfl rfl ?_
      refine v_aload_n X 24 1 dX12_benchIn_23 rfl rfl ?_
      refine v_iload X 26 4 dX12_benchIn_24 rfl rfl ?_
      refine v_iload_n X 27 2 dX12_benchIn_26 rfl rfl ?_
      refine v_vI X 30 cv_X12_isAway ml_X12_317 (n1 := 3) rfl [.ref x1, .int x4, .int x2] rfl rfl rfl dX12_benchIn_27 rfl (fun r M1 h => c_X12_isAway _ _ _ _ _ _ _ _ h) (fun r3 M2 => ?_)
      refine v_ifeq X 33 46 dX12_benchIn_30 rfl rfl ?_ ?_
      · refine v_iconst X 47 dX12_benchIn_46 ik_m1 rfl ?_
        exact v_sb [0, 1, 2, 4] (L_X12_benchIn_47 X Y ih _ _ _ _ _ _ _) rfl
      · refine v_iconst X 34 dX12_benchIn_33 ik_1 rfl ?_
        refine v_aload_n X 35 1 dX12_benchIn_34 rfl rfl ?_
        refine v_iload X 37 4 dX12_benchIn_35 rfl rfl ?_
        refine v_sI X 40 cs_X12_who ml_X12_293 (n1 := 1) rfl [.ref x1, .int x4] rfl rfl rfl dX12_benchIn_37 rfl (fun r M1 h => c_X12_who _ _ _ _ _ _ h) (fun r5 M4 => ?_)
        refine v_ishl X 41 dX12_benchIn_40 rfl ?_
        refine v_iconst X 42 dX12_benchIn_41 ik_m1 rfl ?_
        refine v_ixor X 43 dX12_benchIn_42 rfl ?_
        refine v_goto X 47 dX12_benchIn_43 rfl ?_
        exact v_sb [0, 1, 2, 4] (L_X12_benchIn_47 X Y ih _ _ _ _ _ _ _) rfl
set_option maxRecDepth 4000 in
theorem L_X12_benchIn_0 {G : Gx} (X : Cb G cX12_benchIn 5 RX12 (RM 4 0 0) false) (Y : Cr G (some .int) 0 0) (x0 : Nat) (x1 : Nat) (x2 : Int32) (M : MM) : V G trI 5 0 0 0 [(0, .ref x0), (1, .ref x1), (2, .int x2)] [] M (f_X12_benchIn_0 x0 x1 x2 M) := by
  unfold f_X12_benchIn_0
  refine v_iconst X 1 dX12_benchIn_0 ik_1 rfl ?_
  refine v_aload_n X 2 0 dX12_benchIn_1 rfl rfl ?_
  refine v_getI X 5 fl_X12_143.r dX12_benchIn_2 rfl (fun v1 => ?_)
  refine v_ishl X 6 dX12_benchIn_5 rfl ?_
  refine v_iconst X 7 dX12_benchIn_6 ik_1 rfl ?_
  refine v_isub X 8 dX12_benchIn_7 rfl ?_
  refine v_bnI (fun y2 => ?_)
  refine v_istore_n (lv' := [(0, .ref x0), (1, .ref x1), (2, .int x2), (3, .int y2)]) X 9 dX12_benchIn_8 (by decide) rfl rfl ?_
  refine v_iconst X 10 dX12_benchIn_9 ik_0 rfl ?_
  refine v_istore (lv' := [(0, .ref x0), (1, .ref x1), (2, .int x2), (3, .int y2), (4, .int (0 : Int32))]) X 12 dX12_benchIn_10 (by decide) rfl rfl ?_
  exact L_X12_benchIn_12 X Y 1024 _ _ _ _ _ _
theorem c_X12_benchIn (l : Launch) (x0 : Nat) (x1 : Nat) (x2 : Int32) (M : MM) (r : Int32) (M1 : MM) (h : f_X12_benchIn x0 x1 x2 M = some (r, M1)) : KV l yX12_benchIn cX12_benchIn 5 (some .int) (RM 4 0 0) false 12 x0 [.ref x1, .int x2] M (some (.int r)) M1 := by
  obtain ⟨hO, h2⟩ := iteO_some h
  exact ⟨hO, ct_of (tr := trI) (by decide) (Nat.le_of_ble_eq_true rfl) [(0, .ref x0), (1, .ref x1), (2, .int x2)] rfl h2 (fun G X Y hn hl => L_X12_benchIn_0 X Y x0 x1 x2 M)⟩

def f_X12_seersIn_52 (K5 : Nat → Nat → Int32 → Int32 → Int32 → MM → Option (Int32 × MM)) (x0 : Nat) (x1 : Nat) (x2 : Int32) (x4 : Int32) (s0 : Int32) (s1 : Int32) (M : MM) : Option (Int32 × MM) :=
    bn (s1 ||| s0 : Int32) fun y1 =>
    bn (x4 + 1 : Int32) fun y2 =>
    K5 x0 x1 x2 y1 y2 M

def f_X12_seersIn_51 (K5 : Nat → Nat → Int32 → Int32 → Int32 → MM → Option (Int32 × MM)) (x0 : Nat) (x1 : Nat) (x2 : Int32) (x4 : Int32) (s0 : Int32) (M : MM) : Option (Int32 × MM) :=
    f_X12_seersIn_52 K5 x0 x1 x2 x4 (0 : Int32) s0 M

def f_X12_seersIn_5 : Nat → Nat → Nat → Int32 → Int32 → Int32 → MM → Option (Int32 × MM)
  | 0, _, _, _, _, _, _ => none
  | n + 1, x0, x1, x2, x3, x4, M =>
    b1 (ldI x1 (45 : Int32) M) fun v1 =>
    if v1 ≤ x4 then
      some (x3, M)
    else
      b1 (gR 12 14 x0 M) fun v2 =>
      b2 (f_X12_what x1 x4 M) fun r4 M3 =>
      b1 (ldZ v2 r4 M3) fun v5 =>
      if v5 = 0 then
        f_X12_seersIn_51 (f_X12_seersIn_5 n) x0 x1 x2 x4 x3 M3
      else
        b2 (f_X12_isThere x0 x1 x4 x2 M3) fun r7 M6 =>
        if r7 = 0 then
          f_X12_seersIn_51 (f_X12_seersIn_5 n) x0 x1 x2 x4 x3 M6
        else
          b2 (f_X12_who x1 x4 M6) fun r9 M8 =>
          f_X12_seersIn_52 (f_X12_seersIn_5 n) x0 x1 x2 x4 ((1 : Int32) <<< (r9 &&& 31)) x3 M8

def f_X12_seersIn_0 (x0 : Nat) (x1 : Nat) (x2 : Int32) (M : MM) : Option (Int32 × MM) :=
    f_X12_seersIn_5 1024 x0 x1 x2 (0 : Int32) (0 : Int32) M

def f_X12_seersIn (x0 : Nat) (x1 : Nat) (x2 : Int32) (M : MM) : Option (Int32 × MM) := if isO 12 x0 M = true then f_X12_seersIn_0 x0 x1 x2 M else none
set_option maxRecDepth 4000 in
theorem L_X12_seersIn_52 {G : Gx} (X : Cb G cX12_seersIn 5 RX12 (RM 3 0 0) false) (Y : Cr G (some .int) 0 0) {K5 : Nat → Nat → Int32 → Int32 → Int32 → MM → Option (Int32 × MM)} (hK5 : ∀ (x0 : Nat) (x1 : Nat) (x2 : Int32) (x3 : Int32) (x4 : Int32) (M : MM), V G trI 5 0 0 5 [(0, .ref x0), (1, .ref x1), (2, .int x2), (3, .int x3), (4, .int x4)] [] M (K5 x0 x1 x2 x3 x4 M)) (x0 : Nat) (x1 : Nat) (x2 : Int32) (x4 : Int32) (s0 : Int32) (s1 : Int32) (M : MM) : V G trI 5 0 0 52 [(0, .ref x0), (1, .ref x1), (2, .int x2), (4, .int x4)] [.int s0, .int s1] M (f_X12_seersIn_52 K5 x0 x1 x2 x4 s0 s1 M) := by
  unfold f_X12_seersIn_52
  refine v_ior X 53 dX12_seersIn_52 rfl ?_
  refine v_bnI (fun y1 => ?_)
  refine v_istore_n (lv' := [(0, .ref x0), (1, .ref x1), (2, .int x2), (3, .int y1), (4, .int x4)]) X 54 dX12_seersIn_53 (by decide) rfl rfl ?_
  refine v_iinc X 57 4 (fun z => [(0, .ref x0), (1, .ref x1), (2, .int x2), (3, .int y1), (4, .int z)]) dX12_seersIn_54 rfl ik_1 (by decide) (fun _ => rfl) rfl (fun y2 => ?_)
  refine v_goto X 5 dX12_seersIn_57 rfl ?_
  exact hK5 _ _ _ _ _ _
set_option maxRecDepth 4000 in
theorem L_X12_seersIn_51 {G : Gx} (X : Cb G cX12_seersIn 5 RX12 (RM 3 0 0) false) (Y : Cr G (some .int) 0 0) {K5 : Nat → Nat → Int32 → Int32 → Int32 → MM → Option (Int32 × MM)} (hK5 : ∀ (x0 : Nat) (x1 : Nat) (x2 : Int32) (x3 : Int32) (x4 : Int32) (M : MM), V G trI 5 0 0 5 [(0, .ref x0), (1, .ref x1), (2, .int x2), (3, .int x3), (4, .int x4)] [] M (K5 x0 x1 x2 x3 x4 M)) (x0 : Nat) (x1 : Nat) (x2 : Int32) (x4 : Int32) (s0 : Int32) (M : MM) : V G trI 5 0 0 51 [(0, .ref x0), (1, .ref x1), (2, .int x2), (4, .int x4)] [.int s0] M (f_X12_seersIn_51 K5 x0 x1 x2 x4 s0 M) := by
  unfold f_X12_seersIn_51
  refine v_iconst X 52 dX12_seersIn_51 ik_0 rfl ?_
  exact L_X12_seersIn_52 X Y hK5 _ _ _ _ _ _ _
set_option maxRecDepth 4000 in
theorem L_X12_seersIn_5 {G : Gx} (X : Cb G cX12_seersIn 5 RX12 (RM 3 0 0) false) (Y : Cr G (some .int) 0 0) : ∀ (n : Nat) (x0 : Nat) (x1 : Nat) (x2 : Int32) (x3 : Int32) (x4 : Int32) (M : MM), V G trI 5 0 0 5 [(0, .ref x0), (1, .ref x1), (2, .int x2), (3, .int x3), (4, .int x4)] [] M (f_X12_seersIn_5 n x0 x1 x2 x3 x4 M) := by
  intro n
  induction n with
  | zero => intro x0 x1 x2 x3 x4 M; rw [f_X12_seersIn_5]; exact v_none
  | succ n ih =>
    intro x0 x1 x2 x3 x4 M
    rw [f_X12_seersIn_5]
    refine v_iload X 7 4 dX12_seersIn_5 rfl rfl ?_
    refine v_aload_n X 8 1 dX12_seersIn_7 rfl rfl ?_
    refine v_bipush X 10 dX12_seersIn_8 bk_45 rfl ?_
    refine v_iald X 11 dX12_seersIn_10 rfl (fun v1 => ?_)
    refine v_icge X 14 60 dX12_seersIn_11 rfl rfl ?_ ?_
    · refine v_iload_n X 61 3 dX12_seersIn_60 rfl rfl ?_
      exact v_iret X Y (Nat.le_refl _) (Nat.le_refl _) dX12_seersIn_61
    · refine v_iload_n X 15 3 dX12_seersIn_14 rfl rfl ?_
      refine v_aload_n X 16 0 dX12_seersIn_15 rfl rfl ?_
      refine v_getR X 19 fl_X12_40.r dX12_seersIn_16 rfl (fun v2 => ?_)
      refine v_aload_n X 20 1 dX12_seersIn_19 rfl rfl ?_
      refine v_iload X 22 4 dX12_seersIn_20 rfl rfl ?_
      refine v_sI X 25 cs_X12_what ml_X12_278 (n1 := 1) rfl [.ref x1, .int x4] rfl rfl rfl dX12_seersIn_22 rfl (fun r M1 h => c_X12_what _ _ _ _ _ _ h) (fun r4 M3 => ?_)
      refine v_zald X 26 dX12_seersIn_25 rfl (fun v5 => ?_)
      refine v_ifeq X 29 51 dX12_seersIn_26 rfl rfl ?_ ?_
      · exact v_sb [0, 1, 2, 4] (L_X12_seersIn_51 X Y ih _ _ _ _ _ _) rfl
      · refine v_aload_n X 30 0 dX12_seersIn_29 rfl rfl ?_
        refine v_aload_n X 31 1 dX12_seersIn_30 rfl rfl ?_
        refine v_iload X 33 4 dX12_seersIn_31 rfl rfl ?_
        refine v_iload_n X 34 2 dX12_seersIn_33 rfl rfl ?_
        refine v_vI X 37 cv_X12_isThere ml_X12_320 (n1 := 2) rfl [.ref x1, .int x4, .int x2] rfl rfl rfl dX12_seersIn_34 rfl (fun r M1 h => c_X12_isThere _ _ _ _ _ _ _ _ h) (fun r7 M6 => ?_)
        refine v_ifeq X 40 51 dX12_seersIn_37 rfl rfl ?_ ?_
        · exact v_sb [0, 1, 2, 4] (L_X12_seersIn_51 X Y ih _ _ _ _ _ _) rfl
        · refine v_iconst X 41 dX12_seersIn_40 ik_1 rfl ?_
          refine v_aload_n X 42 1 dX12_seersIn_41 rfl rfl ?_
          refine v_iload X 44 4 dX12_seersIn_42 rfl rfl ?_
          refine v_sI X 47 cs_X12_who ml_X12_293 (n1 := 1) rfl [.ref x1, .int x4] rfl rfl rfl dX12_seersIn_44 rfl (fun r M1 h => c_X12_who _ _ _ _ _ _ h) (fun r9 M8 => ?_)
          refine v_ishl X 48 dX12_seersIn_47 rfl ?_
          refine v_goto X 52 dX12_seersIn_48 rfl ?_
          exact v_sb [0, 1, 2, 4] (L_X12_seersIn_52 X Y ih _ _ _ _ _ _ _) rfl
set_option maxRecDepth 4000 in
theorem L_X12_seersIn_0 {G : Gx} (X : Cb G cX12_seersIn 5 RX12 (RM 3 0 0) false) (Y : Cr G (some .int) 0 0) (x0 : Nat) (x1 : Nat) (x2 : Int32) (M : MM) : V G trI 5 0 0 0 [(0, .ref x0), (1, .ref x1), (2, .int x2)] [] M (f_X12_seersIn_0 x0 x1 x2 M) := by
  unfold f_X12_seersIn_0
  refine v_iconst X 1 dX12_seersIn_0 ik_0 rfl ?_
  refine v_istore_n (lv' := [(0, .ref x0), (1, .ref x1), (2, .int x2), (3, .int (0 : Int32))]) X 2 dX12_seersIn_1 (by decide) rfl rfl ?_
  refine v_iconst X 3 dX12_seersIn_2 ik_0 rfl ?_
  refine v_istore (lv' := [(0, .ref x0), (1, .ref x1), (2, .int x2), (3, .int (0 : Int32)), (4, .int (0 : Int32))]) X 5 dX12_seersIn_3 (by decide) rfl rfl ?_
  exact L_X12_seersIn_5 X Y 1024 _ _ _ _ _ _
theorem c_X12_seersIn (l : Launch) (x0 : Nat) (x1 : Nat) (x2 : Int32) (M : MM) (r : Int32) (M1 : MM) (h : f_X12_seersIn x0 x1 x2 M = some (r, M1)) : KV l yX12_seersIn cX12_seersIn 5 (some .int) (RM 3 0 0) false 12 x0 [.ref x1, .int x2] M (some (.int r)) M1 := by
  obtain ⟨hO, h2⟩ := iteO_some h
  exact ⟨hO, ct_of (tr := trI) (by decide) (Nat.le_of_ble_eq_true rfl) [(0, .ref x0), (1, .ref x1), (2, .int x2)] rfl h2 (fun G X Y hn hl => L_X12_seersIn_0 X Y x0 x1 x2 M)⟩

def f_X12_isWatched_0 (x0 : Nat) (x1 : Nat) (x2 : Int32) (M : MM) : Option (Int32 × MM) :=
    b2 (f_X12_benchIn x0 x1 x2 M) fun r2 M1 =>
    b2 (f_X12_seersIn x0 x1 x2 M1) fun r4 M3 =>
    if (r2 ||| r4) = 0 then
      rz (0 : Int32) M3
    else
      rz (1 : Int32) M3

def f_X12_isWatched (x0 : Nat) (x1 : Nat) (x2 : Int32) (M : MM) : Option (Int32 × MM) := if isO 12 x0 M = true then f_X12_isWatched_0 x0 x1 x2 M else none
set_option maxRecDepth 4000 in
theorem L_X12_isWatched_0 {G : Gx} (X : Cb G cX12_isWatched 3 RX12 (RM 5 0 0) false) (Y : Cr G (some .boolean) 0 0) (x0 : Nat) (x1 : Nat) (x2 : Int32) (M : MM) : V G trI 3 0 0 0 [(0, .ref x0), (1, .ref x1), (2, .int x2)] [] M (f_X12_isWatched_0 x0 x1 x2 M) := by
  unfold f_X12_isWatched_0
  refine v_aload_n X 1 0 dX12_isWatched_0 rfl rfl ?_
  refine v_aload_n X 2 1 dX12_isWatched_1 rfl rfl ?_
  refine v_iload_n X 3 2 dX12_isWatched_2 rfl rfl ?_
  refine v_vI X 6 cv_X12_benchIn ml_X12_323 (n1 := 4) rfl [.ref x1, .int x2] rfl rfl rfl dX12_isWatched_3 rfl (fun r M1 h => c_X12_benchIn _ _ _ _ _ _ _ h) (fun r2 M1 => ?_)
  refine v_aload_n X 7 0 dX12_isWatched_6 rfl rfl ?_
  refine v_aload_n X 8 1 dX12_isWatched_7 rfl rfl ?_
  refine v_iload_n X 9 2 dX12_isWatched_8 rfl rfl ?_
  refine v_vI X 12 cv_X12_seersIn ml_X12_326 (n1 := 3) rfl [.ref x1, .int x2] rfl rfl rfl dX12_isWatched_9 rfl (fun r M1 h => c_X12_seersIn _ _ _ _ _ _ _ h) (fun r4 M3 => ?_)
  refine v_ior X 13 dX12_isWatched_12 rfl ?_
  refine v_ifeq X 16 20 dX12_isWatched_13 rfl rfl ?_ ?_
  · refine v_iconst X 21 dX12_isWatched_20 ik_0 rfl ?_
    exact v_zret X Y (Nat.le_refl _) (Nat.le_refl _) dX12_isWatched_21
  · refine v_iconst X 17 dX12_isWatched_16 ik_1 rfl ?_
    refine v_goto X 21 dX12_isWatched_17 rfl ?_
    exact v_zret X Y (Nat.le_refl _) (Nat.le_refl _) dX12_isWatched_21
theorem c_X12_isWatched (l : Launch) (x0 : Nat) (x1 : Nat) (x2 : Int32) (M : MM) (r : Int32) (M1 : MM) (h : f_X12_isWatched x0 x1 x2 M = some (r, M1)) : KV l yX12_isWatched cX12_isWatched 3 (some .boolean) (RM 5 0 0) false 12 x0 [.ref x1, .int x2] M (some (.int r)) M1 := by
  obtain ⟨hO, h2⟩ := iteO_some h
  exact ⟨hO, ct_of (tr := trI) (by decide) (Nat.le_of_ble_eq_true rfl) [(0, .ref x0), (1, .ref x1), (2, .int x2)] rfl h2 (fun G X Y hn hl => L_X12_isWatched_0 X Y x0 x1 x2 M)⟩

def f_X12_isNoWorse_45 (K4 : Nat → Int32 → Int32 → MM → Option (Int32 × MM)) (x0 : Nat) (x2 : Int32) (s0 : Int32) (M : MM) : Option (Int32 × MM) :=
    bn (x2 + 1 : Int32) fun y1 =>
    K4 x0 s0 y1 M

def f_X12_isNoWorse_40 (K4 : Nat → Int32 → Int32 → MM → Option (Int32 × MM)) (x0 : Nat) (x2 : Int32) (M : MM) : Option (Int32 × MM) :=
    f_X12_isNoWorse_45 K4 x0 x2 (1 : Int32) M

def f_X12_isNoWorse_4 : Nat → Nat → Int32 → Int32 → MM → Option (Int32 × MM)
  | 0, _, _, _, _ => none
  | n + 1, x0, x1, x2, M =>
    b1 (gI 12 6 x0 M) fun v1 =>
    if v1 ≤ x2 then
      rz x1 M
    else
      if x1 = 0 then
        rz x1 M
      else
        b1 (gR 12 16 x0 M) fun v2 =>
        b2 (f_X12_isWatched x0 v2 x2 M) fun r4 M3 =>
        if r4 = 0 then
          b1 (gR 12 15 x0 M3) fun v5 =>
          b2 (f_X12_isWatched x0 v5 x2 M3) fun r7 M6 =>
          if r7 = 0 then
            f_X12_isNoWorse_40 (f_X12_isNoWorse_4 n) x0 x2 M6
          else
            f_X12_isNoWorse_45 (f_X12_isNoWorse_4 n) x0 x2 (0 : Int32) M6
        else
          f_X12_isNoWorse_40 (f_X12_isNoWorse_4 n) x0 x2 M3

def f_X12_isNoWorse_0 (x0 : Nat) (M : MM) : Option (Int32 × MM) :=
    f_X12_isNoWorse_4 1024 x0 (1 : Int32) (0 : Int32) M

def f_X12_isNoWorse (x0 : Nat) (M : MM) : Option (Int32 × MM) := if isO 12 x0 M = true then f_X12_isNoWorse_0 x0 M else none
set_option maxRecDepth 4000 in
theorem L_X12_isNoWorse_45 {G : Gx} (X : Cb G cX12_isNoWorse 3 RX12 (RM 6 0 0) false) (Y : Cr G (some .boolean) 0 0) {K4 : Nat → Int32 → Int32 → MM → Option (Int32 × MM)} (hK4 : ∀ (x0 : Nat) (x1 : Int32) (x2 : Int32) (M : MM), V G trI 3 0 0 4 [(0, .ref x0), (1, .int x1), (2, .int x2)] [] M (K4 x0 x1 x2 M)) (x0 : Nat) (x2 : Int32) (s0 : Int32) (M : MM) : V G trI 3 0 0 45 [(0, .ref x0), (2, .int x2)] [.int s0] M (f_X12_isNoWorse_45 K4 x0 x2 s0 M) := by
  unfold f_X12_isNoWorse_45
  refine v_istore_n (lv' := [(0, .ref x0), (1, .int s0), (2, .int x2)]) X 46 dX12_isNoWorse_45 (by decide) rfl rfl ?_
  refine v_iinc X 49 2 (fun z => [(0, .ref x0), (1, .int s0), (2, .int z)]) dX12_isNoWorse_46 rfl ik_1 (by decide) (fun _ => rfl) rfl (fun y1 => ?_)
  refine v_goto X 4 dX12_isNoWorse_49 rfl ?_
  exact hK4 _ _ _ _
set_option maxRecDepth 4000 in
theorem L_X12_isNoWorse_40 {G : Gx} (X : Cb G cX12_isNoWorse 3 RX12 (RM 6 0 0) false) (Y : Cr G (some .boolean) 0 0) {K4 : Nat → Int32 → Int32 → MM → Option (Int32 × MM)} (hK4 : ∀ (x0 : Nat) (x1 : Int32) (x2 : Int32) (M : MM), V G trI 3 0 0 4 [(0, .ref x0), (1, .int x1), (2, .int x2)] [] M (K4 x0 x1 x2 M)) (x0 : Nat) (x2 : Int32) (M : MM) : V G trI 3 0 0 40 [(0, .ref x0), (2, .int x2)] [] M (f_X12_isNoWorse_40 K4 x0 x2 M) := by
  unfold f_X12_isNoWorse_40
  refine v_iconst X 41 dX12_isNoWorse_40 ik_1 rfl ?_
  refine v_goto X 45 dX12_isNoWorse_41 rfl ?_
  exact L_X12_isNoWorse_45 X Y hK4 _ _ _ _
set_option maxRecDepth 4000 in
theorem L_X12_isNoWorse_4 {G : Gx} (X : Cb G cX12_isNoWorse 3 RX12 (RM 6 0 0) false) (Y : Cr G (some .boolean) 0 0) : ∀ (n : Nat) (x0 : Nat) (x1 : Int32) (x2 : Int32) (M : MM), V G trI 3 0 0 4 [(0, .ref x0), (1, .int x1), (2, .int x2)] [] M (f_X12_isNoWorse_4 n x0 x1 x2 M) := by
  intro n
  induction n with
  | zero => intro x0 x1 x2 M; rw [f_X12_isNoWorse_4]; exact v_none
  | succ n ih =>
    intro x0 x1 x2 M
    rw [f_X12_isNoWorse_4]
    refine v_iload_n X 5 2 dX12_isNoWorse_4 rfl rfl ?_
    refine v_aload_n X 6 0 dX12_isNoWorse_5 rfl rfl ?_
    refine v_getI X 9 fl_X12_13.r dX12_isNoWorse_6 rfl (fun v1 => ?_)
    refine v_icge X 12 52 dX12_isNoWorse_9 rfl rfl ?_ ?_
    · refine v_iload_n X 53 1 dX12_isNoWorse_52 rfl rfl ?_
      exact v_zret X Y (Nat.le_refl _) (Nat.le_refl _) dX12_isNoWorse_53
    · refine v_iload_n X 13 1 dX12_isNoWorse_12 rfl rfl ?_
      refine v_ifeq X 16 52 dX12_isNoWorse_13 rfl rfl ?_ ?_
      · refine v_iload_n X 53 1 dX12_isNoWorse_52 rfl rfl ?_
        exact v_zret X Y (Nat.le_refl _) (Nat.le_refl _) dX12_isNoWorse_53
      · refine v_aload_n X 17 0 dX12_isNoWorse_16 rfl rfl ?_
        refine v_aload_n X 18 0 dX12_isNoWorse_17 rfl rfl ?_
        refine v_getR X 21 fl_X12_46.r dX12_isNoWorse_18 rfl (fun v2 => ?_)
        refine v_iload_n X 22 2 dX12_isNoWorse_21 rfl rfl ?_
        refine v_vI X 25 cv_X12_isWatched ml_X12_329 (n1 := 5) rfl [.ref v2, .int x2] rfl rfl rfl dX12_isNoWorse_22 rfl (fun r M1 h => c_X12_isWatched _ _ _ _ _ _ _ h) (fun r4 M3 => ?_)
        refine v_ifne X 28 40 dX12_isNoWorse_25 rfl rfl ?_ ?_
        · exact v_sb [0, 2] (L_X12_isNoWorse_40 X Y ih _ _ _) rfl
        · refine v_aload_n X 29 0 dX12_isNoWorse_28 rfl rfl ?_
          refine v_aload_n X 30 0 dX12_isNoWorse_29 rfl rfl ?_
          refine v_getR X 33 fl_X12_43.r dX12_isNoWorse_30 rfl (fun v5 => ?_)
          refine v_iload_n X 34 2 dX12_isNoWorse_33 rfl rfl ?_
          refine v_vI X 37 cv_X12_isWatched ml_X12_329 (n1 := 5) rfl [.ref v5, .int x2] rfl rfl rfl dX12_isNoWorse_34 rfl (fun r M1 h => c_X12_isWatched _ _ _ _ _ _ _ h) (fun r7 M6 => ?_)
          refine v_ifne X 40 44 dX12_isNoWorse_37 rfl rfl ?_ ?_
          · refine v_iconst X 45 dX12_isNoWorse_44 ik_0 rfl ?_
            exact v_sb [0, 2] (L_X12_isNoWorse_45 X Y ih _ _ _ _) rfl
          · exact v_sb [0, 2] (L_X12_isNoWorse_40 X Y ih _ _ _) rfl
set_option maxRecDepth 4000 in
theorem L_X12_isNoWorse_0 {G : Gx} (X : Cb G cX12_isNoWorse 3 RX12 (RM 6 0 0) false) (Y : Cr G (some .boolean) 0 0) (x0 : Nat) (M : MM) : V G trI 3 0 0 0 [(0, .ref x0)] [] M (f_X12_isNoWorse_0 x0 M) := by
  unfold f_X12_isNoWorse_0
  refine v_iconst X 1 dX12_isNoWorse_0 ik_1 rfl ?_
  refine v_istore_n (lv' := [(0, .ref x0), (1, .int (1 : Int32))]) X 2 dX12_isNoWorse_1 (by decide) rfl rfl ?_
  refine v_iconst X 3 dX12_isNoWorse_2 ik_0 rfl ?_
  refine v_istore_n (lv' := [(0, .ref x0), (1, .int (1 : Int32)), (2, .int (0 : Int32))]) X 4 dX12_isNoWorse_3 (by decide) rfl rfl ?_
  exact L_X12_isNoWorse_4 X Y 1024 _ _ _ _
theorem c_X12_isNoWorse (l : Launch) (x0 : Nat) (M : MM) (r : Int32) (M1 : MM) (h : f_X12_isNoWorse x0 M = some (r, M1)) : KV l yX12_isNoWorse cX12_isNoWorse 3 (some .boolean) (RM 6 0 0) false 12 x0 [] M (some (.int r)) M1 := by
  obtain ⟨hO, h2⟩ := iteO_some h
  exact ⟨hO, ct_of (tr := trI) (by decide) (Nat.le_of_ble_eq_true rfl) [(0, .ref x0)] rfl h2 (fun G X Y hn hl => L_X12_isNoWorse_0 X Y x0 M)⟩

def f_X12_readsTrip_0 (x0 : Nat) (M : MM) : Option (Int32 × MM) :=
    b1 (gR 12 32 x0 M) fun v1 =>
    b1 (ldI v1 (45 : Int32) M) fun v2 =>
    if v2 = (12 : Int32) then
      rz (0 : Int32) M
    else
      b1 (gI 12 3 x0 M) fun v3 =>
      b2 (f_X12_letter x0 v3 M) fun r5 M4 =>
      if 0 ≤ r5 then
        b1 (gI 12 4 x0 M4) fun v6 =>
        b2 (f_X12_digit x0 (0 : Int32) (v6 - (1 : Int32)) M4) fun r8 M7 =>
        if r8 < 0 then
          rz (0 : Int32) M7
        else
          b2 (f_X12_takes x0 (64 : Int32) M7) fun r10 M9 =>
          if r10 = 0 then
            rz (0 : Int32) M9
          else
            b2 (f_X12_number x0 (2 : Int32) M9) fun r12 M11 =>
            if 0 ≤ r12 then
              b1 (gR 12 32 x0 M11) fun v13 =>
              b1 (f_X12_comes v13 r5 r8 r12 M11) fun M14 =>
              rz (1 : Int32) M14
            else
              rz (0 : Int32) M11
      else
        rz (0 : Int32) M4

def f_X12_readsTrip (x0 : Nat) (M : MM) : Option (Int32 × MM) := if isO 12 x0 M = true then f_X12_readsTrip_0 x0 M else none
set_option maxRecDepth 4000 in
theorem L_X12_readsTrip_0 {G : Gx} (X : Cb G cX12_readsTrip 4 RX12 (RM 4 0 0) false) (Y : Cr G (some .boolean) 0 0) (x0 : Nat) (M : MM) : V G trI 4 0 0 0 [(0, .ref x0)] [] M (f_X12_readsTrip_0 x0 M) := by
  unfold f_X12_readsTrip_0
  refine v_aload_n X 1 0 dX12_readsTrip_0 rfl rfl ?_
  refine v_getR X 4 fl_X12_70.r dX12_readsTrip_1 rfl (fun v1 => ?_)
  refine v_bipush X 6 dX12_readsTrip_4 bk_45 rfl ?_
  refine v_iald X 7 dX12_readsTrip_6 rfl (fun v2 => ?_)
  refine v_bipush X 9 dX12_readsTrip_7 bk_12 rfl ?_
  refine v_icne X 12 14 dX12_readsTrip_9 rfl rfl ?_ ?_
  · refine v_aload_n X 15 0 dX12_readsTrip_14 rfl rfl ?_
    refine v_aload_n X 16 0 dX12_readsTrip_15 rfl rfl ?_
    refine v_getI X 19 fl_X12_143.r dX12_readsTrip_16 rfl (fun v3 => ?_)
    refine v_vI X 22 cv_X12_letter ml_X12_333 (n1 := 2) rfl [.int v3] rfl rfl rfl dX12_readsTrip_19 rfl (fun r M1 h => c_X12_letter _ _ _ _ _ _ h) (fun r5 M4 => ?_)
    refine v_istore_n (lv' := [(0, .ref x0), (1, .int r5)]) X 23 dX12_readsTrip_22 (by decide) rfl rfl ?_
    refine v_iload_n X 24 1 dX12_readsTrip_23 rfl rfl ?_
    refine v_ifge X 27 29 dX12_readsTrip_24 rfl rfl ?_ ?_
    · refine v_aload_n X 30 0 dX12_readsTrip_29 rfl rfl ?_
      refine v_iconst X 31 dX12_readsTrip_30 ik_0 rfl ?_
      refine v_aload_n X 32 0 dX12_readsTrip_31 rfl rfl ?_
      refine v_getI X 35 fl_X12_150.r dX12_readsTrip_32 rfl (fun v6 => ?_)
      refine v_iconst X 36 dX12_readsTrip_35 ik_1 rfl ?_
      refine v_isub X 37 dX12_readsTrip_36 rfl ?_
      refine v_vI X 40 cv_X12_digit ml_X12_209 (n1 := 3) rfl [.int (0 : Int32), .int (v6 - (1 : Int32))] rfl rfl rfl dX12_readsTrip_37 rfl (fun r M1 h => c_X12_digit _ _ _ _ _ _ _ h) (fun r8 M7 => ?_)
      refine v_istore_n (lv' := [(0, .ref x0), (1, .int r5), (2, .int r8)]) X 41 dX12_readsTrip_40 (by decide) rfl rfl ?_
      refine v_iload_n X 42 2 dX12_readsTrip_41 rfl rfl ?_
      refine v_iflt X 45 54 dX12_readsTrip_42 rfl rfl ?_ ?_
      · refine v_iconst X 55 dX12_readsTrip_54 ik_0 rfl ?_
        exact v_zret X Y (Nat.le_refl _) (Nat.le_refl _) dX12_readsTrip_55
      · refine v_aload_n X 46 0 dX12_readsTrip_45 rfl rfl ?_
        refine v_bipush X 48 dX12_readsTrip_46 bk_64 rfl ?_
        refine v_vI X 51 cv_X12_takes ml_X12_202 (n1 := 2) rfl [.int (64 : Int32)] rfl rfl rfl dX12_readsTrip_48 rfl (fun r M1 h => c_X12_takes _ _ _ _ _ _ h) (fun r10 M9 => ?_)
        refine v_ifne X 54 56 dX12_readsTrip_51 rfl rfl ?_ ?_
        · refine v_aload_n X 57 0 dX12_readsTrip_56 rfl rfl ?_
          refine v_iconst X 58 dX12_readsTrip_57 ik_2 rfl ?_
          refine v_vI X 61 cv_X12_number ml_X12_212 (n1 := 3) rfl [.int (2 : Int32)] rfl rfl rfl dX12_readsTrip_58 rfl (fun r M1 h => c_X12_number _ _ _ _ _ _ h) (fun r12 M11 => ?_)
          refine v_istore_n (lv' := [(0, .ref x0), (1, .int r5), (2, .int r8), (3, .int r12)]) X 62 dX12_readsTrip_61 (by decide) rfl rfl ?_
          refine v_iload_n X 63 3 dX12_readsTrip_62 rfl rfl ?_
          refine v_ifge X 66 68 dX12_readsTrip_63 rfl rfl ?_ ?_
          · refine v_aload_n X 69 0 dX12_readsTrip_68 rfl rfl ?_
            refine v_getR X 72 fl_X12_70.r dX12_readsTrip_69 rfl (fun v13 => ?_)
            refine v_iload_n X 73 1 dX12_readsTrip_72 rfl rfl ?_
            refine v_iload_n X 74 2 dX12_readsTrip_73 rfl rfl ?_
            refine v_iload_n X 75 3 dX12_readsTrip_74 rfl rfl ?_
            refine v_sV X 78 cs_X12_comes ml_X12_336 (n1 := 1) rfl [.ref v13, .int r5, .int r8, .int r12] rfl rfl rfl dX12_readsTrip_75 rfl (fun M1 h => c_X12_comes _ _ _ _ _ _ _ h) (fun M14 => ?_)
            refine v_iconst X 79 dX12_readsTrip_78 ik_1 rfl ?_
            exact v_zret X Y (Nat.le_refl _) (Nat.le_refl _) dX12_readsTrip_79
          · refine v_iconst X 67 dX12_readsTrip_66 ik_0 rfl ?_
            exact v_zret X Y (Nat.le_refl _) (Nat.le_refl _) dX12_readsTrip_67
        · refine v_iconst X 55 dX12_readsTrip_54 ik_0 rfl ?_
          exact v_zret X Y (Nat.le_refl _) (Nat.le_refl _) dX12_readsTrip_55
    · refine v_iconst X 28 dX12_readsTrip_27 ik_0 rfl ?_
      exact v_zret X Y (Nat.le_refl _) (Nat.le_refl _) dX12_readsTrip_28
  · refine v_iconst X 13 dX12_readsTrip_12 ik_0 rfl ?_
    exact v_zret X Y (Nat.le_refl _) (Nat.le_refl _) dX12_readsTrip_13
theorem c_X12_readsTrip (l : Launch) (x0 : Nat) (M : MM) (r : Int32) (M1 : MM) (h : f_X12_readsTrip x0 M = some (r, M1)) : KV l yX12_readsTrip cX12_readsTrip 4 (some .boolean) (RM 4 0 0) false 12 x0 [] M (some (.int r)) M1 := by
  obtain ⟨hO, h2⟩ := iteO_some h
  exact ⟨hO, ct_of (tr := trI) (by decide) (Nat.le_of_ble_eq_true rfl) [(0, .ref x0)] rfl h2 (fun G X Y hn hl => L_X12_readsTrip_0 X Y x0 M)⟩

def f_X12_adds_21 : Nat → Nat → Int32 → Int32 → MM → Option (Int32 × MM)
  | 0, _, _, _, _ => none
  | n + 1, x0, x1, x2, M =>
    if (690 : Int32) ≤ x2 then
      b1 (gI 12 33 x0 M) fun v1 =>
      b1 (pI 12 33 x0 (v1 - (1 : Int32)) M) fun M2 =>
      some (x1, M2)
    else
      b1 (gR 12 34 x0 M) fun v3 =>
      b1 (gR 12 34 x0 M) fun v4 =>
      b1 (ldI v4 (x2 + (46 : Int32)) M) fun v5 =>
      b1 (stI v3 x2 v5 M) fun M6 =>
      bn (x2 + 1 : Int32) fun y7 =>
      f_X12_adds_21 n x0 x1 y7 M6

def f_X12_adds_0 (x0 : Nat) (x1 : Int32) (M : MM) : Option (Int32 × MM) :=
    b1 (gI 12 33 x0 M) fun v1 =>
    b1 (pI 12 33 x0 (v1 + (1 : Int32)) M) fun M2 =>
    b1 (gI 12 33 x0 M2) fun v3 =>
    if v3 ≤ (15 : Int32) then
      some (x1, M2)
    else
      f_X12_adds_21 1024 x0 x1 (0 : Int32) M2

def f_X12_adds (x0 : Nat) (x1 : Int32) (M : MM) : Option (Int32 × MM) := if isO 12 x0 M = true then f_X12_adds_0 x0 x1 M else none
set_option maxRecDepth 4000 in
theorem L_X12_adds_21 {G : Gx} (X : Cb G cX12_adds 3 RX12 (RM 1 0 0) false) (Y : Cr G (some .int) 0 0) : ∀ (n : Nat) (x0 : Nat) (x1 : Int32) (x2 : Int32) (M : MM), V G trI 3 0 0 21 [(0, .ref x0), (1, .int x1), (2, .int x2)] [] M (f_X12_adds_21 n x0 x1 x2 M) := by
  intro n
  induction n with
  | zero => intro x0 x1 x2 M; rw [f_X12_adds_21]; exact v_none
  | succ n ih =>
    intro x0 x1 x2 M
    rw [f_X12_adds_21]
    refine v_iload_n X 22 2 dX12_adds_21 rfl rfl ?_
    refine v_sipush X 25 dX12_adds_22 sk_690 rfl ?_
    refine v_icge X 28 49 dX12_adds_25 rfl rfl ?_ ?_
    · refine v_aload_n X 50 0 dX12_adds_49 rfl rfl ?_
      refine v_dup X 51 dX12_adds_50 rfl rfl ?_
      refine v_getI X 54 fl_X12_241.r dX12_adds_51 rfl (fun v1 => ?_)
      refine v_iconst X 55 dX12_adds_54 ik_1 rfl ?_
      refine v_isub X 56 dX12_adds_55 rfl ?_
      refine v_putI X 59 fl_X12_241 nof dX12_adds_56 rfl (fun M2 => ?_)
      refine v_iload_n X 60 1 dX12_adds_59 rfl rfl ?_
      exact v_iret X Y (Nat.le_refl _) (Nat.le_refl _) dX12_adds_60
    · refine v_aload_n X 29 0 dX12_adds_28 rfl rfl ?_
      refine v_getR X 32 fl_X12_73.r dX12_adds_29 rfl (fun v3 => ?_)
      refine v_iload_n X 33 2 dX12_adds_32 rfl rfl ?_
      refine v_aload_n X 34 0 dX12_adds_33 rfl rfl ?_
      refine v_getR X 37 fl_X12_73.r dX12_adds_34 rfl (fun v4 => ?_)
      refine v_iload_n X 38 2 dX12_adds_37 rfl rfl ?_
      refine v_bipush X 40 dX12_adds_38 bk_46 rfl ?_
      refine v_iadd X 41 dX12_adds_40 rfl ?_
      refine v_iald X 42 dX12_adds_41 rfl (fun v5 => ?_)
      refine v_iast X 43 dX12_adds_42 rfl (fun M6 => ?_)
      refine v_iinc X 46 2 (fun z => [(0, .ref x0), (1, .int x1), (2, .int z)]) dX12_adds_43 rfl ik_1 (by decide) (fun _ => rfl) rfl (fun y7 => ?_)
      refine v_goto X 21 dX12_adds_46 rfl ?_
      exact ih _ _ _ _
set_option maxRecDepth 4000 in
theorem L_X12_adds_0 {G : Gx} (X : Cb G cX12_adds 3 RX12 (RM 1 0 0) false) (Y : Cr G (some .int) 0 0) (x0 : Nat) (x1 : Int32) (M : MM) : V G trI 3 0 0 0 [(0, .ref x0), (1, .int x1)] [] M (f_X12_adds_0 x0 x1 M) := by
  unfold f_X12_adds_0
  refine v_aload_n X 1 0 dX12_adds_0 rfl rfl ?_
  refine v_dup X 2 dX12_adds_1 rfl rfl ?_
  refine v_getI X 5 fl_X12_241.r dX12_adds_2 rfl (fun v1 => ?_)
  refine v_iconst X 6 dX12_adds_5 ik_1 rfl ?_
  refine v_iadd X 7 dX12_adds_6 rfl ?_
  refine v_putI X 10 fl_X12_241 nof dX12_adds_7 rfl (fun M2 => ?_)
  refine v_aload_n X 11 0 dX12_adds_10 rfl rfl ?_
  refine v_getI X 14 fl_X12_241.r dX12_adds_11 rfl (fun v3 => ?_)
  refine v_bipush X 16 dX12_adds_14 bk_15 rfl ?_
  refine v_icle X 19 59 dX12_adds_16 rfl rfl ?_ ?_
  · refine v_iload_n X 60 1 dX12_adds_59 rfl rfl ?_
    exact v_iret X Y (Nat.le_refl _) (Nat.le_refl _) dX12_adds_60
  · refine v_iconst X 20 dX12_adds_19 ik_0 rfl ?_
    refine v_istore_n (lv' := [(0, .ref x0), (1, .int x1), (2, .int (0 : Int32))]) X 21 dX12_adds_20 (by decide) rfl rfl ?_
    exact L_X12_adds_21 X Y 1024 _ _ _ _
theorem c_X12_adds (l : Launch) (x0 : Nat) (x1 : Int32) (M : MM) (r : Int32) (M1 : MM) (h : f_X12_adds x0 x1 M = some (r, M1)) : KV l yX12_adds cX12_adds 3 (some .int) (RM 1 0 0) false 12 x0 [.int x1] M (some (.int r)) M1 := by
  obtain ⟨hO, h2⟩ := iteO_some h
  exact ⟨hO, ct_of (tr := trI) (by decide) (Nat.le_of_ble_eq_true rfl) [(0, .ref x0), (1, .int x1)] rfl h2 (fun G X Y hn hl => L_X12_adds_0 X Y x0 x1 M)⟩

def f_X12_putsBy_2 : Nat → Nat → Int32 → MM → Option (MM)
  | 0, _, _, _ => none
  | n + 1, x0, x1, M =>
    if (46 : Int32) ≤ x1 then
      some M
    else
      b1 (gR 12 34 x0 M) fun v1 =>
      b1 (gI 12 33 x0 M) fun v2 =>
      b1 (gR 12 15 x0 M) fun v3 =>
      b1 (ldI v3 x1 M) fun v4 =>
      b1 (stI v1 (((46 : Int32) * v2) + x1) v4 M) fun M5 =>
      bn (x1 + 1 : Int32) fun y6 =>
      f_X12_putsBy_2 n x0 y6 M5

def f_X12_putsBy_0 (x0 : Nat) (M : MM) : Option (MM) :=
    f_X12_putsBy_2 1024 x0 (0 : Int32) M

def f_X12_putsBy (x0 : Nat) (M : MM) : Option (MM) := if isO 12 x0 M = true then f_X12_putsBy_0 x0 M else none
set_option maxRecDepth 4000 in
theorem L_X12_putsBy_2 {G : Gx} (X : Cb G cX12_putsBy 2 RX12 (RM 1 0 0) false) (Y : Cr G none 0 0) : ∀ (n : Nat) (x0 : Nat) (x1 : Int32) (M : MM), V G trV 2 0 0 2 [(0, .ref x0), (1, .int x1)] [] M (f_X12_putsBy_2 n x0 x1 M) := by
  intro n
  induction n with
  | zero => intro x0 x1 M; rw [f_X12_putsBy_2]; exact v_none
  | succ n ih =>
    intro x0 x1 M
    rw [f_X12_putsBy_2]
    refine v_iload_n X 3 1 dX12_putsBy_2 rfl rfl ?_
    refine v_bipush X 5 dX12_putsBy_3 bk_46 rfl ?_
    refine v_icge X 8 34 dX12_putsBy_5 rfl rfl ?_ ?_
    · exact v_vret X Y (Nat.le_refl _) (Nat.le_refl _) dX12_putsBy_34
    · refine v_aload_n X 9 0 dX12_putsBy_8 rfl rfl ?_
      refine v_getR X 12 fl_X12_73.r dX12_putsBy_9 rfl (fun v1 => ?_)
      refine v_bipush X 14 dX12_putsBy_12 bk_46 rfl ?_
      refine v_aload_n X 15 0 dX12_putsBy_14 rfl rfl ?_
      refine v_getI X 18 fl_X12_241.r dX12_putsBy_15 rfl (fun v2 => ?_)
      refine v_imul X 19 dX12_putsBy_18 rfl ?_
      refine v_iload_n X 20 1 dX12_putsBy_19 rfl rfl ?_
      refine v_iadd X 21 dX12_putsBy_20 rfl ?_
      refine v_aload_n X 22 0 dX12_putsBy_21 rfl rfl ?_
      refine v_getR X 25 fl_X12_43.r dX12_putsBy_22 rfl (fun v3 => ?_)
      refine v_iload_n X 26 1 dX12_putsBy_25 rfl rfl ?_
      refine v_iald X 27 dX12_putsBy_26 rfl (fun v4 => ?_)
      refine v_iast X 28 dX12_putsBy_27 rfl (fun M5 => ?_)
      refine v_iinc X 31 1 (fun z => [(0, .ref x0), (1, .int z)]) dX12_putsBy_28 rfl ik_1 (by decide) (fun _ => rfl) rfl (fun y6 => ?_)
      refine v_goto X 2 dX12_putsBy_31 rfl ?_
      exact ih _ _ _
set_option maxRecDepth 4000 in
theorem L_X12_putsBy_0 {G : Gx} (X : Cb G cX12_putsBy 2 RX12 (RM 1 0 0) false) (Y : Cr G none 0 0) (x0 : Nat) (M : MM) : V G trV 2 0 0 0 [(0, .ref x0)] [] M (f_X12_putsBy_0 x0 M) := by
  unfold f_X12_putsBy_0
  refine v_iconst X 1 dX12_putsBy_0 ik_0 rfl ?_
  refine v_istore_n (lv' := [(0, .ref x0), (1, .int (0 : Int32))]) X 2 dX12_putsBy_1 (by decide) rfl rfl ?_
  exact L_X12_putsBy_2 X Y 1024 _ _ _
theorem c_X12_putsBy (l : Launch) (x0 : Nat) (M : MM) (M1 : MM) (h : f_X12_putsBy x0 M = some M1) : KV l yX12_putsBy cX12_putsBy 2 none (RM 1 0 0) false 12 x0 [] M none M1 := by
  obtain ⟨hO, h2⟩ := iteO_some h
  exact ⟨hO, ct_of (tr := trV) (by decide) (Nat.le_of_ble_eq_true rfl) [(0, .ref x0)] rfl h2 (fun G X Y hn hl => L_X12_putsBy_0 X Y x0 M)⟩

def f_X12_plan_59 (K32 : Nat → Int32 → Int32 → Int32 → MM → Option (Int32 × MM)) (x0 : Nat) (x1 : Int32) (x2 : Int32) (s0 : Int32) (M : MM) : Option (Int32 × MM) :=
    K32 x0 x1 x2 s0 M

def f_X12_plan_58 (K32 : Nat → Int32 → Int32 → Int32 → MM → Option (Int32 × MM)) (x0 : Nat) (x1 : Int32) (x2 : Int32) (M : MM) : Option (Int32 × MM) :=
    f_X12_plan_59 K32 x0 x1 x2 (0 : Int32) M

def f_X12_plan_32 : Nat → Nat → Int32 → Int32 → Int32 → MM → Option (Int32 × MM)
  | 0, _, _, _, _, _ => none
  | n + 1, x0, x1, x2, x3, M =>
    if x3 = 0 then
      b2 (f_X12_faultOf x0 x1 (72 : Int32) x2 M) fun r2 M1 =>
      if 0 ≤ r2 then
        b1 (f_X12_putsBy x0 M1) fun M3 =>
        b1 (gR 12 32 x0 M3) fun v4 =>
        b1 (gR 12 15 x0 M3) fun v5 =>
        b1 (f_X12_puts v4 v5 M3) fun M6 =>
        b1 (gR 12 15 x0 M6) fun v7 =>
        b1 (ldI v7 (45 : Int32) M6) fun v8 =>
        b2 (f_X12_adds x0 v8 M6) fun r10 M9 =>
        some (r10, M9)
      else
        some (r2, M1)
    else
      b2 (f_X12_readsTrip x0 M) fun r12 M11 =>
      if r12 = 0 then
        f_X12_plan_58 (f_X12_plan_32 n) x0 x1 r12 M11
      else
        b2 (f_X12_takes x0 (59 : Int32) M11) fun r14 M13 =>
        if r14 = 0 then
          f_X12_plan_58 (f_X12_plan_32 n) x0 x1 r12 M13
        else
          f_X12_plan_59 (f_X12_plan_32 n) x0 x1 r12 (1 : Int32) M13

def f_X12_plan_31 (x0 : Nat) (x1 : Int32) (x2 : Int32) (s0 : Int32) (M : MM) : Option (Int32 × MM) :=
    f_X12_plan_32 1024 x0 x1 x2 s0 M

def f_X12_plan_0 (x0 : Nat) (M : MM) : Option (Int32 × MM) :=
    b1 (pI 12 0 x0 (0 : Int32) M) fun M1 =>
    b2 (f_X12_begins x0 (72 : Int32) M1) fun r3 M2 =>
    b1 (gR 12 32 x0 M2) fun v4 =>
    b1 (stI v4 (45 : Int32) (0 : Int32) M2) fun M5 =>
    if r3 ≤ 0 then
      f_X12_plan_31 x0 r3 (1 : Int32) (0 : Int32) M5
    else
      f_X12_plan_31 x0 r3 (1 : Int32) (1 : Int32) M5

def f_X12_plan (x0 : Nat) (M : MM) : Option (Int32 × MM) := if isO 12 x0 M = true then f_X12_plan_0 x0 M else none
set_option maxRecDepth 4000 in
theorem L_X12_plan_59 {G : Gx} (X : Cb G cX12_plan 5 RX12 (RM 5 0 0) false) (Y : Cr G (some .int) 0 0) {K32 : Nat → Int32 → Int32 → Int32 → MM → Option (Int32 × MM)} (hK32 : ∀ (x0 : Nat) (x1 : Int32) (x2 : Int32) (x3 : Int32) (M : MM), V G trI 5 0 0 32 [(0, .ref x0), (1, .int x1), (2, .int x2), (3, .int x3)] [] M (K32 x0 x1 x2 x3 M)) (x0 : Nat) (x1 : Int32) (x2 : Int32) (s0 : Int32) (M : MM) : V G trI 5 0 0 59 [(0, .ref x0), (1, .int x1), (2, .int x2)] [.int s0] M (f_X12_plan_59 K32 x0 x1 x2 s0 M) := by
  unfold f_X12_plan_59
  refine v_istore_n (lv' := [(0, .ref x0), (1, .int x1), (2, .int x2), (3, .int s0)]) X 60 dX12_plan_59 (by decide) rfl rfl ?_
  refine v_goto X 32 dX12_plan_60 rfl ?_
  exact hK32 _ _ _ _ _
set_option maxRecDepth 4000 in
theorem L_X12_plan_58 {G : Gx} (X : Cb G cX12_plan 5 RX12 (RM 5 0 0) false) (Y : Cr G (some .int) 0 0) {K32 : Nat → Int32 → Int32 → Int32 → MM → Option (Int32 × MM)} (hK32 : ∀ (x0 : Nat) (x1 : Int32) (x2 : Int32) (x3 : Int32) (M : MM), V G trI 5 0 0 32 [(0, .ref x0), (1, .int x1), (2, .int x2), (3, .int x3)] [] M (K32 x0 x1 x2 x3 M)) (x0 : Nat) (x1 : Int32) (x2 : Int32) (M : MM) : V G trI 5 0 0 58 [(0, .ref x0), (1, .int x1), (2, .int x2)] [] M (f_X12_plan_58 K32 x0 x1 x2 M) := by
  unfold f_X12_plan_58
  refine v_iconst X 59 dX12_plan_58 ik_0 rfl ?_
  exact L_X12_plan_59 X Y hK32 _ _ _ _ _
set_option maxRecDepth 4000 in
theorem L_X12_plan_32 {G : Gx} (X : Cb G cX12_plan 5 RX12 (RM 5 0 0) false) (Y : Cr G (some .int) 0 0) : ∀ (n : Nat) (x0 : Nat) (x1 : Int32) (x2 : Int32) (x3 : Int32) (M : MM), V G trI 5 0 0 32 [(0, .ref x0), (1, .int x1), (2, .int x2), (3, .int x3)] [] M (f_X12_plan_32 n x0 x1 x2 x3 M) := by
  intro n
  induction n with
  | zero => intro x0 x1 x2 x3 M; rw [f_X12_plan_32]; exact v_none
  | succ n ih =>
    intro x0 x1 x2 x3 M
    rw [f_X12_plan_32]
    refine v_iload_n X 33 3 dX12_plan_32 rfl rfl ?_
    refine v_ifeq X 36 63 dX12_plan_33 rfl rfl ?_ ?_
    · refine v_aload_n X 64 0 dX12_plan_63 rfl rfl ?_
      refine v_iload_n X 65 1 dX12_plan_64 rfl rfl ?_
      refine v_bipush X 67 dX12_plan_65 bk_72 rfl ?_
      refine v_iload_n X 68 2 dX12_plan_67 rfl rfl ?_
      refine v_vI X 71 cv_X12_faultOf ml_X12_237 (n1 := 1) rfl [.int x1, .int (72 : Int32), .int x2] rfl rfl rfl dX12_plan_68 rfl (fun r M1 h => c_X12_faultOf _ _ _ _ _ _ _ _ h) (fun r2 M1 => ?_)
      refine v_istore (lv' := [(0, .ref x0), (1, .int x1), (2, .int x2), (3, .int x3), (4, .int r2)]) X 73 dX12_plan_71 (by decide) rfl rfl ?_
      refine v_iload X 75 4 dX12_plan_73 rfl rfl ?_
      refine v_ifge X 78 81 dX12_plan_75 rfl rfl ?_ ?_
      · refine v_aload_n X 82 0 dX12_plan_81 rfl rfl ?_
        refine v_vV X 85 cv_X12_putsBy ml_X12_343 (n1 := 1) rfl [] rfl rfl rfl dX12_plan_82 rfl (fun M1 h => c_X12_putsBy _ _ _ _ h) (fun M3 => ?_)
        refine v_aload_n X 86 0 dX12_plan_85 rfl rfl ?_
        refine v_getR X 89 fl_X12_70.r dX12_plan_86 rfl (fun v4 => ?_)
        refine v_aload_n X 90 0 dX12_plan_89 rfl rfl ?_
        refine v_getR X 93 fl_X12_43.r dX12_plan_90 rfl (fun v5 => ?_)
        refine v_sV X 96 cs_X12_puts ml_X12_346 (n1 := 1) rfl [.ref v4, .ref v5] rfl rfl rfl dX12_plan_93 rfl (fun M1 h => c_X12_puts _ _ _ _ _ h) (fun M6 => ?_)
        refine v_aload_n X 97 0 dX12_plan_96 rfl rfl ?_
        refine v_aload_n X 98 0 dX12_plan_97 rfl rfl ?_
        refine v_getR X 101 fl_X12_43.r dX12_plan_98 rfl (fun v7 => ?_)
        refine v_bipush X 103 dX12_plan_101 bk_45 rfl ?_
        refine v_iald X 104 dX12_plan_103 rfl (fun v8 => ?_)
        refine v_vI X 107 cv_X12_adds ml_X12_350 (n1 := 1) rfl [.int v8] rfl rfl rfl dX12_plan_104 rfl (fun r M1 h => c_X12_adds _ _ _ _ _ _ h) (fun r10 M9 => ?_)
        exact v_iret X Y (Nat.le_refl _) (Nat.le_refl _) dX12_plan_107
      · refine v_iload X 80 4 dX12_plan_78 rfl rfl ?_
        exact v_iret X Y (Nat.le_refl _) (Nat.le_refl _) dX12_plan_80
    · refine v_aload_n X 37 0 dX12_plan_36 rfl rfl ?_
      refine v_vI X 40 cv_X12_readsTrip ml_X12_340 (n1 := 4) rfl [] rfl rfl rfl dX12_plan_37 rfl (fun r M1 h => c_X12_readsTrip _ _ _ _ _ h) (fun r12 M11 => ?_)
      refine v_istore_n (lv' := [(0, .ref x0), (1, .int x1), (2, .int r12), (3, .int x3)]) X 41 dX12_plan_40 (by decide) rfl rfl ?_
      refine v_iload_n X 42 2 dX12_plan_41 rfl rfl ?_
      refine v_ifeq X 45 58 dX12_plan_42 rfl rfl ?_ ?_
      · exact v_sb [0, 1, 2] (L_X12_plan_58 X Y ih _ _ _ _) rfl
      · refine v_aload_n X 46 0 dX12_plan_45 rfl rfl ?_
        refine v_bipush X 48 dX12_plan_46 bk_59 rfl ?_
        refine v_vI X 51 cv_X12_takes ml_X12_202 (n1 := 2) rfl [.int (59 : Int32)] rfl rfl rfl dX12_plan_48 rfl (fun r M1 h => c_X12_takes _ _ _ _ _ _ h) (fun r14 M13 => ?_)
        refine v_ifeq X 54 58 dX12_plan_51 rfl rfl ?_ ?_
        · exact v_sb [0, 1, 2] (L_X12_plan_58 X Y ih _ _ _ _) rfl
        · refine v_iconst X 55 dX12_plan_54 ik_1 rfl ?_
          refine v_goto X 59 dX12_plan_55 rfl ?_
          exact v_sb [0, 1, 2] (L_X12_plan_59 X Y ih _ _ _ _ _) rfl
set_option maxRecDepth 4000 in
theorem L_X12_plan_31 {G : Gx} (X : Cb G cX12_plan 5 RX12 (RM 5 0 0) false) (Y : Cr G (some .int) 0 0) (x0 : Nat) (x1 : Int32) (x2 : Int32) (s0 : Int32) (M : MM) : V G trI 5 0 0 31 [(0, .ref x0), (1, .int x1), (2, .int x2)] [.int s0] M (f_X12_plan_31 x0 x1 x2 s0 M) := by
  unfold f_X12_plan_31
  refine v_istore_n (lv' := [(0, .ref x0), (1, .int x1), (2, .int x2), (3, .int s0)]) X 32 dX12_plan_31 (by decide) rfl rfl ?_
  exact L_X12_plan_32 X Y 1024 _ _ _ _ _
set_option maxRecDepth 4000 in
theorem L_X12_plan_0 {G : Gx} (X : Cb G cX12_plan 5 RX12 (RM 5 0 0) false) (Y : Cr G (some .int) 0 0) (x0 : Nat) (M : MM) : V G trI 5 0 0 0 [(0, .ref x0)] [] M (f_X12_plan_0 x0 M) := by
  unfold f_X12_plan_0
  refine v_aload_n X 1 0 dX12_plan_0 rfl rfl ?_
  refine v_iconst X 2 dX12_plan_1 ik_0 rfl ?_
  refine v_putI X 5 fl_X12_133 nof dX12_plan_2 rfl (fun M1 => ?_)
  refine v_aload_n X 6 0 dX12_plan_5 rfl rfl ?_
  refine v_bipush X 8 dX12_plan_6 bk_72 rfl ?_
  refine v_vI X 11 cv_X12_begins ml_X12_231 (n1 := 2) rfl [.int (72 : Int32)] rfl rfl rfl dX12_plan_8 rfl (fun r M1 h => c_X12_begins _ _ _ _ _ _ h) (fun r3 M2 => ?_)
  refine v_istore_n (lv' := [(0, .ref x0), (1, .int r3)]) X 12 dX12_plan_11 (by decide) rfl rfl ?_
  refine v_aload_n X 13 0 dX12_plan_12 rfl rfl ?_
  refine v_getR X 16 fl_X12_70.r dX12_plan_13 rfl (fun v4 => ?_)
  refine v_bipush X 18 dX12_plan_16 bk_45 rfl ?_
  refine v_iconst X 19 dX12_plan_18 ik_0 rfl ?_
  refine v_iast X 20 dX12_plan_19 rfl (fun M5 => ?_)
  refine v_iconst X 21 dX12_plan_20 ik_1 rfl ?_
  refine v_istore_n (lv' := [(0, .ref x0), (1, .int r3), (2, .int (1 : Int32))]) X 22 dX12_plan_21 (by decide) rfl rfl ?_
  refine v_iload_n X 23 1 dX12_plan_22 rfl rfl ?_
  refine v_ifle X 26 30 dX12_plan_23 rfl rfl ?_ ?_
  · refine v_iconst X 31 dX12_plan_30 ik_0 rfl ?_
    exact L_X12_plan_31 X Y _ _ _ _ _
  · refine v_iconst X 27 dX12_plan_26 ik_1 rfl ?_
    refine v_goto X 31 dX12_plan_27 rfl ?_
    exact L_X12_plan_31 X Y _ _ _ _ _
theorem c_X12_plan (l : Launch) (x0 : Nat) (M : MM) (r : Int32) (M1 : MM) (h : f_X12_plan x0 M = some (r, M1)) : KV l yX12_plan cX12_plan 5 (some .int) (RM 5 0 0) false 12 x0 [] M (some (.int r)) M1 := by
  obtain ⟨hO, h2⟩ := iteO_some h
  exact ⟨hO, ct_of (tr := trI) (by decide) (Nat.le_of_ble_eq_true rfl) [(0, .ref x0)] rfl h2 (fun G X Y hn hl => L_X12_plan_0 X Y x0 M)⟩

def f_X12_person_25 (x0 : Nat) (M : MM) : Option (Int32 × MM) :=
    b2 (f_X12_refuse x0 M) fun r2 M1 =>
    some (r2, M1)

def f_X12_person_81 (K38 : Nat → Int32 → Int32 → Int32 → Int32 → Int32 → MM → Option (Int32 × MM)) (x0 : Nat) (x1 : Int32) (x2 : Int32) (x3 : Int32) (x4 : Int32) (x5 : Int32) (M : MM) : Option (Int32 × MM) :=
    bn (x5 + 1 : Int32) fun y1 =>
    K38 x0 x1 x2 x3 x4 y1 M

def f_X12_person_137 (K99 : Nat → Int32 → Int32 → Int32 → Int32 → Int32 → Int32 → Int32 → Int32 → MM → Option (Int32 × MM)) (x0 : Nat) (x1 : Int32) (x2 : Int32) (x3 : Int32) (x4 : Int32) (x5 : Int32) (x7 : Int32) (x8 : Int32) (x9 : Int32) (s0 : Int32) (M : MM) : Option (Int32 × MM) :=
    b2 (f_X12_flag x9 M) fun r2 M1 =>
    bn (x5 + r2 : Int32) fun y3 =>
    bn (maxI x7 s0 : Int32) fun y4 =>
    bn (x8 + 1 : Int32) fun y5 =>
    K99 x0 x1 x2 x3 x4 y3 s0 y4 y5 M1

def f_X12_person_99 : Nat → Nat → Int32 → Int32 → Int32 → Int32 → Int32 → Int32 → Int32 → Int32 → MM → Option (Int32 × MM)
  | 0, _, _, _, _, _, _, _, _, _, _ => none
  | n + 1, x0, x1, x2, x3, x4, x5, x6, x7, x8, M =>
    b1 (gI 12 6 x0 M) fun v1 =>
    if v1 ≤ x8 then
      if x2 = 0 then
        b1 (gR 12 7 x0 M) fun v3 =>
        b1 (ldZ v3 x1 M) fun v4 =>
        b2 (f_X12_flag v4 M) fun r6 M5 =>
        some (r6, M5)
      else
        if x2 = (1 : Int32) then
          some (x3, M)
        else
          if x2 = (2 : Int32) then
            b1 (gI 12 6 x0 M) fun v2 =>
            some (v2 - x5, M)
          else
            if x2 = (3 : Int32) then
              some (x5, M)
            else
              if x2 = (4 : Int32) then
                some (x7, M)
              else
                some (x4, M)
    else
      b1 (gR 12 15 x0 M) fun v7 =>
      b2 (f_X12_benchIn x0 v7 x8 M) fun r9 M8 =>
      b2 (f_X12_has r9 x1 M8) fun r11 M10 =>
      if r11 = 0 then
        f_X12_person_137 (f_X12_person_99 n) x0 x1 x2 x3 x4 x5 x7 x8 r11 (0 : Int32) M10
      else
        f_X12_person_137 (f_X12_person_99 n) x0 x1 x2 x3 x4 x5 x7 x8 r11 (x6 + (1 : Int32)) M10

def f_X12_person_38 : Nat → Nat → Int32 → Int32 → Int32 → Int32 → Int32 → MM → Option (Int32 × MM)
  | 0, _, _, _, _, _, _, _ => none
  | n + 1, x0, x1, x2, x3, x4, x5, M =>
    b1 (gR 12 15 x0 M) fun v1 =>
    b1 (ldI v1 (45 : Int32) M) fun v2 =>
    if v2 ≤ x5 then
      f_X12_person_99 1024 x0 x1 x2 x3 x4 (0 : Int32) (0 : Int32) (0 : Int32) (0 : Int32) M
    else
      b1 (gR 12 15 x0 M) fun v3 =>
      b2 (f_X12_who v3 x5 M) fun r5 M4 =>
      if r5 = x1 then
        bn (x3 + 1 : Int32) fun y6 =>
        b1 (gR 12 15 x0 M4) fun v7 =>
        b2 (f_X12_worthOf x0 v7 x5 M4) fun r9 M8 =>
        bn (x4 + r9 : Int32) fun y10 =>
        f_X12_person_81 (f_X12_person_38 n) x0 x1 x2 y6 y10 x5 M8
      else
        f_X12_person_81 (f_X12_person_38 n) x0 x1 x2 x3 x4 x5 M4

def f_X12_person_0 (x0 : Nat) (x1 : Int32) (x2 : Int32) (M : MM) : Option (Int32 × MM) :=
    b1 (pI 12 0 x0 (0 : Int32) M) fun M1 =>
    b2 (f_X12_isPerson x0 x1 M1) fun r3 M2 =>
    if r3 = 0 then
      f_X12_person_25 x0 M2
    else
      b2 (f_X12_in (Int32.toInt64 x2) (0 : Int64) (5 : Int64) M2) fun r5 M4 =>
      if r5 = 0 then
        f_X12_person_25 x0 M4
      else
        f_X12_person_38 1024 x0 x1 x2 (0 : Int32) (0 : Int32) (0 : Int32) M4

def f_X12_person (x0 : Nat) (x1 : Int32) (x2 : Int32) (M : MM) : Option (Int32 × MM) := if isO 12 x0 M = true then f_X12_person_0 x0 x1 x2 M else none
set_option maxRecDepth 4000 in
theorem L_X12_person_25 {G : Gx} (X : Cb G cX12_person 10 RX12 (RM 5 0 0) false) (Y : Cr G (some .int) 0 0) (x0 : Nat) (M : MM) : V G trI 10 0 0 25 [(0, .ref x0)] [] M (f_X12_person_25 x0 M) := by
  unfold f_X12_person_25
  refine v_aload_n X 26 0 dX12_person_25 rfl rfl ?_
  refine v_vI X 29 cv_X12_refuse ml_X12_355 (n1 := 1) rfl [] rfl rfl rfl dX12_person_26 rfl (fun r M1 h => c_X12_refuse _ _ _ _ _ h) (fun r2 M1 => ?_)
  exact v_iret X Y (Nat.le_refl _) (Nat.le_refl _) dX12_person_29
set_option maxRecDepth 4000 in
theorem L_X12_person_81 {G : Gx} (X : Cb G cX12_person 10 RX12 (RM 5 0 0) false) (Y : Cr G (some .int) 0 0) {K38 : Nat → Int32 → Int32 → Int32 → Int32 → Int32 → MM → Option (Int32 × MM)} (hK38 : ∀ (x0 : Nat) (x1 : Int32) (x2 : Int32) (x3 : Int32) (x4 : Int32) (x5 : Int32) (M : MM), V G trI 10 0 0 38 [(0, .ref x0), (1, .int x1), (2, .int x2), (3, .int x3), (4, .int x4), (5, .int x5)] [] M (K38 x0 x1 x2 x3 x4 x5 M)) (x0 : Nat) (x1 : Int32) (x2 : Int32) (x3 : Int32) (x4 : Int32) (x5 : Int32) (M : MM) : V G trI 10 0 0 81 [(0, .ref x0), (1, .int x1), (2, .int x2), (3, .int x3), (4, .int x4), (5, .int x5)] [] M (f_X12_person_81 K38 x0 x1 x2 x3 x4 x5 M) := by
  unfold f_X12_person_81
  refine v_iinc X 84 5 (fun z => [(0, .ref x0), (1, .int x1), (2, .int x2), (3, .int x3), (4, .int x4), (5, .int z)]) dX12_person_81 rfl ik_1 (by decide) (fun _ => rfl) rfl (fun y1 => ?_)
  refine v_goto X 38 dX12_person_84 rfl ?_
  exact hK38 _ _ _ _ _ _ _
set_option maxRecDepth 4000 in
theorem L_X12_person_137 {G : Gx} (X : Cb G cX12_person 10 RX12 (RM 5 0 0) false) (Y : Cr G (some .int) 0 0) {K99 : Nat → Int32 → Int32 → Int32 → Int32 → Int32 → Int32 → Int32 → Int32 → MM → Option (Int32 × MM)} (hK99 : ∀ (x0 : Nat) (x1 : Int32) (x2 : Int32) (x3 : Int32) (x4 : Int32) (x5 : Int32) (x6 : Int32) (x7 : Int32) (x8 : Int32) (M : MM), V G trI 10 0 0 99 [(0, .ref x0), (1, .int x1), (2, .int x2), (3, .int x3), (4, .int x4), (5, .int x5), (6, .int x6), (7, .int x7), (8, .int x8)] [] M (K99 x0 x1 x2 x3 x4 x5 x6 x7 x8 M)) (x0 : Nat) (x1 : Int32) (x2 : Int32) (x3 : Int32) (x4 : Int32) (x5 : Int32) (x7 : Int32) (x8 : Int32) (x9 : Int32) (s0 : Int32) (M : MM) : V G trI 10 0 0 137 [(0, .ref x0), (1, .int x1), (2, .int x2), (3, .int x3), (4, .int x4), (5, .int x5), (7, .int x7), (8, .int x8), (9, .int x9)] [.int s0] M (f_X12_person_137 K99 x0 x1 x2 x3 x4 x5 x7 x8 x9 s0 M) := by
  unfold f_X12_person_137
  refine v_istore (lv' := [(0, .ref x0), (1, .int x1), (2, .int x2), (3, .int x3), (4, .int x4), (5, .int x5), (6, .int s0), (7, .int x7), (8, .int x8), (9, .int x9)]) X 139 dX12_person_137 (by decide) rfl rfl ?_
  refine v_iload X 141 5 dX12_person_139 rfl rfl ?_
  refine v_iload X 143 9 dX12_person_141 rfl rfl ?_
  refine v_sI X 146 cs_X12_flag ml_X12_171 (n1 := 1) rfl [.int x9] rfl rfl rfl dX12_person_143 rfl (fun r M1 h => c_X12_flag _ _ _ _ _ h) (fun r2 M1 => ?_)
  refine v_iadd X 147 dX12_person_146 rfl ?_
  refine v_bnI (fun y3 => ?_)
  refine v_istore (lv' := [(0, .ref x0), (1, .int x1), (2, .int x2), (3, .int x3), (4, .int x4), (5, .int y3), (6, .int s0), (7, .int x7), (8, .int x8), (9, .int x9)]) X 149 dX12_person_147 (by decide) rfl rfl ?_
  refine v_iload X 151 7 dX12_person_149 rfl rfl ?_
  refine v_iload X 153 6 dX12_person_151 rfl rfl ?_
  refine v_max X 156 ml_X12_311 w_max (Nat.le_of_ble_eq_true rfl) (Nat.le_of_ble_eq_true rfl) (Nat.zero_le _) (Nat.zero_le _) dX12_person_153 rfl ?_
  refine v_bnI (fun y4 => ?_)
  refine v_istore (lv' := [(0, .ref x0), (1, .int x1), (2, .int x2), (3, .int x3), (4, .int x4), (5, .int y3), (6, .int s0), (7, .int y4), (8, .int x8), (9, .int x9)]) X 158 dX12_person_156 (by decide) rfl rfl ?_
  refine v_iinc X 161 8 (fun z => [(0, .ref x0), (1, .int x1), (2, .int x2), (3, .int x3), (4, .int x4), (5, .int y3), (6, .int s0), (7, .int y4), (8, .int z), (9, .int x9)]) dX12_person_158 rfl ik_1 (by decide) (fun _ => rfl) rfl (fun y5 => ?_)
  refine v_goto X 99 dX12_person_161 rfl ?_
  exact v_sb [0, 1, 2, 3, 4, 5, 6, 7, 8] (hK99 _ _ _ _ _ _ _ _ _ _) rfl
set_option maxRecDepth 4000 in
theorem L_X12_person_99 {G : Gx} (X : Cb G cX12_person 10 RX12 (RM 5 0 0) false) (Y : Cr G (some .int) 0 0) : ∀ (n : Nat) (x0 : Nat) (x1 : Int32) (x2 : Int32) (x3 : Int32) (x4 : Int32) (x5 : Int32) (x6 : Int32) (x7 : Int32) (x8 : Int32) (M : MM), V G trI 10 0 0 99 [(0, .ref x0), (1, .int x1), (2, .int x2), (3, .int x3), (4, .int x4), (5, .int x5), (6, .int x6), (7, .int x7), (8, .int x8)] [] M (f_X12_person_99 n x0 x1 x2 x3 x4 x5 x6 x7 x8 M) := by
  intro n
  induction n with
  | zero => intro x0 x1 x2 x3 x4 x5 x6 x7 x8 M; rw [f_X12_person_99]; exact v_none
  | succ n ih =>
    intro x0 x1 x2 x3 x4 x5 x6 x7 x8 M
    rw [f_X12_person_99]
    refine v_iload X 101 8 dX12_person_99 rfl rfl ?_
    refine v_aload_n X 102 0 dX12_person_101 rfl rfl ?_
    refine v_getI X 105 fl_X12_13.r dX12_person_102 rfl (fun v1 => ?_)
    refine v_icge X 108 164 dX12_person_105 rfl rfl ?_ ?_
    · refine v_iload_n X 165 2 dX12_person_164 rfl rfl ?_
      refine v_ifne X 168 180 dX12_person_165 rfl rfl ?_ ?_
      · refine v_iload_n X 181 2 dX12_person_180 rfl rfl ?_
        refine v_iconst X 182 dX12_person_181 ik_1 rfl ?_
        refine v_icne X 185 189 dX12_person_182 rfl rfl ?_ ?_
        · refine v_iload_n X 190 2 dX12_person_189 rfl rfl ?_
          refine v_iconst X 191 dX12_person_190 ik_2 rfl ?_
          refine v_icne X 194 204 dX12_person_191 rfl rfl ?_ ?_
          · refine v_iload_n X 205 2 dX12_person_204 rfl rfl ?_
            refine v_iconst X 206 dX12_person_205 ik_3 rfl ?_
            refine v_icne X 209 214 dX12_person_206 rfl rfl ?_ ?_
            · refine v_iload_n X 215 2 dX12_person_214 rfl rfl ?_
              refine v_iconst X 216 dX12_person_215 ik_4 rfl ?_
              refine v_icne X 219 224 dX12_person_216 rfl rfl ?_ ?_
              · refine v_iload X 226 4 dX12_person_224 rfl rfl ?_
                exact v_iret X Y (Nat.le_refl _) (Nat.le_refl _) dX12_person_226
              · refine v_iload X 221 7 dX12_person_219 rfl rfl ?_
                refine v_goto X 226 dX12_person_221 rfl ?_
                exact v_iret X Y (Nat.le_refl _) (Nat.le_refl _) dX12_person_226
            · refine v_iload X 211 5 dX12_person_209 rfl rfl ?_
              refine v_goto X 226 dX12_person_211 rfl ?_
              exact v_iret X Y (Nat.le_refl _) (Nat.le_refl _) dX12_person_226
          · refine v_aload_n X 195 0 dX12_person_194 rfl rfl ?_
            refine v_getI X 198 fl_X12_13.r dX12_person_195 rfl (fun v2 => ?_)
            refine v_iload X 200 5 dX12_person_198 rfl rfl ?_
            refine v_isub X 201 dX12_person_200 rfl ?_
            refine v_goto X 226 dX12_person_201 rfl ?_
            exact v_iret X Y (Nat.le_refl _) (Nat.le_refl _) dX12_person_226
        · refine v_iload_n X 186 3 dX12_person_185 rfl rfl ?_
          refine v_goto X 226 dX12_person_186 rfl ?_
          exact v_iret X Y (Nat.le_refl _) (Nat.le_refl _) dX12_person_226
      · refine v_aload_n X 169 0 dX12_person_168 rfl rfl ?_
        refine v_getR X 172 fl_X12_17.r dX12_person_169 rfl (fun v3 => ?_)
        refine v_iload_n X 173 1 dX12_person_172 rfl rfl ?_
        refine v_zald X 174 dX12_person_173 rfl (fun v4 => ?_)
        refine v_sI X 177 cs_X12_flag ml_X12_171 (n1 := 1) rfl [.int v4] rfl rfl rfl dX12_person_174 rfl (fun r M1 h => c_X12_flag _ _ _ _ _ h) (fun r6 M5 => ?_)
        refine v_goto X 226 dX12_person_177 rfl ?_
        exact v_iret X Y (Nat.le_refl _) (Nat.le_refl _) dX12_person_226
    · refine v_aload_n X 109 0 dX12_person_108 rfl rfl ?_
      refine v_aload_n X 110 0 dX12_person_109 rfl rfl ?_
      refine v_getR X 113 fl_X12_43.r dX12_person_110 rfl (fun v7 => ?_)
      refine v_iload X 115 8 dX12_person_113 rfl rfl ?_
      refine v_vI X 118 cv_X12_benchIn ml_X12_323 (n1 := 4) rfl [.ref v7, .int x8] rfl rfl rfl dX12_person_115 rfl (fun r M1 h => c_X12_benchIn _ _ _ _ _ _ _ h) (fun r9 M8 => ?_)
      refine v_iload_n X 119 1 dX12_person_118 rfl rfl ?_
      refine v_sI X 122 cs_X12_has ml_X12_358 (n1 := 1) rfl [.int r9, .int x1] rfl rfl rfl dX12_person_119 rfl (fun r M1 h => c_X12_has _ _ _ _ _ _ h) (fun r11 M10 => ?_)
      refine v_istore (lv' := [(0, .ref x0), (1, .int x1), (2, .int x2), (3, .int x3), (4, .int x4), (5, .int x5), (6, .int x6), (7, .int x7), (8, .int x8), (9, .int r11)]) X 124 dX12_person_122 (by decide) rfl rfl ?_
      refine v_iload X 126 9 dX12_person_124 rfl rfl ?_
      refine v_ifeq X 129 136 dX12_person_126 rfl rfl ?_ ?_
      · refine v_iconst X 137 dX12_person_136 ik_0 rfl ?_
        exact v_sb [0, 1, 2, 3, 4, 5, 7, 8, 9] (L_X12_person_137 X Y ih _ _ _ _ _ _ _ _ _ _ _) rfl
      · refine v_iload X 131 6 dX12_person_129 rfl rfl ?_
        refine v_iconst X 132 dX12_person_131 ik_1 rfl ?_
        refine v_iadd X 133 dX12_person_132 rfl ?_
        refine v_goto X 137 dX12_person_133 rfl ?_
        exact v_sb [0, 1, 2, 3, 4, 5, 7, 8, 9] (L_X12_person_137 X Y ih _ _ _ _ _ _ _ _ _ _ _) rfl
set_option maxRecDepth 4000 in
theorem L_X12_person_38 {G : Gx} (X : Cb G cX12_person 10 RX12 (RM 5 0 0) false) (Y : Cr G (some .int) 0 0) : ∀ (n : Nat) (x0 : Nat) (x1 : Int32) (x2 : Int32) (x3 : Int32) (x4 : Int32) (x5 : Int32) (M : MM), V G trI 10 0 0 38 [(0, .ref x0), (1, .int x1), (2, .int x2), (3, .int x3), (4, .int x4), (5, .int x5)] [] M (f_X12_person_38 n x0 x1 x2 x3 x4 x5 M) := by
  intro n
  induction n with
  | zero => intro x0 x1 x2 x3 x4 x5 M; rw [f_X12_person_38]; exact v_none
  | succ n ih =>
    intro x0 x1 x2 x3 x4 x5 M
    rw [f_X12_person_38]
    refine v_iload X 40 5 dX12_person_38 rfl rfl ?_
    refine v_aload_n X 41 0 dX12_person_40 rfl rfl ?_
    refine v_getR X 44 fl_X12_43.r dX12_person_41 rfl (fun v1 => ?_)
    refine v_bipush X 46 dX12_person_44 bk_45 rfl ?_
    refine v_iald X 47 dX12_person_46 rfl (fun v2 => ?_)
    refine v_icge X 50 87 dX12_person_47 rfl rfl ?_ ?_
    · refine v_iconst X 88 dX12_person_87 ik_0 rfl ?_
      refine v_istore (lv' := [(0, .ref x0), (1, .int x1), (2, .int x2), (3, .int x3), (4, .int x4), (5, .int (0 : Int32))]) X 90 dX12_person_88 (by decide) rfl rfl ?_
      refine v_iconst X 91 dX12_person_90 ik_0 rfl ?_
      refine v_istore (lv' := [(0, .ref x0), (1, .int x1), (2, .int x2), (3, .int x3), (4, .int x4), (5, .int (0 : Int32)), (6, .int (0 : Int32))]) X 93 dX12_person_91 (by decide) rfl rfl ?_
      refine v_iconst X 94 dX12_person_93 ik_0 rfl ?_
      refine v_istore (lv' := [(0, .ref x0), (1, .int x1), (2, .int x2), (3, .int x3), (4, .int x4), (5, .int (0 : Int32)), (6, .int (0 : Int32)), (7, .int (0 : Int32))]) X 96 dX12_person_94 (by decide) rfl rfl ?_
      refine v_iconst X 97 dX12_person_96 ik_0 rfl ?_
      refine v_istore (lv' := [(0, .ref x0), (1, .int x1), (2, .int x2), (3, .int x3), (4, .int x4), (5, .int (0 : Int32)), (6, .int (0 : Int32)), (7, .int (0 : Int32)), (8, .int (0 : Int32))]) X 99 dX12_person_97 (by decide) rfl rfl ?_
      exact L_X12_person_99 X Y 1024 _ _ _ _ _ _ _ _ _ _
    · refine v_aload_n X 51 0 dX12_person_50 rfl rfl ?_
      refine v_getR X 54 fl_X12_43.r dX12_person_51 rfl (fun v3 => ?_)
      refine v_iload X 56 5 dX12_person_54 rfl rfl ?_
      refine v_sI X 59 cs_X12_who ml_X12_293 (n1 := 1) rfl [.ref v3, .int x5] rfl rfl rfl dX12_person_56 rfl (fun r M1 h => c_X12_who _ _ _ _ _ _ h) (fun r5 M4 => ?_)
      refine v_iload_n X 60 1 dX12_person_59 rfl rfl ?_
      refine v_icne X 63 81 dX12_person_60 rfl rfl ?_ ?_
      · exact L_X12_person_81 X Y ih _ _ _ _ _ _ _
      · refine v_iinc X 66 3 (fun z => [(0, .ref x0), (1, .int x1), (2, .int x2), (3, .int z), (4, .int x4), (5, .int x5)]) dX12_person_63 rfl ik_1 (by decide) (fun _ => rfl) rfl (fun y6 => ?_)
        refine v_iload X 68 4 dX12_person_66 rfl rfl ?_
        refine v_aload_n X 69 0 dX12_person_68 rfl rfl ?_
        refine v_aload_n X 70 0 dX12_person_69 rfl rfl ?_
        refine v_getR X 73 fl_X12_43.r dX12_person_70 rfl (fun v7 => ?_)
        refine v_iload X 75 5 dX12_person_73 rfl rfl ?_
        refine v_vI X 78 cv_X12_worthOf ml_X12_314 (n1 := 4) rfl [.ref v7, .int x5] rfl rfl rfl dX12_person_75 rfl (fun r M1 h => c_X12_worthOf _ _ _ _ _ _ _ h) (fun r9 M8 => ?_)
        refine v_iadd X 79 dX12_person_78 rfl ?_
        refine v_bnI (fun y10 => ?_)
        refine v_istore (lv' := [(0, .ref x0), (1, .int x1), (2, .int x2), (3, .int y6), (4, .int y10), (5, .int x5)]) X 81 dX12_person_79 (by decide) rfl rfl ?_
        exact L_X12_person_81 X Y ih _ _ _ _ _ _ _
set_option maxRecDepth 4000 in
theorem L_X12_person_0 {G : Gx} (X : Cb G cX12_person 10 RX12 (RM 5 0 0) false) (Y : Cr G (some .int) 0 0) (x0 : Nat) (x1 : Int32) (x2 : Int32) (M : MM) : V G trI 10 0 0 0 [(0, .ref x0), (1, .int x1), (2, .int x2)] [] M (f_X12_person_0 x0 x1 x2 M) := by
  unfold f_X12_person_0
  refine v_aload_n X 1 0 dX12_person_0 rfl rfl ?_
  refine v_iconst X 2 dX12_person_1 ik_0 rfl ?_
  refine v_putI X 5 fl_X12_133 nof dX12_person_2 rfl (fun M1 => ?_)
  refine v_aload_n X 6 0 dX12_person_5 rfl rfl ?_
  refine v_iload_n X 7 1 dX12_person_6 rfl rfl ?_
  refine v_vI X 10 cv_X12_isPerson ml_X12_247 (n1 := 2) rfl [.int x1] rfl rfl rfl dX12_person_7 rfl (fun r M1 h => c_X12_isPerson _ _ _ _ _ _ h) (fun r3 M2 => ?_)
  refine v_ifeq X 13 25 dX12_person_10 rfl rfl ?_ ?_
  · exact v_sb [0] (L_X12_person_25 X Y _ _) rfl
  · refine v_iload_n X 14 2 dX12_person_13 rfl rfl ?_
    refine v_i2l X 15 dX12_person_14 rfl ?_
    refine v_lconst X 16 dX12_person_15 lk_0 rfl ?_
    refine v_ldc2 X 19 dX12_person_16 kl_X12_353 rfl ?_
    refine v_sI X 22 cs_X12_in ml_X12_146 (n1 := 1) rfl [.long (Int32.toInt64 x2), .long (0 : Int64), .long (5 : Int64)] rfl rfl rfl dX12_person_19 rfl (fun r M1 h => c_X12_in _ _ _ _ _ _ _ h) (fun r5 M4 => ?_)
    refine v_ifne X 25 30 dX12_person_22 rfl rfl ?_ ?_
    · refine v_iconst X 31 dX12_person_30 ik_0 rfl ?_
      refine v_istore_n (lv' := [(0, .ref x0), (1, .int x1), (2, .int x2), (3, .int (0 : Int32))]) X 32 dX12_person_31 (by decide) rfl rfl ?_
      refine v_iconst X 33 dX12_person_32 ik_0 rfl ?_
      refine v_istore (lv' := [(0, .ref x0), (1, .int x1), (2, .int x2), (3, .int (0 : Int32)), (4, .int (0 : Int32))]) X 35 dX12_person_33 (by decide) rfl rfl ?_
      refine v_iconst X 36 dX12_person_35 ik_0 rfl ?_
      refine v_istore (lv' := [(0, .ref x0), (1, .int x1), (2, .int x2), (3, .int (0 : Int32)), (4, .int (0 : Int32)), (5, .int (0 : Int32))]) X 38 dX12_person_36 (by decide) rfl rfl ?_
      exact L_X12_person_38 X Y 1024 _ _ _ _ _ _ _
    · exact v_sb [0] (L_X12_person_25 X Y _ _) rfl
theorem c_X12_person (l : Launch) (x0 : Nat) (x1 : Int32) (x2 : Int32) (M : MM) (r : Int32) (M1 : MM) (h : f_X12_person x0 x1 x2 M = some (r, M1)) : KV l yX12_person cX12_person 10 (some .int) (RM 5 0 0) false 12 x0 [.int x1, .int x2] M (some (.int r)) M1 := by
  obtain ⟨hO, h2⟩ := iteO_some h
  exact ⟨hO, ct_of (tr := trI) (by decide) (Nat.le_of_ble_eq_true rfl) [(0, .ref x0), (1, .int x1), (2, .int x2)] rfl h2 (fun G X Y hn hl => L_X12_person_0 X Y x0 x1 x2 M)⟩

def f_X12_errand_25 (x0 : Nat) (M : MM) : Option (Int32 × MM) :=
    b2 (f_X12_refuse x0 M) fun r2 M1 =>
    some (r2, M1)

def f_X12_errand_149 (K118 : Nat → Int32 → Int32 → Int32 → MM → Option (Int32 × MM)) (x0 : Nat) (x1 : Int32) (x4 : Int32) (s0 : Int32) (s1 : Int32) (M : MM) : Option (Int32 × MM) :=
    b2 (f_X12_flag s0 M) fun r2 M1 =>
    bn (s1 + r2 : Int32) fun y3 =>
    bn (x4 + 1 : Int32) fun y4 =>
    K118 x0 x1 y3 y4 M1

def f_X12_errand_118 : Nat → Nat → Int32 → Int32 → Int32 → MM → Option (Int32 × MM)
  | 0, _, _, _, _, _ => none
  | n + 1, x0, x1, x3, x4, M =>
    b1 (gR 12 15 x0 M) fun v1 =>
    b1 (ldI v1 (45 : Int32) M) fun v2 =>
    if v2 ≤ x4 then
      some (x3, M)
    else
      b1 (gR 12 15 x0 M) fun v3 =>
      b2 (f_X12_what v3 x4 M) fun r5 M4 =>
      if r5 = x1 then
        f_X12_errand_149 (f_X12_errand_118 n) x0 x1 x4 (1 : Int32) x3 M4
      else
        f_X12_errand_149 (f_X12_errand_118 n) x0 x1 x4 (0 : Int32) x3 M4

def f_X12_errand_0 (x0 : Nat) (x1 : Int32) (x2 : Int32) (M : MM) : Option (Int32 × MM) :=
    b1 (pI 12 0 x0 (0 : Int32) M) fun M1 =>
    b2 (f_X12_isErrand x0 x1 M1) fun r3 M2 =>
    if r3 = 0 then
      f_X12_errand_25 x0 M2
    else
      b2 (f_X12_in (Int32.toInt64 x2) (0 : Int64) (6 : Int64) M2) fun r5 M4 =>
      if r5 = 0 then
        f_X12_errand_25 x0 M4
      else
        if x2 = 0 then
          b1 (gR 12 9 x0 M4) fun v6 =>
          b1 (ldI v6 x1 M4) fun v7 =>
          some (v7, M4)
        else
        if x2 = 1 then
          b1 (gR 12 10 x0 M4) fun v8 =>
          b1 (ldI v8 x1 M4) fun v9 =>
          some (v9, M4)
        else
        if x2 = 2 then
          b1 (gR 12 11 x0 M4) fun v10 =>
          b1 (ldI v10 x1 M4) fun v11 =>
          some (v11, M4)
        else
        if x2 = 3 then
          b1 (gR 12 12 x0 M4) fun v12 =>
          b1 (ldI v12 x1 M4) fun v13 =>
          some (v13, M4)
        else
        if x2 = 4 then
          b1 (gR 12 13 x0 M4) fun v14 =>
          b1 (ldI v14 x1 M4) fun v15 =>
          some (v15, M4)
        else
        if x2 = 5 then
          b1 (gR 12 14 x0 M4) fun v16 =>
          b1 (ldZ v16 x1 M4) fun v17 =>
          b2 (f_X12_flag v17 M4) fun r19 M18 =>
          some (r19, M18)
        else
          f_X12_errand_118 1024 x0 x1 (0 : Int32) (0 : Int32) M4

def f_X12_errand (x0 : Nat) (x1 : Int32) (x2 : Int32) (M : MM) : Option (Int32 × MM) := if isO 12 x0 M = true then f_X12_errand_0 x0 x1 x2 M else none
set_option maxRecDepth 4000 in
theorem L_X12_errand_25 {G : Gx} (X : Cb G cX12_errand 5 RX12 (RM 3 0 0) false) (Y : Cr G (some .int) 0 0) (x0 : Nat) (M : MM) : V G trI 5 0 0 25 [(0, .ref x0)] [] M (f_X12_errand_25 x0 M) := by
  unfold f_X12_errand_25
  refine v_aload_n X 26 0 dX12_errand_25 rfl rfl ?_
  refine v_vI X 29 cv_X12_refuse ml_X12_355 (n1 := 1) rfl [] rfl rfl rfl dX12_errand_26 rfl (fun r M1 h => c_X12_refuse _ _ _ _ _ h) (fun r2 M1 => ?_)
  exact v_iret X Y (Nat.le_refl _) (Nat.le_refl _) dX12_errand_29
set_option maxRecDepth 4000 in
theorem L_X12_errand_149 {G : Gx} (X : Cb G cX12_errand 5 RX12 (RM 3 0 0) false) (Y : Cr G (some .int) 0 0) {K118 : Nat → Int32 → Int32 → Int32 → MM → Option (Int32 × MM)} (hK118 : ∀ (x0 : Nat) (x1 : Int32) (x3 : Int32) (x4 : Int32) (M : MM), V G trI 5 0 0 118 [(0, .ref x0), (1, .int x1), (3, .int x3), (4, .int x4)] [] M (K118 x0 x1 x3 x4 M)) (x0 : Nat) (x1 : Int32) (x4 : Int32) (s0 : Int32) (s1 : Int32) (M : MM) : V G trI 5 0 0 149 [(0, .ref x0), (1, .int x1), (4, .int x4)] [.int s0, .int s1] M (f_X12_errand_149 K118 x0 x1 x4 s0 s1 M) := by
  unfold f_X12_errand_149
  refine v_sI X 152 cs_X12_flag ml_X12_171 (n1 := 1) rfl [.int s0] rfl rfl rfl dX12_errand_149 rfl (fun r M1 h => c_X12_flag _ _ _ _ _ h) (fun r2 M1 => ?_)
  refine v_iadd X 153 dX12_errand_152 rfl ?_
  refine v_bnI (fun y3 => ?_)
  refine v_istore_n (lv' := [(0, .ref x0), (1, .int x1), (3, .int y3), (4, .int x4)]) X 154 dX12_errand_153 (by decide) rfl rfl ?_
  refine v_iinc X 157 3 (fun z => [(0, .ref x0), (1, .int x1), (3, .int y3), (4, .int z)]) dX12_errand_154 rfl ik_1 (by decide) (fun _ => rfl) rfl (fun y4 => ?_)
  refine v_goto X 118 dX12_errand_157 rfl ?_
  exact hK118 _ _ _ _ _
set_option maxRecDepth 4000 in
theorem L_X12_errand_118 {G : Gx} (X : Cb G cX12_errand 5 RX12 (RM 3 0 0) false) (Y : Cr G (some .int) 0 0) : ∀ (n : Nat) (x0 : Nat) (x1 : Int32) (x3 : Int32) (x4 : Int32) (M : MM), V G trI 5 0 0 118 [(0, .ref x0), (1, .int x1), (3, .int x3), (4, .int x4)] [] M (f_X12_errand_118 n x0 x1 x3 x4 M) := by
  intro n
  induction n with
  | zero => intro x0 x1 x3 x4 M; rw [f_X12_errand_118]; exact v_none
  | succ n ih =>
    intro x0 x1 x3 x4 M
    rw [f_X12_errand_118]
    refine v_iload X 120 3 dX12_errand_118 rfl rfl ?_
    refine v_aload_n X 121 0 dX12_errand_120 rfl rfl ?_
    refine v_getR X 124 fl_X12_43.r dX12_errand_121 rfl (fun v1 => ?_)
    refine v_bipush X 126 dX12_errand_124 bk_45 rfl ?_
    refine v_iald X 127 dX12_errand_126 rfl (fun v2 => ?_)
    refine v_icge X 130 160 dX12_errand_127 rfl rfl ?_ ?_
    · refine v_iload_n X 161 2 dX12_errand_160 rfl rfl ?_
      exact v_iret X Y (Nat.le_refl _) (Nat.le_refl _) dX12_errand_161
    · refine v_iload_n X 131 2 dX12_errand_130 rfl rfl ?_
      refine v_aload_n X 132 0 dX12_errand_131 rfl rfl ?_
      refine v_getR X 135 fl_X12_43.r dX12_errand_132 rfl (fun v3 => ?_)
      refine v_iload X 137 3 dX12_errand_135 rfl rfl ?_
      refine v_sI X 140 cs_X12_what ml_X12_278 (n1 := 1) rfl [.ref v3, .int x4] rfl rfl rfl dX12_errand_137 rfl (fun r M1 h => c_X12_what _ _ _ _ _ _ h) (fun r5 M4 => ?_)
      refine v_iload_n X 141 1 dX12_errand_140 rfl rfl ?_
      refine v_icne X 144 148 dX12_errand_141 rfl rfl ?_ ?_
      · refine v_iconst X 149 dX12_errand_148 ik_0 rfl ?_
        exact v_sb [0, 1, 3] (L_X12_errand_149 X Y ih _ _ _ _ _ _) rfl
      · refine v_iconst X 145 dX12_errand_144 ik_1 rfl ?_
        refine v_goto X 149 dX12_errand_145 rfl ?_
        exact v_sb [0, 1, 3] (L_X12_errand_149 X Y ih _ _ _ _ _ _) rfl
set_option maxRecDepth 4000 in
theorem L_X12_errand_0 {G : Gx} (X : Cb G cX12_errand 5 RX12 (RM 3 0 0) false) (Y : Cr G (some .int) 0 0) (x0 : Nat) (x1 : Int32) (x2 : Int32) (M : MM) : V G trI 5 0 0 0 [(0, .ref x0), (1, .int x1), (2, .int x2)] [] M (f_X12_errand_0 x0 x1 x2 M) := by
  unfold f_X12_errand_0
  refine v_aload_n X 1 0 dX12_errand_0 rfl rfl ?_
  refine v_iconst X 2 dX12_errand_1 ik_0 rfl ?_
  refine v_putI X 5 fl_X12_133 nof dX12_errand_2 rfl (fun M1 => ?_)
  refine v_aload_n X 6 0 dX12_errand_5 rfl rfl ?_
  refine v_iload_n X 7 1 dX12_errand_6 rfl rfl ?_
  refine v_vI X 10 cv_X12_isErrand ml_X12_361 (n1 := 2) rfl [.int x1] rfl rfl rfl dX12_errand_7 rfl (fun r M1 h => c_X12_isErrand _ _ _ _ _ _ h) (fun r3 M2 => ?_)
  refine v_ifeq X 13 25 dX12_errand_10 rfl rfl ?_ ?_
  · exact v_sb [0] (L_X12_errand_25 X Y _ _) rfl
  · refine v_iload_n X 14 2 dX12_errand_13 rfl rfl ?_
    refine v_i2l X 15 dX12_errand_14 rfl ?_
    refine v_lconst X 16 dX12_errand_15 lk_0 rfl ?_
    refine v_ldc2 X 19 dX12_errand_16 kl_X12_364 rfl ?_
    refine v_sI X 22 cs_X12_in ml_X12_146 (n1 := 1) rfl [.long (Int32.toInt64 x2), .long (0 : Int64), .long (6 : Int64)] rfl rfl rfl dX12_errand_19 rfl (fun r M1 h => c_X12_in _ _ _ _ _ _ _ h) (fun r5 M4 => ?_)
    refine v_ifne X 25 30 dX12_errand_22 rfl rfl ?_ ?_
    · refine v_iload_n X 31 2 dX12_errand_30 rfl rfl ?_
      refine v_ite (fun e => ?_) (fun e0 => ?_)
      · refine v_tabIn X 68 dX12_errand_31 e rfl ?_
        refine v_aload_n X 69 0 dX12_errand_68 rfl rfl ?_
        refine v_getR X 72 fl_X12_25.r dX12_errand_69 rfl (fun v6 => ?_)
        refine v_iload_n X 73 1 dX12_errand_72 rfl rfl ?_
        refine v_iald X 74 dX12_errand_73 rfl (fun v7 => ?_)
        exact v_iret X Y (Nat.le_refl _) (Nat.le_refl _) dX12_errand_74
      refine v_ite (fun e => ?_) (fun e1 => ?_)
      · refine v_tabIn X 75 dX12_errand_31 e rfl ?_
        refine v_aload_n X 76 0 dX12_errand_75 rfl rfl ?_
        refine v_getR X 79 fl_X12_28.r dX12_errand_76 rfl (fun v8 => ?_)
        refine v_iload_n X 80 1 dX12_errand_79 rfl rfl ?_
        refine v_iald X 81 dX12_errand_80 rfl (fun v9 => ?_)
        exact v_iret X Y (Nat.le_refl _) (Nat.le_refl _) dX12_errand_81
      refine v_ite (fun e => ?_) (fun e2 => ?_)
      · refine v_tabIn X 82 dX12_errand_31 e rfl ?_
        refine v_aload_n X 83 0 dX12_errand_82 rfl rfl ?_
        refine v_getR X 86 fl_X12_31.r dX12_errand_83 rfl (fun v10 => ?_)
        refine v_iload_n X 87 1 dX12_errand_86 rfl rfl ?_
        refine v_iald X 88 dX12_errand_87 rfl (fun v11 => ?_)
        exact v_iret X Y (Nat.le_refl _) (Nat.le_refl _) dX12_errand_88
      refine v_ite (fun e => ?_) (fun e3 => ?_)
      · refine v_tabIn X 89 dX12_errand_31 e rfl ?_
        refine v_aload_n X 90 0 dX12_errand_89 rfl rfl ?_
        refine v_getR X 93 fl_X12_34.r dX12_errand_90 rfl (fun v12 => ?_)
        refine v_iload_n X 94 1 dX12_errand_93 rfl rfl ?_
        refine v_iald X 95 dX12_errand_94 rfl (fun v13 => ?_)
        exact v_iret X Y (Nat.le_refl _) (Nat.le_refl _) dX12_errand_95
      refine v_ite (fun e => ?_) (fun e4 => ?_)
      · refine v_tabIn X 96 dX12_errand_31 e rfl ?_
        refine v_aload_n X 97 0 dX12_errand_96 rfl rfl ?_
        refine v_getR X 100 fl_X12_37.r dX12_errand_97 rfl (fun v14 => ?_)
        refine v_iload_n X 101 1 dX12_errand_100 rfl rfl ?_
        refine v_iald X 102 dX12_errand_101 rfl (fun v15 => ?_)
        exact v_iret X Y (Nat.le_refl _) (Nat.le_refl _) dX12_errand_102
      refine v_ite (fun e => ?_) (fun e5 => ?_)
      · refine v_tabIn X 103 dX12_errand_31 e rfl ?_
        refine v_aload_n X 104 0 dX12_errand_103 rfl rfl ?_
        refine v_getR X 107 fl_X12_40.r dX12_errand_104 rfl (fun v16 => ?_)
        refine v_iload_n X 108 1 dX12_errand_107 rfl rfl ?_
        refine v_zald X 109 dX12_errand_108 rfl (fun v17 => ?_)
        refine v_sI X 112 cs_X12_flag ml_X12_171 (n1 := 1) rfl [.int v17] rfl rfl rfl dX12_errand_109 rfl (fun r M1 h => c_X12_flag _ _ _ _ _ h) (fun r19 M18 => ?_)
        exact v_iret X Y (Nat.le_refl _) (Nat.le_refl _) dX12_errand_112
      refine v_tabOut X 113 dX12_errand_31 [0, 1, 2, 3, 4, 5] ⟨e0, e1, e2, e3, e4, e5, trivial⟩ rfl rfl ?_
      refine v_iconst X 114 dX12_errand_113 ik_0 rfl ?_
      refine v_istore_n (lv' := [(0, .ref x0), (1, .int x1), (2, .int x2), (3, .int (0 : Int32))]) X 115 dX12_errand_114 (by decide) rfl rfl ?_
      refine v_iconst X 116 dX12_errand_115 ik_0 rfl ?_
      refine v_istore (lv' := [(0, .ref x0), (1, .int x1), (2, .int x2), (3, .int (0 : Int32)), (4, .int (0 : Int32))]) X 118 dX12_errand_116 (by decide) rfl rfl ?_
      exact v_sb [0, 1, 3, 4] (L_X12_errand_118 X Y 1024 _ _ _ _ _) rfl
    · exact v_sb [0] (L_X12_errand_25 X Y _ _) rfl
theorem c_X12_errand (l : Launch) (x0 : Nat) (x1 : Int32) (x2 : Int32) (M : MM) (r : Int32) (M1 : MM) (h : f_X12_errand x0 x1 x2 M = some (r, M1)) : KV l yX12_errand cX12_errand 5 (some .int) (RM 3 0 0) false 12 x0 [.int x1, .int x2] M (some (.int r)) M1 := by
  obtain ⟨hO, h2⟩ := iteO_some h
  exact ⟨hO, ct_of (tr := trI) (by decide) (Nat.le_of_ble_eq_true rfl) [(0, .ref x0), (1, .int x1), (2, .int x2)] rfl h2 (fun G X Y hn hl => L_X12_errand_0 X Y x0 x1 x2 M)⟩

def f_X12_trip_25 (x0 : Nat) (M : MM) : Option (Int32 × MM) :=
    b2 (f_X12_refuse x0 M) fun r2 M1 =>
    some (r2, M1)

def f_X12_trip_0 (x0 : Nat) (x1 : Int32) (x2 : Int32) (M : MM) : Option (Int32 × MM) :=
    b1 (pI 12 0 x0 (0 : Int32) M) fun M1 =>
    b2 (f_X12_isTrip x0 x1 M1) fun r3 M2 =>
    if r3 = 0 then
      f_X12_trip_25 x0 M2
    else
      b2 (f_X12_in (Int32.toInt64 x2) (0 : Int64) (5 : Int64) M2) fun r5 M4 =>
      if r5 = 0 then
        f_X12_trip_25 x0 M4
      else
        if x2 = 3 then
          b1 (gR 12 15 x0 M4) fun v6 =>
          b2 (f_X12_back x0 v6 x1 M4) fun r8 M7 =>
          some (r8, M7)
        else
        if x2 = 4 then
          b1 (gR 12 15 x0 M4) fun v9 =>
          b2 (f_X12_worthOf x0 v9 x1 M4) fun r11 M10 =>
          some (r11, M10)
        else
        if x2 = 5 then
          b1 (gR 12 15 x0 M4) fun v12 =>
          b2 (f_X12_whyNot x0 v12 x1 M4) fun r14 M13 =>
          some (r14, M13)
        else
          b1 (gR 12 15 x0 M4) fun v15 =>
          b1 (ldI v15 (((3 : Int32) * x1) + x2) M4) fun v16 =>
          some (v16, M4)

def f_X12_trip (x0 : Nat) (x1 : Int32) (x2 : Int32) (M : MM) : Option (Int32 × MM) := if isO 12 x0 M = true then f_X12_trip_0 x0 x1 x2 M else none
set_option maxRecDepth 4000 in
theorem L_X12_trip_25 {G : Gx} (X : Cb G cX12_trip 3 RX12 (RM 5 0 0) false) (Y : Cr G (some .int) 0 0) (x0 : Nat) (M : MM) : V G trI 3 0 0 25 [(0, .ref x0)] [] M (f_X12_trip_25 x0 M) := by
  unfold f_X12_trip_25
  refine v_aload_n X 26 0 dX12_trip_25 rfl rfl ?_
  refine v_vI X 29 cv_X12_refuse ml_X12_355 (n1 := 1) rfl [] rfl rfl rfl dX12_trip_26 rfl (fun r M1 h => c_X12_refuse _ _ _ _ _ h) (fun r2 M1 => ?_)
  exact v_iret X Y (Nat.le_refl _) (Nat.le_refl _) dX12_trip_29
set_option maxRecDepth 4000 in
theorem L_X12_trip_0 {G : Gx} (X : Cb G cX12_trip 3 RX12 (RM 5 0 0) false) (Y : Cr G (some .int) 0 0) (x0 : Nat) (x1 : Int32) (x2 : Int32) (M : MM) : V G trI 3 0 0 0 [(0, .ref x0), (1, .int x1), (2, .int x2)] [] M (f_X12_trip_0 x0 x1 x2 M) := by
  unfold f_X12_trip_0
  refine v_aload_n X 1 0 dX12_trip_0 rfl rfl ?_
  refine v_iconst X 2 dX12_trip_1 ik_0 rfl ?_
  refine v_putI X 5 fl_X12_133 nof dX12_trip_2 rfl (fun M1 => ?_)
  refine v_aload_n X 6 0 dX12_trip_5 rfl rfl ?_
  refine v_iload_n X 7 1 dX12_trip_6 rfl rfl ?_
  refine v_vI X 10 cv_X12_isTrip ml_X12_366 (n1 := 2) rfl [.int x1] rfl rfl rfl dX12_trip_7 rfl (fun r M1 h => c_X12_isTrip _ _ _ _ _ _ h) (fun r3 M2 => ?_)
  refine v_ifeq X 13 25 dX12_trip_10 rfl rfl ?_ ?_
  · exact v_sb [0] (L_X12_trip_25 X Y _ _) rfl
  · refine v_iload_n X 14 2 dX12_trip_13 rfl rfl ?_
    refine v_i2l X 15 dX12_trip_14 rfl ?_
    refine v_lconst X 16 dX12_trip_15 lk_0 rfl ?_
    refine v_ldc2 X 19 dX12_trip_16 kl_X12_353 rfl ?_
    refine v_sI X 22 cs_X12_in ml_X12_146 (n1 := 1) rfl [.long (Int32.toInt64 x2), .long (0 : Int64), .long (5 : Int64)] rfl rfl rfl dX12_trip_19 rfl (fun r M1 h => c_X12_in _ _ _ _ _ _ _ h) (fun r5 M4 => ?_)
    refine v_ifne X 25 30 dX12_trip_22 rfl rfl ?_ ?_
    · refine v_iload_n X 31 2 dX12_trip_30 rfl rfl ?_
      refine v_ite (fun e => ?_) (fun e3 => ?_)
      · refine v_tabIn X 56 dX12_trip_31 e rfl ?_
        refine v_aload_n X 57 0 dX12_trip_56 rfl rfl ?_
        refine v_aload_n X 58 0 dX12_trip_57 rfl rfl ?_
        refine v_getR X 61 fl_X12_43.r dX12_trip_58 rfl (fun v6 => ?_)
        refine v_iload_n X 62 1 dX12_trip_61 rfl rfl ?_
        refine v_vI X 65 cv_X12_back ml_X12_284 (n1 := 2) rfl [.ref v6, .int x1] rfl rfl rfl dX12_trip_62 rfl (fun r M1 h => c_X12_back _ _ _ _ _ _ _ h) (fun r8 M7 => ?_)
        exact v_iret X Y (Nat.le_refl _) (Nat.le_refl _) dX12_trip_65
      refine v_ite (fun e => ?_) (fun e4 => ?_)
      · refine v_tabIn X 66 dX12_trip_31 e rfl ?_
        refine v_aload_n X 67 0 dX12_trip_66 rfl rfl ?_
        refine v_aload_n X 68 0 dX12_trip_67 rfl rfl ?_
        refine v_getR X 71 fl_X12_43.r dX12_trip_68 rfl (fun v9 => ?_)
        refine v_iload_n X 72 1 dX12_trip_71 rfl rfl ?_
        refine v_vI X 75 cv_X12_worthOf ml_X12_314 (n1 := 4) rfl [.ref v9, .int x1] rfl rfl rfl dX12_trip_72 rfl (fun r M1 h => c_X12_worthOf _ _ _ _ _ _ _ h) (fun r11 M10 => ?_)
        exact v_iret X Y (Nat.le_refl _) (Nat.le_refl _) dX12_trip_75
      refine v_ite (fun e => ?_) (fun e5 => ?_)
      · refine v_tabIn X 76 dX12_trip_31 e rfl ?_
        refine v_aload_n X 77 0 dX12_trip_76 rfl rfl ?_
        refine v_aload_n X 78 0 dX12_trip_77 rfl rfl ?_
        refine v_getR X 81 fl_X12_43.r dX12_trip_78 rfl (fun v12 => ?_)
        refine v_iload_n X 82 1 dX12_trip_81 rfl rfl ?_
        refine v_vI X 85 cv_X12_whyNot ml_X12_369 (n1 := 4) rfl [.ref v12, .int x1] rfl rfl rfl dX12_trip_82 rfl (fun r M1 h => c_X12_whyNot _ _ _ _ _ _ _ h) (fun r14 M13 => ?_)
        exact v_iret X Y (Nat.le_refl _) (Nat.le_refl _) dX12_trip_85
      refine v_tabOut X 86 dX12_trip_31 [3, 4, 5] ⟨e3, e4, e5, trivial⟩ rfl rfl ?_
      refine v_aload_n X 87 0 dX12_trip_86 rfl rfl ?_
      refine v_getR X 90 fl_X12_43.r dX12_trip_87 rfl (fun v15 => ?_)
      refine v_iconst X 91 dX12_trip_90 ik_3 rfl ?_
      refine v_iload_n X 92 1 dX12_trip_91 rfl rfl ?_
      refine v_imul X 93 dX12_trip_92 rfl ?_
      refine v_iload_n X 94 2 dX12_trip_93 rfl rfl ?_
      refine v_iadd X 95 dX12_trip_94 rfl ?_
      refine v_iald X 96 dX12_trip_95 rfl (fun v16 => ?_)
      exact v_iret X Y (Nat.le_refl _) (Nat.le_refl _) dX12_trip_96
    · exact v_sb [0] (L_X12_trip_25 X Y _ _) rfl
theorem c_X12_trip (l : Launch) (x0 : Nat) (x1 : Int32) (x2 : Int32) (M : MM) (r : Int32) (M1 : MM) (h : f_X12_trip x0 x1 x2 M = some (r, M1)) : KV l yX12_trip cX12_trip 3 (some .int) (RM 5 0 0) false 12 x0 [.int x1, .int x2] M (some (.int r)) M1 := by
  obtain ⟨hO, h2⟩ := iteO_some h
  exact ⟨hO, ct_of (tr := trI) (by decide) (Nat.le_of_ble_eq_true rfl) [(0, .ref x0), (1, .int x1), (2, .int x2)] rfl h2 (fun G X Y hn hl => L_X12_trip_0 X Y x0 x1 x2 M)⟩

def f_X12_wish_0 (x0 : Nat) (x1 : Int32) (x2 : Int32) (x3 : Int32) (M : MM) : Option (Int32 × MM) :=
    b1 (pI 12 0 x0 (0 : Int32) M) fun M1 =>
    b2 (f_X12_isPerson x0 x1 M1) fun r3 M2 =>
    if r3 = 0 then
      some ((-1 : Int32), M2)
    else
      b2 (f_X12_isErrand x0 x2 M2) fun r5 M4 =>
      if r5 = 0 then
        some ((-1 : Int32), M4)
      else
        b2 (f_X12_in (Int32.toInt64 x3) (0 : Int64) (9 : Int64) M4) fun r7 M6 =>
        if r7 = 0 then
          some ((-1 : Int32), M6)
        else
          b1 (gR 12 8 x0 M6) fun v8 =>
          b1 (ldI v8 (((8 : Int32) * x1) + x2) M6) fun v9 =>
          b1 (gR 12 8 x0 M6) fun v10 =>
          b1 (stI v10 (((8 : Int32) * x1) + x2) x3 M6) fun M11 =>
          some (v9, M11)

def f_X12_wish (x0 : Nat) (x1 : Int32) (x2 : Int32) (x3 : Int32) (M : MM) : Option (Int32 × MM) := if isO 12 x0 M = true then f_X12_wish_0 x0 x1 x2 x3 M else none
set_option maxRecDepth 4000 in
theorem L_X12_wish_0 {G : Gx} (X : Cb G cX12_wish 5 RX12 (RM 3 0 0) false) (Y : Cr G (some .int) 0 0) (x0 : Nat) (x1 : Int32) (x2 : Int32) (x3 : Int32) (M : MM) : V G trI 5 0 0 0 [(0, .ref x0), (1, .int x1), (2, .int x2), (3, .int x3)] [] M (f_X12_wish_0 x0 x1 x2 x3 M) := by
  unfold f_X12_wish_0
  refine v_aload_n X 1 0 dX12_wish_0 rfl rfl ?_
  refine v_iconst X 2 dX12_wish_1 ik_0 rfl ?_
  refine v_putI X 5 fl_X12_133 nof dX12_wish_2 rfl (fun M1 => ?_)
  refine v_aload_n X 6 0 dX12_wish_5 rfl rfl ?_
  refine v_iload_n X 7 1 dX12_wish_6 rfl rfl ?_
  refine v_vI X 10 cv_X12_isPerson ml_X12_247 (n1 := 2) rfl [.int x1] rfl rfl rfl dX12_wish_7 rfl (fun r M1 h => c_X12_isPerson _ _ _ _ _ _ h) (fun r3 M2 => ?_)
  refine v_ifeq X 13 33 dX12_wish_10 rfl rfl ?_ ?_
  · refine v_iconst X 34 dX12_wish_33 ik_m1 rfl ?_
    exact v_iret X Y (Nat.le_refl _) (Nat.le_refl _) dX12_wish_34
  · refine v_aload_n X 14 0 dX12_wish_13 rfl rfl ?_
    refine v_iload_n X 15 2 dX12_wish_14 rfl rfl ?_
    refine v_vI X 18 cv_X12_isErrand ml_X12_361 (n1 := 2) rfl [.int x2] rfl rfl rfl dX12_wish_15 rfl (fun r M1 h => c_X12_isErrand _ _ _ _ _ _ h) (fun r5 M4 => ?_)
    refine v_ifeq X 21 33 dX12_wish_18 rfl rfl ?_ ?_
    · refine v_iconst X 34 dX12_wish_33 ik_m1 rfl ?_
      exact v_iret X Y (Nat.le_refl _) (Nat.le_refl _) dX12_wish_34
    · refine v_iload_n X 22 3 dX12_wish_21 rfl rfl ?_
      refine v_i2l X 23 dX12_wish_22 rfl ?_
      refine v_lconst X 24 dX12_wish_23 lk_0 rfl ?_
      refine v_ldc2 X 27 dX12_wish_24 kl_X12_372 rfl ?_
      refine v_sI X 30 cs_X12_in ml_X12_146 (n1 := 1) rfl [.long (Int32.toInt64 x3), .long (0 : Int64), .long (9 : Int64)] rfl rfl rfl dX12_wish_27 rfl (fun r M1 h => c_X12_in _ _ _ _ _ _ _ h) (fun r7 M6 => ?_)
      refine v_ifne X 33 35 dX12_wish_30 rfl rfl ?_ ?_
      · refine v_aload_n X 36 0 dX12_wish_35 rfl rfl ?_
        refine v_getR X 39 fl_X12_21.r dX12_wish_36 rfl (fun v8 => ?_)
        refine v_bipush X 41 dX12_wish_39 bk_8 rfl ?_
        refine v_iload_n X 42 1 dX12_wish_41 rfl rfl ?_
        refine v_imul X 43 dX12_wish_42 rfl ?_
        refine v_iload_n X 44 2 dX12_wish_43 rfl rfl ?_
        refine v_iadd X 45 dX12_wish_44 rfl ?_
        refine v_iald X 46 dX12_wish_45 rfl (fun v9 => ?_)
        refine v_istore (lv' := [(0, .ref x0), (1, .int x1), (2, .int x2), (3, .int x3), (4, .int v9)]) X 48 dX12_wish_46 (by decide) rfl rfl ?_
        refine v_aload_n X 49 0 dX12_wish_48 rfl rfl ?_
        refine v_getR X 52 fl_X12_21.r dX12_wish_49 rfl (fun v10 => ?_)
        refine v_bipush X 54 dX12_wish_52 bk_8 rfl ?_
        refine v_iload_n X 55 1 dX12_wish_54 rfl rfl ?_
        refine v_imul X 56 dX12_wish_55 rfl ?_
        refine v_iload_n X 57 2 dX12_wish_56 rfl rfl ?_
        refine v_iadd X 58 dX12_wish_57 rfl ?_
        refine v_iload_n X 59 3 dX12_wish_58 rfl rfl ?_
        refine v_iast X 60 dX12_wish_59 rfl (fun M11 => ?_)
        refine v_iload X 62 4 dX12_wish_60 rfl rfl ?_
        exact v_iret X Y (Nat.le_refl _) (Nat.le_refl _) dX12_wish_62
      · refine v_iconst X 34 dX12_wish_33 ik_m1 rfl ?_
        exact v_iret X Y (Nat.le_refl _) (Nat.le_refl _) dX12_wish_34
theorem c_X12_wish (l : Launch) (x0 : Nat) (x1 : Int32) (x2 : Int32) (x3 : Int32) (M : MM) (r : Int32) (M1 : MM) (h : f_X12_wish x0 x1 x2 x3 M = some (r, M1)) : KV l yX12_wish cX12_wish 5 (some .int) (RM 3 0 0) false 12 x0 [.int x1, .int x2, .int x3] M (some (.int r)) M1 := by
  obtain ⟨hO, h2⟩ := iteO_some h
  exact ⟨hO, ct_of (tr := trI) (by decide) (Nat.le_of_ble_eq_true rfl) [(0, .ref x0), (1, .int x1), (2, .int x2), (3, .int x3)] rfl h2 (fun G X Y hn hl => L_X12_wish_0 X Y x0 x1 x2 x3 M)⟩

def f_X12_train_0 (x0 : Nat) (x1 : Int32) (M : MM) : Option (Int32 × MM) :=
    b1 (pI 12 0 x0 (0 : Int32) M) fun M1 =>
    b2 (f_X12_in (Int32.toInt64 x1) (1 : Int64) (99 : Int64) M1) fun r3 M2 =>
    if r3 = 0 then
      some ((-1 : Int32), M2)
    else
      b1 (gI 12 6 x0 M2) fun v4 =>
      b1 (pI 12 6 x0 x1 M2) fun M5 =>
      some (v4, M5)

def f_X12_train (x0 : Nat) (x1 : Int32) (M : MM) : Option (Int32 × MM) := if isO 12 x0 M = true then f_X12_train_0 x0 x1 M else none
set_option maxRecDepth 4000 in
theorem L_X12_train_0 {G : Gx} (X : Cb G cX12_train 3 RX12 (RM 2 0 0) false) (Y : Cr G (some .int) 0 0) (x0 : Nat) (x1 : Int32) (M : MM) : V G trI 3 0 0 0 [(0, .ref x0), (1, .int x1)] [] M (f_X12_train_0 x0 x1 M) := by
  unfold f_X12_train_0
  refine v_aload_n X 1 0 dX12_train_0 rfl rfl ?_
  refine v_iconst X 2 dX12_train_1 ik_0 rfl ?_
  refine v_putI X 5 fl_X12_133 nof dX12_train_2 rfl (fun M1 => ?_)
  refine v_iload_n X 6 1 dX12_train_5 rfl rfl ?_
  refine v_i2l X 7 dX12_train_6 rfl ?_
  refine v_lconst X 8 dX12_train_7 lk_1 rfl ?_
  refine v_ldc2 X 11 dX12_train_8 kl_X12_374 rfl ?_
  refine v_sI X 14 cs_X12_in ml_X12_146 (n1 := 1) rfl [.long (Int32.toInt64 x1), .long (1 : Int64), .long (99 : Int64)] rfl rfl rfl dX12_train_11 rfl (fun r M1 h => c_X12_in _ _ _ _ _ _ _ h) (fun r3 M2 => ?_)
  refine v_ifne X 17 19 dX12_train_14 rfl rfl ?_ ?_
  · refine v_aload_n X 20 0 dX12_train_19 rfl rfl ?_
    refine v_getI X 23 fl_X12_13.r dX12_train_20 rfl (fun v4 => ?_)
    refine v_istore_n (lv' := [(0, .ref x0), (1, .int x1), (2, .int v4)]) X 24 dX12_train_23 (by decide) rfl rfl ?_
    refine v_aload_n X 25 0 dX12_train_24 rfl rfl ?_
    refine v_iload_n X 26 1 dX12_train_25 rfl rfl ?_
    refine v_putI X 29 fl_X12_13 nof dX12_train_26 rfl (fun M5 => ?_)
    refine v_iload_n X 30 2 dX12_train_29 rfl rfl ?_
    exact v_iret X Y (Nat.le_refl _) (Nat.le_refl _) dX12_train_30
  · refine v_iconst X 18 dX12_train_17 ik_m1 rfl ?_
    exact v_iret X Y (Nat.le_refl _) (Nat.le_refl _) dX12_train_18
theorem c_X12_train (l : Launch) (x0 : Nat) (x1 : Int32) (M : MM) (r : Int32) (M1 : MM) (h : f_X12_train x0 x1 M = some (r, M1)) : KV l yX12_train cX12_train 3 (some .int) (RM 2 0 0) false 12 x0 [.int x1] M (some (.int r)) M1 := by
  obtain ⟨hO, h2⟩ := iteO_some h
  exact ⟨hO, ct_of (tr := trI) (by decide) (Nat.le_of_ble_eq_true rfl) [(0, .ref x0), (1, .int x1)] rfl h2 (fun G X Y hn hl => L_X12_train_0 X Y x0 x1 M)⟩

def f_X12_sheet_112 (K46 : Nat → Int32 → Int32 → Int32 → Int32 → Int32 → Int32 → MM → Option (Int32 × MM)) (x0 : Nat) (x1 : Int32) (x2 : Int32) (x4 : Int32) (x5 : Int32) (x6 : Int32) (x7 : Int32) (s0 : Int32) (s1 : Int32) (s2 : Nat) (M : MM) : Option (Int32 × MM) :=
    b1 (stI s2 s1 s0 M) fun M1 =>
    b1 (gR 12 10 x0 M1) fun v2 =>
    b1 (ldI v2 x7 M1) fun v3 =>
    bn (x5 + v3 : Int32) fun y4 =>
    bn (x6 + x4 : Int32) fun y5 =>
    bn (x7 + 1 : Int32) fun y6 =>
    K46 x0 x1 x2 x4 y4 y5 y6 M1

def f_X12_sheet_97 (K46 : Nat → Int32 → Int32 → Int32 → Int32 → Int32 → Int32 → MM → Option (Int32 × MM)) (x0 : Nat) (x1 : Int32) (x2 : Int32) (x4 : Int32) (x5 : Int32) (x6 : Int32) (x7 : Int32) (s0 : Int32) (s1 : Nat) (M : MM) : Option (Int32 × MM) :=
    f_X12_sheet_112 K46 x0 x1 x2 x4 x5 x6 x7 (1 : Int32) s0 s1 M

def f_X12_sheet_78 (K46 : Nat → Int32 → Int32 → Int32 → Int32 → Int32 → Int32 → MM → Option (Int32 × MM)) (x0 : Nat) (x1 : Int32) (x2 : Int32) (x4 : Int32) (x5 : Int32) (x6 : Int32) (x7 : Int32) (s0 : Int32) (M : MM) : Option (Int32 × MM) :=
    b1 (gR 12 10 x0 M) fun v1 =>
    if x1 = (3 : Int32) then
      f_X12_sheet_97 K46 x0 x1 x2 x4 x5 x6 x7 x7 v1 M
    else
      if x7 < x2 then
        f_X12_sheet_112 K46 x0 x1 x2 x4 x5 x6 x7 (maxI (1 : Int32) (minI (9 : Int32) s0)) x7 v1 M
      else
        f_X12_sheet_97 K46 x0 x1 x2 x4 x5 x6 x7 x7 v1 M

def f_X12_sheet_46 : Nat → Nat → Int32 → Int32 → Int32 → Int32 → Int32 → Int32 → MM → Option (Int32 × MM)
  | 0, _, _, _, _, _, _, _, _ => none
  | n + 1, x0, x1, x2, x4, x5, x6, x7, M =>
    b1 (gI 12 4 x0 M) fun v1 =>
    if v1 ≤ x7 then
      if x1 = (3 : Int32) then
        some ((-3 : Int32), M)
      else
        some (x5, M)
    else
      if x1 = 0 then
        f_X12_sheet_78 (f_X12_sheet_46 n) x0 x1 x2 x4 x5 x6 x7 (Int8.toInt32 (Int32.toInt8 x6)) M
      else
        if x1 = (1 : Int32) then
          f_X12_sheet_78 (f_X12_sheet_46 n) x0 x1 x2 x4 x5 x6 x7 (Int16.toInt32 (Int32.toInt16 x6)) M
        else
          f_X12_sheet_78 (f_X12_sheet_46 n) x0 x1 x2 x4 x5 x6 x7 x6 M

def f_X12_sheet_37 (x0 : Nat) (x1 : Int32) (x2 : Int32) (x3 : Int32) (x4 : Int32) (M : MM) : Option (Int32 × MM) :=
    f_X12_sheet_46 1024 x0 x1 x2 x4 (0 : Int32) x3 (0 : Int32) M

def f_X12_sheet_0 (x0 : Nat) (x1 : Int32) (x2 : Int32) (x3 : Int32) (x4 : Int32) (M : MM) : Option (Int32 × MM) :=
    b1 (pI 12 0 x0 (0 : Int32) M) fun M1 =>
    b2 (f_X12_in (Int32.toInt64 x1) (0 : Int64) (3 : Int64) M1) fun r3 M2 =>
    if r3 = 0 then
      some ((-1 : Int32), M2)
    else
      if x2 ≤ (8 : Int32) then
        if x1 = (3 : Int32) then
          f_X12_sheet_37 x0 x1 x2 x3 x4 M2
        else
          if 0 ≤ x2 then
            f_X12_sheet_37 x0 x1 x2 x3 x4 M2
          else
            some ((-2 : Int32), M2)
      else
        some ((-1 : Int32), M2)

def f_X12_sheet (x0 : Nat) (x1 : Int32) (x2 : Int32) (x3 : Int32) (x4 : Int32) (M : MM) : Option (Int32 × MM) := if isO 12 x0 M = true then f_X12_sheet_0 x0 x1 x2 x3 x4 M else none
set_option maxRecDepth 4000 in
theorem L_X12_sheet_112 {G : Gx} (X : Cb G cX12_sheet 9 RX12 (RM 2 0 0) false) (Y : Cr G (some .int) 0 0) {K46 : Nat → Int32 → Int32 → Int32 → Int32 → Int32 → Int32 → MM → Option (Int32 × MM)} (hK46 : ∀ (x0 : Nat) (x1 : Int32) (x2 : Int32) (x4 : Int32) (x5 : Int32) (x6 : Int32) (x7 : Int32) (M : MM), V G trI 9 0 0 46 [(0, .ref x0), (1, .int x1), (2, .int x2), (4, .int x4), (5, .int x5), (6, .int x6), (7, .int x7)] [] M (K46 x0 x1 x2 x4 x5 x6 x7 M)) (x0 : Nat) (x1 : Int32) (x2 : Int32) (x4 : Int32) (x5 : Int32) (x6 : Int32) (x7 : Int32) (s0 : Int32) (s1 : Int32) (s2 : Nat) (M : MM) : V G trI 9 0 0 112 [(0, .ref x0), (1, .int x1), (2, .int x2), (4, .int x4), (5, .int x5), (6, .int x6), (7, .int x7)] [.int s0, .int s1, .ref s2] M (f_X12_sheet_112 K46 x0 x1 x2 x4 x5 x6 x7 s0 s1 s2 M) := by
  unfold f_X12_sheet_112
  refine v_iast X 113 dX12_sheet_112 rfl (fun M1 => ?_)
  refine v_iload X 115 4 dX12_sheet_113 rfl rfl ?_
  refine v_aload_n X 116 0 dX12_sheet_115 rfl rfl ?_
  refine v_getR X 119 fl_X12_28.r dX12_sheet_116 rfl (fun v2 => ?_)
  refine v_iload X 121 6 dX12_sheet_119 rfl rfl ?_
  refine v_iald X 122 dX12_sheet_121 rfl (fun v3 => ?_)
  refine v_iadd X 123 dX12_sheet_122 rfl ?_
  refine v_bnI (fun y4 => ?_)
  refine v_istore (lv' := [(0, .ref x0), (1, .int x1), (2, .int x2), (4, .int x4), (5, .int y4), (6, .int x6), (7, .int x7)]) X 125 dX12_sheet_123 (by decide) rfl rfl ?_
  refine v_iload X 127 5 dX12_sheet_125 rfl rfl ?_
  refine v_iload X 129 3 dX12_sheet_127 rfl rfl ?_
  refine v_iadd X 130 dX12_sheet_129 rfl ?_
  refine v_bnI (fun y5 => ?_)
  refine v_istore (lv' := [(0, .ref x0), (1, .int x1), (2, .int x2), (4, .int x4), (5, .int y4), (6, .int y5), (7, .int x7)]) X 132 dX12_sheet_130 (by decide) rfl rfl ?_
  refine v_iinc X 135 6 (fun z => [(0, .ref x0), (1, .int x1), (2, .int x2), (4, .int x4), (5, .int y4), (6, .int y5), (7, .int z)]) dX12_sheet_132 rfl ik_1 (by decide) (fun _ => rfl) rfl (fun y6 => ?_)
  refine v_goto X 46 dX12_sheet_135 rfl ?_
  exact hK46 _ _ _ _ _ _ _ _
set_option maxRecDepth 4000 in
theorem L_X12_sheet_97 {G : Gx} (X : Cb G cX12_sheet 9 RX12 (RM 2 0 0) false) (Y : Cr G (some .int) 0 0) {K46 : Nat → Int32 → Int32 → Int32 → Int32 → Int32 → Int32 → MM → Option (Int32 × MM)} (hK46 : ∀ (x0 : Nat) (x1 : Int32) (x2 : Int32) (x4 : Int32) (x5 : Int32) (x6 : Int32) (x7 : Int32) (M : MM), V G trI 9 0 0 46 [(0, .ref x0), (1, .int x1), (2, .int x2), (4, .int x4), (5, .int x5), (6, .int x6), (7, .int x7)] [] M (K46 x0 x1 x2 x4 x5 x6 x7 M)) (x0 : Nat) (x1 : Int32) (x2 : Int32) (x4 : Int32) (x5 : Int32) (x6 : Int32) (x7 : Int32) (s0 : Int32) (s1 : Nat) (M : MM) : V G trI 9 0 0 97 [(0, .ref x0), (1, .int x1), (2, .int x2), (4, .int x4), (5, .int x5), (6, .int x6), (7, .int x7)] [.int s0, .ref s1] M (f_X12_sheet_97 K46 x0 x1 x2 x4 x5 x6 x7 s0 s1 M) := by
  unfold f_X12_sheet_97
  refine v_iconst X 98 dX12_sheet_97 ik_1 rfl ?_
  refine v_goto X 112 dX12_sheet_98 rfl ?_
  exact L_X12_sheet_112 X Y hK46 _ _ _ _ _ _ _ _ _ _ _
set_option maxRecDepth 4000 in
theorem L_X12_sheet_78 {G : Gx} (X : Cb G cX12_sheet 9 RX12 (RM 2 0 0) false) (Y : Cr G (some .int) 0 0) {K46 : Nat → Int32 → Int32 → Int32 → Int32 → Int32 → Int32 → MM → Option (Int32 × MM)} (hK46 : ∀ (x0 : Nat) (x1 : Int32) (x2 : Int32) (x4 : Int32) (x5 : Int32) (x6 : Int32) (x7 : Int32) (M : MM), V G trI 9 0 0 46 [(0, .ref x0), (1, .int x1), (2, .int x2), (4, .int x4), (5, .int x5), (6, .int x6), (7, .int x7)] [] M (K46 x0 x1 x2 x4 x5 x6 x7 M)) (x0 : Nat) (x1 : Int32) (x2 : Int32) (x4 : Int32) (x5 : Int32) (x6 : Int32) (x7 : Int32) (s0 : Int32) (M : MM) : V G trI 9 0 0 78 [(0, .ref x0), (1, .int x1), (2, .int x2), (4, .int x4), (5, .int x5), (6, .int x6), (7, .int x7)] [.int s0] M (f_X12_sheet_78 K46 x0 x1 x2 x4 x5 x6 x7 s0 M) := by
  unfold f_X12_sheet_78
  refine v_istore (lv' := [(0, .ref x0), (1, .int x1), (2, .int x2), (4, .int x4), (5, .int x5), (6, .int x6), (7, .int x7), (8, .int s0)]) X 80 dX12_sheet_78 (by decide) rfl rfl ?_
  refine v_aload_n X 81 0 dX12_sheet_80 rfl rfl ?_
  refine v_getR X 84 fl_X12_28.r dX12_sheet_81 rfl (fun v1 => ?_)
  refine v_iload X 86 6 dX12_sheet_84 rfl rfl ?_
  refine v_iload_n X 87 1 dX12_sheet_86 rfl rfl ?_
  refine v_iconst X 88 dX12_sheet_87 ik_3 rfl ?_
  refine v_iceq X 91 97 dX12_sheet_88 rfl rfl ?_ ?_
  · exact v_sb [0, 1, 2, 3, 4, 5, 6] (L_X12_sheet_97 X Y hK46 _ _ _ _ _ _ _ _ _ _) rfl
  · refine v_iload X 93 6 dX12_sheet_91 rfl rfl ?_
    refine v_iload_n X 94 2 dX12_sheet_93 rfl rfl ?_
    refine v_iclt X 97 101 dX12_sheet_94 rfl rfl ?_ ?_
    · refine v_iconst X 102 dX12_sheet_101 ik_1 rfl ?_
      refine v_bipush X 104 dX12_sheet_102 bk_9 rfl ?_
      refine v_iload X 106 7 dX12_sheet_104 rfl rfl ?_
      refine v_min X 109 ml_X12_162 w_min (Nat.le_of_ble_eq_true rfl) (Nat.le_of_ble_eq_true rfl) (Nat.zero_le _) (Nat.zero_le _) dX12_sheet_106 rfl ?_
      refine v_max X 112 ml_X12_311 w_max (Nat.le_of_ble_eq_true rfl) (Nat.le_of_ble_eq_true rfl) (Nat.zero_le _) (Nat.zero_le _) dX12_sheet_109 rfl ?_
      exact v_sb [0, 1, 2, 3, 4, 5, 6] (L_X12_sheet_112 X Y hK46 _ _ _ _ _ _ _ _ _ _ _) rfl
    · exact v_sb [0, 1, 2, 3, 4, 5, 6] (L_X12_sheet_97 X Y hK46 _ _ _ _ _ _ _ _ _ _) rfl
set_option maxRecDepth 4000 in
theorem L_X12_sheet_46 {G : Gx} (X : Cb G cX12_sheet 9 RX12 (RM 2 0 0) false) (Y : Cr G (some .int) 0 0) : ∀ (n : Nat) (x0 : Nat) (x1 : Int32) (x2 : Int32) (x4 : Int32) (x5 : Int32) (x6 : Int32) (x7 : Int32) (M : MM), V G trI 9 0 0 46 [(0, .ref x0), (1, .int x1), (2, .int x2), (4, .int x4), (5, .int x5), (6, .int x6), (7, .int x7)] [] M (f_X12_sheet_46 n x0 x1 x2 x4 x5 x6 x7 M) := by
  intro n
  induction n with
  | zero => intro x0 x1 x2 x4 x5 x6 x7 M; rw [f_X12_sheet_46]; exact v_none
  | succ n ih =>
    intro x0 x1 x2 x4 x5 x6 x7 M
    rw [f_X12_sheet_46]
    refine v_iload X 48 6 dX12_sheet_46 rfl rfl ?_
    refine v_aload_n X 49 0 dX12_sheet_48 rfl rfl ?_
    refine v_getI X 52 fl_X12_150.r dX12_sheet_49 rfl (fun v1 => ?_)
    refine v_icge X 55 138 dX12_sheet_52 rfl rfl ?_ ?_
    · refine v_iload_n X 139 1 dX12_sheet_138 rfl rfl ?_
      refine v_iconst X 140 dX12_sheet_139 ik_3 rfl ?_
      refine v_icne X 143 148 dX12_sheet_140 rfl rfl ?_ ?_
      · refine v_iload X 150 4 dX12_sheet_148 rfl rfl ?_
        exact v_iret X Y (Nat.le_refl _) (Nat.le_refl _) dX12_sheet_150
      · refine v_bipush X 145 dX12_sheet_143 bk_m3 rfl ?_
        refine v_goto X 150 dX12_sheet_145 rfl ?_
        exact v_iret X Y (Nat.le_refl _) (Nat.le_refl _) dX12_sheet_150
    · refine v_iload_n X 56 1 dX12_sheet_55 rfl rfl ?_
      refine v_ifne X 59 65 dX12_sheet_56 rfl rfl ?_ ?_
      · refine v_iload_n X 66 1 dX12_sheet_65 rfl rfl ?_
        refine v_iconst X 67 dX12_sheet_66 ik_1 rfl ?_
        refine v_icne X 70 76 dX12_sheet_67 rfl rfl ?_ ?_
        · refine v_iload X 78 5 dX12_sheet_76 rfl rfl ?_
          exact L_X12_sheet_78 X Y ih _ _ _ _ _ _ _ _ _
        · refine v_iload X 72 5 dX12_sheet_70 rfl rfl ?_
          refine v_i2s X 73 dX12_sheet_72 rfl ?_
          refine v_goto X 78 dX12_sheet_73 rfl ?_
          exact L_X12_sheet_78 X Y ih _ _ _ _ _ _ _ _ _
      · refine v_iload X 61 5 dX12_sheet_59 rfl rfl ?_
        refine v_i2b X 62 dX12_sheet_61 rfl ?_
        refine v_goto X 78 dX12_sheet_62 rfl ?_
        exact L_X12_sheet_78 X Y ih _ _ _ _ _ _ _ _ _
set_option maxRecDepth 4000 in
theorem L_X12_sheet_37 {G : Gx} (X : Cb G cX12_sheet 9 RX12 (RM 2 0 0) false) (Y : Cr G (some .int) 0 0) (x0 : Nat) (x1 : Int32) (x2 : Int32) (x3 : Int32) (x4 : Int32) (M : MM) : V G trI 9 0 0 37 [(0, .ref x0), (1, .int x1), (2, .int x2), (3, .int x3), (4, .int x4)] [] M (f_X12_sheet_37 x0 x1 x2 x3 x4 M) := by
  unfold f_X12_sheet_37
  refine v_iconst X 38 dX12_sheet_37 ik_0 rfl ?_
  refine v_istore (lv' := [(0, .ref x0), (1, .int x1), (2, .int x2), (3, .int x3), (4, .int x4), (5, .int (0 : Int32))]) X 40 dX12_sheet_38 (by decide) rfl rfl ?_
  refine v_iload_n X 41 3 dX12_sheet_40 rfl rfl ?_
  refine v_istore (lv' := [(0, .ref x0), (1, .int x1), (2, .int x2), (3, .int x3), (4, .int x4), (5, .int (0 : Int32)), (6, .int x3)]) X 43 dX12_sheet_41 (by decide) rfl rfl ?_
  refine v_iconst X 44 dX12_sheet_43 ik_0 rfl ?_
  refine v_istore (lv' := [(0, .ref x0), (1, .int x1), (2, .int x2), (3, .int x3), (4, .int x4), (5, .int (0 : Int32)), (6, .int x3), (7, .int (0 : Int32))]) X 46 dX12_sheet_44 (by decide) rfl rfl ?_
  exact v_sb [0, 1, 2, 4, 5, 6, 7] (L_X12_sheet_46 X Y 1024 _ _ _ _ _ _ _ _) rfl
set_option maxRecDepth 4000 in
theorem L_X12_sheet_0 {G : Gx} (X : Cb G cX12_sheet 9 RX12 (RM 2 0 0) false) (Y : Cr G (some .int) 0 0) (x0 : Nat) (x1 : Int32) (x2 : Int32) (x3 : Int32) (x4 : Int32) (M : MM) : V G trI 9 0 0 0 [(0, .ref x0), (1, .int x1), (2, .int x2), (3, .int x3), (4, .int x4)] [] M (f_X12_sheet_0 x0 x1 x2 x3 x4 M) := by
  unfold f_X12_sheet_0
  refine v_aload_n X 1 0 dX12_sheet_0 rfl rfl ?_
  refine v_iconst X 2 dX12_sheet_1 ik_0 rfl ?_
  refine v_putI X 5 fl_X12_133 nof dX12_sheet_2 rfl (fun M1 => ?_)
  refine v_iload_n X 6 1 dX12_sheet_5 rfl rfl ?_
  refine v_i2l X 7 dX12_sheet_6 rfl ?_
  refine v_lconst X 8 dX12_sheet_7 lk_0 rfl ?_
  refine v_ldc2 X 11 dX12_sheet_8 kl_X12_376 rfl ?_
  refine v_sI X 14 cs_X12_in ml_X12_146 (n1 := 1) rfl [.long (Int32.toInt64 x1), .long (0 : Int64), .long (3 : Int64)] rfl rfl rfl dX12_sheet_11 rfl (fun r M1 h => c_X12_in _ _ _ _ _ _ _ h) (fun r3 M2 => ?_)
  refine v_ifeq X 17 23 dX12_sheet_14 rfl rfl ?_ ?_
  · refine v_iconst X 24 dX12_sheet_23 ik_m1 rfl ?_
    exact v_iret X Y (Nat.le_refl _) (Nat.le_refl _) dX12_sheet_24
  · refine v_iload_n X 18 2 dX12_sheet_17 rfl rfl ?_
    refine v_bipush X 20 dX12_sheet_18 bk_8 rfl ?_
    refine v_icle X 23 25 dX12_sheet_20 rfl rfl ?_ ?_
    · refine v_iload_n X 26 1 dX12_sheet_25 rfl rfl ?_
      refine v_iconst X 27 dX12_sheet_26 ik_3 rfl ?_
      refine v_iceq X 30 37 dX12_sheet_27 rfl rfl ?_ ?_
      · exact L_X12_sheet_37 X Y _ _ _ _ _ _
      · refine v_iload_n X 31 2 dX12_sheet_30 rfl rfl ?_
        refine v_ifge X 34 37 dX12_sheet_31 rfl rfl ?_ ?_
        · exact L_X12_sheet_37 X Y _ _ _ _ _ _
        · refine v_bipush X 36 dX12_sheet_34 bk_m2 rfl ?_
          exact v_iret X Y (Nat.le_refl _) (Nat.le_refl _) dX12_sheet_36
    · refine v_iconst X 24 dX12_sheet_23 ik_m1 rfl ?_
      exact v_iret X Y (Nat.le_refl _) (Nat.le_refl _) dX12_sheet_24
theorem c_X12_sheet (l : Launch) (x0 : Nat) (x1 : Int32) (x2 : Int32) (x3 : Int32) (x4 : Int32) (M : MM) (r : Int32) (M1 : MM) (h : f_X12_sheet x0 x1 x2 x3 x4 M = some (r, M1)) : KV l yX12_sheet cX12_sheet 9 (some .int) (RM 2 0 0) false 12 x0 [.int x1, .int x2, .int x3, .int x4] M (some (.int r)) M1 := by
  obtain ⟨hO, h2⟩ := iteO_some h
  exact ⟨hO, ct_of (tr := trI) (by decide) (Nat.le_of_ble_eq_true rfl) [(0, .ref x0), (1, .int x1), (2, .int x2), (3, .int x3), (4, .int x4)] rfl h2 (fun G X Y hn hl => L_X12_sheet_0 X Y x0 x1 x2 x3 x4 M)⟩

def f_X12_undo_26 : Nat → Nat → Int32 → MM → Option (Int32 × MM)
  | 0, _, _, _ => none
  | n + 1, x0, x1, M =>
    if (46 : Int32) ≤ x1 then
      b1 (gI 12 33 x0 M) fun v1 =>
      some (v1, M)
    else
      b1 (gR 12 15 x0 M) fun v2 =>
      b1 (gR 12 34 x0 M) fun v3 =>
      b1 (gI 12 33 x0 M) fun v4 =>
      b1 (ldI v3 (((46 : Int32) * v4) + x1) M) fun v5 =>
      b1 (stI v2 x1 v5 M) fun M6 =>
      bn (x1 + 1 : Int32) fun y7 =>
      f_X12_undo_26 n x0 y7 M6

def f_X12_undo_0 (x0 : Nat) (M : MM) : Option (Int32 × MM) :=
    b1 (pI 12 0 x0 (0 : Int32) M) fun M1 =>
    b1 (gI 12 33 x0 M1) fun v2 =>
    if v2 = 0 then
      some ((-1 : Int32), M1)
    else
      b1 (gI 12 33 x0 M1) fun v3 =>
      b1 (pI 12 33 x0 (v3 - (1 : Int32)) M1) fun M4 =>
      f_X12_undo_26 1024 x0 (0 : Int32) M4

def f_X12_undo (x0 : Nat) (M : MM) : Option (Int32 × MM) := if isO 12 x0 M = true then f_X12_undo_0 x0 M else none
set_option maxRecDepth 4000 in
theorem L_X12_undo_26 {G : Gx} (X : Cb G cX12_undo 2 RX12 (RM 1 0 0) false) (Y : Cr G (some .int) 0 0) : ∀ (n : Nat) (x0 : Nat) (x1 : Int32) (M : MM), V G trI 2 0 0 26 [(0, .ref x0), (1, .int x1)] [] M (f_X12_undo_26 n x0 x1 M) := by
  intro n
  induction n with
  | zero => intro x0 x1 M; rw [f_X12_undo_26]; exact v_none
  | succ n ih =>
    intro x0 x1 M
    rw [f_X12_undo_26]
    refine v_iload_n X 27 1 dX12_undo_26 rfl rfl ?_
    refine v_bipush X 29 dX12_undo_27 bk_46 rfl ?_
    refine v_icge X 32 58 dX12_undo_29 rfl rfl ?_ ?_
    · refine v_aload_n X 59 0 dX12_undo_58 rfl rfl ?_
      refine v_getI X 62 fl_X12_241.r dX12_undo_59 rfl (fun v1 => ?_)
      exact v_iret X Y (Nat.le_refl _) (Nat.le_refl _) dX12_undo_62
    · refine v_aload_n X 33 0 dX12_undo_32 rfl rfl ?_
      refine v_getR X 36 fl_X12_43.r dX12_undo_33 rfl (fun v2 => ?_)
      refine v_iload_n X 37 1 dX12_undo_36 rfl rfl ?_
      refine v_aload_n X 38 0 dX12_undo_37 rfl rfl ?_
      refine v_getR X 41 fl_X12_73.r dX12_undo_38 rfl (fun v3 => ?_)
      refine v_bipush X 43 dX12_undo_41 bk_46 rfl ?_
      refine v_aload_n X 44 0 dX12_undo_43 rfl rfl ?_
      refine v_getI X 47 fl_X12_241.r dX12_undo_44 rfl (fun v4 => ?_)
      refine v_imul X 48 dX12_undo_47 rfl ?_
      refine v_iload_n X 49 1 dX12_undo_48 rfl rfl ?_
      refine v_iadd X 50 dX12_undo_49 rfl ?_
      refine v_iald X 51 dX12_undo_50 rfl (fun v5 => ?_)
      refine v_iast X 52 dX12_undo_51 rfl (fun M6 => ?_)
      refine v_iinc X 55 1 (fun z => [(0, .ref x0), (1, .int z)]) dX12_undo_52 rfl ik_1 (by decide) (fun _ => rfl) rfl (fun y7 => ?_)
      refine v_goto X 26 dX12_undo_55 rfl ?_
      exact ih _ _ _
set_option maxRecDepth 4000 in
theorem L_X12_undo_0 {G : Gx} (X : Cb G cX12_undo 2 RX12 (RM 1 0 0) false) (Y : Cr G (some .int) 0 0) (x0 : Nat) (M : MM) : V G trI 2 0 0 0 [(0, .ref x0)] [] M (f_X12_undo_0 x0 M) := by
  unfold f_X12_undo_0
  refine v_aload_n X 1 0 dX12_undo_0 rfl rfl ?_
  refine v_iconst X 2 dX12_undo_1 ik_0 rfl ?_
  refine v_putI X 5 fl_X12_133 nof dX12_undo_2 rfl (fun M1 => ?_)
  refine v_aload_n X 6 0 dX12_undo_5 rfl rfl ?_
  refine v_getI X 9 fl_X12_241.r dX12_undo_6 rfl (fun v2 => ?_)
  refine v_ifne X 12 14 dX12_undo_9 rfl rfl ?_ ?_
  · refine v_aload_n X 15 0 dX12_undo_14 rfl rfl ?_
    refine v_dup X 16 dX12_undo_15 rfl rfl ?_
    refine v_getI X 19 fl_X12_241.r dX12_undo_16 rfl (fun v3 => ?_)
    refine v_iconst X 20 dX12_undo_19 ik_1 rfl ?_
    refine v_isub X 21 dX12_undo_20 rfl ?_
    refine v_putI X 24 fl_X12_241 nof dX12_undo_21 rfl (fun M4 => ?_)
    refine v_iconst X 25 dX12_undo_24 ik_0 rfl ?_
    refine v_istore_n (lv' := [(0, .ref x0), (1, .int (0 : Int32))]) X 26 dX12_undo_25 (by decide) rfl rfl ?_
    exact L_X12_undo_26 X Y 1024 _ _ _
  · refine v_iconst X 13 dX12_undo_12 ik_m1 rfl ?_
    exact v_iret X Y (Nat.le_refl _) (Nat.le_refl _) dX12_undo_13
theorem c_X12_undo (l : Launch) (x0 : Nat) (M : MM) (r : Int32) (M1 : MM) (h : f_X12_undo x0 M = some (r, M1)) : KV l yX12_undo cX12_undo 2 (some .int) (RM 1 0 0) false 12 x0 [] M (some (.int r)) M1 := by
  obtain ⟨hO, h2⟩ := iteO_some h
  exact ⟨hO, ct_of (tr := trI) (by decide) (Nat.le_of_ble_eq_true rfl) [(0, .ref x0)] rfl h2 (fun G X Y hn hl => L_X12_undo_0 X Y x0 M)⟩

def f_X12_canAsk_0 (x0 : Nat) (x1 : Int32) (x2 : Int32) (x3 : Int32) (M : MM) : Option (Int32 × MM) :=
    b2 (f_X12_isPerson x0 x1 M) fun r2 M1 =>
    if r2 = 0 then
      rz (0 : Int32) M1
    else
      b2 (f_X12_isErrand x0 x2 M1) fun r4 M3 =>
      if r4 = 0 then
        rz (0 : Int32) M3
      else
        b2 (f_X12_in (Int32.toInt64 x3) (0 : Int64) (99 : Int64) M3) fun r6 M5 =>
        if r6 = 0 then
          rz (0 : Int32) M5
        else
          rz (1 : Int32) M5

def f_X12_canAsk (x0 : Nat) (x1 : Int32) (x2 : Int32) (x3 : Int32) (M : MM) : Option (Int32 × MM) := if isO 12 x0 M = true then f_X12_canAsk_0 x0 x1 x2 x3 M else none
set_option maxRecDepth 4000 in
theorem L_X12_canAsk_0 {G : Gx} (X : Cb G cX12_canAsk 4 RX12 (RM 3 0 0) false) (Y : Cr G (some .boolean) 0 0) (x0 : Nat) (x1 : Int32) (x2 : Int32) (x3 : Int32) (M : MM) : V G trI 4 0 0 0 [(0, .ref x0), (1, .int x1), (2, .int x2), (3, .int x3)] [] M (f_X12_canAsk_0 x0 x1 x2 x3 M) := by
  unfold f_X12_canAsk_0
  refine v_aload_n X 1 0 dX12_canAsk_0 rfl rfl ?_
  refine v_iload_n X 2 1 dX12_canAsk_1 rfl rfl ?_
  refine v_vI X 5 cv_X12_isPerson ml_X12_247 (n1 := 2) rfl [.int x1] rfl rfl rfl dX12_canAsk_2 rfl (fun r M1 h => c_X12_isPerson _ _ _ _ _ _ h) (fun r2 M1 => ?_)
  refine v_ifeq X 8 32 dX12_canAsk_5 rfl rfl ?_ ?_
  · refine v_iconst X 33 dX12_canAsk_32 ik_0 rfl ?_
    exact v_zret X Y (Nat.le_refl _) (Nat.le_refl _) dX12_canAsk_33
  · refine v_aload_n X 9 0 dX12_canAsk_8 rfl rfl ?_
    refine v_iload_n X 10 2 dX12_canAsk_9 rfl rfl ?_
    refine v_vI X 13 cv_X12_isErrand ml_X12_361 (n1 := 2) rfl [.int x2] rfl rfl rfl dX12_canAsk_10 rfl (fun r M1 h => c_X12_isErrand _ _ _ _ _ _ h) (fun r4 M3 => ?_)
    refine v_ifeq X 16 32 dX12_canAsk_13 rfl rfl ?_ ?_
    · refine v_iconst X 33 dX12_canAsk_32 ik_0 rfl ?_
      exact v_zret X Y (Nat.le_refl _) (Nat.le_refl _) dX12_canAsk_33
    · refine v_iload_n X 17 3 dX12_canAsk_16 rfl rfl ?_
      refine v_i2l X 18 dX12_canAsk_17 rfl ?_
      refine v_lconst X 19 dX12_canAsk_18 lk_0 rfl ?_
      refine v_ldc2 X 22 dX12_canAsk_19 kl_X12_374 rfl ?_
      refine v_sI X 25 cs_X12_in ml_X12_146 (n1 := 1) rfl [.long (Int32.toInt64 x3), .long (0 : Int64), .long (99 : Int64)] rfl rfl rfl dX12_canAsk_22 rfl (fun r M1 h => c_X12_in _ _ _ _ _ _ _ h) (fun r6 M5 => ?_)
      refine v_ifeq X 28 32 dX12_canAsk_25 rfl rfl ?_ ?_
      · refine v_iconst X 33 dX12_canAsk_32 ik_0 rfl ?_
        exact v_zret X Y (Nat.le_refl _) (Nat.le_refl _) dX12_canAsk_33
      · refine v_iconst X 29 dX12_canAsk_28 ik_1 rfl ?_
        refine v_goto X 33 dX12_canAsk_29 rfl ?_
        exact v_zret X Y (Nat.le_refl _) (Nat.le_refl _) dX12_canAsk_33
theorem c_X12_canAsk (l : Launch) (x0 : Nat) (x1 : Int32) (x2 : Int32) (x3 : Int32) (M : MM) (r : Int32) (M1 : MM) (h : f_X12_canAsk x0 x1 x2 x3 M = some (r, M1)) : KV l yX12_canAsk cX12_canAsk 4 (some .boolean) (RM 3 0 0) false 12 x0 [.int x1, .int x2, .int x3] M (some (.int r)) M1 := by
  obtain ⟨hO, h2⟩ := iteO_some h
  exact ⟨hO, ct_of (tr := trI) (by decide) (Nat.le_of_ble_eq_true rfl) [(0, .ref x0), (1, .int x1), (2, .int x2), (3, .int x3)] rfl h2 (fun G X Y hn hl => L_X12_canAsk_0 X Y x0 x1 x2 x3 M)⟩

def f_X12_mayNot_0 (x0 : Nat) (x1 : Int32) (x2 : Int32) (x3 : Int32) (M : MM) : Option (Int32 × MM) :=
    b1 (gR 12 15 x0 M) fun v1 =>
    b1 (gR 12 16 x0 M) fun v2 =>
    b1 (f_X12_puts v1 v2 M) fun M3 =>
    b1 (gR 12 16 x0 M3) fun v4 =>
    b1 (f_X12_comes v4 x1 x2 x3 M3) fun M5 =>
    b1 (gR 12 16 x0 M5) fun v6 =>
    b1 (gR 12 16 x0 M5) fun v7 =>
    b1 (ldI v7 (45 : Int32) M5) fun v8 =>
    b2 (f_X12_whyNot x0 v6 (v8 - (1 : Int32)) M5) fun r10 M9 =>
    if r10 ≤ 0 then
      b2 (f_X12_isNoWorse x0 M9) fun r12 M11 =>
      if r12 = 0 then
        some ((6 : Int32), M11)
      else
        b1 (gR 12 15 x0 M11) fun v13 =>
        b1 (ldI v13 (45 : Int32) M11) fun v14 =>
        if v14 = (12 : Int32) then
          some ((7 : Int32), M11)
        else
          some ((0 : Int32), M11)
    else
      some (r10, M9)

def f_X12_mayNot (x0 : Nat) (x1 : Int32) (x2 : Int32) (x3 : Int32) (M : MM) : Option (Int32 × MM) := if isO 12 x0 M = true then f_X12_mayNot_0 x0 x1 x2 x3 M else none
set_option maxRecDepth 4000 in
theorem L_X12_mayNot_0 {G : Gx} (X : Cb G cX12_mayNot 5 RX12 (RM 7 0 0) false) (Y : Cr G (some .int) 0 0) (x0 : Nat) (x1 : Int32) (x2 : Int32) (x3 : Int32) (M : MM) : V G trI 5 0 0 0 [(0, .ref x0), (1, .int x1), (2, .int x2), (3, .int x3)] [] M (f_X12_mayNot_0 x0 x1 x2 x3 M) := by
  unfold f_X12_mayNot_0
  refine v_aload_n X 1 0 dX12_mayNot_0 rfl rfl ?_
  refine v_getR X 4 fl_X12_43.r dX12_mayNot_1 rfl (fun v1 => ?_)
  refine v_aload_n X 5 0 dX12_mayNot_4 rfl rfl ?_
  refine v_getR X 8 fl_X12_46.r dX12_mayNot_5 rfl (fun v2 => ?_)
  refine v_sV X 11 cs_X12_puts ml_X12_346 (n1 := 1) rfl [.ref v1, .ref v2] rfl rfl rfl dX12_mayNot_8 rfl (fun M1 h => c_X12_puts _ _ _ _ _ h) (fun M3 => ?_)
  refine v_aload_n X 12 0 dX12_mayNot_11 rfl rfl ?_
  refine v_getR X 15 fl_X12_46.r dX12_mayNot_12 rfl (fun v4 => ?_)
  refine v_iload_n X 16 1 dX12_mayNot_15 rfl rfl ?_
  refine v_iload_n X 17 2 dX12_mayNot_16 rfl rfl ?_
  refine v_iload_n X 18 3 dX12_mayNot_17 rfl rfl ?_
  refine v_sV X 21 cs_X12_comes ml_X12_336 (n1 := 1) rfl [.ref v4, .int x1, .int x2, .int x3] rfl rfl rfl dX12_mayNot_18 rfl (fun M1 h => c_X12_comes _ _ _ _ _ _ _ h) (fun M5 => ?_)
  refine v_aload_n X 22 0 dX12_mayNot_21 rfl rfl ?_
  refine v_aload_n X 23 0 dX12_mayNot_22 rfl rfl ?_
  refine v_getR X 26 fl_X12_46.r dX12_mayNot_23 rfl (fun v6 => ?_)
  refine v_aload_n X 27 0 dX12_mayNot_26 rfl rfl ?_
  refine v_getR X 30 fl_X12_46.r dX12_mayNot_27 rfl (fun v7 => ?_)
  refine v_bipush X 32 dX12_mayNot_30 bk_45 rfl ?_
  refine v_iald X 33 dX12_mayNot_32 rfl (fun v8 => ?_)
  refine v_iconst X 34 dX12_mayNot_33 ik_1 rfl ?_
  refine v_isub X 35 dX12_mayNot_34 rfl ?_
  refine v_vI X 38 cv_X12_whyNot ml_X12_369 (n1 := 4) rfl [.ref v6, .int (v8 - (1 : Int32))] rfl rfl rfl dX12_mayNot_35 rfl (fun r M1 h => c_X12_whyNot _ _ _ _ _ _ _ h) (fun r10 M9 => ?_)
  refine v_istore (lv' := [(0, .ref x0), (1, .int x1), (2, .int x2), (3, .int x3), (4, .int r10)]) X 40 dX12_mayNot_38 (by decide) rfl rfl ?_
  refine v_iload X 42 4 dX12_mayNot_40 rfl rfl ?_
  refine v_ifle X 45 50 dX12_mayNot_42 rfl rfl ?_ ?_
  · refine v_aload_n X 51 0 dX12_mayNot_50 rfl rfl ?_
    refine v_vI X 54 cv_X12_isNoWorse ml_X12_378 (n1 := 6) rfl [] rfl rfl rfl dX12_mayNot_51 rfl (fun r M1 h => c_X12_isNoWorse _ _ _ _ _ h) (fun r12 M11 => ?_)
    refine v_ifne X 57 62 dX12_mayNot_54 rfl rfl ?_ ?_
    · refine v_aload_n X 63 0 dX12_mayNot_62 rfl rfl ?_
      refine v_getR X 66 fl_X12_43.r dX12_mayNot_63 rfl (fun v13 => ?_)
      refine v_bipush X 68 dX12_mayNot_66 bk_45 rfl ?_
      refine v_iald X 69 dX12_mayNot_68 rfl (fun v14 => ?_)
      refine v_bipush X 71 dX12_mayNot_69 bk_12 rfl ?_
      refine v_icne X 74 79 dX12_mayNot_71 rfl rfl ?_ ?_
      · refine v_iconst X 80 dX12_mayNot_79 ik_0 rfl ?_
        exact v_iret X Y (Nat.le_refl _) (Nat.le_refl _) dX12_mayNot_80
      · refine v_bipush X 76 dX12_mayNot_74 bk_7 rfl ?_
        refine v_goto X 80 dX12_mayNot_76 rfl ?_
        exact v_iret X Y (Nat.le_refl _) (Nat.le_refl _) dX12_mayNot_80
    · refine v_bipush X 59 dX12_mayNot_57 bk_6 rfl ?_
      refine v_goto X 80 dX12_mayNot_59 rfl ?_
      exact v_iret X Y (Nat.le_refl _) (Nat.le_refl _) dX12_mayNot_80
  · refine v_iload X 47 4 dX12_mayNot_45 rfl rfl ?_
    refine v_goto X 80 dX12_mayNot_47 rfl ?_
    exact v_iret X Y (Nat.le_refl _) (Nat.le_refl _) dX12_mayNot_80
theorem c_X12_mayNot (l : Launch) (x0 : Nat) (x1 : Int32) (x2 : Int32) (x3 : Int32) (M : MM) (r : Int32) (M1 : MM) (h : f_X12_mayNot x0 x1 x2 x3 M = some (r, M1)) : KV l yX12_mayNot cX12_mayNot 5 (some .int) (RM 7 0 0) false 12 x0 [.int x1, .int x2, .int x3] M (some (.int r)) M1 := by
  obtain ⟨hO, h2⟩ := iteO_some h
  exact ⟨hO, ct_of (tr := trI) (by decide) (Nat.le_of_ble_eq_true rfl) [(0, .ref x0), (1, .int x1), (2, .int x2), (3, .int x3)] rfl h2 (fun G X Y hn hl => L_X12_mayNot_0 X Y x0 x1 x2 x3 M)⟩

def f_X12_may_0 (x0 : Nat) (x1 : Int32) (x2 : Int32) (x3 : Int32) (M : MM) : Option (Int32 × MM) :=
    b1 (pI 12 0 x0 (0 : Int32) M) fun M1 =>
    b2 (f_X12_canAsk x0 x1 x2 x3 M1) fun r3 M2 =>
    if r3 = 0 then
      some ((-1 : Int32), M2)
    else
      b2 (f_X12_mayNot x0 x1 x2 x3 M2) fun r5 M4 =>
      some (r5, M4)

def f_X12_may (x0 : Nat) (x1 : Int32) (x2 : Int32) (x3 : Int32) (M : MM) : Option (Int32 × MM) := if isO 12 x0 M = true then f_X12_may_0 x0 x1 x2 x3 M else none
set_option maxRecDepth 4000 in
theorem L_X12_may_0 {G : Gx} (X : Cb G cX12_may 4 RX12 (RM 8 0 0) false) (Y : Cr G (some .int) 0 0) (x0 : Nat) (x1 : Int32) (x2 : Int32) (x3 : Int32) (M : MM) : V G trI 4 0 0 0 [(0, .ref x0), (1, .int x1), (2, .int x2), (3, .int x3)] [] M (f_X12_may_0 x0 x1 x2 x3 M) := by
  unfold f_X12_may_0
  refine v_aload_n X 1 0 dX12_may_0 rfl rfl ?_
  refine v_iconst X 2 dX12_may_1 ik_0 rfl ?_
  refine v_putI X 5 fl_X12_133 nof dX12_may_2 rfl (fun M1 => ?_)
  refine v_aload_n X 6 0 dX12_may_5 rfl rfl ?_
  refine v_iload_n X 7 1 dX12_may_6 rfl rfl ?_
  refine v_iload_n X 8 2 dX12_may_7 rfl rfl ?_
  refine v_iload_n X 9 3 dX12_may_8 rfl rfl ?_
  refine v_vI X 12 cv_X12_canAsk ml_X12_381 (n1 := 3) rfl [.int x1, .int x2, .int x3] rfl rfl rfl dX12_may_9 rfl (fun r M1 h => c_X12_canAsk _ _ _ _ _ _ _ _ h) (fun r3 M2 => ?_)
  refine v_ifeq X 15 25 dX12_may_12 rfl rfl ?_ ?_
  · refine v_iconst X 26 dX12_may_25 ik_m1 rfl ?_
    exact v_iret X Y (Nat.le_refl _) (Nat.le_refl _) dX12_may_26
  · refine v_aload_n X 16 0 dX12_may_15 rfl rfl ?_
    refine v_iload_n X 17 1 dX12_may_16 rfl rfl ?_
    refine v_iload_n X 18 2 dX12_may_17 rfl rfl ?_
    refine v_iload_n X 19 3 dX12_may_18 rfl rfl ?_
    refine v_vI X 22 cv_X12_mayNot ml_X12_385 (n1 := 7) rfl [.int x1, .int x2, .int x3] rfl rfl rfl dX12_may_19 rfl (fun r M1 h => c_X12_mayNot _ _ _ _ _ _ _ _ h) (fun r5 M4 => ?_)
    refine v_goto X 26 dX12_may_22 rfl ?_
    exact v_iret X Y (Nat.le_refl _) (Nat.le_refl _) dX12_may_26
theorem c_X12_may (l : Launch) (x0 : Nat) (x1 : Int32) (x2 : Int32) (x3 : Int32) (M : MM) (r : Int32) (M1 : MM) (h : f_X12_may x0 x1 x2 x3 M = some (r, M1)) : KV l yX12_may cX12_may 4 (some .int) (RM 8 0 0) false 12 x0 [.int x1, .int x2, .int x3] M (some (.int r)) M1 := by
  obtain ⟨hO, h2⟩ := iteO_some h
  exact ⟨hO, ct_of (tr := trI) (by decide) (Nat.le_of_ble_eq_true rfl) [(0, .ref x0), (1, .int x1), (2, .int x2), (3, .int x3)] rfl h2 (fun G X Y hn hl => L_X12_may_0 X Y x0 x1 x2 x3 M)⟩

def f_X12_goes_0 (x0 : Nat) (x1 : Int32) (x2 : Int32) (x3 : Int32) (M : MM) : Option (Int32 × MM) :=
    b2 (f_X12_canAsk x0 x1 x2 x3 M) fun r2 M1 =>
    if r2 = 0 then
      some ((-1 : Int32), M1)
    else
      b2 (f_X12_mayNot x0 x1 x2 x3 M1) fun r4 M3 =>
      if r4 = 0 then
        b1 (gR 12 15 x0 M3) fun v5 =>
        b1 (f_X12_comes v5 x1 x2 x3 M3) fun M6 =>
        b1 (gR 12 15 x0 M6) fun v7 =>
        b1 (ldI v7 (45 : Int32) M6) fun v8 =>
        some (v8, M6)
      else
        some ((-2 : Int32), M3)

def f_X12_goes (x0 : Nat) (x1 : Int32) (x2 : Int32) (x3 : Int32) (M : MM) : Option (Int32 × MM) := if isO 12 x0 M = true then f_X12_goes_0 x0 x1 x2 x3 M else none
set_option maxRecDepth 4000 in
theorem L_X12_goes_0 {G : Gx} (X : Cb G cX12_goes 4 RX12 (RM 8 0 0) false) (Y : Cr G (some .int) 0 0) (x0 : Nat) (x1 : Int32) (x2 : Int32) (x3 : Int32) (M : MM) : V G trI 4 0 0 0 [(0, .ref x0), (1, .int x1), (2, .int x2), (3, .int x3)] [] M (f_X12_goes_0 x0 x1 x2 x3 M) := by
  unfold f_X12_goes_0
  refine v_aload_n X 1 0 dX12_goes_0 rfl rfl ?_
  refine v_iload_n X 2 1 dX12_goes_1 rfl rfl ?_
  refine v_iload_n X 3 2 dX12_goes_2 rfl rfl ?_
  refine v_iload_n X 4 3 dX12_goes_3 rfl rfl ?_
  refine v_vI X 7 cv_X12_canAsk ml_X12_381 (n1 := 3) rfl [.int x1, .int x2, .int x3] rfl rfl rfl dX12_goes_4 rfl (fun r M1 h => c_X12_canAsk _ _ _ _ _ _ _ _ h) (fun r2 M1 => ?_)
  refine v_ifne X 10 12 dX12_goes_7 rfl rfl ?_ ?_
  · refine v_aload_n X 13 0 dX12_goes_12 rfl rfl ?_
    refine v_iload_n X 14 1 dX12_goes_13 rfl rfl ?_
    refine v_iload_n X 15 2 dX12_goes_14 rfl rfl ?_
    refine v_iload_n X 16 3 dX12_goes_15 rfl rfl ?_
    refine v_vI X 19 cv_X12_mayNot ml_X12_385 (n1 := 7) rfl [.int x1, .int x2, .int x3] rfl rfl rfl dX12_goes_16 rfl (fun r M1 h => c_X12_mayNot _ _ _ _ _ _ _ _ h) (fun r4 M3 => ?_)
    refine v_ifeq X 22 25 dX12_goes_19 rfl rfl ?_ ?_
    · refine v_aload_n X 26 0 dX12_goes_25 rfl rfl ?_
      refine v_getR X 29 fl_X12_43.r dX12_goes_26 rfl (fun v5 => ?_)
      refine v_iload_n X 30 1 dX12_goes_29 rfl rfl ?_
      refine v_iload_n X 31 2 dX12_goes_30 rfl rfl ?_
      refine v_iload_n X 32 3 dX12_goes_31 rfl rfl ?_
      refine v_sV X 35 cs_X12_comes ml_X12_336 (n1 := 1) rfl [.ref v5, .int x1, .int x2, .int x3] rfl rfl rfl dX12_goes_32 rfl (fun M1 h => c_X12_comes _ _ _ _ _ _ _ h) (fun M6 => ?_)
      refine v_aload_n X 36 0 dX12_goes_35 rfl rfl ?_
      refine v_getR X 39 fl_X12_43.r dX12_goes_36 rfl (fun v7 => ?_)
      refine v_bipush X 41 dX12_goes_39 bk_45 rfl ?_
      refine v_iald X 42 dX12_goes_41 rfl (fun v8 => ?_)
      exact v_iret X Y (Nat.le_refl _) (Nat.le_refl _) dX12_goes_42
    · refine v_bipush X 24 dX12_goes_22 bk_m2 rfl ?_
      exact v_iret X Y (Nat.le_refl _) (Nat.le_refl _) dX12_goes_24
  · refine v_iconst X 11 dX12_goes_10 ik_m1 rfl ?_
    exact v_iret X Y (Nat.le_refl _) (Nat.le_refl _) dX12_goes_11
theorem c_X12_goes (l : Launch) (x0 : Nat) (x1 : Int32) (x2 : Int32) (x3 : Int32) (M : MM) (r : Int32) (M1 : MM) (h : f_X12_goes x0 x1 x2 x3 M = some (r, M1)) : KV l yX12_goes cX12_goes 4 (some .int) (RM 8 0 0) false 12 x0 [.int x1, .int x2, .int x3] M (some (.int r)) M1 := by
  obtain ⟨hO, h2⟩ := iteO_some h
  exact ⟨hO, ct_of (tr := trI) (by decide) (Nat.le_of_ble_eq_true rfl) [(0, .ref x0), (1, .int x1), (2, .int x2), (3, .int x3)] rfl h2 (fun G X Y hn hl => L_X12_goes_0 X Y x0 x1 x2 x3 M)⟩

def f_X12_go_0 (x0 : Nat) (x1 : Int32) (x2 : Int32) (x3 : Int32) (M : MM) : Option (Int32 × MM) :=
    b1 (pI 12 0 x0 (0 : Int32) M) fun M1 =>
    b1 (f_X12_putsBy x0 M1) fun M2 =>
    b2 (f_X12_goes x0 x1 x2 x3 M2) fun r4 M3 =>
    if 0 ≤ r4 then
      b2 (f_X12_adds x0 r4 M3) fun r6 M5 =>
      some (r6, M5)
    else
      some (r4, M3)

def f_X12_go (x0 : Nat) (x1 : Int32) (x2 : Int32) (x3 : Int32) (M : MM) : Option (Int32 × MM) := if isO 12 x0 M = true then f_X12_go_0 x0 x1 x2 x3 M else none
set_option maxRecDepth 4000 in
theorem L_X12_go_0 {G : Gx} (X : Cb G cX12_go 5 RX12 (RM 9 0 0) false) (Y : Cr G (some .int) 0 0) (x0 : Nat) (x1 : Int32) (x2 : Int32) (x3 : Int32) (M : MM) : V G trI 5 0 0 0 [(0, .ref x0), (1, .int x1), (2, .int x2), (3, .int x3)] [] M (f_X12_go_0 x0 x1 x2 x3 M) := by
  unfold f_X12_go_0
  refine v_aload_n X 1 0 dX12_go_0 rfl rfl ?_
  refine v_iconst X 2 dX12_go_1 ik_0 rfl ?_
  refine v_putI X 5 fl_X12_133 nof dX12_go_2 rfl (fun M1 => ?_)
  refine v_aload_n X 6 0 dX12_go_5 rfl rfl ?_
  refine v_vV X 9 cv_X12_putsBy ml_X12_343 (n1 := 1) rfl [] rfl rfl rfl dX12_go_6 rfl (fun M1 h => c_X12_putsBy _ _ _ _ h) (fun M2 => ?_)
  refine v_aload_n X 10 0 dX12_go_9 rfl rfl ?_
  refine v_iload_n X 11 1 dX12_go_10 rfl rfl ?_
  refine v_iload_n X 12 2 dX12_go_11 rfl rfl ?_
  refine v_iload_n X 13 3 dX12_go_12 rfl rfl ?_
  refine v_vI X 16 cv_X12_goes ml_X12_388 (n1 := 8) rfl [.int x1, .int x2, .int x3] rfl rfl rfl dX12_go_13 rfl (fun r M1 h => c_X12_goes _ _ _ _ _ _ _ _ h) (fun r4 M3 => ?_)
  refine v_istore (lv' := [(0, .ref x0), (1, .int x1), (2, .int x2), (3, .int x3), (4, .int r4)]) X 18 dX12_go_16 (by decide) rfl rfl ?_
  refine v_iload X 20 4 dX12_go_18 rfl rfl ?_
  refine v_ifge X 23 28 dX12_go_20 rfl rfl ?_ ?_
  · refine v_aload_n X 29 0 dX12_go_28 rfl rfl ?_
    refine v_iload X 31 4 dX12_go_29 rfl rfl ?_
    refine v_vI X 34 cv_X12_adds ml_X12_350 (n1 := 1) rfl [.int r4] rfl rfl rfl dX12_go_31 rfl (fun r M1 h => c_X12_adds _ _ _ _ _ _ h) (fun r6 M5 => ?_)
    exact v_iret X Y (Nat.le_refl _) (Nat.le_refl _) dX12_go_34
  · refine v_iload X 25 4 dX12_go_23 rfl rfl ?_
    refine v_goto X 34 dX12_go_25 rfl ?_
    exact v_iret X Y (Nat.le_refl _) (Nat.le_refl _) dX12_go_34
theorem c_X12_go (l : Launch) (x0 : Nat) (x1 : Int32) (x2 : Int32) (x3 : Int32) (M : MM) (r : Int32) (M1 : MM) (h : f_X12_go x0 x1 x2 x3 M = some (r, M1)) : KV l yX12_go cX12_go 5 (some .int) (RM 9 0 0) false 12 x0 [.int x1, .int x2, .int x3] M (some (.int r)) M1 := by
  obtain ⟨hO, h2⟩ := iteO_some h
  exact ⟨hO, ct_of (tr := trI) (by decide) (Nat.le_of_ble_eq_true rfl) [(0, .ref x0), (1, .int x1), (2, .int x2), (3, .int x3)] rfl h2 (fun G X Y hn hl => L_X12_go_0 X Y x0 x1 x2 x3 M)⟩

def f_X12_pair_0 (x0 : Nat) (x1 : Int32) (x2 : Int32) (x3 : Int32) (x4 : Int32) (M : MM) : Option (Int32 × MM) :=
    b1 (pI 12 0 x0 (0 : Int32) M) fun M1 =>
    b2 (f_X12_canAsk x0 x1 x3 x4 M1) fun r3 M2 =>
    if r3 = 0 then
      some ((-1 : Int32), M2)
    else
      b2 (f_X12_isPerson x0 x2 M2) fun r5 M4 =>
      if r5 = 0 then
        some ((-1 : Int32), M4)
      else
        if x1 = x2 then
          some ((-1 : Int32), M4)
        else
          b1 (gR 12 15 x0 M4) fun v6 =>
          b1 (ldI v6 (45 : Int32) M4) fun v7 =>
          if v7 ≤ (10 : Int32) then
            b1 (gR 12 15 x0 M4) fun v8 =>
            b1 (gR 12 16 x0 M4) fun v9 =>
            b1 (f_X12_puts v8 v9 M4) fun M10 =>
            b1 (gR 12 16 x0 M10) fun v11 =>
            b1 (f_X12_comes v11 x1 x3 x4 M10) fun M12 =>
            b1 (gR 12 16 x0 M12) fun v13 =>
            b1 (f_X12_comes v13 x2 x3 x4 M12) fun M14 =>
            b1 (gR 12 16 x0 M14) fun v15 =>
            b1 (gR 12 16 x0 M14) fun v16 =>
            b1 (ldI v16 (45 : Int32) M14) fun v17 =>
            b2 (f_X12_whyNot x0 v15 (v17 - (2 : Int32)) M14) fun r19 M18 =>
            if 0 < r19 then
              some ((-2 : Int32), M18)
            else
              b1 (gR 12 16 x0 M18) fun v20 =>
              b1 (gR 12 16 x0 M18) fun v21 =>
              b1 (ldI v21 (45 : Int32) M18) fun v22 =>
              b2 (f_X12_whyNot x0 v20 (v22 - (1 : Int32)) M18) fun r24 M23 =>
              if 0 < r24 then
                some ((-2 : Int32), M23)
              else
                b2 (f_X12_isNoWorse x0 M23) fun r26 M25 =>
                if r26 = 0 then
                  some ((-2 : Int32), M25)
                else
                  b1 (f_X12_putsBy x0 M25) fun M27 =>
                  b1 (gR 12 16 x0 M27) fun v28 =>
                  b1 (gR 12 15 x0 M27) fun v29 =>
                  b1 (f_X12_puts v28 v29 M27) fun M30 =>
                  b1 (gR 12 15 x0 M30) fun v31 =>
                  b1 (ldI v31 (45 : Int32) M30) fun v32 =>
                  b2 (f_X12_adds x0 v32 M30) fun r34 M33 =>
                  some (r34, M33)
          else
            some ((-2 : Int32), M4)

def f_X12_pair (x0 : Nat) (x1 : Int32) (x2 : Int32) (x3 : Int32) (x4 : Int32) (M : MM) : Option (Int32 × MM) := if isO 12 x0 M = true then f_X12_pair_0 x0 x1 x2 x3 x4 M else none
set_option maxRecDepth 4000 in
theorem L_X12_pair_0 {G : Gx} (X : Cb G cX12_pair 5 RX12 (RM 7 0 0) false) (Y : Cr G (some .int) 0 0) (x0 : Nat) (x1 : Int32) (x2 : Int32) (x3 : Int32) (x4 : Int32) (M : MM) : V G trI 5 0 0 0 [(0, .ref x0), (1, .int x1), (2, .int x2), (3, .int x3), (4, .int x4)] [] M (f_X12_pair_0 x0 x1 x2 x3 x4 M) := by
  unfold f_X12_pair_0
  refine v_aload_n X 1 0 dX12_pair_0 rfl rfl ?_
  refine v_iconst X 2 dX12_pair_1 ik_0 rfl ?_
  refine v_putI X 5 fl_X12_133 nof dX12_pair_2 rfl (fun M1 => ?_)
  refine v_aload_n X 6 0 dX12_pair_5 rfl rfl ?_
  refine v_iload_n X 7 1 dX12_pair_6 rfl rfl ?_
  refine v_iload_n X 8 3 dX12_pair_7 rfl rfl ?_
  refine v_iload X 10 4 dX12_pair_8 rfl rfl ?_
  refine v_vI X 13 cv_X12_canAsk ml_X12_381 (n1 := 3) rfl [.int x1, .int x3, .int x4] rfl rfl rfl dX12_pair_10 rfl (fun r M1 h => c_X12_canAsk _ _ _ _ _ _ _ _ h) (fun r3 M2 => ?_)
  refine v_ifeq X 16 29 dX12_pair_13 rfl rfl ?_ ?_
  · refine v_iconst X 30 dX12_pair_29 ik_m1 rfl ?_
    exact v_iret X Y (Nat.le_refl _) (Nat.le_refl _) dX12_pair_30
  · refine v_aload_n X 17 0 dX12_pair_16 rfl rfl ?_
    refine v_iload_n X 18 2 dX12_pair_17 rfl rfl ?_
    refine v_vI X 21 cv_X12_isPerson ml_X12_247 (n1 := 2) rfl [.int x2] rfl rfl rfl dX12_pair_18 rfl (fun r M1 h => c_X12_isPerson _ _ _ _ _ _ h) (fun r5 M4 => ?_)
    refine v_ifeq X 24 29 dX12_pair_21 rfl rfl ?_ ?_
    · refine v_iconst X 30 dX12_pair_29 ik_m1 rfl ?_
      exact v_iret X Y (Nat.le_refl _) (Nat.le_refl _) dX12_pair_30
    · refine v_iload_n X 25 1 dX12_pair_24 rfl rfl ?_
      refine v_iload_n X 26 2 dX12_pair_25 rfl rfl ?_
      refine v_icne X 29 31 dX12_pair_26 rfl rfl ?_ ?_
      · refine v_aload_n X 32 0 dX12_pair_31 rfl rfl ?_
        refine v_getR X 35 fl_X12_43.r dX12_pair_32 rfl (fun v6 => ?_)
        refine v_bipush X 37 dX12_pair_35 bk_45 rfl ?_
        refine v_iald X 38 dX12_pair_37 rfl (fun v7 => ?_)
        refine v_bipush X 40 dX12_pair_38 bk_10 rfl ?_
        refine v_icle X 43 46 dX12_pair_40 rfl rfl ?_ ?_
        · refine v_aload_n X 47 0 dX12_pair_46 rfl rfl ?_
          refine v_getR X 50 fl_X12_43.r dX12_pair_47 rfl (fun v8 => ?_)
          refine v_aload_n X 51 0 dX12_pair_50 rfl rfl ?_
          refine v_getR X 54 fl_X12_46.r dX12_pair_51 rfl (fun v9 => ?_)
          refine v_sV X 57 cs_X12_puts ml_X12_346 (n1 := 1) rfl [.ref v8, .ref v9] rfl rfl rfl dX12_pair_54 rfl (fun M1 h => c_X12_puts _ _ _ _ _ h) (fun M10 => ?_)
          refine v_aload_n X 58 0 dX12_pair_57 rfl rfl ?_
          refine v_getR X 61 fl_X12_46.r dX12_pair_58 rfl (fun v11 => ?_)
          refine v_iload_n X 62 1 dX12_pair_61 rfl rfl ?_
          refine v_iload_n X 63 3 dX12_pair_62 rfl rfl ?_
          refine v_iload X 65 4 dX12_pair_63 rfl rfl ?_
          refine v_sV X 68 cs_X12_comes ml_X12_336 (n1 := 1) rfl [.ref v11, .int x1, .int x3, .int x4] rfl rfl rfl dX12_pair_65 rfl (fun M1 h => c_X12_comes _ _ _ _ _ _ _ h) (fun M12 => ?_)
          refine v_aload_n X 69 0 dX12_pair_68 rfl rfl ?_
          refine v_getR X 72 fl_X12_46.r dX12_pair_69 rfl (fun v13 => ?_)
          refine v_iload_n X 73 2 dX12_pair_72 rfl rfl ?_
          refine v_iload_n X 74 3 dX12_pair_73 rfl rfl ?_
          refine v_iload X 76 4 dX12_pair_74 rfl rfl ?_
          refine v_sV X 79 cs_X12_comes ml_X12_336 (n1 := 1) rfl [.ref v13, .int x2, .int x3, .int x4] rfl rfl rfl dX12_pair_76 rfl (fun M1 h => c_X12_comes _ _ _ _ _ _ _ h) (fun M14 => ?_)
          refine v_aload_n X 80 0 dX12_pair_79 rfl rfl ?_
          refine v_aload_n X 81 0 dX12_pair_80 rfl rfl ?_
          refine v_getR X 84 fl_X12_46.r dX12_pair_81 rfl (fun v15 => ?_)
          refine v_aload_n X 85 0 dX12_pair_84 rfl rfl ?_
          refine v_getR X 88 fl_X12_46.r dX12_pair_85 rfl (fun v16 => ?_)
          refine v_bipush X 90 dX12_pair_88 bk_45 rfl ?_
          refine v_iald X 91 dX12_pair_90 rfl (fun v17 => ?_)
          refine v_iconst X 92 dX12_pair_91 ik_2 rfl ?_
          refine v_isub X 93 dX12_pair_92 rfl ?_
          refine v_vI X 96 cv_X12_whyNot ml_X12_369 (n1 := 4) rfl [.ref v15, .int (v17 - (2 : Int32))] rfl rfl rfl dX12_pair_93 rfl (fun r M1 h => c_X12_whyNot _ _ _ _ _ _ _ h) (fun r19 M18 => ?_)
          refine v_ifgt X 99 126 dX12_pair_96 rfl rfl ?_ ?_
          · refine v_bipush X 128 dX12_pair_126 bk_m2 rfl ?_
            exact v_iret X Y (Nat.le_refl _) (Nat.le_refl _) dX12_pair_128
          · refine v_aload_n X 100 0 dX12_pair_99 rfl rfl ?_
            refine v_aload_n X 101 0 dX12_pair_100 rfl rfl ?_
            refine v_getR X 104 fl_X12_46.r dX12_pair_101 rfl (fun v20 => ?_)
            refine v_aload_n X 105 0 dX12_pair_104 rfl rfl ?_
            refine v_getR X 108 fl_X12_46.r dX12_pair_105 rfl (fun v21 => ?_)
            refine v_bipush X 110 dX12_pair_108 bk_45 rfl ?_
            refine v_iald X 111 dX12_pair_110 rfl (fun v22 => ?_)
            refine v_iconst X 112 dX12_pair_111 ik_1 rfl ?_
            refine v_isub X 113 dX12_pair_112 rfl ?_
            refine v_vI X 116 cv_X12_whyNot ml_X12_369 (n1 := 4) rfl [.ref v20, .int (v22 - (1 : Int32))] rfl rfl rfl dX12_pair_113 rfl (fun r M1 h => c_X12_whyNot _ _ _ _ _ _ _ h) (fun r24 M23 => ?_)
            refine v_ifgt X 119 126 dX12_pair_116 rfl rfl ?_ ?_
            · refine v_bipush X 128 dX12_pair_126 bk_m2 rfl ?_
              exact v_iret X Y (Nat.le_refl _) (Nat.le_refl _) dX12_pair_128
            · refine v_aload_n X 120 0 dX12_pair_119 rfl rfl ?_
              refine v_vI X 123 cv_X12_isNoWorse ml_X12_378 (n1 := 6) rfl [] rfl rfl rfl dX12_pair_120 rfl (fun r M1 h => c_X12_isNoWorse _ _ _ _ _ h) (fun r26 M25 => ?_)
              refine v_ifne X 126 129 dX12_pair_123 rfl rfl ?_ ?_
              · refine v_aload_n X 130 0 dX12_pair_129 rfl rfl ?_
                refine v_vV X 133 cv_X12_putsBy ml_X12_343 (n1 := 1) rfl [] rfl rfl rfl dX12_pair_130 rfl (fun M1 h => c_X12_putsBy _ _ _ _ h) (fun M27 => ?_)
                refine v_aload_n X 134 0 dX12_pair_133 rfl rfl ?_
                refine v_getR X 137 fl_X12_46.r dX12_pair_134 rfl (fun v28 => ?_)
                refine v_aload_n X 138 0 dX12_pair_137 rfl rfl ?_
                refine v_getR X 141 fl_X12_43.r dX12_pair_138 rfl (fun v29 => ?_)
                refine v_sV X 144 cs_X12_puts ml_X12_346 (n1 := 1) rfl [.ref v28, .ref v29] rfl rfl rfl dX12_pair_141 rfl (fun M1 h => c_X12_puts _ _ _ _ _ h) (fun M30 => ?_)
                refine v_aload_n X 145 0 dX12_pair_144 rfl rfl ?_
                refine v_aload_n X 146 0 dX12_pair_145 rfl rfl ?_
                refine v_getR X 149 fl_X12_43.r dX12_pair_146 rfl (fun v31 => ?_)
                refine v_bipush X 151 dX12_pair_149 bk_45 rfl ?_
                refine v_iald X 152 dX12_pair_151 rfl (fun v32 => ?_)
                refine v_vI X 155 cv_X12_adds ml_X12_350 (n1 := 1) rfl [.int v32] rfl rfl rfl dX12_pair_152 rfl (fun r M1 h => c_X12_adds _ _ _ _ _ _ h) (fun r34 M33 => ?_)
                exact v_iret X Y (Nat.le_refl _) (Nat.le_refl _) dX12_pair_155
              · refine v_bipush X 128 dX12_pair_126 bk_m2 rfl ?_
                exact v_iret X Y (Nat.le_refl _) (Nat.le_refl _) dX12_pair_128
        · refine v_bipush X 45 dX12_pair_43 bk_m2 rfl ?_
          exact v_iret X Y (Nat.le_refl _) (Nat.le_refl _) dX12_pair_45
      · refine v_iconst X 30 dX12_pair_29 ik_m1 rfl ?_
        exact v_iret X Y (Nat.le_refl _) (Nat.le_refl _) dX12_pair_30
theorem c_X12_pair (l : Launch) (x0 : Nat) (x1 : Int32) (x2 : Int32) (x3 : Int32) (x4 : Int32) (M : MM) (r : Int32) (M1 : MM) (h : f_X12_pair x0 x1 x2 x3 x4 M = some (r, M1)) : KV l yX12_pair cX12_pair 5 (some .int) (RM 7 0 0) false 12 x0 [.int x1, .int x2, .int x3, .int x4] M (some (.int r)) M1 := by
  obtain ⟨hO, h2⟩ := iteO_some h
  exact ⟨hO, ct_of (tr := trI) (by decide) (Nat.le_of_ble_eq_true rfl) [(0, .ref x0), (1, .int x1), (2, .int x2), (3, .int x3), (4, .int x4)] rfl h2 (fun G X Y hn hl => L_X12_pair_0 X Y x0 x1 x2 x3 x4 M)⟩

def f_X12_strikes_0 (x0 : Nat) (x1 : Int32) (M : MM) : Option (Int32 × MM) :=
    b2 (f_X12_isTrip x0 x1 M) fun r2 M1 =>
    if r2 = 0 then
      some ((-1 : Int32), M1)
    else
      b1 (gR 12 15 x0 M1) fun v3 =>
      b1 (f_X12_leaves v3 x1 M1) fun M4 =>
      b1 (gR 12 15 x0 M4) fun v5 =>
      b1 (ldI v5 (45 : Int32) M4) fun v6 =>
      some (v6, M4)

def f_X12_strikes (x0 : Nat) (x1 : Int32) (M : MM) : Option (Int32 × MM) := if isO 12 x0 M = true then f_X12_strikes_0 x0 x1 M else none
set_option maxRecDepth 4000 in
theorem L_X12_strikes_0 {G : Gx} (X : Cb G cX12_strikes 2 RX12 (RM 3 0 0) false) (Y : Cr G (some .int) 0 0) (x0 : Nat) (x1 : Int32) (M : MM) : V G trI 2 0 0 0 [(0, .ref x0), (1, .int x1)] [] M (f_X12_strikes_0 x0 x1 M) := by
  unfold f_X12_strikes_0
  refine v_aload_n X 1 0 dX12_strikes_0 rfl rfl ?_
  refine v_iload_n X 2 1 dX12_strikes_1 rfl rfl ?_
  refine v_vI X 5 cv_X12_isTrip ml_X12_366 (n1 := 2) rfl [.int x1] rfl rfl rfl dX12_strikes_2 rfl (fun r M1 h => c_X12_isTrip _ _ _ _ _ _ h) (fun r2 M1 => ?_)
  refine v_ifne X 8 10 dX12_strikes_5 rfl rfl ?_ ?_
  · refine v_aload_n X 11 0 dX12_strikes_10 rfl rfl ?_
    refine v_getR X 14 fl_X12_43.r dX12_strikes_11 rfl (fun v3 => ?_)
    refine v_iload_n X 15 1 dX12_strikes_14 rfl rfl ?_
    refine v_sV X 18 cs_X12_leaves ml_X12_391 (n1 := 1) rfl [.ref v3, .int x1] rfl rfl rfl dX12_strikes_15 rfl (fun M1 h => c_X12_leaves _ _ _ _ _ h) (fun M4 => ?_)
    refine v_aload_n X 19 0 dX12_strikes_18 rfl rfl ?_
    refine v_getR X 22 fl_X12_43.r dX12_strikes_19 rfl (fun v5 => ?_)
    refine v_bipush X 24 dX12_strikes_22 bk_45 rfl ?_
    refine v_iald X 25 dX12_strikes_24 rfl (fun v6 => ?_)
    exact v_iret X Y (Nat.le_refl _) (Nat.le_refl _) dX12_strikes_25
  · refine v_iconst X 9 dX12_strikes_8 ik_m1 rfl ?_
    exact v_iret X Y (Nat.le_refl _) (Nat.le_refl _) dX12_strikes_9
theorem c_X12_strikes (l : Launch) (x0 : Nat) (x1 : Int32) (M : MM) (r : Int32) (M1 : MM) (h : f_X12_strikes x0 x1 M = some (r, M1)) : KV l yX12_strikes cX12_strikes 2 (some .int) (RM 3 0 0) false 12 x0 [.int x1] M (some (.int r)) M1 := by
  obtain ⟨hO, h2⟩ := iteO_some h
  exact ⟨hO, ct_of (tr := trI) (by decide) (Nat.le_of_ble_eq_true rfl) [(0, .ref x0), (1, .int x1)] rfl h2 (fun G X Y hn hl => L_X12_strikes_0 X Y x0 x1 M)⟩

def f_X12_strike_0 (x0 : Nat) (x1 : Int32) (M : MM) : Option (Int32 × MM) :=
    b1 (pI 12 0 x0 (0 : Int32) M) fun M1 =>
    b1 (f_X12_putsBy x0 M1) fun M2 =>
    b2 (f_X12_strikes x0 x1 M2) fun r4 M3 =>
    if 0 ≤ r4 then
      b2 (f_X12_adds x0 r4 M3) fun r6 M5 =>
      some (r6, M5)
    else
      some (r4, M3)

def f_X12_strike (x0 : Nat) (x1 : Int32) (M : MM) : Option (Int32 × MM) := if isO 12 x0 M = true then f_X12_strike_0 x0 x1 M else none
set_option maxRecDepth 4000 in
theorem L_X12_strike_0 {G : Gx} (X : Cb G cX12_strike 3 RX12 (RM 4 0 0) false) (Y : Cr G (some .int) 0 0) (x0 : Nat) (x1 : Int32) (M : MM) : V G trI 3 0 0 0 [(0, .ref x0), (1, .int x1)] [] M (f_X12_strike_0 x0 x1 M) := by
  unfold f_X12_strike_0
  refine v_aload_n X 1 0 dX12_strike_0 rfl rfl ?_
  refine v_iconst X 2 dX12_strike_1 ik_0 rfl ?_
  refine v_putI X 5 fl_X12_133 nof dX12_strike_2 rfl (fun M1 => ?_)
  refine v_aload_n X 6 0 dX12_strike_5 rfl rfl ?_
  refine v_vV X 9 cv_X12_putsBy ml_X12_343 (n1 := 1) rfl [] rfl rfl rfl dX12_strike_6 rfl (fun M1 h => c_X12_putsBy _ _ _ _ h) (fun M2 => ?_)
  refine v_aload_n X 10 0 dX12_strike_9 rfl rfl ?_
  refine v_iload_n X 11 1 dX12_strike_10 rfl rfl ?_
  refine v_vI X 14 cv_X12_strikes ml_X12_395 (n1 := 3) rfl [.int x1] rfl rfl rfl dX12_strike_11 rfl (fun r M1 h => c_X12_strikes _ _ _ _ _ _ h) (fun r4 M3 => ?_)
  refine v_istore_n (lv' := [(0, .ref x0), (1, .int x1), (2, .int r4)]) X 15 dX12_strike_14 (by decide) rfl rfl ?_
  refine v_iload_n X 16 2 dX12_strike_15 rfl rfl ?_
  refine v_ifge X 19 23 dX12_strike_16 rfl rfl ?_ ?_
  · refine v_aload_n X 24 0 dX12_strike_23 rfl rfl ?_
    refine v_iload_n X 25 2 dX12_strike_24 rfl rfl ?_
    refine v_vI X 28 cv_X12_adds ml_X12_350 (n1 := 1) rfl [.int r4] rfl rfl rfl dX12_strike_25 rfl (fun r M1 h => c_X12_adds _ _ _ _ _ _ h) (fun r6 M5 => ?_)
    exact v_iret X Y (Nat.le_refl _) (Nat.le_refl _) dX12_strike_28
  · refine v_iload_n X 20 2 dX12_strike_19 rfl rfl ?_
    refine v_goto X 28 dX12_strike_20 rfl ?_
    exact v_iret X Y (Nat.le_refl _) (Nat.le_refl _) dX12_strike_28
theorem c_X12_strike (l : Launch) (x0 : Nat) (x1 : Int32) (M : MM) (r : Int32) (M1 : MM) (h : f_X12_strike x0 x1 M = some (r, M1)) : KV l yX12_strike cX12_strike 3 (some .int) (RM 4 0 0) false 12 x0 [.int x1] M (some (.int r)) M1 := by
  obtain ⟨hO, h2⟩ := iteO_some h
  exact ⟨hO, ct_of (tr := trI) (by decide) (Nat.le_of_ble_eq_true rfl) [(0, .ref x0), (1, .int x1)] rfl h2 (fun G X Y hn hl => L_X12_strike_0 X Y x0 x1 M)⟩

def f_X12_shifts_0 (x0 : Nat) (x1 : Int32) (x2 : Int32) (M : MM) : Option (Int32 × MM) :=
    b2 (f_X12_isTrip x0 x1 M) fun r2 M1 =>
    if r2 = 0 then
      some ((-1 : Int32), M1)
    else
      b2 (f_X12_in (Int32.toInt64 x2) (-99 : Int64) (99 : Int64) M1) fun r4 M3 =>
      if r4 = 0 then
        some ((-1 : Int32), M3)
      else
        b1 (gR 12 15 x0 M3) fun v5 =>
        b2 (f_X12_start v5 x1 M3) fun r7 M6 =>
        bn (r7 + x2 : Int32) fun y8 =>
        b2 (f_X12_in (Int32.toInt64 y8) (0 : Int64) (99 : Int64) M6) fun r10 M9 =>
        if r10 = 0 then
          some ((-2 : Int32), M9)
        else
          b1 (gR 12 15 x0 M9) fun v11 =>
          b1 (gR 12 16 x0 M9) fun v12 =>
          b1 (f_X12_puts v11 v12 M9) fun M13 =>
          b1 (gR 12 16 x0 M13) fun v14 =>
          b1 (stI v14 (((3 : Int32) * x1) + (2 : Int32)) y8 M13) fun M15 =>
          b1 (gR 12 16 x0 M15) fun v16 =>
          b2 (f_X12_whyNot x0 v16 x1 M15) fun r18 M17 =>
          if r18 ≤ 0 then
            b1 (gR 12 15 x0 M17) fun v19 =>
            b1 (stI v19 (((3 : Int32) * x1) + (2 : Int32)) y8 M17) fun M20 =>
            some (y8, M20)
          else
            some ((-2 : Int32), M17)

def f_X12_shifts (x0 : Nat) (x1 : Int32) (x2 : Int32) (M : MM) : Option (Int32 × MM) := if isO 12 x0 M = true then f_X12_shifts_0 x0 x1 x2 M else none
set_option maxRecDepth 4000 in
theorem L_X12_shifts_0 {G : Gx} (X : Cb G cX12_shifts 4 RX12 (RM 5 0 0) false) (Y : Cr G (some .int) 0 0) (x0 : Nat) (x1 : Int32) (x2 : Int32) (M : MM) : V G trI 4 0 0 0 [(0, .ref x0), (1, .int x1), (2, .int x2)] [] M (f_X12_shifts_0 x0 x1 x2 M) := by
  unfold f_X12_shifts_0
  refine v_aload_n X 1 0 dX12_shifts_0 rfl rfl ?_
  refine v_iload_n X 2 1 dX12_shifts_1 rfl rfl ?_
  refine v_vI X 5 cv_X12_isTrip ml_X12_366 (n1 := 2) rfl [.int x1] rfl rfl rfl dX12_shifts_2 rfl (fun r M1 h => c_X12_isTrip _ _ _ _ _ _ h) (fun r2 M1 => ?_)
  refine v_ifeq X 8 22 dX12_shifts_5 rfl rfl ?_ ?_
  · refine v_iconst X 23 dX12_shifts_22 ik_m1 rfl ?_
    exact v_iret X Y (Nat.le_refl _) (Nat.le_refl _) dX12_shifts_23
  · refine v_iload_n X 9 2 dX12_shifts_8 rfl rfl ?_
    refine v_i2l X 10 dX12_shifts_9 rfl ?_
    refine v_ldc2 X 13 dX12_shifts_10 kl_X12_398 rfl ?_
    refine v_ldc2 X 16 dX12_shifts_13 kl_X12_374 rfl ?_
    refine v_sI X 19 cs_X12_in ml_X12_146 (n1 := 1) rfl [.long (Int32.toInt64 x2), .long (-99 : Int64), .long (99 : Int64)] rfl rfl rfl dX12_shifts_16 rfl (fun r M1 h => c_X12_in _ _ _ _ _ _ _ h) (fun r4 M3 => ?_)
    refine v_ifne X 22 24 dX12_shifts_19 rfl rfl ?_ ?_
    · refine v_aload_n X 25 0 dX12_shifts_24 rfl rfl ?_
      refine v_getR X 28 fl_X12_43.r dX12_shifts_25 rfl (fun v5 => ?_)
      refine v_iload_n X 29 1 dX12_shifts_28 rfl rfl ?_
      refine v_sI X 32 cs_X12_start ml_X12_274 (n1 := 1) rfl [.ref v5, .int x1] rfl rfl rfl dX12_shifts_29 rfl (fun r M1 h => c_X12_start _ _ _ _ _ _ h) (fun r7 M6 => ?_)
      refine v_iload_n X 33 2 dX12_shifts_32 rfl rfl ?_
      refine v_iadd X 34 dX12_shifts_33 rfl ?_
      refine v_bnI (fun y8 => ?_)
      refine v_istore_n (lv' := [(0, .ref x0), (1, .int x1), (2, .int x2), (3, .int y8)]) X 35 dX12_shifts_34 (by decide) rfl rfl ?_
      refine v_iload_n X 36 3 dX12_shifts_35 rfl rfl ?_
      refine v_i2l X 37 dX12_shifts_36 rfl ?_
      refine v_lconst X 38 dX12_shifts_37 lk_0 rfl ?_
      refine v_ldc2 X 41 dX12_shifts_38 kl_X12_374 rfl ?_
      refine v_sI X 44 cs_X12_in ml_X12_146 (n1 := 1) rfl [.long (Int32.toInt64 y8), .long (0 : Int64), .long (99 : Int64)] rfl rfl rfl dX12_shifts_41 rfl (fun r M1 h => c_X12_in _ _ _ _ _ _ _ h) (fun r10 M9 => ?_)
      refine v_ifne X 47 50 dX12_shifts_44 rfl rfl ?_ ?_
      · refine v_aload_n X 51 0 dX12_shifts_50 rfl rfl ?_
        refine v_getR X 54 fl_X12_43.r dX12_shifts_51 rfl (fun v11 => ?_)
        refine v_aload_n X 55 0 dX12_shifts_54 rfl rfl ?_
        refine v_getR X 58 fl_X12_46.r dX12_shifts_55 rfl (fun v12 => ?_)
        refine v_sV X 61 cs_X12_puts ml_X12_346 (n1 := 1) rfl [.ref v11, .ref v12] rfl rfl rfl dX12_shifts_58 rfl (fun M1 h => c_X12_puts _ _ _ _ _ h) (fun M13 => ?_)
        refine v_aload_n X 62 0 dX12_shifts_61 rfl rfl ?_
        refine v_getR X 65 fl_X12_46.r dX12_shifts_62 rfl (fun v14 => ?_)
        refine v_iconst X 66 dX12_shifts_65 ik_3 rfl ?_
        refine v_iload_n X 67 1 dX12_shifts_66 rfl rfl ?_
        refine v_imul X 68 dX12_shifts_67 rfl ?_
        refine v_iconst X 69 dX12_shifts_68 ik_2 rfl ?_
        refine v_iadd X 70 dX12_shifts_69 rfl ?_
        refine v_iload_n X 71 3 dX12_shifts_70 rfl rfl ?_
        refine v_iast X 72 dX12_shifts_71 rfl (fun M15 => ?_)
        refine v_aload_n X 73 0 dX12_shifts_72 rfl rfl ?_
        refine v_aload_n X 74 0 dX12_shifts_73 rfl rfl ?_
        refine v_getR X 77 fl_X12_46.r dX12_shifts_74 rfl (fun v16 => ?_)
        refine v_iload_n X 78 1 dX12_shifts_77 rfl rfl ?_
        refine v_vI X 81 cv_X12_whyNot ml_X12_369 (n1 := 4) rfl [.ref v16, .int x1] rfl rfl rfl dX12_shifts_78 rfl (fun r M1 h => c_X12_whyNot _ _ _ _ _ _ _ h) (fun r18 M17 => ?_)
        refine v_ifle X 84 87 dX12_shifts_81 rfl rfl ?_ ?_
        · refine v_aload_n X 88 0 dX12_shifts_87 rfl rfl ?_
          refine v_getR X 91 fl_X12_43.r dX12_shifts_88 rfl (fun v19 => ?_)
          refine v_iconst X 92 dX12_shifts_91 ik_3 rfl ?_
          refine v_iload_n X 93 1 dX12_shifts_92 rfl rfl ?_
          refine v_imul X 94 dX12_shifts_93 rfl ?_
          refine v_iconst X 95 dX12_shifts_94 ik_2 rfl ?_
          refine v_iadd X 96 dX12_shifts_95 rfl ?_
          refine v_iload_n X 97 3 dX12_shifts_96 rfl rfl ?_
          refine v_iast X 98 dX12_shifts_97 rfl (fun M20 => ?_)
          refine v_iload_n X 99 3 dX12_shifts_98 rfl rfl ?_
          exact v_iret X Y (Nat.le_refl _) (Nat.le_refl _) dX12_shifts_99
        · refine v_bipush X 86 dX12_shifts_84 bk_m2 rfl ?_
          exact v_iret X Y (Nat.le_refl _) (Nat.le_refl _) dX12_shifts_86
      · refine v_bipush X 49 dX12_shifts_47 bk_m2 rfl ?_
        exact v_iret X Y (Nat.le_refl _) (Nat.le_refl _) dX12_shifts_49
    · refine v_iconst X 23 dX12_shifts_22 ik_m1 rfl ?_
      exact v_iret X Y (Nat.le_refl _) (Nat.le_refl _) dX12_shifts_23
theorem c_X12_shifts (l : Launch) (x0 : Nat) (x1 : Int32) (x2 : Int32) (M : MM) (r : Int32) (M1 : MM) (h : f_X12_shifts x0 x1 x2 M = some (r, M1)) : KV l yX12_shifts cX12_shifts 4 (some .int) (RM 5 0 0) false 12 x0 [.int x1, .int x2] M (some (.int r)) M1 := by
  obtain ⟨hO, h2⟩ := iteO_some h
  exact ⟨hO, ct_of (tr := trI) (by decide) (Nat.le_of_ble_eq_true rfl) [(0, .ref x0), (1, .int x1), (2, .int x2)] rfl h2 (fun G X Y hn hl => L_X12_shifts_0 X Y x0 x1 x2 M)⟩

def f_X12_shift_0 (x0 : Nat) (x1 : Int32) (x2 : Int32) (M : MM) : Option (Int32 × MM) :=
    b1 (pI 12 0 x0 (0 : Int32) M) fun M1 =>
    b1 (f_X12_putsBy x0 M1) fun M2 =>
    b2 (f_X12_shifts x0 x1 x2 M2) fun r4 M3 =>
    if 0 ≤ r4 then
      b2 (f_X12_adds x0 r4 M3) fun r6 M5 =>
      some (r6, M5)
    else
      some (r4, M3)

def f_X12_shift (x0 : Nat) (x1 : Int32) (x2 : Int32) (M : MM) : Option (Int32 × MM) := if isO 12 x0 M = true then f_X12_shift_0 x0 x1 x2 M else none
set_option maxRecDepth 4000 in
theorem L_X12_shift_0 {G : Gx} (X : Cb G cX12_shift 4 RX12 (RM 6 0 0) false) (Y : Cr G (some .int) 0 0) (x0 : Nat) (x1 : Int32) (x2 : Int32) (M : MM) : V G trI 4 0 0 0 [(0, .ref x0), (1, .int x1), (2, .int x2)] [] M (f_X12_shift_0 x0 x1 x2 M) := by
  unfold f_X12_shift_0
  refine v_aload_n X 1 0 dX12_shift_0 rfl rfl ?_
  refine v_iconst X 2 dX12_shift_1 ik_0 rfl ?_
  refine v_putI X 5 fl_X12_133 nof dX12_shift_2 rfl (fun M1 => ?_)
  refine v_aload_n X 6 0 dX12_shift_5 rfl rfl ?_
  refine v_vV X 9 cv_X12_putsBy ml_X12_343 (n1 := 1) rfl [] rfl rfl rfl dX12_shift_6 rfl (fun M1 h => c_X12_putsBy _ _ _ _ h) (fun M2 => ?_)
  refine v_aload_n X 10 0 dX12_shift_9 rfl rfl ?_
  refine v_iload_n X 11 1 dX12_shift_10 rfl rfl ?_
  refine v_iload_n X 12 2 dX12_shift_11 rfl rfl ?_
  refine v_vI X 15 cv_X12_shifts ml_X12_400 (n1 := 5) rfl [.int x1, .int x2] rfl rfl rfl dX12_shift_12 rfl (fun r M1 h => c_X12_shifts _ _ _ _ _ _ _ h) (fun r4 M3 => ?_)
  refine v_istore_n (lv' := [(0, .ref x0), (1, .int x1), (2, .int x2), (3, .int r4)]) X 16 dX12_shift_15 (by decide) rfl rfl ?_
  refine v_iload_n X 17 3 dX12_shift_16 rfl rfl ?_
  refine v_ifge X 20 24 dX12_shift_17 rfl rfl ?_ ?_
  · refine v_aload_n X 25 0 dX12_shift_24 rfl rfl ?_
    refine v_iload_n X 26 3 dX12_shift_25 rfl rfl ?_
    refine v_vI X 29 cv_X12_adds ml_X12_350 (n1 := 1) rfl [.int r4] rfl rfl rfl dX12_shift_26 rfl (fun r M1 h => c_X12_adds _ _ _ _ _ _ h) (fun r6 M5 => ?_)
    exact v_iret X Y (Nat.le_refl _) (Nat.le_refl _) dX12_shift_29
  · refine v_iload_n X 21 3 dX12_shift_20 rfl rfl ?_
    refine v_goto X 29 dX12_shift_21 rfl ?_
    exact v_iret X Y (Nat.le_refl _) (Nat.le_refl _) dX12_shift_29
theorem c_X12_shift (l : Launch) (x0 : Nat) (x1 : Int32) (x2 : Int32) (M : MM) (r : Int32) (M1 : MM) (h : f_X12_shift x0 x1 x2 M = some (r, M1)) : KV l yX12_shift cX12_shift 4 (some .int) (RM 6 0 0) false 12 x0 [.int x1, .int x2] M (some (.int r)) M1 := by
  obtain ⟨hO, h2⟩ := iteO_some h
  exact ⟨hO, ct_of (tr := trI) (by decide) (Nat.le_of_ble_eq_true rfl) [(0, .ref x0), (1, .int x1), (2, .int x2)] rfl h2 (fun G X Y hn hl => L_X12_shift_0 X Y x0 x1 x2 M)⟩

def f_X12_readsAct_87 (x0 : Nat) (x1 : Int32) (M : MM) : Option (Int32 × MM) :=
    b1 (gR 12 36 x0 M) fun v1 =>
    b1 (ldI v1 x1 M) fun v2 =>
    if v2 < 0 then
      rz (0 : Int32) M
    else
      rz (1 : Int32) M

def f_X12_readsAct_204 (x3 : Int32) (s0 : Int32) (s1 : Int32) (s2 : Nat) (M : MM) : Option (Int32 × MM) :=
    b1 (stI s2 s1 s0 M) fun M1 =>
    if x3 < 0 then
      rz (0 : Int32) M1
    else
      rz (1 : Int32) M1

def f_X12_readsAct_67 (x0 : Nat) (x1 : Int32) (s0 : Int32) (s1 : Int32) (s2 : Nat) (M : MM) : Option (Int32 × MM) :=
    b1 (stI s2 s1 s0 M) fun M1 =>
    b1 (gR 12 36 x0 M1) fun v2 =>
    b1 (ldI v2 x1 M1) fun v3 =>
    if v3 < 0 then
      f_X12_readsAct_87 x0 x1 M1
    else
      b1 (gR 12 35 x0 M1) fun v4 =>
      b1 (ldI v4 x1 M1) fun v5 =>
      if v5 = (1 : Int32) then
        f_X12_readsAct_87 x0 x1 M1
      else
        b1 (gR 12 35 x0 M1) fun v6 =>
        b1 (ldI v6 x1 M1) fun v7 =>
        if v7 = 0 then
          b1 (gR 12 37 x0 M1) fun v13 =>
          b2 (f_X12_number x0 (1 : Int32) M1) fun r15 M14 =>
          b1 (stI v13 x1 r15 M14) fun M16 =>
          b1 (gR 12 37 x0 M16) fun v17 =>
          b1 (ldI v17 x1 M16) fun v18 =>
          if v18 < 0 then
            rz (0 : Int32) M16
          else
            b2 (f_X12_takes x0 (64 : Int32) M16) fun r20 M19 =>
            if r20 = 0 then
              rz (0 : Int32) M19
            else
              b1 (gR 12 38 x0 M19) fun v21 =>
              b2 (f_X12_number x0 (2 : Int32) M19) fun r23 M22 =>
              b1 (stI v21 x1 r23 M22) fun M24 =>
              b1 (gR 12 38 x0 M24) fun v25 =>
              b1 (ldI v25 x1 M24) fun v26 =>
              if v26 < 0 then
                rz (0 : Int32) M24
              else
                rz (1 : Int32) M24
        else
          b2 (f_X12_takesOf x0 (sB + 5) M1) fun r9 M8 =>
          if 0 ≤ r9 then
            b2 (f_X12_number x0 (2 : Int32) M8) fun r11 M10 =>
            b1 (gR 12 37 x0 M10) fun v12 =>
            if r9 = (1 : Int32) then
              f_X12_readsAct_204 r11 (-r11) x1 v12 M10
            else
              f_X12_readsAct_204 r11 r11 x1 v12 M10
          else
            rz (0 : Int32) M8

def f_X12_readsAct_0 (x0 : Nat) (M : MM) : Option (Int32 × MM) :=
    b1 (gI 12 39 x0 M) fun v1 =>
    b1 (gR 12 35 x0 M) fun v2 =>
    b2 (f_X12_takesOf x0 (sB + 7) M) fun r4 M3 =>
    b1 (stI v2 v1 r4 M3) fun M5 =>
    b1 (gI 12 39 x0 M5) fun v6 =>
    b1 (pI 12 39 x0 (v6 + (1 : Int32)) M5) fun M7 =>
    b1 (gR 12 35 x0 M7) fun v8 =>
    b1 (ldI v8 v1 M7) fun v9 =>
    if 0 ≤ v9 then
      b1 (gR 12 36 x0 M7) fun v10 =>
      b1 (gR 12 35 x0 M7) fun v11 =>
      b1 (ldI v11 v1 M7) fun v12 =>
      if v12 = 0 then
        b2 (f_X12_letter x0 (6 : Int32) M7) fun r16 M15 =>
        f_X12_readsAct_67 x0 v1 r16 v1 v10 M15
      else
        b2 (f_X12_number x0 (2 : Int32) M7) fun r14 M13 =>
        f_X12_readsAct_67 x0 v1 r14 v1 v10 M13
    else
      rz (0 : Int32) M7

def f_X12_readsAct (x0 : Nat) (M : MM) : Option (Int32 × MM) := if isO 12 x0 M = true then f_X12_readsAct_0 x0 M else none
set_option maxRecDepth 4000 in
theorem L_X12_readsAct_87 {G : Gx} (X : Cb G cX12_readsAct 4 RX12 (RM 15 0 0) false) (Y : Cr G (some .boolean) 0 0) (x0 : Nat) (x1 : Int32) (M : MM) : V G trI 4 0 0 87 [(0, .ref x0), (1, .int x1)] [] M (f_X12_readsAct_87 x0 x1 M) := by
  unfold f_X12_readsAct_87
  refine v_aload_n X 88 0 dX12_readsAct_87 rfl rfl ?_
  refine v_getR X 91 fl_X12_79.r dX12_readsAct_88 rfl (fun v1 => ?_)
  refine v_iload_n X 92 1 dX12_readsAct_91 rfl rfl ?_
  refine v_iald X 93 dX12_readsAct_92 rfl (fun v2 => ?_)
  refine v_iflt X 96 100 dX12_readsAct_93 rfl rfl ?_ ?_
  · refine v_iconst X 101 dX12_readsAct_100 ik_0 rfl ?_
    exact v_zret X Y (Nat.le_refl _) (Nat.le_refl _) dX12_readsAct_101
  · refine v_iconst X 97 dX12_readsAct_96 ik_1 rfl ?_
    refine v_goto X 101 dX12_readsAct_97 rfl ?_
    exact v_zret X Y (Nat.le_refl _) (Nat.le_refl _) dX12_readsAct_101
set_option maxRecDepth 4000 in
theorem L_X12_readsAct_204 {G : Gx} (X : Cb G cX12_readsAct 4 RX12 (RM 15 0 0) false) (Y : Cr G (some .boolean) 0 0) (x3 : Int32) (s0 : Int32) (s1 : Int32) (s2 : Nat) (M : MM) : V G trI 4 0 0 204 [(3, .int x3)] [.int s0, .int s1, .ref s2] M (f_X12_readsAct_204 x3 s0 s1 s2 M) := by
  unfold f_X12_readsAct_204
  refine v_iast X 205 dX12_readsAct_204 rfl (fun M1 => ?_)
  refine v_iload_n X 206 0 dX12_readsAct_205 rfl rfl ?_
  refine v_iflt X 209 213 dX12_readsAct_206 rfl rfl ?_ ?_
  · refine v_iconst X 214 dX12_readsAct_213 ik_0 rfl ?_
    exact v_zret X Y (Nat.le_refl _) (Nat.le_refl _) dX12_readsAct_214
  · refine v_iconst X 210 dX12_readsAct_209 ik_1 rfl ?_
    refine v_goto X 214 dX12_readsAct_210 rfl ?_
    exact v_zret X Y (Nat.le_refl _) (Nat.le_refl _) dX12_readsAct_214
set_option maxRecDepth 4000 in
theorem L_X12_readsAct_67 {G : Gx} (X : Cb G cX12_readsAct 4 RX12 (RM 15 0 0) false) (Y : Cr G (some .boolean) 0 0) (x0 : Nat) (x1 : Int32) (s0 : Int32) (s1 : Int32) (s2 : Nat) (M : MM) : V G trI 4 0 0 67 [(0, .ref x0), (1, .int x1)] [.int s0, .int s1, .ref s2] M (f_X12_readsAct_67 x0 x1 s0 s1 s2 M) := by
  unfold f_X12_readsAct_67
  refine v_iast X 68 dX12_readsAct_67 rfl (fun M1 => ?_)
  refine v_aload_n X 69 0 dX12_readsAct_68 rfl rfl ?_
  refine v_getR X 72 fl_X12_79.r dX12_readsAct_69 rfl (fun v2 => ?_)
  refine v_iload_n X 73 1 dX12_readsAct_72 rfl rfl ?_
  refine v_iald X 74 dX12_readsAct_73 rfl (fun v3 => ?_)
  refine v_iflt X 77 87 dX12_readsAct_74 rfl rfl ?_ ?_
  · exact L_X12_readsAct_87 X Y _ _ _
  · refine v_aload_n X 78 0 dX12_readsAct_77 rfl rfl ?_
    refine v_getR X 81 fl_X12_76.r dX12_readsAct_78 rfl (fun v4 => ?_)
    refine v_iload_n X 82 1 dX12_readsAct_81 rfl rfl ?_
    refine v_iald X 83 dX12_readsAct_82 rfl (fun v5 => ?_)
    refine v_iconst X 84 dX12_readsAct_83 ik_1 rfl ?_
    refine v_icne X 87 102 dX12_readsAct_84 rfl rfl ?_ ?_
    · refine v_aload_n X 103 0 dX12_readsAct_102 rfl rfl ?_
      refine v_getR X 106 fl_X12_76.r dX12_readsAct_103 rfl (fun v6 => ?_)
      refine v_iload_n X 107 1 dX12_readsAct_106 rfl rfl ?_
      refine v_iald X 108 dX12_readsAct_107 rfl (fun v7 => ?_)
      refine v_ifne X 111 168 dX12_readsAct_108 rfl rfl ?_ ?_
      · refine v_aload_n X 169 0 dX12_readsAct_168 rfl rfl ?_
        refine v_ldcSw X 172 (tx := "+-") (no := 5) dX12_readsAct_169 (by decide) rfl ?_
        refine v_vI X 175 cv_X12_takesOf ml_X12_218 (n1 := 14) rfl [.ref (sB + 5)] rfl rfl rfl dX12_readsAct_172 rfl (fun r M1 h => c_X12_takesOf _ _ _ _ _ _ h) (fun r9 M8 => ?_)
        refine v_istore_n (lv' := [(0, .ref x0), (1, .int x1), (2, .int r9)]) X 176 dX12_readsAct_175 (by decide) rfl rfl ?_
        refine v_iload_n X 177 2 dX12_readsAct_176 rfl rfl ?_
        refine v_ifge X 180 182 dX12_readsAct_177 rfl rfl ?_ ?_
        · refine v_aload_n X 183 0 dX12_readsAct_182 rfl rfl ?_
          refine v_iconst X 184 dX12_readsAct_183 ik_2 rfl ?_
          refine v_vI X 187 cv_X12_number ml_X12_212 (n1 := 3) rfl [.int (2 : Int32)] rfl rfl rfl dX12_readsAct_184 rfl (fun r M1 h => c_X12_number _ _ _ _ _ _ h) (fun r11 M10 => ?_)
          refine v_istore_n (lv' := [(0, .ref x0), (1, .int x1), (2, .int r9), (3, .int r11)]) X 188 dX12_readsAct_187 (by decide) rfl rfl ?_
          refine v_aload_n X 189 0 dX12_readsAct_188 rfl rfl ?_
          refine v_getR X 192 fl_X12_82.r dX12_readsAct_189 rfl (fun v12 => ?_)
          refine v_iload_n X 193 1 dX12_readsAct_192 rfl rfl ?_
          refine v_iload_n X 194 2 dX12_readsAct_193 rfl rfl ?_
          refine v_iconst X 195 dX12_readsAct_194 ik_1 rfl ?_
          refine v_icne X 198 203 dX12_readsAct_195 rfl rfl ?_ ?_
          · refine v_iload_n X 204 3 dX12_readsAct_203 rfl rfl ?_
            exact v_sb [3] (L_X12_readsAct_204 X Y _ _ _ _ _) rfl
          · refine v_iload_n X 199 3 dX12_readsAct_198 rfl rfl ?_
            refine v_ineg X 200 dX12_readsAct_199 rfl ?_
            refine v_goto X 204 dX12_readsAct_200 rfl ?_
            exact v_sb [3] (L_X12_readsAct_204 X Y _ _ _ _ _) rfl
        · refine v_iconst X 181 dX12_readsAct_180 ik_0 rfl ?_
          exact v_zret X Y (Nat.le_refl _) (Nat.le_refl _) dX12_readsAct_181
      · refine v_aload_n X 112 0 dX12_readsAct_111 rfl rfl ?_
        refine v_getR X 115 fl_X12_82.r dX12_readsAct_112 rfl (fun v13 => ?_)
        refine v_iload_n X 116 1 dX12_readsAct_115 rfl rfl ?_
        refine v_aload_n X 117 0 dX12_readsAct_116 rfl rfl ?_
        refine v_iconst X 118 dX12_readsAct_117 ik_1 rfl ?_
        refine v_vI X 121 cv_X12_number ml_X12_212 (n1 := 3) rfl [.int (1 : Int32)] rfl rfl rfl dX12_readsAct_118 rfl (fun r M1 h => c_X12_number _ _ _ _ _ _ h) (fun r15 M14 => ?_)
        refine v_iast X 122 dX12_readsAct_121 rfl (fun M16 => ?_)
        refine v_aload_n X 123 0 dX12_readsAct_122 rfl rfl ?_
        refine v_getR X 126 fl_X12_82.r dX12_readsAct_123 rfl (fun v17 => ?_)
        refine v_iload_n X 127 1 dX12_readsAct_126 rfl rfl ?_
        refine v_iald X 128 dX12_readsAct_127 rfl (fun v18 => ?_)
        refine v_iflt X 131 140 dX12_readsAct_128 rfl rfl ?_ ?_
        · refine v_iconst X 141 dX12_readsAct_140 ik_0 rfl ?_
          exact v_zret X Y (Nat.le_refl _) (Nat.le_refl _) dX12_readsAct_141
        · refine v_aload_n X 132 0 dX12_readsAct_131 rfl rfl ?_
          refine v_bipush X 134 dX12_readsAct_132 bk_64 rfl ?_
          refine v_vI X 137 cv_X12_takes ml_X12_202 (n1 := 2) rfl [.int (64 : Int32)] rfl rfl rfl dX12_readsAct_134 rfl (fun r M1 h => c_X12_takes _ _ _ _ _ _ h) (fun r20 M19 => ?_)
          refine v_ifne X 140 142 dX12_readsAct_137 rfl rfl ?_ ?_
          · refine v_aload_n X 143 0 dX12_readsAct_142 rfl rfl ?_
            refine v_getR X 146 fl_X12_85.r dX12_readsAct_143 rfl (fun v21 => ?_)
            refine v_iload_n X 147 1 dX12_readsAct_146 rfl rfl ?_
            refine v_aload_n X 148 0 dX12_readsAct_147 rfl rfl ?_
            refine v_iconst X 149 dX12_readsAct_148 ik_2 rfl ?_
            refine v_vI X 152 cv_X12_number ml_X12_212 (n1 := 3) rfl [.int (2 : Int32)] rfl rfl rfl dX12_readsAct_149 rfl (fun r M1 h => c_X12_number _ _ _ _ _ _ h) (fun r23 M22 => ?_)
            refine v_iast X 153 dX12_readsAct_152 rfl (fun M24 => ?_)
            refine v_aload_n X 154 0 dX12_readsAct_153 rfl rfl ?_
            refine v_getR X 157 fl_X12_85.r dX12_readsAct_154 rfl (fun v25 => ?_)
            refine v_iload_n X 158 1 dX12_readsAct_157 rfl rfl ?_
            refine v_iald X 159 dX12_readsAct_158 rfl (fun v26 => ?_)
            refine v_iflt X 162 166 dX12_readsAct_159 rfl rfl ?_ ?_
            · refine v_iconst X 167 dX12_readsAct_166 ik_0 rfl ?_
              exact v_zret X Y (Nat.le_refl _) (Nat.le_refl _) dX12_readsAct_167
            · refine v_iconst X 163 dX12_readsAct_162 ik_1 rfl ?_
              refine v_goto X 167 dX12_readsAct_163 rfl ?_
              exact v_zret X Y (Nat.le_refl _) (Nat.le_refl _) dX12_readsAct_167
          · refine v_iconst X 141 dX12_readsAct_140 ik_0 rfl ?_
            exact v_zret X Y (Nat.le_refl _) (Nat.le_refl _) dX12_readsAct_141
    · exact L_X12_readsAct_87 X Y _ _ _
set_option maxRecDepth 4000 in
theorem L_X12_readsAct_0 {G : Gx} (X : Cb G cX12_readsAct 4 RX12 (RM 15 0 0) false) (Y : Cr G (some .boolean) 0 0) (x0 : Nat) (M : MM) : V G trI 4 0 0 0 [(0, .ref x0)] [] M (f_X12_readsAct_0 x0 M) := by
  unfold f_X12_readsAct_0
  refine v_aload_n X 1 0 dX12_readsAct_0 rfl rfl ?_
  refine v_getI X 4 fl_X12_403.r dX12_readsAct_1 rfl (fun v1 => ?_)
  refine v_istore_n (lv' := [(0, .ref x0), (1, .int v1)]) X 5 dX12_readsAct_4 (by decide) rfl rfl ?_
  refine v_aload_n X 6 0 dX12_readsAct_5 rfl rfl ?_
  refine v_getR X 9 fl_X12_76.r dX12_readsAct_6 rfl (fun v2 => ?_)
  refine v_iload_n X 10 1 dX12_readsAct_9 rfl rfl ?_
  refine v_aload_n X 11 0 dX12_readsAct_10 rfl rfl ?_
  refine v_ldcSw X 14 (tx := "gxs") (no := 7) dX12_readsAct_11 (by decide) rfl ?_
  refine v_vI X 17 cv_X12_takesOf ml_X12_218 (n1 := 14) rfl [.ref (sB + 7)] rfl rfl rfl dX12_readsAct_14 rfl (fun r M1 h => c_X12_takesOf _ _ _ _ _ _ h) (fun r4 M3 => ?_)
  refine v_iast X 18 dX12_readsAct_17 rfl (fun M5 => ?_)
  refine v_aload_n X 19 0 dX12_readsAct_18 rfl rfl ?_
  refine v_dup X 20 dX12_readsAct_19 rfl rfl ?_
  refine v_getI X 23 fl_X12_403.r dX12_readsAct_20 rfl (fun v6 => ?_)
  refine v_iconst X 24 dX12_readsAct_23 ik_1 rfl ?_
  refine v_iadd X 25 dX12_readsAct_24 rfl ?_
  refine v_putI X 28 fl_X12_403 nof dX12_readsAct_25 rfl (fun M7 => ?_)
  refine v_aload_n X 29 0 dX12_readsAct_28 rfl rfl ?_
  refine v_getR X 32 fl_X12_76.r dX12_readsAct_29 rfl (fun v8 => ?_)
  refine v_iload_n X 33 1 dX12_readsAct_32 rfl rfl ?_
  refine v_iald X 34 dX12_readsAct_33 rfl (fun v9 => ?_)
  refine v_ifge X 37 39 dX12_readsAct_34 rfl rfl ?_ ?_
  · refine v_aload_n X 40 0 dX12_readsAct_39 rfl rfl ?_
    refine v_getR X 43 fl_X12_79.r dX12_readsAct_40 rfl (fun v10 => ?_)
    refine v_iload_n X 44 1 dX12_readsAct_43 rfl rfl ?_
    refine v_aload_n X 45 0 dX12_readsAct_44 rfl rfl ?_
    refine v_getR X 48 fl_X12_76.r dX12_readsAct_45 rfl (fun v11 => ?_)
    refine v_iload_n X 49 1 dX12_readsAct_48 rfl rfl ?_
    refine v_iald X 50 dX12_readsAct_49 rfl (fun v12 => ?_)
    refine v_ifne X 53 62 dX12_readsAct_50 rfl rfl ?_ ?_
    · refine v_aload_n X 63 0 dX12_readsAct_62 rfl rfl ?_
      refine v_iconst X 64 dX12_readsAct_63 ik_2 rfl ?_
      refine v_vI X 67 cv_X12_number ml_X12_212 (n1 := 3) rfl [.int (2 : Int32)] rfl rfl rfl dX12_readsAct_64 rfl (fun r M1 h => c_X12_number _ _ _ _ _ _ h) (fun r14 M13 => ?_)
      exact L_X12_readsAct_67 X Y _ _ _ _ _ _
    · refine v_aload_n X 54 0 dX12_readsAct_53 rfl rfl ?_
      refine v_bipush X 56 dX12_readsAct_54 bk_6 rfl ?_
      refine v_vI X 59 cv_X12_letter ml_X12_333 (n1 := 2) rfl [.int (6 : Int32)] rfl rfl rfl dX12_readsAct_56 rfl (fun r M1 h => c_X12_letter _ _ _ _ _ _ h) (fun r16 M15 => ?_)
      refine v_goto X 67 dX12_readsAct_59 rfl ?_
      exact L_X12_readsAct_67 X Y _ _ _ _ _ _
  · refine v_iconst X 38 dX12_readsAct_37 ik_0 rfl ?_
    exact v_zret X Y (Nat.le_refl _) (Nat.le_refl _) dX12_readsAct_38
theorem c_X12_readsAct (l : Launch) (x0 : Nat) (M : MM) (r : Int32) (M1 : MM) (h : f_X12_readsAct x0 M = some (r, M1)) : KV l yX12_readsAct cX12_readsAct 4 (some .boolean) (RM 15 0 0) false 12 x0 [] M (some (.int r)) M1 := by
  obtain ⟨hO, h2⟩ := iteO_some h
  exact ⟨hO, ct_of (tr := trI) (by decide) (Nat.le_of_ble_eq_true rfl) [(0, .ref x0)] rfl h2 (fun G X Y hn hl => L_X12_readsAct_0 X Y x0 M)⟩

def f_X12_does_73 (s0 : Int32) (M : MM) : Option (Int32 × MM) :=
    if s0 < 0 then
      rz (0 : Int32) M
    else
      rz (1 : Int32) M

def f_X12_does_0 (x0 : Nat) (x1 : Int32) (M : MM) : Option (Int32 × MM) :=
    b1 (gR 12 35 x0 M) fun v1 =>
    b1 (ldI v1 x1 M) fun v2 =>
    if v2 = 0 then
      b1 (gR 12 36 x0 M) fun v15 =>
      b1 (ldI v15 x1 M) fun v16 =>
      b1 (gR 12 37 x0 M) fun v17 =>
      b1 (ldI v17 x1 M) fun v18 =>
      b1 (gR 12 38 x0 M) fun v19 =>
      b1 (ldI v19 x1 M) fun v20 =>
      b2 (f_X12_goes x0 v16 v18 v20 M) fun r22 M21 =>
      f_X12_does_73 r22 M21
    else
      b1 (gR 12 35 x0 M) fun v3 =>
      b1 (ldI v3 x1 M) fun v4 =>
      if v4 = (1 : Int32) then
        b1 (gR 12 36 x0 M) fun v11 =>
        b1 (ldI v11 x1 M) fun v12 =>
        b2 (f_X12_strikes x0 v12 M) fun r14 M13 =>
        f_X12_does_73 r14 M13
      else
        b1 (gR 12 36 x0 M) fun v5 =>
        b1 (ldI v5 x1 M) fun v6 =>
        b1 (gR 12 37 x0 M) fun v7 =>
        b1 (ldI v7 x1 M) fun v8 =>
        b2 (f_X12_shifts x0 v6 v8 M) fun r10 M9 =>
        f_X12_does_73 r10 M9

def f_X12_does (x0 : Nat) (x1 : Int32) (M : MM) : Option (Int32 × MM) := if isO 12 x0 M = true then f_X12_does_0 x0 x1 M else none
set_option maxRecDepth 4000 in
theorem L_X12_does_73 {G : Gx} (X : Cb G cX12_does 3 RX12 (RM 9 0 0) false) (Y : Cr G (some .boolean) 0 0) (s0 : Int32) (M : MM) : V G trI 3 0 0 73 [] [.int s0] M (f_X12_does_73 s0 M) := by
  unfold f_X12_does_73
  refine v_istore_n (lv' := [(2, .int s0)]) X 74 dX12_does_73 (by decide) rfl rfl ?_
  refine v_iload_n X 75 0 dX12_does_74 rfl rfl ?_
  refine v_iflt X 78 82 dX12_does_75 rfl rfl ?_ ?_
  · refine v_iconst X 83 dX12_does_82 ik_0 rfl ?_
    exact v_zret X Y (Nat.le_refl _) (Nat.le_refl _) dX12_does_83
  · refine v_iconst X 79 dX12_does_78 ik_1 rfl ?_
    refine v_goto X 83 dX12_does_79 rfl ?_
    exact v_zret X Y (Nat.le_refl _) (Nat.le_refl _) dX12_does_83
set_option maxRecDepth 4000 in
theorem L_X12_does_0 {G : Gx} (X : Cb G cX12_does 3 RX12 (RM 9 0 0) false) (Y : Cr G (some .boolean) 0 0) (x0 : Nat) (x1 : Int32) (M : MM) : V G trI 3 0 0 0 [(0, .ref x0), (1, .int x1)] [] M (f_X12_does_0 x0 x1 M) := by
  unfold f_X12_does_0
  refine v_aload_n X 1 0 dX12_does_0 rfl rfl ?_
  refine v_getR X 4 fl_X12_76.r dX12_does_1 rfl (fun v1 => ?_)
  refine v_iload_n X 5 1 dX12_does_4 rfl rfl ?_
  refine v_iald X 6 dX12_does_5 rfl (fun v2 => ?_)
  refine v_ifne X 9 34 dX12_does_6 rfl rfl ?_ ?_
  · refine v_aload_n X 35 0 dX12_does_34 rfl rfl ?_
    refine v_getR X 38 fl_X12_76.r dX12_does_35 rfl (fun v3 => ?_)
    refine v_iload_n X 39 1 dX12_does_38 rfl rfl ?_
    refine v_iald X 40 dX12_does_39 rfl (fun v4 => ?_)
    refine v_iconst X 41 dX12_does_40 ik_1 rfl ?_
    refine v_icne X 44 57 dX12_does_41 rfl rfl ?_ ?_
    · refine v_aload_n X 58 0 dX12_does_57 rfl rfl ?_
      refine v_aload_n X 59 0 dX12_does_58 rfl rfl ?_
      refine v_getR X 62 fl_X12_79.r dX12_does_59 rfl (fun v5 => ?_)
      refine v_iload_n X 63 1 dX12_does_62 rfl rfl ?_
      refine v_iald X 64 dX12_does_63 rfl (fun v6 => ?_)
      refine v_aload_n X 65 0 dX12_does_64 rfl rfl ?_
      refine v_getR X 68 fl_X12_82.r dX12_does_65 rfl (fun v7 => ?_)
      refine v_iload_n X 69 1 dX12_does_68 rfl rfl ?_
      refine v_iald X 70 dX12_does_69 rfl (fun v8 => ?_)
      refine v_vI X 73 cv_X12_shifts ml_X12_400 (n1 := 5) rfl [.int v6, .int v8] rfl rfl rfl dX12_does_70 rfl (fun r M1 h => c_X12_shifts _ _ _ _ _ _ _ h) (fun r10 M9 => ?_)
      exact v_sb [] (L_X12_does_73 X Y _ _) rfl
    · refine v_aload_n X 45 0 dX12_does_44 rfl rfl ?_
      refine v_aload_n X 46 0 dX12_does_45 rfl rfl ?_
      refine v_getR X 49 fl_X12_79.r dX12_does_46 rfl (fun v11 => ?_)
      refine v_iload_n X 50 1 dX12_does_49 rfl rfl ?_
      refine v_iald X 51 dX12_does_50 rfl (fun v12 => ?_)
      refine v_vI X 54 cv_X12_strikes ml_X12_395 (n1 := 3) rfl [.int v12] rfl rfl rfl dX12_does_51 rfl (fun r M1 h => c_X12_strikes _ _ _ _ _ _ h) (fun r14 M13 => ?_)
      refine v_goto X 73 dX12_does_54 rfl ?_
      exact v_sb [] (L_X12_does_73 X Y _ _) rfl
  · refine v_aload_n X 10 0 dX12_does_9 rfl rfl ?_
    refine v_aload_n X 11 0 dX12_does_10 rfl rfl ?_
    refine v_getR X 14 fl_X12_79.r dX12_does_11 rfl (fun v15 => ?_)
    refine v_iload_n X 15 1 dX12_does_14 rfl rfl ?_
    refine v_iald X 16 dX12_does_15 rfl (fun v16 => ?_)
    refine v_aload_n X 17 0 dX12_does_16 rfl rfl ?_
    refine v_getR X 20 fl_X12_82.r dX12_does_17 rfl (fun v17 => ?_)
    refine v_iload_n X 21 1 dX12_does_20 rfl rfl ?_
    refine v_iald X 22 dX12_does_21 rfl (fun v18 => ?_)
    refine v_aload_n X 23 0 dX12_does_22 rfl rfl ?_
    refine v_getR X 26 fl_X12_85.r dX12_does_23 rfl (fun v19 => ?_)
    refine v_iload_n X 27 1 dX12_does_26 rfl rfl ?_
    refine v_iald X 28 dX12_does_27 rfl (fun v20 => ?_)
    refine v_vI X 31 cv_X12_goes ml_X12_388 (n1 := 8) rfl [.int v16, .int v18, .int v20] rfl rfl rfl dX12_does_28 rfl (fun r M1 h => c_X12_goes _ _ _ _ _ _ _ _ h) (fun r22 M21 => ?_)
    refine v_goto X 73 dX12_does_31 rfl ?_
    exact v_sb [] (L_X12_does_73 X Y _ _) rfl
theorem c_X12_does (l : Launch) (x0 : Nat) (x1 : Int32) (M : MM) (r : Int32) (M1 : MM) (h : f_X12_does x0 x1 M = some (r, M1)) : KV l yX12_does cX12_does 3 (some .boolean) (RM 9 0 0) false 12 x0 [.int x1] M (some (.int r)) M1 := by
  obtain ⟨hO, h2⟩ := iteO_some h
  exact ⟨hO, ct_of (tr := trI) (by decide) (Nat.le_of_ble_eq_true rfl) [(0, .ref x0), (1, .int x1)] rfl h2 (fun G X Y hn hl => L_X12_does_0 X Y x0 x1 M)⟩

def f_X12_afternoon_56 (K29 : Nat → Int32 → Int32 → Int32 → MM → Option (Int32 × MM)) (x0 : Nat) (x1 : Int32) (x2 : Int32) (s0 : Int32) (M : MM) : Option (Int32 × MM) :=
    K29 x0 x1 x2 s0 M

def f_X12_afternoon_55 (K29 : Nat → Int32 → Int32 → Int32 → MM → Option (Int32 × MM)) (x0 : Nat) (x1 : Int32) (x2 : Int32) (M : MM) : Option (Int32 × MM) :=
    f_X12_afternoon_56 K29 x0 x1 x2 (0 : Int32) M

def f_X12_afternoon_129 (x0 : Nat) (x5 : Int32) (s0 : Int32) (s1 : Nat) (M : MM) : Option (Int32 × MM) :=
    b2 (f_X12_flag s0 M) fun r2 M1 =>
    b1 (f_X12_enters s1 (Int32.toInt64 r2) M1) fun M3 =>
    b1 (gR 12 15 x0 M3) fun v4 =>
    b2 (f_X12_worthAll x0 v4 M3) fun r6 M5 =>
    b1 (f_X12_enters x0 (Int32.toInt64 r6) M5) fun M7 =>
    if x5 ≤ 0 then
      some ((0 : Int32), M7)
    else
      b2 (f_X12_adds x0 x5 M7) fun r9 M8 =>
      some (r9, M8)

def f_X12_afternoon_109 (x0 : Nat) (x5 : Int32) (M : MM) : Option (Int32 × MM) :=
    b1 (pI 12 1 x0 (0 : Int32) M) fun M1 =>
    b1 (gI 12 39 x0 M1) fun v2 =>
    if v2 ≤ x5 then
      f_X12_afternoon_129 x0 x5 (0 : Int32) x0 M1
    else
      f_X12_afternoon_129 x0 x5 (1 : Int32) x0 M1

def f_X12_afternoon_85 : Nat → Nat → Int32 → MM → Option (Int32 × MM)
  | 0, _, _, _ => none
  | n + 1, x0, x5, M =>
    b1 (gI 12 39 x0 M) fun v1 =>
    if v1 ≤ x5 then
      f_X12_afternoon_109 x0 x5 M
    else
      b2 (f_X12_does x0 x5 M) fun r3 M2 =>
      if r3 = 0 then
        f_X12_afternoon_109 x0 x5 M2
      else
        bn (x5 + 1 : Int32) fun y4 =>
        f_X12_afternoon_85 n x0 y4 M2

def f_X12_afternoon_29 : Nat → Nat → Int32 → Int32 → Int32 → MM → Option (Int32 × MM)
  | 0, _, _, _, _, _ => none
  | n + 1, x0, x1, x2, x3, M =>
    if x3 = 0 then
      b2 (f_X12_faultOf x0 x1 (60 : Int32) x2 M) fun r2 M1 =>
      if 0 ≤ r2 then
        b1 (f_X12_putsBy x0 M1) fun M3 =>
        f_X12_afternoon_85 1024 x0 (0 : Int32) M3
      else
        some (r2, M1)
    else
      b2 (f_X12_readsAct x0 M) fun r5 M4 =>
      if r5 = 0 then
        f_X12_afternoon_55 (f_X12_afternoon_29 n) x0 x1 r5 M4
      else
        b2 (f_X12_takes x0 (59 : Int32) M4) fun r7 M6 =>
        if r7 = 0 then
          f_X12_afternoon_55 (f_X12_afternoon_29 n) x0 x1 r5 M6
        else
          f_X12_afternoon_56 (f_X12_afternoon_29 n) x0 x1 r5 (1 : Int32) M6

def f_X12_afternoon_28 (x0 : Nat) (x1 : Int32) (x2 : Int32) (s0 : Int32) (M : MM) : Option (Int32 × MM) :=
    f_X12_afternoon_29 1024 x0 x1 x2 s0 M

def f_X12_afternoon_0 (x0 : Nat) (M : MM) : Option (Int32 × MM) :=
    b1 (pI 12 0 x0 (0 : Int32) M) fun M1 =>
    b2 (f_X12_begins x0 (60 : Int32) M1) fun r3 M2 =>
    b1 (pI 12 39 x0 (0 : Int32) M2) fun M4 =>
    if r3 ≤ 0 then
      f_X12_afternoon_28 x0 r3 (1 : Int32) (0 : Int32) M4
    else
      f_X12_afternoon_28 x0 r3 (1 : Int32) (1 : Int32) M4

def f_X12_afternoon (x0 : Nat) (M : MM) : Option (Int32 × MM) := if isO 12 x0 M = true then f_X12_afternoon_0 x0 M else none
set_option maxRecDepth 4000 in
theorem L_X12_afternoon_56 {G : Gx} (X : Cb G cX12_afternoon 6 RX12 (RM 16 0 0) false) (Y : Cr G (some .int) 0 0) {K29 : Nat → Int32 → Int32 → Int32 → MM → Option (Int32 × MM)} (hK29 : ∀ (x0 : Nat) (x1 : Int32) (x2 : Int32) (x3 : Int32) (M : MM), V G trI 6 0 0 29 [(0, .ref x0), (1, .int x1), (2, .int x2), (3, .int x3)] [] M (K29 x0 x1 x2 x3 M)) (x0 : Nat) (x1 : Int32) (x2 : Int32) (s0 : Int32) (M : MM) : V G trI 6 0 0 56 [(0, .ref x0), (1, .int x1), (2, .int x2)] [.int s0] M (f_X12_afternoon_56 K29 x0 x1 x2 s0 M) := by
  unfold f_X12_afternoon_56
  refine v_istore_n (lv' := [(0, .ref x0), (1, .int x1), (2, .int x2), (3, .int s0)]) X 57 dX12_afternoon_56 (by decide) rfl rfl ?_
  refine v_goto X 29 dX12_afternoon_57 rfl ?_
  exact hK29 _ _ _ _ _
set_option maxRecDepth 4000 in
theorem L_X12_afternoon_55 {G : Gx} (X : Cb G cX12_afternoon 6 RX12 (RM 16 0 0) false) (Y : Cr G (some .int) 0 0) {K29 : Nat → Int32 → Int32 → Int32 → MM → Option (Int32 × MM)} (hK29 : ∀ (x0 : Nat) (x1 : Int32) (x2 : Int32) (x3 : Int32) (M : MM), V G trI 6 0 0 29 [(0, .ref x0), (1, .int x1), (2, .int x2), (3, .int x3)] [] M (K29 x0 x1 x2 x3 M)) (x0 : Nat) (x1 : Int32) (x2 : Int32) (M : MM) : V G trI 6 0 0 55 [(0, .ref x0), (1, .int x1), (2, .int x2)] [] M (f_X12_afternoon_55 K29 x0 x1 x2 M) := by
  unfold f_X12_afternoon_55
  refine v_iconst X 56 dX12_afternoon_55 ik_0 rfl ?_
  exact L_X12_afternoon_56 X Y hK29 _ _ _ _ _
set_option maxRecDepth 4000 in
theorem L_X12_afternoon_129 {G : Gx} (X : Cb G cX12_afternoon 6 RX12 (RM 16 0 0) false) (Y : Cr G (some .int) 0 0) (x0 : Nat) (x5 : Int32) (s0 : Int32) (s1 : Nat) (M : MM) : V G trI 6 0 0 129 [(0, .ref x0), (5, .int x5)] [.int s0, .ref s1] M (f_X12_afternoon_129 x0 x5 s0 s1 M) := by
  unfold f_X12_afternoon_129
  refine v_sI X 132 cs_X12_flag ml_X12_171 (n1 := 1) rfl [.int s0] rfl rfl rfl dX12_afternoon_129 rfl (fun r M1 h => c_X12_flag _ _ _ _ _ h) (fun r2 M1 => ?_)
  refine v_i2l X 133 dX12_afternoon_132 rfl ?_
  refine v_vV X 136 cv_X12_enters ml_X12_414 (n1 := 1) rfl [.long (Int32.toInt64 r2)] rfl rfl rfl dX12_afternoon_133 rfl (fun M1 h => c_X12_enters _ _ _ _ _ h) (fun M3 => ?_)
  refine v_aload_n X 137 0 dX12_afternoon_136 rfl rfl ?_
  refine v_aload_n X 138 0 dX12_afternoon_137 rfl rfl ?_
  refine v_aload_n X 139 0 dX12_afternoon_138 rfl rfl ?_
  refine v_getR X 142 fl_X12_43.r dX12_afternoon_139 rfl (fun v4 => ?_)
  refine v_vI X 145 cv_X12_worthAll ml_X12_418 (n1 := 5) rfl [.ref v4] rfl rfl rfl dX12_afternoon_142 rfl (fun r M1 h => c_X12_worthAll _ _ _ _ _ _ h) (fun r6 M5 => ?_)
  refine v_i2l X 146 dX12_afternoon_145 rfl ?_
  refine v_vV X 149 cv_X12_enters ml_X12_414 (n1 := 1) rfl [.long (Int32.toInt64 r6)] rfl rfl rfl dX12_afternoon_146 rfl (fun M1 h => c_X12_enters _ _ _ _ _ h) (fun M7 => ?_)
  refine v_iload X 151 1 dX12_afternoon_149 rfl rfl ?_
  refine v_ifle X 154 163 dX12_afternoon_151 rfl rfl ?_ ?_
  · refine v_iconst X 164 dX12_afternoon_163 ik_0 rfl ?_
    exact v_iret X Y (Nat.le_refl _) (Nat.le_refl _) dX12_afternoon_164
  · refine v_aload_n X 155 0 dX12_afternoon_154 rfl rfl ?_
    refine v_iload X 157 1 dX12_afternoon_155 rfl rfl ?_
    refine v_vI X 160 cv_X12_adds ml_X12_350 (n1 := 1) rfl [.int x5] rfl rfl rfl dX12_afternoon_157 rfl (fun r M1 h => c_X12_adds _ _ _ _ _ _ h) (fun r9 M8 => ?_)
    refine v_goto X 164 dX12_afternoon_160 rfl ?_
    exact v_iret X Y (Nat.le_refl _) (Nat.le_refl _) dX12_afternoon_164
set_option maxRecDepth 4000 in
theorem L_X12_afternoon_109 {G : Gx} (X : Cb G cX12_afternoon 6 RX12 (RM 16 0 0) false) (Y : Cr G (some .int) 0 0) (x0 : Nat) (x5 : Int32) (M : MM) : V G trI 6 0 0 109 [(0, .ref x0), (5, .int x5)] [] M (f_X12_afternoon_109 x0 x5 M) := by
  unfold f_X12_afternoon_109
  refine v_aload_n X 110 0 dX12_afternoon_109 rfl rfl ?_
  refine v_iconst X 111 dX12_afternoon_110 ik_0 rfl ?_
  refine v_putI X 114 fl_X12_140 nof dX12_afternoon_111 rfl (fun M1 => ?_)
  refine v_aload_n X 115 0 dX12_afternoon_114 rfl rfl ?_
  refine v_iload X 117 1 dX12_afternoon_115 rfl rfl ?_
  refine v_aload_n X 118 0 dX12_afternoon_117 rfl rfl ?_
  refine v_getI X 121 fl_X12_403.r dX12_afternoon_118 rfl (fun v2 => ?_)
  refine v_icge X 124 128 dX12_afternoon_121 rfl rfl ?_ ?_
  · refine v_iconst X 129 dX12_afternoon_128 ik_0 rfl ?_
    exact L_X12_afternoon_129 X Y _ _ _ _ _
  · refine v_iconst X 125 dX12_afternoon_124 ik_1 rfl ?_
    refine v_goto X 129 dX12_afternoon_125 rfl ?_
    exact L_X12_afternoon_129 X Y _ _ _ _ _
set_option maxRecDepth 4000 in
theorem L_X12_afternoon_85 {G : Gx} (X : Cb G cX12_afternoon 6 RX12 (RM 16 0 0) false) (Y : Cr G (some .int) 0 0) : ∀ (n : Nat) (x0 : Nat) (x5 : Int32) (M : MM), V G trI 6 0 0 85 [(0, .ref x0), (5, .int x5)] [] M (f_X12_afternoon_85 n x0 x5 M) := by
  intro n
  induction n with
  | zero => intro x0 x5 M; rw [f_X12_afternoon_85]; exact v_none
  | succ n ih =>
    intro x0 x5 M
    rw [f_X12_afternoon_85]
    refine v_iload X 87 1 dX12_afternoon_85 rfl rfl ?_
    refine v_aload_n X 88 0 dX12_afternoon_87 rfl rfl ?_
    refine v_getI X 91 fl_X12_403.r dX12_afternoon_88 rfl (fun v1 => ?_)
    refine v_icge X 94 109 dX12_afternoon_91 rfl rfl ?_ ?_
    · exact L_X12_afternoon_109 X Y _ _ _
    · refine v_aload_n X 95 0 dX12_afternoon_94 rfl rfl ?_
      refine v_iload X 97 1 dX12_afternoon_95 rfl rfl ?_
      refine v_vI X 100 cv_X12_does ml_X12_411 (n1 := 9) rfl [.int x5] rfl rfl rfl dX12_afternoon_97 rfl (fun r M1 h => c_X12_does _ _ _ _ _ _ h) (fun r3 M2 => ?_)
      refine v_ifeq X 103 109 dX12_afternoon_100 rfl rfl ?_ ?_
      · exact L_X12_afternoon_109 X Y _ _ _
      · refine v_iinc X 106 1 (fun z => [(0, .ref x0), (5, .int z)]) dX12_afternoon_103 rfl ik_1 (by decide) (fun _ => rfl) rfl (fun y4 => ?_)
        refine v_goto X 85 dX12_afternoon_106 rfl ?_
        exact ih _ _ _
set_option maxRecDepth 4000 in
theorem L_X12_afternoon_29 {G : Gx} (X : Cb G cX12_afternoon 6 RX12 (RM 16 0 0) false) (Y : Cr G (some .int) 0 0) : ∀ (n : Nat) (x0 : Nat) (x1 : Int32) (x2 : Int32) (x3 : Int32) (M : MM), V G trI 6 0 0 29 [(0, .ref x0), (1, .int x1), (2, .int x2), (3, .int x3)] [] M (f_X12_afternoon_29 n x0 x1 x2 x3 M) := by
  intro n
  induction n with
  | zero => intro x0 x1 x2 x3 M; rw [f_X12_afternoon_29]; exact v_none
  | succ n ih =>
    intro x0 x1 x2 x3 M
    rw [f_X12_afternoon_29]
    refine v_iload_n X 30 3 dX12_afternoon_29 rfl rfl ?_
    refine v_ifeq X 33 60 dX12_afternoon_30 rfl rfl ?_ ?_
    · refine v_aload_n X 61 0 dX12_afternoon_60 rfl rfl ?_
      refine v_iload_n X 62 1 dX12_afternoon_61 rfl rfl ?_
      refine v_bipush X 64 dX12_afternoon_62 bk_60 rfl ?_
      refine v_iload_n X 65 2 dX12_afternoon_64 rfl rfl ?_
      refine v_vI X 68 cv_X12_faultOf ml_X12_237 (n1 := 1) rfl [.int x1, .int (60 : Int32), .int x2] rfl rfl rfl dX12_afternoon_65 rfl (fun r M1 h => c_X12_faultOf _ _ _ _ _ _ _ _ h) (fun r2 M1 => ?_)
      refine v_istore (lv' := [(0, .ref x0), (1, .int x1), (2, .int x2), (3, .int x3), (4, .int r2)]) X 70 dX12_afternoon_68 (by decide) rfl rfl ?_
      refine v_iload X 72 4 dX12_afternoon_70 rfl rfl ?_
      refine v_ifge X 75 78 dX12_afternoon_72 rfl rfl ?_ ?_
      · refine v_aload_n X 79 0 dX12_afternoon_78 rfl rfl ?_
        refine v_vV X 82 cv_X12_putsBy ml_X12_343 (n1 := 1) rfl [] rfl rfl rfl dX12_afternoon_79 rfl (fun M1 h => c_X12_putsBy _ _ _ _ h) (fun M3 => ?_)
        refine v_iconst X 83 dX12_afternoon_82 ik_0 rfl ?_
        refine v_istore (lv' := [(0, .ref x0), (1, .int x1), (2, .int x2), (3, .int x3), (4, .int r2), (5, .int (0 : Int32))]) X 85 dX12_afternoon_83 (by decide) rfl rfl ?_
        exact v_sb [0, 5] (L_X12_afternoon_85 X Y 1024 _ _ _) rfl
      · refine v_iload X 77 4 dX12_afternoon_75 rfl rfl ?_
        exact v_iret X Y (Nat.le_refl _) (Nat.le_refl _) dX12_afternoon_77
    · refine v_aload_n X 34 0 dX12_afternoon_33 rfl rfl ?_
      refine v_vI X 37 cv_X12_readsAct ml_X12_408 (n1 := 15) rfl [] rfl rfl rfl dX12_afternoon_34 rfl (fun r M1 h => c_X12_readsAct _ _ _ _ _ h) (fun r5 M4 => ?_)
      refine v_istore_n (lv' := [(0, .ref x0), (1, .int x1), (2, .int r5), (3, .int x3)]) X 38 dX12_afternoon_37 (by decide) rfl rfl ?_
      refine v_iload_n X 39 2 dX12_afternoon_38 rfl rfl ?_
      refine v_ifeq X 42 55 dX12_afternoon_39 rfl rfl ?_ ?_
      · exact v_sb [0, 1, 2] (L_X12_afternoon_55 X Y ih _ _ _ _) rfl
      · refine v_aload_n X 43 0 dX12_afternoon_42 rfl rfl ?_
        refine v_bipush X 45 dX12_afternoon_43 bk_59 rfl ?_
        refine v_vI X 48 cv_X12_takes ml_X12_202 (n1 := 2) rfl [.int (59 : Int32)] rfl rfl rfl dX12_afternoon_45 rfl (fun r M1 h => c_X12_takes _ _ _ _ _ _ h) (fun r7 M6 => ?_)
        refine v_ifeq X 51 55 dX12_afternoon_48 rfl rfl ?_ ?_
        · exact v_sb [0, 1, 2] (L_X12_afternoon_55 X Y ih _ _ _ _) rfl
        · refine v_iconst X 52 dX12_afternoon_51 ik_1 rfl ?_
          refine v_goto X 56 dX12_afternoon_52 rfl ?_
          exact v_sb [0, 1, 2] (L_X12_afternoon_56 X Y ih _ _ _ _ _) rfl
set_option maxRecDepth 4000 in
theorem L_X12_afternoon_28 {G : Gx} (X : Cb G cX12_afternoon 6 RX12 (RM 16 0 0) false) (Y : Cr G (some .int) 0 0) (x0 : Nat) (x1 : Int32) (x2 : Int32) (s0 : Int32) (M : MM) : V G trI 6 0 0 28 [(0, .ref x0), (1, .int x1), (2, .int x2)] [.int s0] M (f_X12_afternoon_28 x0 x1 x2 s0 M) := by
  unfold f_X12_afternoon_28
  refine v_istore_n (lv' := [(0, .ref x0), (1, .int x1), (2, .int x2), (3, .int s0)]) X 29 dX12_afternoon_28 (by decide) rfl rfl ?_
  exact L_X12_afternoon_29 X Y 1024 _ _ _ _ _
set_option maxRecDepth 4000 in
theorem L_X12_afternoon_0 {G : Gx} (X : Cb G cX12_afternoon 6 RX12 (RM 16 0 0) false) (Y : Cr G (some .int) 0 0) (x0 : Nat) (M : MM) : V G trI 6 0 0 0 [(0, .ref x0)] [] M (f_X12_afternoon_0 x0 M) := by
  unfold f_X12_afternoon_0
  refine v_aload_n X 1 0 dX12_afternoon_0 rfl rfl ?_
  refine v_iconst X 2 dX12_afternoon_1 ik_0 rfl ?_
  refine v_putI X 5 fl_X12_133 nof dX12_afternoon_2 rfl (fun M1 => ?_)
  refine v_aload_n X 6 0 dX12_afternoon_5 rfl rfl ?_
  refine v_bipush X 8 dX12_afternoon_6 bk_60 rfl ?_
  refine v_vI X 11 cv_X12_begins ml_X12_231 (n1 := 2) rfl [.int (60 : Int32)] rfl rfl rfl dX12_afternoon_8 rfl (fun r M1 h => c_X12_begins _ _ _ _ _ _ h) (fun r3 M2 => ?_)
  refine v_istore_n (lv' := [(0, .ref x0), (1, .int r3)]) X 12 dX12_afternoon_11 (by decide) rfl rfl ?_
  refine v_aload_n X 13 0 dX12_afternoon_12 rfl rfl ?_
  refine v_iconst X 14 dX12_afternoon_13 ik_0 rfl ?_
  refine v_putI X 17 fl_X12_403 nof dX12_afternoon_14 rfl (fun M4 => ?_)
  refine v_iconst X 18 dX12_afternoon_17 ik_1 rfl ?_
  refine v_istore_n (lv' := [(0, .ref x0), (1, .int r3), (2, .int (1 : Int32))]) X 19 dX12_afternoon_18 (by decide) rfl rfl ?_
  refine v_iload_n X 20 1 dX12_afternoon_19 rfl rfl ?_
  refine v_ifle X 23 27 dX12_afternoon_20 rfl rfl ?_ ?_
  · refine v_iconst X 28 dX12_afternoon_27 ik_0 rfl ?_
    exact L_X12_afternoon_28 X Y _ _ _ _ _
  · refine v_iconst X 24 dX12_afternoon_23 ik_1 rfl ?_
    refine v_goto X 28 dX12_afternoon_24 rfl ?_
    exact L_X12_afternoon_28 X Y _ _ _ _ _
theorem c_X12_afternoon (l : Launch) (x0 : Nat) (M : MM) (r : Int32) (M1 : MM) (h : f_X12_afternoon x0 M = some (r, M1)) : KV l yX12_afternoon cX12_afternoon 6 (some .int) (RM 16 0 0) false 12 x0 [] M (some (.int r)) M1 := by
  obtain ⟨hO, h2⟩ := iteO_some h
  exact ⟨hO, ct_of (tr := trI) (by decide) (Nat.le_of_ble_eq_true rfl) [(0, .ref x0)] rfl h2 (fun G X Y hn hl => L_X12_afternoon_0 X Y x0 M)⟩

def f_X12_alone_106 (K20 : Nat → Int32 → Int32 → Int32 → Int32 → Int32 → Int32 → MM → Option (Int32 × MM)) (x0 : Nat) (x1 : Int32) (x2 : Int32) (x3 : Int32) (x4 : Int32) (x5 : Int32) (x6 : Int32) (M : MM) : Option (Int32 × MM) :=
    bn (x6 + 1 : Int32) fun y1 =>
    K20 x0 x1 x2 x3 x4 x5 y1 M

def f_X12_alone_87 (K20 : Nat → Int32 → Int32 → Int32 → Int32 → Int32 → Int32 → MM → Option (Int32 × MM)) (x0 : Nat) (x1 : Int32) (x3 : Int32) (x4 : Int32) (x5 : Int32) (x6 : Int32) (s0 : Int32) (M : MM) : Option (Int32 × MM) :=
    if x5 ≤ x3 then
      f_X12_alone_106 K20 x0 x1 s0 x3 x4 x5 x6 M
    else
      bn ((x6 - x5) + (1 : Int32) : Int32) fun y1 =>
      f_X12_alone_106 K20 x0 x1 s0 x5 y1 x5 x6 M

def f_X12_alone_86 (K20 : Nat → Int32 → Int32 → Int32 → Int32 → Int32 → Int32 → MM → Option (Int32 × MM)) (x0 : Nat) (x1 : Int32) (x2 : Int32) (x3 : Int32) (x4 : Int32) (x5 : Int32) (x6 : Int32) (M : MM) : Option (Int32 × MM) :=
    f_X12_alone_87 K20 x0 x1 x3 x4 x5 x6 x2 M

def f_X12_alone_62 (K20 : Nat → Int32 → Int32 → Int32 → Int32 → Int32 → Int32 → MM → Option (Int32 × MM)) (x0 : Nat) (x1 : Int32) (x2 : Int32) (x3 : Int32) (x4 : Int32) (x6 : Int32) (x7 : Int32) (s0 : Int32) (M : MM) : Option (Int32 × MM) :=
    b2 (f_X12_flag x7 M) fun r2 M1 =>
    bn (x1 + r2 : Int32) fun y3 =>
    if x7 = 0 then
      f_X12_alone_86 K20 x0 y3 x2 x3 x4 s0 x6 M1
    else
      if 0 ≤ x2 then
        f_X12_alone_86 K20 x0 y3 x2 x3 x4 s0 x6 M1
      else
        f_X12_alone_87 K20 x0 y3 x3 x4 s0 x6 x6 M1

def f_X12_alone_47 (K20 : Nat → Int32 → Int32 → Int32 → Int32 → Int32 → Int32 → MM → Option (Int32 × MM)) (x0 : Nat) (x1 : Int32) (x2 : Int32) (x3 : Int32) (x4 : Int32) (x5 : Int32) (x6 : Int32) (s0 : Int32) (M : MM) : Option (Int32 × MM) :=
    if s0 = 0 then
      f_X12_alone_62 K20 x0 x1 x2 x3 x4 x6 s0 (0 : Int32) M
    else
      f_X12_alone_62 K20 x0 x1 x2 x3 x4 x6 s0 (x5 + (1 : Int32)) M

def f_X12_alone_20 : Nat → Nat → Int32 → Int32 → Int32 → Int32 → Int32 → Int32 → MM → Option (Int32 × MM)
  | 0, _, _, _, _, _, _, _, _ => none
  | n + 1, x0, x1, x2, x3, x4, x5, x6, M =>
    b1 (gI 12 6 x0 M) fun v1 =>
    if v1 ≤ x6 then
      b1 (pI 12 1 x0 (0 : Int32) M) fun M2 =>
      b1 (f_X12_enters x0 (Int32.toInt64 x2) M2) fun M3 =>
      b1 (f_X12_enters x0 (Int32.toInt64 x3) M3) fun M4 =>
      b1 (f_X12_enters x0 (Int32.toInt64 x4) M4) fun M5 =>
      some (x1, M5)
    else
      b1 (gR 12 15 x0 M) fun v6 =>
      b2 (f_X12_isWatched x0 v6 x6 M) fun r8 M7 =>
      if r8 = 0 then
        f_X12_alone_47 (f_X12_alone_20 n) x0 x1 x2 x3 x4 x5 x6 (1 : Int32) M7
      else
        f_X12_alone_47 (f_X12_alone_20 n) x0 x1 x2 x3 x4 x5 x6 (0 : Int32) M7

def f_X12_alone_0 (x0 : Nat) (M : MM) : Option (Int32 × MM) :=
    b1 (pI 12 0 x0 (0 : Int32) M) fun M1 =>
    f_X12_alone_20 1024 x0 (0 : Int32) (-1 : Int32) (0 : Int32) (-1 : Int32) (0 : Int32) (0 : Int32) M1

def f_X12_alone (x0 : Nat) (M : MM) : Option (Int32 × MM) := if isO 12 x0 M = true then f_X12_alone_0 x0 M else none
set_option maxRecDepth 4000 in
theorem L_X12_alone_106 {G : Gx} (X : Cb G cX12_alone 8 RX12 (RM 6 0 0) false) (Y : Cr G (some .int) 0 0) {K20 : Nat → Int32 → Int32 → Int32 → Int32 → Int32 → Int32 → MM → Option (Int32 × MM)} (hK20 : ∀ (x0 : Nat) (x1 : Int32) (x2 : Int32) (x3 : Int32) (x4 : Int32) (x5 : Int32) (x6 : Int32) (M : MM), V G trI 8 0 0 20 [(0, .ref x0), (1, .int x1), (2, .int x2), (3, .int x3), (4, .int x4), (5, .int x5), (6, .int x6)] [] M (K20 x0 x1 x2 x3 x4 x5 x6 M)) (x0 : Nat) (x1 : Int32) (x2 : Int32) (x3 : Int32) (x4 : Int32) (x5 : Int32) (x6 : Int32) (M : MM) : V G trI 8 0 0 106 [(0, .ref x0), (1, .int x1), (2, .int x2), (3, .int x3), (4, .int x4), (5, .int x5), (6, .int x6)] [] M (f_X12_alone_106 K20 x0 x1 x2 x3 x4 x5 x6 M) := by
  unfold f_X12_alone_106
  refine v_iinc X 109 6 (fun z => [(0, .ref x0), (1, .int x1), (2, .int x2), (3, .int x3), (4, .int x4), (5, .int x5), (6, .int z)]) dX12_alone_106 rfl ik_1 (by decide) (fun _ => rfl) rfl (fun y1 => ?_)
  refine v_goto X 20 dX12_alone_109 rfl ?_
  exact hK20 _ _ _ _ _ _ _ _
set_option maxRecDepth 4000 in
theorem L_X12_alone_87 {G : Gx} (X : Cb G cX12_alone 8 RX12 (RM 6 0 0) false) (Y : Cr G (some .int) 0 0) {K20 : Nat → Int32 → Int32 → Int32 → Int32 → Int32 → Int32 → MM → Option (Int32 × MM)} (hK20 : ∀ (x0 : Nat) (x1 : Int32) (x2 : Int32) (x3 : Int32) (x4 : Int32) (x5 : Int32) (x6 : Int32) (M : MM), V G trI 8 0 0 20 [(0, .ref x0), (1, .int x1), (2, .int x2), (3, .int x3), (4, .int x4), (5, .int x5), (6, .int x6)] [] M (K20 x0 x1 x2 x3 x4 x5 x6 M)) (x0 : Nat) (x1 : Int32) (x3 : Int32) (x4 : Int32) (x5 : Int32) (x6 : Int32) (s0 : Int32) (M : MM) : V G trI 8 0 0 87 [(0, .ref x0), (1, .int x1), (3, .int x3), (4, .int x4), (5, .int x5), (6, .int x6)] [.int s0] M (f_X12_alone_87 K20 x0 x1 x3 x4 x5 x6 s0 M) := by
  unfold f_X12_alone_87
  refine v_istore_n (lv' := [(0, .ref x0), (1, .int x1), (2, .int s0), (3, .int x3), (4, .int x4), (5, .int x5), (6, .int x6)]) X 88 dX12_alone_87 (by decide) rfl rfl ?_
  refine v_iload X 90 5 dX12_alone_88 rfl rfl ?_
  refine v_iload_n X 91 3 dX12_alone_90 rfl rfl ?_
  refine v_icle X 94 106 dX12_alone_91 rfl rfl ?_ ?_
  · exact L_X12_alone_106 X Y hK20 _ _ _ _ _ _ _ _
  · refine v_iload X 96 5 dX12_alone_94 rfl rfl ?_
    refine v_istore_n (lv' := [(0, .ref x0), (1, .int x1), (2, .int s0), (3, .int x5), (4, .int x4), (5, .int x5), (6, .int x6)]) X 97 dX12_alone_96 (by decide) rfl rfl ?_
    refine v_iload X 99 6 dX12_alone_97 rfl rfl ?_
    refine v_iload X 101 5 dX12_alone_99 rfl rfl ?_
    refine v_isub X 102 dX12_alone_101 rfl ?_
    refine v_iconst X 103 dX12_alone_102 ik_1 rfl ?_
    refine v_iadd X 104 dX12_alone_103 rfl ?_
    refine v_bnI (fun y1 => ?_)
    refine v_istore (lv' := [(0, .ref x0), (1, .int x1), (2, .int s0), (3, .int x5), (4, .int y1), (5, .int x5), (6, .int x6)]) X 106 dX12_alone_104 (by decide) rfl rfl ?_
    exact L_X12_alone_106 X Y hK20 _ _ _ _ _ _ _ _
set_option maxRecDepth 4000 in
theorem L_X12_alone_86 {G : Gx} (X : Cb G cX12_alone 8 RX12 (RM 6 0 0) false) (Y : Cr G (some .int) 0 0) {K20 : Nat → Int32 → Int32 → Int32 → Int32 → Int32 → Int32 → MM → Option (Int32 × MM)} (hK20 : ∀ (x0 : Nat) (x1 : Int32) (x2 : Int32) (x3 : Int32) (x4 : Int32) (x5 : Int32) (x6 : Int32) (M : MM), V G trI 8 0 0 20 [(0, .ref x0), (1, .int x1), (2, .int x2), (3, .int x3), (4, .int x4), (5, .int x5), (6, .int x6)] [] M (K20 x0 x1 x2 x3 x4 x5 x6 M)) (x0 : Nat) (x1 : Int32) (x2 : Int32) (x3 : Int32) (x4 : Int32) (x5 : Int32) (x6 : Int32) (M : MM) : V G trI 8 0 0 86 [(0, .ref x0), (1, .int x1), (2, .int x2), (3, .int x3), (4, .int x4), (5, .int x5), (6, .int x6)] [] M (f_X12_alone_86 K20 x0 x1 x2 x3 x4 x5 x6 M) := by
  unfold f_X12_alone_86
  refine v_iload_n X 87 2 dX12_alone_86 rfl rfl ?_
  exact v_sb [0, 1, 3, 4, 5, 6] (L_X12_alone_87 X Y hK20 _ _ _ _ _ _ _ _) rfl
set_option maxRecDepth 4000 in
theorem L_X12_alone_62 {G : Gx} (X : Cb G cX12_alone 8 RX12 (RM 6 0 0) false) (Y : Cr G (some .int) 0 0) {K20 : Nat → Int32 → Int32 → Int32 → Int32 → Int32 → Int32 → MM → Option (Int32 × MM)} (hK20 : ∀ (x0 : Nat) (x1 : Int32) (x2 : Int32) (x3 : Int32) (x4 : Int32) (x5 : Int32) (x6 : Int32) (M : MM), V G trI 8 0 0 20 [(0, .ref x0), (1, .int x1), (2, .int x2), (3, .int x3), (4, .int x4), (5, .int x5), (6, .int x6)] [] M (K20 x0 x1 x2 x3 x4 x5 x6 M)) (x0 : Nat) (x1 : Int32) (x2 : Int32) (x3 : Int32) (x4 : Int32) (x6 : Int32) (x7 : Int32) (s0 : Int32) (M : MM) : V G trI 8 0 0 62 [(0, .ref x0), (1, .int x1), (2, .int x2), (3, .int x3), (4, .int x4), (6, .int x6), (7, .int x7)] [.int s0] M (f_X12_alone_62 K20 x0 x1 x2 x3 x4 x6 x7 s0 M) := by
  unfold f_X12_alone_62
  refine v_istore (lv' := [(0, .ref x0), (1, .int x1), (2, .int x2), (3, .int x3), (4, .int x4), (5, .int s0), (6, .int x6), (7, .int x7)]) X 64 dX12_alone_62 (by decide) rfl rfl ?_
  refine v_iload_n X 65 1 dX12_alone_64 rfl rfl ?_
  refine v_iload X 67 7 dX12_alone_65 rfl rfl ?_
  refine v_sI X 70 cs_X12_flag ml_X12_171 (n1 := 1) rfl [.int x7] rfl rfl rfl dX12_alone_67 rfl (fun r M1 h => c_X12_flag _ _ _ _ _ h) (fun r2 M1 => ?_)
  refine v_iadd X 71 dX12_alone_70 rfl ?_
  refine v_bnI (fun y3 => ?_)
  refine v_istore_n (lv' := [(0, .ref x0), (1, .int y3), (2, .int x2), (3, .int x3), (4, .int x4), (5, .int s0), (6, .int x6), (7, .int x7)]) X 72 dX12_alone_71 (by decide) rfl rfl ?_
  refine v_iload X 74 7 dX12_alone_72 rfl rfl ?_
  refine v_ifeq X 77 86 dX12_alone_74 rfl rfl ?_ ?_
  · exact v_sb [0, 1, 2, 3, 4, 5, 6] (L_X12_alone_86 X Y hK20 _ _ _ _ _ _ _ _) rfl
  · refine v_iload_n X 78 2 dX12_alone_77 rfl rfl ?_
    refine v_ifge X 81 86 dX12_alone_78 rfl rfl ?_ ?_
    · exact v_sb [0, 1, 2, 3, 4, 5, 6] (L_X12_alone_86 X Y hK20 _ _ _ _ _ _ _ _) rfl
    · refine v_iload X 83 6 dX12_alone_81 rfl rfl ?_
      refine v_goto X 87 dX12_alone_83 rfl ?_
      exact v_sb [0, 1, 3, 4, 5, 6] (L_X12_alone_87 X Y hK20 _ _ _ _ _ _ _ _) rfl
set_option maxRecDepth 4000 in
theorem L_X12_alone_47 {G : Gx} (X : Cb G cX12_alone 8 RX12 (RM 6 0 0) false) (Y : Cr G (some .int) 0 0) {K20 : Nat → Int32 → Int32 → Int32 → Int32 → Int32 → Int32 → MM → Option (Int32 × MM)} (hK20 : ∀ (x0 : Nat) (x1 : Int32) (x2 : Int32) (x3 : Int32) (x4 : Int32) (x5 : Int32) (x6 : Int32) (M : MM), V G trI 8 0 0 20 [(0, .ref x0), (1, .int x1), (2, .int x2), (3, .int x3), (4, .int x4), (5, .int x5), (6, .int x6)] [] M (K20 x0 x1 x2 x3 x4 x5 x6 M)) (x0 : Nat) (x1 : Int32) (x2 : Int32) (x3 : Int32) (x4 : Int32) (x5 : Int32) (x6 : Int32) (s0 : Int32) (M : MM) : V G trI 8 0 0 47 [(0, .ref x0), (1, .int x1), (2, .int x2), (3, .int x3), (4, .int x4), (5, .int x5), (6, .int x6)] [.int s0] M (f_X12_alone_47 K20 x0 x1 x2 x3 x4 x5 x6 s0 M) := by
  unfold f_X12_alone_47
  refine v_istore (lv' := [(0, .ref x0), (1, .int x1), (2, .int x2), (3, .int x3), (4, .int x4), (5, .int x5), (6, .int x6), (7, .int s0)]) X 49 dX12_alone_47 (by decide) rfl rfl ?_
  refine v_iload X 51 7 dX12_alone_49 rfl rfl ?_
  refine v_ifeq X 54 61 dX12_alone_51 rfl rfl ?_ ?_
  · refine v_iconst X 62 dX12_alone_61 ik_0 rfl ?_
    exact v_sb [0, 1, 2, 3, 4, 6, 7] (L_X12_alone_62 X Y hK20 _ _ _ _ _ _ _ _ _) rfl
  · refine v_iload X 56 5 dX12_alone_54 rfl rfl ?_
    refine v_iconst X 57 dX12_alone_56 ik_1 rfl ?_
    refine v_iadd X 58 dX12_alone_57 rfl ?_
    refine v_goto X 62 dX12_alone_58 rfl ?_
    exact v_sb [0, 1, 2, 3, 4, 6, 7] (L_X12_alone_62 X Y hK20 _ _ _ _ _ _ _ _ _) rfl
set_option maxRecDepth 4000 in
theorem L_X12_alone_20 {G : Gx} (X : Cb G cX12_alone 8 RX12 (RM 6 0 0) false) (Y : Cr G (some .int) 0 0) : ∀ (n : Nat) (x0 : Nat) (x1 : Int32) (x2 : Int32) (x3 : Int32) (x4 : Int32) (x5 : Int32) (x6 : Int32) (M : MM), V G trI 8 0 0 20 [(0, .ref x0), (1, .int x1), (2, .int x2), (3, .int x3), (4, .int x4), (5, .int x5), (6, .int x6)] [] M (f_X12_alone_20 n x0 x1 x2 x3 x4 x5 x6 M) := by
  intro n
  induction n with
  | zero => intro x0 x1 x2 x3 x4 x5 x6 M; rw [f_X12_alone_20]; exact v_none
  | succ n ih =>
    intro x0 x1 x2 x3 x4 x5 x6 M
    rw [f_X12_alone_20]
    refine v_iload X 22 6 dX12_alone_20 rfl rfl ?_
    refine v_aload_n X 23 0 dX12_alone_22 rfl rfl ?_
    refine v_getI X 26 fl_X12_13.r dX12_alone_23 rfl (fun v1 => ?_)
    refine v_icge X 29 112 dX12_alone_26 rfl rfl ?_ ?_
    · refine v_aload_n X 113 0 dX12_alone_112 rfl rfl ?_
      refine v_iconst X 114 dX12_alone_113 ik_0 rfl ?_
      refine v_putI X 117 fl_X12_140 nof dX12_alone_114 rfl (fun M2 => ?_)
      refine v_aload_n X 118 0 dX12_alone_117 rfl rfl ?_
      refine v_iload_n X 119 2 dX12_alone_118 rfl rfl ?_
      refine v_i2l X 120 dX12_alone_119 rfl ?_
      refine v_vV X 123 cv_X12_enters ml_X12_414 (n1 := 1) rfl [.long (Int32.toInt64 x2)] rfl rfl rfl dX12_alone_120 rfl (fun M1 h => c_X12_enters _ _ _ _ _ h) (fun M3 => ?_)
      refine v_aload_n X 124 0 dX12_alone_123 rfl rfl ?_
      refine v_iload_n X 125 3 dX12_alone_124 rfl rfl ?_
      refine v_i2l X 126 dX12_alone_125 rfl ?_
      refine v_vV X 129 cv_X12_enters ml_X12_414 (n1 := 1) rfl [.long (Int32.toInt64 x3)] rfl rfl rfl dX12_alone_126 rfl (fun M1 h => c_X12_enters _ _ _ _ _ h) (fun M4 => ?_)
      refine v_aload_n X 130 0 dX12_alone_129 rfl rfl ?_
      refine v_iload X 132 4 dX12_alone_130 rfl rfl ?_
      refine v_i2l X 133 dX12_alone_132 rfl ?_
      refine v_vV X 136 cv_X12_enters ml_X12_414 (n1 := 1) rfl [.long (Int32.toInt64 x4)] rfl rfl rfl dX12_alone_133 rfl (fun M1 h => c_X12_enters _ _ _ _ _ h) (fun M5 => ?_)
      refine v_iload_n X 137 1 dX12_alone_136 rfl rfl ?_
      exact v_iret X Y (Nat.le_refl _) (Nat.le_refl _) dX12_alone_137
    · refine v_aload_n X 30 0 dX12_alone_29 rfl rfl ?_
      refine v_aload_n X 31 0 dX12_alone_30 rfl rfl ?_
      refine v_getR X 34 fl_X12_43.r dX12_alone_31 rfl (fun v6 => ?_)
      refine v_iload X 36 6 dX12_alone_34 rfl rfl ?_
      refine v_vI X 39 cv_X12_isWatched ml_X12_329 (n1 := 5) rfl [.ref v6, .int x6] rfl rfl rfl dX12_alone_36 rfl (fun r M1 h => c_X12_isWatched _ _ _ _ _ _ _ h) (fun r8 M7 => ?_)
      refine v_ifne X 42 46 dX12_alone_39 rfl rfl ?_ ?_
      · refine v_iconst X 47 dX12_alone_46 ik_0 rfl ?_
        exact L_X12_alone_47 X Y ih _ _ _ _ _ _ _ _ _
      · refine v_iconst X 43 dX12_alone_42 ik_1 rfl ?_
        refine v_goto X 47 dX12_alone_43 rfl ?_
        exact L_X12_alone_47 X Y ih _ _ _ _ _ _ _ _ _
set_option maxRecDepth 4000 in
theorem L_X12_alone_0 {G : Gx} (X : Cb G cX12_alone 8 RX12 (RM 6 0 0) false) (Y : Cr G (some .int) 0 0) (x0 : Nat) (M : MM) : V G trI 8 0 0 0 [(0, .ref x0)] [] M (f_X12_alone_0 x0 M) := by
  unfold f_X12_alone_0
  refine v_aload_n X 1 0 dX12_alone_0 rfl rfl ?_
  refine v_iconst X 2 dX12_alone_1 ik_0 rfl ?_
  refine v_putI X 5 fl_X12_133 nof dX12_alone_2 rfl (fun M1 => ?_)
  refine v_iconst X 6 dX12_alone_5 ik_0 rfl ?_
  refine v_istore_n (lv' := [(0, .ref x0), (1, .int (0 : Int32))]) X 7 dX12_alone_6 (by decide) rfl rfl ?_
  refine v_iconst X 8 dX12_alone_7 ik_m1 rfl ?_
  refine v_istore_n (lv' := [(0, .ref x0), (1, .int (0 : Int32)), (2, .int (-1 : Int32))]) X 9 dX12_alone_8 (by decide) rfl rfl ?_
  refine v_iconst X 10 dX12_alone_9 ik_0 rfl ?_
  refine v_istore_n (lv' := [(0, .ref x0), (1, .int (0 : Int32)), (2, .int (-1 : Int32)), (3, .int (0 : Int32))]) X 11 dX12_alone_10 (by decide) rfl rfl ?_
  refine v_iconst X 12 dX12_alone_11 ik_m1 rfl ?_
  refine v_istore (lv' := [(0, .ref x0), (1, .int (0 : Int32)), (2, .int (-1 : Int32)), (3, .int (0 : Int32)), (4, .int (-1 : Int32))]) X 14 dX12_alone_12 (by decide) rfl rfl ?_
  refine v_iconst X 15 dX12_alone_14 ik_0 rfl ?_
  refine v_istore (lv' := [(0, .ref x0), (1, .int (0 : Int32)), (2, .int (-1 : Int32)), (3, .int (0 : Int32)), (4, .int (-1 : Int32)), (5, .int (0 : Int32))]) X 17 dX12_alone_15 (by decide) rfl rfl ?_
  refine v_iconst X 18 dX12_alone_17 ik_0 rfl ?_
  refine v_istore (lv' := [(0, .ref x0), (1, .int (0 : Int32)), (2, .int (-1 : Int32)), (3, .int (0 : Int32)), (4, .int (-1 : Int32)), (5, .int (0 : Int32)), (6, .int (0 : Int32))]) X 20 dX12_alone_18 (by decide) rfl rfl ?_
  exact L_X12_alone_20 X Y 1024 _ _ _ _ _ _ _ _
theorem c_X12_alone (l : Launch) (x0 : Nat) (M : MM) (r : Int32) (M1 : MM) (h : f_X12_alone x0 M = some (r, M1)) : KV l yX12_alone cX12_alone 8 (some .int) (RM 6 0 0) false 12 x0 [] M (some (.int r)) M1 := by
  obtain ⟨hO, h2⟩ := iteO_some h
  exact ⟨hO, ct_of (tr := trI) (by decide) (Nat.le_of_ble_eq_true rfl) [(0, .ref x0)] rfl h2 (fun G X Y hn hl => L_X12_alone_0 X Y x0 M)⟩

def f_X12_isMinute_0 (x0 : Nat) (x1 : Int32) (M : MM) : Option (Int32 × MM) :=
    b1 (gI 12 6 x0 M) fun v1 =>
    b2 (f_X12_in (Int32.toInt64 x1) (0 : Int64) (Int32.toInt64 (v1 - (1 : Int32))) M) fun r3 M2 =>
    rz r3 M2

def f_X12_isMinute (x0 : Nat) (x1 : Int32) (M : MM) : Option (Int32 × MM) := if isO 12 x0 M = true then f_X12_isMinute_0 x0 x1 M else none
set_option maxRecDepth 4000 in
theorem L_X12_isMinute_0 {G : Gx} (X : Cb G cX12_isMinute 2 RX12 (RM 2 0 0) false) (Y : Cr G (some .boolean) 0 0) (x0 : Nat) (x1 : Int32) (M : MM) : V G trI 2 0 0 0 [(0, .ref x0), (1, .int x1)] [] M (f_X12_isMinute_0 x0 x1 M) := by
  unfold f_X12_isMinute_0
  refine v_iload_n X 1 1 dX12_isMinute_0 rfl rfl ?_
  refine v_i2l X 2 dX12_isMinute_1 rfl ?_
  refine v_lconst X 3 dX12_isMinute_2 lk_0 rfl ?_
  refine v_aload_n X 4 0 dX12_isMinute_3 rfl rfl ?_
  refine v_getI X 7 fl_X12_13.r dX12_isMinute_4 rfl (fun v1 => ?_)
  refine v_iconst X 8 dX12_isMinute_7 ik_1 rfl ?_
  refine v_isub X 9 dX12_isMinute_8 rfl ?_
  refine v_i2l X 10 dX12_isMinute_9 rfl ?_
  refine v_sI X 13 cs_X12_in ml_X12_146 (n1 := 1) rfl [.long (Int32.toInt64 x1), .long (0 : Int64), .long (Int32.toInt64 (v1 - (1 : Int32)))] rfl rfl rfl dX12_isMinute_10 rfl (fun r M1 h => c_X12_in _ _ _ _ _ _ _ h) (fun r3 M2 => ?_)
  exact v_zret X Y (Nat.le_refl _) (Nat.le_refl _) dX12_isMinute_13
theorem c_X12_isMinute (l : Launch) (x0 : Nat) (x1 : Int32) (M : MM) (r : Int32) (M1 : MM) (h : f_X12_isMinute x0 x1 M = some (r, M1)) : KV l yX12_isMinute cX12_isMinute 2 (some .boolean) (RM 2 0 0) false 12 x0 [.int x1] M (some (.int r)) M1 := by
  obtain ⟨hO, h2⟩ := iteO_some h
  exact ⟨hO, ct_of (tr := trI) (by decide) (Nat.le_of_ble_eq_true rfl) [(0, .ref x0), (1, .int x1)] rfl h2 (fun G X Y hn hl => L_X12_isMinute_0 X Y x0 x1 M)⟩

def f_X12_bench_79 (K38 : Nat → Int32 → Int32 → Int32 → MM → Option (Int32 × MM)) (x0 : Nat) (x1 : Int32) (x3 : Int32) (s0 : Int32) (s1 : Int32) (M : MM) : Option (Int32 × MM) :=
    bn (s1 &&& s0 : Int32) fun y1 =>
    bn (x3 + 1 : Int32) fun y2 =>
    K38 x0 x1 y1 y2 M

def f_X12_bench_38 : Nat → Nat → Int32 → Int32 → Int32 → MM → Option (Int32 × MM)
  | 0, _, _, _, _, _ => none
  | n + 1, x0, x1, x2, x3, M =>
    b1 (gR 12 15 x0 M) fun v1 =>
    b1 (ldI v1 (45 : Int32) M) fun v2 =>
    if v2 ≤ x3 then
      b1 (pI 12 1 x0 (0 : Int32) M) fun M3 =>
      b1 (gR 12 15 x0 M3) fun v4 =>
      b2 (f_X12_seersIn x0 v4 x1 M3) fun r6 M5 =>
      b1 (f_X12_enters x0 (Int32.toInt64 r6) M5) fun M7 =>
      b1 (f_X12_enters x0 (Int32.toInt64 x2) M7) fun M8 =>
      b1 (gR 12 15 x0 M8) fun v9 =>
      b2 (f_X12_benchIn x0 v9 x1 M8) fun r11 M10 =>
      some (r11, M10)
    else
      b1 (gR 12 15 x0 M) fun v12 =>
      b2 (f_X12_isThere x0 v12 x3 x1 M) fun r14 M13 =>
      if r14 = 0 then
        f_X12_bench_79 (f_X12_bench_38 n) x0 x1 x3 (-1 : Int32) x2 M13
      else
        b1 (gR 12 15 x0 M13) fun v15 =>
        b2 (f_X12_who v15 x3 M13) fun r17 M16 =>
        f_X12_bench_79 (f_X12_bench_38 n) x0 x1 x3 (((1 : Int32) <<< (r17 &&& 31)) ^^^ (-1 : Int32)) x2 M16

def f_X12_bench_0 (x0 : Nat) (x1 : Int32) (M : MM) : Option (Int32 × MM) :=
    b1 (pI 12 0 x0 (0 : Int32) M) fun M1 =>
    b2 (f_X12_isMinute x0 x1 M1) fun r3 M2 =>
    if r3 = 0 then
      some ((-1 : Int32), M2)
    else
      b1 (gI 12 3 x0 M2) fun v4 =>
      b1 (gR 12 15 x0 M2) fun v5 =>
      b2 (f_X12_benchIn x0 v5 x1 M2) fun r7 M6 =>
      bn ((((1 : Int32) <<< (v4 &&& 31)) - (1 : Int32)) &&& (r7 ^^^ (-1 : Int32)) : Int32) fun y8 =>
      f_X12_bench_38 1024 x0 x1 y8 (0 : Int32) M6

def f_X12_bench (x0 : Nat) (x1 : Int32) (M : MM) : Option (Int32 × MM) := if isO 12 x0 M = true then f_X12_bench_0 x0 x1 M else none
set_option maxRecDepth 4000 in
theorem L_X12_bench_79 {G : Gx} (X : Cb G cX12_bench 4 RX12 (RM 5 0 0) false) (Y : Cr G (some .int) 0 0) {K38 : Nat → Int32 → Int32 → Int32 → MM → Option (Int32 × MM)} (hK38 : ∀ (x0 : Nat) (x1 : Int32) (x2 : Int32) (x3 : Int32) (M : MM), V G trI 4 0 0 38 [(0, .ref x0), (1, .int x1), (2, .int x2), (3, .int x3)] [] M (K38 x0 x1 x2 x3 M)) (x0 : Nat) (x1 : Int32) (x3 : Int32) (s0 : Int32) (s1 : Int32) (M : MM) : V G trI 4 0 0 79 [(0, .ref x0), (1, .int x1), (3, .int x3)] [.int s0, .int s1] M (f_X12_bench_79 K38 x0 x1 x3 s0 s1 M) := by
  unfold f_X12_bench_79
  refine v_iand X 80 dX12_bench_79 rfl ?_
  refine v_bnI (fun y1 => ?_)
  refine v_istore_n (lv' := [(0, .ref x0), (1, .int x1), (2, .int y1), (3, .int x3)]) X 81 dX12_bench_80 (by decide) rfl rfl ?_
  refine v_iinc X 84 3 (fun z => [(0, .ref x0), (1, .int x1), (2, .int y1), (3, .int z)]) dX12_bench_81 rfl ik_1 (by decide) (fun _ => rfl) rfl (fun y2 => ?_)
  refine v_goto X 38 dX12_bench_84 rfl ?_
  exact hK38 _ _ _ _ _
set_option maxRecDepth 4000 in
theorem L_X12_bench_38 {G : Gx} (X : Cb G cX12_bench 4 RX12 (RM 5 0 0) false) (Y : Cr G (some .int) 0 0) : ∀ (n : Nat) (x0 : Nat) (x1 : Int32) (x2 : Int32) (x3 : Int32) (M : MM), V G trI 4 0 0 38 [(0, .ref x0), (1, .int x1), (2, .int x2), (3, .int x3)] [] M (f_X12_bench_38 n x0 x1 x2 x3 M) := by
  intro n
  induction n with
  | zero => intro x0 x1 x2 x3 M; rw [f_X12_bench_38]; exact v_none
  | succ n ih =>
    intro x0 x1 x2 x3 M
    rw [f_X12_bench_38]
    refine v_iload_n X 39 3 dX12_bench_38 rfl rfl ?_
    refine v_aload_n X 40 0 dX12_bench_39 rfl rfl ?_
    refine v_getR X 43 fl_X12_43.r dX12_bench_40 rfl (fun v1 => ?_)
    refine v_bipush X 45 dX12_bench_43 bk_45 rfl ?_
    refine v_iald X 46 dX12_bench_45 rfl (fun v2 => ?_)
    refine v_icge X 49 87 dX12_bench_46 rfl rfl ?_ ?_
    · refine v_aload_n X 88 0 dX12_bench_87 rfl rfl ?_
      refine v_iconst X 89 dX12_bench_88 ik_0 rfl ?_
      refine v_putI X 92 fl_X12_140 nof dX12_bench_89 rfl (fun M3 => ?_)
      refine v_aload_n X 93 0 dX12_bench_92 rfl rfl ?_
      refine v_aload_n X 94 0 dX12_bench_93 rfl rfl ?_
      refine v_aload_n X 95 0 dX12_bench_94 rfl rfl ?_
      refine v_getR X 98 fl_X12_43.r dX12_bench_95 rfl (fun v4 => ?_)
      refine v_iload_n X 99 1 dX12_bench_98 rfl rfl ?_
      refine v_vI X 102 cv_X12_seersIn ml_X12_326 (n1 := 3) rfl [.ref v4, .int x1] rfl rfl rfl dX12_bench_99 rfl (fun r M1 h => c_X12_seersIn _ _ _ _ _ _ _ h) (fun r6 M5 => ?_)
      refine v_i2l X 103 dX12_bench_102 rfl ?_
      refine v_vV X 106 cv_X12_enters ml_X12_414 (n1 := 1) rfl [.long (Int32.toInt64 r6)] rfl rfl rfl dX12_bench_103 rfl (fun M1 h => c_X12_enters _ _ _ _ _ h) (fun M7 => ?_)
      refine v_aload_n X 107 0 dX12_bench_106 rfl rfl ?_
      refine v_iload_n X 108 2 dX12_bench_107 rfl rfl ?_
      refine v_i2l X 109 dX12_bench_108 rfl ?_
      refine v_vV X 112 cv_X12_enters ml_X12_414 (n1 := 1) rfl [.long (Int32.toInt64 x2)] rfl rfl rfl dX12_bench_109 rfl (fun M1 h => c_X12_enters _ _ _ _ _ h) (fun M8 => ?_)
      refine v_aload_n X 113 0 dX12_bench_112 rfl rfl ?_
      refine v_aload_n X 114 0 dX12_bench_113 rfl rfl ?_
      refine v_getR X 117 fl_X12_43.r dX12_bench_114 rfl (fun v9 => ?_)
      refine v_iload_n X 118 1 dX12_bench_117 rfl rfl ?_
      refine v_vI X 121 cv_X12_benchIn ml_X12_323 (n1 := 4) rfl [.ref v9, .int x1] rfl rfl rfl dX12_bench_118 rfl (fun r M1 h => c_X12_benchIn _ _ _ _ _ _ _ h) (fun r11 M10 => ?_)
      exact v_iret X Y (Nat.le_refl _) (Nat.le_refl _) dX12_bench_121
    · refine v_iload_n X 50 2 dX12_bench_49 rfl rfl ?_
      refine v_aload_n X 51 0 dX12_bench_50 rfl rfl ?_
      refine v_aload_n X 52 0 dX12_bench_51 rfl rfl ?_
      refine v_getR X 55 fl_X12_43.r dX12_bench_52 rfl (fun v12 => ?_)
      refine v_iload_n X 56 3 dX12_bench_55 rfl rfl ?_
      refine v_iload_n X 57 1 dX12_bench_56 rfl rfl ?_
      refine v_vI X 60 cv_X12_isThere ml_X12_320 (n1 := 2) rfl [.ref v12, .int x3, .int x1] rfl rfl rfl dX12_bench_57 rfl (fun r M1 h => c_X12_isThere _ _ _ _ _ _ _ _ h) (fun r14 M13 => ?_)
      refine v_ifeq X 63 78 dX12_bench_60 rfl rfl ?_ ?_
      · refine v_iconst X 79 dX12_bench_78 ik_m1 rfl ?_
        exact v_sb [0, 1, 3] (L_X12_bench_79 X Y ih _ _ _ _ _ _) rfl
      · refine v_iconst X 64 dX12_bench_63 ik_1 rfl ?_
        refine v_aload_n X 65 0 dX12_bench_64 rfl rfl ?_
        refine v_getR X 68 fl_X12_43.r dX12_bench_65 rfl (fun v15 => ?_)
        refine v_iload_n X 69 3 dX12_bench_68 rfl rfl ?_
        refine v_sI X 72 cs_X12_who ml_X12_293 (n1 := 1) rfl [.ref v15, .int x3] rfl rfl rfl dX12_bench_69 rfl (fun r M1 h => c_X12_who _ _ _ _ _ _ h) (fun r17 M16 => ?_)
        refine v_ishl X 73 dX12_bench_72 rfl ?_
        refine v_iconst X 74 dX12_bench_73 ik_m1 rfl ?_
        refine v_ixor X 75 dX12_bench_74 rfl ?_
        refine v_goto X 79 dX12_bench_75 rfl ?_
        exact v_sb [0, 1, 3] (L_X12_bench_79 X Y ih _ _ _ _ _ _) rfl
set_option maxRecDepth 4000 in
theorem L_X12_bench_0 {G : Gx} (X : Cb G cX12_bench 4 RX12 (RM 5 0 0) false) (Y : Cr G (some .int) 0 0) (x0 : Nat) (x1 : Int32) (M : MM) : V G trI 4 0 0 0 [(0, .ref x0), (1, .int x1)] [] M (f_X12_bench_0 x0 x1 M) := by
  unfold f_X12_bench_0
  refine v_aload_n X 1 0 dX12_bench_0 rfl rfl ?_
  refine v_iconst X 2 dX12_bench_1 ik_0 rfl ?_
  refine v_putI X 5 fl_X12_133 nof dX12_bench_2 rfl (fun M1 => ?_)
  refine v_aload_n X 6 0 dX12_bench_5 rfl rfl ?_
  refine v_iload_n X 7 1 dX12_bench_6 rfl rfl ?_
  refine v_vI X 10 cv_X12_isMinute ml_X12_422 (n1 := 2) rfl [.int x1] rfl rfl rfl dX12_bench_7 rfl (fun r M1 h => c_X12_isMinute _ _ _ _ _ _ h) (fun r3 M2 => ?_)
  refine v_ifne X 13 15 dX12_bench_10 rfl rfl ?_ ?_
  · refine v_iconst X 16 dX12_bench_15 ik_1 rfl ?_
    refine v_aload_n X 17 0 dX12_bench_16 rfl rfl ?_
    refine v_getI X 20 fl_X12_143.r dX12_bench_17 rfl (fun v4 => ?_)
    refine v_ishl X 21 dX12_bench_20 rfl ?_
    refine v_iconst X 22 dX12_bench_21 ik_1 rfl ?_
    refine v_isub X 23 dX12_bench_22 rfl ?_
    refine v_aload_n X 24 0 dX12_bench_23 rfl rfl ?_
    refine v_aload_n X 25 0 dX12_bench_24 rfl rfl ?_
    refine v_getR X 28 fl_X12_43.r dX12_bench_25 rfl (fun v5 => ?_)
    refine v_iload_n X 29 1 dX12_bench_28 rfl rfl ?_
    refine v_vI X 32 cv_X12_benchIn ml_X12_323 (n1 := 4) rfl [.ref v5, .int x1] rfl rfl rfl dX12_bench_29 rfl (fun r M1 h => c_X12_benchIn _ _ _ _ _ _ _ h) (fun r7 M6 => ?_)
    refine v_iconst X 33 dX12_bench_32 ik_m1 rfl ?_
    refine v_ixor X 34 dX12_bench_33 rfl ?_
    refine v_iand X 35 dX12_bench_34 rfl ?_
    refine v_bnI (fun y8 => ?_)
    refine v_istore_n (lv' := [(0, .ref x0), (1, .int x1), (2, .int y8)]) X 36 dX12_bench_35 (by decide) rfl rfl ?_
    refine v_iconst X 37 dX12_bench_36 ik_0 rfl ?_
    refine v_istore_n (lv' := [(0, .ref x0), (1, .int x1), (2, .int y8), (3, .int (0 : Int32))]) X 38 dX12_bench_37 (by decide) rfl rfl ?_
    exact L_X12_bench_38 X Y 1024 _ _ _ _ _
  · refine v_iconst X 14 dX12_bench_13 ik_m1 rfl ?_
    exact v_iret X Y (Nat.le_refl _) (Nat.le_refl _) dX12_bench_14
theorem c_X12_bench (l : Launch) (x0 : Nat) (x1 : Int32) (M : MM) (r : Int32) (M1 : MM) (h : f_X12_bench x0 x1 M = some (r, M1)) : KV l yX12_bench cX12_bench 4 (some .int) (RM 5 0 0) false 12 x0 [.int x1] M (some (.int r)) M1 := by
  obtain ⟨hO, h2⟩ := iteO_some h
  exact ⟨hO, ct_of (tr := trI) (by decide) (Nat.le_of_ble_eq_true rfl) [(0, .ref x0), (1, .int x1)] rfl h2 (fun G X Y hn hl => L_X12_bench_0 X Y x0 x1 M)⟩

def f_X12_worth_47 (K11 : Nat → Int32 → Int32 → Int32 → MM → Option (Int32 × MM)) (x0 : Nat) (x1 : Int32) (x2 : Int32) (x3 : Int32) (M : MM) : Option (Int32 × MM) :=
    bn (x3 + 1 : Int32) fun y1 =>
    K11 x0 x1 x2 y1 M

def f_X12_worth_43 (K11 : Nat → Int32 → Int32 → Int32 → MM → Option (Int32 × MM)) (x0 : Nat) (x1 : Int32) (x3 : Int32) (s0 : Int32) (M : MM) : Option (Int32 × MM) :=
    bn (x1 + 1 : Int32) fun y1 =>
    f_X12_worth_47 K11 x0 y1 s0 x3 M

def f_X12_worth_11 : Nat → Nat → Int32 → Int32 → Int32 → MM → Option (Int32 × MM)
  | 0, _, _, _, _, _ => none
  | n + 1, x0, x1, x2, x3, M =>
    b1 (gR 12 15 x0 M) fun v1 =>
    b1 (ldI v1 (45 : Int32) M) fun v2 =>
    if v2 ≤ x3 then
      b1 (pI 12 1 x0 (0 : Int32) M) fun M3 =>
      b1 (f_X12_enters x0 (Int32.toInt64 x1) M3) fun M4 =>
      b1 (f_X12_enters x0 (Int32.toInt64 x2) M4) fun M5 =>
      b1 (gR 12 15 x0 M5) fun v6 =>
      b2 (f_X12_worthAll x0 v6 M5) fun r8 M7 =>
      some (r8, M7)
    else
      b1 (gR 12 15 x0 M) fun v9 =>
      b2 (f_X12_whyNot x0 v9 x3 M) fun r11 M10 =>
      if r11 ≤ 0 then
        f_X12_worth_47 (f_X12_worth_11 n) x0 x1 x2 x3 M10
      else
        if 0 ≤ x2 then
          f_X12_worth_43 (f_X12_worth_11 n) x0 x1 x3 x2 M10
        else
          f_X12_worth_43 (f_X12_worth_11 n) x0 x1 x3 x3 M10

def f_X12_worth_0 (x0 : Nat) (M : MM) : Option (Int32 × MM) :=
    b1 (pI 12 0 x0 (0 : Int32) M) fun M1 =>
    f_X12_worth_11 1024 x0 (0 : Int32) (-1 : Int32) (0 : Int32) M1

def f_X12_worth (x0 : Nat) (M : MM) : Option (Int32 × MM) := if isO 12 x0 M = true then f_X12_worth_0 x0 M else none
set_option maxRecDepth 4000 in
theorem L_X12_worth_47 {G : Gx} (X : Cb G cX12_worth 4 RX12 (RM 6 0 0) false) (Y : Cr G (some .int) 0 0) {K11 : Nat → Int32 → Int32 → Int32 → MM → Option (Int32 × MM)} (hK11 : ∀ (x0 : Nat) (x1 : Int32) (x2 : Int32) (x3 : Int32) (M : MM), V G trI 4 0 0 11 [(0, .ref x0), (1, .int x1), (2, .int x2), (3, .int x3)] [] M (K11 x0 x1 x2 x3 M)) (x0 : Nat) (x1 : Int32) (x2 : Int32) (x3 : Int32) (M : MM) : V G trI 4 0 0 47 [(0, .ref x0), (1, .int x1), (2, .int x2), (3, .int x3)] [] M (f_X12_worth_47 K11 x0 x1 x2 x3 M) := by
  unfold f_X12_worth_47
  refine v_iinc X 50 3 (fun z => [(0, .ref x0), (1, .int x1), (2, .int x2), (3, .int z)]) dX12_worth_47 rfl ik_1 (by decide) (fun _ => rfl) rfl (fun y1 => ?_)
  refine v_goto X 11 dX12_worth_50 rfl ?_
  exact hK11 _ _ _ _ _
set_option maxRecDepth 4000 in
theorem L_X12_worth_43 {G : Gx} (X : Cb G cX12_worth 4 RX12 (RM 6 0 0) false) (Y : Cr G (some .int) 0 0) {K11 : Nat → Int32 → Int32 → Int32 → MM → Option (Int32 × MM)} (hK11 : ∀ (x0 : Nat) (x1 : Int32) (x2 : Int32) (x3 : Int32) (M : MM), V G trI 4 0 0 11 [(0, .ref x0), (1, .int x1), (2, .int x2), (3, .int x3)] [] M (K11 x0 x1 x2 x3 M)) (x0 : Nat) (x1 : Int32) (x3 : Int32) (s0 : Int32) (M : MM) : V G trI 4 0 0 43 [(0, .ref x0), (1, .int x1), (3, .int x3)] [.int s0] M (f_X12_worth_43 K11 x0 x1 x3 s0 M) := by
  unfold f_X12_worth_43
  refine v_istore_n (lv' := [(0, .ref x0), (1, .int x1), (2, .int s0), (3, .int x3)]) X 44 dX12_worth_43 (by decide) rfl rfl ?_
  refine v_iinc X 47 1 (fun z => [(0, .ref x0), (1, .int z), (2, .int s0), (3, .int x3)]) dX12_worth_44 rfl ik_1 (by decide) (fun _ => rfl) rfl (fun y1 => ?_)
  exact L_X12_worth_47 X Y hK11 _ _ _ _ _
set_option maxRecDepth 4000 in
theorem L_X12_worth_11 {G : Gx} (X : Cb G cX12_worth 4 RX12 (RM 6 0 0) false) (Y : Cr G (some .int) 0 0) : ∀ (n : Nat) (x0 : Nat) (x1 : Int32) (x2 : Int32) (x3 : Int32) (M : MM), V G trI 4 0 0 11 [(0, .ref x0), (1, .int x1), (2, .int x2), (3, .int x3)] [] M (f_X12_worth_11 n x0 x1 x2 x3 M) := by
  intro n
  induction n with
  | zero => intro x0 x1 x2 x3 M; rw [f_X12_worth_11]; exact v_none
  | succ n ih =>
    intro x0 x1 x2 x3 M
    rw [f_X12_worth_11]
    refine v_iload_n X 12 3 dX12_worth_11 rfl rfl ?_
    refine v_aload_n X 13 0 dX12_worth_12 rfl rfl ?_
    refine v_getR X 16 fl_X12_43.r dX12_worth_13 rfl (fun v1 => ?_)
    refine v_bipush X 18 dX12_worth_16 bk_45 rfl ?_
    refine v_iald X 19 dX12_worth_18 rfl (fun v2 => ?_)
    refine v_icge X 22 53 dX12_worth_19 rfl rfl ?_ ?_
    · refine v_aload_n X 54 0 dX12_worth_53 rfl rfl ?_
      refine v_iconst X 55 dX12_worth_54 ik_0 rfl ?_
      refine v_putI X 58 fl_X12_140 nof dX12_worth_55 rfl (fun M3 => ?_)
      refine v_aload_n X 59 0 dX12_worth_58 rfl rfl ?_
      refine v_iload_n X 60 1 dX12_worth_59 rfl rfl ?_
      refine v_i2l X 61 dX12_worth_60 rfl ?_
      refine v_vV X 64 cv_X12_enters ml_X12_414 (n1 := 1) rfl [.long (Int32.toInt64 x1)] rfl rfl rfl dX12_worth_61 rfl (fun M1 h => c_X12_enters _ _ _ _ _ h) (fun M4 => ?_)
      refine v_aload_n X 65 0 dX12_worth_64 rfl rfl ?_
      refine v_iload_n X 66 2 dX12_worth_65 rfl rfl ?_
      refine v_i2l X 67 dX12_worth_66 rfl ?_
      refine v_vV X 70 cv_X12_enters ml_X12_414 (n1 := 1) rfl [.long (Int32.toInt64 x2)] rfl rfl rfl dX12_worth_67 rfl (fun M1 h => c_X12_enters _ _ _ _ _ h) (fun M5 => ?_)
      refine v_aload_n X 71 0 dX12_worth_70 rfl rfl ?_
      refine v_aload_n X 72 0 dX12_worth_71 rfl rfl ?_
      refine v_getR X 75 fl_X12_43.r dX12_worth_72 rfl (fun v6 => ?_)
      refine v_vI X 78 cv_X12_worthAll ml_X12_418 (n1 := 5) rfl [.ref v6] rfl rfl rfl dX12_worth_75 rfl (fun r M1 h => c_X12_worthAll _ _ _ _ _ _ h) (fun r8 M7 => ?_)
      exact v_iret X Y (Nat.le_refl _) (Nat.le_refl _) dX12_worth_78
    · refine v_aload_n X 23 0 dX12_worth_22 rfl rfl ?_
      refine v_aload_n X 24 0 dX12_worth_23 rfl rfl ?_
      refine v_getR X 27 fl_X12_43.r dX12_worth_24 rfl (fun v9 => ?_)
      refine v_iload_n X 28 3 dX12_worth_27 rfl rfl ?_
      refine v_vI X 31 cv_X12_whyNot ml_X12_369 (n1 := 4) rfl [.ref v9, .int x3] rfl rfl rfl dX12_worth_28 rfl (fun r M1 h => c_X12_whyNot _ _ _ _ _ _ _ h) (fun r11 M10 => ?_)
      refine v_ifle X 34 47 dX12_worth_31 rfl rfl ?_ ?_
      · exact L_X12_worth_47 X Y ih _ _ _ _ _
      · refine v_iload_n X 35 2 dX12_worth_34 rfl rfl ?_
        refine v_ifge X 38 42 dX12_worth_35 rfl rfl ?_ ?_
        · refine v_iload_n X 43 2 dX12_worth_42 rfl rfl ?_
          exact v_sb [0, 1, 3] (L_X12_worth_43 X Y ih _ _ _ _ _) rfl
        · refine v_iload_n X 39 3 dX12_worth_38 rfl rfl ?_
          refine v_goto X 43 dX12_worth_39 rfl ?_
          exact v_sb [0, 1, 3] (L_X12_worth_43 X Y ih _ _ _ _ _) rfl
set_option maxRecDepth 4000 in
theorem L_X12_worth_0 {G : Gx} (X : Cb G cX12_worth 4 RX12 (RM 6 0 0) false) (Y : Cr G (some .int) 0 0) (x0 : Nat) (M : MM) : V G trI 4 0 0 0 [(0, .ref x0)] [] M (f_X12_worth_0 x0 M) := by
  unfold f_X12_worth_0
  refine v_aload_n X 1 0 dX12_worth_0 rfl rfl ?_
  refine v_iconst X 2 dX12_worth_1 ik_0 rfl ?_
  refine v_putI X 5 fl_X12_133 nof dX12_worth_2 rfl (fun M1 => ?_)
  refine v_iconst X 6 dX12_worth_5 ik_0 rfl ?_
  refine v_istore_n (lv' := [(0, .ref x0), (1, .int (0 : Int32))]) X 7 dX12_worth_6 (by decide) rfl rfl ?_
  refine v_iconst X 8 dX12_worth_7 ik_m1 rfl ?_
  refine v_istore_n (lv' := [(0, .ref x0), (1, .int (0 : Int32)), (2, .int (-1 : Int32))]) X 9 dX12_worth_8 (by decide) rfl rfl ?_
  refine v_iconst X 10 dX12_worth_9 ik_0 rfl ?_
  refine v_istore_n (lv' := [(0, .ref x0), (1, .int (0 : Int32)), (2, .int (-1 : Int32)), (3, .int (0 : Int32))]) X 11 dX12_worth_10 (by decide) rfl rfl ?_
  exact L_X12_worth_11 X Y 1024 _ _ _ _ _
theorem c_X12_worth (l : Launch) (x0 : Nat) (M : MM) (r : Int32) (M1 : MM) (h : f_X12_worth x0 M = some (r, M1)) : KV l yX12_worth cX12_worth 4 (some .int) (RM 6 0 0) false 12 x0 [] M (some (.int r)) M1 := by
  obtain ⟨hO, h2⟩ := iteO_some h
  exact ⟨hO, ct_of (tr := trI) (by decide) (Nat.le_of_ble_eq_true rfl) [(0, .ref x0)] rfl h2 (fun G X Y hn hl => L_X12_worth_0 X Y x0 M)⟩

def f_X12_benchLong_4 : Nat → Nat → Int32 → Int32 → Int32 → MM → Option (Int32 × MM)
  | 0, _, _, _, _, _ => none
  | n + 1, x0, x1, x2, x3, M =>
    b1 (gI 12 6 x0 M) fun v1 =>
    if v1 ≤ x3 then
      some (x2, M)
    else
      b1 (gR 12 15 x0 M) fun v2 =>
      b2 (f_X12_benchIn x0 v2 x3 M) fun r4 M3 =>
      b2 (f_X12_has r4 x1 M3) fun r6 M5 =>
      b2 (f_X12_flag r6 M5) fun r8 M7 =>
      bn (x2 + r8 : Int32) fun y9 =>
      bn (x3 + 1 : Int32) fun y10 =>
      f_X12_benchLong_4 n x0 x1 y9 y10 M7

def f_X12_benchLong_0 (x0 : Nat) (x1 : Int32) (M : MM) : Option (Int32 × MM) :=
    f_X12_benchLong_4 1024 x0 x1 (0 : Int32) (0 : Int32) M

def f_X12_benchLong (x0 : Nat) (x1 : Int32) (M : MM) : Option (Int32 × MM) := if isO 12 x0 M = true then f_X12_benchLong_0 x0 x1 M else none
set_option maxRecDepth 4000 in
theorem L_X12_benchLong_4 {G : Gx} (X : Cb G cX12_benchLong 4 RX12 (RM 5 0 0) false) (Y : Cr G (some .int) 0 0) : ∀ (n : Nat) (x0 : Nat) (x1 : Int32) (x2 : Int32) (x3 : Int32) (M : MM), V G trI 4 0 0 4 [(0, .ref x0), (1, .int x1), (2, .int x2), (3, .int x3)] [] M (f_X12_benchLong_4 n x0 x1 x2 x3 M) := by
  intro n
  induction n with
  | zero => intro x0 x1 x2 x3 M; rw [f_X12_benchLong_4]; exact v_none
  | succ n ih =>
    intro x0 x1 x2 x3 M
    rw [f_X12_benchLong_4]
    refine v_iload_n X 5 3 dX12_benchLong_4 rfl rfl ?_
    refine v_aload_n X 6 0 dX12_benchLong_5 rfl rfl ?_
    refine v_getI X 9 fl_X12_13.r dX12_benchLong_6 rfl (fun v1 => ?_)
    refine v_icge X 12 37 dX12_benchLong_9 rfl rfl ?_ ?_
    · refine v_iload_n X 38 2 dX12_benchLong_37 rfl rfl ?_
      exact v_iret X Y (Nat.le_refl _) (Nat.le_refl _) dX12_benchLong_38
    · refine v_iload_n X 13 2 dX12_benchLong_12 rfl rfl ?_
      refine v_aload_n X 14 0 dX12_benchLong_13 rfl rfl ?_
      refine v_aload_n X 15 0 dX12_benchLong_14 rfl rfl ?_
      refine v_getR X 18 fl_X12_43.r dX12_benchLong_15 rfl (fun v2 => ?_)
      refine v_iload_n X 19 3 dX12_benchLong_18 rfl rfl ?_
      refine v_vI X 22 cv_X12_benchIn ml_X12_323 (n1 := 4) rfl [.ref v2, .int x3] rfl rfl rfl dX12_benchLong_19 rfl (fun r M1 h => c_X12_benchIn _ _ _ _ _ _ _ h) (fun r4 M3 => ?_)
      refine v_iload_n X 23 1 dX12_benchLong_22 rfl rfl ?_
      refine v_sI X 26 cs_X12_has ml_X12_358 (n1 := 1) rfl [.int r4, .int x1] rfl rfl rfl dX12_benchLong_23 rfl (fun r M1 h => c_X12_has _ _ _ _ _ _ h) (fun r6 M5 => ?_)
      refine v_sI X 29 cs_X12_flag ml_X12_171 (n1 := 1) rfl [.int r6] rfl rfl rfl dX12_benchLong_26 rfl (fun r M1 h => c_X12_flag _ _ _ _ _ h) (fun r8 M7 => ?_)
      refine v_iadd X 30 dX12_benchLong_29 rfl ?_
      refine v_bnI (fun y9 => ?_)
      refine v_istore_n (lv' := [(0, .ref x0), (1, .int x1), (2, .int y9), (3, .int x3)]) X 31 dX12_benchLong_30 (by decide) rfl rfl ?_
      refine v_iinc X 34 3 (fun z => [(0, .ref x0), (1, .int x1), (2, .int y9), (3, .int z)]) dX12_benchLong_31 rfl ik_1 (by decide) (fun _ => rfl) rfl (fun y10 => ?_)
      refine v_goto X 4 dX12_benchLong_34 rfl ?_
      exact ih _ _ _ _ _
set_option maxRecDepth 4000 in
theorem L_X12_benchLong_0 {G : Gx} (X : Cb G cX12_benchLong 4 RX12 (RM 5 0 0) false) (Y : Cr G (some .int) 0 0) (x0 : Nat) (x1 : Int32) (M : MM) : V G trI 4 0 0 0 [(0, .ref x0), (1, .int x1)] [] M (f_X12_benchLong_0 x0 x1 M) := by
  unfold f_X12_benchLong_0
  refine v_iconst X 1 dX12_benchLong_0 ik_0 rfl ?_
  refine v_istore_n (lv' := [(0, .ref x0), (1, .int x1), (2, .int (0 : Int32))]) X 2 dX12_benchLong_1 (by decide) rfl rfl ?_
  refine v_iconst X 3 dX12_benchLong_2 ik_0 rfl ?_
  refine v_istore_n (lv' := [(0, .ref x0), (1, .int x1), (2, .int (0 : Int32)), (3, .int (0 : Int32))]) X 4 dX12_benchLong_3 (by decide) rfl rfl ?_
  exact L_X12_benchLong_4 X Y 1024 _ _ _ _ _
theorem c_X12_benchLong (l : Launch) (x0 : Nat) (x1 : Int32) (M : MM) (r : Int32) (M1 : MM) (h : f_X12_benchLong x0 x1 M = some (r, M1)) : KV l yX12_benchLong cX12_benchLong 4 (some .int) (RM 5 0 0) false 12 x0 [.int x1] M (some (.int r)) M1 := by
  obtain ⟨hO, h2⟩ := iteO_some h
  exact ⟨hO, ct_of (tr := trI) (by decide) (Nat.le_of_ble_eq_true rfl) [(0, .ref x0), (1, .int x1)] rfl h2 (fun G X Y hn hl => L_X12_benchLong_0 X Y x0 x1 M)⟩

def f_X12_stays_66 (K21 : Nat → Int32 → Int32 → Int32 → MM → Option (Int32 × MM)) (x0 : Nat) (x1 : Int32) (x3 : Int32) (s0 : Int32) (M : MM) : Option (Int32 × MM) :=
    bn (x3 + 1 : Int32) fun y1 =>
    K21 x0 x1 s0 y1 M

def f_X12_stays_47 (K21 : Nat → Int32 → Int32 → Int32 → MM → Option (Int32 × MM)) (x0 : Nat) (x2 : Int32) (x3 : Int32) (s0 : Int32) (M : MM) : Option (Int32 × MM) :=
    b2 (f_X12_benchLong x0 x3 M) fun r2 M1 =>
    b2 (f_X12_benchLong x0 x2 M1) fun r4 M3 =>
    if r4 ≤ r2 then
      f_X12_stays_66 K21 x0 s0 x3 x2 M3
    else
      f_X12_stays_66 K21 x0 s0 x3 x3 M3

def f_X12_stays_21 : Nat → Nat → Int32 → Int32 → Int32 → MM → Option (Int32 × MM)
  | 0, _, _, _, _, _ => none
  | n + 1, x0, x1, x2, x3, M =>
    b1 (gI 12 3 x0 M) fun v1 =>
    if v1 ≤ x3 then
      b1 (pI 12 1 x0 (0 : Int32) M) fun M2 =>
      b2 (f_X12_benchLong x0 x1 M2) fun r4 M3 =>
      b1 (f_X12_enters x0 (Int32.toInt64 r4) M3) fun M5 =>
      b1 (f_X12_enters x0 (Int32.toInt64 x2) M5) fun M6 =>
      b2 (f_X12_benchLong x0 x2 M6) fun r8 M7 =>
      b1 (f_X12_enters x0 (Int32.toInt64 r8) M7) fun M9 =>
      some (x1, M9)
    else
      b2 (f_X12_benchLong x0 x3 M) fun r11 M10 =>
      b2 (f_X12_benchLong x0 x1 M10) fun r13 M12 =>
      if r11 ≤ r13 then
        f_X12_stays_47 (f_X12_stays_21 n) x0 x2 x3 x1 M12
      else
        f_X12_stays_47 (f_X12_stays_21 n) x0 x2 x3 x3 M12

def f_X12_stays_0 (x0 : Nat) (M : MM) : Option (Int32 × MM) :=
    b1 (pI 12 0 x0 (0 : Int32) M) fun M1 =>
    b1 (gI 12 3 x0 M1) fun v2 =>
    if v2 = 0 then
      some ((-2 : Int32), M1)
    else
      f_X12_stays_21 1024 x0 (0 : Int32) (0 : Int32) (1 : Int32) M1

def f_X12_stays (x0 : Nat) (M : MM) : Option (Int32 × MM) := if isO 12 x0 M = true then f_X12_stays_0 x0 M else none
set_option maxRecDepth 4000 in
theorem L_X12_stays_66 {G : Gx} (X : Cb G cX12_stays 4 RX12 (RM 6 0 0) false) (Y : Cr G (some .int) 0 0) {K21 : Nat → Int32 → Int32 → Int32 → MM → Option (Int32 × MM)} (hK21 : ∀ (x0 : Nat) (x1 : Int32) (x2 : Int32) (x3 : Int32) (M : MM), V G trI 4 0 0 21 [(0, .ref x0), (1, .int x1), (2, .int x2), (3, .int x3)] [] M (K21 x0 x1 x2 x3 M)) (x0 : Nat) (x1 : Int32) (x3 : Int32) (s0 : Int32) (M : MM) : V G trI 4 0 0 66 [(0, .ref x0), (1, .int x1), (3, .int x3)] [.int s0] M (f_X12_stays_66 K21 x0 x1 x3 s0 M) := by
  unfold f_X12_stays_66
  refine v_istore_n (lv' := [(0, .ref x0), (1, .int x1), (2, .int s0), (3, .int x3)]) X 67 dX12_stays_66 (by decide) rfl rfl ?_
  refine v_iinc X 70 3 (fun z => [(0, .ref x0), (1, .int x1), (2, .int s0), (3, .int z)]) dX12_stays_67 rfl ik_1 (by decide) (fun _ => rfl) rfl (fun y1 => ?_)
  refine v_goto X 21 dX12_stays_70 rfl ?_
  exact hK21 _ _ _ _ _
set_option maxRecDepth 4000 in
theorem L_X12_stays_47 {G : Gx} (X : Cb G cX12_stays 4 RX12 (RM 6 0 0) false) (Y : Cr G (some .int) 0 0) {K21 : Nat → Int32 → Int32 → Int32 → MM → Option (Int32 × MM)} (hK21 : ∀ (x0 : Nat) (x1 : Int32) (x2 : Int32) (x3 : Int32) (M : MM), V G trI 4 0 0 21 [(0, .ref x0), (1, .int x1), (2, .int x2), (3, .int x3)] [] M (K21 x0 x1 x2 x3 M)) (x0 : Nat) (x2 : Int32) (x3 : Int32) (s0 : Int32) (M : MM) : V G trI 4 0 0 47 [(0, .ref x0), (2, .int x2), (3, .int x3)] [.int s0] M (f_X12_stays_47 K21 x0 x2 x3 s0 M) := by
  unfold f_X12_stays_47
  refine v_istore_n (lv' := [(0, .ref x0), (1, .int s0), (2, .int x2), (3, .int x3)]) X 48 dX12_stays_47 (by decide) rfl rfl ?_
  refine v_aload_n X 49 0 dX12_stays_48 rfl rfl ?_
  refine v_iload_n X 50 3 dX12_stays_49 rfl rfl ?_
  refine v_vI X 53 cv_X12_benchLong ml_X12_425 (n1 := 5) rfl [.int x3] rfl rfl rfl dX12_stays_50 rfl (fun r M1 h => c_X12_benchLong _ _ _ _ _ _ h) (fun r2 M1 => ?_)
  refine v_aload_n X 54 0 dX12_stays_53 rfl rfl ?_
  refine v_iload_n X 55 2 dX12_stays_54 rfl rfl ?_
  refine v_vI X 58 cv_X12_benchLong ml_X12_425 (n1 := 5) rfl [.int x2] rfl rfl rfl dX12_stays_55 rfl (fun r M1 h => c_X12_benchLong _ _ _ _ _ _ h) (fun r4 M3 => ?_)
  refine v_icge X 61 65 dX12_stays_58 rfl rfl ?_ ?_
  · refine v_iload_n X 66 2 dX12_stays_65 rfl rfl ?_
    exact v_sb [0, 1, 3] (L_X12_stays_66 X Y hK21 _ _ _ _ _) rfl
  · refine v_iload_n X 62 3 dX12_stays_61 rfl rfl ?_
    refine v_goto X 66 dX12_stays_62 rfl ?_
    exact v_sb [0, 1, 3] (L_X12_stays_66 X Y hK21 _ _ _ _ _) rfl
set_option maxRecDepth 4000 in
theorem L_X12_stays_21 {G : Gx} (X : Cb G cX12_stays 4 RX12 (RM 6 0 0) false) (Y : Cr G (some .int) 0 0) : ∀ (n : Nat) (x0 : Nat) (x1 : Int32) (x2 : Int32) (x3 : Int32) (M : MM), V G trI 4 0 0 21 [(0, .ref x0), (1, .int x1), (2, .int x2), (3, .int x3)] [] M (f_X12_stays_21 n x0 x1 x2 x3 M) := by
  intro n
  induction n with
  | zero => intro x0 x1 x2 x3 M; rw [f_X12_stays_21]; exact v_none
  | succ n ih =>
    intro x0 x1 x2 x3 M
    rw [f_X12_stays_21]
    refine v_iload_n X 22 3 dX12_stays_21 rfl rfl ?_
    refine v_aload_n X 23 0 dX12_stays_22 rfl rfl ?_
    refine v_getI X 26 fl_X12_143.r dX12_stays_23 rfl (fun v1 => ?_)
    refine v_icge X 29 73 dX12_stays_26 rfl rfl ?_ ?_
    · refine v_aload_n X 74 0 dX12_stays_73 rfl rfl ?_
      refine v_iconst X 75 dX12_stays_74 ik_0 rfl ?_
      refine v_putI X 78 fl_X12_140 nof dX12_stays_75 rfl (fun M2 => ?_)
      refine v_aload_n X 79 0 dX12_stays_78 rfl rfl ?_
      refine v_aload_n X 80 0 dX12_stays_79 rfl rfl ?_
      refine v_iload_n X 81 1 dX12_stays_80 rfl rfl ?_
      refine v_vI X 84 cv_X12_benchLong ml_X12_425 (n1 := 5) rfl [.int x1] rfl rfl rfl dX12_stays_81 rfl (fun r M1 h => c_X12_benchLong _ _ _ _ _ _ h) (fun r4 M3 => ?_)
      refine v_i2l X 85 dX12_stays_84 rfl ?_
      refine v_vV X 88 cv_X12_enters ml_X12_414 (n1 := 1) rfl [.long (Int32.toInt64 r4)] rfl rfl rfl dX12_stays_85 rfl (fun M1 h => c_X12_enters _ _ _ _ _ h) (fun M5 => ?_)
      refine v_aload_n X 89 0 dX12_stays_88 rfl rfl ?_
      refine v_iload_n X 90 2 dX12_stays_89 rfl rfl ?_
      refine v_i2l X 91 dX12_stays_90 rfl ?_
      refine v_vV X 94 cv_X12_enters ml_X12_414 (n1 := 1) rfl [.long (Int32.toInt64 x2)] rfl rfl rfl dX12_stays_91 rfl (fun M1 h => c_X12_enters _ _ _ _ _ h) (fun M6 => ?_)
      refine v_aload_n X 95 0 dX12_stays_94 rfl rfl ?_
      refine v_aload_n X 96 0 dX12_stays_95 rfl rfl ?_
      refine v_iload_n X 97 2 dX12_stays_96 rfl rfl ?_
      refine v_vI X 100 cv_X12_benchLong ml_X12_425 (n1 := 5) rfl [.int x2] rfl rfl rfl dX12_stays_97 rfl (fun r M1 h => c_X12_benchLong _ _ _ _ _ _ h) (fun r8 M7 => ?_)
      refine v_i2l X 101 dX12_stays_100 rfl ?_
      refine v_vV X 104 cv_X12_enters ml_X12_414 (n1 := 1) rfl [.long (Int32.toInt64 r8)] rfl rfl rfl dX12_stays_101 rfl (fun M1 h => c_X12_enters _ _ _ _ _ h) (fun M9 => ?_)
      refine v_iload_n X 105 1 dX12_stays_104 rfl rfl ?_
      exact v_iret X Y (Nat.le_refl _) (Nat.le_refl _) dX12_stays_105
    · refine v_aload_n X 30 0 dX12_stays_29 rfl rfl ?_
      refine v_iload_n X 31 3 dX12_stays_30 rfl rfl ?_
      refine v_vI X 34 cv_X12_benchLong ml_X12_425 (n1 := 5) rfl [.int x3] rfl rfl rfl dX12_stays_31 rfl (fun r M1 h => c_X12_benchLong _ _ _ _ _ _ h) (fun r11 M10 => ?_)
      refine v_aload_n X 35 0 dX12_stays_34 rfl rfl ?_
      refine v_iload_n X 36 1 dX12_stays_35 rfl rfl ?_
      refine v_vI X 39 cv_X12_benchLong ml_X12_425 (n1 := 5) rfl [.int x1] rfl rfl rfl dX12_stays_36 rfl (fun r M1 h => c_X12_benchLong _ _ _ _ _ _ h) (fun r13 M12 => ?_)
      refine v_icle X 42 46 dX12_stays_39 rfl rfl ?_ ?_
      · refine v_iload_n X 47 1 dX12_stays_46 rfl rfl ?_
        exact v_sb [0, 2, 3] (L_X12_stays_47 X Y ih _ _ _ _ _) rfl
      · refine v_iload_n X 43 3 dX12_stays_42 rfl rfl ?_
        refine v_goto X 47 dX12_stays_43 rfl ?_
        exact v_sb [0, 2, 3] (L_X12_stays_47 X Y ih _ _ _ _ _) rfl
set_option maxRecDepth 4000 in
theorem L_X12_stays_0 {G : Gx} (X : Cb G cX12_stays 4 RX12 (RM 6 0 0) false) (Y : Cr G (some .int) 0 0) (x0 : Nat) (M : MM) : V G trI 4 0 0 0 [(0, .ref x0)] [] M (f_X12_stays_0 x0 M) := by
  unfold f_X12_stays_0
  refine v_aload_n X 1 0 dX12_stays_0 rfl rfl ?_
  refine v_iconst X 2 dX12_stays_1 ik_0 rfl ?_
  refine v_putI X 5 fl_X12_133 nof dX12_stays_2 rfl (fun M1 => ?_)
  refine v_aload_n X 6 0 dX12_stays_5 rfl rfl ?_
  refine v_getI X 9 fl_X12_143.r dX12_stays_6 rfl (fun v2 => ?_)
  refine v_ifne X 12 15 dX12_stays_9 rfl rfl ?_ ?_
  · refine v_iconst X 16 dX12_stays_15 ik_0 rfl ?_
    refine v_istore_n (lv' := [(0, .ref x0), (1, .int (0 : Int32))]) X 17 dX12_stays_16 (by decide) rfl rfl ?_
    refine v_iconst X 18 dX12_stays_17 ik_0 rfl ?_
    refine v_istore_n (lv' := [(0, .ref x0), (1, .int (0 : Int32)), (2, .int (0 : Int32))]) X 19 dX12_stays_18 (by decide) rfl rfl ?_
    refine v_iconst X 20 dX12_stays_19 ik_1 rfl ?_
    refine v_istore_n (lv' := [(0, .ref x0), (1, .int (0 : Int32)), (2, .int (0 : Int32)), (3, .int (1 : Int32))]) X 21 dX12_stays_20 (by decide) rfl rfl ?_
    exact L_X12_stays_21 X Y 1024 _ _ _ _ _
  · refine v_bipush X 14 dX12_stays_12 bk_m2 rfl ?_
    exact v_iret X Y (Nat.le_refl _) (Nat.le_refl _) dX12_stays_14
theorem c_X12_stays (l : Launch) (x0 : Nat) (M : MM) (r : Int32) (M1 : MM) (h : f_X12_stays x0 M = some (r, M1)) : KV l yX12_stays cX12_stays 4 (some .int) (RM 6 0 0) false 12 x0 [] M (some (.int r)) M1 := by
  obtain ⟨hO, h2⟩ := iteO_some h
  exact ⟨hO, ct_of (tr := trI) (by decide) (Nat.le_of_ble_eq_true rfl) [(0, .ref x0)] rfl h2 (fun G X Y hn hl => L_X12_stays_0 X Y x0 M)⟩

def f_X12_stuck_111 (K20 : Nat → Int32 → Int32 → Int32 → Int32 → Int32 → Int32 → MM → Option (Int32 × MM)) (x0 : Nat) (x1 : Int32) (x2 : Int32) (x3 : Int32) (x4 : Int32) (x5 : Int32) (x6 : Int32) (M : MM) : Option (Int32 × MM) :=
    bn (x6 + 1 : Int32) fun y1 =>
    K20 x0 x1 x2 x3 x4 x5 y1 M

def f_X12_stuck_85 (K20 : Nat → Int32 → Int32 → Int32 → Int32 → Int32 → Int32 → MM → Option (Int32 × MM)) (x0 : Nat) (x1 : Int32) (x2 : Int32) (x3 : Int32) (x6 : Int32) (x8 : Int32) (s0 : Int32) (M : MM) : Option (Int32 × MM) :=
    if s0 ≤ x1 then
      f_X12_stuck_111 K20 x0 x1 x2 x3 x8 s0 x6 M
    else
      bn ((x6 - s0) + (1 : Int32) : Int32) fun y1 =>
      f_X12_stuck_111 K20 x0 s0 x8 y1 x8 s0 x6 M

def f_X12_stuck_59 (K20 : Nat → Int32 → Int32 → Int32 → Int32 → Int32 → Int32 → MM → Option (Int32 × MM)) (x0 : Nat) (x1 : Int32) (x2 : Int32) (x3 : Int32) (x4 : Int32) (x5 : Int32) (x6 : Int32) (s0 : Int32) (M : MM) : Option (Int32 × MM) :=
    if 0 ≤ s0 then
      if s0 = x4 then
        f_X12_stuck_85 K20 x0 x1 x2 x3 x6 s0 (x5 + (1 : Int32)) M
      else
        f_X12_stuck_85 K20 x0 x1 x2 x3 x6 s0 (1 : Int32) M
    else
      f_X12_stuck_85 K20 x0 x1 x2 x3 x6 s0 (0 : Int32) M

def f_X12_stuck_20 : Nat → Nat → Int32 → Int32 → Int32 → Int32 → Int32 → Int32 → MM → Option (Int32 × MM)
  | 0, _, _, _, _, _, _, _, _ => none
  | n + 1, x0, x1, x2, x3, x4, x5, x6, M =>
    b1 (gI 12 6 x0 M) fun v1 =>
    if v1 ≤ x6 then
      b1 (pI 12 1 x0 (0 : Int32) M) fun M2 =>
      b1 (f_X12_enters x0 (Int32.toInt64 x2) M2) fun M3 =>
      b1 (f_X12_enters x0 (Int32.toInt64 x3) M3) fun M4 =>
      some (x1, M4)
    else
      b1 (gR 12 15 x0 M) fun v5 =>
      b2 (f_X12_benchIn x0 v5 x6 M) fun r7 M6 =>
      b2 (f_J6_bitCount_0f7a4 r7 M6) fun r9 M8 =>
      if r9 = (1 : Int32) then
        b2 (f_J6_numberOfTrailingZeros_0f7a4 r7 M8) fun r11 M10 =>
        f_X12_stuck_59 (f_X12_stuck_20 n) x0 x1 x2 x3 x4 x5 x6 r11 M10
      else
        f_X12_stuck_59 (f_X12_stuck_20 n) x0 x1 x2 x3 x4 x5 x6 (-1 : Int32) M8

def f_X12_stuck_0 (x0 : Nat) (M : MM) : Option (Int32 × MM) :=
    b1 (pI 12 0 x0 (0 : Int32) M) fun M1 =>
    f_X12_stuck_20 1024 x0 (0 : Int32) (-1 : Int32) (-1 : Int32) (-1 : Int32) (0 : Int32) (0 : Int32) M1

def f_X12_stuck (x0 : Nat) (M : MM) : Option (Int32 × MM) := if isO 12 x0 M = true then f_X12_stuck_0 x0 M else none
set_option maxRecDepth 4000 in
theorem L_X12_stuck_111 {G : Gx} (X : Cb G cX12_stuck 9 RX12 (RM 5 0 0) false) (Y : Cr G (some .int) 0 0) {K20 : Nat → Int32 → Int32 → Int32 → Int32 → Int32 → Int32 → MM → Option (Int32 × MM)} (hK20 : ∀ (x0 : Nat) (x1 : Int32) (x2 : Int32) (x3 : Int32) (x4 : Int32) (x5 : Int32) (x6 : Int32) (M : MM), V G trI 9 0 0 20 [(0, .ref x0), (1, .int x1), (2, .int x2), (3, .int x3), (4, .int x4), (5, .int x5), (6, .int x6)] [] M (K20 x0 x1 x2 x3 x4 x5 x6 M)) (x0 : Nat) (x1 : Int32) (x2 : Int32) (x3 : Int32) (x4 : Int32) (x5 : Int32) (x6 : Int32) (M : MM) : V G trI 9 0 0 111 [(0, .ref x0), (1, .int x1), (2, .int x2), (3, .int x3), (4, .int x4), (5, .int x5), (6, .int x6)] [] M (f_X12_stuck_111 K20 x0 x1 x2 x3 x4 x5 x6 M) := by
  unfold f_X12_stuck_111
  refine v_iinc X 114 6 (fun z => [(0, .ref x0), (1, .int x1), (2, .int x2), (3, .int x3), (4, .int x4), (5, .int x5), (6, .int z)]) dX12_stuck_111 rfl ik_1 (by decide) (fun _ => rfl) rfl (fun y1 => ?_)
  refine v_goto X 20 dX12_stuck_114 rfl ?_
  exact hK20 _ _ _ _ _ _ _ _
set_option maxRecDepth 4000 in
theorem L_X12_stuck_85 {G : Gx} (X : Cb G cX12_stuck 9 RX12 (RM 5 0 0) false) (Y : Cr G (some .int) 0 0) {K20 : Nat → Int32 → Int32 → Int32 → Int32 → Int32 → Int32 → MM → Option (Int32 × MM)} (hK20 : ∀ (x0 : Nat) (x1 : Int32) (x2 : Int32) (x3 : Int32) (x4 : Int32) (x5 : Int32) (x6 : Int32) (M : MM), V G trI 9 0 0 20 [(0, .ref x0), (1, .int x1), (2, .int x2), (3, .int x3), (4, .int x4), (5, .int x5), (6, .int x6)] [] M (K20 x0 x1 x2 x3 x4 x5 x6 M)) (x0 : Nat) (x1 : Int32) (x2 : Int32) (x3 : Int32) (x6 : Int32) (x8 : Int32) (s0 : Int32) (M : MM) : V G trI 9 0 0 85 [(0, .ref x0), (1, .int x1), (2, .int x2), (3, .int x3), (6, .int x6), (8, .int x8)] [.int s0] M (f_X12_stuck_85 K20 x0 x1 x2 x3 x6 x8 s0 M) := by
  unfold f_X12_stuck_85
  refine v_istore (lv' := [(0, .ref x0), (1, .int x1), (2, .int x2), (3, .int x3), (5, .int s0), (6, .int x6), (8, .int x8)]) X 87 dX12_stuck_85 (by decide) rfl rfl ?_
  refine v_iload X 89 6 dX12_stuck_87 rfl rfl ?_
  refine v_istore (lv' := [(0, .ref x0), (1, .int x1), (2, .int x2), (3, .int x3), (4, .int x8), (5, .int s0), (6, .int x6), (8, .int x8)]) X 91 dX12_stuck_89 (by decide) rfl rfl ?_
  refine v_iload X 93 5 dX12_stuck_91 rfl rfl ?_
  refine v_iload_n X 94 1 dX12_stuck_93 rfl rfl ?_
  refine v_icle X 97 111 dX12_stuck_94 rfl rfl ?_ ?_
  · exact v_sb [0, 1, 2, 3, 4, 5, 6] (L_X12_stuck_111 X Y hK20 _ _ _ _ _ _ _ _) rfl
  · refine v_iload X 99 5 dX12_stuck_97 rfl rfl ?_
    refine v_istore_n (lv' := [(0, .ref x0), (1, .int s0), (2, .int x2), (3, .int x3), (4, .int x8), (5, .int s0), (6, .int x6), (8, .int x8)]) X 100 dX12_stuck_99 (by decide) rfl rfl ?_
    refine v_iload X 102 7 dX12_stuck_100 rfl rfl ?_
    refine v_istore_n (lv' := [(0, .ref x0), (1, .int s0), (2, .int x8), (3, .int x3), (4, .int x8), (5, .int s0), (6, .int x6), (8, .int x8)]) X 103 dX12_stuck_102 (by decide) rfl rfl ?_
    refine v_iload X 105 6 dX12_stuck_103 rfl rfl ?_
    refine v_iload X 107 5 dX12_stuck_105 rfl rfl ?_
    refine v_isub X 108 dX12_stuck_107 rfl ?_
    refine v_iconst X 109 dX12_stuck_108 ik_1 rfl ?_
    refine v_iadd X 110 dX12_stuck_109 rfl ?_
    refine v_bnI (fun y1 => ?_)
    refine v_istore_n (lv' := [(0, .ref x0), (1, .int s0), (2, .int x8), (3, .int y1), (4, .int x8), (5, .int s0), (6, .int x6), (8, .int x8)]) X 111 dX12_stuck_110 (by decide) rfl rfl ?_
    exact v_sb [0, 1, 2, 3, 4, 5, 6] (L_X12_stuck_111 X Y hK20 _ _ _ _ _ _ _ _) rfl
set_option maxRecDepth 4000 in
theorem L_X12_stuck_59 {G : Gx} (X : Cb G cX12_stuck 9 RX12 (RM 5 0 0) false) (Y : Cr G (some .int) 0 0) {K20 : Nat → Int32 → Int32 → Int32 → Int32 → Int32 → Int32 → MM → Option (Int32 × MM)} (hK20 : ∀ (x0 : Nat) (x1 : Int32) (x2 : Int32) (x3 : Int32) (x4 : Int32) (x5 : Int32) (x6 : Int32) (M : MM), V G trI 9 0 0 20 [(0, .ref x0), (1, .int x1), (2, .int x2), (3, .int x3), (4, .int x4), (5, .int x5), (6, .int x6)] [] M (K20 x0 x1 x2 x3 x4 x5 x6 M)) (x0 : Nat) (x1 : Int32) (x2 : Int32) (x3 : Int32) (x4 : Int32) (x5 : Int32) (x6 : Int32) (s0 : Int32) (M : MM) : V G trI 9 0 0 59 [(0, .ref x0), (1, .int x1), (2, .int x2), (3, .int x3), (4, .int x4), (5, .int x5), (6, .int x6)] [.int s0] M (f_X12_stuck_59 K20 x0 x1 x2 x3 x4 x5 x6 s0 M) := by
  unfold f_X12_stuck_59
  refine v_istore (lv' := [(0, .ref x0), (1, .int x1), (2, .int x2), (3, .int x3), (4, .int x4), (5, .int x5), (6, .int x6), (8, .int s0)]) X 61 dX12_stuck_59 (by decide) rfl rfl ?_
  refine v_iload X 63 7 dX12_stuck_61 rfl rfl ?_
  refine v_ifge X 66 70 dX12_stuck_63 rfl rfl ?_ ?_
  · refine v_iload X 72 7 dX12_stuck_70 rfl rfl ?_
    refine v_iload X 74 4 dX12_stuck_72 rfl rfl ?_
    refine v_icne X 77 84 dX12_stuck_74 rfl rfl ?_ ?_
    · refine v_iconst X 85 dX12_stuck_84 ik_1 rfl ?_
      exact v_sb [0, 1, 2, 3, 6, 7] (L_X12_stuck_85 X Y hK20 _ _ _ _ _ _ _ _) rfl
    · refine v_iload X 79 5 dX12_stuck_77 rfl rfl ?_
      refine v_iconst X 80 dX12_stuck_79 ik_1 rfl ?_
      refine v_iadd X 81 dX12_stuck_80 rfl ?_
      refine v_goto X 85 dX12_stuck_81 rfl ?_
      exact v_sb [0, 1, 2, 3, 6, 7] (L_X12_stuck_85 X Y hK20 _ _ _ _ _ _ _ _) rfl
  · refine v_iconst X 67 dX12_stuck_66 ik_0 rfl ?_
    refine v_goto X 85 dX12_stuck_67 rfl ?_
    exact v_sb [0, 1, 2, 3, 6, 7] (L_X12_stuck_85 X Y hK20 _ _ _ _ _ _ _ _) rfl
set_option maxRecDepth 4000 in
theorem L_X12_stuck_20 {G : Gx} (X : Cb G cX12_stuck 9 RX12 (RM 5 0 0) false) (Y : Cr G (some .int) 0 0) : ∀ (n : Nat) (x0 : Nat) (x1 : Int32) (x2 : Int32) (x3 : Int32) (x4 : Int32) (x5 : Int32) (x6 : Int32) (M : MM), V G trI 9 0 0 20 [(0, .ref x0), (1, .int x1), (2, .int x2), (3, .int x3), (4, .int x4), (5, .int x5), (6, .int x6)] [] M (f_X12_stuck_20 n x0 x1 x2 x3 x4 x5 x6 M) := by
  intro n
  induction n with
  | zero => intro x0 x1 x2 x3 x4 x5 x6 M; rw [f_X12_stuck_20]; exact v_none
  | succ n ih =>
    intro x0 x1 x2 x3 x4 x5 x6 M
    rw [f_X12_stuck_20]
    refine v_iload X 22 6 dX12_stuck_20 rfl rfl ?_
    refine v_aload_n X 23 0 dX12_stuck_22 rfl rfl ?_
    refine v_getI X 26 fl_X12_13.r dX12_stuck_23 rfl (fun v1 => ?_)
    refine v_icge X 29 117 dX12_stuck_26 rfl rfl ?_ ?_
    · refine v_aload_n X 118 0 dX12_stuck_117 rfl rfl ?_
      refine v_iconst X 119 dX12_stuck_118 ik_0 rfl ?_
      refine v_putI X 122 fl_X12_140 nof dX12_stuck_119 rfl (fun M2 => ?_)
      refine v_aload_n X 123 0 dX12_stuck_122 rfl rfl ?_
      refine v_iload_n X 124 2 dX12_stuck_123 rfl rfl ?_
      refine v_i2l X 125 dX12_stuck_124 rfl ?_
      refine v_vV X 128 cv_X12_enters ml_X12_414 (n1 := 1) rfl [.long (Int32.toInt64 x2)] rfl rfl rfl dX12_stuck_125 rfl (fun M1 h => c_X12_enters _ _ _ _ _ h) (fun M3 => ?_)
      refine v_aload_n X 129 0 dX12_stuck_128 rfl rfl ?_
      refine v_iload_n X 130 3 dX12_stuck_129 rfl rfl ?_
      refine v_i2l X 131 dX12_stuck_130 rfl ?_
      refine v_vV X 134 cv_X12_enters ml_X12_414 (n1 := 1) rfl [.long (Int32.toInt64 x3)] rfl rfl rfl dX12_stuck_131 rfl (fun M1 h => c_X12_enters _ _ _ _ _ h) (fun M4 => ?_)
      refine v_iload_n X 135 1 dX12_stuck_134 rfl rfl ?_
      exact v_iret X Y (Nat.le_refl _) (Nat.le_refl _) dX12_stuck_135
    · refine v_aload_n X 30 0 dX12_stuck_29 rfl rfl ?_
      refine v_aload_n X 31 0 dX12_stuck_30 rfl rfl ?_
      refine v_getR X 34 fl_X12_43.r dX12_stuck_31 rfl (fun v5 => ?_)
      refine v_iload X 36 6 dX12_stuck_34 rfl rfl ?_
      refine v_vI X 39 cv_X12_benchIn ml_X12_323 (n1 := 4) rfl [.ref v5, .int x6] rfl rfl rfl dX12_stuck_36 rfl (fun r M1 h => c_X12_benchIn _ _ _ _ _ _ _ h) (fun r7 M6 => ?_)
      refine v_istore (lv' := [(0, .ref x0), (1, .int x1), (2, .int x2), (3, .int x3), (4, .int x4), (5, .int x5), (6, .int x6), (7, .int r7)]) X 41 dX12_stuck_39 (by decide) rfl rfl ?_
      refine v_iload X 43 7 dX12_stuck_41 rfl rfl ?_
      refine v_sI X 46 cs_J6_bitCount_0f7a4 ml_X12_428 (n1 := 1) rfl [.int r7] rfl rfl rfl dX12_stuck_43 rfl (fun r M1 h => c_J6_bitCount_0f7a4 _ _ _ _ _ h) (fun r9 M8 => ?_)
      refine v_iconst X 47 dX12_stuck_46 ik_1 rfl ?_
      refine v_icne X 50 58 dX12_stuck_47 rfl rfl ?_ ?_
      · refine v_iconst X 59 dX12_stuck_58 ik_m1 rfl ?_
        exact v_sb [0, 1, 2, 3, 4, 5, 6] (L_X12_stuck_59 X Y ih _ _ _ _ _ _ _ _ _) rfl
      · refine v_iload X 52 7 dX12_stuck_50 rfl rfl ?_
        refine v_sI X 55 cs_J6_numberOfTrailingZeros_0f7a4 ml_X12_433 (n1 := 1) rfl [.int r7] rfl rfl rfl dX12_stuck_52 rfl (fun r M1 h => c_J6_numberOfTrailingZeros_0f7a4 _ _ _ _ _ h) (fun r11 M10 => ?_)
        refine v_goto X 59 dX12_stuck_55 rfl ?_
        exact v_sb [0, 1, 2, 3, 4, 5, 6] (L_X12_stuck_59 X Y ih _ _ _ _ _ _ _ _ _) rfl
set_option maxRecDepth 4000 in
theorem L_X12_stuck_0 {G : Gx} (X : Cb G cX12_stuck 9 RX12 (RM 5 0 0) false) (Y : Cr G (some .int) 0 0) (x0 : Nat) (M : MM) : V G trI 9 0 0 0 [(0, .ref x0)] [] M (f_X12_stuck_0 x0 M) := by
  unfold f_X12_stuck_0
  refine v_aload_n X 1 0 dX12_stuck_0 rfl rfl ?_
  refine v_iconst X 2 dX12_stuck_1 ik_0 rfl ?_
  refine v_putI X 5 fl_X12_133 nof dX12_stuck_2 rfl (fun M1 => ?_)
  refine v_iconst X 6 dX12_stuck_5 ik_0 rfl ?_
  refine v_istore_n (lv' := [(0, .ref x0), (1, .int (0 : Int32))]) X 7 dX12_stuck_6 (by decide) rfl rfl ?_
  refine v_iconst X 8 dX12_stuck_7 ik_m1 rfl ?_
  refine v_istore_n (lv' := [(0, .ref x0), (1, .int (0 : Int32)), (2, .int (-1 : Int32))]) X 9 dX12_stuck_8 (by decide) rfl rfl ?_
  refine v_iconst X 10 dX12_stuck_9 ik_m1 rfl ?_
  refine v_istore_n (lv' := [(0, .ref x0), (1, .int (0 : Int32)), (2, .int (-1 : Int32)), (3, .int (-1 : Int32))]) X 11 dX12_stuck_10 (by decide) rfl rfl ?_
  refine v_iconst X 12 dX12_stuck_11 ik_m1 rfl ?_
  refine v_istore (lv' := [(0, .ref x0), (1, .int (0 : Int32)), (2, .int (-1 : Int32)), (3, .int (-1 : Int32)), (4, .int (-1 : Int32))]) X 14 dX12_stuck_12 (by decide) rfl rfl ?_
  refine v_iconst X 15 dX12_stuck_14 ik_0 rfl ?_
  refine v_istore (lv' := [(0, .ref x0), (1, .int (0 : Int32)), (2, .int (-1 : Int32)), (3, .int (-1 : Int32)), (4, .int (-1 : Int32)), (5, .int (0 : Int32))]) X 17 dX12_stuck_15 (by decide) rfl rfl ?_
  refine v_iconst X 18 dX12_stuck_17 ik_0 rfl ?_
  refine v_istore (lv' := [(0, .ref x0), (1, .int (0 : Int32)), (2, .int (-1 : Int32)), (3, .int (-1 : Int32)), (4, .int (-1 : Int32)), (5, .int (0 : Int32)), (6, .int (0 : Int32))]) X 20 dX12_stuck_18 (by decide) rfl rfl ?_
  exact L_X12_stuck_20 X Y 1024 _ _ _ _ _ _ _ _
theorem c_X12_stuck (l : Launch) (x0 : Nat) (M : MM) (r : Int32) (M1 : MM) (h : f_X12_stuck x0 M = some (r, M1)) : KV l yX12_stuck cX12_stuck 9 (some .int) (RM 5 0 0) false 12 x0 [] M (some (.int r)) M1 := by
  obtain ⟨hO, h2⟩ := iteO_some h
  exact ⟨hO, ct_of (tr := trI) (by decide) (Nat.le_of_ble_eq_true rfl) [(0, .ref x0)] rfl h2 (fun G X Y hn hl => L_X12_stuck_0 X Y x0 M)⟩

def f_X12_hands_79 (K29 : Nat → Int32 → Int32 → Int32 → MM → Option (Int32 × MM)) (x0 : Nat) (x1 : Int32) (x2 : Int32) (x3 : Int32) (M : MM) : Option (Int32 × MM) :=
    bn (x3 + 1 : Int32) fun y1 =>
    K29 x0 x1 x2 y1 M

def f_X12_hands_29 : Nat → Nat → Int32 → Int32 → Int32 → MM → Option (Int32 × MM)
  | 0, _, _, _, _, _ => none
  | n + 1, x0, x1, x2, x3, M =>
    b1 (gR 12 15 x0 M) fun v1 =>
    b1 (ldI v1 (45 : Int32) M) fun v2 =>
    if v2 ≤ x3 then
      some ((-2 : Int32), M)
    else
      b1 (gR 12 13 x0 M) fun v3 =>
      b1 (gR 12 15 x0 M) fun v4 =>
      b2 (f_X12_what v4 x3 M) fun r6 M5 =>
      b1 (ldI v3 r6 M5) fun v7 =>
      if v7 = x1 then
        b1 (gR 12 15 x0 M5) fun v8 =>
        b2 (f_X12_isAway x0 v8 x3 x2 M5) fun r10 M9 =>
        if r10 = 0 then
          f_X12_hands_79 (f_X12_hands_29 n) x0 x1 x2 x3 M9
        else
          b1 (gR 12 15 x0 M9) fun v11 =>
          b2 (f_X12_who v11 x3 M9) fun r13 M12 =>
          some (r13, M12)
      else
        f_X12_hands_79 (f_X12_hands_29 n) x0 x1 x2 x3 M5

def f_X12_hands_0 (x0 : Nat) (x1 : Int32) (x2 : Int32) (M : MM) : Option (Int32 × MM) :=
    b1 (pI 12 0 x0 (0 : Int32) M) fun M1 =>
    b2 (f_X12_in (Int32.toInt64 x1) (1 : Int64) (2 : Int64) M1) fun r3 M2 =>
    if r3 = 0 then
      some ((-1 : Int32), M2)
    else
      b2 (f_X12_isMinute x0 x2 M2) fun r5 M4 =>
      if r5 = 0 then
        some ((-1 : Int32), M4)
      else
        f_X12_hands_29 1024 x0 x1 x2 (0 : Int32) M4

def f_X12_hands (x0 : Nat) (x1 : Int32) (x2 : Int32) (M : MM) : Option (Int32 × MM) := if isO 12 x0 M = true then f_X12_hands_0 x0 x1 x2 M else none
set_option maxRecDepth 4000 in
theorem L_X12_hands_79 {G : Gx} (X : Cb G cX12_hands 4 RX12 (RM 4 0 0) false) (Y : Cr G (some .int) 0 0) {K29 : Nat → Int32 → Int32 → Int32 → MM → Option (Int32 × MM)} (hK29 : ∀ (x0 : Nat) (x1 : Int32) (x2 : Int32) (x3 : Int32) (M : MM), V G trI 4 0 0 29 [(0, .ref x0), (1, .int x1), (2, .int x2), (3, .int x3)] [] M (K29 x0 x1 x2 x3 M)) (x0 : Nat) (x1 : Int32) (x2 : Int32) (x3 : Int32) (M : MM) : V G trI 4 0 0 79 [(0, .ref x0), (1, .int x1), (2, .int x2), (3, .int x3)] [] M (f_X12_hands_79 K29 x0 x1 x2 x3 M) := by
  unfold f_X12_hands_79
  refine v_iinc X 82 3 (fun z => [(0, .ref x0), (1, .int x1), (2, .int x2), (3, .int z)]) dX12_hands_79 rfl ik_1 (by decide) (fun _ => rfl) rfl (fun y1 => ?_)
  refine v_goto X 29 dX12_hands_82 rfl ?_
  exact hK29 _ _ _ _ _
set_option maxRecDepth 4000 in
theorem L_X12_hands_29 {G : Gx} (X : Cb G cX12_hands 4 RX12 (RM 4 0 0) false) (Y : Cr G (some .int) 0 0) : ∀ (n : Nat) (x0 : Nat) (x1 : Int32) (x2 : Int32) (x3 : Int32) (M : MM), V G trI 4 0 0 29 [(0, .ref x0), (1, .int x1), (2, .int x2), (3, .int x3)] [] M (f_X12_hands_29 n x0 x1 x2 x3 M) := by
  intro n
  induction n with
  | zero => intro x0 x1 x2 x3 M; rw [f_X12_hands_29]; exact v_none
  | succ n ih =>
    intro x0 x1 x2 x3 M
    rw [f_X12_hands_29]
    refine v_iload_n X 30 3 dX12_hands_29 rfl rfl ?_
    refine v_aload_n X 31 0 dX12_hands_30 rfl rfl ?_
    refine v_getR X 34 fl_X12_43.r dX12_hands_31 rfl (fun v1 => ?_)
    refine v_bipush X 36 dX12_hands_34 bk_45 rfl ?_
    refine v_iald X 37 dX12_hands_36 rfl (fun v2 => ?_)
    refine v_icge X 40 85 dX12_hands_37 rfl rfl ?_ ?_
    · refine v_bipush X 87 dX12_hands_85 bk_m2 rfl ?_
      exact v_iret X Y (Nat.le_refl _) (Nat.le_refl _) dX12_hands_87
    · refine v_aload_n X 41 0 dX12_hands_40 rfl rfl ?_
      refine v_getR X 44 fl_X12_37.r dX12_hands_41 rfl (fun v3 => ?_)
      refine v_aload_n X 45 0 dX12_hands_44 rfl rfl ?_
      refine v_getR X 48 fl_X12_43.r dX12_hands_45 rfl (fun v4 => ?_)
      refine v_iload_n X 49 3 dX12_hands_48 rfl rfl ?_
      refine v_sI X 52 cs_X12_what ml_X12_278 (n1 := 1) rfl [.ref v4, .int x3] rfl rfl rfl dX12_hands_49 rfl (fun r M1 h => c_X12_what _ _ _ _ _ _ h) (fun r6 M5 => ?_)
      refine v_iald X 53 dX12_hands_52 rfl (fun v7 => ?_)
      refine v_iload_n X 54 1 dX12_hands_53 rfl rfl ?_
      refine v_icne X 57 79 dX12_hands_54 rfl rfl ?_ ?_
      · exact L_X12_hands_79 X Y ih _ _ _ _ _
      · refine v_aload_n X 58 0 dX12_hands_57 rfl rfl ?_
        refine v_aload_n X 59 0 dX12_hands_58 rfl rfl ?_
        refine v_getR X 62 fl_X12_43.r dX12_hands_59 rfl (fun v8 => ?_)
        refine v_iload_n X 63 3 dX12_hands_62 rfl rfl ?_
        refine v_iload_n X 64 2 dX12_hands_63 rfl rfl ?_
        refine v_vI X 67 cv_X12_isAway ml_X12_317 (n1 := 3) rfl [.ref v8, .int x3, .int x2] rfl rfl rfl dX12_hands_64 rfl (fun r M1 h => c_X12_isAway _ _ _ _ _ _ _ _ h) (fun r10 M9 => ?_)
        refine v_ifeq X 70 79 dX12_hands_67 rfl rfl ?_ ?_
        · exact L_X12_hands_79 X Y ih _ _ _ _ _
        · refine v_aload_n X 71 0 dX12_hands_70 rfl rfl ?_
          refine v_getR X 74 fl_X12_43.r dX12_hands_71 rfl (fun v11 => ?_)
          refine v_iload_n X 75 3 dX12_hands_74 rfl rfl ?_
          refine v_sI X 78 cs_X12_who ml_X12_293 (n1 := 1) rfl [.ref v11, .int x3] rfl rfl rfl dX12_hands_75 rfl (fun r M1 h => c_X12_who _ _ _ _ _ _ h) (fun r13 M12 => ?_)
          exact v_iret X Y (Nat.le_refl _) (Nat.le_refl _) dX12_hands_78
set_option maxRecDepth 4000 in
theorem L_X12_hands_0 {G : Gx} (X : Cb G cX12_hands 4 RX12 (RM 4 0 0) false) (Y : Cr G (some .int) 0 0) (x0 : Nat) (x1 : Int32) (x2 : Int32) (M : MM) : V G trI 4 0 0 0 [(0, .ref x0), (1, .int x1), (2, .int x2)] [] M (f_X12_hands_0 x0 x1 x2 M) := by
  unfold f_X12_hands_0
  refine v_aload_n X 1 0 dX12_hands_0 rfl rfl ?_
  refine v_iconst X 2 dX12_hands_1 ik_0 rfl ?_
  refine v_putI X 5 fl_X12_133 nof dX12_hands_2 rfl (fun M1 => ?_)
  refine v_iload_n X 6 1 dX12_hands_5 rfl rfl ?_
  refine v_i2l X 7 dX12_hands_6 rfl ?_
  refine v_lconst X 8 dX12_hands_7 lk_1 rfl ?_
  refine v_ldc2 X 11 dX12_hands_8 kl_X12_436 rfl ?_
  refine v_sI X 14 cs_X12_in ml_X12_146 (n1 := 1) rfl [.long (Int32.toInt64 x1), .long (1 : Int64), .long (2 : Int64)] rfl rfl rfl dX12_hands_11 rfl (fun r M1 h => c_X12_in _ _ _ _ _ _ _ h) (fun r3 M2 => ?_)
  refine v_ifeq X 17 25 dX12_hands_14 rfl rfl ?_ ?_
  · refine v_iconst X 26 dX12_hands_25 ik_m1 rfl ?_
    exact v_iret X Y (Nat.le_refl _) (Nat.le_refl _) dX12_hands_26
  · refine v_aload_n X 18 0 dX12_hands_17 rfl rfl ?_
    refine v_iload_n X 19 2 dX12_hands_18 rfl rfl ?_
    refine v_vI X 22 cv_X12_isMinute ml_X12_422 (n1 := 2) rfl [.int x2] rfl rfl rfl dX12_hands_19 rfl (fun r M1 h => c_X12_isMinute _ _ _ _ _ _ h) (fun r5 M4 => ?_)
    refine v_ifne X 25 27 dX12_hands_22 rfl rfl ?_ ?_
    · refine v_iconst X 28 dX12_hands_27 ik_0 rfl ?_
      refine v_istore_n (lv' := [(0, .ref x0), (1, .int x1), (2, .int x2), (3, .int (0 : Int32))]) X 29 dX12_hands_28 (by decide) rfl rfl ?_
      exact L_X12_hands_29 X Y 1024 _ _ _ _ _
    · refine v_iconst X 26 dX12_hands_25 ik_m1 rfl ?_
      exact v_iret X Y (Nat.le_refl _) (Nat.le_refl _) dX12_hands_26
theorem c_X12_hands (l : Launch) (x0 : Nat) (x1 : Int32) (x2 : Int32) (M : MM) (r : Int32) (M1 : MM) (h : f_X12_hands x0 x1 x2 M = some (r, M1)) : KV l yX12_hands cX12_hands 4 (some .int) (RM 4 0 0) false 12 x0 [.int x1, .int x2] M (some (.int r)) M1 := by
  obtain ⟨hO, h2⟩ := iteO_some h
  exact ⟨hO, ct_of (tr := trI) (by decide) (Nat.le_of_ble_eq_true rfl) [(0, .ref x0), (1, .int x1), (2, .int x2)] rfl h2 (fun G X Y hn hl => L_X12_hands_0 X Y x0 x1 x2 M)⟩

def f_X12_earliestFor_2 : Nat → Nat → Int32 → Int32 → Int32 → MM → Option (Int32 × MM)
  | 0, _, _, _, _, _ => none
  | n + 1, x0, x1, x2, x3, M =>
    if (99 : Int32) < x3 then
      some ((-2 : Int32), M)
    else
      b2 (f_X12_mayNot x0 x1 x2 x3 M) fun r2 M1 =>
      if r2 = 0 then
        some (x3, M1)
      else
        bn (x3 + 1 : Int32) fun y3 =>
        f_X12_earliestFor_2 n x0 x1 x2 y3 M1

def f_X12_earliestFor_0 (x0 : Nat) (x1 : Int32) (x2 : Int32) (M : MM) : Option (Int32 × MM) :=
    f_X12_earliestFor_2 1024 x0 x1 x2 (0 : Int32) M

def f_X12_earliestFor (x0 : Nat) (x1 : Int32) (x2 : Int32) (M : MM) : Option (Int32 × MM) := if isO 12 x0 M = true then f_X12_earliestFor_0 x0 x1 x2 M else none
set_option maxRecDepth 4000 in
theorem L_X12_earliestFor_2 {G : Gx} (X : Cb G cX12_earliestFor 4 RX12 (RM 8 0 0) false) (Y : Cr G (some .int) 0 0) : ∀ (n : Nat) (x0 : Nat) (x1 : Int32) (x2 : Int32) (x3 : Int32) (M : MM), V G trI 4 0 0 2 [(0, .ref x0), (1, .int x1), (2, .int x2), (3, .int x3)] [] M (f_X12_earliestFor_2 n x0 x1 x2 x3 M) := by
  intro n
  induction n with
  | zero => intro x0 x1 x2 x3 M; rw [f_X12_earliestFor_2]; exact v_none
  | succ n ih =>
    intro x0 x1 x2 x3 M
    rw [f_X12_earliestFor_2]
    refine v_iload_n X 3 3 dX12_earliestFor_2 rfl rfl ?_
    refine v_bipush X 5 dX12_earliestFor_3 bk_99 rfl ?_
    refine v_icgt X 8 26 dX12_earliestFor_5 rfl rfl ?_ ?_
    · refine v_bipush X 28 dX12_earliestFor_26 bk_m2 rfl ?_
      exact v_iret X Y (Nat.le_refl _) (Nat.le_refl _) dX12_earliestFor_28
    · refine v_aload_n X 9 0 dX12_earliestFor_8 rfl rfl ?_
      refine v_iload_n X 10 1 dX12_earliestFor_9 rfl rfl ?_
      refine v_iload_n X 11 2 dX12_earliestFor_10 rfl rfl ?_
      refine v_iload_n X 12 3 dX12_earliestFor_11 rfl rfl ?_
      refine v_vI X 15 cv_X12_mayNot ml_X12_385 (n1 := 7) rfl [.int x1, .int x2, .int x3] rfl rfl rfl dX12_earliestFor_12 rfl (fun r M1 h => c_X12_mayNot _ _ _ _ _ _ _ _ h) (fun r2 M1 => ?_)
      refine v_ifne X 18 20 dX12_earliestFor_15 rfl rfl ?_ ?_
      · refine v_iinc X 23 3 (fun z => [(0, .ref x0), (1, .int x1), (2, .int x2), (3, .int z)]) dX12_earliestFor_20 rfl ik_1 (by decide) (fun _ => rfl) rfl (fun y3 => ?_)
        refine v_goto X 2 dX12_earliestFor_23 rfl ?_
        exact ih _ _ _ _ _
      · refine v_iload_n X 19 3 dX12_earliestFor_18 rfl rfl ?_
        exact v_iret X Y (Nat.le_refl _) (Nat.le_refl _) dX12_earliestFor_19
set_option maxRecDepth 4000 in
theorem L_X12_earliestFor_0 {G : Gx} (X : Cb G cX12_earliestFor 4 RX12 (RM 8 0 0) false) (Y : Cr G (some .int) 0 0) (x0 : Nat) (x1 : Int32) (x2 : Int32) (M : MM) : V G trI 4 0 0 0 [(0, .ref x0), (1, .int x1), (2, .int x2)] [] M (f_X12_earliestFor_0 x0 x1 x2 M) := by
  unfold f_X12_earliestFor_0
  refine v_iconst X 1 dX12_earliestFor_0 ik_0 rfl ?_
  refine v_istore_n (lv' := [(0, .ref x0), (1, .int x1), (2, .int x2), (3, .int (0 : Int32))]) X 2 dX12_earliestFor_1 (by decide) rfl rfl ?_
  exact L_X12_earliestFor_2 X Y 1024 _ _ _ _ _
theorem c_X12_earliestFor (l : Launch) (x0 : Nat) (x1 : Int32) (x2 : Int32) (M : MM) (r : Int32) (M1 : MM) (h : f_X12_earliestFor x0 x1 x2 M = some (r, M1)) : KV l yX12_earliestFor cX12_earliestFor 4 (some .int) (RM 8 0 0) false 12 x0 [.int x1, .int x2] M (some (.int r)) M1 := by
  obtain ⟨hO, h2⟩ := iteO_some h
  exact ⟨hO, ct_of (tr := trI) (by decide) (Nat.le_of_ble_eq_true rfl) [(0, .ref x0), (1, .int x1), (2, .int x2)] rfl h2 (fun G X Y hn hl => L_X12_earliestFor_0 X Y x0 x1 x2 M)⟩

def f_X12_latestFor_3 : Nat → Nat → Int32 → Int32 → Int32 → MM → Option (Int32 × MM)
  | 0, _, _, _, _, _ => none
  | n + 1, x0, x1, x2, x3, M =>
    if x3 < 0 then
      some ((-2 : Int32), M)
    else
      b2 (f_X12_mayNot x0 x1 x2 x3 M) fun r2 M1 =>
      if r2 = 0 then
        some (x3, M1)
      else
        bn (x3 + (-1) : Int32) fun y3 =>
        f_X12_latestFor_3 n x0 x1 x2 y3 M1

def f_X12_latestFor_0 (x0 : Nat) (x1 : Int32) (x2 : Int32) (M : MM) : Option (Int32 × MM) :=
    f_X12_latestFor_3 1024 x0 x1 x2 (99 : Int32) M

def f_X12_latestFor (x0 : Nat) (x1 : Int32) (x2 : Int32) (M : MM) : Option (Int32 × MM) := if isO 12 x0 M = true then f_X12_latestFor_0 x0 x1 x2 M else none
set_option maxRecDepth 4000 in
theorem L_X12_latestFor_3 {G : Gx} (X : Cb G cX12_latestFor 4 RX12 (RM 8 0 0) false) (Y : Cr G (some .int) 0 0) : ∀ (n : Nat) (x0 : Nat) (x1 : Int32) (x2 : Int32) (x3 : Int32) (M : MM), V G trI 4 0 0 3 [(0, .ref x0), (1, .int x1), (2, .int x2), (3, .int x3)] [] M (f_X12_latestFor_3 n x0 x1 x2 x3 M) := by
  intro n
  induction n with
  | zero => intro x0 x1 x2 x3 M; rw [f_X12_latestFor_3]; exact v_none
  | succ n ih =>
    intro x0 x1 x2 x3 M
    rw [f_X12_latestFor_3]
    refine v_iload_n X 4 3 dX12_latestFor_3 rfl rfl ?_
    refine v_iflt X 7 25 dX12_latestFor_4 rfl rfl ?_ ?_
    · refine v_bipush X 27 dX12_latestFor_25 bk_m2 rfl ?_
      exact v_iret X Y (Nat.le_refl _) (Nat.le_refl _) dX12_latestFor_27
    · refine v_aload_n X 8 0 dX12_latestFor_7 rfl rfl ?_
      refine v_iload_n X 9 1 dX12_latestFor_8 rfl rfl ?_
      refine v_iload_n X 10 2 dX12_latestFor_9 rfl rfl ?_
      refine v_iload_n X 11 3 dX12_latestFor_10 rfl rfl ?_
      refine v_vI X 14 cv_X12_mayNot ml_X12_385 (n1 := 7) rfl [.int x1, .int x2, .int x3] rfl rfl rfl dX12_latestFor_11 rfl (fun r M1 h => c_X12_mayNot _ _ _ _ _ _ _ _ h) (fun r2 M1 => ?_)
      refine v_ifne X 17 19 dX12_latestFor_14 rfl rfl ?_ ?_
      · refine v_iinc X 22 3 (fun z => [(0, .ref x0), (1, .int x1), (2, .int x2), (3, .int z)]) dX12_latestFor_19 rfl ik_m1 (by decide) (fun _ => rfl) rfl (fun y3 => ?_)
        refine v_goto X 3 dX12_latestFor_22 rfl ?_
        exact ih _ _ _ _ _
      · refine v_iload_n X 18 3 dX12_latestFor_17 rfl rfl ?_
        exact v_iret X Y (Nat.le_refl _) (Nat.le_refl _) dX12_latestFor_18
set_option maxRecDepth 4000 in
theorem L_X12_latestFor_0 {G : Gx} (X : Cb G cX12_latestFor 4 RX12 (RM 8 0 0) false) (Y : Cr G (some .int) 0 0) (x0 : Nat) (x1 : Int32) (x2 : Int32) (M : MM) : V G trI 4 0 0 0 [(0, .ref x0), (1, .int x1), (2, .int x2)] [] M (f_X12_latestFor_0 x0 x1 x2 M) := by
  unfold f_X12_latestFor_0
  refine v_bipush X 2 dX12_latestFor_0 bk_99 rfl ?_
  refine v_istore_n (lv' := [(0, .ref x0), (1, .int x1), (2, .int x2), (3, .int (99 : Int32))]) X 3 dX12_latestFor_2 (by decide) rfl rfl ?_
  exact L_X12_latestFor_3 X Y 1024 _ _ _ _ _
theorem c_X12_latestFor (l : Launch) (x0 : Nat) (x1 : Int32) (x2 : Int32) (M : MM) (r : Int32) (M1 : MM) (h : f_X12_latestFor x0 x1 x2 M = some (r, M1)) : KV l yX12_latestFor cX12_latestFor 4 (some .int) (RM 8 0 0) false 12 x0 [.int x1, .int x2] M (some (.int r)) M1 := by
  obtain ⟨hO, h2⟩ := iteO_some h
  exact ⟨hO, ct_of (tr := trI) (by decide) (Nat.le_of_ble_eq_true rfl) [(0, .ref x0), (1, .int x1), (2, .int x2)] rfl h2 (fun G X Y hn hl => L_X12_latestFor_0 X Y x0 x1 x2 M)⟩

def f_X12_tellsBack_0 (x0 : Nat) (x1 : Int32) (x2 : Int32) (M : MM) : Option (Int32 × MM) :=
    if x2 < 0 then
      some (x2, M)
    else
      b1 (pI 12 1 x0 (0 : Int32) M) fun M1 =>
      b2 (f_X12_awayLong x0 x1 M1) fun r3 M2 =>
      b1 (f_X12_enters x0 (Int32.toInt64 (x2 + r3)) M2) fun M4 =>
      some (x2, M4)

def f_X12_tellsBack (x0 : Nat) (x1 : Int32) (x2 : Int32) (M : MM) : Option (Int32 × MM) := if isO 12 x0 M = true then f_X12_tellsBack_0 x0 x1 x2 M else none
set_option maxRecDepth 4000 in
theorem L_X12_tellsBack_0 {G : Gx} (X : Cb G cX12_tellsBack 3 RX12 (RM 2 0 0) false) (Y : Cr G (some .int) 0 0) (x0 : Nat) (x1 : Int32) (x2 : Int32) (M : MM) : V G trI 3 0 0 0 [(0, .ref x0), (1, .int x1), (2, .int x2)] [] M (f_X12_tellsBack_0 x0 x1 x2 M) := by
  unfold f_X12_tellsBack_0
  refine v_iload_n X 1 2 dX12_tellsBack_0 rfl rfl ?_
  refine v_iflt X 4 21 dX12_tellsBack_1 rfl rfl ?_ ?_
  · refine v_iload_n X 22 2 dX12_tellsBack_21 rfl rfl ?_
    exact v_iret X Y (Nat.le_refl _) (Nat.le_refl _) dX12_tellsBack_22
  · refine v_aload_n X 5 0 dX12_tellsBack_4 rfl rfl ?_
    refine v_iconst X 6 dX12_tellsBack_5 ik_0 rfl ?_
    refine v_putI X 9 fl_X12_140 nof dX12_tellsBack_6 rfl (fun M1 => ?_)
    refine v_aload_n X 10 0 dX12_tellsBack_9 rfl rfl ?_
    refine v_iload_n X 11 2 dX12_tellsBack_10 rfl rfl ?_
    refine v_aload_n X 12 0 dX12_tellsBack_11 rfl rfl ?_
    refine v_iload_n X 13 1 dX12_tellsBack_12 rfl rfl ?_
    refine v_vI X 16 cv_X12_awayLong ml_X12_281 (n1 := 1) rfl [.int x1] rfl rfl rfl dX12_tellsBack_13 rfl (fun r M1 h => c_X12_awayLong _ _ _ _ _ _ h) (fun r3 M2 => ?_)
    refine v_iadd X 17 dX12_tellsBack_16 rfl ?_
    refine v_i2l X 18 dX12_tellsBack_17 rfl ?_
    refine v_vV X 21 cv_X12_enters ml_X12_414 (n1 := 1) rfl [.long (Int32.toInt64 (x2 + r3))] rfl rfl rfl dX12_tellsBack_18 rfl (fun M1 h => c_X12_enters _ _ _ _ _ h) (fun M4 => ?_)
    refine v_iload_n X 22 2 dX12_tellsBack_21 rfl rfl ?_
    exact v_iret X Y (Nat.le_refl _) (Nat.le_refl _) dX12_tellsBack_22
theorem c_X12_tellsBack (l : Launch) (x0 : Nat) (x1 : Int32) (x2 : Int32) (M : MM) (r : Int32) (M1 : MM) (h : f_X12_tellsBack x0 x1 x2 M = some (r, M1)) : KV l yX12_tellsBack cX12_tellsBack 3 (some .int) (RM 2 0 0) false 12 x0 [.int x1, .int x2] M (some (.int r)) M1 := by
  obtain ⟨hO, h2⟩ := iteO_some h
  exact ⟨hO, ct_of (tr := trI) (by decide) (Nat.le_of_ble_eq_true rfl) [(0, .ref x0), (1, .int x1), (2, .int x2)] rfl h2 (fun G X Y hn hl => L_X12_tellsBack_0 X Y x0 x1 x2 M)⟩

def f_X12_earliest_0 (x0 : Nat) (x1 : Int32) (x2 : Int32) (M : MM) : Option (Int32 × MM) :=
    b1 (pI 12 0 x0 (0 : Int32) M) fun M1 =>
    b2 (f_X12_isPerson x0 x1 M1) fun r3 M2 =>
    if r3 = 0 then
      some ((-1 : Int32), M2)
    else
      b2 (f_X12_isErrand x0 x2 M2) fun r5 M4 =>
      if r5 = 0 then
        some ((-1 : Int32), M4)
      else
        b2 (f_X12_earliestFor x0 x1 x2 M4) fun r7 M6 =>
        b2 (f_X12_tellsBack x0 x2 r7 M6) fun r9 M8 =>
        some (r9, M8)

def f_X12_earliest (x0 : Nat) (x1 : Int32) (x2 : Int32) (M : MM) : Option (Int32 × MM) := if isO 12 x0 M = true then f_X12_earliest_0 x0 x1 x2 M else none
set_option maxRecDepth 4000 in
theorem L_X12_earliest_0 {G : Gx} (X : Cb G cX12_earliest 3 RX12 (RM 9 0 0) false) (Y : Cr G (some .int) 0 0) (x0 : Nat) (x1 : Int32) (x2 : Int32) (M : MM) : V G trI 3 0 0 0 [(0, .ref x0), (1, .int x1), (2, .int x2)] [] M (f_X12_earliest_0 x0 x1 x2 M) := by
  unfold f_X12_earliest_0
  refine v_aload_n X 1 0 dX12_earliest_0 rfl rfl ?_
  refine v_iconst X 2 dX12_earliest_1 ik_0 rfl ?_
  refine v_putI X 5 fl_X12_133 nof dX12_earliest_2 rfl (fun M1 => ?_)
  refine v_aload_n X 6 0 dX12_earliest_5 rfl rfl ?_
  refine v_iload_n X 7 1 dX12_earliest_6 rfl rfl ?_
  refine v_vI X 10 cv_X12_isPerson ml_X12_247 (n1 := 2) rfl [.int x1] rfl rfl rfl dX12_earliest_7 rfl (fun r M1 h => c_X12_isPerson _ _ _ _ _ _ h) (fun r3 M2 => ?_)
  refine v_ifeq X 13 35 dX12_earliest_10 rfl rfl ?_ ?_
  · refine v_iconst X 36 dX12_earliest_35 ik_m1 rfl ?_
    exact v_iret X Y (Nat.le_refl _) (Nat.le_refl _) dX12_earliest_36
  · refine v_aload_n X 14 0 dX12_earliest_13 rfl rfl ?_
    refine v_iload_n X 15 2 dX12_earliest_14 rfl rfl ?_
    refine v_vI X 18 cv_X12_isErrand ml_X12_361 (n1 := 2) rfl [.int x2] rfl rfl rfl dX12_earliest_15 rfl (fun r M1 h => c_X12_isErrand _ _ _ _ _ _ h) (fun r5 M4 => ?_)
    refine v_ifeq X 21 35 dX12_earliest_18 rfl rfl ?_ ?_
    · refine v_iconst X 36 dX12_earliest_35 ik_m1 rfl ?_
      exact v_iret X Y (Nat.le_refl _) (Nat.le_refl _) dX12_earliest_36
    · refine v_aload_n X 22 0 dX12_earliest_21 rfl rfl ?_
      refine v_iload_n X 23 2 dX12_earliest_22 rfl rfl ?_
      refine v_aload_n X 24 0 dX12_earliest_23 rfl rfl ?_
      refine v_iload_n X 25 1 dX12_earliest_24 rfl rfl ?_
      refine v_iload_n X 26 2 dX12_earliest_25 rfl rfl ?_
      refine v_vI X 29 cv_X12_earliestFor ml_X12_438 (n1 := 8) rfl [.int x1, .int x2] rfl rfl rfl dX12_earliest_26 rfl (fun r M1 h => c_X12_earliestFor _ _ _ _ _ _ _ h) (fun r7 M6 => ?_)
      refine v_vI X 32 cv_X12_tellsBack ml_X12_441 (n1 := 2) rfl [.int x2, .int r7] rfl rfl rfl dX12_earliest_29 rfl (fun r M1 h => c_X12_tellsBack _ _ _ _ _ _ _ h) (fun r9 M8 => ?_)
      refine v_goto X 36 dX12_earliest_32 rfl ?_
      exact v_iret X Y (Nat.le_refl _) (Nat.le_refl _) dX12_earliest_36
theorem c_X12_earliest (l : Launch) (x0 : Nat) (x1 : Int32) (x2 : Int32) (M : MM) (r : Int32) (M1 : MM) (h : f_X12_earliest x0 x1 x2 M = some (r, M1)) : KV l yX12_earliest cX12_earliest 3 (some .int) (RM 9 0 0) false 12 x0 [.int x1, .int x2] M (some (.int r)) M1 := by
  obtain ⟨hO, h2⟩ := iteO_some h
  exact ⟨hO, ct_of (tr := trI) (by decide) (Nat.le_of_ble_eq_true rfl) [(0, .ref x0), (1, .int x1), (2, .int x2)] rfl h2 (fun G X Y hn hl => L_X12_earliest_0 X Y x0 x1 x2 M)⟩

def f_X12_latest_0 (x0 : Nat) (x1 : Int32) (x2 : Int32) (M : MM) : Option (Int32 × MM) :=
    b1 (pI 12 0 x0 (0 : Int32) M) fun M1 =>
    b2 (f_X12_isPerson x0 x1 M1) fun r3 M2 =>
    if r3 = 0 then
      some ((-1 : Int32), M2)
    else
      b2 (f_X12_isErrand x0 x2 M2) fun r5 M4 =>
      if r5 = 0 then
        some ((-1 : Int32), M4)
      else
        b2 (f_X12_latestFor x0 x1 x2 M4) fun r7 M6 =>
        b2 (f_X12_tellsBack x0 x2 r7 M6) fun r9 M8 =>
        some (r9, M8)

def f_X12_latest (x0 : Nat) (x1 : Int32) (x2 : Int32) (M : MM) : Option (Int32 × MM) := if isO 12 x0 M = true then f_X12_latest_0 x0 x1 x2 M else none
set_option maxRecDepth 4000 in
theorem L_X12_latest_0 {G : Gx} (X : Cb G cX12_latest 3 RX12 (RM 9 0 0) false) (Y : Cr G (some .int) 0 0) (x0 : Nat) (x1 : Int32) (x2 : Int32) (M : MM) : V G trI 3 0 0 0 [(0, .ref x0), (1, .int x1), (2, .int x2)] [] M (f_X12_latest_0 x0 x1 x2 M) := by
  unfold f_X12_latest_0
  refine v_aload_n X 1 0 dX12_latest_0 rfl rfl ?_
  refine v_iconst X 2 dX12_latest_1 ik_0 rfl ?_
  refine v_putI X 5 fl_X12_133 nof dX12_latest_2 rfl (fun M1 => ?_)
  refine v_aload_n X 6 0 dX12_latest_5 rfl rfl ?_
  refine v_iload_n X 7 1 dX12_latest_6 rfl rfl ?_
  refine v_vI X 10 cv_X12_isPerson ml_X12_247 (n1 := 2) rfl [.int x1] rfl rfl rfl dX12_latest_7 rfl (fun r M1 h => c_X12_isPerson _ _ _ _ _ _ h) (fun r3 M2 => ?_)
  refine v_ifeq X 13 35 dX12_latest_10 rfl rfl ?_ ?_
  · refine v_iconst X 36 dX12_latest_35 ik_m1 rfl ?_
    exact v_iret X Y (Nat.le_refl _) (Nat.le_refl _) dX12_latest_36
  · refine v_aload_n X 14 0 dX12_latest_13 rfl rfl ?_
    refine v_iload_n X 15 2 dX12_latest_14 rfl rfl ?_
    refine v_vI X 18 cv_X12_isErrand ml_X12_361 (n1 := 2) rfl [.int x2] rfl rfl rfl dX12_latest_15 rfl (fun r M1 h => c_X12_isErrand _ _ _ _ _ _ h) (fun r5 M4 => ?_)
    refine v_ifeq X 21 35 dX12_latest_18 rfl rfl ?_ ?_
    · refine v_iconst X 36 dX12_latest_35 ik_m1 rfl ?_
      exact v_iret X Y (Nat.le_refl _) (Nat.le_refl _) dX12_latest_36
    · refine v_aload_n X 22 0 dX12_latest_21 rfl rfl ?_
      refine v_iload_n X 23 2 dX12_latest_22 rfl rfl ?_
      refine v_aload_n X 24 0 dX12_latest_23 rfl rfl ?_
      refine v_iload_n X 25 1 dX12_latest_24 rfl rfl ?_
      refine v_iload_n X 26 2 dX12_latest_25 rfl rfl ?_
      refine v_vI X 29 cv_X12_latestFor ml_X12_444 (n1 := 8) rfl [.int x1, .int x2] rfl rfl rfl dX12_latest_26 rfl (fun r M1 h => c_X12_latestFor _ _ _ _ _ _ _ h) (fun r7 M6 => ?_)
      refine v_vI X 32 cv_X12_tellsBack ml_X12_441 (n1 := 2) rfl [.int x2, .int r7] rfl rfl rfl dX12_latest_29 rfl (fun r M1 h => c_X12_tellsBack _ _ _ _ _ _ _ h) (fun r9 M8 => ?_)
      refine v_goto X 36 dX12_latest_32 rfl ?_
      exact v_iret X Y (Nat.le_refl _) (Nat.le_refl _) dX12_latest_36
theorem c_X12_latest (l : Launch) (x0 : Nat) (x1 : Int32) (x2 : Int32) (M : MM) (r : Int32) (M1 : MM) (h : f_X12_latest x0 x1 x2 M = some (r, M1)) : KV l yX12_latest cX12_latest 3 (some .int) (RM 9 0 0) false 12 x0 [.int x1, .int x2] M (some (.int r)) M1 := by
  obtain ⟨hO, h2⟩ := iteO_some h
  exact ⟨hO, ct_of (tr := trI) (by decide) (Nat.le_of_ble_eq_true rfl) [(0, .ref x0), (1, .int x1), (2, .int x2)] rfl h2 (fun G X Y hn hl => L_X12_latest_0 X Y x0 x1 x2 M)⟩

def f_X12_best_137 (K26 : Nat → Int32 → Int32 → Int32 → Int32 → Int32 → MM → Option (Int32 × MM)) (x0 : Nat) (x1 : Int32) (x2 : Int32) (x3 : Int32) (x4 : Int32) (x5 : Int32) (M : MM) : Option (Int32 × MM) :=
    bn (x5 + 1 : Int32) fun y1 =>
    K26 x0 x1 x2 x3 x4 y1 M

def f_X12_best_127 (K26 : Nat → Int32 → Int32 → Int32 → Int32 → Int32 → MM → Option (Int32 × MM)) (x0 : Nat) (x1 : Int32) (x5 : Int32) (x6 : Int32) (x7 : Int32) (M : MM) : Option (Int32 × MM) :=
    f_X12_best_137 K26 x0 x1 x5 x7 x6 x5 M

def f_X12_best_26 : Nat → Nat → Int32 → Int32 → Int32 → Int32 → Int32 → MM → Option (Int32 × MM)
  | 0, _, _, _, _, _, _, _ => none
  | n + 1, x0, x1, x2, x3, x4, x5, M =>
    b1 (gI 12 4 x0 M) fun v1 =>
    if v1 ≤ x5 then
      if 0 ≤ x2 then
        b1 (pI 12 1 x0 (0 : Int32) M) fun M2 =>
        b1 (f_X12_enters x0 (Int32.toInt64 x4) M2) fun M3 =>
        b1 (f_X12_enters x0 (Int32.toInt64 x3) M3) fun M4 =>
        some (x2, M4)
      else
        some ((-2 : Int32), M)
    else
      b2 (f_X12_earliestFor x0 x1 x5 M) fun r6 M5 =>
      if r6 < 0 then
        f_X12_best_137 (f_X12_best_26 n) x0 x1 x2 x3 x4 x5 M5
      else
        b1 (gR 12 15 x0 M5) fun v7 =>
        b1 (gR 12 16 x0 M5) fun v8 =>
        b1 (f_X12_puts v7 v8 M5) fun M9 =>
        b1 (gR 12 16 x0 M9) fun v10 =>
        b1 (f_X12_comes v10 x1 x5 r6 M9) fun M11 =>
        b1 (gR 12 16 x0 M11) fun v12 =>
        b1 (gR 12 16 x0 M11) fun v13 =>
        b1 (ldI v13 (45 : Int32) M11) fun v14 =>
        b2 (f_X12_worthOf x0 v12 (v14 - (1 : Int32)) M11) fun r16 M15 =>
        if x2 < 0 then
          f_X12_best_127 (f_X12_best_26 n) x0 x1 x5 r6 r16 M15
        else
          if x3 < r16 then
            f_X12_best_127 (f_X12_best_26 n) x0 x1 x5 r6 r16 M15
          else
            if r16 = x3 then
              b2 (f_X12_awayLong x0 x5 M15) fun r18 M17 =>
              b2 (f_X12_awayLong x0 x2 M17) fun r20 M19 =>
              if (x4 + r20) ≤ (r6 + r18) then
                f_X12_best_137 (f_X12_best_26 n) x0 x1 x2 x3 x4 x5 M19
              else
                f_X12_best_127 (f_X12_best_26 n) x0 x1 x5 r6 r16 M19
            else
              f_X12_best_137 (f_X12_best_26 n) x0 x1 x2 x3 x4 x5 M15

def f_X12_best_0 (x0 : Nat) (x1 : Int32) (M : MM) : Option (Int32 × MM) :=
    b1 (pI 12 0 x0 (0 : Int32) M) fun M1 =>
    b2 (f_X12_isPerson x0 x1 M1) fun r3 M2 =>
    if r3 = 0 then
      some ((-1 : Int32), M2)
    else
      f_X12_best_26 1024 x0 x1 (-2 : Int32) (0 : Int32) (0 : Int32) (0 : Int32) M2

def f_X12_best (x0 : Nat) (x1 : Int32) (M : MM) : Option (Int32 × MM) := if isO 12 x0 M = true then f_X12_best_0 x0 x1 M else none
set_option maxRecDepth 4000 in
theorem L_X12_best_137 {G : Gx} (X : Cb G cX12_best 8 RX12 (RM 9 0 0) false) (Y : Cr G (some .int) 0 0) {K26 : Nat → Int32 → Int32 → Int32 → Int32 → Int32 → MM → Option (Int32 × MM)} (hK26 : ∀ (x0 : Nat) (x1 : Int32) (x2 : Int32) (x3 : Int32) (x4 : Int32) (x5 : Int32) (M : MM), V G trI 8 0 0 26 [(0, .ref x0), (1, .int x1), (2, .int x2), (3, .int x3), (4, .int x4), (5, .int x5)] [] M (K26 x0 x1 x2 x3 x4 x5 M)) (x0 : Nat) (x1 : Int32) (x2 : Int32) (x3 : Int32) (x4 : Int32) (x5 : Int32) (M : MM) : V G trI 8 0 0 137 [(0, .ref x0), (1, .int x1), (2, .int x2), (3, .int x3), (4, .int x4), (5, .int x5)] [] M (f_X12_best_137 K26 x0 x1 x2 x3 x4 x5 M) := by
  unfold f_X12_best_137
  refine v_iinc X 140 5 (fun z => [(0, .ref x0), (1, .int x1), (2, .int x2), (3, .int x3), (4, .int x4), (5, .int z)]) dX12_best_137 rfl ik_1 (by decide) (fun _ => rfl) rfl (fun y1 => ?_)
  refine v_goto X 26 dX12_best_140 rfl ?_
  exact hK26 _ _ _ _ _ _ _
set_option maxRecDepth 4000 in
theorem L_X12_best_127 {G : Gx} (X : Cb G cX12_best 8 RX12 (RM 9 0 0) false) (Y : Cr G (some .int) 0 0) {K26 : Nat → Int32 → Int32 → Int32 → Int32 → Int32 → MM → Option (Int32 × MM)} (hK26 : ∀ (x0 : Nat) (x1 : Int32) (x2 : Int32) (x3 : Int32) (x4 : Int32) (x5 : Int32) (M : MM), V G trI 8 0 0 26 [(0, .ref x0), (1, .int x1), (2, .int x2), (3, .int x3), (4, .int x4), (5, .int x5)] [] M (K26 x0 x1 x2 x3 x4 x5 M)) (x0 : Nat) (x1 : Int32) (x5 : Int32) (x6 : Int32) (x7 : Int32) (M : MM) : V G trI 8 0 0 127 [(0, .ref x0), (1, .int x1), (5, .int x5), (6, .int x6), (7, .int x7)] [] M (f_X12_best_127 K26 x0 x1 x5 x6 x7 M) := by
  unfold f_X12_best_127
  refine v_iload X 129 2 dX12_best_127 rfl rfl ?_
  refine v_istore_n (lv' := [(0, .ref x0), (1, .int x1), (2, .int x5), (5, .int x5), (6, .int x6), (7, .int x7)]) X 130 dX12_best_129 (by decide) rfl rfl ?_
  refine v_iload X 132 5 dX12_best_130 rfl rfl ?_
  refine v_istore_n (lv' := [(0, .ref x0), (1, .int x1), (2, .int x5), (3, .int x7), (5, .int x5), (6, .int x6), (7, .int x7)]) X 133 dX12_best_132 (by decide) rfl rfl ?_
  refine v_iload X 135 5 dX12_best_133 rfl rfl ?_
  refine v_istore (lv' := [(0, .ref x0), (1, .int x1), (2, .int x5), (3, .int x7), (4, .int x6), (5, .int x5), (6, .int x6), (7, .int x7)]) X 137 dX12_best_135 (by decide) rfl rfl ?_
  exact v_sb [0, 1, 2, 3, 4, 5] (L_X12_best_137 X Y hK26 _ _ _ _ _ _ _) rfl
set_option maxRecDepth 4000 in
theorem L_X12_best_26 {G : Gx} (X : Cb G cX12_best 8 RX12 (RM 9 0 0) false) (Y : Cr G (some .int) 0 0) : ∀ (n : Nat) (x0 : Nat) (x1 : Int32) (x2 : Int32) (x3 : Int32) (x4 : Int32) (x5 : Int32) (M : MM), V G trI 8 0 0 26 [(0, .ref x0), (1, .int x1), (2, .int x2), (3, .int x3), (4, .int x4), (5, .int x5)] [] M (f_X12_best_26 n x0 x1 x2 x3 x4 x5 M) := by
  intro n
  induction n with
  | zero => intro x0 x1 x2 x3 x4 x5 M; rw [f_X12_best_26]; exact v_none
  | succ n ih =>
    intro x0 x1 x2 x3 x4 x5 M
    rw [f_X12_best_26]
    refine v_iload X 28 5 dX12_best_26 rfl rfl ?_
    refine v_aload_n X 29 0 dX12_best_28 rfl rfl ?_
    refine v_getI X 32 fl_X12_150.r dX12_best_29 rfl (fun v1 => ?_)
    refine v_icge X 35 143 dX12_best_32 rfl rfl ?_ ?_
    · refine v_iload_n X 144 2 dX12_best_143 rfl rfl ?_
      refine v_ifge X 147 150 dX12_best_144 rfl rfl ?_ ?_
      · refine v_aload_n X 151 0 dX12_best_150 rfl rfl ?_
        refine v_iconst X 152 dX12_best_151 ik_0 rfl ?_
        refine v_putI X 155 fl_X12_140 nof dX12_best_152 rfl (fun M2 => ?_)
        refine v_aload_n X 156 0 dX12_best_155 rfl rfl ?_
        refine v_iload X 158 4 dX12_best_156 rfl rfl ?_
        refine v_i2l X 159 dX12_best_158 rfl ?_
        refine v_vV X 162 cv_X12_enters ml_X12_414 (n1 := 1) rfl [.long (Int32.toInt64 x4)] rfl rfl rfl dX12_best_159 rfl (fun M1 h => c_X12_enters _ _ _ _ _ h) (fun M3 => ?_)
        refine v_aload_n X 163 0 dX12_best_162 rfl rfl ?_
        refine v_iload_n X 164 3 dX12_best_163 rfl rfl ?_
        refine v_i2l X 165 dX12_best_164 rfl ?_
        refine v_vV X 168 cv_X12_enters ml_X12_414 (n1 := 1) rfl [.long (Int32.toInt64 x3)] rfl rfl rfl dX12_best_165 rfl (fun M1 h => c_X12_enters _ _ _ _ _ h) (fun M4 => ?_)
        refine v_iload_n X 169 2 dX12_best_168 rfl rfl ?_
        exact v_iret X Y (Nat.le_refl _) (Nat.le_refl _) dX12_best_169
      · refine v_bipush X 149 dX12_best_147 bk_m2 rfl ?_
        exact v_iret X Y (Nat.le_refl _) (Nat.le_refl _) dX12_best_149
    · refine v_aload_n X 36 0 dX12_best_35 rfl rfl ?_
      refine v_iload_n X 37 1 dX12_best_36 rfl rfl ?_
      refine v_iload X 39 5 dX12_best_37 rfl rfl ?_
      refine v_vI X 42 cv_X12_earliestFor ml_X12_438 (n1 := 8) rfl [.int x1, .int x5] rfl rfl rfl dX12_best_39 rfl (fun r M1 h => c_X12_earliestFor _ _ _ _ _ _ _ h) (fun r6 M5 => ?_)
      refine v_istore (lv' := [(0, .ref x0), (1, .int x1), (2, .int x2), (3, .int x3), (4, .int x4), (5, .int x5), (6, .int r6)]) X 44 dX12_best_42 (by decide) rfl rfl ?_
      refine v_iload X 46 6 dX12_best_44 rfl rfl ?_
      refine v_iflt X 49 137 dX12_best_46 rfl rfl ?_ ?_
      · exact v_sb [0, 1, 2, 3, 4, 5] (L_X12_best_137 X Y ih _ _ _ _ _ _ _) rfl
      · refine v_aload_n X 50 0 dX12_best_49 rfl rfl ?_
        refine v_getR X 53 fl_X12_43.r dX12_best_50 rfl (fun v7 => ?_)
        refine v_aload_n X 54 0 dX12_best_53 rfl rfl ?_
        refine v_getR X 57 fl_X12_46.r dX12_best_54 rfl (fun v8 => ?_)
        refine v_sV X 60 cs_X12_puts ml_X12_346 (n1 := 1) rfl [.ref v7, .ref v8] rfl rfl rfl dX12_best_57 rfl (fun M1 h => c_X12_puts _ _ _ _ _ h) (fun M9 => ?_)
        refine v_aload_n X 61 0 dX12_best_60 rfl rfl ?_
        refine v_getR X 64 fl_X12_46.r dX12_best_61 rfl (fun v10 => ?_)
        refine v_iload_n X 65 1 dX12_best_64 rfl rfl ?_
        refine v_iload X 67 5 dX12_best_65 rfl rfl ?_
        refine v_iload X 69 6 dX12_best_67 rfl rfl ?_
        refine v_sV X 72 cs_X12_comes ml_X12_336 (n1 := 1) rfl [.ref v10, .int x1, .int x5, .int r6] rfl rfl rfl dX12_best_69 rfl (fun M1 h => c_X12_comes _ _ _ _ _ _ _ h) (fun M11 => ?_)
        refine v_aload_n X 73 0 dX12_best_72 rfl rfl ?_
        refine v_aload_n X 74 0 dX12_best_73 rfl rfl ?_
        refine v_getR X 77 fl_X12_46.r dX12_best_74 rfl (fun v12 => ?_)
        refine v_aload_n X 78 0 dX12_best_77 rfl rfl ?_
        refine v_getR X 81 fl_X12_46.r dX12_best_78 rfl (fun v13 => ?_)
        refine v_bipush X 83 dX12_best_81 bk_45 rfl ?_
        refine v_iald X 84 dX12_best_83 rfl (fun v14 => ?_)
        refine v_iconst X 85 dX12_best_84 ik_1 rfl ?_
        refine v_isub X 86 dX12_best_85 rfl ?_
        refine v_vI X 89 cv_X12_worthOf ml_X12_314 (n1 := 4) rfl [.ref v12, .int (v14 - (1 : Int32))] rfl rfl rfl dX12_best_86 rfl (fun r M1 h => c_X12_worthOf _ _ _ _ _ _ _ h) (fun r16 M15 => ?_)
        refine v_istore (lv' := [(0, .ref x0), (1, .int x1), (2, .int x2), (3, .int x3), (4, .int x4), (5, .int x5), (6, .int r6), (7, .int r16)]) X 91 dX12_best_89 (by decide) rfl rfl ?_
        refine v_iload_n X 92 2 dX12_best_91 rfl rfl ?_
        refine v_iflt X 95 127 dX12_best_92 rfl rfl ?_ ?_
        · exact v_sb [0, 1, 5, 6, 7] (L_X12_best_127 X Y ih _ _ _ _ _ _) rfl
        · refine v_iload X 97 7 dX12_best_95 rfl rfl ?_
          refine v_iload_n X 98 3 dX12_best_97 rfl rfl ?_
          refine v_icgt X 101 127 dX12_best_98 rfl rfl ?_ ?_
          · exact v_sb [0, 1, 5, 6, 7] (L_X12_best_127 X Y ih _ _ _ _ _ _) rfl
          · refine v_iload X 103 7 dX12_best_101 rfl rfl ?_
            refine v_iload_n X 104 3 dX12_best_103 rfl rfl ?_
            refine v_icne X 107 137 dX12_best_104 rfl rfl ?_ ?_
            · exact v_sb [0, 1, 2, 3, 4, 5] (L_X12_best_137 X Y ih _ _ _ _ _ _ _) rfl
            · refine v_iload X 109 6 dX12_best_107 rfl rfl ?_
              refine v_aload_n X 110 0 dX12_best_109 rfl rfl ?_
              refine v_iload X 112 5 dX12_best_110 rfl rfl ?_
              refine v_vI X 115 cv_X12_awayLong ml_X12_281 (n1 := 1) rfl [.int x5] rfl rfl rfl dX12_best_112 rfl (fun r M1 h => c_X12_awayLong _ _ _ _ _ _ h) (fun r18 M17 => ?_)
              refine v_iadd X 116 dX12_best_115 rfl ?_
              refine v_iload X 118 4 dX12_best_116 rfl rfl ?_
              refine v_aload_n X 119 0 dX12_best_118 rfl rfl ?_
              refine v_iload_n X 120 2 dX12_best_119 rfl rfl ?_
              refine v_vI X 123 cv_X12_awayLong ml_X12_281 (n1 := 1) rfl [.int x2] rfl rfl rfl dX12_best_120 rfl (fun r M1 h => c_X12_awayLong _ _ _ _ _ _ h) (fun r20 M19 => ?_)
              refine v_iadd X 124 dX12_best_123 rfl ?_
              refine v_icge X 127 137 dX12_best_124 rfl rfl ?_ ?_
              · exact v_sb [0, 1, 2, 3, 4, 5] (L_X12_best_137 X Y ih _ _ _ _ _ _ _) rfl
              · exact v_sb [0, 1, 5, 6, 7] (L_X12_best_127 X Y ih _ _ _ _ _ _) rfl
set_option maxRecDepth 4000 in
theorem L_X12_best_0 {G : Gx} (X : Cb G cX12_best 8 RX12 (RM 9 0 0) false) (Y : Cr G (some .int) 0 0) (x0 : Nat) (x1 : Int32) (M : MM) : V G trI 8 0 0 0 [(0, .ref x0), (1, .int x1)] [] M (f_X12_best_0 x0 x1 M) := by
  unfold f_X12_best_0
  refine v_aload_n X 1 0 dX12_best_0 rfl rfl ?_
  refine v_iconst X 2 dX12_best_1 ik_0 rfl ?_
  refine v_putI X 5 fl_X12_133 nof dX12_best_2 rfl (fun M1 => ?_)
  refine v_aload_n X 6 0 dX12_best_5 rfl rfl ?_
  refine v_iload_n X 7 1 dX12_best_6 rfl rfl ?_
  refine v_vI X 10 cv_X12_isPerson ml_X12_247 (n1 := 2) rfl [.int x1] rfl rfl rfl dX12_best_7 rfl (fun r M1 h => c_X12_isPerson _ _ _ _ _ _ h) (fun r3 M2 => ?_)
  refine v_ifne X 13 15 dX12_best_10 rfl rfl ?_ ?_
  · refine v_bipush X 17 dX12_best_15 bk_m2 rfl ?_
    refine v_istore_n (lv' := [(0, .ref x0), (1, .int x1), (2, .int (-2 : Int32))]) X 18 dX12_best_17 (by decide) rfl rfl ?_
    refine v_iconst X 19 dX12_best_18 ik_0 rfl ?_
    refine v_istore_n (lv' := [(0, .ref x0), (1, .int x1), (2, .int (-2 : Int32)), (3, .int (0 : Int32))]) X 20 dX12_best_19 (by decide) rfl rfl ?_
    refine v_iconst X 21 dX12_best_20 ik_0 rfl ?_
    refine v_istore (lv' := [(0, .ref x0), (1, .int x1), (2, .int (-2 : Int32)), (3, .int (0 : Int32)), (4, .int (0 : Int32))]) X 23 dX12_best_21 (by decide) rfl rfl ?_
    refine v_iconst X 24 dX12_best_23 ik_0 rfl ?_
    refine v_istore (lv' := [(0, .ref x0), (1, .int x1), (2, .int (-2 : Int32)), (3, .int (0 : Int32)), (4, .int (0 : Int32)), (5, .int (0 : Int32))]) X 26 dX12_best_24 (by decide) rfl rfl ?_
    exact L_X12_best_26 X Y 1024 _ _ _ _ _ _ _
  · refine v_iconst X 14 dX12_best_13 ik_m1 rfl ?_
    exact v_iret X Y (Nat.le_refl _) (Nat.le_refl _) dX12_best_14
theorem c_X12_best (l : Launch) (x0 : Nat) (x1 : Int32) (M : MM) (r : Int32) (M1 : MM) (h : f_X12_best x0 x1 M = some (r, M1)) : KV l yX12_best cX12_best 8 (some .int) (RM 9 0 0) false 12 x0 [.int x1] M (some (.int r)) M1 := by
  obtain ⟨hO, h2⟩ := iteO_some h
  exact ⟨hO, ct_of (tr := trI) (by decide) (Nat.le_of_ble_eq_true rfl) [(0, .ref x0), (1, .int x1)] rfl h2 (fun G X Y hn hl => L_X12_best_0 X Y x0 x1 M)⟩

def f_X12_putsIn_192 (P0 : Nat → Int32 → Int32 → Int32 → MM → Option (MM)) (K89 : Nat → Int32 → Int32 → Int32 → Int32 → MM → Option (MM)) (K101 : Nat → Int32 → Int32 → Int32 → Int32 → Int32 → MM → Option (MM)) (x0 : Nat) (x1 : Int32) (x2 : Int32) (x3 : Int32) (x5 : Int32) (x6 : Int32) (M : MM) : Option (MM) :=
    bn (x6 + 1 : Int32) fun y1 =>
    K101 x0 x1 x2 x3 x5 y1 M

def f_X12_putsIn_101 (P0 : Nat → Int32 → Int32 → Int32 → MM → Option (MM)) (K89 : Nat → Int32 → Int32 → Int32 → Int32 → MM → Option (MM)) : Nat → Nat → Int32 → Int32 → Int32 → Int32 → Int32 → MM → Option (MM)
  | 0, _, _, _, _, _, _, _ => none
  | n + 1, x0, x1, x2, x3, x5, x6, M =>
    b1 (gI 12 4 x0 M) fun v1 =>
    if v1 ≤ x6 then
      bn (x5 + 1 : Int32) fun y2 =>
      K89 x0 x1 x2 x3 y2 M
    else
      b2 (f_X12_earliestFor x0 x5 x6 M) fun r4 M3 =>
      if r4 < 0 then
        f_X12_putsIn_192 P0 K89 (f_X12_putsIn_101 P0 K89 n) x0 x1 x2 x3 x5 x6 M3
      else
        b1 (gR 12 42 x0 M3) fun v5 =>
        b1 (stI v5 ((3 : Int32) * x1) x5 M3) fun M6 =>
        b1 (gR 12 42 x0 M6) fun v7 =>
        b1 (stI v7 (((3 : Int32) * x1) + (1 : Int32)) x6 M6) fun M8 =>
        b1 (gR 12 42 x0 M8) fun v9 =>
        b1 (stI v9 (((3 : Int32) * x1) + (2 : Int32)) r4 M8) fun M10 =>
        b1 (gR 12 15 x0 M10) fun v11 =>
        b1 (f_X12_comes v11 x5 x6 r4 M10) fun M12 =>
        b1 (P0 x0 (x1 + (1 : Int32)) x2 x3 M12) fun M13 =>
        b1 (gR 12 15 x0 M13) fun v14 =>
        b1 (ldI v14 (45 : Int32) M13) fun v15 =>
        b1 (stI v14 (45 : Int32) (v15 - (1 : Int32)) M13) fun M16 =>
        f_X12_putsIn_192 P0 K89 (f_X12_putsIn_101 P0 K89 n) x0 x1 x2 x3 x5 x6 M16

def f_X12_putsIn_89 (P0 : Nat → Int32 → Int32 → Int32 → MM → Option (MM)) : Nat → Nat → Int32 → Int32 → Int32 → Int32 → MM → Option (MM)
  | 0, _, _, _, _, _, _ => none
  | n + 1, x0, x1, x2, x3, x5, M =>
    b1 (gI 12 3 x0 M) fun v1 =>
    if v1 ≤ x5 then
      some M
    else
      f_X12_putsIn_101 P0 (f_X12_putsIn_89 P0 n) 1024 x0 x1 x2 x3 x5 (0 : Int32) M

def f_X12_putsIn_80 (P0 : Nat → Int32 → Int32 → Int32 → MM → Option (MM)) (x0 : Nat) (x1 : Int32) (x2 : Int32) (x3 : Int32) (M : MM) : Option (MM) :=
    if x1 = x2 then
      some M
    else
      f_X12_putsIn_89 P0 1024 x0 x1 x2 x3 (0 : Int32) M

def f_X12_putsIn_52 (P0 : Nat → Int32 → Int32 → Int32 → MM → Option (MM)) : Nat → Nat → Int32 → Int32 → Int32 → Int32 → MM → Option (MM)
  | 0, _, _, _, _, _, _ => none
  | n + 1, x0, x1, x2, x3, x5, M =>
    if ((3 : Int32) * x1) ≤ x5 then
      f_X12_putsIn_80 P0 x0 x1 x2 x3 M
    else
      b1 (gR 12 43 x0 M) fun v1 =>
      b1 (gR 12 42 x0 M) fun v2 =>
      b1 (ldI v2 x5 M) fun v3 =>
      b1 (stI v1 x5 v3 M) fun M4 =>
      bn (x5 + 1 : Int32) fun y5 =>
      f_X12_putsIn_52 P0 n x0 x1 x2 x3 y5 M4

def f_X12_putsIn_38 (P0 : Nat → Int32 → Int32 → Int32 → MM → Option (MM)) (x0 : Nat) (x1 : Int32) (x2 : Int32) (x3 : Int32) (x4 : Int32) (M : MM) : Option (MM) :=
    b1 (pI 12 40 x0 x4 M) fun M1 =>
    b1 (pI 12 41 x0 x1 M1) fun M2 =>
    f_X12_putsIn_52 P0 1024 x0 x1 x2 x3 (0 : Int32) M2

def f_X12_putsIn_0 (P0 : Nat → Int32 → Int32 → Int32 → MM → Option (MM)) (x0 : Nat) (x1 : Int32) (x2 : Int32) (x3 : Int32) (M : MM) : Option (MM) :=
    b1 (gR 12 15 x0 M) fun v1 =>
    b2 (f_X12_worthAll x0 v1 M) fun r3 M2 =>
    bn (r3 - x3 : Int32) fun y4 =>
    b1 (gI 12 40 x0 M2) fun v5 =>
    if v5 < y4 then
      f_X12_putsIn_38 P0 x0 x1 x2 x3 y4 M2
    else
      b1 (gI 12 40 x0 M2) fun v6 =>
      if y4 = v6 then
        b1 (gI 12 41 x0 M2) fun v7 =>
        if v7 ≤ x1 then
          f_X12_putsIn_80 P0 x0 x1 x2 x3 M2
        else
          f_X12_putsIn_38 P0 x0 x1 x2 x3 y4 M2
      else
        f_X12_putsIn_80 P0 x0 x1 x2 x3 M2

set_option maxRecDepth 4000 in
theorem L_X12_putsIn_192 {k : Nat} {G : Gx} (X : Cb G cX12_putsIn 8 RX12 (RM (9 + (k + 1)) 0 0) false) (Y : Cr G none 0 0) {P0 : Nat → Int32 → Int32 → Int32 → MM → Option (MM)} (hP0 : ∀ (x0 : Nat) (x1 : Int32) (x2 : Int32) (x3 : Int32) (M : MM) (M1 : MM), P0 x0 x1 x2 x3 M = some M1 → KV G.1.2.1 yX12_putsIn cX12_putsIn 8 none (RM (9 + k) 0 0) false 12 x0 [.int x1, .int x2, .int x3] M none M1) {K89 : Nat → Int32 → Int32 → Int32 → Int32 → MM → Option (MM)} (hK89 : ∀ (x0 : Nat) (x1 : Int32) (x2 : Int32) (x3 : Int32) (x5 : Int32) (M : MM), V G trV 8 0 0 89 [(0, .ref x0), (1, .int x1), (2, .int x2), (3, .int x3), (5, .int x5)] [] M (K89 x0 x1 x2 x3 x5 M)) {K101 : Nat → Int32 → Int32 → Int32 → Int32 → Int32 → MM → Option (MM)} (hK101 : ∀ (x0 : Nat) (x1 : Int32) (x2 : Int32) (x3 : Int32) (x5 : Int32) (x6 : Int32) (M : MM), V G trV 8 0 0 101 [(0, .ref x0), (1, .int x1), (2, .int x2), (3, .int x3), (5, .int x5), (6, .int x6)] [] M (K101 x0 x1 x2 x3 x5 x6 M)) (x0 : Nat) (x1 : Int32) (x2 : Int32) (x3 : Int32) (x5 : Int32) (x6 : Int32) (M : MM) : V G trV 8 0 0 192 [(0, .ref x0), (1, .int x1), (2, .int x2), (3, .int x3), (5, .int x5), (6, .int x6)] [] M (f_X12_putsIn_192 P0 K89 K101 x0 x1 x2 x3 x5 x6 M) := by
  unfold f_X12_putsIn_192
  refine v_iinc X 195 5 (fun z => [(0, .ref x0), (1, .int x1), (2, .int x2), (3, .int x3), (5, .int x5), (6, .int z)]) dX12_putsIn_192 rfl ik_1 (by decide) (fun _ => rfl) rfl (fun y1 => ?_)
  refine v_goto X 101 dX12_putsIn_195 rfl ?_
  exact hK101 _ _ _ _ _ _ _
set_option maxRecDepth 4000 in
theorem L_X12_putsIn_101 {k : Nat} {G : Gx} (X : Cb G cX12_putsIn 8 RX12 (RM (9 + (k + 1)) 0 0) false) (Y : Cr G none 0 0) {P0 : Nat → Int32 → Int32 → Int32 → MM → Option (MM)} (hP0 : ∀ (x0 : Nat) (x1 : Int32) (x2 : Int32) (x3 : Int32) (M : MM) (M1 : MM), P0 x0 x1 x2 x3 M = some M1 → KV G.1.2.1 yX12_putsIn cX12_putsIn 8 none (RM (9 + k) 0 0) false 12 x0 [.int x1, .int x2, .int x3] M none M1) {K89 : Nat → Int32 → Int32 → Int32 → Int32 → MM → Option (MM)} (hK89 : ∀ (x0 : Nat) (x1 : Int32) (x2 : Int32) (x3 : Int32) (x5 : Int32) (M : MM), V G trV 8 0 0 89 [(0, .ref x0), (1, .int x1), (2, .int x2), (3, .int x3), (5, .int x5)] [] M (K89 x0 x1 x2 x3 x5 M)) : ∀ (n : Nat) (x0 : Nat) (x1 : Int32) (x2 : Int32) (x3 : Int32) (x5 : Int32) (x6 : Int32) (M : MM), V G trV 8 0 0 101 [(0, .ref x0), (1, .int x1), (2, .int x2), (3, .int x3), (5, .int x5), (6, .int x6)] [] M (f_X12_putsIn_101 P0 K89 n x0 x1 x2 x3 x5 x6 M) := by
  intro n
  induction n with
  | zero => intro x0 x1 x2 x3 x5 x6 M; rw [f_X12_putsIn_101]; exact v_none
  | succ n ih =>
    intro x0 x1 x2 x3 x5 x6 M
    rw [f_X12_putsIn_101]
    refine v_iload X 103 5 dX12_putsIn_101 rfl rfl ?_
    refine v_aload_n X 104 0 dX12_putsIn_103 rfl rfl ?_
    refine v_getI X 107 fl_X12_150.r dX12_putsIn_104 rfl (fun v1 => ?_)
    refine v_icge X 110 198 dX12_putsIn_107 rfl rfl ?_ ?_
    · refine v_iinc X 201 4 (fun z => [(0, .ref x0), (1, .int x1), (2, .int x2), (3, .int x3), (5, .int z), (6, .int x6)]) dX12_putsIn_198 rfl ik_1 (by decide) (fun _ => rfl) rfl (fun y2 => ?_)
      refine v_goto X 89 dX12_putsIn_201 rfl ?_
      exact v_sb [0, 1, 2, 3, 4] (hK89 _ _ _ _ _ _) rfl
    · refine v_aload_n X 111 0 dX12_putsIn_110 rfl rfl ?_
      refine v_iload X 113 4 dX12_putsIn_111 rfl rfl ?_
      refine v_iload X 115 5 dX12_putsIn_113 rfl rfl ?_
      refine v_vI X 118 cv_X12_earliestFor ml_X12_438 (n1 := 8) (rmq (by omega) (by decide)) [.int x5, .int x6] rfl rfl rfl dX12_putsIn_115 rfl (fun r M1 h => c_X12_earliestFor _ _ _ _ _ _ _ h) (fun r4 M3 => ?_)
      refine v_istore (lv' := [(0, .ref x0), (1, .int x1), (2, .int x2), (3, .int x3), (5, .int x5), (6, .int x6), (7, .int r4)]) X 120 dX12_putsIn_118 (by decide) rfl rfl ?_
      refine v_iload X 122 6 dX12_putsIn_120 rfl rfl ?_
      refine v_iflt X 125 192 dX12_putsIn_122 rfl rfl ?_ ?_
      · exact v_sb [0, 1, 2, 3, 4, 5] (L_X12_putsIn_192 X Y hP0 hK89 ih _ _ _ _ _ _ _) rfl
      · refine v_aload_n X 126 0 dX12_putsIn_125 rfl rfl ?_
        refine v_getR X 129 fl_X12_88.r dX12_putsIn_126 rfl (fun v5 => ?_)
        refine v_iconst X 130 dX12_putsIn_129 ik_3 rfl ?_
        refine v_iload_n X 131 1 dX12_putsIn_130 rfl rfl ?_
        refine v_imul X 132 dX12_putsIn_131 rfl ?_
        refine v_iload X 134 4 dX12_putsIn_132 rfl rfl ?_
        refine v_iast X 135 dX12_putsIn_134 rfl (fun M6 => ?_)
        refine v_aload_n X 136 0 dX12_putsIn_135 rfl rfl ?_
        refine v_getR X 139 fl_X12_88.r dX12_putsIn_136 rfl (fun v7 => ?_)
        refine v_iconst X 140 dX12_putsIn_139 ik_3 rfl ?_
        refine v_iload_n X 141 1 dX12_putsIn_140 rfl rfl ?_
        refine v_imul X 142 dX12_putsIn_141 rfl ?_
        refine v_iconst X 143 dX12_putsIn_142 ik_1 rfl ?_
        refine v_iadd X 144 dX12_putsIn_143 rfl ?_
        refine v_iload X 146 5 dX12_putsIn_144 rfl rfl ?_
        refine v_iast X 147 dX12_putsIn_146 rfl (fun M8 => ?_)
        refine v_aload_n X 148 0 dX12_putsIn_147 rfl rfl ?_
        refine v_getR X 151 fl_X12_88.r dX12_putsIn_148 rfl (fun v9 => ?_)
        refine v_iconst X 152 dX12_putsIn_151 ik_3 rfl ?_
        refine v_iload_n X 153 1 dX12_putsIn_152 rfl rfl ?_
        refine v_imul X 154 dX12_putsIn_153 rfl ?_
        refine v_iconst X 155 dX12_putsIn_154 ik_2 rfl ?_
        refine v_iadd X 156 dX12_putsIn_155 rfl ?_
        refine v_iload X 158 6 dX12_putsIn_156 rfl rfl ?_
        refine v_iast X 159 dX12_putsIn_158 rfl (fun M10 => ?_)
        refine v_aload_n X 160 0 dX12_putsIn_159 rfl rfl ?_
        refine v_getR X 163 fl_X12_43.r dX12_putsIn_160 rfl (fun v11 => ?_)
        refine v_iload X 165 4 dX12_putsIn_163 rfl rfl ?_
        refine v_iload X 167 5 dX12_putsIn_165 rfl rfl ?_
        refine v_iload X 169 6 dX12_putsIn_167 rfl rfl ?_
        refine v_sV X 172 cs_X12_comes ml_X12_336 (n1 := 1) (rmq (by omega) (by decide)) [.ref v11, .int x5, .int x6, .int r4] rfl rfl rfl dX12_putsIn_169 rfl (fun M1 h => c_X12_comes _ _ _ _ _ _ _ h) (fun M12 => ?_)
        refine v_aload_n X 173 0 dX12_putsIn_172 rfl rfl ?_
        refine v_iload_n X 174 1 dX12_putsIn_173 rfl rfl ?_
        refine v_iconst X 175 dX12_putsIn_174 ik_1 rfl ?_
        refine v_iadd X 176 dX12_putsIn_175 rfl ?_
        refine v_iload_n X 177 2 dX12_putsIn_176 rfl rfl ?_
        refine v_iload_n X 178 3 dX12_putsIn_177 rfl rfl ?_
        refine v_vV X 181 cv_X12_putsIn ml_X12_453 (n1 := (9 + k)) (rmq (by omega) (by decide)) [.int (x1 + (1 : Int32)), .int x2, .int x3] rfl rfl rfl dX12_putsIn_178 rfl (fun M1 h => hP0 _ _ _ _ _ _ h) (fun M13 => ?_)
        refine v_aload_n X 182 0 dX12_putsIn_181 rfl rfl ?_
        refine v_getR X 185 fl_X12_43.r dX12_putsIn_182 rfl (fun v14 => ?_)
        refine v_bipush X 187 dX12_putsIn_185 bk_45 rfl ?_
        refine v_dup2 X 188 dX12_putsIn_187 rfl rfl rfl ?_
        refine v_iald X 189 dX12_putsIn_188 rfl (fun v15 => ?_)
        refine v_iconst X 190 dX12_putsIn_189 ik_1 rfl ?_
        refine v_isub X 191 dX12_putsIn_190 rfl ?_
        refine v_iast X 192 dX12_putsIn_191 rfl (fun M16 => ?_)
        exact v_sb [0, 1, 2, 3, 4, 5] (L_X12_putsIn_192 X Y hP0 hK89 ih _ _ _ _ _ _ _) rfl
set_option maxRecDepth 4000 in
theorem L_X12_putsIn_89 {k : Nat} {G : Gx} (X : Cb G cX12_putsIn 8 RX12 (RM (9 + (k + 1)) 0 0) false) (Y : Cr G none 0 0) {P0 : Nat → Int32 → Int32 → Int32 → MM → Option (MM)} (hP0 : ∀ (x0 : Nat) (x1 : Int32) (x2 : Int32) (x3 : Int32) (M : MM) (M1 : MM), P0 x0 x1 x2 x3 M = some M1 → KV G.1.2.1 yX12_putsIn cX12_putsIn 8 none (RM (9 + k) 0 0) false 12 x0 [.int x1, .int x2, .int x3] M none M1) : ∀ (n : Nat) (x0 : Nat) (x1 : Int32) (x2 : Int32) (x3 : Int32) (x5 : Int32) (M : MM), V G trV 8 0 0 89 [(0, .ref x0), (1, .int x1), (2, .int x2), (3, .int x3), (5, .int x5)] [] M (f_X12_putsIn_89 P0 n x0 x1 x2 x3 x5 M) := by
  intro n
  induction n with
  | zero => intro x0 x1 x2 x3 x5 M; rw [f_X12_putsIn_89]; exact v_none
  | succ n ih =>
    intro x0 x1 x2 x3 x5 M
    rw [f_X12_putsIn_89]
    refine v_iload X 91 4 dX12_putsIn_89 rfl rfl ?_
    refine v_aload_n X 92 0 dX12_putsIn_91 rfl rfl ?_
    refine v_getI X 95 fl_X12_143.r dX12_putsIn_92 rfl (fun v1 => ?_)
    refine v_icge X 98 204 dX12_putsIn_95 rfl rfl ?_ ?_
    · exact v_vret X Y (Nat.le_refl _) (Nat.le_refl _) dX12_putsIn_204
    · refine v_iconst X 99 dX12_putsIn_98 ik_0 rfl ?_
      refine v_istore (lv' := [(0, .ref x0), (1, .int x1), (2, .int x2), (3, .int x3), (5, .int x5), (6, .int (0 : Int32))]) X 101 dX12_putsIn_99 (by decide) rfl rfl ?_
      exact L_X12_putsIn_101 X Y hP0 ih 1024 _ _ _ _ _ _ _
set_option maxRecDepth 4000 in
theorem L_X12_putsIn_80 {k : Nat} {G : Gx} (X : Cb G cX12_putsIn 8 RX12 (RM (9 + (k + 1)) 0 0) false) (Y : Cr G none 0 0) {P0 : Nat → Int32 → Int32 → Int32 → MM → Option (MM)} (hP0 : ∀ (x0 : Nat) (x1 : Int32) (x2 : Int32) (x3 : Int32) (M : MM) (M1 : MM), P0 x0 x1 x2 x3 M = some M1 → KV G.1.2.1 yX12_putsIn cX12_putsIn 8 none (RM (9 + k) 0 0) false 12 x0 [.int x1, .int x2, .int x3] M none M1) (x0 : Nat) (x1 : Int32) (x2 : Int32) (x3 : Int32) (M : MM) : V G trV 8 0 0 80 [(0, .ref x0), (1, .int x1), (2, .int x2), (3, .int x3)] [] M (f_X12_putsIn_80 P0 x0 x1 x2 x3 M) := by
  unfold f_X12_putsIn_80
  refine v_iload_n X 81 1 dX12_putsIn_80 rfl rfl ?_
  refine v_iload_n X 82 2 dX12_putsIn_81 rfl rfl ?_
  refine v_icne X 85 86 dX12_putsIn_82 rfl rfl ?_ ?_
  · refine v_iconst X 87 dX12_putsIn_86 ik_0 rfl ?_
    refine v_istore (lv' := [(0, .ref x0), (1, .int x1), (2, .int x2), (3, .int x3), (5, .int (0 : Int32))]) X 89 dX12_putsIn_87 (by decide) rfl rfl ?_
    exact L_X12_putsIn_89 X Y hP0 1024 _ _ _ _ _ _
  · exact v_vret X Y (Nat.le_refl _) (Nat.le_refl _) dX12_putsIn_85
set_option maxRecDepth 4000 in
theorem L_X12_putsIn_52 {k : Nat} {G : Gx} (X : Cb G cX12_putsIn 8 RX12 (RM (9 + (k + 1)) 0 0) false) (Y : Cr G none 0 0) {P0 : Nat → Int32 → Int32 → Int32 → MM → Option (MM)} (hP0 : ∀ (x0 : Nat) (x1 : Int32) (x2 : Int32) (x3 : Int32) (M : MM) (M1 : MM), P0 x0 x1 x2 x3 M = some M1 → KV G.1.2.1 yX12_putsIn cX12_putsIn 8 none (RM (9 + k) 0 0) false 12 x0 [.int x1, .int x2, .int x3] M none M1) : ∀ (n : Nat) (x0 : Nat) (x1 : Int32) (x2 : Int32) (x3 : Int32) (x5 : Int32) (M : MM), V G trV 8 0 0 52 [(0, .ref x0), (1, .int x1), (2, .int x2), (3, .int x3), (5, .int x5)] [] M (f_X12_putsIn_52 P0 n x0 x1 x2 x3 x5 M) := by
  intro n
  induction n with
  | zero => intro x0 x1 x2 x3 x5 M; rw [f_X12_putsIn_52]; exact v_none
  | succ n ih =>
    intro x0 x1 x2 x3 x5 M
    rw [f_X12_putsIn_52]
    refine v_iload X 54 4 dX12_putsIn_52 rfl rfl ?_
    refine v_iconst X 55 dX12_putsIn_54 ik_3 rfl ?_
    refine v_iload_n X 56 1 dX12_putsIn_55 rfl rfl ?_
    refine v_imul X 57 dX12_putsIn_56 rfl ?_
    refine v_icge X 60 80 dX12_putsIn_57 rfl rfl ?_ ?_
    · exact v_sb [0, 1, 2, 3] (L_X12_putsIn_80 X Y hP0 _ _ _ _ _) rfl
    · refine v_aload_n X 61 0 dX12_putsIn_60 rfl rfl ?_
      refine v_getR X 64 fl_X12_91.r dX12_putsIn_61 rfl (fun v1 => ?_)
      refine v_iload X 66 4 dX12_putsIn_64 rfl rfl ?_
      refine v_aload_n X 67 0 dX12_putsIn_66 rfl rfl ?_
      refine v_getR X 70 fl_X12_88.r dX12_putsIn_67 rfl (fun v2 => ?_)
      refine v_iload X 72 4 dX12_putsIn_70 rfl rfl ?_
      refine v_iald X 73 dX12_putsIn_72 rfl (fun v3 => ?_)
      refine v_iast X 74 dX12_putsIn_73 rfl (fun M4 => ?_)
      refine v_iinc X 77 4 (fun z => [(0, .ref x0), (1, .int x1), (2, .int x2), (3, .int x3), (5, .int z)]) dX12_putsIn_74 rfl ik_1 (by decide) (fun _ => rfl) rfl (fun y5 => ?_)
      refine v_goto X 52 dX12_putsIn_77 rfl ?_
      exact ih _ _ _ _ _ _
set_option maxRecDepth 4000 in
theorem L_X12_putsIn_38 {k : Nat} {G : Gx} (X : Cb G cX12_putsIn 8 RX12 (RM (9 + (k + 1)) 0 0) false) (Y : Cr G none 0 0) {P0 : Nat → Int32 → Int32 → Int32 → MM → Option (MM)} (hP0 : ∀ (x0 : Nat) (x1 : Int32) (x2 : Int32) (x3 : Int32) (M : MM) (M1 : MM), P0 x0 x1 x2 x3 M = some M1 → KV G.1.2.1 yX12_putsIn cX12_putsIn 8 none (RM (9 + k) 0 0) false 12 x0 [.int x1, .int x2, .int x3] M none M1) (x0 : Nat) (x1 : Int32) (x2 : Int32) (x3 : Int32) (x4 : Int32) (M : MM) : V G trV 8 0 0 38 [(0, .ref x0), (1, .int x1), (2, .int x2), (3, .int x3), (4, .int x4)] [] M (f_X12_putsIn_38 P0 x0 x1 x2 x3 x4 M) := by
  unfold f_X12_putsIn_38
  refine v_aload_n X 39 0 dX12_putsIn_38 rfl rfl ?_
  refine v_iload X 41 4 dX12_putsIn_39 rfl rfl ?_
  refine v_putI X 44 fl_X12_447 nof dX12_putsIn_41 rfl (fun M1 => ?_)
  refine v_aload_n X 45 0 dX12_putsIn_44 rfl rfl ?_
  refine v_iload_n X 46 1 dX12_putsIn_45 rfl rfl ?_
  refine v_putI X 49 fl_X12_450 nof dX12_putsIn_46 rfl (fun M2 => ?_)
  refine v_iconst X 50 dX12_putsIn_49 ik_0 rfl ?_
  refine v_istore (lv' := [(0, .ref x0), (1, .int x1), (2, .int x2), (3, .int x3), (4, .int x4), (5, .int (0 : Int32))]) X 52 dX12_putsIn_50 (by decide) rfl rfl ?_
  exact v_sb [0, 1, 2, 3, 5] (L_X12_putsIn_52 X Y hP0 1024 _ _ _ _ _ _) rfl
set_option maxRecDepth 4000 in
theorem L_X12_putsIn_0 {k : Nat} {G : Gx} (X : Cb G cX12_putsIn 8 RX12 (RM (9 + (k + 1)) 0 0) false) (Y : Cr G none 0 0) {P0 : Nat → Int32 → Int32 → Int32 → MM → Option (MM)} (hP0 : ∀ (x0 : Nat) (x1 : Int32) (x2 : Int32) (x3 : Int32) (M : MM) (M1 : MM), P0 x0 x1 x2 x3 M = some M1 → KV G.1.2.1 yX12_putsIn cX12_putsIn 8 none (RM (9 + k) 0 0) false 12 x0 [.int x1, .int x2, .int x3] M none M1) (x0 : Nat) (x1 : Int32) (x2 : Int32) (x3 : Int32) (M : MM) : V G trV 8 0 0 0 [(0, .ref x0), (1, .int x1), (2, .int x2), (3, .int x3)] [] M (f_X12_putsIn_0 P0 x0 x1 x2 x3 M) := by
  unfold f_X12_putsIn_0
  refine v_aload_n X 1 0 dX12_putsIn_0 rfl rfl ?_
  refine v_aload_n X 2 0 dX12_putsIn_1 rfl rfl ?_
  refine v_getR X 5 fl_X12_43.r dX12_putsIn_2 rfl (fun v1 => ?_)
  refine v_vI X 8 cv_X12_worthAll ml_X12_418 (n1 := 5) (rmq (by omega) (by decide)) [.ref v1] rfl rfl rfl dX12_putsIn_5 rfl (fun r M1 h => c_X12_worthAll _ _ _ _ _ _ h) (fun r3 M2 => ?_)
  refine v_iload_n X 9 3 dX12_putsIn_8 rfl rfl ?_
  refine v_isub X 10 dX12_putsIn_9 rfl ?_
  refine v_bnI (fun y4 => ?_)
  refine v_istore (lv' := [(0, .ref x0), (1, .int x1), (2, .int x2), (3, .int x3), (4, .int y4)]) X 12 dX12_putsIn_10 (by decide) rfl rfl ?_
  refine v_iload X 14 4 dX12_putsIn_12 rfl rfl ?_
  refine v_aload_n X 15 0 dX12_putsIn_14 rfl rfl ?_
  refine v_getI X 18 fl_X12_447.r dX12_putsIn_15 rfl (fun v5 => ?_)
  refine v_icgt X 21 38 dX12_putsIn_18 rfl rfl ?_ ?_
  · exact L_X12_putsIn_38 X Y hP0 _ _ _ _ _ _
  · refine v_iload X 23 4 dX12_putsIn_21 rfl rfl ?_
    refine v_aload_n X 24 0 dX12_putsIn_23 rfl rfl ?_
    refine v_getI X 27 fl_X12_447.r dX12_putsIn_24 rfl (fun v6 => ?_)
    refine v_icne X 30 80 dX12_putsIn_27 rfl rfl ?_ ?_
    · exact v_sb [0, 1, 2, 3] (L_X12_putsIn_80 X Y hP0 _ _ _ _ _) rfl
    · refine v_iload_n X 31 1 dX12_putsIn_30 rfl rfl ?_
      refine v_aload_n X 32 0 dX12_putsIn_31 rfl rfl ?_
      refine v_getI X 35 fl_X12_450.r dX12_putsIn_32 rfl (fun v7 => ?_)
      refine v_icge X 38 80 dX12_putsIn_35 rfl rfl ?_ ?_
      · exact v_sb [0, 1, 2, 3] (L_X12_putsIn_80 X Y hP0 _ _ _ _ _) rfl
      · exact L_X12_putsIn_38 X Y hP0 _ _ _ _ _ _
def f_X12_putsIn : Nat → Nat → Int32 → Int32 → Int32 → MM → Option (MM)
  | 0, _, _, _, _, _ => none
  | n + 1, x0, x1, x2, x3, M => if isO 12 x0 M = true then f_X12_putsIn_0 (f_X12_putsIn n) x0 x1 x2 x3 M else none
theorem c_X12_putsIn (l : Launch) : ∀ (n : Nat) (x0 : Nat) (x1 : Int32) (x2 : Int32) (x3 : Int32) (M : MM) (M1 : MM) (h : f_X12_putsIn n x0 x1 x2 x3 M = some M1), KV l yX12_putsIn cX12_putsIn 8 none (RM (9 + n) 0 0) false 12 x0 [.int x1, .int x2, .int x3] M none M1 := by
  intro n
  induction n with
  | zero => intro x0 x1 x2 x3 M M1 h; rw [f_X12_putsIn] at h; cases h
  | succ n ih =>
    intro x0 x1 x2 x3 M M1 h
    rw [f_X12_putsIn] at h
    obtain ⟨hO, h2⟩ := iteO_some h
    exact ⟨hO, ct_of (tr := trV) (by decide) (Nat.le_of_ble_eq_true rfl) [(0, .ref x0), (1, .int x1), (2, .int x2), (3, .int x3)] rfl h2 (fun G X Y hn hl => L_X12_putsIn_0 (k := n) X Y (by rw [hl]; exact ih) x0 x1 x2 x3 M)⟩

def f_X12_most_50 : Nat → Nat → Int32 → MM → Option (Int32 × MM)
  | 0, _, _, _ => none
  | n + 1, x0, x2, M =>
    b1 (gI 12 41 x0 M) fun v1 =>
    if ((3 : Int32) * v1) ≤ x2 then
      b1 (gI 12 40 x0 M) fun v2 =>
      some (v2, M)
    else
      b1 (gR 12 43 x0 M) fun v3 =>
      b1 (ldI v3 x2 M) fun v4 =>
      b1 (f_X12_enters x0 (Int32.toInt64 v4) M) fun M5 =>
      bn (x2 + 1 : Int32) fun y6 =>
      f_X12_most_50 n x0 y6 M5

def f_X12_most_0 (x0 : Nat) (x1 : Int32) (M : MM) : Option (Int32 × MM) :=
    b1 (pI 12 0 x0 (0 : Int32) M) fun M1 =>
    b2 (f_X12_in (Int32.toInt64 x1) (0 : Int64) (2 : Int64) M1) fun r3 M2 =>
    if r3 = 0 then
      some ((-1 : Int32), M2)
    else
      b1 (pI 12 40 x0 (0 : Int32) M2) fun M4 =>
      b1 (pI 12 41 x0 (0 : Int32) M4) fun M5 =>
      b1 (gR 12 15 x0 M5) fun v6 =>
      b2 (f_X12_worthAll x0 v6 M5) fun r8 M7 =>
      b1 (f_X12_putsIn 100 x0 (0 : Int32) x1 r8 M7) fun M9 =>
      b1 (pI 12 1 x0 (0 : Int32) M9) fun M10 =>
      f_X12_most_50 1024 x0 (0 : Int32) M10

def f_X12_most (x0 : Nat) (x1 : Int32) (M : MM) : Option (Int32 × MM) := if isO 12 x0 M = true then f_X12_most_0 x0 x1 M else none
set_option maxRecDepth 4000 in
theorem L_X12_most_50 {G : Gx} (X : Cb G cX12_most 3 RX12 (RM 110 0 0) false) (Y : Cr G (some .int) 0 0) : ∀ (n : Nat) (x0 : Nat) (x2 : Int32) (M : MM), V G trI 3 0 0 50 [(0, .ref x0), (2, .int x2)] [] M (f_X12_most_50 n x0 x2 M) := by
  intro n
  induction n with
  | zero => intro x0 x2 M; rw [f_X12_most_50]; exact v_none
  | succ n ih =>
    intro x0 x2 M
    rw [f_X12_most_50]
    refine v_iload_n X 51 1 dX12_most_50 rfl rfl ?_
    refine v_iconst X 52 dX12_most_51 ik_3 rfl ?_
    refine v_aload_n X 53 0 dX12_most_52 rfl rfl ?_
    refine v_getI X 56 fl_X12_450.r dX12_most_53 rfl (fun v1 => ?_)
    refine v_imul X 57 dX12_most_56 rfl ?_
    refine v_icge X 60 77 dX12_most_57 rfl rfl ?_ ?_
    · refine v_aload_n X 78 0 dX12_most_77 rfl rfl ?_
      refine v_getI X 81 fl_X12_447.r dX12_most_78 rfl (fun v2 => ?_)
      exact v_iret X Y (Nat.le_refl _) (Nat.le_refl _) dX12_most_81
    · refine v_aload_n X 61 0 dX12_most_60 rfl rfl ?_
      refine v_aload_n X 62 0 dX12_most_61 rfl rfl ?_
      refine v_getR X 65 fl_X12_91.r dX12_most_62 rfl (fun v3 => ?_)
      refine v_iload_n X 66 1 dX12_most_65 rfl rfl ?_
      refine v_iald X 67 dX12_most_66 rfl (fun v4 => ?_)
      refine v_i2l X 68 dX12_most_67 rfl ?_
      refine v_vV X 71 cv_X12_enters ml_X12_414 (n1 := 1) rfl [.long (Int32.toInt64 v4)] rfl rfl rfl dX12_most_68 rfl (fun M1 h => c_X12_enters _ _ _ _ _ h) (fun M5 => ?_)
      refine v_iinc X 74 1 (fun z => [(0, .ref x0), (2, .int z)]) dX12_most_71 rfl ik_1 (by decide) (fun _ => rfl) rfl (fun y6 => ?_)
      refine v_goto X 50 dX12_most_74 rfl ?_
      exact ih _ _ _
set_option maxRecDepth 4000 in
theorem L_X12_most_0 {G : Gx} (X : Cb G cX12_most 3 RX12 (RM 110 0 0) false) (Y : Cr G (some .int) 0 0) (x0 : Nat) (x1 : Int32) (M : MM) : V G trI 3 0 0 0 [(0, .ref x0), (1, .int x1)] [] M (f_X12_most_0 x0 x1 M) := by
  unfold f_X12_most_0
  refine v_aload_n X 1 0 dX12_most_0 rfl rfl ?_
  refine v_iconst X 2 dX12_most_1 ik_0 rfl ?_
  refine v_putI X 5 fl_X12_133 nof dX12_most_2 rfl (fun M1 => ?_)
  refine v_iload_n X 6 1 dX12_most_5 rfl rfl ?_
  refine v_i2l X 7 dX12_most_6 rfl ?_
  refine v_lconst X 8 dX12_most_7 lk_0 rfl ?_
  refine v_ldc2 X 11 dX12_most_8 kl_X12_436 rfl ?_
  refine v_sI X 14 cs_X12_in ml_X12_146 (n1 := 1) rfl [.long (Int32.toInt64 x1), .long (0 : Int64), .long (2 : Int64)] rfl rfl rfl dX12_most_11 rfl (fun r M1 h => c_X12_in _ _ _ _ _ _ _ h) (fun r3 M2 => ?_)
  refine v_ifne X 17 19 dX12_most_14 rfl rfl ?_ ?_
  · refine v_aload_n X 20 0 dX12_most_19 rfl rfl ?_
    refine v_iconst X 21 dX12_most_20 ik_0 rfl ?_
    refine v_putI X 24 fl_X12_447 nof dX12_most_21 rfl (fun M4 => ?_)
    refine v_aload_n X 25 0 dX12_most_24 rfl rfl ?_
    refine v_iconst X 26 dX12_most_25 ik_0 rfl ?_
    refine v_putI X 29 fl_X12_450 nof dX12_most_26 rfl (fun M5 => ?_)
    refine v_aload_n X 30 0 dX12_most_29 rfl rfl ?_
    refine v_iconst X 31 dX12_most_30 ik_0 rfl ?_
    refine v_iload_n X 32 1 dX12_most_31 rfl rfl ?_
    refine v_aload_n X 33 0 dX12_most_32 rfl rfl ?_
    refine v_aload_n X 34 0 dX12_most_33 rfl rfl ?_
    refine v_getR X 37 fl_X12_43.r dX12_most_34 rfl (fun v6 => ?_)
    refine v_vI X 40 cv_X12_worthAll ml_X12_418 (n1 := 5) rfl [.ref v6] rfl rfl rfl dX12_most_37 rfl (fun r M1 h => c_X12_worthAll _ _ _ _ _ _ h) (fun r8 M7 => ?_)
    refine v_vV X 43 cv_X12_putsIn ml_X12_453 (n1 := 109) rfl [.int (0 : Int32), .int x1, .int r8] rfl rfl rfl dX12_most_40 rfl (fun M1 h => c_X12_putsIn _ 100 _ _ _ _ _ _ h) (fun M9 => ?_)
    refine v_aload_n X 44 0 dX12_most_43 rfl rfl ?_
    refine v_iconst X 45 dX12_most_44 ik_0 rfl ?_
    refine v_putI X 48 fl_X12_140 nof dX12_most_45 rfl (fun M10 => ?_)
    refine v_iconst X 49 dX12_most_48 ik_0 rfl ?_
    refine v_istore_n (lv' := [(0, .ref x0), (1, .int x1), (2, .int (0 : Int32))]) X 50 dX12_most_49 (by decide) rfl rfl ?_
    exact v_sb [0, 2] (L_X12_most_50 X Y 1024 _ _ _) rfl
  · refine v_iconst X 18 dX12_most_17 ik_m1 rfl ?_
    exact v_iret X Y (Nat.le_refl _) (Nat.le_refl _) dX12_most_18
theorem c_X12_most (l : Launch) (x0 : Nat) (x1 : Int32) (M : MM) (r : Int32) (M1 : MM) (h : f_X12_most x0 x1 M = some (r, M1)) : KV l yX12_most cX12_most 3 (some .int) (RM 110 0 0) false 12 x0 [.int x1] M (some (.int r)) M1 := by
  obtain ⟨hO, h2⟩ := iteO_some h
  exact ⟨hO, ct_of (tr := trI) (by decide) (Nat.le_of_ble_eq_true rfl) [(0, .ref x0), (1, .int x1)] rfl h2 (fun G X Y hn hl => L_X12_most_0 X Y x0 x1 M)⟩

def f_X12_open_60 (K11 : Nat → Int32 → Int32 → Int32 → MM → Option (Int32 × MM)) (K25 : Nat → Int32 → Int32 → Int32 → Int32 → Int32 → MM → Option (Int32 × MM)) (x0 : Nat) (x1 : Int32) (x2 : Int32) (x3 : Int32) (x5 : Int32) (s0 : Int32) (M : MM) : Option (Int32 × MM) :=
    bn (x5 + 1 : Int32) fun y1 =>
    K25 x0 x1 x2 x3 s0 y1 M

def f_X12_open_55 (K11 : Nat → Int32 → Int32 → Int32 → MM → Option (Int32 × MM)) (K25 : Nat → Int32 → Int32 → Int32 → Int32 → Int32 → MM → Option (Int32 × MM)) (x0 : Nat) (x1 : Int32) (x2 : Int32) (x3 : Int32) (x5 : Int32) (M : MM) : Option (Int32 × MM) :=
    f_X12_open_60 K11 K25 x0 x1 x2 x3 x5 (1 : Int32) M

def f_X12_open_108 (K11 : Nat → Int32 → Int32 → Int32 → MM → Option (Int32 × MM)) (K74 : Nat → Int32 → Int32 → Int32 → Int32 → Int32 → Int32 → MM → Option (Int32 × MM)) (x0 : Nat) (x1 : Int32) (x2 : Int32) (x3 : Int32) (x4 : Int32) (x6 : Int32) (s0 : Int32) (M : MM) : Option (Int32 × MM) :=
    bn (x6 + 1 : Int32) fun y1 =>
    K74 x0 x1 x2 x3 x4 s0 y1 M

def f_X12_open_154 (K11 : Nat → Int32 → Int32 → Int32 → MM → Option (Int32 × MM)) (x0 : Nat) (x1 : Int32) (x3 : Int32) (s0 : Int32) (s1 : Int32) (M : MM) : Option (Int32 × MM) :=
    bn (s1 ||| s0 : Int32) fun y1 =>
    bn (x3 + 1 : Int32) fun y2 =>
    K11 x0 x1 y1 y2 M

def f_X12_open_153 (K11 : Nat → Int32 → Int32 → Int32 → MM → Option (Int32 × MM)) (x0 : Nat) (x1 : Int32) (x3 : Int32) (s0 : Int32) (M : MM) : Option (Int32 × MM) :=
    f_X12_open_154 K11 x0 x1 x3 (0 : Int32) s0 M

def f_X12_open_134 (K11 : Nat → Int32 → Int32 → Int32 → MM → Option (Int32 × MM)) (x0 : Nat) (x2 : Int32) (x3 : Int32) (x4 : Int32) (x5 : Int32) (s0 : Int32) (s1 : Int32) (M : MM) : Option (Int32 × MM) :=
    bn (s1 ||| s0 : Int32) fun y1 =>
    if x4 = 0 then
      if x5 = 0 then
        f_X12_open_154 K11 x0 y1 x3 ((1 : Int32) <<< (x3 &&& 31)) x2 M
      else
        f_X12_open_153 K11 x0 y1 x3 x2 M
    else
      f_X12_open_153 K11 x0 y1 x3 x2 M

def f_X12_open_133 (K11 : Nat → Int32 → Int32 → Int32 → MM → Option (Int32 × MM)) (x0 : Nat) (x2 : Int32) (x3 : Int32) (x4 : Int32) (x5 : Int32) (s0 : Int32) (M : MM) : Option (Int32 × MM) :=
    f_X12_open_134 K11 x0 x2 x3 x4 x5 (0 : Int32) s0 M

def f_X12_open_116 (K11 : Nat → Int32 → Int32 → Int32 → MM → Option (Int32 × MM)) (x0 : Nat) (x1 : Int32) (x2 : Int32) (x3 : Int32) (x4 : Int32) (x5 : Int32) (M : MM) : Option (Int32 × MM) :=
    if x4 = 0 then
      if x5 = 0 then
        f_X12_open_133 K11 x0 x2 x3 x4 x5 x1 M
      else
        f_X12_open_134 K11 x0 x2 x3 x4 x5 ((1 : Int32) <<< (x3 &&& 31)) x1 M
    else
      f_X12_open_133 K11 x0 x2 x3 x4 x5 x1 M

def f_X12_open_74 (K11 : Nat → Int32 → Int32 → Int32 → MM → Option (Int32 × MM)) : Nat → Nat → Int32 → Int32 → Int32 → Int32 → Int32 → Int32 → MM → Option (Int32 × MM)
  | 0, _, _, _, _, _, _, _, _ => none
  | n + 1, x0, x1, x2, x3, x4, x5, x6, M =>
    b1 (gI 12 3 x0 M) fun v1 =>
    if v1 ≤ x6 then
      f_X12_open_116 K11 x0 x1 x2 x3 x4 x5 M
    else
      if x4 = 0 then
        if x5 = 0 then
          b2 (f_X12_earliestFor x0 x6 x3 M) fun r3 M2 =>
          if r3 < 0 then
            f_X12_open_108 K11 (f_X12_open_74 K11 n) x0 x1 x2 x3 x4 x6 (0 : Int32) M2
          else
            f_X12_open_108 K11 (f_X12_open_74 K11 n) x0 x1 x2 x3 x4 x6 (1 : Int32) M2
        else
          f_X12_open_116 K11 x0 x1 x2 x3 x4 x5 M
      else
        f_X12_open_116 K11 x0 x1 x2 x3 x4 x5 M

def f_X12_open_25 (K11 : Nat → Int32 → Int32 → Int32 → MM → Option (Int32 × MM)) : Nat → Nat → Int32 → Int32 → Int32 → Int32 → Int32 → MM → Option (Int32 × MM)
  | 0, _, _, _, _, _, _, _ => none
  | n + 1, x0, x1, x2, x3, x4, x5, M =>
    b1 (gR 12 15 x0 M) fun v1 =>
    b1 (ldI v1 (45 : Int32) M) fun v2 =>
    if v2 ≤ x5 then
      f_X12_open_74 K11 1024 x0 x1 x2 x3 x4 (0 : Int32) (0 : Int32) M
    else
      if x4 = 0 then
        b1 (gR 12 15 x0 M) fun v3 =>
        b2 (f_X12_what v3 x5 M) fun r5 M4 =>
        if r5 = x3 then
          f_X12_open_55 K11 (f_X12_open_25 K11 n) x0 x1 x2 x3 x5 M4
        else
          f_X12_open_60 K11 (f_X12_open_25 K11 n) x0 x1 x2 x3 x5 (0 : Int32) M4
      else
        f_X12_open_55 K11 (f_X12_open_25 K11 n) x0 x1 x2 x3 x5 M

def f_X12_open_11 : Nat → Nat → Int32 → Int32 → Int32 → MM → Option (Int32 × MM)
  | 0, _, _, _, _, _ => none
  | n + 1, x0, x1, x2, x3, M =>
    b1 (gI 12 4 x0 M) fun v1 =>
    if v1 ≤ x3 then
      b1 (pI 12 1 x0 (0 : Int32) M) fun M2 =>
      b1 (f_X12_enters x0 (Int32.toInt64 x2) M2) fun M3 =>
      some (x1, M3)
    else
      f_X12_open_25 (f_X12_open_11 n) 1024 x0 x1 x2 x3 (0 : Int32) (0 : Int32) M

def f_X12_open_0 (x0 : Nat) (M : MM) : Option (Int32 × MM) :=
    b1 (pI 12 0 x0 (0 : Int32) M) fun M1 =>
    f_X12_open_11 1024 x0 (0 : Int32) (0 : Int32) (0 : Int32) M1

def f_X12_open (x0 : Nat) (M : MM) : Option (Int32 × MM) := if isO 12 x0 M = true then f_X12_open_0 x0 M else none
set_option maxRecDepth 4000 in
theorem L_X12_open_60 {G : Gx} (X : Cb G cX12_open 7 RX12 (RM 9 0 0) false) (Y : Cr G (some .int) 0 0) {K11 : Nat → Int32 → Int32 → Int32 → MM → Option (Int32 × MM)} (hK11 : ∀ (x0 : Nat) (x1 : Int32) (x2 : Int32) (x3 : Int32) (M : MM), V G trI 7 0 0 11 [(0, .ref x0), (1, .int x1), (2, .int x2), (3, .int x3)] [] M (K11 x0 x1 x2 x3 M)) {K25 : Nat → Int32 → Int32 → Int32 → Int32 → Int32 → MM → Option (Int32 × MM)} (hK25 : ∀ (x0 : Nat) (x1 : Int32) (x2 : Int32) (x3 : Int32) (x4 : Int32) (x5 : Int32) (M : MM), V G trI 7 0 0 25 [(0, .ref x0), (1, .int x1), (2, .int x2), (3, .int x3), (4, .int x4), (5, .int x5)] [] M (K25 x0 x1 x2 x3 x4 x5 M)) (x0 : Nat) (x1 : Int32) (x2 : Int32) (x3 : Int32) (x5 : Int32) (s0 : Int32) (M : MM) : V G trI 7 0 0 60 [(0, .ref x0), (1, .int x1), (2, .int x2), (3, .int x3), (5, .int x5)] [.int s0] M (f_X12_open_60 K11 K25 x0 x1 x2 x3 x5 s0 M) := by
  unfold f_X12_open_60
  refine v_istore (lv' := [(0, .ref x0), (1, .int x1), (2, .int x2), (3, .int x3), (4, .int s0), (5, .int x5)]) X 62 dX12_open_60 (by decide) rfl rfl ?_
  refine v_iinc X 65 5 (fun z => [(0, .ref x0), (1, .int x1), (2, .int x2), (3, .int x3), (4, .int s0), (5, .int z)]) dX12_open_62 rfl ik_1 (by decide) (fun _ => rfl) rfl (fun y1 => ?_)
  refine v_goto X 25 dX12_open_65 rfl ?_
  exact hK25 _ _ _ _ _ _ _
set_option maxRecDepth 4000 in
theorem L_X12_open_55 {G : Gx} (X : Cb G cX12_open 7 RX12 (RM 9 0 0) false) (Y : Cr G (some .int) 0 0) {K11 : Nat → Int32 → Int32 → Int32 → MM → Option (Int32 × MM)} (hK11 : ∀ (x0 : Nat) (x1 : Int32) (x2 : Int32) (x3 : Int32) (M : MM), V G trI 7 0 0 11 [(0, .ref x0), (1, .int x1), (2, .int x2), (3, .int x3)] [] M (K11 x0 x1 x2 x3 M)) {K25 : Nat → Int32 → Int32 → Int32 → Int32 → Int32 → MM → Option (Int32 × MM)} (hK25 : ∀ (x0 : Nat) (x1 : Int32) (x2 : Int32) (x3 : Int32) (x4 : Int32) (x5 : Int32) (M : MM), V G trI 7 0 0 25 [(0, .ref x0), (1, .int x1), (2, .int x2), (3, .int x3), (4, .int x4), (5, .int x5)] [] M (K25 x0 x1 x2 x3 x4 x5 M)) (x0 : Nat) (x1 : Int32) (x2 : Int32) (x3 : Int32) (x5 : Int32) (M : MM) : V G trI 7 0 0 55 [(0, .ref x0), (1, .int x1), (2, .int x2), (3, .int x3), (5, .int x5)] [] M (f_X12_open_55 K11 K25 x0 x1 x2 x3 x5 M) := by
  unfold f_X12_open_55
  refine v_iconst X 56 dX12_open_55 ik_1 rfl ?_
  refine v_goto X 60 dX12_open_56 rfl ?_
  exact L_X12_open_60 X Y hK11 hK25 _ _ _ _ _ _ _
set_option maxRecDepth 4000 in
theorem L_X12_open_108 {G : Gx} (X : Cb G cX12_open 7 RX12 (RM 9 0 0) false) (Y : Cr G (some .int) 0 0) {K11 : Nat → Int32 → Int32 → Int32 → MM → Option (Int32 × MM)} (hK11 : ∀ (x0 : Nat) (x1 : Int32) (x2 : Int32) (x3 : Int32) (M : MM), V G trI 7 0 0 11 [(0, .ref x0), (1, .int x1), (2, .int x2), (3, .int x3)] [] M (K11 x0 x1 x2 x3 M)) {K74 : Nat → Int32 → Int32 → Int32 → Int32 → Int32 → Int32 → MM → Option (Int32 × MM)} (hK74 : ∀ (x0 : Nat) (x1 : Int32) (x2 : Int32) (x3 : Int32) (x4 : Int32) (x5 : Int32) (x6 : Int32) (M : MM), V G trI 7 0 0 74 [(0, .ref x0), (1, .int x1), (2, .int x2), (3, .int x3), (4, .int x4), (5, .int x5), (6, .int x6)] [] M (K74 x0 x1 x2 x3 x4 x5 x6 M)) (x0 : Nat) (x1 : Int32) (x2 : Int32) (x3 : Int32) (x4 : Int32) (x6 : Int32) (s0 : Int32) (M : MM) : V G trI 7 0 0 108 [(0, .ref x0), (1, .int x1), (2, .int x2), (3, .int x3), (4, .int x4), (6, .int x6)] [.int s0] M (f_X12_open_108 K11 K74 x0 x1 x2 x3 x4 x6 s0 M) := by
  unfold f_X12_open_108
  refine v_istore (lv' := [(0, .ref x0), (1, .int x1), (2, .int x2), (3, .int x3), (4, .int x4), (5, .int s0), (6, .int x6)]) X 110 dX12_open_108 (by decide) rfl rfl ?_
  refine v_iinc X 113 6 (fun z => [(0, .ref x0), (1, .int x1), (2, .int x2), (3, .int x3), (4, .int x4), (5, .int s0), (6, .int z)]) dX12_open_110 rfl ik_1 (by decide) (fun _ => rfl) rfl (fun y1 => ?_)
  refine v_goto X 74 dX12_open_113 rfl ?_
  exact hK74 _ _ _ _ _ _ _ _
set_option maxRecDepth 4000 in
theorem L_X12_open_154 {G : Gx} (X : Cb G cX12_open 7 RX12 (RM 9 0 0) false) (Y : Cr G (some .int) 0 0) {K11 : Nat → Int32 → Int32 → Int32 → MM → Option (Int32 × MM)} (hK11 : ∀ (x0 : Nat) (x1 : Int32) (x2 : Int32) (x3 : Int32) (M : MM), V G trI 7 0 0 11 [(0, .ref x0), (1, .int x1), (2, .int x2), (3, .int x3)] [] M (K11 x0 x1 x2 x3 M)) (x0 : Nat) (x1 : Int32) (x3 : Int32) (s0 : Int32) (s1 : Int32) (M : MM) : V G trI 7 0 0 154 [(0, .ref x0), (1, .int x1), (3, .int x3)] [.int s0, .int s1] M (f_X12_open_154 K11 x0 x1 x3 s0 s1 M) := by
  unfold f_X12_open_154
  refine v_ior X 155 dX12_open_154 rfl ?_
  refine v_bnI (fun y1 => ?_)
  refine v_istore_n (lv' := [(0, .ref x0), (1, .int x1), (2, .int y1), (3, .int x3)]) X 156 dX12_open_155 (by decide) rfl rfl ?_
  refine v_iinc X 159 3 (fun z => [(0, .ref x0), (1, .int x1), (2, .int y1), (3, .int z)]) dX12_open_156 rfl ik_1 (by decide) (fun _ => rfl) rfl (fun y2 => ?_)
  refine v_goto X 11 dX12_open_159 rfl ?_
  exact hK11 _ _ _ _ _
set_option maxRecDepth 4000 in
theorem L_X12_open_153 {G : Gx} (X : Cb G cX12_open 7 RX12 (RM 9 0 0) false) (Y : Cr G (some .int) 0 0) {K11 : Nat → Int32 → Int32 → Int32 → MM → Option (Int32 × MM)} (hK11 : ∀ (x0 : Nat) (x1 : Int32) (x2 : Int32) (x3 : Int32) (M : MM), V G trI 7 0 0 11 [(0, .ref x0), (1, .int x1), (2, .int x2), (3, .int x3)] [] M (K11 x0 x1 x2 x3 M)) (x0 : Nat) (x1 : Int32) (x3 : Int32) (s0 : Int32) (M : MM) : V G trI 7 0 0 153 [(0, .ref x0), (1, .int x1), (3, .int x3)] [.int s0] M (f_X12_open_153 K11 x0 x1 x3 s0 M) := by
  unfold f_X12_open_153
  refine v_iconst X 154 dX12_open_153 ik_0 rfl ?_
  exact L_X12_open_154 X Y hK11 _ _ _ _ _ _
set_option maxRecDepth 4000 in
theorem L_X12_open_134 {G : Gx} (X : Cb G cX12_open 7 RX12 (RM 9 0 0) false) (Y : Cr G (some .int) 0 0) {K11 : Nat → Int32 → Int32 → Int32 → MM → Option (Int32 × MM)} (hK11 : ∀ (x0 : Nat) (x1 : Int32) (x2 : Int32) (x3 : Int32) (M : MM), V G trI 7 0 0 11 [(0, .ref x0), (1, .int x1), (2, .int x2), (3, .int x3)] [] M (K11 x0 x1 x2 x3 M)) (x0 : Nat) (x2 : Int32) (x3 : Int32) (x4 : Int32) (x5 : Int32) (s0 : Int32) (s1 : Int32) (M : MM) : V G trI 7 0 0 134 [(0, .ref x0), (2, .int x2), (3, .int x3), (4, .int x4), (5, .int x5)] [.int s0, .int s1] M (f_X12_open_134 K11 x0 x2 x3 x4 x5 s0 s1 M) := by
  unfold f_X12_open_134
  refine v_ior X 135 dX12_open_134 rfl ?_
  refine v_bnI (fun y1 => ?_)
  refine v_istore_n (lv' := [(0, .ref x0), (1, .int y1), (2, .int x2), (3, .int x3), (4, .int x4), (5, .int x5)]) X 136 dX12_open_135 (by decide) rfl rfl ?_
  refine v_iload_n X 137 2 dX12_open_136 rfl rfl ?_
  refine v_iload X 139 4 dX12_open_137 rfl rfl ?_
  refine v_ifne X 142 153 dX12_open_139 rfl rfl ?_ ?_
  · exact v_sb [0, 1, 3] (L_X12_open_153 X Y hK11 _ _ _ _ _) rfl
  · refine v_iload X 144 5 dX12_open_142 rfl rfl ?_
    refine v_ifne X 147 153 dX12_open_144 rfl rfl ?_ ?_
    · exact v_sb [0, 1, 3] (L_X12_open_153 X Y hK11 _ _ _ _ _) rfl
    · refine v_iconst X 148 dX12_open_147 ik_1 rfl ?_
      refine v_iload_n X 149 3 dX12_open_148 rfl rfl ?_
      refine v_ishl X 150 dX12_open_149 rfl ?_
      refine v_goto X 154 dX12_open_150 rfl ?_
      exact v_sb [0, 1, 3] (L_X12_open_154 X Y hK11 _ _ _ _ _ _) rfl
set_option maxRecDepth 4000 in
theorem L_X12_open_133 {G : Gx} (X : Cb G cX12_open 7 RX12 (RM 9 0 0) false) (Y : Cr G (some .int) 0 0) {K11 : Nat → Int32 → Int32 → Int32 → MM → Option (Int32 × MM)} (hK11 : ∀ (x0 : Nat) (x1 : Int32) (x2 : Int32) (x3 : Int32) (M : MM), V G trI 7 0 0 11 [(0, .ref x0), (1, .int x1), (2, .int x2), (3, .int x3)] [] M (K11 x0 x1 x2 x3 M)) (x0 : Nat) (x2 : Int32) (x3 : Int32) (x4 : Int32) (x5 : Int32) (s0 : Int32) (M : MM) : V G trI 7 0 0 133 [(0, .ref x0), (2, .int x2), (3, .int x3), (4, .int x4), (5, .int x5)] [.int s0] M (f_X12_open_133 K11 x0 x2 x3 x4 x5 s0 M) := by
  unfold f_X12_open_133
  refine v_iconst X 134 dX12_open_133 ik_0 rfl ?_
  exact L_X12_open_134 X Y hK11 _ _ _ _ _ _ _ _
set_option maxRecDepth 4000 in
theorem L_X12_open_116 {G : Gx} (X : Cb G cX12_open 7 RX12 (RM 9 0 0) false) (Y : Cr G (some .int) 0 0) {K11 : Nat → Int32 → Int32 → Int32 → MM → Option (Int32 × MM)} (hK11 : ∀ (x0 : Nat) (x1 : Int32) (x2 : Int32) (x3 : Int32) (M : MM), V G trI 7 0 0 11 [(0, .ref x0), (1, .int x1), (2, .int x2), (3, .int x3)] [] M (K11 x0 x1 x2 x3 M)) (x0 : Nat) (x1 : Int32) (x2 : Int32) (x3 : Int32) (x4 : Int32) (x5 : Int32) (M : MM) : V G trI 7 0 0 116 [(0, .ref x0), (1, .int x1), (2, .int x2), (3, .int x3), (4, .int x4), (5, .int x5)] [] M (f_X12_open_116 K11 x0 x1 x2 x3 x4 x5 M) := by
  unfold f_X12_open_116
  refine v_iload_n X 117 1 dX12_open_116 rfl rfl ?_
  refine v_iload X 119 4 dX12_open_117 rfl rfl ?_
  refine v_ifne X 122 133 dX12_open_119 rfl rfl ?_ ?_
  · exact v_sb [0, 2, 3, 4, 5] (L_X12_open_133 X Y hK11 _ _ _ _ _ _ _) rfl
  · refine v_iload X 124 5 dX12_open_122 rfl rfl ?_
    refine v_ifeq X 127 133 dX12_open_124 rfl rfl ?_ ?_
    · exact v_sb [0, 2, 3, 4, 5] (L_X12_open_133 X Y hK11 _ _ _ _ _ _ _) rfl
    · refine v_iconst X 128 dX12_open_127 ik_1 rfl ?_
      refine v_iload_n X 129 3 dX12_open_128 rfl rfl ?_
      refine v_ishl X 130 dX12_open_129 rfl ?_
      refine v_goto X 134 dX12_open_130 rfl ?_
      exact v_sb [0, 2, 3, 4, 5] (L_X12_open_134 X Y hK11 _ _ _ _ _ _ _ _) rfl
set_option maxRecDepth 4000 in
theorem L_X12_open_74 {G : Gx} (X : Cb G cX12_open 7 RX12 (RM 9 0 0) false) (Y : Cr G (some .int) 0 0) {K11 : Nat → Int32 → Int32 → Int32 → MM → Option (Int32 × MM)} (hK11 : ∀ (x0 : Nat) (x1 : Int32) (x2 : Int32) (x3 : Int32) (M : MM), V G trI 7 0 0 11 [(0, .ref x0), (1, .int x1), (2, .int x2), (3, .int x3)] [] M (K11 x0 x1 x2 x3 M)) : ∀ (n : Nat) (x0 : Nat) (x1 : Int32) (x2 : Int32) (x3 : Int32) (x4 : Int32) (x5 : Int32) (x6 : Int32) (M : MM), V G trI 7 0 0 74 [(0, .ref x0), (1, .int x1), (2, .int x2), (3, .int x3), (4, .int x4), (5, .int x5), (6, .int x6)] [] M (f_X12_open_74 K11 n x0 x1 x2 x3 x4 x5 x6 M) := by
  intro n
  induction n with
  | zero => intro x0 x1 x2 x3 x4 x5 x6 M; rw [f_X12_open_74]; exact v_none
  | succ n ih =>
    intro x0 x1 x2 x3 x4 x5 x6 M
    rw [f_X12_open_74]
    refine v_iload X 76 6 dX12_open_74 rfl rfl ?_
    refine v_aload_n X 77 0 dX12_open_76 rfl rfl ?_
    refine v_getI X 80 fl_X12_143.r dX12_open_77 rfl (fun v1 => ?_)
    refine v_icge X 83 116 dX12_open_80 rfl rfl ?_ ?_
    · exact v_sb [0, 1, 2, 3, 4, 5] (L_X12_open_116 X Y hK11 _ _ _ _ _ _ _) rfl
    · refine v_iload X 85 4 dX12_open_83 rfl rfl ?_
      refine v_ifne X 88 116 dX12_open_85 rfl rfl ?_ ?_
      · exact v_sb [0, 1, 2, 3, 4, 5] (L_X12_open_116 X Y hK11 _ _ _ _ _ _ _) rfl
      · refine v_iload X 90 5 dX12_open_88 rfl rfl ?_
        refine v_ifne X 93 116 dX12_open_90 rfl rfl ?_ ?_
        · exact v_sb [0, 1, 2, 3, 4, 5] (L_X12_open_116 X Y hK11 _ _ _ _ _ _ _) rfl
        · refine v_aload_n X 94 0 dX12_open_93 rfl rfl ?_
          refine v_iload X 96 6 dX12_open_94 rfl rfl ?_
          refine v_iload_n X 97 3 dX12_open_96 rfl rfl ?_
          refine v_vI X 100 cv_X12_earliestFor ml_X12_438 (n1 := 8) rfl [.int x6, .int x3] rfl rfl rfl dX12_open_97 rfl (fun r M1 h => c_X12_earliestFor _ _ _ _ _ _ _ h) (fun r3 M2 => ?_)
          refine v_iflt X 103 107 dX12_open_100 rfl rfl ?_ ?_
          · refine v_iconst X 108 dX12_open_107 ik_0 rfl ?_
            exact v_sb [0, 1, 2, 3, 4, 6] (L_X12_open_108 X Y hK11 ih _ _ _ _ _ _ _ _) rfl
          · refine v_iconst X 104 dX12_open_103 ik_1 rfl ?_
            refine v_goto X 108 dX12_open_104 rfl ?_
            exact v_sb [0, 1, 2, 3, 4, 6] (L_X12_open_108 X Y hK11 ih _ _ _ _ _ _ _ _) rfl
set_option maxRecDepth 4000 in
theorem L_X12_open_25 {G : Gx} (X : Cb G cX12_open 7 RX12 (RM 9 0 0) false) (Y : Cr G (some .int) 0 0) {K11 : Nat → Int32 → Int32 → Int32 → MM → Option (Int32 × MM)} (hK11 : ∀ (x0 : Nat) (x1 : Int32) (x2 : Int32) (x3 : Int32) (M : MM), V G trI 7 0 0 11 [(0, .ref x0), (1, .int x1), (2, .int x2), (3, .int x3)] [] M (K11 x0 x1 x2 x3 M)) : ∀ (n : Nat) (x0 : Nat) (x1 : Int32) (x2 : Int32) (x3 : Int32) (x4 : Int32) (x5 : Int32) (M : MM), V G trI 7 0 0 25 [(0, .ref x0), (1, .int x1), (2, .int x2), (3, .int x3), (4, .int x4), (5, .int x5)] [] M (f_X12_open_25 K11 n x0 x1 x2 x3 x4 x5 M) := by
  intro n
  induction n with
  | zero => intro x0 x1 x2 x3 x4 x5 M; rw [f_X12_open_25]; exact v_none
  | succ n ih =>
    intro x0 x1 x2 x3 x4 x5 M
    rw [f_X12_open_25]
    refine v_iload X 27 5 dX12_open_25 rfl rfl ?_
    refine v_aload_n X 28 0 dX12_open_27 rfl rfl ?_
    refine v_getR X 31 fl_X12_43.r dX12_open_28 rfl (fun v1 => ?_)
    refine v_bipush X 33 dX12_open_31 bk_45 rfl ?_
    refine v_iald X 34 dX12_open_33 rfl (fun v2 => ?_)
    refine v_icge X 37 68 dX12_open_34 rfl rfl ?_ ?_
    · refine v_iconst X 69 dX12_open_68 ik_0 rfl ?_
      refine v_istore (lv' := [(0, .ref x0), (1, .int x1), (2, .int x2), (3, .int x3), (4, .int x4), (5, .int (0 : Int32))]) X 71 dX12_open_69 (by decide) rfl rfl ?_
      refine v_iconst X 72 dX12_open_71 ik_0 rfl ?_
      refine v_istore (lv' := [(0, .ref x0), (1, .int x1), (2, .int x2), (3, .int x3), (4, .int x4), (5, .int (0 : Int32)), (6, .int (0 : Int32))]) X 74 dX12_open_72 (by decide) rfl rfl ?_
      exact L_X12_open_74 X Y hK11 1024 _ _ _ _ _ _ _ _
    · refine v_iload X 39 4 dX12_open_37 rfl rfl ?_
      refine v_ifne X 42 55 dX12_open_39 rfl rfl ?_ ?_
      · exact v_sb [0, 1, 2, 3, 5] (L_X12_open_55 X Y hK11 ih _ _ _ _ _ _) rfl
      · refine v_aload_n X 43 0 dX12_open_42 rfl rfl ?_
        refine v_getR X 46 fl_X12_43.r dX12_open_43 rfl (fun v3 => ?_)
        refine v_iload X 48 5 dX12_open_46 rfl rfl ?_
        refine v_sI X 51 cs_X12_what ml_X12_278 (n1 := 1) rfl [.ref v3, .int x5] rfl rfl rfl dX12_open_48 rfl (fun r M1 h => c_X12_what _ _ _ _ _ _ h) (fun r5 M4 => ?_)
        refine v_iload_n X 52 3 dX12_open_51 rfl rfl ?_
        refine v_icne X 55 59 dX12_open_52 rfl rfl ?_ ?_
        · refine v_iconst X 60 dX12_open_59 ik_0 rfl ?_
          exact v_sb [0, 1, 2, 3, 5] (L_X12_open_60 X Y hK11 ih _ _ _ _ _ _ _) rfl
        · exact v_sb [0, 1, 2, 3, 5] (L_X12_open_55 X Y hK11 ih _ _ _ _ _ _) rfl
set_option maxRecDepth 4000 in
theorem L_X12_open_11 {G : Gx} (X : Cb G cX12_open 7 RX12 (RM 9 0 0) false) (Y : Cr G (some .int) 0 0) : ∀ (n : Nat) (x0 : Nat) (x1 : Int32) (x2 : Int32) (x3 : Int32) (M : MM), V G trI 7 0 0 11 [(0, .ref x0), (1, .int x1), (2, .int x2), (3, .int x3)] [] M (f_X12_open_11 n x0 x1 x2 x3 M) := by
  intro n
  induction n with
  | zero => intro x0 x1 x2 x3 M; rw [f_X12_open_11]; exact v_none
  | succ n ih =>
    intro x0 x1 x2 x3 M
    rw [f_X12_open_11]
    refine v_iload_n X 12 3 dX12_open_11 rfl rfl ?_
    refine v_aload_n X 13 0 dX12_open_12 rfl rfl ?_
    refine v_getI X 16 fl_X12_150.r dX12_open_13 rfl (fun v1 => ?_)
    refine v_icge X 19 162 dX12_open_16 rfl rfl ?_ ?_
    · refine v_aload_n X 163 0 dX12_open_162 rfl rfl ?_
      refine v_iconst X 164 dX12_open_163 ik_0 rfl ?_
      refine v_putI X 167 fl_X12_140 nof dX12_open_164 rfl (fun M2 => ?_)
      refine v_aload_n X 168 0 dX12_open_167 rfl rfl ?_
      refine v_iload_n X 169 2 dX12_open_168 rfl rfl ?_
      refine v_i2l X 170 dX12_open_169 rfl ?_
      refine v_vV X 173 cv_X12_enters ml_X12_414 (n1 := 1) rfl [.long (Int32.toInt64 x2)] rfl rfl rfl dX12_open_170 rfl (fun M1 h => c_X12_enters _ _ _ _ _ h) (fun M3 => ?_)
      refine v_iload_n X 174 1 dX12_open_173 rfl rfl ?_
      exact v_iret X Y (Nat.le_refl _) (Nat.le_refl _) dX12_open_174
    · refine v_iconst X 20 dX12_open_19 ik_0 rfl ?_
      refine v_istore (lv' := [(0, .ref x0), (1, .int x1), (2, .int x2), (3, .int x3), (4, .int (0 : Int32))]) X 22 dX12_open_20 (by decide) rfl rfl ?_
      refine v_iconst X 23 dX12_open_22 ik_0 rfl ?_
      refine v_istore (lv' := [(0, .ref x0), (1, .int x1), (2, .int x2), (3, .int x3), (4, .int (0 : Int32)), (5, .int (0 : Int32))]) X 25 dX12_open_23 (by decide) rfl rfl ?_
      exact L_X12_open_25 X Y ih 1024 _ _ _ _ _ _ _
set_option maxRecDepth 4000 in
theorem L_X12_open_0 {G : Gx} (X : Cb G cX12_open 7 RX12 (RM 9 0 0) false) (Y : Cr G (some .int) 0 0) (x0 : Nat) (M : MM) : V G trI 7 0 0 0 [(0, .ref x0)] [] M (f_X12_open_0 x0 M) := by
  unfold f_X12_open_0
  refine v_aload_n X 1 0 dX12_open_0 rfl rfl ?_
  refine v_iconst X 2 dX12_open_1 ik_0 rfl ?_
  refine v_putI X 5 fl_X12_133 nof dX12_open_2 rfl (fun M1 => ?_)
  refine v_iconst X 6 dX12_open_5 ik_0 rfl ?_
  refine v_istore_n (lv' := [(0, .ref x0), (1, .int (0 : Int32))]) X 7 dX12_open_6 (by decide) rfl rfl ?_
  refine v_iconst X 8 dX12_open_7 ik_0 rfl ?_
  refine v_istore_n (lv' := [(0, .ref x0), (1, .int (0 : Int32)), (2, .int (0 : Int32))]) X 9 dX12_open_8 (by decide) rfl rfl ?_
  refine v_iconst X 10 dX12_open_9 ik_0 rfl ?_
  refine v_istore_n (lv' := [(0, .ref x0), (1, .int (0 : Int32)), (2, .int (0 : Int32)), (3, .int (0 : Int32))]) X 11 dX12_open_10 (by decide) rfl rfl ?_
  exact L_X12_open_11 X Y 1024 _ _ _ _ _
theorem c_X12_open (l : Launch) (x0 : Nat) (M : MM) (r : Int32) (M1 : MM) (h : f_X12_open x0 M = some (r, M1)) : KV l yX12_open cX12_open 7 (some .int) (RM 9 0 0) false 12 x0 [] M (some (.int r)) M1 := by
  obtain ⟨hO, h2⟩ := iteO_some h
  exact ⟨hO, ct_of (tr := trI) (by decide) (Nat.le_of_ble_eq_true rfl) [(0, .ref x0)] rfl h2 (fun G X Y hn hl => L_X12_open_0 X Y x0 M)⟩

def f_X12_isFine_30 (K4 : Nat → Nat → Int32 → Int32 → MM → Option (Int32 × MM)) (x0 : Nat) (x1 : Nat) (x3 : Int32) (s0 : Int32) (M : MM) : Option (Int32 × MM) :=
    bn (x3 + 1 : Int32) fun y1 =>
    K4 x0 x1 s0 y1 M

def f_X12_isFine_39 : Nat → Nat → Nat → Int32 → Int32 → MM → Option (Int32 × MM)
  | 0, _, _, _, _, _ => none
  | n + 1, x0, x1, x2, x3, M =>
    b1 (gI 12 6 x0 M) fun v1 =>
    if v1 ≤ x3 then
      rz x2 M
    else
      if x2 = 0 then
        rz x2 M
      else
        b2 (f_X12_isWatched x0 x1 x3 M) fun r3 M2 =>
        bn (x3 + 1 : Int32) fun y4 =>
        f_X12_isFine_39 n x0 x1 r3 y4 M2

def f_X12_isFine_37 (x0 : Nat) (x1 : Nat) (x2 : Int32) (M : MM) : Option (Int32 × MM) :=
    f_X12_isFine_39 1024 x0 x1 x2 (0 : Int32) M

def f_X12_isFine_4 : Nat → Nat → Nat → Int32 → Int32 → MM → Option (Int32 × MM)
  | 0, _, _, _, _, _ => none
  | n + 1, x0, x1, x2, x3, M =>
    b1 (ldI x1 (45 : Int32) M) fun v1 =>
    if v1 ≤ x3 then
      f_X12_isFine_37 x0 x1 x2 M
    else
      if x2 = 0 then
        f_X12_isFine_37 x0 x1 x2 M
      else
        b2 (f_X12_whyNot x0 x1 x3 M) fun r3 M2 =>
        if r3 = 0 then
          f_X12_isFine_30 (f_X12_isFine_4 n) x0 x1 x3 (1 : Int32) M2
        else
          f_X12_isFine_30 (f_X12_isFine_4 n) x0 x1 x3 (0 : Int32) M2

def f_X12_isFine_0 (x0 : Nat) (x1 : Nat) (M : MM) : Option (Int32 × MM) :=
    f_X12_isFine_4 1024 x0 x1 (1 : Int32) (0 : Int32) M

def f_X12_isFine (x0 : Nat) (x1 : Nat) (M : MM) : Option (Int32 × MM) := if isO 12 x0 M = true then f_X12_isFine_0 x0 x1 M else none
set_option maxRecDepth 4000 in
theorem L_X12_isFine_30 {G : Gx} (X : Cb G cX12_isFine 4 RX12 (RM 6 0 0) false) (Y : Cr G (some .boolean) 0 0) {K4 : Nat → Nat → Int32 → Int32 → MM → Option (Int32 × MM)} (hK4 : ∀ (x0 : Nat) (x1 : Nat) (x2 : Int32) (x3 : Int32) (M : MM), V G trI 4 0 0 4 [(0, .ref x0), (1, .ref x1), (2, .int x2), (3, .int x3)] [] M (K4 x0 x1 x2 x3 M)) (x0 : Nat) (x1 : Nat) (x3 : Int32) (s0 : Int32) (M : MM) : V G trI 4 0 0 30 [(0, .ref x0), (1, .ref x1), (3, .int x3)] [.int s0] M (f_X12_isFine_30 K4 x0 x1 x3 s0 M) := by
  unfold f_X12_isFine_30
  refine v_istore_n (lv' := [(0, .ref x0), (1, .ref x1), (2, .int s0), (3, .int x3)]) X 31 dX12_isFine_30 (by decide) rfl rfl ?_
  refine v_iinc X 34 3 (fun z => [(0, .ref x0), (1, .ref x1), (2, .int s0), (3, .int z)]) dX12_isFine_31 rfl ik_1 (by decide) (fun _ => rfl) rfl (fun y1 => ?_)
  refine v_goto X 4 dX12_isFine_34 rfl ?_
  exact hK4 _ _ _ _ _
set_option maxRecDepth 4000 in
theorem L_X12_isFine_39 {G : Gx} (X : Cb G cX12_isFine 4 RX12 (RM 6 0 0) false) (Y : Cr G (some .boolean) 0 0) : ∀ (n : Nat) (x0 : Nat) (x1 : Nat) (x2 : Int32) (x3 : Int32) (M : MM), V G trI 4 0 0 39 [(0, .ref x0), (1, .ref x1), (2, .int x2), (3, .int x3)] [] M (f_X12_isFine_39 n x0 x1 x2 x3 M) := by
  intro n
  induction n with
  | zero => intro x0 x1 x2 x3 M; rw [f_X12_isFine_39]; exact v_none
  | succ n ih =>
    intro x0 x1 x2 x3 M
    rw [f_X12_isFine_39]
    refine v_iload_n X 40 3 dX12_isFine_39 rfl rfl ?_
    refine v_aload_n X 41 0 dX12_isFine_40 rfl rfl ?_
    refine v_getI X 44 fl_X12_13.r dX12_isFine_41 rfl (fun v1 => ?_)
    refine v_icge X 47 64 dX12_isFine_44 rfl rfl ?_ ?_
    · refine v_iload_n X 65 2 dX12_isFine_64 rfl rfl ?_
      exact v_zret X Y (Nat.le_refl _) (Nat.le_refl _) dX12_isFine_65
    · refine v_iload_n X 48 2 dX12_isFine_47 rfl rfl ?_
      refine v_ifeq X 51 64 dX12_isFine_48 rfl rfl ?_ ?_
      · refine v_iload_n X 65 2 dX12_isFine_64 rfl rfl ?_
        exact v_zret X Y (Nat.le_refl _) (Nat.le_refl _) dX12_isFine_65
      · refine v_aload_n X 52 0 dX12_isFine_51 rfl rfl ?_
        refine v_aload_n X 53 1 dX12_isFine_52 rfl rfl ?_
        refine v_iload_n X 54 3 dX12_isFine_53 rfl rfl ?_
        refine v_vI X 57 cv_X12_isWatched ml_X12_329 (n1 := 5) rfl [.ref x1, .int x3] rfl rfl rfl dX12_isFine_54 rfl (fun r M1 h => c_X12_isWatched _ _ _ _ _ _ _ h) (fun r3 M2 => ?_)
        refine v_istore_n (lv' := [(0, .ref x0), (1, .ref x1), (2, .int r3), (3, .int x3)]) X 58 dX12_isFine_57 (by decide) rfl rfl ?_
        refine v_iinc X 61 3 (fun z => [(0, .ref x0), (1, .ref x1), (2, .int r3), (3, .int z)]) dX12_isFine_58 rfl ik_1 (by decide) (fun _ => rfl) rfl (fun y4 => ?_)
        refine v_goto X 39 dX12_isFine_61 rfl ?_
        exact ih _ _ _ _ _
set_option maxRecDepth 4000 in
theorem L_X12_isFine_37 {G : Gx} (X : Cb G cX12_isFine 4 RX12 (RM 6 0 0) false) (Y : Cr G (some .boolean) 0 0) (x0 : Nat) (x1 : Nat) (x2 : Int32) (M : MM) : V G trI 4 0 0 37 [(0, .ref x0), (1, .ref x1), (2, .int x2)] [] M (f_X12_isFine_37 x0 x1 x2 M) := by
  unfold f_X12_isFine_37
  refine v_iconst X 38 dX12_isFine_37 ik_0 rfl ?_
  refine v_istore_n (lv' := [(0, .ref x0), (1, .ref x1), (2, .int x2), (3, .int (0 : Int32))]) X 39 dX12_isFine_38 (by decide) rfl rfl ?_
  exact L_X12_isFine_39 X Y 1024 _ _ _ _ _
set_option maxRecDepth 4000 in
theorem L_X12_isFine_4 {G : Gx} (X : Cb G cX12_isFine 4 RX12 (RM 6 0 0) false) (Y : Cr G (some .boolean) 0 0) : ∀ (n : Nat) (x0 : Nat) (x1 : Nat) (x2 : Int32) (x3 : Int32) (M : MM), V G trI 4 0 0 4 [(0, .ref x0), (1, .ref x1), (2, .int x2), (3, .int x3)] [] M (f_X12_isFine_4 n x0 x1 x2 x3 M) := by
  intro n
  induction n with
  | zero => intro x0 x1 x2 x3 M; rw [f_X12_isFine_4]; exact v_none
  | succ n ih =>
    intro x0 x1 x2 x3 M
    rw [f_X12_isFine_4]
    refine v_iload_n X 5 3 dX12_isFine_4 rfl rfl ?_
    refine v_aload_n X 6 1 dX12_isFine_5 rfl rfl ?_
    refine v_bipush X 8 dX12_isFine_6 bk_45 rfl ?_
    refine v_iald X 9 dX12_isFine_8 rfl (fun v1 => ?_)
    refine v_icge X 12 37 dX12_isFine_9 rfl rfl ?_ ?_
    · exact v_sb [0, 1, 2] (L_X12_isFine_37 X Y _ _ _ _) rfl
    · refine v_iload_n X 13 2 dX12_isFine_12 rfl rfl ?_
      refine v_ifeq X 16 37 dX12_isFine_13 rfl rfl ?_ ?_
      · exact v_sb [0, 1, 2] (L_X12_isFine_37 X Y _ _ _ _) rfl
      · refine v_aload_n X 17 0 dX12_isFine_16 rfl rfl ?_
        refine v_aload_n X 18 1 dX12_isFine_17 rfl rfl ?_
        refine v_iload_n X 19 3 dX12_isFine_18 rfl rfl ?_
        refine v_vI X 22 cv_X12_whyNot ml_X12_369 (n1 := 4) rfl [.ref x1, .int x3] rfl rfl rfl dX12_isFine_19 rfl (fun r M1 h => c_X12_whyNot _ _ _ _ _ _ _ h) (fun r3 M2 => ?_)
        refine v_ifne X 25 29 dX12_isFine_22 rfl rfl ?_ ?_
        · refine v_iconst X 30 dX12_isFine_29 ik_0 rfl ?_
          exact v_sb [0, 1, 3] (L_X12_isFine_30 X Y ih _ _ _ _ _) rfl
        · refine v_iconst X 26 dX12_isFine_25 ik_1 rfl ?_
          refine v_goto X 30 dX12_isFine_26 rfl ?_
          exact v_sb [0, 1, 3] (L_X12_isFine_30 X Y ih _ _ _ _ _) rfl
set_option maxRecDepth 4000 in
theorem L_X12_isFine_0 {G : Gx} (X : Cb G cX12_isFine 4 RX12 (RM 6 0 0) false) (Y : Cr G (some .boolean) 0 0) (x0 : Nat) (x1 : Nat) (M : MM) : V G trI 4 0 0 0 [(0, .ref x0), (1, .ref x1)] [] M (f_X12_isFine_0 x0 x1 M) := by
  unfold f_X12_isFine_0
  refine v_iconst X 1 dX12_isFine_0 ik_1 rfl ?_
  refine v_istore_n (lv' := [(0, .ref x0), (1, .ref x1), (2, .int (1 : Int32))]) X 2 dX12_isFine_1 (by decide) rfl rfl ?_
  refine v_iconst X 3 dX12_isFine_2 ik_0 rfl ?_
  refine v_istore_n (lv' := [(0, .ref x0), (1, .ref x1), (2, .int (1 : Int32)), (3, .int (0 : Int32))]) X 4 dX12_isFine_3 (by decide) rfl rfl ?_
  exact L_X12_isFine_4 X Y 1024 _ _ _ _ _
theorem c_X12_isFine (l : Launch) (x0 : Nat) (x1 : Nat) (M : MM) (r : Int32) (M1 : MM) (h : f_X12_isFine x0 x1 M = some (r, M1)) : KV l yX12_isFine cX12_isFine 4 (some .boolean) (RM 6 0 0) false 12 x0 [.ref x1] M (some (.int r)) M1 := by
  obtain ⟨hO, h2⟩ := iteO_some h
  exact ⟨hO, ct_of (tr := trI) (by decide) (Nat.le_of_ble_eq_true rfl) [(0, .ref x0), (1, .ref x1)] rfl h2 (fun G X Y hn hl => L_X12_isFine_0 X Y x0 x1 M)⟩

def f_X12_strikesMore_20 (P0 : Nat → Int32 → Int32 → Int32 → MM → Option (Int32 × MM)) : Nat → Nat → Int32 → MM → Option (Int32 × MM)
  | 0, _, _, _ => none
  | n + 1, x0, x4, M =>
    if x4 < 0 then
      b1 (gR 12 16 x0 M) fun v1 =>
      b2 (f_X12_isFine x0 v1 M) fun r3 M2 =>
      rz r3 M2
    else
      b1 (gR 12 16 x0 M) fun v4 =>
      b1 (gR 12 44 x0 M) fun v5 =>
      b1 (ldI v5 x4 M) fun v6 =>
      b1 (f_X12_leaves v4 v6 M) fun M7 =>
      bn (x4 + (-1) : Int32) fun y8 =>
      f_X12_strikesMore_20 P0 n x0 y8 M7

def f_X12_strikesMore_57 (P0 : Nat → Int32 → Int32 → Int32 → MM → Option (Int32 × MM)) : Nat → Nat → Int32 → Int32 → Int32 → MM → Option (Int32 × MM)
  | 0, _, _, _, _, _ => none
  | n + 1, x0, x1, x2, x4, M =>
    b1 (gR 12 15 x0 M) fun v1 =>
    b1 (ldI v1 (45 : Int32) M) fun v2 =>
    if v2 ≤ x4 then
      rz (0 : Int32) M
    else
      b1 (gR 12 44 x0 M) fun v3 =>
      b1 (stI v3 x1 x4 M) fun M4 =>
      b2 (P0 x0 (x1 + (1 : Int32)) (x2 - (1 : Int32)) (x4 + (1 : Int32)) M4) fun r6 M5 =>
      if r6 = 0 then
        bn (x4 + 1 : Int32) fun y7 =>
        f_X12_strikesMore_57 P0 n x0 x1 x2 y7 M5
      else
        rz (1 : Int32) M5

def f_X12_strikesMore_0 (P0 : Nat → Int32 → Int32 → Int32 → MM → Option (Int32 × MM)) (x0 : Nat) (x1 : Int32) (x2 : Int32) (x3 : Int32) (M : MM) : Option (Int32 × MM) :=
    if x2 = 0 then
      b1 (gR 12 15 x0 M) fun v1 =>
      b1 (gR 12 16 x0 M) fun v2 =>
      b1 (f_X12_puts v1 v2 M) fun M3 =>
      bn (x1 - (1 : Int32) : Int32) fun y4 =>
      f_X12_strikesMore_20 P0 1024 x0 y4 M3
    else
      f_X12_strikesMore_57 P0 1024 x0 x1 x2 x3 M

set_option maxRecDepth 4000 in
theorem L_X12_strikesMore_20 {k : Nat} {G : Gx} (X : Cb G cX12_strikesMore 5 RX12 (RM (7 + (k + 1)) 0 0) false) (Y : Cr G (some .boolean) 0 0) {P0 : Nat → Int32 → Int32 → Int32 → MM → Option (Int32 × MM)} (hP0 : ∀ (x0 : Nat) (x1 : Int32) (x2 : Int32) (x3 : Int32) (M : MM) (r : Int32) (M1 : MM), P0 x0 x1 x2 x3 M = some (r, M1) → KV G.1.2.1 yX12_strikesMore cX12_strikesMore 5 (some .boolean) (RM (7 + k) 0 0) false 12 x0 [.int x1, .int x2, .int x3] M (some (.int r)) M1) : ∀ (n : Nat) (x0 : Nat) (x4 : Int32) (M : MM), V G trI 5 0 0 20 [(0, .ref x0), (4, .int x4)] [] M (f_X12_strikesMore_20 P0 n x0 x4 M) := by
  intro n
  induction n with
  | zero => intro x0 x4 M; rw [f_X12_strikesMore_20]; exact v_none
  | succ n ih =>
    intro x0 x4 M
    rw [f_X12_strikesMore_20]
    refine v_iload X 22 1 dX12_strikesMore_20 rfl rfl ?_
    refine v_iflt X 25 45 dX12_strikesMore_22 rfl rfl ?_ ?_
    · refine v_aload_n X 46 0 dX12_strikesMore_45 rfl rfl ?_
      refine v_aload_n X 47 0 dX12_strikesMore_46 rfl rfl ?_
      refine v_getR X 50 fl_X12_46.r dX12_strikesMore_47 rfl (fun v1 => ?_)
      refine v_vI X 53 cv_X12_isFine ml_X12_457 (n1 := 6) (rmq (by omega) (by decide)) [.ref v1] rfl rfl rfl dX12_strikesMore_50 rfl (fun r M1 h => c_X12_isFine _ _ _ _ _ _ h) (fun r3 M2 => ?_)
      exact v_zret X Y (Nat.le_refl _) (Nat.le_refl _) dX12_strikesMore_53
    · refine v_aload_n X 26 0 dX12_strikesMore_25 rfl rfl ?_
      refine v_getR X 29 fl_X12_46.r dX12_strikesMore_26 rfl (fun v4 => ?_)
      refine v_aload_n X 30 0 dX12_strikesMore_29 rfl rfl ?_
      refine v_getR X 33 fl_X12_94.r dX12_strikesMore_30 rfl (fun v5 => ?_)
      refine v_iload X 35 1 dX12_strikesMore_33 rfl rfl ?_
      refine v_iald X 36 dX12_strikesMore_35 rfl (fun v6 => ?_)
      refine v_sV X 39 cs_X12_leaves ml_X12_391 (n1 := 1) (rmq (by omega) (by decide)) [.ref v4, .int v6] rfl rfl rfl dX12_strikesMore_36 rfl (fun M1 h => c_X12_leaves _ _ _ _ _ h) (fun M7 => ?_)
      refine v_iinc X 42 1 (fun z => [(0, .ref x0), (4, .int z)]) dX12_strikesMore_39 rfl ik_m1 (by decide) (fun _ => rfl) rfl (fun y8 => ?_)
      refine v_goto X 20 dX12_strikesMore_42 rfl ?_
      exact ih _ _ _
set_option maxRecDepth 4000 in
theorem L_X12_strikesMore_57 {k : Nat} {G : Gx} (X : Cb G cX12_strikesMore 5 RX12 (RM (7 + (k + 1)) 0 0) false) (Y : Cr G (some .boolean) 0 0) {P0 : Nat → Int32 → Int32 → Int32 → MM → Option (Int32 × MM)} (hP0 : ∀ (x0 : Nat) (x1 : Int32) (x2 : Int32) (x3 : Int32) (M : MM) (r : Int32) (M1 : MM), P0 x0 x1 x2 x3 M = some (r, M1) → KV G.1.2.1 yX12_strikesMore cX12_strikesMore 5 (some .boolean) (RM (7 + k) 0 0) false 12 x0 [.int x1, .int x2, .int x3] M (some (.int r)) M1) : ∀ (n : Nat) (x0 : Nat) (x1 : Int32) (x2 : Int32) (x4 : Int32) (M : MM), V G trI 5 0 0 57 [(0, .ref x0), (1, .int x1), (2, .int x2), (4, .int x4)] [] M (f_X12_strikesMore_57 P0 n x0 x1 x2 x4 M) := by
  intro n
  induction n with
  | zero => intro x0 x1 x2 x4 M; rw [f_X12_strikesMore_57]; exact v_none
  | succ n ih =>
    intro x0 x1 x2 x4 M
    rw [f_X12_strikesMore_57]
    refine v_iload X 59 3 dX12_strikesMore_57 rfl rfl ?_
    refine v_aload_n X 60 0 dX12_strikesMore_59 rfl rfl ?_
    refine v_getR X 63 fl_X12_43.r dX12_strikesMore_60 rfl (fun v1 => ?_)
    refine v_bipush X 65 dX12_strikesMore_63 bk_45 rfl ?_
    refine v_iald X 66 dX12_strikesMore_65 rfl (fun v2 => ?_)
    refine v_icge X 69 102 dX12_strikesMore_66 rfl rfl ?_ ?_
    · refine v_iconst X 103 dX12_strikesMore_102 ik_0 rfl ?_
      exact v_zret X Y (Nat.le_refl _) (Nat.le_refl _) dX12_strikesMore_103
    · refine v_aload_n X 70 0 dX12_strikesMore_69 rfl rfl ?_
      refine v_getR X 73 fl_X12_94.r dX12_strikesMore_70 rfl (fun v3 => ?_)
      refine v_iload_n X 74 1 dX12_strikesMore_73 rfl rfl ?_
      refine v_iload X 76 3 dX12_strikesMore_74 rfl rfl ?_
      refine v_iast X 77 dX12_strikesMore_76 rfl (fun M4 => ?_)
      refine v_aload_n X 78 0 dX12_strikesMore_77 rfl rfl ?_
      refine v_iload_n X 79 1 dX12_strikesMore_78 rfl rfl ?_
      refine v_iconst X 80 dX12_strikesMore_79 ik_1 rfl ?_
      refine v_iadd X 81 dX12_strikesMore_80 rfl ?_
      refine v_iload_n X 82 2 dX12_strikesMore_81 rfl rfl ?_
      refine v_iconst X 83 dX12_strikesMore_82 ik_1 rfl ?_
      refine v_isub X 84 dX12_strikesMore_83 rfl ?_
      refine v_iload X 86 3 dX12_strikesMore_84 rfl rfl ?_
      refine v_iconst X 87 dX12_strikesMore_86 ik_1 rfl ?_
      refine v_iadd X 88 dX12_strikesMore_87 rfl ?_
      refine v_vI X 91 cv_X12_strikesMore ml_X12_461 (n1 := (7 + k)) (rmq (by omega) (by decide)) [.int (x1 + (1 : Int32)), .int (x2 - (1 : Int32)), .int (x4 + (1 : Int32))] rfl rfl rfl dX12_strikesMore_88 rfl (fun r M1 h => hP0 _ _ _ _ _ _ _ h) (fun r6 M5 => ?_)
      refine v_ifeq X 94 96 dX12_strikesMore_91 rfl rfl ?_ ?_
      · refine v_iinc X 99 3 (fun z => [(0, .ref x0), (1, .int x1), (2, .int x2), (4, .int z)]) dX12_strikesMore_96 rfl ik_1 (by decide) (fun _ => rfl) rfl (fun y7 => ?_)
        refine v_goto X 57 dX12_strikesMore_99 rfl ?_
        exact ih _ _ _ _ _
      · refine v_iconst X 95 dX12_strikesMore_94 ik_1 rfl ?_
        exact v_zret X Y (Nat.le_refl _) (Nat.le_refl _) dX12_strikesMore_95
set_option maxRecDepth 4000 in
theorem L_X12_strikesMore_0 {k : Nat} {G : Gx} (X : Cb G cX12_strikesMore 5 RX12 (RM (7 + (k + 1)) 0 0) false) (Y : Cr G (some .boolean) 0 0) {P0 : Nat → Int32 → Int32 → Int32 → MM → Option (Int32 × MM)} (hP0 : ∀ (x0 : Nat) (x1 : Int32) (x2 : Int32) (x3 : Int32) (M : MM) (r : Int32) (M1 : MM), P0 x0 x1 x2 x3 M = some (r, M1) → KV G.1.2.1 yX12_strikesMore cX12_strikesMore 5 (some .boolean) (RM (7 + k) 0 0) false 12 x0 [.int x1, .int x2, .int x3] M (some (.int r)) M1) (x0 : Nat) (x1 : Int32) (x2 : Int32) (x3 : Int32) (M : MM) : V G trI 5 0 0 0 [(0, .ref x0), (1, .int x1), (2, .int x2), (3, .int x3)] [] M (f_X12_strikesMore_0 P0 x0 x1 x2 x3 M) := by
  unfold f_X12_strikesMore_0
  refine v_iload_n X 1 2 dX12_strikesMore_0 rfl rfl ?_
  refine v_ifne X 4 54 dX12_strikesMore_1 rfl rfl ?_ ?_
  · refine v_iload_n X 55 3 dX12_strikesMore_54 rfl rfl ?_
    refine v_istore (lv' := [(0, .ref x0), (1, .int x1), (2, .int x2), (3, .int x3), (4, .int x3)]) X 57 dX12_strikesMore_55 (by decide) rfl rfl ?_
    exact v_sb [0, 1, 2, 4] (L_X12_strikesMore_57 X Y hP0 1024 _ _ _ _ _) rfl
  · refine v_aload_n X 5 0 dX12_strikesMore_4 rfl rfl ?_
    refine v_getR X 8 fl_X12_43.r dX12_strikesMore_5 rfl (fun v1 => ?_)
    refine v_aload_n X 9 0 dX12_strikesMore_8 rfl rfl ?_
    refine v_getR X 12 fl_X12_46.r dX12_strikesMore_9 rfl (fun v2 => ?_)
    refine v_sV X 15 cs_X12_puts ml_X12_346 (n1 := 1) (rmq (by omega) (by decide)) [.ref v1, .ref v2] rfl rfl rfl dX12_strikesMore_12 rfl (fun M1 h => c_X12_puts _ _ _ _ _ h) (fun M3 => ?_)
    refine v_iload_n X 16 1 dX12_strikesMore_15 rfl rfl ?_
    refine v_iconst X 17 dX12_strikesMore_16 ik_1 rfl ?_
    refine v_isub X 18 dX12_strikesMore_17 rfl ?_
    refine v_bnI (fun y4 => ?_)
    refine v_istore (lv' := [(0, .ref x0), (1, .int x1), (2, .int x2), (3, .int x3), (4, .int y4)]) X 20 dX12_strikesMore_18 (by decide) rfl rfl ?_
    exact v_sb [0, 4] (L_X12_strikesMore_20 X Y hP0 1024 _ _ _) rfl
def f_X12_strikesMore : Nat → Nat → Int32 → Int32 → Int32 → MM → Option (Int32 × MM)
  | 0, _, _, _, _, _ => none
  | n + 1, x0, x1, x2, x3, M => if isO 12 x0 M = true then f_X12_strikesMore_0 (f_X12_strikesMore n) x0 x1 x2 x3 M else none
theorem c_X12_strikesMore (l : Launch) : ∀ (n : Nat) (x0 : Nat) (x1 : Int32) (x2 : Int32) (x3 : Int32) (M : MM) (r : Int32) (M1 : MM) (h : f_X12_strikesMore n x0 x1 x2 x3 M = some (r, M1)), KV l yX12_strikesMore cX12_strikesMore 5 (some .boolean) (RM (7 + n) 0 0) false 12 x0 [.int x1, .int x2, .int x3] M (some (.int r)) M1 := by
  intro n
  induction n with
  | zero => intro x0 x1 x2 x3 M r M1 h; rw [f_X12_strikesMore] at h; cases h
  | succ n ih =>
    intro x0 x1 x2 x3 M r M1 h
    rw [f_X12_strikesMore] at h
    obtain ⟨hO, h2⟩ := iteO_some h
    exact ⟨hO, ct_of (tr := trI) (by decide) (Nat.le_of_ble_eq_true rfl) [(0, .ref x0), (1, .int x1), (2, .int x2), (3, .int x3)] rfl h2 (fun G X Y hn hl => L_X12_strikesMore_0 (k := n) X Y (by rw [hl]; exact ih) x0 x1 x2 x3 M)⟩

def f_X12_mend_29 : Nat → Nat → Int32 → Int32 → MM → Option (Int32 × MM)
  | 0, _, _, _, _ => none
  | n + 1, x0, x1, x2, M =>
    if x1 ≤ x2 then
      some (x1, M)
    else
      b1 (gR 12 44 x0 M) fun v1 =>
      b1 (ldI v1 x2 M) fun v2 =>
      b1 (f_X12_enters x0 (Int32.toInt64 v2) M) fun M3 =>
      bn (x2 + 1 : Int32) fun y4 =>
      f_X12_mend_29 n x0 x1 y4 M3

def f_X12_mend_7 : Nat → Nat → Int32 → MM → Option (Int32 × MM)
  | 0, _, _, _ => none
  | n + 1, x0, x1, M =>
    if (3 : Int32) < x1 then
      some ((-2 : Int32), M)
    else
      b2 (f_X12_strikesMore 100 x0 (0 : Int32) x1 (0 : Int32) M) fun r2 M1 =>
      if r2 = 0 then
        bn (x1 + 1 : Int32) fun y3 =>
        f_X12_mend_7 n x0 y3 M1
      else
        b1 (pI 12 1 x0 (0 : Int32) M1) fun M4 =>
        f_X12_mend_29 1024 x0 x1 (0 : Int32) M4

def f_X12_mend_0 (x0 : Nat) (M : MM) : Option (Int32 × MM) :=
    b1 (pI 12 0 x0 (0 : Int32) M) fun M1 =>
    f_X12_mend_7 1024 x0 (0 : Int32) M1

def f_X12_mend (x0 : Nat) (M : MM) : Option (Int32 × MM) := if isO 12 x0 M = true then f_X12_mend_0 x0 M else none
set_option maxRecDepth 4000 in
theorem L_X12_mend_29 {G : Gx} (X : Cb G cX12_mend 3 RX12 (RM 108 0 0) false) (Y : Cr G (some .int) 0 0) : ∀ (n : Nat) (x0 : Nat) (x1 : Int32) (x2 : Int32) (M : MM), V G trI 3 0 0 29 [(0, .ref x0), (1, .int x1), (2, .int x2)] [] M (f_X12_mend_29 n x0 x1 x2 M) := by
  intro n
  induction n with
  | zero => intro x0 x1 x2 M; rw [f_X12_mend_29]; exact v_none
  | succ n ih =>
    intro x0 x1 x2 M
    rw [f_X12_mend_29]
    refine v_iload_n X 30 2 dX12_mend_29 rfl rfl ?_
    refine v_iload_n X 31 1 dX12_mend_30 rfl rfl ?_
    refine v_icge X 34 51 dX12_mend_31 rfl rfl ?_ ?_
    · refine v_iload_n X 52 1 dX12_mend_51 rfl rfl ?_
      exact v_iret X Y (Nat.le_refl _) (Nat.le_refl _) dX12_mend_52
    · refine v_aload_n X 35 0 dX12_mend_34 rfl rfl ?_
      refine v_aload_n X 36 0 dX12_mend_35 rfl rfl ?_
      refine v_getR X 39 fl_X12_94.r dX12_mend_36 rfl (fun v1 => ?_)
      refine v_iload_n X 40 2 dX12_mend_39 rfl rfl ?_
      refine v_iald X 41 dX12_mend_40 rfl (fun v2 => ?_)
      refine v_i2l X 42 dX12_mend_41 rfl ?_
      refine v_vV X 45 cv_X12_enters ml_X12_414 (n1 := 1) rfl [.long (Int32.toInt64 v2)] rfl rfl rfl dX12_mend_42 rfl (fun M1 h => c_X12_enters _ _ _ _ _ h) (fun M3 => ?_)
      refine v_iinc X 48 2 (fun z => [(0, .ref x0), (1, .int x1), (2, .int z)]) dX12_mend_45 rfl ik_1 (by decide) (fun _ => rfl) rfl (fun y4 => ?_)
      refine v_goto X 29 dX12_mend_48 rfl ?_
      exact ih _ _ _ _
set_option maxRecDepth 4000 in
theorem L_X12_mend_7 {G : Gx} (X : Cb G cX12_mend 3 RX12 (RM 108 0 0) false) (Y : Cr G (some .int) 0 0) : ∀ (n : Nat) (x0 : Nat) (x1 : Int32) (M : MM), V G trI 3 0 0 7 [(0, .ref x0), (1, .int x1)] [] M (f_X12_mend_7 n x0 x1 M) := by
  intro n
  induction n with
  | zero => intro x0 x1 M; rw [f_X12_mend_7]; exact v_none
  | succ n ih =>
    intro x0 x1 M
    rw [f_X12_mend_7]
    refine v_iload_n X 8 1 dX12_mend_7 rfl rfl ?_
    refine v_iconst X 9 dX12_mend_8 ik_3 rfl ?_
    refine v_icgt X 12 59 dX12_mend_9 rfl rfl ?_ ?_
    · refine v_bipush X 61 dX12_mend_59 bk_m2 rfl ?_
      exact v_iret X Y (Nat.le_refl _) (Nat.le_refl _) dX12_mend_61
    · refine v_aload_n X 13 0 dX12_mend_12 rfl rfl ?_
      refine v_iconst X 14 dX12_mend_13 ik_0 rfl ?_
      refine v_iload_n X 15 1 dX12_mend_14 rfl rfl ?_
      refine v_iconst X 16 dX12_mend_15 ik_0 rfl ?_
      refine v_vI X 19 cv_X12_strikesMore ml_X12_461 (n1 := 107) rfl [.int (0 : Int32), .int x1, .int (0 : Int32)] rfl rfl rfl dX12_mend_16 rfl (fun r M1 h => c_X12_strikesMore _ 100 _ _ _ _ _ _ _ h) (fun r2 M1 => ?_)
      refine v_ifeq X 22 53 dX12_mend_19 rfl rfl ?_ ?_
      · refine v_iinc X 56 1 (fun z => [(0, .ref x0), (1, .int z)]) dX12_mend_53 rfl ik_1 (by decide) (fun _ => rfl) rfl (fun y3 => ?_)
        refine v_goto X 7 dX12_mend_56 rfl ?_
        exact ih _ _ _
      · refine v_aload_n X 23 0 dX12_mend_22 rfl rfl ?_
        refine v_iconst X 24 dX12_mend_23 ik_0 rfl ?_
        refine v_putI X 27 fl_X12_140 nof dX12_mend_24 rfl (fun M4 => ?_)
        refine v_iconst X 28 dX12_mend_27 ik_0 rfl ?_
        refine v_istore_n (lv' := [(0, .ref x0), (1, .int x1), (2, .int (0 : Int32))]) X 29 dX12_mend_28 (by decide) rfl rfl ?_
        exact L_X12_mend_29 X Y 1024 _ _ _ _
set_option maxRecDepth 4000 in
theorem L_X12_mend_0 {G : Gx} (X : Cb G cX12_mend 3 RX12 (RM 108 0 0) false) (Y : Cr G (some .int) 0 0) (x0 : Nat) (M : MM) : V G trI 3 0 0 0 [(0, .ref x0)] [] M (f_X12_mend_0 x0 M) := by
  unfold f_X12_mend_0
  refine v_aload_n X 1 0 dX12_mend_0 rfl rfl ?_
  refine v_iconst X 2 dX12_mend_1 ik_0 rfl ?_
  refine v_putI X 5 fl_X12_133 nof dX12_mend_2 rfl (fun M1 => ?_)
  refine v_iconst X 6 dX12_mend_5 ik_0 rfl ?_
  refine v_istore_n (lv' := [(0, .ref x0), (1, .int (0 : Int32))]) X 7 dX12_mend_6 (by decide) rfl rfl ?_
  exact L_X12_mend_7 X Y 1024 _ _ _
theorem c_X12_mend (l : Launch) (x0 : Nat) (M : MM) (r : Int32) (M1 : MM) (h : f_X12_mend x0 M = some (r, M1)) : KV l yX12_mend cX12_mend 3 (some .int) (RM 108 0 0) false 12 x0 [] M (some (.int r)) M1 := by
  obtain ⟨hO, h2⟩ := iteO_some h
  exact ⟨hO, ct_of (tr := trI) (by decide) (Nat.le_of_ble_eq_true rfl) [(0, .ref x0)] rfl h2 (fun G X Y hn hl => L_X12_mend_0 X Y x0 M)⟩

def f_X12_parts_41 (K21 : Nat → Int32 → Int32 → Int32 → Int32 → MM → Option (Int32 × MM)) (x0 : Nat) (x1 : Int32) (x2 : Int32) (x3 : Int32) (s0 : Int32) (M : MM) : Option (Int32 × MM) :=
    if 0 ≤ s0 then
      b1 (gI 12 6 x0 M) fun v1 =>
      bn (x2 + (maxI (0 : Int32) (s0 - v1)) : Int32) fun y2 =>
      b1 (gI 12 6 x0 M) fun v3 =>
      bn (x3 + (minI s0 v3) : Int32) fun y4 =>
      bn (x1 + 1 : Int32) fun y5 =>
      b2 (f_X12_takes x0 (44 : Int32) M) fun r7 M6 =>
      K21 x0 y5 y2 y4 r7 M6
    else
      b1 (gI 12 19 x0 M) fun v8 =>
      some ((-1 : Int32) - v8, M)

def f_X12_parts_153 (s0 : Int32) (M : MM) : Option (Int32 × MM) :=
    b2 (f_X12_flag s0 M) fun r2 M1 =>
    some (r2, M1)

def f_X12_parts_21 : Nat → Nat → Int32 → Int32 → Int32 → Int32 → MM → Option (Int32 × MM)
  | 0, _, _, _, _, _, _ => none
  | n + 1, x0, x1, x2, x3, x4, M =>
    if x4 = 0 then
      b1 (gI 12 19 x0 M) fun v1 =>
      b1 (gI 12 20 x0 M) fun v2 =>
      if v2 ≤ v1 then
        b1 (gI 12 6 x0 M) fun v3 =>
        bn (x2 + (maxI (0 : Int32) (x3 - (v3 * (x1 - (1 : Int32))))) : Int32) fun y4 =>
        b1 (pI 12 1 x0 (0 : Int32) M) fun M5 =>
        b1 (f_X12_enters x0 (Int32.toInt64 y4) M5) fun M6 =>
        if y4 = 0 then
          f_X12_parts_153 (1 : Int32) M6
        else
          f_X12_parts_153 (0 : Int32) M6
      else
        b1 (gI 12 19 x0 M) fun v7 =>
        some ((-1 : Int32) - v7, M)
    else
      if (6 : Int32) ≤ x1 then
        f_X12_parts_41 (f_X12_parts_21 n) x0 x1 x2 x3 (-1 : Int32) M
      else
        b2 (f_X12_number x0 (2 : Int32) M) fun r9 M8 =>
        f_X12_parts_41 (f_X12_parts_21 n) x0 x1 x2 x3 r9 M8

def f_X12_parts_0 (x0 : Nat) (M : MM) : Option (Int32 × MM) :=
    b1 (pI 12 0 x0 (0 : Int32) M) fun M1 =>
    b2 (f_X12_begins x0 (80 : Int32) M1) fun r3 M2 =>
    f_X12_parts_21 1024 x0 (0 : Int32) (0 : Int32) (0 : Int32) (1 : Int32) M2

def f_X12_parts (x0 : Nat) (M : MM) : Option (Int32 × MM) := if isO 12 x0 M = true then f_X12_parts_0 x0 M else none
set_option maxRecDepth 4000 in
theorem L_X12_parts_41 {G : Gx} (X : Cb G cX12_parts 6 RX12 (RM 4 0 0) false) (Y : Cr G (some .int) 0 0) {K21 : Nat → Int32 → Int32 → Int32 → Int32 → MM → Option (Int32 × MM)} (hK21 : ∀ (x0 : Nat) (x1 : Int32) (x2 : Int32) (x3 : Int32) (x4 : Int32) (M : MM), V G trI 6 0 0 21 [(0, .ref x0), (1, .int x1), (2, .int x2), (3, .int x3), (4, .int x4)] [] M (K21 x0 x1 x2 x3 x4 M)) (x0 : Nat) (x1 : Int32) (x2 : Int32) (x3 : Int32) (s0 : Int32) (M : MM) : V G trI 6 0 0 41 [(0, .ref x0), (1, .int x1), (2, .int x2), (3, .int x3)] [.int s0] M (f_X12_parts_41 K21 x0 x1 x2 x3 s0 M) := by
  unfold f_X12_parts_41
  refine v_istore (lv' := [(0, .ref x0), (1, .int x1), (2, .int x2), (3, .int x3), (5, .int s0)]) X 43 dX12_parts_41 (by decide) rfl rfl ?_
  refine v_iload X 45 4 dX12_parts_43 rfl rfl ?_
  refine v_ifge X 48 55 dX12_parts_45 rfl rfl ?_ ?_
  · refine v_iload_n X 56 2 dX12_parts_55 rfl rfl ?_
    refine v_iconst X 57 dX12_parts_56 ik_0 rfl ?_
    refine v_iload X 59 4 dX12_parts_57 rfl rfl ?_
    refine v_aload_n X 60 0 dX12_parts_59 rfl rfl ?_
    refine v_getI X 63 fl_X12_13.r dX12_parts_60 rfl (fun v1 => ?_)
    refine v_isub X 64 dX12_parts_63 rfl ?_
    refine v_max X 67 ml_X12_311 w_max (Nat.le_of_ble_eq_true rfl) (Nat.le_of_ble_eq_true rfl) (Nat.zero_le _) (Nat.zero_le _) dX12_parts_64 rfl ?_
    refine v_iadd X 68 dX12_parts_67 rfl ?_
    refine v_bnI (fun y2 => ?_)
    refine v_istore_n (lv' := [(0, .ref x0), (1, .int x1), (2, .int y2), (3, .int x3), (5, .int s0)]) X 69 dX12_parts_68 (by decide) rfl rfl ?_
    refine v_iload_n X 70 3 dX12_parts_69 rfl rfl ?_
    refine v_iload X 72 4 dX12_parts_70 rfl rfl ?_
    refine v_aload_n X 73 0 dX12_parts_72 rfl rfl ?_
    refine v_getI X 76 fl_X12_13.r dX12_parts_73 rfl (fun v3 => ?_)
    refine v_min X 79 ml_X12_162 w_min (Nat.le_of_ble_eq_true rfl) (Nat.le_of_ble_eq_true rfl) (Nat.zero_le _) (Nat.zero_le _) dX12_parts_76 rfl ?_
    refine v_iadd X 80 dX12_parts_79 rfl ?_
    refine v_bnI (fun y4 => ?_)
    refine v_istore_n (lv' := [(0, .ref x0), (1, .int x1), (2, .int y2), (3, .int y4), (5, .int s0)]) X 81 dX12_parts_80 (by decide) rfl rfl ?_
    refine v_iinc X 84 1 (fun z => [(0, .ref x0), (1, .int z), (2, .int y2), (3, .int y4), (5, .int s0)]) dX12_parts_81 rfl ik_1 (by decide) (fun _ => rfl) rfl (fun y5 => ?_)
    refine v_aload_n X 85 0 dX12_parts_84 rfl rfl ?_
    refine v_bipush X 87 dX12_parts_85 bk_44 rfl ?_
    refine v_vI X 90 cv_X12_takes ml_X12_202 (n1 := 2) rfl [.int (44 : Int32)] rfl rfl rfl dX12_parts_87 rfl (fun r M1 h => c_X12_takes _ _ _ _ _ _ h) (fun r7 M6 => ?_)
    refine v_istore (lv' := [(0, .ref x0), (1, .int y5), (2, .int y2), (3, .int y4), (4, .int r7), (5, .int s0)]) X 92 dX12_parts_90 (by decide) rfl rfl ?_
    refine v_goto X 21 dX12_parts_92 rfl ?_
    exact v_sb [0, 1, 2, 3, 4] (hK21 _ _ _ _ _ _) rfl
  · refine v_iconst X 49 dX12_parts_48 ik_m1 rfl ?_
    refine v_aload_n X 50 0 dX12_parts_49 rfl rfl ?_
    refine v_getI X 53 fl_X12_156.r dX12_parts_50 rfl (fun v8 => ?_)
    refine v_isub X 54 dX12_parts_53 rfl ?_
    exact v_iret X Y (Nat.le_refl _) (Nat.le_refl _) dX12_parts_54
set_option maxRecDepth 4000 in
theorem L_X12_parts_153 {G : Gx} (X : Cb G cX12_parts 6 RX12 (RM 4 0 0) false) (Y : Cr G (some .int) 0 0) (s0 : Int32) (M : MM) : V G trI 6 0 0 153 [] [.int s0] M (f_X12_parts_153 s0 M) := by
  unfold f_X12_parts_153
  refine v_sI X 156 cs_X12_flag ml_X12_171 (n1 := 1) rfl [.int s0] rfl rfl rfl dX12_parts_153 rfl (fun r M1 h => c_X12_flag _ _ _ _ _ h) (fun r2 M1 => ?_)
  exact v_iret X Y (Nat.le_refl _) (Nat.le_refl _) dX12_parts_156
set_option maxRecDepth 4000 in
theorem L_X12_parts_21 {G : Gx} (X : Cb G cX12_parts 6 RX12 (RM 4 0 0) false) (Y : Cr G (some .int) 0 0) : ∀ (n : Nat) (x0 : Nat) (x1 : Int32) (x2 : Int32) (x3 : Int32) (x4 : Int32) (M : MM), V G trI 6 0 0 21 [(0, .ref x0), (1, .int x1), (2, .int x2), (3, .int x3), (4, .int x4)] [] M (f_X12_parts_21 n x0 x1 x2 x3 x4 M) := by
  intro n
  induction n with
  | zero => intro x0 x1 x2 x3 x4 M; rw [f_X12_parts_21]; exact v_none
  | succ n ih =>
    intro x0 x1 x2 x3 x4 M
    rw [f_X12_parts_21]
    refine v_iload X 23 4 dX12_parts_21 rfl rfl ?_
    refine v_ifeq X 26 95 dX12_parts_23 rfl rfl ?_ ?_
    · refine v_aload_n X 96 0 dX12_parts_95 rfl rfl ?_
      refine v_getI X 99 fl_X12_156.r dX12_parts_96 rfl (fun v1 => ?_)
      refine v_aload_n X 100 0 dX12_parts_99 rfl rfl ?_
      refine v_getI X 103 fl_X12_168.r dX12_parts_100 rfl (fun v2 => ?_)
      refine v_icge X 106 113 dX12_parts_103 rfl rfl ?_ ?_
      · refine v_iload_n X 114 2 dX12_parts_113 rfl rfl ?_
        refine v_iconst X 115 dX12_parts_114 ik_0 rfl ?_
        refine v_iload_n X 116 3 dX12_parts_115 rfl rfl ?_
        refine v_aload_n X 117 0 dX12_parts_116 rfl rfl ?_
        refine v_getI X 120 fl_X12_13.r dX12_parts_117 rfl (fun v3 => ?_)
        refine v_iload_n X 121 1 dX12_parts_120 rfl rfl ?_
        refine v_iconst X 122 dX12_parts_121 ik_1 rfl ?_
        refine v_isub X 123 dX12_parts_122 rfl ?_
        refine v_imul X 124 dX12_parts_123 rfl ?_
        refine v_isub X 125 dX12_parts_124 rfl ?_
        refine v_max X 128 ml_X12_311 w_max (Nat.le_of_ble_eq_true rfl) (Nat.le_of_ble_eq_true rfl) (Nat.zero_le _) (Nat.zero_le _) dX12_parts_125 rfl ?_
        refine v_iadd X 129 dX12_parts_128 rfl ?_
        refine v_bnI (fun y4 => ?_)
        refine v_istore (lv' := [(0, .ref x0), (1, .int x1), (2, .int x2), (3, .int x3), (4, .int x4), (5, .int y4)]) X 131 dX12_parts_129 (by decide) rfl rfl ?_
        refine v_aload_n X 132 0 dX12_parts_131 rfl rfl ?_
        refine v_iconst X 133 dX12_parts_132 ik_0 rfl ?_
        refine v_putI X 136 fl_X12_140 nof dX12_parts_133 rfl (fun M5 => ?_)
        refine v_aload_n X 137 0 dX12_parts_136 rfl rfl ?_
        refine v_iload X 139 5 dX12_parts_137 rfl rfl ?_
        refine v_i2l X 140 dX12_parts_139 rfl ?_
        refine v_vV X 143 cv_X12_enters ml_X12_414 (n1 := 1) rfl [.long (Int32.toInt64 y4)] rfl rfl rfl dX12_parts_140 rfl (fun M1 h => c_X12_enters _ _ _ _ _ h) (fun M6 => ?_)
        refine v_iload X 145 5 dX12_parts_143 rfl rfl ?_
        refine v_ifne X 148 152 dX12_parts_145 rfl rfl ?_ ?_
        · refine v_iconst X 153 dX12_parts_152 ik_0 rfl ?_
          exact v_sb [] (L_X12_parts_153 X Y _ _) rfl
        · refine v_iconst X 149 dX12_parts_148 ik_1 rfl ?_
          refine v_goto X 153 dX12_parts_149 rfl ?_
          exact v_sb [] (L_X12_parts_153 X Y _ _) rfl
      · refine v_iconst X 107 dX12_parts_106 ik_m1 rfl ?_
        refine v_aload_n X 108 0 dX12_parts_107 rfl rfl ?_
        refine v_getI X 111 fl_X12_156.r dX12_parts_108 rfl (fun v7 => ?_)
        refine v_isub X 112 dX12_parts_111 rfl ?_
        exact v_iret X Y (Nat.le_refl _) (Nat.le_refl _) dX12_parts_112
    · refine v_iload_n X 27 1 dX12_parts_26 rfl rfl ?_
      refine v_bipush X 29 dX12_parts_27 bk_6 rfl ?_
      refine v_icge X 32 40 dX12_parts_29 rfl rfl ?_ ?_
      · refine v_iconst X 41 dX12_parts_40 ik_m1 rfl ?_
        exact v_sb [0, 1, 2, 3] (L_X12_parts_41 X Y ih _ _ _ _ _ _) rfl
      · refine v_aload_n X 33 0 dX12_parts_32 rfl rfl ?_
        refine v_iconst X 34 dX12_parts_33 ik_2 rfl ?_
        refine v_vI X 37 cv_X12_number ml_X12_212 (n1 := 3) rfl [.int (2 : Int32)] rfl rfl rfl dX12_parts_34 rfl (fun r M1 h => c_X12_number _ _ _ _ _ _ h) (fun r9 M8 => ?_)
        refine v_goto X 41 dX12_parts_37 rfl ?_
        exact v_sb [0, 1, 2, 3] (L_X12_parts_41 X Y ih _ _ _ _ _ _) rfl
set_option maxRecDepth 4000 in
theorem L_X12_parts_0 {G : Gx} (X : Cb G cX12_parts 6 RX12 (RM 4 0 0) false) (Y : Cr G (some .int) 0 0) (x0 : Nat) (M : MM) : V G trI 6 0 0 0 [(0, .ref x0)] [] M (f_X12_parts_0 x0 M) := by
  unfold f_X12_parts_0
  refine v_aload_n X 1 0 dX12_parts_0 rfl rfl ?_
  refine v_iconst X 2 dX12_parts_1 ik_0 rfl ?_
  refine v_putI X 5 fl_X12_133 nof dX12_parts_2 rfl (fun M1 => ?_)
  refine v_aload_n X 6 0 dX12_parts_5 rfl rfl ?_
  refine v_bipush X 8 dX12_parts_6 bk_80 rfl ?_
  refine v_vI X 11 cv_X12_begins ml_X12_231 (n1 := 2) rfl [.int (80 : Int32)] rfl rfl rfl dX12_parts_8 rfl (fun r M1 h => c_X12_begins _ _ _ _ _ _ h) (fun r3 M2 => ?_)
  refine v_pop X 12 dX12_parts_11 rfl rfl ?_
  refine v_iconst X 13 dX12_parts_12 ik_0 rfl ?_
  refine v_istore_n (lv' := [(0, .ref x0), (1, .int (0 : Int32))]) X 14 dX12_parts_13 (by decide) rfl rfl ?_
  refine v_iconst X 15 dX12_parts_14 ik_0 rfl ?_
  refine v_istore_n (lv' := [(0, .ref x0), (1, .int (0 : Int32)), (2, .int (0 : Int32))]) X 16 dX12_parts_15 (by decide) rfl rfl ?_
  refine v_iconst X 17 dX12_parts_16 ik_0 rfl ?_
  refine v_istore_n (lv' := [(0, .ref x0), (1, .int (0 : Int32)), (2, .int (0 : Int32)), (3, .int (0 : Int32))]) X 18 dX12_parts_17 (by decide) rfl rfl ?_
  refine v_iconst X 19 dX12_parts_18 ik_1 rfl ?_
  refine v_istore (lv' := [(0, .ref x0), (1, .int (0 : Int32)), (2, .int (0 : Int32)), (3, .int (0 : Int32)), (4, .int (1 : Int32))]) X 21 dX12_parts_19 (by decide) rfl rfl ?_
  exact L_X12_parts_21 X Y 1024 _ _ _ _ _ _
theorem c_X12_parts (l : Launch) (x0 : Nat) (M : MM) (r : Int32) (M1 : MM) (h : f_X12_parts x0 M = some (r, M1)) : KV l yX12_parts cX12_parts 6 (some .int) (RM 4 0 0) false 12 x0 [] M (some (.int r)) M1 := by
  obtain ⟨hO, h2⟩ := iteO_some h
  exact ⟨hO, ct_of (tr := trI) (by decide) (Nat.le_of_ble_eq_true rfl) [(0, .ref x0)] rfl h2 (fun G X Y hn hl => L_X12_parts_0 X Y x0 M)⟩

def f_X12_turn_107 (K56 : Nat → Int32 → Int32 → Int32 → MM → Option (Int32 × MM)) (x0 : Nat) (x1 : Int32) (x2 : Int32) (x3 : Int32) (M : MM) : Option (Int32 × MM) :=
    K56 x0 x1 x2 x3 M

def f_X12_turn_80 (K56 : Nat → Int32 → Int32 → Int32 → MM → Option (Int32 × MM)) (x0 : Nat) (x1 : Int32) (x2 : Int32) (x4 : Int32) (s0 : Int32) (M : MM) : Option (Int32 × MM) :=
    if s0 = 0 then
      f_X12_turn_107 K56 x0 x1 x2 s0 M
    else
      b1 (gR 12 45 x0 M) fun v1 =>
      b1 (ldI v1 x4 M) fun v2 =>
      b1 (stI v1 x4 (v2 + (1 : Int32)) M) fun M3 =>
      b1 (gR 12 46 x0 M3) fun v4 =>
      b1 (stI v4 x4 x2 M3) fun M5 =>
      bn (x2 + 1 : Int32) fun y6 =>
      f_X12_turn_107 K56 x0 x1 y6 s0 M5

def f_X12_turn_212 (K145 : Nat → Int32 → Int32 → Int32 → MM → Option (Int32 × MM)) (x0 : Nat) (x6 : Int32) (x7 : Int32) (s0 : Int32) (M : MM) : Option (Int32 × MM) :=
    b1 (gR 12 45 x0 M) fun v1 =>
    b1 (ldI v1 x7 M) fun v2 =>
    bn (maxI x6 v2 : Int32) fun y3 =>
    bn (x7 + 1 : Int32) fun y4 =>
    K145 x0 s0 y3 y4 M

def f_X12_turn_205 (K145 : Nat → Int32 → Int32 → Int32 → MM → Option (Int32 × MM)) (x0 : Nat) (x6 : Int32) (x7 : Int32) (M : MM) : Option (Int32 × MM) :=
    f_X12_turn_212 K145 x0 x6 x7 x7 M

def f_X12_turn_210 (K145 : Nat → Int32 → Int32 → Int32 → MM → Option (Int32 × MM)) (x0 : Nat) (x5 : Int32) (x6 : Int32) (x7 : Int32) (M : MM) : Option (Int32 × MM) :=
    f_X12_turn_212 K145 x0 x6 x7 x5 M

def f_X12_turn_145 : Nat → Nat → Int32 → Int32 → Int32 → MM → Option (Int32 × MM)
  | 0, _, _, _, _, _ => none
  | n + 1, x0, x5, x6, x7, M =>
    b1 (gI 12 3 x0 M) fun v1 =>
    if v1 ≤ x7 then
      b1 (pI 12 1 x0 (0 : Int32) M) fun M2 =>
      b1 (gR 12 45 x0 M2) fun v3 =>
      b1 (ldI v3 x5 M2) fun v4 =>
      b1 (f_X12_enters x0 (Int32.toInt64 v4) M2) fun M5 =>
      b1 (f_X12_enters x0 (Int32.toInt64 x6) M5) fun M6 =>
      some (x5, M6)
    else
      b1 (gR 12 45 x0 M) fun v7 =>
      b1 (ldI v7 x7 M) fun v8 =>
      b1 (gR 12 45 x0 M) fun v9 =>
      b1 (ldI v9 x5 M) fun v10 =>
      if v8 < v10 then
        f_X12_turn_205 (f_X12_turn_145 n) x0 x6 x7 M
      else
        b1 (gR 12 45 x0 M) fun v11 =>
        b1 (ldI v11 x7 M) fun v12 =>
        b1 (gR 12 45 x0 M) fun v13 =>
        b1 (ldI v13 x5 M) fun v14 =>
        if v12 = v14 then
          b1 (gR 12 46 x0 M) fun v15 =>
          b1 (ldI v15 x7 M) fun v16 =>
          b1 (gR 12 46 x0 M) fun v17 =>
          b1 (ldI v17 x5 M) fun v18 =>
          if v18 ≤ v16 then
            f_X12_turn_210 (f_X12_turn_145 n) x0 x5 x6 x7 M
          else
            f_X12_turn_205 (f_X12_turn_145 n) x0 x6 x7 M
        else
          f_X12_turn_210 (f_X12_turn_145 n) x0 x5 x6 x7 M

def f_X12_turn_123 (x0 : Nat) (s0 : Int32) (s1 : Int32) (s2 : Int32) (s3 : Nat) (M : MM) : Option (Int32 × MM) :=
    b2 (f_X12_faultOf s3 s2 s1 s0 M) fun r2 M1 =>
    if 0 ≤ r2 then
      f_X12_turn_145 1024 x0 (0 : Int32) (0 : Int32) (0 : Int32) M1
    else
      some (r2, M1)

def f_X12_turn_56 : Nat → Nat → Int32 → Int32 → Int32 → MM → Option (Int32 × MM)
  | 0, _, _, _, _, _ => none
  | n + 1, x0, x1, x2, x3, M =>
    if x3 = 0 then
      if x2 ≤ 0 then
        f_X12_turn_123 x0 (0 : Int32) (40 : Int32) x1 x0 M
      else
        f_X12_turn_123 x0 (1 : Int32) (40 : Int32) x1 x0 M
    else
      b1 (gI 12 3 x0 M) fun v1 =>
      b2 (f_X12_letter x0 v1 M) fun r3 M2 =>
      if r3 < 0 then
        f_X12_turn_80 (f_X12_turn_56 n) x0 x1 x2 r3 (0 : Int32) M2
      else
        f_X12_turn_80 (f_X12_turn_56 n) x0 x1 x2 r3 (1 : Int32) M2

def f_X12_turn_24 : Nat → Nat → Int32 → Int32 → MM → Option (Int32 × MM)
  | 0, _, _, _, _ => none
  | n + 1, x0, x1, x2, M =>
    b1 (gI 12 3 x0 M) fun v1 =>
    if v1 ≤ x2 then
      f_X12_turn_56 1024 x0 x1 (0 : Int32) (1 : Int32) M
    else
      b1 (gR 12 45 x0 M) fun v2 =>
      b1 (stI v2 x2 (0 : Int32) M) fun M3 =>
      b1 (gR 12 46 x0 M3) fun v4 =>
      b1 (stI v4 x2 (-1 : Int32) M3) fun M5 =>
      bn (x2 + 1 : Int32) fun y6 =>
      f_X12_turn_24 n x0 x1 y6 M5

def f_X12_turn_0 (x0 : Nat) (M : MM) : Option (Int32 × MM) :=
    b1 (pI 12 0 x0 (0 : Int32) M) fun M1 =>
    b2 (f_X12_begins x0 (40 : Int32) M1) fun r3 M2 =>
    b1 (gI 12 3 x0 M2) fun v4 =>
    if v4 = 0 then
      some ((-100 : Int32), M2)
    else
      f_X12_turn_24 1024 x0 r3 (0 : Int32) M2

def f_X12_turn (x0 : Nat) (M : MM) : Option (Int32 × MM) := if isO 12 x0 M = true then f_X12_turn_0 x0 M else none
set_option maxRecDepth 4000 in
theorem L_X12_turn_107 {G : Gx} (X : Cb G cX12_turn 8 RX12 (RM 3 0 0) false) (Y : Cr G (some .int) 0 0) {K56 : Nat → Int32 → Int32 → Int32 → MM → Option (Int32 × MM)} (hK56 : ∀ (x0 : Nat) (x1 : Int32) (x2 : Int32) (x3 : Int32) (M : MM), V G trI 8 0 0 56 [(0, .ref x0), (1, .int x1), (2, .int x2), (3, .int x3)] [] M (K56 x0 x1 x2 x3 M)) (x0 : Nat) (x1 : Int32) (x2 : Int32) (x3 : Int32) (M : MM) : V G trI 8 0 0 107 [(0, .ref x0), (1, .int x1), (2, .int x2), (3, .int x3)] [] M (f_X12_turn_107 K56 x0 x1 x2 x3 M) := by
  unfold f_X12_turn_107
  refine v_goto X 56 dX12_turn_107 rfl ?_
  exact hK56 _ _ _ _ _
set_option maxRecDepth 4000 in
theorem L_X12_turn_80 {G : Gx} (X : Cb G cX12_turn 8 RX12 (RM 3 0 0) false) (Y : Cr G (some .int) 0 0) {K56 : Nat → Int32 → Int32 → Int32 → MM → Option (Int32 × MM)} (hK56 : ∀ (x0 : Nat) (x1 : Int32) (x2 : Int32) (x3 : Int32) (M : MM), V G trI 8 0 0 56 [(0, .ref x0), (1, .int x1), (2, .int x2), (3, .int x3)] [] M (K56 x0 x1 x2 x3 M)) (x0 : Nat) (x1 : Int32) (x2 : Int32) (x4 : Int32) (s0 : Int32) (M : MM) : V G trI 8 0 0 80 [(0, .ref x0), (1, .int x1), (2, .int x2), (4, .int x4)] [.int s0] M (f_X12_turn_80 K56 x0 x1 x2 x4 s0 M) := by
  unfold f_X12_turn_80
  refine v_istore_n (lv' := [(0, .ref x0), (1, .int x1), (2, .int x2), (3, .int s0), (4, .int x4)]) X 81 dX12_turn_80 (by decide) rfl rfl ?_
  refine v_iload_n X 82 3 dX12_turn_81 rfl rfl ?_
  refine v_ifeq X 85 107 dX12_turn_82 rfl rfl ?_ ?_
  · exact v_sb [0, 1, 2, 3] (L_X12_turn_107 X Y hK56 _ _ _ _ _) rfl
  · refine v_aload_n X 86 0 dX12_turn_85 rfl rfl ?_
    refine v_getR X 89 fl_X12_97.r dX12_turn_86 rfl (fun v1 => ?_)
    refine v_iload X 91 4 dX12_turn_89 rfl rfl ?_
    refine v_dup2 X 92 dX12_turn_91 rfl rfl rfl ?_
    refine v_iald X 93 dX12_turn_92 rfl (fun v2 => ?_)
    refine v_iconst X 94 dX12_turn_93 ik_1 rfl ?_
    refine v_iadd X 95 dX12_turn_94 rfl ?_
    refine v_iast X 96 dX12_turn_95 rfl (fun M3 => ?_)
    refine v_aload_n X 97 0 dX12_turn_96 rfl rfl ?_
    refine v_getR X 100 fl_X12_100.r dX12_turn_97 rfl (fun v4 => ?_)
    refine v_iload X 102 4 dX12_turn_100 rfl rfl ?_
    refine v_iload_n X 103 2 dX12_turn_102 rfl rfl ?_
    refine v_iast X 104 dX12_turn_103 rfl (fun M5 => ?_)
    refine v_iinc X 107 2 (fun z => [(0, .ref x0), (1, .int x1), (2, .int z), (3, .int s0), (4, .int x4)]) dX12_turn_104 rfl ik_1 (by decide) (fun _ => rfl) rfl (fun y6 => ?_)
    exact v_sb [0, 1, 2, 3] (L_X12_turn_107 X Y hK56 _ _ _ _ _) rfl
set_option maxRecDepth 4000 in
theorem L_X12_turn_212 {G : Gx} (X : Cb G cX12_turn 8 RX12 (RM 3 0 0) false) (Y : Cr G (some .int) 0 0) {K145 : Nat → Int32 → Int32 → Int32 → MM → Option (Int32 × MM)} (hK145 : ∀ (x0 : Nat) (x5 : Int32) (x6 : Int32) (x7 : Int32) (M : MM), V G trI 8 0 0 145 [(0, .ref x0), (5, .int x5), (6, .int x6), (7, .int x7)] [] M (K145 x0 x5 x6 x7 M)) (x0 : Nat) (x6 : Int32) (x7 : Int32) (s0 : Int32) (M : MM) : V G trI 8 0 0 212 [(0, .ref x0), (6, .int x6), (7, .int x7)] [.int s0] M (f_X12_turn_212 K145 x0 x6 x7 s0 M) := by
  unfold f_X12_turn_212
  refine v_istore (lv' := [(0, .ref x0), (5, .int s0), (6, .int x6), (7, .int x7)]) X 214 dX12_turn_212 (by decide) rfl rfl ?_
  refine v_iload X 216 2 dX12_turn_214 rfl rfl ?_
  refine v_aload_n X 217 0 dX12_turn_216 rfl rfl ?_
  refine v_getR X 220 fl_X12_97.r dX12_turn_217 rfl (fun v1 => ?_)
  refine v_iload X 222 3 dX12_turn_220 rfl rfl ?_
  refine v_iald X 223 dX12_turn_222 rfl (fun v2 => ?_)
  refine v_max X 226 ml_X12_311 w_max (Nat.le_of_ble_eq_true rfl) (Nat.le_of_ble_eq_true rfl) (Nat.zero_le _) (Nat.zero_le _) dX12_turn_223 rfl ?_
  refine v_bnI (fun y3 => ?_)
  refine v_istore (lv' := [(0, .ref x0), (5, .int s0), (6, .int y3), (7, .int x7)]) X 228 dX12_turn_226 (by decide) rfl rfl ?_
  refine v_iinc X 231 3 (fun z => [(0, .ref x0), (5, .int s0), (6, .int y3), (7, .int z)]) dX12_turn_228 rfl ik_1 (by decide) (fun _ => rfl) rfl (fun y4 => ?_)
  refine v_goto X 145 dX12_turn_231 rfl ?_
  exact hK145 _ _ _ _ _
set_option maxRecDepth 4000 in
theorem L_X12_turn_205 {G : Gx} (X : Cb G cX12_turn 8 RX12 (RM 3 0 0) false) (Y : Cr G (some .int) 0 0) {K145 : Nat → Int32 → Int32 → Int32 → MM → Option (Int32 × MM)} (hK145 : ∀ (x0 : Nat) (x5 : Int32) (x6 : Int32) (x7 : Int32) (M : MM), V G trI 8 0 0 145 [(0, .ref x0), (5, .int x5), (6, .int x6), (7, .int x7)] [] M (K145 x0 x5 x6 x7 M)) (x0 : Nat) (x6 : Int32) (x7 : Int32) (M : MM) : V G trI 8 0 0 205 [(0, .ref x0), (6, .int x6), (7, .int x7)] [] M (f_X12_turn_205 K145 x0 x6 x7 M) := by
  unfold f_X12_turn_205
  refine v_iload X 207 2 dX12_turn_205 rfl rfl ?_
  refine v_goto X 212 dX12_turn_207 rfl ?_
  exact L_X12_turn_212 X Y hK145 _ _ _ _ _
set_option maxRecDepth 4000 in
theorem L_X12_turn_210 {G : Gx} (X : Cb G cX12_turn 8 RX12 (RM 3 0 0) false) (Y : Cr G (some .int) 0 0) {K145 : Nat → Int32 → Int32 → Int32 → MM → Option (Int32 × MM)} (hK145 : ∀ (x0 : Nat) (x5 : Int32) (x6 : Int32) (x7 : Int32) (M : MM), V G trI 8 0 0 145 [(0, .ref x0), (5, .int x5), (6, .int x6), (7, .int x7)] [] M (K145 x0 x5 x6 x7 M)) (x0 : Nat) (x5 : Int32) (x6 : Int32) (x7 : Int32) (M : MM) : V G trI 8 0 0 210 [(0, .ref x0), (5, .int x5), (6, .int x6), (7, .int x7)] [] M (f_X12_turn_210 K145 x0 x5 x6 x7 M) := by
  unfold f_X12_turn_210
  refine v_iload X 212 1 dX12_turn_210 rfl rfl ?_
  exact v_sb [0, 2, 3] (L_X12_turn_212 X Y hK145 _ _ _ _ _) rfl
set_option maxRecDepth 4000 in
theorem L_X12_turn_145 {G : Gx} (X : Cb G cX12_turn 8 RX12 (RM 3 0 0) false) (Y : Cr G (some .int) 0 0) : ∀ (n : Nat) (x0 : Nat) (x5 : Int32) (x6 : Int32) (x7 : Int32) (M : MM), V G trI 8 0 0 145 [(0, .ref x0), (5, .int x5), (6, .int x6), (7, .int x7)] [] M (f_X12_turn_145 n x0 x5 x6 x7 M) := by
  intro n
  induction n with
  | zero => intro x0 x5 x6 x7 M; rw [f_X12_turn_145]; exact v_none
  | succ n ih =>
    intro x0 x5 x6 x7 M
    rw [f_X12_turn_145]
    refine v_iload X 147 3 dX12_turn_145 rfl rfl ?_
    refine v_aload_n X 148 0 dX12_turn_147 rfl rfl ?_
    refine v_getI X 151 fl_X12_143.r dX12_turn_148 rfl (fun v1 => ?_)
    refine v_icge X 154 234 dX12_turn_151 rfl rfl ?_ ?_
    · refine v_aload_n X 235 0 dX12_turn_234 rfl rfl ?_
      refine v_iconst X 236 dX12_turn_235 ik_0 rfl ?_
      refine v_putI X 239 fl_X12_140 nof dX12_turn_236 rfl (fun M2 => ?_)
      refine v_aload_n X 240 0 dX12_turn_239 rfl rfl ?_
      refine v_aload_n X 241 0 dX12_turn_240 rfl rfl ?_
      refine v_getR X 244 fl_X12_97.r dX12_turn_241 rfl (fun v3 => ?_)
      refine v_iload X 246 1 dX12_turn_244 rfl rfl ?_
      refine v_iald X 247 dX12_turn_246 rfl (fun v4 => ?_)
      refine v_i2l X 248 dX12_turn_247 rfl ?_
      refine v_vV X 251 cv_X12_enters ml_X12_414 (n1 := 1) rfl [.long (Int32.toInt64 v4)] rfl rfl rfl dX12_turn_248 rfl (fun M1 h => c_X12_enters _ _ _ _ _ h) (fun M5 => ?_)
      refine v_aload_n X 252 0 dX12_turn_251 rfl rfl ?_
      refine v_iload X 254 2 dX12_turn_252 rfl rfl ?_
      refine v_i2l X 255 dX12_turn_254 rfl ?_
      refine v_vV X 258 cv_X12_enters ml_X12_414 (n1 := 1) rfl [.long (Int32.toInt64 x6)] rfl rfl rfl dX12_turn_255 rfl (fun M1 h => c_X12_enters _ _ _ _ _ h) (fun M6 => ?_)
      refine v_iload X 260 1 dX12_turn_258 rfl rfl ?_
      exact v_iret X Y (Nat.le_refl _) (Nat.le_refl _) dX12_turn_260
    · refine v_aload_n X 155 0 dX12_turn_154 rfl rfl ?_
      refine v_getR X 158 fl_X12_97.r dX12_turn_155 rfl (fun v7 => ?_)
      refine v_iload X 160 3 dX12_turn_158 rfl rfl ?_
      refine v_iald X 161 dX12_turn_160 rfl (fun v8 => ?_)
      refine v_aload_n X 162 0 dX12_turn_161 rfl rfl ?_
      refine v_getR X 165 fl_X12_97.r dX12_turn_162 rfl (fun v9 => ?_)
      refine v_iload X 167 1 dX12_turn_165 rfl rfl ?_
      refine v_iald X 168 dX12_turn_167 rfl (fun v10 => ?_)
      refine v_iclt X 171 205 dX12_turn_168 rfl rfl ?_ ?_
      · exact v_sb [0, 2, 3] (L_X12_turn_205 X Y ih _ _ _ _) rfl
      · refine v_aload_n X 172 0 dX12_turn_171 rfl rfl ?_
        refine v_getR X 175 fl_X12_97.r dX12_turn_172 rfl (fun v11 => ?_)
        refine v_iload X 177 3 dX12_turn_175 rfl rfl ?_
        refine v_iald X 178 dX12_turn_177 rfl (fun v12 => ?_)
        refine v_aload_n X 179 0 dX12_turn_178 rfl rfl ?_
        refine v_getR X 182 fl_X12_97.r dX12_turn_179 rfl (fun v13 => ?_)
        refine v_iload X 184 1 dX12_turn_182 rfl rfl ?_
        refine v_iald X 185 dX12_turn_184 rfl (fun v14 => ?_)
        refine v_icne X 188 210 dX12_turn_185 rfl rfl ?_ ?_
        · exact L_X12_turn_210 X Y ih _ _ _ _ _
        · refine v_aload_n X 189 0 dX12_turn_188 rfl rfl ?_
          refine v_getR X 192 fl_X12_100.r dX12_turn_189 rfl (fun v15 => ?_)
          refine v_iload X 194 3 dX12_turn_192 rfl rfl ?_
          refine v_iald X 195 dX12_turn_194 rfl (fun v16 => ?_)
          refine v_aload_n X 196 0 dX12_turn_195 rfl rfl ?_
          refine v_getR X 199 fl_X12_100.r dX12_turn_196 rfl (fun v17 => ?_)
          refine v_iload X 201 1 dX12_turn_199 rfl rfl ?_
          refine v_iald X 202 dX12_turn_201 rfl (fun v18 => ?_)
          refine v_icge X 205 210 dX12_turn_202 rfl rfl ?_ ?_
          · exact L_X12_turn_210 X Y ih _ _ _ _ _
          · exact v_sb [0, 2, 3] (L_X12_turn_205 X Y ih _ _ _ _) rfl
set_option maxRecDepth 4000 in
theorem L_X12_turn_123 {G : Gx} (X : Cb G cX12_turn 8 RX12 (RM 3 0 0) false) (Y : Cr G (some .int) 0 0) (x0 : Nat) (s0 : Int32) (s1 : Int32) (s2 : Int32) (s3 : Nat) (M : MM) : V G trI 8 0 0 123 [(0, .ref x0)] [.int s0, .int s1, .int s2, .ref s3] M (f_X12_turn_123 x0 s0 s1 s2 s3 M) := by
  unfold f_X12_turn_123
  refine v_vI X 126 cv_X12_faultOf ml_X12_237 (n1 := 1) rfl [.int s2, .int s1, .int s0] rfl rfl rfl dX12_turn_123 rfl (fun r M1 h => c_X12_faultOf _ _ _ _ _ _ _ _ h) (fun r2 M1 => ?_)
  refine v_istore (lv' := [(0, .ref x0), (4, .int r2)]) X 128 dX12_turn_126 (by decide) rfl rfl ?_
  refine v_iload X 130 1 dX12_turn_128 rfl rfl ?_
  refine v_ifge X 133 136 dX12_turn_130 rfl rfl ?_ ?_
  · refine v_iconst X 137 dX12_turn_136 ik_0 rfl ?_
    refine v_istore (lv' := [(0, .ref x0), (4, .int r2), (5, .int (0 : Int32))]) X 139 dX12_turn_137 (by decide) rfl rfl ?_
    refine v_iconst X 140 dX12_turn_139 ik_0 rfl ?_
    refine v_istore (lv' := [(0, .ref x0), (4, .int r2), (5, .int (0 : Int32)), (6, .int (0 : Int32))]) X 142 dX12_turn_140 (by decide) rfl rfl ?_
    refine v_iconst X 143 dX12_turn_142 ik_0 rfl ?_
    refine v_istore (lv' := [(0, .ref x0), (4, .int r2), (5, .int (0 : Int32)), (6, .int (0 : Int32)), (7, .int (0 : Int32))]) X 145 dX12_turn_143 (by decide) rfl rfl ?_
    exact v_sb [0, 2, 3, 4] (L_X12_turn_145 X Y 1024 _ _ _ _ _) rfl
  · refine v_iload X 135 1 dX12_turn_133 rfl rfl ?_
    exact v_iret X Y (Nat.le_refl _) (Nat.le_refl _) dX12_turn_135
set_option maxRecDepth 4000 in
theorem L_X12_turn_56 {G : Gx} (X : Cb G cX12_turn 8 RX12 (RM 3 0 0) false) (Y : Cr G (some .int) 0 0) : ∀ (n : Nat) (x0 : Nat) (x1 : Int32) (x2 : Int32) (x3 : Int32) (M : MM), V G trI 8 0 0 56 [(0, .ref x0), (1, .int x1), (2, .int x2), (3, .int x3)] [] M (f_X12_turn_56 n x0 x1 x2 x3 M) := by
  intro n
  induction n with
  | zero => intro x0 x1 x2 x3 M; rw [f_X12_turn_56]; exact v_none
  | succ n ih =>
    intro x0 x1 x2 x3 M
    rw [f_X12_turn_56]
    refine v_iload_n X 57 3 dX12_turn_56 rfl rfl ?_
    refine v_ifeq X 60 110 dX12_turn_57 rfl rfl ?_ ?_
    · refine v_aload_n X 111 0 dX12_turn_110 rfl rfl ?_
      refine v_iload_n X 112 1 dX12_turn_111 rfl rfl ?_
      refine v_bipush X 114 dX12_turn_112 bk_40 rfl ?_
      refine v_iload_n X 115 2 dX12_turn_114 rfl rfl ?_
      refine v_ifle X 118 122 dX12_turn_115 rfl rfl ?_ ?_
      · refine v_iconst X 123 dX12_turn_122 ik_0 rfl ?_
        exact v_sb [0] (L_X12_turn_123 X Y _ _ _ _ _ _) rfl
      · refine v_iconst X 119 dX12_turn_118 ik_1 rfl ?_
        refine v_goto X 123 dX12_turn_119 rfl ?_
        exact v_sb [0] (L_X12_turn_123 X Y _ _ _ _ _ _) rfl
    · refine v_aload_n X 61 0 dX12_turn_60 rfl rfl ?_
      refine v_aload_n X 62 0 dX12_turn_61 rfl rfl ?_
      refine v_getI X 65 fl_X12_143.r dX12_turn_62 rfl (fun v1 => ?_)
      refine v_vI X 68 cv_X12_letter ml_X12_333 (n1 := 2) rfl [.int v1] rfl rfl rfl dX12_turn_65 rfl (fun r M1 h => c_X12_letter _ _ _ _ _ _ h) (fun r3 M2 => ?_)
      refine v_istore (lv' := [(0, .ref x0), (1, .int x1), (2, .int x2), (3, .int x3), (4, .int r3)]) X 70 dX12_turn_68 (by decide) rfl rfl ?_
      refine v_iload X 72 4 dX12_turn_70 rfl rfl ?_
      refine v_iflt X 75 79 dX12_turn_72 rfl rfl ?_ ?_
      · refine v_iconst X 80 dX12_turn_79 ik_0 rfl ?_
        exact v_sb [0, 1, 2, 4] (L_X12_turn_80 X Y ih _ _ _ _ _ _) rfl
      · refine v_iconst X 76 dX12_turn_75 ik_1 rfl ?_
        refine v_goto X 80 dX12_turn_76 rfl ?_
        exact v_sb [0, 1, 2, 4] (L_X12_turn_80 X Y ih _ _ _ _ _ _) rfl
set_option maxRecDepth 4000 in
theorem L_X12_turn_24 {G : Gx} (X : Cb G cX12_turn 8 RX12 (RM 3 0 0) false) (Y : Cr G (some .int) 0 0) : ∀ (n : Nat) (x0 : Nat) (x1 : Int32) (x2 : Int32) (M : MM), V G trI 8 0 0 24 [(0, .ref x0), (1, .int x1), (2, .int x2)] [] M (f_X12_turn_24 n x0 x1 x2 M) := by
  intro n
  induction n with
  | zero => intro x0 x1 x2 M; rw [f_X12_turn_24]; exact v_none
  | succ n ih =>
    intro x0 x1 x2 M
    rw [f_X12_turn_24]
    refine v_iload_n X 25 2 dX12_turn_24 rfl rfl ?_
    refine v_aload_n X 26 0 dX12_turn_25 rfl rfl ?_
    refine v_getI X 29 fl_X12_143.r dX12_turn_26 rfl (fun v1 => ?_)
    refine v_icge X 32 52 dX12_turn_29 rfl rfl ?_ ?_
    · refine v_iconst X 53 dX12_turn_52 ik_0 rfl ?_
      refine v_istore_n (lv' := [(0, .ref x0), (1, .int x1), (2, .int (0 : Int32))]) X 54 dX12_turn_53 (by decide) rfl rfl ?_
      refine v_iconst X 55 dX12_turn_54 ik_1 rfl ?_
      refine v_istore_n (lv' := [(0, .ref x0), (1, .int x1), (2, .int (0 : Int32)), (3, .int (1 : Int32))]) X 56 dX12_turn_55 (by decide) rfl rfl ?_
      exact L_X12_turn_56 X Y 1024 _ _ _ _ _
    · refine v_aload_n X 33 0 dX12_turn_32 rfl rfl ?_
      refine v_getR X 36 fl_X12_97.r dX12_turn_33 rfl (fun v2 => ?_)
      refine v_iload_n X 37 2 dX12_turn_36 rfl rfl ?_
      refine v_iconst X 38 dX12_turn_37 ik_0 rfl ?_
      refine v_iast X 39 dX12_turn_38 rfl (fun M3 => ?_)
      refine v_aload_n X 40 0 dX12_turn_39 rfl rfl ?_
      refine v_getR X 43 fl_X12_100.r dX12_turn_40 rfl (fun v4 => ?_)
      refine v_iload_n X 44 2 dX12_turn_43 rfl rfl ?_
      refine v_iconst X 45 dX12_turn_44 ik_m1 rfl ?_
      refine v_iast X 46 dX12_turn_45 rfl (fun M5 => ?_)
      refine v_iinc X 49 2 (fun z => [(0, .ref x0), (1, .int x1), (2, .int z)]) dX12_turn_46 rfl ik_1 (by decide) (fun _ => rfl) rfl (fun y6 => ?_)
      refine v_goto X 24 dX12_turn_49 rfl ?_
      exact ih _ _ _ _
set_option maxRecDepth 4000 in
theorem L_X12_turn_0 {G : Gx} (X : Cb G cX12_turn 8 RX12 (RM 3 0 0) false) (Y : Cr G (some .int) 0 0) (x0 : Nat) (M : MM) : V G trI 8 0 0 0 [(0, .ref x0)] [] M (f_X12_turn_0 x0 M) := by
  unfold f_X12_turn_0
  refine v_aload_n X 1 0 dX12_turn_0 rfl rfl ?_
  refine v_iconst X 2 dX12_turn_1 ik_0 rfl ?_
  refine v_putI X 5 fl_X12_133 nof dX12_turn_2 rfl (fun M1 => ?_)
  refine v_aload_n X 6 0 dX12_turn_5 rfl rfl ?_
  refine v_bipush X 8 dX12_turn_6 bk_40 rfl ?_
  refine v_vI X 11 cv_X12_begins ml_X12_231 (n1 := 2) rfl [.int (40 : Int32)] rfl rfl rfl dX12_turn_8 rfl (fun r M1 h => c_X12_begins _ _ _ _ _ _ h) (fun r3 M2 => ?_)
  refine v_istore_n (lv' := [(0, .ref x0), (1, .int r3)]) X 12 dX12_turn_11 (by decide) rfl rfl ?_
  refine v_aload_n X 13 0 dX12_turn_12 rfl rfl ?_
  refine v_getI X 16 fl_X12_143.r dX12_turn_13 rfl (fun v4 => ?_)
  refine v_ifne X 19 22 dX12_turn_16 rfl rfl ?_ ?_
  · refine v_iconst X 23 dX12_turn_22 ik_0 rfl ?_
    refine v_istore_n (lv' := [(0, .ref x0), (1, .int r3), (2, .int (0 : Int32))]) X 24 dX12_turn_23 (by decide) rfl rfl ?_
    exact L_X12_turn_24 X Y 1024 _ _ _ _
  · refine v_bipush X 21 dX12_turn_19 bk_m100 rfl ?_
    exact v_iret X Y (Nat.le_refl _) (Nat.le_refl _) dX12_turn_21
theorem c_X12_turn (l : Launch) (x0 : Nat) (M : MM) (r : Int32) (M1 : MM) (h : f_X12_turn x0 M = some (r, M1)) : KV l yX12_turn cX12_turn 8 (some .int) (RM 3 0 0) false 12 x0 [] M (some (.int r)) M1 := by
  obtain ⟨hO, h2⟩ := iteO_some h
  exact ⟨hO, ct_of (tr := trI) (by decide) (Nat.le_of_ble_eq_true rfl) [(0, .ref x0)] rfl h2 (fun G X Y hn hl => L_X12_turn_0 X Y x0 M)⟩

def f_X12_readsBags_94 (x0 : Nat) (M : MM) : Option (Int32 × MM) :=
    b1 (gI 12 19 x0 M) fun v1 =>
    some ((-1 : Int32) - v1, M)

def f_X12_readsBags_76 (x0 : Nat) (M : MM) : Option (Int32 × MM) :=
    b1 (gI 12 48 x0 M) fun v1 =>
    if v1 = 0 then
      f_X12_readsBags_94 x0 M
    else
      b1 (gI 12 19 x0 M) fun v2 =>
      b1 (gI 12 20 x0 M) fun v3 =>
      if v3 ≤ v2 then
        some ((0 : Int32), M)
      else
        f_X12_readsBags_94 x0 M

def f_X12_readsBags_5 : Nat → Nat → MM → Option (Int32 × MM)
  | 0, _, _ => none
  | n + 1, x0, M =>
    b1 (gI 12 48 x0 M) fun v1 =>
    if (8 : Int32) ≤ v1 then
      f_X12_readsBags_76 x0 M
    else
      b1 (gI 12 19 x0 M) fun v2 =>
      b1 (gI 12 20 x0 M) fun v3 =>
      if v3 ≤ v2 then
        f_X12_readsBags_76 x0 M
      else
        b1 (gR 12 17 x0 M) fun v4 =>
        b1 (gI 12 19 x0 M) fun v5 =>
        b1 (ldI v4 v5 M) fun v6 =>
        b2 (f_X12_in (Int32.toInt64 v6) (49 : Int64) (57 : Int64) M) fun r8 M7 =>
        if r8 = 0 then
          f_X12_readsBags_76 x0 M7
        else
          b1 (gR 12 47 x0 M7) fun v9 =>
          b1 (gI 12 48 x0 M7) fun v10 =>
          b2 (f_X12_digit x0 (1 : Int32) (9 : Int32) M7) fun r12 M11 =>
          b1 (stI v9 v10 r12 M11) fun M13 =>
          b1 (gI 12 48 x0 M13) fun v14 =>
          b1 (pI 12 48 x0 (v14 + (1 : Int32)) M13) fun M15 =>
          f_X12_readsBags_5 n x0 M15

def f_X12_readsBags_0 (x0 : Nat) (M : MM) : Option (Int32 × MM) :=
    b1 (pI 12 48 x0 (0 : Int32) M) fun M1 =>
    f_X12_readsBags_5 1024 x0 M1

def f_X12_readsBags (x0 : Nat) (M : MM) : Option (Int32 × MM) := if isO 12 x0 M = true then f_X12_readsBags_0 x0 M else none
set_option maxRecDepth 4000 in
theorem L_X12_readsBags_94 {G : Gx} (X : Cb G cX12_readsBags 1 RX12 (RM 4 0 0) false) (Y : Cr G (some .int) 0 0) (x0 : Nat) (M : MM) : V G trI 1 0 0 94 [(0, .ref x0)] [] M (f_X12_readsBags_94 x0 M) := by
  unfold f_X12_readsBags_94
  refine v_iconst X 95 dX12_readsBags_94 ik_m1 rfl ?_
  refine v_aload_n X 96 0 dX12_readsBags_95 rfl rfl ?_
  refine v_getI X 99 fl_X12_156.r dX12_readsBags_96 rfl (fun v1 => ?_)
  refine v_isub X 100 dX12_readsBags_99 rfl ?_
  refine v_goto X 104 dX12_readsBags_100 rfl ?_
  exact v_iret X Y (Nat.le_refl _) (Nat.le_refl _) dX12_readsBags_104
set_option maxRecDepth 4000 in
theorem L_X12_readsBags_76 {G : Gx} (X : Cb G cX12_readsBags 1 RX12 (RM 4 0 0) false) (Y : Cr G (some .int) 0 0) (x0 : Nat) (M : MM) : V G trI 1 0 0 76 [(0, .ref x0)] [] M (f_X12_readsBags_76 x0 M) := by
  unfold f_X12_readsBags_76
  refine v_aload_n X 77 0 dX12_readsBags_76 rfl rfl ?_
  refine v_getI X 80 fl_X12_464.r dX12_readsBags_77 rfl (fun v1 => ?_)
  refine v_ifeq X 83 94 dX12_readsBags_80 rfl rfl ?_ ?_
  · exact L_X12_readsBags_94 X Y _ _
  · refine v_aload_n X 84 0 dX12_readsBags_83 rfl rfl ?_
    refine v_getI X 87 fl_X12_156.r dX12_readsBags_84 rfl (fun v2 => ?_)
    refine v_aload_n X 88 0 dX12_readsBags_87 rfl rfl ?_
    refine v_getI X 91 fl_X12_168.r dX12_readsBags_88 rfl (fun v3 => ?_)
    refine v_icge X 94 103 dX12_readsBags_91 rfl rfl ?_ ?_
    · refine v_iconst X 104 dX12_readsBags_103 ik_0 rfl ?_
      exact v_iret X Y (Nat.le_refl _) (Nat.le_refl _) dX12_readsBags_104
    · exact L_X12_readsBags_94 X Y _ _
set_option maxRecDepth 4000 in
theorem L_X12_readsBags_5 {G : Gx} (X : Cb G cX12_readsBags 1 RX12 (RM 4 0 0) false) (Y : Cr G (some .int) 0 0) : ∀ (n : Nat) (x0 : Nat) (M : MM), V G trI 1 0 0 5 [(0, .ref x0)] [] M (f_X12_readsBags_5 n x0 M) := by
  intro n
  induction n with
  | zero => intro x0 M; rw [f_X12_readsBags_5]; exact v_none
  | succ n ih =>
    intro x0 M
    rw [f_X12_readsBags_5]
    refine v_aload_n X 6 0 dX12_readsBags_5 rfl rfl ?_
    refine v_getI X 9 fl_X12_464.r dX12_readsBags_6 rfl (fun v1 => ?_)
    refine v_bipush X 11 dX12_readsBags_9 bk_8 rfl ?_
    refine v_icge X 14 76 dX12_readsBags_11 rfl rfl ?_ ?_
    · exact L_X12_readsBags_76 X Y _ _
    · refine v_aload_n X 15 0 dX12_readsBags_14 rfl rfl ?_
      refine v_getI X 18 fl_X12_156.r dX12_readsBags_15 rfl (fun v2 => ?_)
      refine v_aload_n X 19 0 dX12_readsBags_18 rfl rfl ?_
      refine v_getI X 22 fl_X12_168.r dX12_readsBags_19 rfl (fun v3 => ?_)
      refine v_icge X 25 76 dX12_readsBags_22 rfl rfl ?_ ?_
      · exact L_X12_readsBags_76 X Y _ _
      · refine v_aload_n X 26 0 dX12_readsBags_25 rfl rfl ?_
        refine v_getR X 29 fl_X12_49.r dX12_readsBags_26 rfl (fun v4 => ?_)
        refine v_aload_n X 30 0 dX12_readsBags_29 rfl rfl ?_
        refine v_getI X 33 fl_X12_156.r dX12_readsBags_30 rfl (fun v5 => ?_)
        refine v_iald X 34 dX12_readsBags_33 rfl (fun v6 => ?_)
        refine v_i2l X 35 dX12_readsBags_34 rfl ?_
        refine v_ldc2 X 38 dX12_readsBags_35 kl_X12_467 rfl ?_
        refine v_ldc2 X 41 dX12_readsBags_38 kl_X12_177 rfl ?_
        refine v_sI X 44 cs_X12_in ml_X12_146 (n1 := 1) rfl [.long (Int32.toInt64 v6), .long (49 : Int64), .long (57 : Int64)] rfl rfl rfl dX12_readsBags_41 rfl (fun r M1 h => c_X12_in _ _ _ _ _ _ _ h) (fun r8 M7 => ?_)
        refine v_ifeq X 47 76 dX12_readsBags_44 rfl rfl ?_ ?_
        · exact L_X12_readsBags_76 X Y _ _
        · refine v_aload_n X 48 0 dX12_readsBags_47 rfl rfl ?_
          refine v_getR X 51 fl_X12_103.r dX12_readsBags_48 rfl (fun v9 => ?_)
          refine v_aload_n X 52 0 dX12_readsBags_51 rfl rfl ?_
          refine v_getI X 55 fl_X12_464.r dX12_readsBags_52 rfl (fun v10 => ?_)
          refine v_aload_n X 56 0 dX12_readsBags_55 rfl rfl ?_
          refine v_iconst X 57 dX12_readsBags_56 ik_1 rfl ?_
          refine v_bipush X 59 dX12_readsBags_57 bk_9 rfl ?_
          refine v_vI X 62 cv_X12_digit ml_X12_209 (n1 := 3) rfl [.int (1 : Int32), .int (9 : Int32)] rfl rfl rfl dX12_readsBags_59 rfl (fun r M1 h => c_X12_digit _ _ _ _ _ _ _ h) (fun r12 M11 => ?_)
          refine v_iast X 63 dX12_readsBags_62 rfl (fun M13 => ?_)
          refine v_aload_n X 64 0 dX12_readsBags_63 rfl rfl ?_
          refine v_dup X 65 dX12_readsBags_64 rfl rfl ?_
          refine v_getI X 68 fl_X12_464.r dX12_readsBags_65 rfl (fun v14 => ?_)
          refine v_iconst X 69 dX12_readsBags_68 ik_1 rfl ?_
          refine v_iadd X 70 dX12_readsBags_69 rfl ?_
          refine v_putI X 73 fl_X12_464 nof dX12_readsBags_70 rfl (fun M15 => ?_)
          refine v_goto X 5 dX12_readsBags_73 rfl ?_
          exact ih _ _
set_option maxRecDepth 4000 in
theorem L_X12_readsBags_0 {G : Gx} (X : Cb G cX12_readsBags 1 RX12 (RM 4 0 0) false) (Y : Cr G (some .int) 0 0) (x0 : Nat) (M : MM) : V G trI 1 0 0 0 [(0, .ref x0)] [] M (f_X12_readsBags_0 x0 M) := by
  unfold f_X12_readsBags_0
  refine v_aload_n X 1 0 dX12_readsBags_0 rfl rfl ?_
  refine v_iconst X 2 dX12_readsBags_1 ik_0 rfl ?_
  refine v_putI X 5 fl_X12_464 nof dX12_readsBags_2 rfl (fun M1 => ?_)
  exact L_X12_readsBags_5 X Y 1024 _ _
theorem c_X12_readsBags (l : Launch) (x0 : Nat) (M : MM) (r : Int32) (M1 : MM) (h : f_X12_readsBags x0 M = some (r, M1)) : KV l yX12_readsBags cX12_readsBags 1 (some .int) (RM 4 0 0) false 12 x0 [] M (some (.int r)) M1 := by
  obtain ⟨hO, h2⟩ := iteO_some h
  exact ⟨hO, ct_of (tr := trI) (by decide) (Nat.le_of_ble_eq_true rfl) [(0, .ref x0)] rfl h2 (fun G X Y hn hl => L_X12_readsBags_0 X Y x0 M)⟩

def f_X12_packs_129 (P0 : Nat → Int32 → Int32 → Int32 → Int32 → MM → Option (Int32 × MM)) (K34 : Nat → Int32 → Int32 → Int32 → Int32 → Int32 → MM → Option (Int32 × MM)) (x0 : Nat) (x1 : Int32) (x2 : Int32) (x3 : Int32) (x4 : Int32) (x5 : Int32) (M : MM) : Option (Int32 × MM) :=
    bn (x5 + 1 : Int32) fun y1 =>
    K34 x0 x1 x2 x3 x4 y1 M

def f_X12_packs_34 (P0 : Nat → Int32 → Int32 → Int32 → Int32 → MM → Option (Int32 × MM)) : Nat → Nat → Int32 → Int32 → Int32 → Int32 → Int32 → MM → Option (Int32 × MM)
  | 0, _, _, _, _, _, _, _ => none
  | n + 1, x0, x1, x2, x3, x4, x5, M =>
    if x2 < x5 then
      rz (0 : Int32) M
    else
      if x3 ≤ x5 then
        rz (0 : Int32) M
      else
        b1 (gR 12 50 x0 M) fun v1 =>
        b1 (ldI v1 x5 M) fun v2 =>
        b1 (gR 12 47 x0 M) fun v3 =>
        b1 (ldI v3 x1 M) fun v4 =>
        if v2 < v4 then
          f_X12_packs_129 P0 (f_X12_packs_34 P0 n) x0 x1 x2 x3 x4 x5 M
        else
          b1 (gR 12 50 x0 M) fun v5 =>
          b1 (ldI v5 x5 M) fun v6 =>
          b1 (gR 12 47 x0 M) fun v7 =>
          b1 (ldI v7 x1 M) fun v8 =>
          b1 (stI v5 x5 (v6 - v8) M) fun M9 =>
          b1 (gR 12 49 x0 M9) fun v10 =>
          b1 (stI v10 x1 x5 M9) fun M11 =>
          b2 (P0 x0 (x1 + (1 : Int32)) (maxI x2 (x5 + (1 : Int32))) x3 x4 M11) fun r13 M12 =>
          b1 (gR 12 50 x0 M12) fun v14 =>
          b1 (ldI v14 x5 M12) fun v15 =>
          b1 (gR 12 47 x0 M12) fun v16 =>
          b1 (ldI v16 x1 M12) fun v17 =>
          b1 (stI v14 x5 (v15 + v17) M12) fun M18 =>
          if r13 = 0 then
            f_X12_packs_129 P0 (f_X12_packs_34 P0 n) x0 x1 x2 x3 x4 x5 M18
          else
            rz (1 : Int32) M18

def f_X12_packs_0 (P0 : Nat → Int32 → Int32 → Int32 → Int32 → MM → Option (Int32 × MM)) (x0 : Nat) (x1 : Int32) (x2 : Int32) (x3 : Int32) (x4 : Int32) (M : MM) : Option (Int32 × MM) :=
    b1 (gI 12 48 x0 M) fun v1 =>
    if x1 = v1 then
      rz (1 : Int32) M
    else
      b2 (f_X12_has x4 x1 M) fun r3 M2 =>
      if r3 = 0 then
        b2 (P0 x0 (x1 + (1 : Int32)) x2 x3 x4 M2) fun r5 M4 =>
        rz r5 M4
      else
        f_X12_packs_34 P0 1024 x0 x1 x2 x3 x4 (0 : Int32) M2

set_option maxRecDepth 4000 in
theorem L_X12_packs_129 {k : Nat} {G : Gx} (X : Cb G cX12_packs 7 RX12 (RM (2 + (k + 1)) 0 0) false) (Y : Cr G (some .boolean) 0 0) {P0 : Nat → Int32 → Int32 → Int32 → Int32 → MM → Option (Int32 × MM)} (hP0 : ∀ (x0 : Nat) (x1 : Int32) (x2 : Int32) (x3 : Int32) (x4 : Int32) (M : MM) (r : Int32) (M1 : MM), P0 x0 x1 x2 x3 x4 M = some (r, M1) → KV G.1.2.1 yX12_packs cX12_packs 7 (some .boolean) (RM (2 + k) 0 0) false 12 x0 [.int x1, .int x2, .int x3, .int x4] M (some (.int r)) M1) {K34 : Nat → Int32 → Int32 → Int32 → Int32 → Int32 → MM → Option (Int32 × MM)} (hK34 : ∀ (x0 : Nat) (x1 : Int32) (x2 : Int32) (x3 : Int32) (x4 : Int32) (x5 : Int32) (M : MM), V G trI 7 0 0 34 [(0, .ref x0), (1, .int x1), (2, .int x2), (3, .int x3), (4, .int x4), (5, .int x5)] [] M (K34 x0 x1 x2 x3 x4 x5 M)) (x0 : Nat) (x1 : Int32) (x2 : Int32) (x3 : Int32) (x4 : Int32) (x5 : Int32) (M : MM) : V G trI 7 0 0 129 [(0, .ref x0), (1, .int x1), (2, .int x2), (3, .int x3), (4, .int x4), (5, .int x5)] [] M (f_X12_packs_129 P0 K34 x0 x1 x2 x3 x4 x5 M) := by
  unfold f_X12_packs_129
  refine v_iinc X 132 5 (fun z => [(0, .ref x0), (1, .int x1), (2, .int x2), (3, .int x3), (4, .int x4), (5, .int z)]) dX12_packs_129 rfl ik_1 (by decide) (fun _ => rfl) rfl (fun y1 => ?_)
  refine v_goto X 34 dX12_packs_132 rfl ?_
  exact hK34 _ _ _ _ _ _ _
set_option maxRecDepth 4000 in
theorem L_X12_packs_34 {k : Nat} {G : Gx} (X : Cb G cX12_packs 7 RX12 (RM (2 + (k + 1)) 0 0) false) (Y : Cr G (some .boolean) 0 0) {P0 : Nat → Int32 → Int32 → Int32 → Int32 → MM → Option (Int32 × MM)} (hP0 : ∀ (x0 : Nat) (x1 : Int32) (x2 : Int32) (x3 : Int32) (x4 : Int32) (M : MM) (r : Int32) (M1 : MM), P0 x0 x1 x2 x3 x4 M = some (r, M1) → KV G.1.2.1 yX12_packs cX12_packs 7 (some .boolean) (RM (2 + k) 0 0) false 12 x0 [.int x1, .int x2, .int x3, .int x4] M (some (.int r)) M1) : ∀ (n : Nat) (x0 : Nat) (x1 : Int32) (x2 : Int32) (x3 : Int32) (x4 : Int32) (x5 : Int32) (M : MM), V G trI 7 0 0 34 [(0, .ref x0), (1, .int x1), (2, .int x2), (3, .int x3), (4, .int x4), (5, .int x5)] [] M (f_X12_packs_34 P0 n x0 x1 x2 x3 x4 x5 M) := by
  intro n
  induction n with
  | zero => intro x0 x1 x2 x3 x4 x5 M; rw [f_X12_packs_34]; exact v_none
  | succ n ih =>
    intro x0 x1 x2 x3 x4 x5 M
    rw [f_X12_packs_34]
    refine v_iload X 36 5 dX12_packs_34 rfl rfl ?_
    refine v_iload_n X 37 2 dX12_packs_36 rfl rfl ?_
    refine v_icgt X 40 135 dX12_packs_37 rfl rfl ?_ ?_
    · refine v_iconst X 136 dX12_packs_135 ik_0 rfl ?_
      exact v_zret X Y (Nat.le_refl _) (Nat.le_refl _) dX12_packs_136
    · refine v_iload X 42 5 dX12_packs_40 rfl rfl ?_
      refine v_iload_n X 43 3 dX12_packs_42 rfl rfl ?_
      refine v_icge X 46 135 dX12_packs_43 rfl rfl ?_ ?_
      · refine v_iconst X 136 dX12_packs_135 ik_0 rfl ?_
        exact v_zret X Y (Nat.le_refl _) (Nat.le_refl _) dX12_packs_136
      · refine v_aload_n X 47 0 dX12_packs_46 rfl rfl ?_
        refine v_getR X 50 fl_X12_109.r dX12_packs_47 rfl (fun v1 => ?_)
        refine v_iload X 52 5 dX12_packs_50 rfl rfl ?_
        refine v_iald X 53 dX12_packs_52 rfl (fun v2 => ?_)
        refine v_aload_n X 54 0 dX12_packs_53 rfl rfl ?_
        refine v_getR X 57 fl_X12_103.r dX12_packs_54 rfl (fun v3 => ?_)
        refine v_iload_n X 58 1 dX12_packs_57 rfl rfl ?_
        refine v_iald X 59 dX12_packs_58 rfl (fun v4 => ?_)
        refine v_iclt X 62 129 dX12_packs_59 rfl rfl ?_ ?_
        · exact L_X12_packs_129 X Y hP0 ih _ _ _ _ _ _ _
        · refine v_aload_n X 63 0 dX12_packs_62 rfl rfl ?_
          refine v_getR X 66 fl_X12_109.r dX12_packs_63 rfl (fun v5 => ?_)
          refine v_iload X 68 5 dX12_packs_66 rfl rfl ?_
          refine v_dup2 X 69 dX12_packs_68 rfl rfl rfl ?_
          refine v_iald X 70 dX12_packs_69 rfl (fun v6 => ?_)
          refine v_aload_n X 71 0 dX12_packs_70 rfl rfl ?_
          refine v_getR X 74 fl_X12_103.r dX12_packs_71 rfl (fun v7 => ?_)
          refine v_iload_n X 75 1 dX12_packs_74 rfl rfl ?_
          refine v_iald X 76 dX12_packs_75 rfl (fun v8 => ?_)
          refine v_isub X 77 dX12_packs_76 rfl ?_
          refine v_iast X 78 dX12_packs_77 rfl (fun M9 => ?_)
          refine v_aload_n X 79 0 dX12_packs_78 rfl rfl ?_
          refine v_getR X 82 fl_X12_106.r dX12_packs_79 rfl (fun v10 => ?_)
          refine v_iload_n X 83 1 dX12_packs_82 rfl rfl ?_
          refine v_iload X 85 5 dX12_packs_83 rfl rfl ?_
          refine v_iast X 86 dX12_packs_85 rfl (fun M11 => ?_)
          refine v_aload_n X 87 0 dX12_packs_86 rfl rfl ?_
          refine v_iload_n X 88 1 dX12_packs_87 rfl rfl ?_
          refine v_iconst X 89 dX12_packs_88 ik_1 rfl ?_
          refine v_iadd X 90 dX12_packs_89 rfl ?_
          refine v_iload_n X 91 2 dX12_packs_90 rfl rfl ?_
          refine v_iload X 93 5 dX12_packs_91 rfl rfl ?_
          refine v_iconst X 94 dX12_packs_93 ik_1 rfl ?_
          refine v_iadd X 95 dX12_packs_94 rfl ?_
          refine v_max X 98 ml_X12_311 w_max (frq (by omega)) (loq rfl (by omega)) (Nat.zero_le _) (Nat.zero_le _) dX12_packs_95 rfl ?_
          refine v_iload_n X 99 3 dX12_packs_98 rfl rfl ?_
          refine v_iload X 101 4 dX12_packs_99 rfl rfl ?_
          refine v_vI X 104 cv_X12_packs ml_X12_469 (n1 := (2 + k)) (rmq (by omega) (by decide)) [.int (x1 + (1 : Int32)), .int (maxI x2 (x5 + (1 : Int32))), .int x3, .int x4] rfl rfl rfl dX12_packs_101 rfl (fun r M1 h => hP0 _ _ _ _ _ _ _ _ h) (fun r13 M12 => ?_)
          refine v_istore (lv' := [(0, .ref x0), (1, .int x1), (2, .int x2), (3, .int x3), (4, .int x4), (5, .int x5), (6, .int r13)]) X 106 dX12_packs_104 (by decide) rfl rfl ?_
          refine v_aload_n X 107 0 dX12_packs_106 rfl rfl ?_
          refine v_getR X 110 fl_X12_109.r dX12_packs_107 rfl (fun v14 => ?_)
          refine v_iload X 112 5 dX12_packs_110 rfl rfl ?_
          refine v_dup2 X 113 dX12_packs_112 rfl rfl rfl ?_
          refine v_iald X 114 dX12_packs_113 rfl (fun v15 => ?_)
          refine v_aload_n X 115 0 dX12_packs_114 rfl rfl ?_
          refine v_getR X 118 fl_X12_103.r dX12_packs_115 rfl (fun v16 => ?_)
          refine v_iload_n X 119 1 dX12_packs_118 rfl rfl ?_
          refine v_iald X 120 dX12_packs_119 rfl (fun v17 => ?_)
          refine v_iadd X 121 dX12_packs_120 rfl ?_
          refine v_iast X 122 dX12_packs_121 rfl (fun M18 => ?_)
          refine v_iload X 124 6 dX12_packs_122 rfl rfl ?_
          refine v_ifeq X 127 129 dX12_packs_124 rfl rfl ?_ ?_
          · exact v_sb [0, 1, 2, 3, 4, 5] (L_X12_packs_129 X Y hP0 ih _ _ _ _ _ _ _) rfl
          · refine v_iconst X 128 dX12_packs_127 ik_1 rfl ?_
            exact v_zret X Y (Nat.le_refl _) (Nat.le_refl _) dX12_packs_128
set_option maxRecDepth 4000 in
theorem L_X12_packs_0 {k : Nat} {G : Gx} (X : Cb G cX12_packs 7 RX12 (RM (2 + (k + 1)) 0 0) false) (Y : Cr G (some .boolean) 0 0) {P0 : Nat → Int32 → Int32 → Int32 → Int32 → MM → Option (Int32 × MM)} (hP0 : ∀ (x0 : Nat) (x1 : Int32) (x2 : Int32) (x3 : Int32) (x4 : Int32) (M : MM) (r : Int32) (M1 : MM), P0 x0 x1 x2 x3 x4 M = some (r, M1) → KV G.1.2.1 yX12_packs cX12_packs 7 (some .boolean) (RM (2 + k) 0 0) false 12 x0 [.int x1, .int x2, .int x3, .int x4] M (some (.int r)) M1) (x0 : Nat) (x1 : Int32) (x2 : Int32) (x3 : Int32) (x4 : Int32) (M : MM) : V G trI 7 0 0 0 [(0, .ref x0), (1, .int x1), (2, .int x2), (3, .int x3), (4, .int x4)] [] M (f_X12_packs_0 P0 x0 x1 x2 x3 x4 M) := by
  unfold f_X12_packs_0
  refine v_iload_n X 1 1 dX12_packs_0 rfl rfl ?_
  refine v_aload_n X 2 0 dX12_packs_1 rfl rfl ?_
  refine v_getI X 5 fl_X12_464.r dX12_packs_2 rfl (fun v1 => ?_)
  refine v_icne X 8 10 dX12_packs_5 rfl rfl ?_ ?_
  · refine v_iload X 12 4 dX12_packs_10 rfl rfl ?_
    refine v_iload_n X 13 1 dX12_packs_12 rfl rfl ?_
    refine v_sI X 16 cs_X12_has ml_X12_358 (n1 := 1) (rmq (by omega) (by decide)) [.int x4, .int x1] rfl rfl rfl dX12_packs_13 rfl (fun r M1 h => c_X12_has _ _ _ _ _ _ h) (fun r3 M2 => ?_)
    refine v_ifne X 19 31 dX12_packs_16 rfl rfl ?_ ?_
    · refine v_iconst X 32 dX12_packs_31 ik_0 rfl ?_
      refine v_istore (lv' := [(0, .ref x0), (1, .int x1), (2, .int x2), (3, .int x3), (4, .int x4), (5, .int (0 : Int32))]) X 34 dX12_packs_32 (by decide) rfl rfl ?_
      exact L_X12_packs_34 X Y hP0 1024 _ _ _ _ _ _ _
    · refine v_aload_n X 20 0 dX12_packs_19 rfl rfl ?_
      refine v_iload_n X 21 1 dX12_packs_20 rfl rfl ?_
      refine v_iconst X 22 dX12_packs_21 ik_1 rfl ?_
      refine v_iadd X 23 dX12_packs_22 rfl ?_
      refine v_iload_n X 24 2 dX12_packs_23 rfl rfl ?_
      refine v_iload_n X 25 3 dX12_packs_24 rfl rfl ?_
      refine v_iload X 27 4 dX12_packs_25 rfl rfl ?_
      refine v_vI X 30 cv_X12_packs ml_X12_469 (n1 := (2 + k)) (rmq (by omega) (by decide)) [.int (x1 + (1 : Int32)), .int x2, .int x3, .int x4] rfl rfl rfl dX12_packs_27 rfl (fun r M1 h => hP0 _ _ _ _ _ _ _ _ h) (fun r5 M4 => ?_)
      exact v_zret X Y (Nat.le_refl _) (Nat.le_refl _) dX12_packs_30
  · refine v_iconst X 9 dX12_packs_8 ik_1 rfl ?_
    exact v_zret X Y (Nat.le_refl _) (Nat.le_refl _) dX12_packs_9
def f_X12_packs : Nat → Nat → Int32 → Int32 → Int32 → Int32 → MM → Option (Int32 × MM)
  | 0, _, _, _, _, _, _ => none
  | n + 1, x0, x1, x2, x3, x4, M => if isO 12 x0 M = true then f_X12_packs_0 (f_X12_packs n) x0 x1 x2 x3 x4 M else none
theorem c_X12_packs (l : Launch) : ∀ (n : Nat) (x0 : Nat) (x1 : Int32) (x2 : Int32) (x3 : Int32) (x4 : Int32) (M : MM) (r : Int32) (M1 : MM) (h : f_X12_packs n x0 x1 x2 x3 x4 M = some (r, M1)), KV l yX12_packs cX12_packs 7 (some .boolean) (RM (2 + n) 0 0) false 12 x0 [.int x1, .int x2, .int x3, .int x4] M (some (.int r)) M1 := by
  intro n
  induction n with
  | zero => intro x0 x1 x2 x3 x4 M r M1 h; rw [f_X12_packs] at h; cases h
  | succ n ih =>
    intro x0 x1 x2 x3 x4 M r M1 h
    rw [f_X12_packs] at h
    obtain ⟨hO, h2⟩ := iteO_some h
    exact ⟨hO, ct_of (tr := trI) (by decide) (Nat.le_of_ble_eq_true rfl) [(0, .ref x0), (1, .int x1), (2, .int x2), (3, .int x3), (4, .int x4)] rfl h2 (fun G X Y hn hl => L_X12_packs_0 (k := n) X Y (by rw [hl]; exact ih) x0 x1 x2 x3 x4 M)⟩

def f_X12_canPack_3 : Nat → Nat → Int32 → Int32 → Int32 → Int32 → MM → Option (Int32 × MM)
  | 0, _, _, _, _, _, _ => none
  | n + 1, x0, x1, x2, x3, x4, M =>
    if (8 : Int32) ≤ x4 then
      b2 (f_X12_packs 100 x0 (0 : Int32) (0 : Int32) x1 x3 M) fun r2 M1 =>
      rz r2 M1
    else
      b1 (gR 12 50 x0 M) fun v3 =>
      b1 (stI v3 x4 x2 M) fun M4 =>
      bn (x4 + 1 : Int32) fun y5 =>
      f_X12_canPack_3 n x0 x1 x2 x3 y5 M4

def f_X12_canPack_0 (x0 : Nat) (x1 : Int32) (x2 : Int32) (x3 : Int32) (M : MM) : Option (Int32 × MM) :=
    f_X12_canPack_3 1024 x0 x1 x2 x3 (0 : Int32) M

def f_X12_canPack (x0 : Nat) (x1 : Int32) (x2 : Int32) (x3 : Int32) (M : MM) : Option (Int32 × MM) := if isO 12 x0 M = true then f_X12_canPack_0 x0 x1 x2 x3 M else none
set_option maxRecDepth 4000 in
theorem L_X12_canPack_3 {G : Gx} (X : Cb G cX12_canPack 5 RX12 (RM 103 0 0) false) (Y : Cr G (some .boolean) 0 0) : ∀ (n : Nat) (x0 : Nat) (x1 : Int32) (x2 : Int32) (x3 : Int32) (x4 : Int32) (M : MM), V G trI 5 0 0 3 [(0, .ref x0), (1, .int x1), (2, .int x2), (3, .int x3), (4, .int x4)] [] M (f_X12_canPack_3 n x0 x1 x2 x3 x4 M) := by
  intro n
  induction n with
  | zero => intro x0 x1 x2 x3 x4 M; rw [f_X12_canPack_3]; exact v_none
  | succ n ih =>
    intro x0 x1 x2 x3 x4 M
    rw [f_X12_canPack_3]
    refine v_iload X 5 4 dX12_canPack_3 rfl rfl ?_
    refine v_bipush X 7 dX12_canPack_5 bk_8 rfl ?_
    refine v_icge X 10 24 dX12_canPack_7 rfl rfl ?_ ?_
    · refine v_aload_n X 25 0 dX12_canPack_24 rfl rfl ?_
      refine v_iconst X 26 dX12_canPack_25 ik_0 rfl ?_
      refine v_iconst X 27 dX12_canPack_26 ik_0 rfl ?_
      refine v_iload_n X 28 1 dX12_canPack_27 rfl rfl ?_
      refine v_iload_n X 29 3 dX12_canPack_28 rfl rfl ?_
      refine v_vI X 32 cv_X12_packs ml_X12_469 (n1 := 102) rfl [.int (0 : Int32), .int (0 : Int32), .int x1, .int x3] rfl rfl rfl dX12_canPack_29 rfl (fun r M1 h => c_X12_packs _ 100 _ _ _ _ _ _ _ _ h) (fun r2 M1 => ?_)
      exact v_zret X Y (Nat.le_refl _) (Nat.le_refl _) dX12_canPack_32
    · refine v_aload_n X 11 0 dX12_canPack_10 rfl rfl ?_
      refine v_getR X 14 fl_X12_109.r dX12_canPack_11 rfl (fun v3 => ?_)
      refine v_iload X 16 4 dX12_canPack_14 rfl rfl ?_
      refine v_iload_n X 17 2 dX12_canPack_16 rfl rfl ?_
      refine v_iast X 18 dX12_canPack_17 rfl (fun M4 => ?_)
      refine v_iinc X 21 4 (fun z => [(0, .ref x0), (1, .int x1), (2, .int x2), (3, .int x3), (4, .int z)]) dX12_canPack_18 rfl ik_1 (by decide) (fun _ => rfl) rfl (fun y5 => ?_)
      refine v_goto X 3 dX12_canPack_21 rfl ?_
      exact ih _ _ _ _ _ _
set_option maxRecDepth 4000 in
theorem L_X12_canPack_0 {G : Gx} (X : Cb G cX12_canPack 5 RX12 (RM 103 0 0) false) (Y : Cr G (some .boolean) 0 0) (x0 : Nat) (x1 : Int32) (x2 : Int32) (x3 : Int32) (M : MM) : V G trI 5 0 0 0 [(0, .ref x0), (1, .int x1), (2, .int x2), (3, .int x3)] [] M (f_X12_canPack_0 x0 x1 x2 x3 M) := by
  unfold f_X12_canPack_0
  refine v_iconst X 1 dX12_canPack_0 ik_0 rfl ?_
  refine v_istore (lv' := [(0, .ref x0), (1, .int x1), (2, .int x2), (3, .int x3), (4, .int (0 : Int32))]) X 3 dX12_canPack_1 (by decide) rfl rfl ?_
  exact L_X12_canPack_3 X Y 1024 _ _ _ _ _ _
theorem c_X12_canPack (l : Launch) (x0 : Nat) (x1 : Int32) (x2 : Int32) (x3 : Int32) (M : MM) (r : Int32) (M1 : MM) (h : f_X12_canPack x0 x1 x2 x3 M = some (r, M1)) : KV l yX12_canPack cX12_canPack 5 (some .boolean) (RM 103 0 0) false 12 x0 [.int x1, .int x2, .int x3] M (some (.int r)) M1 := by
  obtain ⟨hO, h2⟩ := iteO_some h
  exact ⟨hO, ct_of (tr := trI) (by decide) (Nat.le_of_ble_eq_true rfl) [(0, .ref x0), (1, .int x1), (2, .int x2), (3, .int x3)] rfl h2 (fun G X Y hn hl => L_X12_canPack_0 X Y x0 x1 x2 x3 M)⟩

def f_X12_lockers_108 : Nat → Nat → Int32 → Int32 → MM → Option (Int32 × MM)
  | 0, _, _, _, _ => none
  | n + 1, x0, x4, x5, M =>
    b1 (gI 12 48 x0 M) fun v1 =>
    if v1 ≤ x5 then
      some (x4, M)
    else
      b1 (gR 12 49 x0 M) fun v2 =>
      b1 (ldI v2 x5 M) fun v3 =>
      b1 (f_X12_enters x0 (Int32.toInt64 v3) M) fun M4 =>
      bn (x5 + 1 : Int32) fun y5 =>
      f_X12_lockers_108 n x0 x4 y5 M4

def f_X12_lockers_83 : Nat → Nat → Int32 → Int32 → Int32 → MM → Option (Int32 × MM)
  | 0, _, _, _, _, _ => none
  | n + 1, x0, x1, x3, x4, M =>
    b2 (f_X12_canPack x0 x4 x1 x3 M) fun r2 M1 =>
    if r2 = 0 then
      bn (x4 + 1 : Int32) fun y4 =>
      f_X12_lockers_83 n x0 x1 x3 y4 M1
    else
      b1 (pI 12 1 x0 (0 : Int32) M1) fun M3 =>
      f_X12_lockers_108 1024 x0 x4 (0 : Int32) M3

def f_X12_lockers_50 : Nat → Nat → Int32 → Int32 → Int32 → MM → Option (Int32 × MM)
  | 0, _, _, _, _, _ => none
  | n + 1, x0, x1, x3, x4, M =>
    b1 (gI 12 48 x0 M) fun v1 =>
    if v1 ≤ x4 then
      f_X12_lockers_83 1024 x0 x1 x3 (1 : Int32) M
    else
      b1 (gR 12 47 x0 M) fun v2 =>
      b1 (ldI v2 x4 M) fun v3 =>
      if v3 ≤ x1 then
        bn (x4 + 1 : Int32) fun y4 =>
        f_X12_lockers_50 n x0 x1 x3 y4 M
      else
        some ((-200 : Int32), M)

def f_X12_lockers_0 (x0 : Nat) (x1 : Int32) (M : MM) : Option (Int32 × MM) :=
    b1 (pI 12 0 x0 (0 : Int32) M) fun M1 =>
    b2 (f_X12_begins x0 (80 : Int32) M1) fun r3 M2 =>
    b2 (f_X12_in (Int32.toInt64 x1) (1 : Int64) (20 : Int64) M2) fun r5 M4 =>
    if r5 = 0 then
      some ((-100 : Int32), M4)
    else
      b2 (f_X12_readsBags x0 M4) fun r7 M6 =>
      if 0 ≤ r7 then
        b1 (gI 12 48 x0 M6) fun v8 =>
        bn (((1 : Int32) <<< (v8 &&& 31)) - (1 : Int32) : Int32) fun y9 =>
        f_X12_lockers_50 1024 x0 x1 y9 (0 : Int32) M6
      else
        some (r7, M6)

def f_X12_lockers (x0 : Nat) (x1 : Int32) (M : MM) : Option (Int32 × MM) := if isO 12 x0 M = true then f_X12_lockers_0 x0 x1 M else none
set_option maxRecDepth 4000 in
theorem L_X12_lockers_108 {G : Gx} (X : Cb G cX12_lockers 6 RX12 (RM 104 0 0) false) (Y : Cr G (some .int) 0 0) : ∀ (n : Nat) (x0 : Nat) (x4 : Int32) (x5 : Int32) (M : MM), V G trI 6 0 0 108 [(0, .ref x0), (4, .int x4), (5, .int x5)] [] M (f_X12_lockers_108 n x0 x4 x5 M) := by
  intro n
  induction n with
  | zero => intro x0 x4 x5 M; rw [f_X12_lockers_108]; exact v_none
  | succ n ih =>
    intro x0 x4 x5 M
    rw [f_X12_lockers_108]
    refine v_iload X 110 2 dX12_lockers_108 rfl rfl ?_
    refine v_aload_n X 111 0 dX12_lockers_110 rfl rfl ?_
    refine v_getI X 114 fl_X12_464.r dX12_lockers_111 rfl (fun v1 => ?_)
    refine v_icge X 117 135 dX12_lockers_114 rfl rfl ?_ ?_
    · refine v_iload X 137 1 dX12_lockers_135 rfl rfl ?_
      exact v_iret X Y (Nat.le_refl _) (Nat.le_refl _) dX12_lockers_137
    · refine v_aload_n X 118 0 dX12_lockers_117 rfl rfl ?_
      refine v_aload_n X 119 0 dX12_lockers_118 rfl rfl ?_
      refine v_getR X 122 fl_X12_106.r dX12_lockers_119 rfl (fun v2 => ?_)
      refine v_iload X 124 2 dX12_lockers_122 rfl rfl ?_
      refine v_iald X 125 dX12_lockers_124 rfl (fun v3 => ?_)
      refine v_i2l X 126 dX12_lockers_125 rfl ?_
      refine v_vV X 129 cv_X12_enters ml_X12_414 (n1 := 1) rfl [.long (Int32.toInt64 v3)] rfl rfl rfl dX12_lockers_126 rfl (fun M1 h => c_X12_enters _ _ _ _ _ h) (fun M4 => ?_)
      refine v_iinc X 132 2 (fun z => [(0, .ref x0), (4, .int x4), (5, .int z)]) dX12_lockers_129 rfl ik_1 (by decide) (fun _ => rfl) rfl (fun y5 => ?_)
      refine v_goto X 108 dX12_lockers_132 rfl ?_
      exact ih _ _ _ _
set_option maxRecDepth 4000 in
theorem L_X12_lockers_83 {G : Gx} (X : Cb G cX12_lockers 6 RX12 (RM 104 0 0) false) (Y : Cr G (some .int) 0 0) : ∀ (n : Nat) (x0 : Nat) (x1 : Int32) (x3 : Int32) (x4 : Int32) (M : MM), V G trI 6 0 0 83 [(0, .ref x0), (1, .int x1), (3, .int x3), (4, .int x4)] [] M (f_X12_lockers_83 n x0 x1 x3 x4 M) := by
  intro n
  induction n with
  | zero => intro x0 x1 x3 x4 M; rw [f_X12_lockers_83]; exact v_none
  | succ n ih =>
    intro x0 x1 x3 x4 M
    rw [f_X12_lockers_83]
    refine v_aload_n X 84 0 dX12_lockers_83 rfl rfl ?_
    refine v_iload X 86 3 dX12_lockers_84 rfl rfl ?_
    refine v_iload_n X 87 1 dX12_lockers_86 rfl rfl ?_
    refine v_iload_n X 88 2 dX12_lockers_87 rfl rfl ?_
    refine v_vI X 91 cv_X12_canPack ml_X12_478 (n1 := 103) rfl [.int x4, .int x1, .int x3] rfl rfl rfl dX12_lockers_88 rfl (fun r M1 h => c_X12_canPack _ _ _ _ _ _ _ _ h) (fun r2 M1 => ?_)
    refine v_ifne X 94 100 dX12_lockers_91 rfl rfl ?_ ?_
    · refine v_aload_n X 101 0 dX12_lockers_100 rfl rfl ?_
      refine v_iconst X 102 dX12_lockers_101 ik_0 rfl ?_
      refine v_putI X 105 fl_X12_140 nof dX12_lockers_102 rfl (fun M3 => ?_)
      refine v_iconst X 106 dX12_lockers_105 ik_0 rfl ?_
      refine v_istore (lv' := [(0, .ref x0), (1, .int x1), (3, .int x3), (4, .int x4), (5, .int (0 : Int32))]) X 108 dX12_lockers_106 (by decide) rfl rfl ?_
      exact v_sb [0, 3, 4] (L_X12_lockers_108 X Y 1024 _ _ _ _) rfl
    · refine v_iinc X 97 3 (fun z => [(0, .ref x0), (1, .int x1), (3, .int x3), (4, .int z)]) dX12_lockers_94 rfl ik_1 (by decide) (fun _ => rfl) rfl (fun y4 => ?_)
      refine v_goto X 83 dX12_lockers_97 rfl ?_
      exact ih _ _ _ _ _
set_option maxRecDepth 4000 in
theorem L_X12_lockers_50 {G : Gx} (X : Cb G cX12_lockers 6 RX12 (RM 104 0 0) false) (Y : Cr G (some .int) 0 0) : ∀ (n : Nat) (x0 : Nat) (x1 : Int32) (x3 : Int32) (x4 : Int32) (M : MM), V G trI 6 0 0 50 [(0, .ref x0), (1, .int x1), (3, .int x3), (4, .int x4)] [] M (f_X12_lockers_50 n x0 x1 x3 x4 M) := by
  intro n
  induction n with
  | zero => intro x0 x1 x3 x4 M; rw [f_X12_lockers_50]; exact v_none
  | succ n ih =>
    intro x0 x1 x3 x4 M
    rw [f_X12_lockers_50]
    refine v_iload X 52 3 dX12_lockers_50 rfl rfl ?_
    refine v_aload_n X 53 0 dX12_lockers_52 rfl rfl ?_
    refine v_getI X 56 fl_X12_464.r dX12_lockers_53 rfl (fun v1 => ?_)
    refine v_icge X 59 80 dX12_lockers_56 rfl rfl ?_ ?_
    · refine v_iconst X 81 dX12_lockers_80 ik_1 rfl ?_
      refine v_istore (lv' := [(0, .ref x0), (1, .int x1), (3, .int x3), (4, .int (1 : Int32))]) X 83 dX12_lockers_81 (by decide) rfl rfl ?_
      exact L_X12_lockers_83 X Y 1024 _ _ _ _ _
    · refine v_aload_n X 60 0 dX12_lockers_59 rfl rfl ?_
      refine v_getR X 63 fl_X12_103.r dX12_lockers_60 rfl (fun v2 => ?_)
      refine v_iload X 65 3 dX12_lockers_63 rfl rfl ?_
      refine v_iald X 66 dX12_lockers_65 rfl (fun v3 => ?_)
      refine v_iload_n X 67 1 dX12_lockers_66 rfl rfl ?_
      refine v_icle X 70 74 dX12_lockers_67 rfl rfl ?_ ?_
      · refine v_iinc X 77 3 (fun z => [(0, .ref x0), (1, .int x1), (3, .int x3), (4, .int z)]) dX12_lockers_74 rfl ik_1 (by decide) (fun _ => rfl) rfl (fun y4 => ?_)
        refine v_goto X 50 dX12_lockers_77 rfl ?_
        exact ih _ _ _ _ _
      · refine v_sipush X 73 dX12_lockers_70 sk_m200 rfl ?_
        exact v_iret X Y (Nat.le_refl _) (Nat.le_refl _) dX12_lockers_73
set_option maxRecDepth 4000 in
theorem L_X12_lockers_0 {G : Gx} (X : Cb G cX12_lockers 6 RX12 (RM 104 0 0) false) (Y : Cr G (some .int) 0 0) (x0 : Nat) (x1 : Int32) (M : MM) : V G trI 6 0 0 0 [(0, .ref x0), (1, .int x1)] [] M (f_X12_lockers_0 x0 x1 M) := by
  unfold f_X12_lockers_0
  refine v_aload_n X 1 0 dX12_lockers_0 rfl rfl ?_
  refine v_iconst X 2 dX12_lockers_1 ik_0 rfl ?_
  refine v_putI X 5 fl_X12_133 nof dX12_lockers_2 rfl (fun M1 => ?_)
  refine v_aload_n X 6 0 dX12_lockers_5 rfl rfl ?_
  refine v_bipush X 8 dX12_lockers_6 bk_80 rfl ?_
  refine v_vI X 11 cv_X12_begins ml_X12_231 (n1 := 2) rfl [.int (80 : Int32)] rfl rfl rfl dX12_lockers_8 rfl (fun r M1 h => c_X12_begins _ _ _ _ _ _ h) (fun r3 M2 => ?_)
  refine v_pop X 12 dX12_lockers_11 rfl rfl ?_
  refine v_iload_n X 13 1 dX12_lockers_12 rfl rfl ?_
  refine v_i2l X 14 dX12_lockers_13 rfl ?_
  refine v_lconst X 15 dX12_lockers_14 lk_1 rfl ?_
  refine v_ldc2 X 18 dX12_lockers_15 kl_X12_473 rfl ?_
  refine v_sI X 21 cs_X12_in ml_X12_146 (n1 := 1) rfl [.long (Int32.toInt64 x1), .long (1 : Int64), .long (20 : Int64)] rfl rfl rfl dX12_lockers_18 rfl (fun r M1 h => c_X12_in _ _ _ _ _ _ _ h) (fun r5 M4 => ?_)
  refine v_ifne X 24 27 dX12_lockers_21 rfl rfl ?_ ?_
  · refine v_aload_n X 28 0 dX12_lockers_27 rfl rfl ?_
    refine v_vI X 31 cv_X12_readsBags ml_X12_475 (n1 := 4) rfl [] rfl rfl rfl dX12_lockers_28 rfl (fun r M1 h => c_X12_readsBags _ _ _ _ _ h) (fun r7 M6 => ?_)
    refine v_istore_n (lv' := [(0, .ref x0), (1, .int x1), (2, .int r7)]) X 32 dX12_lockers_31 (by decide) rfl rfl ?_
    refine v_iload_n X 33 2 dX12_lockers_32 rfl rfl ?_
    refine v_ifge X 36 38 dX12_lockers_33 rfl rfl ?_ ?_
    · refine v_iconst X 39 dX12_lockers_38 ik_1 rfl ?_
      refine v_aload_n X 40 0 dX12_lockers_39 rfl rfl ?_
      refine v_getI X 43 fl_X12_464.r dX12_lockers_40 rfl (fun v8 => ?_)
      refine v_ishl X 44 dX12_lockers_43 rfl ?_
      refine v_iconst X 45 dX12_lockers_44 ik_1 rfl ?_
      refine v_isub X 46 dX12_lockers_45 rfl ?_
      refine v_bnI (fun y9 => ?_)
      refine v_istore_n (lv' := [(0, .ref x0), (1, .int x1), (2, .int r7), (3, .int y9)]) X 47 dX12_lockers_46 (by decide) rfl rfl ?_
      refine v_iconst X 48 dX12_lockers_47 ik_0 rfl ?_
      refine v_istore (lv' := [(0, .ref x0), (1, .int x1), (2, .int r7), (3, .int y9), (4, .int (0 : Int32))]) X 50 dX12_lockers_48 (by decide) rfl rfl ?_
      exact v_sb [0, 1, 3, 4] (L_X12_lockers_50 X Y 1024 _ _ _ _ _) rfl
    · refine v_iload_n X 37 2 dX12_lockers_36 rfl rfl ?_
      exact v_iret X Y (Nat.le_refl _) (Nat.le_refl _) dX12_lockers_37
  · refine v_bipush X 26 dX12_lockers_24 bk_m100 rfl ?_
    exact v_iret X Y (Nat.le_refl _) (Nat.le_refl _) dX12_lockers_26
theorem c_X12_lockers (l : Launch) (x0 : Nat) (x1 : Int32) (M : MM) (r : Int32) (M1 : MM) (h : f_X12_lockers x0 x1 M = some (r, M1)) : KV l yX12_lockers cX12_lockers 6 (some .int) (RM 104 0 0) false 12 x0 [.int x1] M (some (.int r)) M1 := by
  obtain ⟨hO, h2⟩ := iteO_some h
  exact ⟨hO, ct_of (tr := trI) (by decide) (Nat.le_of_ble_eq_true rfl) [(0, .ref x0), (1, .int x1)] rfl h2 (fun G X Y hn hl => L_X12_lockers_0 X Y x0 x1 M)⟩

def f_X12_sizeOf_31 (K4 : Nat → Int32 → Int32 → Int32 → MM → Option (Int32 × MM)) (x0 : Nat) (x1 : Int32) (x3 : Int32) (s0 : Int32) (s1 : Int32) (M : MM) : Option (Int32 × MM) :=
    bn (s1 + s0 : Int32) fun y1 =>
    bn (x3 + 1 : Int32) fun y2 =>
    K4 x0 x1 y1 y2 M

def f_X12_sizeOf_4 : Nat → Nat → Int32 → Int32 → Int32 → MM → Option (Int32 × MM)
  | 0, _, _, _, _, _ => none
  | n + 1, x0, x1, x2, x3, M =>
    b1 (gI 12 48 x0 M) fun v1 =>
    if v1 ≤ x3 then
      some (x2, M)
    else
      b2 (f_X12_has x1 x3 M) fun r3 M2 =>
      if r3 = 0 then
        f_X12_sizeOf_31 (f_X12_sizeOf_4 n) x0 x1 x3 (0 : Int32) x2 M2
      else
        b1 (gR 12 47 x0 M2) fun v4 =>
        b1 (ldI v4 x3 M2) fun v5 =>
        f_X12_sizeOf_31 (f_X12_sizeOf_4 n) x0 x1 x3 v5 x2 M2

def f_X12_sizeOf_0 (x0 : Nat) (x1 : Int32) (M : MM) : Option (Int32 × MM) :=
    f_X12_sizeOf_4 1024 x0 x1 (0 : Int32) (0 : Int32) M

def f_X12_sizeOf (x0 : Nat) (x1 : Int32) (M : MM) : Option (Int32 × MM) := if isO 12 x0 M = true then f_X12_sizeOf_0 x0 x1 M else none
set_option maxRecDepth 4000 in
theorem L_X12_sizeOf_31 {G : Gx} (X : Cb G cX12_sizeOf 4 RX12 (RM 2 0 0) false) (Y : Cr G (some .int) 0 0) {K4 : Nat → Int32 → Int32 → Int32 → MM → Option (Int32 × MM)} (hK4 : ∀ (x0 : Nat) (x1 : Int32) (x2 : Int32) (x3 : Int32) (M : MM), V G trI 4 0 0 4 [(0, .ref x0), (1, .int x1), (2, .int x2), (3, .int x3)] [] M (K4 x0 x1 x2 x3 M)) (x0 : Nat) (x1 : Int32) (x3 : Int32) (s0 : Int32) (s1 : Int32) (M : MM) : V G trI 4 0 0 31 [(0, .ref x0), (1, .int x1), (3, .int x3)] [.int s0, .int s1] M (f_X12_sizeOf_31 K4 x0 x1 x3 s0 s1 M) := by
  unfold f_X12_sizeOf_31
  refine v_iadd X 32 dX12_sizeOf_31 rfl ?_
  refine v_bnI (fun y1 => ?_)
  refine v_istore_n (lv' := [(0, .ref x0), (1, .int x1), (2, .int y1), (3, .int x3)]) X 33 dX12_sizeOf_32 (by decide) rfl rfl ?_
  refine v_iinc X 36 3 (fun z => [(0, .ref x0), (1, .int x1), (2, .int y1), (3, .int z)]) dX12_sizeOf_33 rfl ik_1 (by decide) (fun _ => rfl) rfl (fun y2 => ?_)
  refine v_goto X 4 dX12_sizeOf_36 rfl ?_
  exact hK4 _ _ _ _ _
set_option maxRecDepth 4000 in
theorem L_X12_sizeOf_4 {G : Gx} (X : Cb G cX12_sizeOf 4 RX12 (RM 2 0 0) false) (Y : Cr G (some .int) 0 0) : ∀ (n : Nat) (x0 : Nat) (x1 : Int32) (x2 : Int32) (x3 : Int32) (M : MM), V G trI 4 0 0 4 [(0, .ref x0), (1, .int x1), (2, .int x2), (3, .int x3)] [] M (f_X12_sizeOf_4 n x0 x1 x2 x3 M) := by
  intro n
  induction n with
  | zero => intro x0 x1 x2 x3 M; rw [f_X12_sizeOf_4]; exact v_none
  | succ n ih =>
    intro x0 x1 x2 x3 M
    rw [f_X12_sizeOf_4]
    refine v_iload_n X 5 3 dX12_sizeOf_4 rfl rfl ?_
    refine v_aload_n X 6 0 dX12_sizeOf_5 rfl rfl ?_
    refine v_getI X 9 fl_X12_464.r dX12_sizeOf_6 rfl (fun v1 => ?_)
    refine v_icge X 12 39 dX12_sizeOf_9 rfl rfl ?_ ?_
    · refine v_iload_n X 40 2 dX12_sizeOf_39 rfl rfl ?_
      exact v_iret X Y (Nat.le_refl _) (Nat.le_refl _) dX12_sizeOf_40
    · refine v_iload_n X 13 2 dX12_sizeOf_12 rfl rfl ?_
      refine v_iload_n X 14 1 dX12_sizeOf_13 rfl rfl ?_
      refine v_iload_n X 15 3 dX12_sizeOf_14 rfl rfl ?_
      refine v_sI X 18 cs_X12_has ml_X12_358 (n1 := 1) rfl [.int x1, .int x3] rfl rfl rfl dX12_sizeOf_15 rfl (fun r M1 h => c_X12_has _ _ _ _ _ _ h) (fun r3 M2 => ?_)
      refine v_ifeq X 21 30 dX12_sizeOf_18 rfl rfl ?_ ?_
      · refine v_iconst X 31 dX12_sizeOf_30 ik_0 rfl ?_
        exact v_sb [0, 1, 3] (L_X12_sizeOf_31 X Y ih _ _ _ _ _ _) rfl
      · refine v_aload_n X 22 0 dX12_sizeOf_21 rfl rfl ?_
        refine v_getR X 25 fl_X12_103.r dX12_sizeOf_22 rfl (fun v4 => ?_)
        refine v_iload_n X 26 3 dX12_sizeOf_25 rfl rfl ?_
        refine v_iald X 27 dX12_sizeOf_26 rfl (fun v5 => ?_)
        refine v_goto X 31 dX12_sizeOf_27 rfl ?_
        exact v_sb [0, 1, 3] (L_X12_sizeOf_31 X Y ih _ _ _ _ _ _) rfl
set_option maxRecDepth 4000 in
theorem L_X12_sizeOf_0 {G : Gx} (X : Cb G cX12_sizeOf 4 RX12 (RM 2 0 0) false) (Y : Cr G (some .int) 0 0) (x0 : Nat) (x1 : Int32) (M : MM) : V G trI 4 0 0 0 [(0, .ref x0), (1, .int x1)] [] M (f_X12_sizeOf_0 x0 x1 M) := by
  unfold f_X12_sizeOf_0
  refine v_iconst X 1 dX12_sizeOf_0 ik_0 rfl ?_
  refine v_istore_n (lv' := [(0, .ref x0), (1, .int x1), (2, .int (0 : Int32))]) X 2 dX12_sizeOf_1 (by decide) rfl rfl ?_
  refine v_iconst X 3 dX12_sizeOf_2 ik_0 rfl ?_
  refine v_istore_n (lv' := [(0, .ref x0), (1, .int x1), (2, .int (0 : Int32)), (3, .int (0 : Int32))]) X 4 dX12_sizeOf_3 (by decide) rfl rfl ?_
  exact L_X12_sizeOf_4 X Y 1024 _ _ _ _ _
theorem c_X12_sizeOf (l : Launch) (x0 : Nat) (x1 : Int32) (M : MM) (r : Int32) (M1 : MM) (h : f_X12_sizeOf x0 x1 M = some (r, M1)) : KV l yX12_sizeOf cX12_sizeOf 4 (some .int) (RM 2 0 0) false 12 x0 [.int x1] M (some (.int r)) M1 := by
  obtain ⟨hO, h2⟩ := iteO_some h
  exact ⟨hO, ct_of (tr := trI) (by decide) (Nat.le_of_ble_eq_true rfl) [(0, .ref x0), (1, .int x1)] rfl h2 (fun G X Y hn hl => L_X12_sizeOf_0 X Y x0 x1 M)⟩

def f_X12_left_141 (K66 : Nat → Int32 → Int32 → Int32 → Int32 → Int32 → MM → Option (Int32 × MM)) (x0 : Nat) (x1 : Int32) (x2 : Int32) (x4 : Int32) (x6 : Int32) (s0 : Int32) (M : MM) : Option (Int32 × MM) :=
    bn (x6 + 1 : Int32) fun y1 =>
    K66 x0 x1 x2 x4 s0 y1 M

def f_X12_left_139 (K66 : Nat → Int32 → Int32 → Int32 → Int32 → Int32 → MM → Option (Int32 × MM)) (x0 : Nat) (x1 : Int32) (x2 : Int32) (x4 : Int32) (x5 : Int32) (x6 : Int32) (M : MM) : Option (Int32 × MM) :=
    f_X12_left_141 K66 x0 x1 x2 x4 x6 x5 M

def f_X12_left_116 (K66 : Nat → Int32 → Int32 → Int32 → Int32 → Int32 → MM → Option (Int32 × MM)) (x0 : Nat) (x1 : Int32) (x2 : Int32) (x4 : Int32) (x5 : Int32) (x6 : Int32) (s0 : Int32) (M : MM) : Option (Int32 × MM) :=
    if s0 = 0 then
      f_X12_left_139 K66 x0 x1 x2 x4 x5 x6 M
    else
      b2 (f_X12_canPack x0 x1 x2 x6 M) fun r2 M1 =>
      if r2 = 0 then
        f_X12_left_139 K66 x0 x1 x2 x4 x5 x6 M1
      else
        f_X12_left_141 K66 x0 x1 x2 x4 x6 x6 M1

def f_X12_left_111 (K66 : Nat → Int32 → Int32 → Int32 → Int32 → Int32 → MM → Option (Int32 × MM)) (x0 : Nat) (x1 : Int32) (x2 : Int32) (x4 : Int32) (x5 : Int32) (x6 : Int32) (M : MM) : Option (Int32 × MM) :=
    f_X12_left_116 K66 x0 x1 x2 x4 x5 x6 (1 : Int32) M

def f_X12_left_115 (K66 : Nat → Int32 → Int32 → Int32 → Int32 → Int32 → MM → Option (Int32 × MM)) (x0 : Nat) (x1 : Int32) (x2 : Int32) (x4 : Int32) (x5 : Int32) (x6 : Int32) (M : MM) : Option (Int32 × MM) :=
    f_X12_left_116 K66 x0 x1 x2 x4 x5 x6 (0 : Int32) M

def f_X12_left_66 : Nat → Nat → Int32 → Int32 → Int32 → Int32 → Int32 → MM → Option (Int32 × MM)
  | 0, _, _, _, _, _, _, _ => none
  | n + 1, x0, x1, x2, x4, x5, x6, M =>
    if x4 < x6 then
      b1 (pI 12 1 x0 (0 : Int32) M) fun M1 =>
      b1 (f_X12_enters x0 (Int32.toInt64 x5) M1) fun M2 =>
      b2 (f_X12_sizeOf x0 x4 M2) fun r4 M3 =>
      b2 (f_X12_sizeOf x0 x5 M3) fun r6 M5 =>
      some (r4 - r6, M5)
    else
      b2 (f_X12_sizeOf x0 x6 M) fun r8 M7 =>
      b2 (f_X12_sizeOf x0 x5 M7) fun r10 M9 =>
      bn (r8 - r10 : Int32) fun y11 =>
      if 0 < y11 then
        f_X12_left_111 (f_X12_left_66 n) x0 x1 x2 x4 x5 x6 M9
      else
        if y11 = 0 then
          b2 (f_J6_bitCount_0f7a4 x6 M9) fun r13 M12 =>
          b2 (f_J6_bitCount_0f7a4 x5 M12) fun r15 M14 =>
          if r15 ≤ r13 then
            f_X12_left_115 (f_X12_left_66 n) x0 x1 x2 x4 x5 x6 M14
          else
            f_X12_left_111 (f_X12_left_66 n) x0 x1 x2 x4 x5 x6 M14
        else
          f_X12_left_115 (f_X12_left_66 n) x0 x1 x2 x4 x5 x6 M9

def f_X12_left_0 (x0 : Nat) (x1 : Int32) (x2 : Int32) (M : MM) : Option (Int32 × MM) :=
    b1 (pI 12 0 x0 (0 : Int32) M) fun M1 =>
    b2 (f_X12_begins x0 (80 : Int32) M1) fun r3 M2 =>
    b2 (f_X12_in (Int32.toInt64 x1) (0 : Int64) (4 : Int64) M2) fun r5 M4 =>
    if r5 = 0 then
      some ((-100 : Int32), M4)
    else
      b2 (f_X12_in (Int32.toInt64 x2) (1 : Int64) (20 : Int64) M4) fun r7 M6 =>
      if r7 = 0 then
        some ((-100 : Int32), M6)
      else
        b2 (f_X12_readsBags x0 M6) fun r9 M8 =>
        if 0 ≤ r9 then
          b1 (gI 12 48 x0 M8) fun v10 =>
          bn (((1 : Int32) <<< (v10 &&& 31)) - (1 : Int32) : Int32) fun y11 =>
          f_X12_left_66 1024 x0 x1 x2 y11 (0 : Int32) (1 : Int32) M8
        else
          some (r9, M8)

def f_X12_left (x0 : Nat) (x1 : Int32) (x2 : Int32) (M : MM) : Option (Int32 × MM) := if isO 12 x0 M = true then f_X12_left_0 x0 x1 x2 M else none
set_option maxRecDepth 4000 in
theorem L_X12_left_141 {G : Gx} (X : Cb G cX12_left 9 RX12 (RM 104 0 0) false) (Y : Cr G (some .int) 0 0) {K66 : Nat → Int32 → Int32 → Int32 → Int32 → Int32 → MM → Option (Int32 × MM)} (hK66 : ∀ (x0 : Nat) (x1 : Int32) (x2 : Int32) (x4 : Int32) (x5 : Int32) (x6 : Int32) (M : MM), V G trI 9 0 0 66 [(0, .ref x0), (1, .int x1), (2, .int x2), (4, .int x4), (5, .int x5), (6, .int x6)] [] M (K66 x0 x1 x2 x4 x5 x6 M)) (x0 : Nat) (x1 : Int32) (x2 : Int32) (x4 : Int32) (x6 : Int32) (s0 : Int32) (M : MM) : V G trI 9 0 0 141 [(0, .ref x0), (1, .int x1), (2, .int x2), (4, .int x4), (6, .int x6)] [.int s0] M (f_X12_left_141 K66 x0 x1 x2 x4 x6 s0 M) := by
  unfold f_X12_left_141
  refine v_istore (lv' := [(0, .ref x0), (1, .int x1), (2, .int x2), (4, .int x4), (5, .int s0), (6, .int x6)]) X 143 dX12_left_141 (by decide) rfl rfl ?_
  refine v_iinc X 146 5 (fun z => [(0, .ref x0), (1, .int x1), (2, .int x2), (4, .int x4), (5, .int s0), (6, .int z)]) dX12_left_143 rfl ik_1 (by decide) (fun _ => rfl) rfl (fun y1 => ?_)
  refine v_goto X 66 dX12_left_146 rfl ?_
  exact hK66 _ _ _ _ _ _ _
set_option maxRecDepth 4000 in
theorem L_X12_left_139 {G : Gx} (X : Cb G cX12_left 9 RX12 (RM 104 0 0) false) (Y : Cr G (some .int) 0 0) {K66 : Nat → Int32 → Int32 → Int32 → Int32 → Int32 → MM → Option (Int32 × MM)} (hK66 : ∀ (x0 : Nat) (x1 : Int32) (x2 : Int32) (x4 : Int32) (x5 : Int32) (x6 : Int32) (M : MM), V G trI 9 0 0 66 [(0, .ref x0), (1, .int x1), (2, .int x2), (4, .int x4), (5, .int x5), (6, .int x6)] [] M (K66 x0 x1 x2 x4 x5 x6 M)) (x0 : Nat) (x1 : Int32) (x2 : Int32) (x4 : Int32) (x5 : Int32) (x6 : Int32) (M : MM) : V G trI 9 0 0 139 [(0, .ref x0), (1, .int x1), (2, .int x2), (4, .int x4), (5, .int x5), (6, .int x6)] [] M (f_X12_left_139 K66 x0 x1 x2 x4 x5 x6 M) := by
  unfold f_X12_left_139
  refine v_iload X 141 4 dX12_left_139 rfl rfl ?_
  exact v_sb [0, 1, 2, 3, 5] (L_X12_left_141 X Y hK66 _ _ _ _ _ _ _) rfl
set_option maxRecDepth 4000 in
theorem L_X12_left_116 {G : Gx} (X : Cb G cX12_left 9 RX12 (RM 104 0 0) false) (Y : Cr G (some .int) 0 0) {K66 : Nat → Int32 → Int32 → Int32 → Int32 → Int32 → MM → Option (Int32 × MM)} (hK66 : ∀ (x0 : Nat) (x1 : Int32) (x2 : Int32) (x4 : Int32) (x5 : Int32) (x6 : Int32) (M : MM), V G trI 9 0 0 66 [(0, .ref x0), (1, .int x1), (2, .int x2), (4, .int x4), (5, .int x5), (6, .int x6)] [] M (K66 x0 x1 x2 x4 x5 x6 M)) (x0 : Nat) (x1 : Int32) (x2 : Int32) (x4 : Int32) (x5 : Int32) (x6 : Int32) (s0 : Int32) (M : MM) : V G trI 9 0 0 116 [(0, .ref x0), (1, .int x1), (2, .int x2), (4, .int x4), (5, .int x5), (6, .int x6)] [.int s0] M (f_X12_left_116 K66 x0 x1 x2 x4 x5 x6 s0 M) := by
  unfold f_X12_left_116
  refine v_istore (lv' := [(0, .ref x0), (1, .int x1), (2, .int x2), (4, .int x4), (5, .int x5), (6, .int x6), (8, .int s0)]) X 118 dX12_left_116 (by decide) rfl rfl ?_
  refine v_iload X 120 6 dX12_left_118 rfl rfl ?_
  refine v_ifeq X 123 139 dX12_left_120 rfl rfl ?_ ?_
  · exact v_sb [0, 1, 2, 3, 4, 5] (L_X12_left_139 X Y hK66 _ _ _ _ _ _ _) rfl
  · refine v_aload_n X 124 0 dX12_left_123 rfl rfl ?_
    refine v_iload_n X 125 1 dX12_left_124 rfl rfl ?_
    refine v_iload_n X 126 2 dX12_left_125 rfl rfl ?_
    refine v_iload X 128 5 dX12_left_126 rfl rfl ?_
    refine v_vI X 131 cv_X12_canPack ml_X12_478 (n1 := 103) rfl [.int x1, .int x2, .int x6] rfl rfl rfl dX12_left_128 rfl (fun r M1 h => c_X12_canPack _ _ _ _ _ _ _ _ h) (fun r2 M1 => ?_)
    refine v_ifeq X 134 139 dX12_left_131 rfl rfl ?_ ?_
    · exact v_sb [0, 1, 2, 3, 4, 5] (L_X12_left_139 X Y hK66 _ _ _ _ _ _ _) rfl
    · refine v_iload X 136 5 dX12_left_134 rfl rfl ?_
      refine v_goto X 141 dX12_left_136 rfl ?_
      exact v_sb [0, 1, 2, 3, 5] (L_X12_left_141 X Y hK66 _ _ _ _ _ _ _) rfl
set_option maxRecDepth 4000 in
theorem L_X12_left_111 {G : Gx} (X : Cb G cX12_left 9 RX12 (RM 104 0 0) false) (Y : Cr G (some .int) 0 0) {K66 : Nat → Int32 → Int32 → Int32 → Int32 → Int32 → MM → Option (Int32 × MM)} (hK66 : ∀ (x0 : Nat) (x1 : Int32) (x2 : Int32) (x4 : Int32) (x5 : Int32) (x6 : Int32) (M : MM), V G trI 9 0 0 66 [(0, .ref x0), (1, .int x1), (2, .int x2), (4, .int x4), (5, .int x5), (6, .int x6)] [] M (K66 x0 x1 x2 x4 x5 x6 M)) (x0 : Nat) (x1 : Int32) (x2 : Int32) (x4 : Int32) (x5 : Int32) (x6 : Int32) (M : MM) : V G trI 9 0 0 111 [(0, .ref x0), (1, .int x1), (2, .int x2), (4, .int x4), (5, .int x5), (6, .int x6)] [] M (f_X12_left_111 K66 x0 x1 x2 x4 x5 x6 M) := by
  unfold f_X12_left_111
  refine v_iconst X 112 dX12_left_111 ik_1 rfl ?_
  refine v_goto X 116 dX12_left_112 rfl ?_
  exact L_X12_left_116 X Y hK66 _ _ _ _ _ _ _ _
set_option maxRecDepth 4000 in
theorem L_X12_left_115 {G : Gx} (X : Cb G cX12_left 9 RX12 (RM 104 0 0) false) (Y : Cr G (some .int) 0 0) {K66 : Nat → Int32 → Int32 → Int32 → Int32 → Int32 → MM → Option (Int32 × MM)} (hK66 : ∀ (x0 : Nat) (x1 : Int32) (x2 : Int32) (x4 : Int32) (x5 : Int32) (x6 : Int32) (M : MM), V G trI 9 0 0 66 [(0, .ref x0), (1, .int x1), (2, .int x2), (4, .int x4), (5, .int x5), (6, .int x6)] [] M (K66 x0 x1 x2 x4 x5 x6 M)) (x0 : Nat) (x1 : Int32) (x2 : Int32) (x4 : Int32) (x5 : Int32) (x6 : Int32) (M : MM) : V G trI 9 0 0 115 [(0, .ref x0), (1, .int x1), (2, .int x2), (4, .int x4), (5, .int x5), (6, .int x6)] [] M (f_X12_left_115 K66 x0 x1 x2 x4 x5 x6 M) := by
  unfold f_X12_left_115
  refine v_iconst X 116 dX12_left_115 ik_0 rfl ?_
  exact L_X12_left_116 X Y hK66 _ _ _ _ _ _ _ _
set_option maxRecDepth 4000 in
theorem L_X12_left_66 {G : Gx} (X : Cb G cX12_left 9 RX12 (RM 104 0 0) false) (Y : Cr G (some .int) 0 0) : ∀ (n : Nat) (x0 : Nat) (x1 : Int32) (x2 : Int32) (x4 : Int32) (x5 : Int32) (x6 : Int32) (M : MM), V G trI 9 0 0 66 [(0, .ref x0), (1, .int x1), (2, .int x2), (4, .int x4), (5, .int x5), (6, .int x6)] [] M (f_X12_left_66 n x0 x1 x2 x4 x5 x6 M) := by
  intro n
  induction n with
  | zero => intro x0 x1 x2 x4 x5 x6 M; rw [f_X12_left_66]; exact v_none
  | succ n ih =>
    intro x0 x1 x2 x4 x5 x6 M
    rw [f_X12_left_66]
    refine v_iload X 68 5 dX12_left_66 rfl rfl ?_
    refine v_iload X 70 3 dX12_left_68 rfl rfl ?_
    refine v_icgt X 73 149 dX12_left_70 rfl rfl ?_ ?_
    · refine v_aload_n X 150 0 dX12_left_149 rfl rfl ?_
      refine v_iconst X 151 dX12_left_150 ik_0 rfl ?_
      refine v_putI X 154 fl_X12_140 nof dX12_left_151 rfl (fun M1 => ?_)
      refine v_aload_n X 155 0 dX12_left_154 rfl rfl ?_
      refine v_iload X 157 4 dX12_left_155 rfl rfl ?_
      refine v_i2l X 158 dX12_left_157 rfl ?_
      refine v_vV X 161 cv_X12_enters ml_X12_414 (n1 := 1) rfl [.long (Int32.toInt64 x5)] rfl rfl rfl dX12_left_158 rfl (fun M1 h => c_X12_enters _ _ _ _ _ h) (fun M2 => ?_)
      refine v_aload_n X 162 0 dX12_left_161 rfl rfl ?_
      refine v_iload X 164 3 dX12_left_162 rfl rfl ?_
      refine v_vI X 167 cv_X12_sizeOf ml_X12_483 (n1 := 2) rfl [.int x4] rfl rfl rfl dX12_left_164 rfl (fun r M1 h => c_X12_sizeOf _ _ _ _ _ _ h) (fun r4 M3 => ?_)
      refine v_aload_n X 168 0 dX12_left_167 rfl rfl ?_
      refine v_iload X 170 4 dX12_left_168 rfl rfl ?_
      refine v_vI X 173 cv_X12_sizeOf ml_X12_483 (n1 := 2) rfl [.int x5] rfl rfl rfl dX12_left_170 rfl (fun r M1 h => c_X12_sizeOf _ _ _ _ _ _ h) (fun r6 M5 => ?_)
      refine v_isub X 174 dX12_left_173 rfl ?_
      exact v_iret X Y (Nat.le_refl _) (Nat.le_refl _) dX12_left_174
    · refine v_aload_n X 74 0 dX12_left_73 rfl rfl ?_
      refine v_iload X 76 5 dX12_left_74 rfl rfl ?_
      refine v_vI X 79 cv_X12_sizeOf ml_X12_483 (n1 := 2) rfl [.int x6] rfl rfl rfl dX12_left_76 rfl (fun r M1 h => c_X12_sizeOf _ _ _ _ _ _ h) (fun r8 M7 => ?_)
      refine v_aload_n X 80 0 dX12_left_79 rfl rfl ?_
      refine v_iload X 82 4 dX12_left_80 rfl rfl ?_
      refine v_vI X 85 cv_X12_sizeOf ml_X12_483 (n1 := 2) rfl [.int x5] rfl rfl rfl dX12_left_82 rfl (fun r M1 h => c_X12_sizeOf _ _ _ _ _ _ h) (fun r10 M9 => ?_)
      refine v_isub X 86 dX12_left_85 rfl ?_
      refine v_bnI (fun y11 => ?_)
      refine v_istore (lv' := [(0, .ref x0), (1, .int x1), (2, .int x2), (4, .int x4), (5, .int x5), (6, .int x6), (7, .int y11)]) X 88 dX12_left_86 (by decide) rfl rfl ?_
      refine v_iload X 90 6 dX12_left_88 rfl rfl ?_
      refine v_ifgt X 93 111 dX12_left_90 rfl rfl ?_ ?_
      · exact v_sb [0, 1, 2, 3, 4, 5] (L_X12_left_111 X Y ih _ _ _ _ _ _ _) rfl
      · refine v_iload X 95 6 dX12_left_93 rfl rfl ?_
        refine v_ifne X 98 115 dX12_left_95 rfl rfl ?_ ?_
        · exact v_sb [0, 1, 2, 3, 4, 5] (L_X12_left_115 X Y ih _ _ _ _ _ _ _) rfl
        · refine v_iload X 100 5 dX12_left_98 rfl rfl ?_
          refine v_sI X 103 cs_J6_bitCount_0f7a4 ml_X12_428 (n1 := 1) rfl [.int x6] rfl rfl rfl dX12_left_100 rfl (fun r M1 h => c_J6_bitCount_0f7a4 _ _ _ _ _ h) (fun r13 M12 => ?_)
          refine v_iload X 105 4 dX12_left_103 rfl rfl ?_
          refine v_sI X 108 cs_J6_bitCount_0f7a4 ml_X12_428 (n1 := 1) rfl [.int x5] rfl rfl rfl dX12_left_105 rfl (fun r M1 h => c_J6_bitCount_0f7a4 _ _ _ _ _ h) (fun r15 M14 => ?_)
          refine v_icge X 111 115 dX12_left_108 rfl rfl ?_ ?_
          · exact v_sb [0, 1, 2, 3, 4, 5] (L_X12_left_115 X Y ih _ _ _ _ _ _ _) rfl
          · exact v_sb [0, 1, 2, 3, 4, 5] (L_X12_left_111 X Y ih _ _ _ _ _ _ _) rfl
set_option maxRecDepth 4000 in
theorem L_X12_left_0 {G : Gx} (X : Cb G cX12_left 9 RX12 (RM 104 0 0) false) (Y : Cr G (some .int) 0 0) (x0 : Nat) (x1 : Int32) (x2 : Int32) (M : MM) : V G trI 9 0 0 0 [(0, .ref x0), (1, .int x1), (2, .int x2)] [] M (f_X12_left_0 x0 x1 x2 M) := by
  unfold f_X12_left_0
  refine v_aload_n X 1 0 dX12_left_0 rfl rfl ?_
  refine v_iconst X 2 dX12_left_1 ik_0 rfl ?_
  refine v_putI X 5 fl_X12_133 nof dX12_left_2 rfl (fun M1 => ?_)
  refine v_aload_n X 6 0 dX12_left_5 rfl rfl ?_
  refine v_bipush X 8 dX12_left_6 bk_80 rfl ?_
  refine v_vI X 11 cv_X12_begins ml_X12_231 (n1 := 2) rfl [.int (80 : Int32)] rfl rfl rfl dX12_left_8 rfl (fun r M1 h => c_X12_begins _ _ _ _ _ _ h) (fun r3 M2 => ?_)
  refine v_pop X 12 dX12_left_11 rfl rfl ?_
  refine v_iload_n X 13 1 dX12_left_12 rfl rfl ?_
  refine v_i2l X 14 dX12_left_13 rfl ?_
  refine v_lconst X 15 dX12_left_14 lk_0 rfl ?_
  refine v_ldc2 X 18 dX12_left_15 kl_X12_481 rfl ?_
  refine v_sI X 21 cs_X12_in ml_X12_146 (n1 := 1) rfl [.long (Int32.toInt64 x1), .long (0 : Int64), .long (4 : Int64)] rfl rfl rfl dX12_left_18 rfl (fun r M1 h => c_X12_in _ _ _ _ _ _ _ h) (fun r5 M4 => ?_)
  refine v_ifeq X 24 36 dX12_left_21 rfl rfl ?_ ?_
  · refine v_bipush X 38 dX12_left_36 bk_m100 rfl ?_
    exact v_iret X Y (Nat.le_refl _) (Nat.le_refl _) dX12_left_38
  · refine v_iload_n X 25 2 dX12_left_24 rfl rfl ?_
    refine v_i2l X 26 dX12_left_25 rfl ?_
    refine v_lconst X 27 dX12_left_26 lk_1 rfl ?_
    refine v_ldc2 X 30 dX12_left_27 kl_X12_473 rfl ?_
    refine v_sI X 33 cs_X12_in ml_X12_146 (n1 := 1) rfl [.long (Int32.toInt64 x2), .long (1 : Int64), .long (20 : Int64)] rfl rfl rfl dX12_left_30 rfl (fun r M1 h => c_X12_in _ _ _ _ _ _ _ h) (fun r7 M6 => ?_)
    refine v_ifne X 36 39 dX12_left_33 rfl rfl ?_ ?_
    · refine v_aload_n X 40 0 dX12_left_39 rfl rfl ?_
      refine v_vI X 43 cv_X12_readsBags ml_X12_475 (n1 := 4) rfl [] rfl rfl rfl dX12_left_40 rfl (fun r M1 h => c_X12_readsBags _ _ _ _ _ h) (fun r9 M8 => ?_)
      refine v_istore_n (lv' := [(0, .ref x0), (1, .int x1), (2, .int x2), (3, .int r9)]) X 44 dX12_left_43 (by decide) rfl rfl ?_
      refine v_iload_n X 45 3 dX12_left_44 rfl rfl ?_
      refine v_ifge X 48 50 dX12_left_45 rfl rfl ?_ ?_
      · refine v_iconst X 51 dX12_left_50 ik_1 rfl ?_
        refine v_aload_n X 52 0 dX12_left_51 rfl rfl ?_
        refine v_getI X 55 fl_X12_464.r dX12_left_52 rfl (fun v10 => ?_)
        refine v_ishl X 56 dX12_left_55 rfl ?_
        refine v_iconst X 57 dX12_left_56 ik_1 rfl ?_
        refine v_isub X 58 dX12_left_57 rfl ?_
        refine v_bnI (fun y11 => ?_)
        refine v_istore (lv' := [(0, .ref x0), (1, .int x1), (2, .int x2), (3, .int r9), (4, .int y11)]) X 60 dX12_left_58 (by decide) rfl rfl ?_
        refine v_iconst X 61 dX12_left_60 ik_0 rfl ?_
        refine v_istore (lv' := [(0, .ref x0), (1, .int x1), (2, .int x2), (3, .int r9), (4, .int y11), (5, .int (0 : Int32))]) X 63 dX12_left_61 (by decide) rfl rfl ?_
        refine v_iconst X 64 dX12_left_63 ik_1 rfl ?_
        refine v_istore (lv' := [(0, .ref x0), (1, .int x1), (2, .int x2), (3, .int r9), (4, .int y11), (5, .int (0 : Int32)), (6, .int (1 : Int32))]) X 66 dX12_left_64 (by decide) rfl rfl ?_
        exact v_sb [0, 1, 2, 4, 5, 6] (L_X12_left_66 X Y 1024 _ _ _ _ _ _ _) rfl
      · refine v_iload_n X 49 3 dX12_left_48 rfl rfl ?_
        exact v_iret X Y (Nat.le_refl _) (Nat.le_refl _) dX12_left_49
    · refine v_bipush X 38 dX12_left_36 bk_m100 rfl ?_
      exact v_iret X Y (Nat.le_refl _) (Nat.le_refl _) dX12_left_38
theorem c_X12_left (l : Launch) (x0 : Nat) (x1 : Int32) (x2 : Int32) (M : MM) (r : Int32) (M1 : MM) (h : f_X12_left x0 x1 x2 M = some (r, M1)) : KV l yX12_left cX12_left 9 (some .int) (RM 104 0 0) false 12 x0 [.int x1, .int x2] M (some (.int r)) M1 := by
  obtain ⟨hO, h2⟩ := iteO_some h
  exact ⟨hO, ct_of (tr := trI) (by decide) (Nat.le_of_ble_eq_true rfl) [(0, .ref x0), (1, .int x1), (2, .int x2)] rfl h2 (fun G X Y hn hl => L_X12_left_0 X Y x0 x1 x2 M)⟩

def f_X12_slackOf_81 (K20 : Nat → Int32 → Int32 → Int32 → Int32 → MM → Option (Int32 × MM)) (x0 : Nat) (x1 : Int32) (x2 : Int32) (x3 : Int32) (x4 : Int32) (M : MM) : Option (Int32 × MM) :=
    bn (x4 + 1 : Int32) fun y1 =>
    K20 x0 x1 x2 x3 y1 M

def f_X12_slackOf_20 : Nat → Nat → Int32 → Int32 → Int32 → Int32 → MM → Option (Int32 × MM)
  | 0, _, _, _, _, _, _ => none
  | n + 1, x0, x1, x2, x3, x4, M =>
    b1 (gR 12 15 x0 M) fun v1 =>
    b1 (ldI v1 (45 : Int32) M) fun v2 =>
    if v2 ≤ x4 then
      some (x3, M)
    else
      b1 (gR 12 15 x0 M) fun v3 =>
      b2 (f_X12_who v3 x4 M) fun r5 M4 =>
      b1 (gR 12 15 x0 M4) fun v6 =>
      b2 (f_X12_who v6 x1 M4) fun r8 M7 =>
      if r5 = r8 then
        b1 (gR 12 15 x0 M7) fun v9 =>
        b2 (f_X12_start v9 x4 M7) fun r11 M10 =>
        if r11 < x2 then
          f_X12_slackOf_81 (f_X12_slackOf_20 n) x0 x1 x2 x3 x4 M10
        else
          b1 (gR 12 15 x0 M10) fun v12 =>
          b2 (f_X12_start v12 x4 M10) fun r14 M13 =>
          bn (minI x3 (r14 - x2) : Int32) fun y15 =>
          f_X12_slackOf_81 (f_X12_slackOf_20 n) x0 x1 x2 y15 x4 M13
      else
        f_X12_slackOf_81 (f_X12_slackOf_20 n) x0 x1 x2 x3 x4 M7

def f_X12_slackOf_0 (x0 : Nat) (x1 : Int32) (M : MM) : Option (Int32 × MM) :=
    b1 (gR 12 15 x0 M) fun v1 =>
    b2 (f_X12_back x0 v1 x1 M) fun r3 M2 =>
    b1 (gI 12 6 x0 M2) fun v4 =>
    bn (v4 - r3 : Int32) fun y5 =>
    f_X12_slackOf_20 1024 x0 x1 r3 y5 (0 : Int32) M2

def f_X12_slackOf (x0 : Nat) (x1 : Int32) (M : MM) : Option (Int32 × MM) := if isO 12 x0 M = true then f_X12_slackOf_0 x0 x1 M else none
set_option maxRecDepth 4000 in
theorem L_X12_slackOf_81 {G : Gx} (X : Cb G cX12_slackOf 5 RX12 (RM 3 0 0) false) (Y : Cr G (some .int) 0 0) {K20 : Nat → Int32 → Int32 → Int32 → Int32 → MM → Option (Int32 × MM)} (hK20 : ∀ (x0 : Nat) (x1 : Int32) (x2 : Int32) (x3 : Int32) (x4 : Int32) (M : MM), V G trI 5 0 0 20 [(0, .ref x0), (1, .int x1), (2, .int x2), (3, .int x3), (4, .int x4)] [] M (K20 x0 x1 x2 x3 x4 M)) (x0 : Nat) (x1 : Int32) (x2 : Int32) (x3 : Int32) (x4 : Int32) (M : MM) : V G trI 5 0 0 81 [(0, .ref x0), (1, .int x1), (2, .int x2), (3, .int x3), (4, .int x4)] [] M (f_X12_slackOf_81 K20 x0 x1 x2 x3 x4 M) := by
  unfold f_X12_slackOf_81
  refine v_iinc X 84 4 (fun z => [(0, .ref x0), (1, .int x1), (2, .int x2), (3, .int x3), (4, .int z)]) dX12_slackOf_81 rfl ik_1 (by decide) (fun _ => rfl) rfl (fun y1 => ?_)
  refine v_goto X 20 dX12_slackOf_84 rfl ?_
  exact hK20 _ _ _ _ _ _
set_option maxRecDepth 4000 in
theorem L_X12_slackOf_20 {G : Gx} (X : Cb G cX12_slackOf 5 RX12 (RM 3 0 0) false) (Y : Cr G (some .int) 0 0) : ∀ (n : Nat) (x0 : Nat) (x1 : Int32) (x2 : Int32) (x3 : Int32) (x4 : Int32) (M : MM), V G trI 5 0 0 20 [(0, .ref x0), (1, .int x1), (2, .int x2), (3, .int x3), (4, .int x4)] [] M (f_X12_slackOf_20 n x0 x1 x2 x3 x4 M) := by
  intro n
  induction n with
  | zero => intro x0 x1 x2 x3 x4 M; rw [f_X12_slackOf_20]; exact v_none
  | succ n ih =>
    intro x0 x1 x2 x3 x4 M
    rw [f_X12_slackOf_20]
    refine v_iload X 22 4 dX12_slackOf_20 rfl rfl ?_
    refine v_aload_n X 23 0 dX12_slackOf_22 rfl rfl ?_
    refine v_getR X 26 fl_X12_43.r dX12_slackOf_23 rfl (fun v1 => ?_)
    refine v_bipush X 28 dX12_slackOf_26 bk_45 rfl ?_
    refine v_iald X 29 dX12_slackOf_28 rfl (fun v2 => ?_)
    refine v_icge X 32 87 dX12_slackOf_29 rfl rfl ?_ ?_
    · refine v_iload_n X 88 3 dX12_slackOf_87 rfl rfl ?_
      exact v_iret X Y (Nat.le_refl _) (Nat.le_refl _) dX12_slackOf_88
    · refine v_aload_n X 33 0 dX12_slackOf_32 rfl rfl ?_
      refine v_getR X 36 fl_X12_43.r dX12_slackOf_33 rfl (fun v3 => ?_)
      refine v_iload X 38 4 dX12_slackOf_36 rfl rfl ?_
      refine v_sI X 41 cs_X12_who ml_X12_293 (n1 := 1) rfl [.ref v3, .int x4] rfl rfl rfl dX12_slackOf_38 rfl (fun r M1 h => c_X12_who _ _ _ _ _ _ h) (fun r5 M4 => ?_)
      refine v_aload_n X 42 0 dX12_slackOf_41 rfl rfl ?_
      refine v_getR X 45 fl_X12_43.r dX12_slackOf_42 rfl (fun v6 => ?_)
      refine v_iload_n X 46 1 dX12_slackOf_45 rfl rfl ?_
      refine v_sI X 49 cs_X12_who ml_X12_293 (n1 := 1) rfl [.ref v6, .int x1] rfl rfl rfl dX12_slackOf_46 rfl (fun r M1 h => c_X12_who _ _ _ _ _ _ h) (fun r8 M7 => ?_)
      refine v_icne X 52 81 dX12_slackOf_49 rfl rfl ?_ ?_
      · exact L_X12_slackOf_81 X Y ih _ _ _ _ _ _
      · refine v_aload_n X 53 0 dX12_slackOf_52 rfl rfl ?_
        refine v_getR X 56 fl_X12_43.r dX12_slackOf_53 rfl (fun v9 => ?_)
        refine v_iload X 58 4 dX12_slackOf_56 rfl rfl ?_
        refine v_sI X 61 cs_X12_start ml_X12_274 (n1 := 1) rfl [.ref v9, .int x4] rfl rfl rfl dX12_slackOf_58 rfl (fun r M1 h => c_X12_start _ _ _ _ _ _ h) (fun r11 M10 => ?_)
        refine v_iload_n X 62 2 dX12_slackOf_61 rfl rfl ?_
        refine v_iclt X 65 81 dX12_slackOf_62 rfl rfl ?_ ?_
        · exact L_X12_slackOf_81 X Y ih _ _ _ _ _ _
        · refine v_iload_n X 66 3 dX12_slackOf_65 rfl rfl ?_
          refine v_aload_n X 67 0 dX12_slackOf_66 rfl rfl ?_
          refine v_getR X 70 fl_X12_43.r dX12_slackOf_67 rfl (fun v12 => ?_)
          refine v_iload X 72 4 dX12_slackOf_70 rfl rfl ?_
          refine v_sI X 75 cs_X12_start ml_X12_274 (n1 := 1) rfl [.ref v12, .int x4] rfl rfl rfl dX12_slackOf_72 rfl (fun r M1 h => c_X12_start _ _ _ _ _ _ h) (fun r14 M13 => ?_)
          refine v_iload_n X 76 2 dX12_slackOf_75 rfl rfl ?_
          refine v_isub X 77 dX12_slackOf_76 rfl ?_
          refine v_min X 80 ml_X12_162 w_min (Nat.le_of_ble_eq_true rfl) (Nat.le_of_ble_eq_true rfl) (Nat.zero_le _) (Nat.zero_le _) dX12_slackOf_77 rfl ?_
          refine v_bnI (fun y15 => ?_)
          refine v_istore_n (lv' := [(0, .ref x0), (1, .int x1), (2, .int x2), (3, .int y15), (4, .int x4)]) X 81 dX12_slackOf_80 (by decide) rfl rfl ?_
          exact L_X12_slackOf_81 X Y ih _ _ _ _ _ _
set_option maxRecDepth 4000 in
theorem L_X12_slackOf_0 {G : Gx} (X : Cb G cX12_slackOf 5 RX12 (RM 3 0 0) false) (Y : Cr G (some .int) 0 0) (x0 : Nat) (x1 : Int32) (M : MM) : V G trI 5 0 0 0 [(0, .ref x0), (1, .int x1)] [] M (f_X12_slackOf_0 x0 x1 M) := by
  unfold f_X12_slackOf_0
  refine v_aload_n X 1 0 dX12_slackOf_0 rfl rfl ?_
  refine v_aload_n X 2 0 dX12_slackOf_1 rfl rfl ?_
  refine v_getR X 5 fl_X12_43.r dX12_slackOf_2 rfl (fun v1 => ?_)
  refine v_iload_n X 6 1 dX12_slackOf_5 rfl rfl ?_
  refine v_vI X 9 cv_X12_back ml_X12_284 (n1 := 2) rfl [.ref v1, .int x1] rfl rfl rfl dX12_slackOf_6 rfl (fun r M1 h => c_X12_back _ _ _ _ _ _ _ h) (fun r3 M2 => ?_)
  refine v_istore_n (lv' := [(0, .ref x0), (1, .int x1), (2, .int r3)]) X 10 dX12_slackOf_9 (by decide) rfl rfl ?_
  refine v_aload_n X 11 0 dX12_slackOf_10 rfl rfl ?_
  refine v_getI X 14 fl_X12_13.r dX12_slackOf_11 rfl (fun v4 => ?_)
  refine v_iload_n X 15 2 dX12_slackOf_14 rfl rfl ?_
  refine v_isub X 16 dX12_slackOf_15 rfl ?_
  refine v_bnI (fun y5 => ?_)
  refine v_istore_n (lv' := [(0, .ref x0), (1, .int x1), (2, .int r3), (3, .int y5)]) X 17 dX12_slackOf_16 (by decide) rfl rfl ?_
  refine v_iconst X 18 dX12_slackOf_17 ik_0 rfl ?_
  refine v_istore (lv' := [(0, .ref x0), (1, .int x1), (2, .int r3), (3, .int y5), (4, .int (0 : Int32))]) X 20 dX12_slackOf_18 (by decide) rfl rfl ?_
  exact L_X12_slackOf_20 X Y 1024 _ _ _ _ _ _
theorem c_X12_slackOf (l : Launch) (x0 : Nat) (x1 : Int32) (M : MM) (r : Int32) (M1 : MM) (h : f_X12_slackOf x0 x1 M = some (r, M1)) : KV l yX12_slackOf cX12_slackOf 5 (some .int) (RM 3 0 0) false 12 x0 [.int x1] M (some (.int r)) M1 := by
  obtain ⟨hO, h2⟩ := iteO_some h
  exact ⟨hO, ct_of (tr := trI) (by decide) (Nat.le_of_ble_eq_true rfl) [(0, .ref x0), (1, .int x1)] rfl h2 (fun G X Y hn hl => L_X12_slackOf_0 X Y x0 x1 M)⟩

def f_X12_isLawful_0 (x0 : Nat) (x1 : Int32) (M : MM) : Option (Int32 × MM) :=
    b1 (gR 12 15 x0 M) fun v1 =>
    b2 (f_X12_whyNot x0 v1 x1 M) fun r3 M2 =>
    if r3 = 0 then
      rz (1 : Int32) M2
    else
      rz (0 : Int32) M2

def f_X12_isLawful (x0 : Nat) (x1 : Int32) (M : MM) : Option (Int32 × MM) := if isO 12 x0 M = true then f_X12_isLawful_0 x0 x1 M else none
set_option maxRecDepth 4000 in
theorem L_X12_isLawful_0 {G : Gx} (X : Cb G cX12_isLawful 2 RX12 (RM 5 0 0) false) (Y : Cr G (some .boolean) 0 0) (x0 : Nat) (x1 : Int32) (M : MM) : V G trI 2 0 0 0 [(0, .ref x0), (1, .int x1)] [] M (f_X12_isLawful_0 x0 x1 M) := by
  unfold f_X12_isLawful_0
  refine v_aload_n X 1 0 dX12_isLawful_0 rfl rfl ?_
  refine v_aload_n X 2 0 dX12_isLawful_1 rfl rfl ?_
  refine v_getR X 5 fl_X12_43.r dX12_isLawful_2 rfl (fun v1 => ?_)
  refine v_iload_n X 6 1 dX12_isLawful_5 rfl rfl ?_
  refine v_vI X 9 cv_X12_whyNot ml_X12_369 (n1 := 4) rfl [.ref v1, .int x1] rfl rfl rfl dX12_isLawful_6 rfl (fun r M1 h => c_X12_whyNot _ _ _ _ _ _ _ h) (fun r3 M2 => ?_)
  refine v_ifne X 12 16 dX12_isLawful_9 rfl rfl ?_ ?_
  · refine v_iconst X 17 dX12_isLawful_16 ik_0 rfl ?_
    exact v_zret X Y (Nat.le_refl _) (Nat.le_refl _) dX12_isLawful_17
  · refine v_iconst X 13 dX12_isLawful_12 ik_1 rfl ?_
    refine v_goto X 17 dX12_isLawful_13 rfl ?_
    exact v_zret X Y (Nat.le_refl _) (Nat.le_refl _) dX12_isLawful_17
theorem c_X12_isLawful (l : Launch) (x0 : Nat) (x1 : Int32) (M : MM) (r : Int32) (M1 : MM) (h : f_X12_isLawful x0 x1 M = some (r, M1)) : KV l yX12_isLawful cX12_isLawful 2 (some .boolean) (RM 5 0 0) false 12 x0 [.int x1] M (some (.int r)) M1 := by
  obtain ⟨hO, h2⟩ := iteO_some h
  exact ⟨hO, ct_of (tr := trI) (by decide) (Nat.le_of_ble_eq_true rfl) [(0, .ref x0), (1, .int x1)] rfl h2 (fun G X Y hn hl => L_X12_isLawful_0 X Y x0 x1 M)⟩

def f_X12_slack_0 (x0 : Nat) (x1 : Int32) (M : MM) : Option (Int32 × MM) :=
    b1 (pI 12 0 x0 (0 : Int32) M) fun M1 =>
    b2 (f_X12_isTrip x0 x1 M1) fun r3 M2 =>
    if r3 = 0 then
      some ((-1 : Int32), M2)
    else
      b2 (f_X12_isLawful x0 x1 M2) fun r5 M4 =>
      if r5 = 0 then
        some ((-1 : Int32), M4)
      else
        b2 (f_X12_slackOf x0 x1 M4) fun r7 M6 =>
        some (r7, M6)

def f_X12_slack (x0 : Nat) (x1 : Int32) (M : MM) : Option (Int32 × MM) := if isO 12 x0 M = true then f_X12_slack_0 x0 x1 M else none
set_option maxRecDepth 4000 in
theorem L_X12_slack_0 {G : Gx} (X : Cb G cX12_slack 2 RX12 (RM 6 0 0) false) (Y : Cr G (some .int) 0 0) (x0 : Nat) (x1 : Int32) (M : MM) : V G trI 2 0 0 0 [(0, .ref x0), (1, .int x1)] [] M (f_X12_slack_0 x0 x1 M) := by
  unfold f_X12_slack_0
  refine v_aload_n X 1 0 dX12_slack_0 rfl rfl ?_
  refine v_iconst X 2 dX12_slack_1 ik_0 rfl ?_
  refine v_putI X 5 fl_X12_133 nof dX12_slack_2 rfl (fun M1 => ?_)
  refine v_aload_n X 6 0 dX12_slack_5 rfl rfl ?_
  refine v_iload_n X 7 1 dX12_slack_6 rfl rfl ?_
  refine v_vI X 10 cv_X12_isTrip ml_X12_366 (n1 := 2) rfl [.int x1] rfl rfl rfl dX12_slack_7 rfl (fun r M1 h => c_X12_isTrip _ _ _ _ _ _ h) (fun r3 M2 => ?_)
  refine v_ifeq X 13 29 dX12_slack_10 rfl rfl ?_ ?_
  · refine v_iconst X 30 dX12_slack_29 ik_m1 rfl ?_
    exact v_iret X Y (Nat.le_refl _) (Nat.le_refl _) dX12_slack_30
  · refine v_aload_n X 14 0 dX12_slack_13 rfl rfl ?_
    refine v_iload_n X 15 1 dX12_slack_14 rfl rfl ?_
    refine v_vI X 18 cv_X12_isLawful ml_X12_486 (n1 := 5) rfl [.int x1] rfl rfl rfl dX12_slack_15 rfl (fun r M1 h => c_X12_isLawful _ _ _ _ _ _ h) (fun r5 M4 => ?_)
    refine v_ifeq X 21 29 dX12_slack_18 rfl rfl ?_ ?_
    · refine v_iconst X 30 dX12_slack_29 ik_m1 rfl ?_
      exact v_iret X Y (Nat.le_refl _) (Nat.le_refl _) dX12_slack_30
    · refine v_aload_n X 22 0 dX12_slack_21 rfl rfl ?_
      refine v_iload_n X 23 1 dX12_slack_22 rfl rfl ?_
      refine v_vI X 26 cv_X12_slackOf ml_X12_489 (n1 := 3) rfl [.int x1] rfl rfl rfl dX12_slack_23 rfl (fun r M1 h => c_X12_slackOf _ _ _ _ _ _ h) (fun r7 M6 => ?_)
      refine v_goto X 30 dX12_slack_26 rfl ?_
      exact v_iret X Y (Nat.le_refl _) (Nat.le_refl _) dX12_slack_30
theorem c_X12_slack (l : Launch) (x0 : Nat) (x1 : Int32) (M : MM) (r : Int32) (M1 : MM) (h : f_X12_slack x0 x1 M = some (r, M1)) : KV l yX12_slack cX12_slack 2 (some .int) (RM 6 0 0) false 12 x0 [.int x1] M (some (.int r)) M1 := by
  obtain ⟨hO, h2⟩ := iteO_some h
  exact ⟨hO, ct_of (tr := trI) (by decide) (Nat.le_of_ble_eq_true rfl) [(0, .ref x0), (1, .int x1)] rfl h2 (fun G X Y hn hl => L_X12_slack_0 X Y x0 x1 M)⟩

def f_X12_tight_78 (K13 : Nat → Int32 → Int32 → Int32 → MM → Option (Int32 × MM)) (x0 : Nat) (x1 : Int32) (x2 : Int32) (x3 : Int32) (M : MM) : Option (Int32 × MM) :=
    bn (x3 + 1 : Int32) fun y1 =>
    K13 x0 x1 x2 y1 M

def f_X12_tight_77 (K13 : Nat → Int32 → Int32 → Int32 → MM → Option (Int32 × MM)) (x0 : Nat) (x1 : Int32) (x3 : Int32) (s0 : Int32) (M : MM) : Option (Int32 × MM) :=
    f_X12_tight_78 K13 x0 x1 s0 x3 M

def f_X12_tight_72 (K13 : Nat → Int32 → Int32 → Int32 → MM → Option (Int32 × MM)) (x0 : Nat) (x1 : Int32) (x3 : Int32) (M : MM) : Option (Int32 × MM) :=
    f_X12_tight_77 K13 x0 x1 x3 x3 M

def f_X12_tight_54 (K13 : Nat → Int32 → Int32 → Int32 → MM → Option (Int32 × MM)) (x0 : Nat) (x2 : Int32) (x3 : Int32) (s0 : Int32) (M : MM) : Option (Int32 × MM) :=
    if x2 < 0 then
      f_X12_tight_72 K13 x0 s0 x3 M
    else
      b2 (f_X12_slackOf x0 x3 M) fun r2 M1 =>
      b2 (f_X12_slackOf x0 x2 M1) fun r4 M3 =>
      if r2 ≤ r4 then
        f_X12_tight_77 K13 x0 s0 x3 x2 M3
      else
        f_X12_tight_72 K13 x0 s0 x3 M3

def f_X12_tight_49 (K13 : Nat → Int32 → Int32 → Int32 → MM → Option (Int32 × MM)) (x0 : Nat) (x2 : Int32) (x3 : Int32) (M : MM) : Option (Int32 × MM) :=
    f_X12_tight_54 K13 x0 x2 x3 x3 M

def f_X12_tight_13 : Nat → Nat → Int32 → Int32 → Int32 → MM → Option (Int32 × MM)
  | 0, _, _, _, _, _ => none
  | n + 1, x0, x1, x2, x3, M =>
    b1 (gR 12 15 x0 M) fun v1 =>
    b1 (ldI v1 (45 : Int32) M) fun v2 =>
    if v2 ≤ x3 then
      if 0 ≤ x1 then
        b1 (pI 12 1 x0 (0 : Int32) M) fun M3 =>
        b2 (f_X12_slackOf x0 x1 M3) fun r5 M4 =>
        b1 (f_X12_enters x0 (Int32.toInt64 r5) M4) fun M6 =>
        b1 (f_X12_enters x0 (Int32.toInt64 x2) M6) fun M7 =>
        b2 (f_X12_slackOf x0 x2 M7) fun r9 M8 =>
        b1 (f_X12_enters x0 (Int32.toInt64 r9) M8) fun M10 =>
        some (x1, M10)
      else
        some ((-2 : Int32), M)
    else
      b2 (f_X12_isLawful x0 x3 M) fun r12 M11 =>
      if r12 = 0 then
        f_X12_tight_78 (f_X12_tight_13 n) x0 x1 x2 x3 M11
      else
        if x1 < 0 then
          f_X12_tight_49 (f_X12_tight_13 n) x0 x2 x3 M11
        else
          b2 (f_X12_slackOf x0 x3 M11) fun r14 M13 =>
          b2 (f_X12_slackOf x0 x1 M13) fun r16 M15 =>
          if r16 ≤ r14 then
            f_X12_tight_54 (f_X12_tight_13 n) x0 x2 x3 x1 M15
          else
            f_X12_tight_49 (f_X12_tight_13 n) x0 x2 x3 M15

def f_X12_tight_0 (x0 : Nat) (M : MM) : Option (Int32 × MM) :=
    b1 (pI 12 0 x0 (0 : Int32) M) fun M1 =>
    f_X12_tight_13 1024 x0 (-2 : Int32) (-2 : Int32) (0 : Int32) M1

def f_X12_tight (x0 : Nat) (M : MM) : Option (Int32 × MM) := if isO 12 x0 M = true then f_X12_tight_0 x0 M else none
set_option maxRecDepth 4000 in
theorem L_X12_tight_78 {G : Gx} (X : Cb G cX12_tight 4 RX12 (RM 6 0 0) false) (Y : Cr G (some .int) 0 0) {K13 : Nat → Int32 → Int32 → Int32 → MM → Option (Int32 × MM)} (hK13 : ∀ (x0 : Nat) (x1 : Int32) (x2 : Int32) (x3 : Int32) (M : MM), V G trI 4 0 0 13 [(0, .ref x0), (1, .int x1), (2, .int x2), (3, .int x3)] [] M (K13 x0 x1 x2 x3 M)) (x0 : Nat) (x1 : Int32) (x2 : Int32) (x3 : Int32) (M : MM) : V G trI 4 0 0 78 [(0, .ref x0), (1, .int x1), (2, .int x2), (3, .int x3)] [] M (f_X12_tight_78 K13 x0 x1 x2 x3 M) := by
  unfold f_X12_tight_78
  refine v_iinc X 81 3 (fun z => [(0, .ref x0), (1, .int x1), (2, .int x2), (3, .int z)]) dX12_tight_78 rfl ik_1 (by decide) (fun _ => rfl) rfl (fun y1 => ?_)
  refine v_goto X 13 dX12_tight_81 rfl ?_
  exact hK13 _ _ _ _ _
set_option maxRecDepth 4000 in
theorem L_X12_tight_77 {G : Gx} (X : Cb G cX12_tight 4 RX12 (RM 6 0 0) false) (Y : Cr G (some .int) 0 0) {K13 : Nat → Int32 → Int32 → Int32 → MM → Option (Int32 × MM)} (hK13 : ∀ (x0 : Nat) (x1 : Int32) (x2 : Int32) (x3 : Int32) (M : MM), V G trI 4 0 0 13 [(0, .ref x0), (1, .int x1), (2, .int x2), (3, .int x3)] [] M (K13 x0 x1 x2 x3 M)) (x0 : Nat) (x1 : Int32) (x3 : Int32) (s0 : Int32) (M : MM) : V G trI 4 0 0 77 [(0, .ref x0), (1, .int x1), (3, .int x3)] [.int s0] M (f_X12_tight_77 K13 x0 x1 x3 s0 M) := by
  unfold f_X12_tight_77
  refine v_istore_n (lv' := [(0, .ref x0), (1, .int x1), (2, .int s0), (3, .int x3)]) X 78 dX12_tight_77 (by decide) rfl rfl ?_
  exact L_X12_tight_78 X Y hK13 _ _ _ _ _
set_option maxRecDepth 4000 in
theorem L_X12_tight_72 {G : Gx} (X : Cb G cX12_tight 4 RX12 (RM 6 0 0) false) (Y : Cr G (some .int) 0 0) {K13 : Nat → Int32 → Int32 → Int32 → MM → Option (Int32 × MM)} (hK13 : ∀ (x0 : Nat) (x1 : Int32) (x2 : Int32) (x3 : Int32) (M : MM), V G trI 4 0 0 13 [(0, .ref x0), (1, .int x1), (2, .int x2), (3, .int x3)] [] M (K13 x0 x1 x2 x3 M)) (x0 : Nat) (x1 : Int32) (x3 : Int32) (M : MM) : V G trI 4 0 0 72 [(0, .ref x0), (1, .int x1), (3, .int x3)] [] M (f_X12_tight_72 K13 x0 x1 x3 M) := by
  unfold f_X12_tight_72
  refine v_iload_n X 73 2 dX12_tight_72 rfl rfl ?_
  refine v_goto X 77 dX12_tight_73 rfl ?_
  exact L_X12_tight_77 X Y hK13 _ _ _ _ _
set_option maxRecDepth 4000 in
theorem L_X12_tight_54 {G : Gx} (X : Cb G cX12_tight 4 RX12 (RM 6 0 0) false) (Y : Cr G (some .int) 0 0) {K13 : Nat → Int32 → Int32 → Int32 → MM → Option (Int32 × MM)} (hK13 : ∀ (x0 : Nat) (x1 : Int32) (x2 : Int32) (x3 : Int32) (M : MM), V G trI 4 0 0 13 [(0, .ref x0), (1, .int x1), (2, .int x2), (3, .int x3)] [] M (K13 x0 x1 x2 x3 M)) (x0 : Nat) (x2 : Int32) (x3 : Int32) (s0 : Int32) (M : MM) : V G trI 4 0 0 54 [(0, .ref x0), (2, .int x2), (3, .int x3)] [.int s0] M (f_X12_tight_54 K13 x0 x2 x3 s0 M) := by
  unfold f_X12_tight_54
  refine v_istore_n (lv' := [(0, .ref x0), (1, .int s0), (2, .int x2), (3, .int x3)]) X 55 dX12_tight_54 (by decide) rfl rfl ?_
  refine v_iload_n X 56 2 dX12_tight_55 rfl rfl ?_
  refine v_iflt X 59 72 dX12_tight_56 rfl rfl ?_ ?_
  · exact v_sb [0, 1, 3] (L_X12_tight_72 X Y hK13 _ _ _ _) rfl
  · refine v_aload_n X 60 0 dX12_tight_59 rfl rfl ?_
    refine v_iload_n X 61 3 dX12_tight_60 rfl rfl ?_
    refine v_vI X 64 cv_X12_slackOf ml_X12_489 (n1 := 3) rfl [.int x3] rfl rfl rfl dX12_tight_61 rfl (fun r M1 h => c_X12_slackOf _ _ _ _ _ _ h) (fun r2 M1 => ?_)
    refine v_aload_n X 65 0 dX12_tight_64 rfl rfl ?_
    refine v_iload_n X 66 2 dX12_tight_65 rfl rfl ?_
    refine v_vI X 69 cv_X12_slackOf ml_X12_489 (n1 := 3) rfl [.int x2] rfl rfl rfl dX12_tight_66 rfl (fun r M1 h => c_X12_slackOf _ _ _ _ _ _ h) (fun r4 M3 => ?_)
    refine v_icle X 72 76 dX12_tight_69 rfl rfl ?_ ?_
    · refine v_iload_n X 77 2 dX12_tight_76 rfl rfl ?_
      exact v_sb [0, 1, 3] (L_X12_tight_77 X Y hK13 _ _ _ _ _) rfl
    · exact v_sb [0, 1, 3] (L_X12_tight_72 X Y hK13 _ _ _ _) rfl
set_option maxRecDepth 4000 in
theorem L_X12_tight_49 {G : Gx} (X : Cb G cX12_tight 4 RX12 (RM 6 0 0) false) (Y : Cr G (some .int) 0 0) {K13 : Nat → Int32 → Int32 → Int32 → MM → Option (Int32 × MM)} (hK13 : ∀ (x0 : Nat) (x1 : Int32) (x2 : Int32) (x3 : Int32) (M : MM), V G trI 4 0 0 13 [(0, .ref x0), (1, .int x1), (2, .int x2), (3, .int x3)] [] M (K13 x0 x1 x2 x3 M)) (x0 : Nat) (x2 : Int32) (x3 : Int32) (M : MM) : V G trI 4 0 0 49 [(0, .ref x0), (2, .int x2), (3, .int x3)] [] M (f_X12_tight_49 K13 x0 x2 x3 M) := by
  unfold f_X12_tight_49
  refine v_iload_n X 50 2 dX12_tight_49 rfl rfl ?_
  refine v_goto X 54 dX12_tight_50 rfl ?_
  exact L_X12_tight_54 X Y hK13 _ _ _ _ _
set_option maxRecDepth 4000 in
theorem L_X12_tight_13 {G : Gx} (X : Cb G cX12_tight 4 RX12 (RM 6 0 0) false) (Y : Cr G (some .int) 0 0) : ∀ (n : Nat) (x0 : Nat) (x1 : Int32) (x2 : Int32) (x3 : Int32) (M : MM), V G trI 4 0 0 13 [(0, .ref x0), (1, .int x1), (2, .int x2), (3, .int x3)] [] M (f_X12_tight_13 n x0 x1 x2 x3 M) := by
  intro n
  induction n with
  | zero => intro x0 x1 x2 x3 M; rw [f_X12_tight_13]; exact v_none
  | succ n ih =>
    intro x0 x1 x2 x3 M
    rw [f_X12_tight_13]
    refine v_iload_n X 14 3 dX12_tight_13 rfl rfl ?_
    refine v_aload_n X 15 0 dX12_tight_14 rfl rfl ?_
    refine v_getR X 18 fl_X12_43.r dX12_tight_15 rfl (fun v1 => ?_)
    refine v_bipush X 20 dX12_tight_18 bk_45 rfl ?_
    refine v_iald X 21 dX12_tight_20 rfl (fun v2 => ?_)
    refine v_icge X 24 84 dX12_tight_21 rfl rfl ?_ ?_
    · refine v_iload_n X 85 1 dX12_tight_84 rfl rfl ?_
      refine v_ifge X 88 91 dX12_tight_85 rfl rfl ?_ ?_
      · refine v_aload_n X 92 0 dX12_tight_91 rfl rfl ?_
        refine v_iconst X 93 dX12_tight_92 ik_0 rfl ?_
        refine v_putI X 96 fl_X12_140 nof dX12_tight_93 rfl (fun M3 => ?_)
        refine v_aload_n X 97 0 dX12_tight_96 rfl rfl ?_
        refine v_aload_n X 98 0 dX12_tight_97 rfl rfl ?_
        refine v_iload_n X 99 1 dX12_tight_98 rfl rfl ?_
        refine v_vI X 102 cv_X12_slackOf ml_X12_489 (n1 := 3) rfl [.int x1] rfl rfl rfl dX12_tight_99 rfl (fun r M1 h => c_X12_slackOf _ _ _ _ _ _ h) (fun r5 M4 => ?_)
        refine v_i2l X 103 dX12_tight_102 rfl ?_
        refine v_vV X 106 cv_X12_enters ml_X12_414 (n1 := 1) rfl [.long (Int32.toInt64 r5)] rfl rfl rfl dX12_tight_103 rfl (fun M1 h => c_X12_enters _ _ _ _ _ h) (fun M6 => ?_)
        refine v_aload_n X 107 0 dX12_tight_106 rfl rfl ?_
        refine v_iload_n X 108 2 dX12_tight_107 rfl rfl ?_
        refine v_i2l X 109 dX12_tight_108 rfl ?_
        refine v_vV X 112 cv_X12_enters ml_X12_414 (n1 := 1) rfl [.long (Int32.toInt64 x2)] rfl rfl rfl dX12_tight_109 rfl (fun M1 h => c_X12_enters _ _ _ _ _ h) (fun M7 => ?_)
        refine v_aload_n X 113 0 dX12_tight_112 rfl rfl ?_
        refine v_aload_n X 114 0 dX12_tight_113 rfl rfl ?_
        refine v_iload_n X 115 2 dX12_tight_114 rfl rfl ?_
        refine v_vI X 118 cv_X12_slackOf ml_X12_489 (n1 := 3) rfl [.int x2] rfl rfl rfl dX12_tight_115 rfl (fun r M1 h => c_X12_slackOf _ _ _ _ _ _ h) (fun r9 M8 => ?_)
        refine v_i2l X 119 dX12_tight_118 rfl ?_
        refine v_vV X 122 cv_X12_enters ml_X12_414 (n1 := 1) rfl [.long (Int32.toInt64 r9)] rfl rfl rfl dX12_tight_119 rfl (fun M1 h => c_X12_enters _ _ _ _ _ h) (fun M10 => ?_)
        refine v_iload_n X 123 1 dX12_tight_122 rfl rfl ?_
        exact v_iret X Y (Nat.le_refl _) (Nat.le_refl _) dX12_tight_123
      · refine v_bipush X 90 dX12_tight_88 bk_m2 rfl ?_
        exact v_iret X Y (Nat.le_refl _) (Nat.le_refl _) dX12_tight_90
    · refine v_aload_n X 25 0 dX12_tight_24 rfl rfl ?_
      refine v_iload_n X 26 3 dX12_tight_25 rfl rfl ?_
      refine v_vI X 29 cv_X12_isLawful ml_X12_486 (n1 := 5) rfl [.int x3] rfl rfl rfl dX12_tight_26 rfl (fun r M1 h => c_X12_isLawful _ _ _ _ _ _ h) (fun r12 M11 => ?_)
      refine v_ifeq X 32 78 dX12_tight_29 rfl rfl ?_ ?_
      · exact L_X12_tight_78 X Y ih _ _ _ _ _
      · refine v_iload_n X 33 1 dX12_tight_32 rfl rfl ?_
        refine v_iflt X 36 49 dX12_tight_33 rfl rfl ?_ ?_
        · exact v_sb [0, 2, 3] (L_X12_tight_49 X Y ih _ _ _ _) rfl
        · refine v_aload_n X 37 0 dX12_tight_36 rfl rfl ?_
          refine v_iload_n X 38 3 dX12_tight_37 rfl rfl ?_
          refine v_vI X 41 cv_X12_slackOf ml_X12_489 (n1 := 3) rfl [.int x3] rfl rfl rfl dX12_tight_38 rfl (fun r M1 h => c_X12_slackOf _ _ _ _ _ _ h) (fun r14 M13 => ?_)
          refine v_aload_n X 42 0 dX12_tight_41 rfl rfl ?_
          refine v_iload_n X 43 1 dX12_tight_42 rfl rfl ?_
          refine v_vI X 46 cv_X12_slackOf ml_X12_489 (n1 := 3) rfl [.int x1] rfl rfl rfl dX12_tight_43 rfl (fun r M1 h => c_X12_slackOf _ _ _ _ _ _ h) (fun r16 M15 => ?_)
          refine v_icge X 49 53 dX12_tight_46 rfl rfl ?_ ?_
          · refine v_iload_n X 54 1 dX12_tight_53 rfl rfl ?_
            exact v_sb [0, 2, 3] (L_X12_tight_54 X Y ih _ _ _ _ _) rfl
          · exact v_sb [0, 2, 3] (L_X12_tight_49 X Y ih _ _ _ _) rfl
set_option maxRecDepth 4000 in
theorem L_X12_tight_0 {G : Gx} (X : Cb G cX12_tight 4 RX12 (RM 6 0 0) false) (Y : Cr G (some .int) 0 0) (x0 : Nat) (M : MM) : V G trI 4 0 0 0 [(0, .ref x0)] [] M (f_X12_tight_0 x0 M) := by
  unfold f_X12_tight_0
  refine v_aload_n X 1 0 dX12_tight_0 rfl rfl ?_
  refine v_iconst X 2 dX12_tight_1 ik_0 rfl ?_
  refine v_putI X 5 fl_X12_133 nof dX12_tight_2 rfl (fun M1 => ?_)
  refine v_bipush X 7 dX12_tight_5 bk_m2 rfl ?_
  refine v_istore_n (lv' := [(0, .ref x0), (1, .int (-2 : Int32))]) X 8 dX12_tight_7 (by decide) rfl rfl ?_
  refine v_bipush X 10 dX12_tight_8 bk_m2 rfl ?_
  refine v_istore_n (lv' := [(0, .ref x0), (1, .int (-2 : Int32)), (2, .int (-2 : Int32))]) X 11 dX12_tight_10 (by decide) rfl rfl ?_
  refine v_iconst X 12 dX12_tight_11 ik_0 rfl ?_
  refine v_istore_n (lv' := [(0, .ref x0), (1, .int (-2 : Int32)), (2, .int (-2 : Int32)), (3, .int (0 : Int32))]) X 13 dX12_tight_12 (by decide) rfl rfl ?_
  exact L_X12_tight_13 X Y 1024 _ _ _ _ _
theorem c_X12_tight (l : Launch) (x0 : Nat) (M : MM) (r : Int32) (M1 : MM) (h : f_X12_tight x0 M = some (r, M1)) : KV l yX12_tight cX12_tight 4 (some .int) (RM 6 0 0) false 12 x0 [] M (some (.int r)) M1 := by
  obtain ⟨hO, h2⟩ := iteO_some h
  exact ⟨hO, ct_of (tr := trI) (by decide) (Nat.le_of_ble_eq_true rfl) [(0, .ref x0)] rfl h2 (fun G X Y hn hl => L_X12_tight_0 X Y x0 M)⟩

def f_X12_chance_86 (K39 : Nat → Int32 → Int32 → Int64 → Int64 → Int32 → MM → Option (Int32 × MM)) (x0 : Nat) (x1 : Int32) (x2 : Int32) (x3 : Int64) (x5 : Int64) (x7 : Int32) (M : MM) : Option (Int32 × MM) :=
    bn (x7 + 1 : Int32) fun y1 =>
    K39 x0 x1 x2 x3 x5 y1 M

def f_X12_chance_39 : Nat → Nat → Int32 → Int32 → Int64 → Int64 → Int32 → MM → Option (Int32 × MM)
  | 0, _, _, _, _, _, _, _ => none
  | n + 1, x0, x1, x2, x3, x5, x7, M =>
    b1 (gR 12 15 x0 M) fun v1 =>
    b1 (ldI v1 (45 : Int32) M) fun v2 =>
    if v2 ≤ x7 then
      b2 (f_X12_common 100 x3 x5 M) fun r4 M3 =>
      b1 (pI 12 1 x0 (0 : Int32) M3) fun M5 =>
      b1 (divL x3 r4) fun v6 =>
      b1 (f_X12_enters x0 v6 M5) fun M7 =>
      b1 (divL x5 r4) fun v8 =>
      b1 (f_X12_enters x0 v8 M7) fun M9 =>
      some ((0 : Int32), M9)
    else
      b2 (f_X12_isLawful x0 x7 M) fun r11 M10 =>
      if r11 = 0 then
        f_X12_chance_86 (f_X12_chance_39 n) x0 x1 x2 x3 x5 x7 M10
      else
        b2 (f_X12_slackOf x0 x7 M10) fun r13 M12 =>
        if x1 ≤ r13 then
          f_X12_chance_86 (f_X12_chance_39 n) x0 x1 x2 x3 x5 x7 M12
        else
          bn (x3 * (Int32.toInt64 ((10 : Int32) - x2)) : Int64) fun y14 =>
          bn (x5 * (10 : Int64) : Int64) fun y15 =>
          f_X12_chance_86 (f_X12_chance_39 n) x0 x1 x2 y14 y15 x7 M12

def f_X12_chance_0 (x0 : Nat) (x1 : Int32) (x2 : Int32) (M : MM) : Option (Int32 × MM) :=
    b1 (pI 12 0 x0 (0 : Int32) M) fun M1 =>
    b2 (f_X12_in (Int32.toInt64 x1) (1 : Int64) (9 : Int64) M1) fun r3 M2 =>
    if r3 = 0 then
      some ((-1 : Int32), M2)
    else
      b2 (f_X12_in (Int32.toInt64 x2) (0 : Int64) (10 : Int64) M2) fun r5 M4 =>
      if r5 = 0 then
        some ((-1 : Int32), M4)
      else
        f_X12_chance_39 1024 x0 x1 x2 (1 : Int64) (1 : Int64) (0 : Int32) M4

def f_X12_chance (x0 : Nat) (x1 : Int32) (x2 : Int32) (M : MM) : Option (Int32 × MM) := if isO 12 x0 M = true then f_X12_chance_0 x0 x1 x2 M else none
set_option maxRecDepth 4000 in
theorem L_X12_chance_86 {G : Gx} (X : Cb G cX12_chance 9 RX12 (RM 102 0 0) false) (Y : Cr G (some .int) 0 0) {K39 : Nat → Int32 → Int32 → Int64 → Int64 → Int32 → MM → Option (Int32 × MM)} (hK39 : ∀ (x0 : Nat) (x1 : Int32) (x2 : Int32) (x3 : Int64) (x5 : Int64) (x7 : Int32) (M : MM), V G trI 9 0 0 39 [(0, .ref x0), (1, .int x1), (2, .int x2), (3, .long x3), (5, .long x5), (7, .int x7)] [] M (K39 x0 x1 x2 x3 x5 x7 M)) (x0 : Nat) (x1 : Int32) (x2 : Int32) (x3 : Int64) (x5 : Int64) (x7 : Int32) (M : MM) : V G trI 9 0 0 86 [(0, .ref x0), (1, .int x1), (2, .int x2), (3, .long x3), (5, .long x5), (7, .int x7)] [] M (f_X12_chance_86 K39 x0 x1 x2 x3 x5 x7 M) := by
  unfold f_X12_chance_86
  refine v_iinc X 89 5 (fun z => [(0, .ref x0), (1, .int x1), (2, .int x2), (3, .long x3), (5, .long x5), (7, .int z)]) dX12_chance_86 rfl ik_1 (by decide) (fun _ => rfl) rfl (fun y1 => ?_)
  refine v_goto X 39 dX12_chance_89 rfl ?_
  exact hK39 _ _ _ _ _ _ _
set_option maxRecDepth 4000 in
theorem L_X12_chance_39 {G : Gx} (X : Cb G cX12_chance 9 RX12 (RM 102 0 0) false) (Y : Cr G (some .int) 0 0) : ∀ (n : Nat) (x0 : Nat) (x1 : Int32) (x2 : Int32) (x3 : Int64) (x5 : Int64) (x7 : Int32) (M : MM), V G trI 9 0 0 39 [(0, .ref x0), (1, .int x1), (2, .int x2), (3, .long x3), (5, .long x5), (7, .int x7)] [] M (f_X12_chance_39 n x0 x1 x2 x3 x5 x7 M) := by
  intro n
  induction n with
  | zero => intro x0 x1 x2 x3 x5 x7 M; rw [f_X12_chance_39]; exact v_none
  | succ n ih =>
    intro x0 x1 x2 x3 x5 x7 M
    rw [f_X12_chance_39]
    refine v_iload X 41 5 dX12_chance_39 rfl rfl ?_
    refine v_aload_n X 42 0 dX12_chance_41 rfl rfl ?_
    refine v_getR X 45 fl_X12_43.r dX12_chance_42 rfl (fun v1 => ?_)
    refine v_bipush X 47 dX12_chance_45 bk_45 rfl ?_
    refine v_iald X 48 dX12_chance_47 rfl (fun v2 => ?_)
    refine v_icge X 51 92 dX12_chance_48 rfl rfl ?_ ?_
    · refine v_lload_n X 93 3 dX12_chance_92 rfl rfl ?_
      refine v_lload X 95 4 dX12_chance_93 rfl rfl ?_
      refine v_sL X 98 cs_X12_common ml_X12_136 (n1 := 101) rfl [.long x3, .long x5] rfl rfl rfl dX12_chance_95 rfl (fun r M1 h => c_X12_common _ 100 _ _ _ _ _ h) (fun r4 M3 => ?_)
      refine v_lstore (lv' := [(0, .ref x0), (1, .int x1), (2, .int x2), (3, .long x3), (5, .long x5), (7, .long r4)]) X 100 dX12_chance_98 (by decide) rfl rfl ?_
      refine v_aload_n X 101 0 dX12_chance_100 rfl rfl ?_
      refine v_iconst X 102 dX12_chance_101 ik_0 rfl ?_
      refine v_putI X 105 fl_X12_140 nof dX12_chance_102 rfl (fun M5 => ?_)
      refine v_aload_n X 106 0 dX12_chance_105 rfl rfl ?_
      refine v_lload_n X 107 3 dX12_chance_106 rfl rfl ?_
      refine v_lload X 109 5 dX12_chance_107 rfl rfl ?_
      refine v_ldiv X 110 dX12_chance_109 rfl (fun v6 => ?_)
      refine v_vV X 113 cv_X12_enters ml_X12_414 (n1 := 1) rfl [.long v6] rfl rfl rfl dX12_chance_110 rfl (fun M1 h => c_X12_enters _ _ _ _ _ h) (fun M7 => ?_)
      refine v_aload_n X 114 0 dX12_chance_113 rfl rfl ?_
      refine v_lload X 116 4 dX12_chance_114 rfl rfl ?_
      refine v_lload X 118 5 dX12_chance_116 rfl rfl ?_
      refine v_ldiv X 119 dX12_chance_118 rfl (fun v8 => ?_)
      refine v_vV X 122 cv_X12_enters ml_X12_414 (n1 := 1) rfl [.long v8] rfl rfl rfl dX12_chance_119 rfl (fun M1 h => c_X12_enters _ _ _ _ _ h) (fun M9 => ?_)
      refine v_iconst X 123 dX12_chance_122 ik_0 rfl ?_
      exact v_iret X Y (Nat.le_refl _) (Nat.le_refl _) dX12_chance_123
    · refine v_aload_n X 52 0 dX12_chance_51 rfl rfl ?_
      refine v_iload X 54 5 dX12_chance_52 rfl rfl ?_
      refine v_vI X 57 cv_X12_isLawful ml_X12_486 (n1 := 5) rfl [.int x7] rfl rfl rfl dX12_chance_54 rfl (fun r M1 h => c_X12_isLawful _ _ _ _ _ _ h) (fun r11 M10 => ?_)
      refine v_ifeq X 60 86 dX12_chance_57 rfl rfl ?_ ?_
      · exact L_X12_chance_86 X Y ih _ _ _ _ _ _ _
      · refine v_iload_n X 61 1 dX12_chance_60 rfl rfl ?_
        refine v_aload_n X 62 0 dX12_chance_61 rfl rfl ?_
        refine v_iload X 64 5 dX12_chance_62 rfl rfl ?_
        refine v_vI X 67 cv_X12_slackOf ml_X12_489 (n1 := 3) rfl [.int x7] rfl rfl rfl dX12_chance_64 rfl (fun r M1 h => c_X12_slackOf _ _ _ _ _ _ h) (fun r13 M12 => ?_)
        refine v_icle X 70 86 dX12_chance_67 rfl rfl ?_ ?_
        · exact L_X12_chance_86 X Y ih _ _ _ _ _ _ _
        · refine v_lload_n X 71 3 dX12_chance_70 rfl rfl ?_
          refine v_bipush X 73 dX12_chance_71 bk_10 rfl ?_
          refine v_iload_n X 74 2 dX12_chance_73 rfl rfl ?_
          refine v_isub X 75 dX12_chance_74 rfl ?_
          refine v_i2l X 76 dX12_chance_75 rfl ?_
          refine v_lmul X 77 dX12_chance_76 rfl ?_
          refine v_bnJ (fun y14 => ?_)
          refine v_lstore_n (lv' := [(0, .ref x0), (1, .int x1), (2, .int x2), (3, .long y14), (5, .long x5), (7, .int x7)]) X 78 dX12_chance_77 (by decide) rfl rfl ?_
          refine v_lload X 80 4 dX12_chance_78 rfl rfl ?_
          refine v_ldc2 X 83 dX12_chance_80 kl_X12_492 rfl ?_
          refine v_lmul X 84 dX12_chance_83 rfl ?_
          refine v_bnJ (fun y15 => ?_)
          refine v_lstore (lv' := [(0, .ref x0), (1, .int x1), (2, .int x2), (3, .long y14), (5, .long y15), (7, .int x7)]) X 86 dX12_chance_84 (by decide) rfl rfl ?_
          exact L_X12_chance_86 X Y ih _ _ _ _ _ _ _
set_option maxRecDepth 4000 in
theorem L_X12_chance_0 {G : Gx} (X : Cb G cX12_chance 9 RX12 (RM 102 0 0) false) (Y : Cr G (some .int) 0 0) (x0 : Nat) (x1 : Int32) (x2 : Int32) (M : MM) : V G trI 9 0 0 0 [(0, .ref x0), (1, .int x1), (2, .int x2)] [] M (f_X12_chance_0 x0 x1 x2 M) := by
  unfold f_X12_chance_0
  refine v_aload_n X 1 0 dX12_chance_0 rfl rfl ?_
  refine v_iconst X 2 dX12_chance_1 ik_0 rfl ?_
  refine v_putI X 5 fl_X12_133 nof dX12_chance_2 rfl (fun M1 => ?_)
  refine v_iload_n X 6 1 dX12_chance_5 rfl rfl ?_
  refine v_i2l X 7 dX12_chance_6 rfl ?_
  refine v_lconst X 8 dX12_chance_7 lk_1 rfl ?_
  refine v_ldc2 X 11 dX12_chance_8 kl_X12_372 rfl ?_
  refine v_sI X 14 cs_X12_in ml_X12_146 (n1 := 1) rfl [.long (Int32.toInt64 x1), .long (1 : Int64), .long (9 : Int64)] rfl rfl rfl dX12_chance_11 rfl (fun r M1 h => c_X12_in _ _ _ _ _ _ _ h) (fun r3 M2 => ?_)
  refine v_ifeq X 17 29 dX12_chance_14 rfl rfl ?_ ?_
  · refine v_iconst X 30 dX12_chance_29 ik_m1 rfl ?_
    exact v_iret X Y (Nat.le_refl _) (Nat.le_refl _) dX12_chance_30
  · refine v_iload_n X 18 2 dX12_chance_17 rfl rfl ?_
    refine v_i2l X 19 dX12_chance_18 rfl ?_
    refine v_lconst X 20 dX12_chance_19 lk_0 rfl ?_
    refine v_ldc2 X 23 dX12_chance_20 kl_X12_492 rfl ?_
    refine v_sI X 26 cs_X12_in ml_X12_146 (n1 := 1) rfl [.long (Int32.toInt64 x2), .long (0 : Int64), .long (10 : Int64)] rfl rfl rfl dX12_chance_23 rfl (fun r M1 h => c_X12_in _ _ _ _ _ _ _ h) (fun r5 M4 => ?_)
    refine v_ifne X 29 31 dX12_chance_26 rfl rfl ?_ ?_
    · refine v_lconst X 32 dX12_chance_31 lk_1 rfl ?_
      refine v_lstore_n (lv' := [(0, .ref x0), (1, .int x1), (2, .int x2), (3, .long (1 : Int64))]) X 33 dX12_chance_32 (by decide) rfl rfl ?_
      refine v_lconst X 34 dX12_chance_33 lk_1 rfl ?_
      refine v_lstore (lv' := [(0, .ref x0), (1, .int x1), (2, .int x2), (3, .long (1 : Int64)), (5, .long (1 : Int64))]) X 36 dX12_chance_34 (by decide) rfl rfl ?_
      refine v_iconst X 37 dX12_chance_36 ik_0 rfl ?_
      refine v_istore (lv' := [(0, .ref x0), (1, .int x1), (2, .int x2), (3, .long (1 : Int64)), (5, .long (1 : Int64)), (7, .int (0 : Int32))]) X 39 dX12_chance_37 (by decide) rfl rfl ?_
      exact L_X12_chance_39 X Y 1024 _ _ _ _ _ _ _
    · refine v_iconst X 30 dX12_chance_29 ik_m1 rfl ?_
      exact v_iret X Y (Nat.le_refl _) (Nat.le_refl _) dX12_chance_30
theorem c_X12_chance (l : Launch) (x0 : Nat) (x1 : Int32) (x2 : Int32) (M : MM) (r : Int32) (M1 : MM) (h : f_X12_chance x0 x1 x2 M = some (r, M1)) : KV l yX12_chance cX12_chance 9 (some .int) (RM 102 0 0) false 12 x0 [.int x1, .int x2] M (some (.int r)) M1 := by
  obtain ⟨hO, h2⟩ := iteO_some h
  exact ⟨hO, ct_of (tr := trI) (by decide) (Nat.le_of_ble_eq_true rfl) [(0, .ref x0), (1, .int x1), (2, .int x2)] rfl h2 (fun G X Y hn hl => L_X12_chance_0 X Y x0 x1 x2 M)⟩

def f_X12_seen_0 (x0 : Nat) (x1 : Int32) (x2 : Int32) (x3 : Int32) (M : MM) : Option (Int32 × MM) :=
    b1 (pI 12 0 x0 (0 : Int32) M) fun M1 =>
    b2 (f_X12_canAsk x0 x1 x2 x3 M1) fun r3 M2 =>
    if r3 = 0 then
      some ((-1 : Int32), M2)
    else
      b1 (gI 12 51 x0 M2) fun v4 =>
      if v4 = (12 : Int32) then
        some ((-1 : Int32), M2)
      else
        b1 (gR 12 52 x0 M2) fun v5 =>
        b1 (gI 12 51 x0 M2) fun v6 =>
        b1 (stI v5 v6 x1 M2) fun M7 =>
        b1 (gR 12 53 x0 M7) fun v8 =>
        b1 (gI 12 51 x0 M7) fun v9 =>
        b1 (stI v8 v9 x2 M7) fun M10 =>
        b1 (gR 12 54 x0 M10) fun v11 =>
        b1 (gI 12 51 x0 M10) fun v12 =>
        b1 (stI v11 v12 x3 M10) fun M13 =>
        b1 (gI 12 51 x0 M13) fun v14 =>
        b1 (pI 12 51 x0 (v14 + (1 : Int32)) M13) fun M15 =>
        b1 (gI 12 51 x0 M15) fun v16 =>
        some (v16, M15)

def f_X12_seen (x0 : Nat) (x1 : Int32) (x2 : Int32) (x3 : Int32) (M : MM) : Option (Int32 × MM) := if isO 12 x0 M = true then f_X12_seen_0 x0 x1 x2 x3 M else none
set_option maxRecDepth 4000 in
theorem L_X12_seen_0 {G : Gx} (X : Cb G cX12_seen 4 RX12 (RM 4 0 0) false) (Y : Cr G (some .int) 0 0) (x0 : Nat) (x1 : Int32) (x2 : Int32) (x3 : Int32) (M : MM) : V G trI 4 0 0 0 [(0, .ref x0), (1, .int x1), (2, .int x2), (3, .int x3)] [] M (f_X12_seen_0 x0 x1 x2 x3 M) := by
  unfold f_X12_seen_0
  refine v_aload_n X 1 0 dX12_seen_0 rfl rfl ?_
  refine v_iconst X 2 dX12_seen_1 ik_0 rfl ?_
  refine v_putI X 5 fl_X12_133 nof dX12_seen_2 rfl (fun M1 => ?_)
  refine v_aload_n X 6 0 dX12_seen_5 rfl rfl ?_
  refine v_iload_n X 7 1 dX12_seen_6 rfl rfl ?_
  refine v_iload_n X 8 2 dX12_seen_7 rfl rfl ?_
  refine v_iload_n X 9 3 dX12_seen_8 rfl rfl ?_
  refine v_vI X 12 cv_X12_canAsk ml_X12_381 (n1 := 3) rfl [.int x1, .int x2, .int x3] rfl rfl rfl dX12_seen_9 rfl (fun r M1 h => c_X12_canAsk _ _ _ _ _ _ _ _ h) (fun r3 M2 => ?_)
  refine v_ifeq X 15 24 dX12_seen_12 rfl rfl ?_ ?_
  · refine v_iconst X 25 dX12_seen_24 ik_m1 rfl ?_
    exact v_iret X Y (Nat.le_refl _) (Nat.le_refl _) dX12_seen_25
  · refine v_aload_n X 16 0 dX12_seen_15 rfl rfl ?_
    refine v_getI X 19 fl_X12_494.r dX12_seen_16 rfl (fun v4 => ?_)
    refine v_bipush X 21 dX12_seen_19 bk_12 rfl ?_
    refine v_icne X 24 26 dX12_seen_21 rfl rfl ?_ ?_
    · refine v_aload_n X 27 0 dX12_seen_26 rfl rfl ?_
      refine v_getR X 30 fl_X12_112.r dX12_seen_27 rfl (fun v5 => ?_)
      refine v_aload_n X 31 0 dX12_seen_30 rfl rfl ?_
      refine v_getI X 34 fl_X12_494.r dX12_seen_31 rfl (fun v6 => ?_)
      refine v_iload_n X 35 1 dX12_seen_34 rfl rfl ?_
      refine v_iast X 36 dX12_seen_35 rfl (fun M7 => ?_)
      refine v_aload_n X 37 0 dX12_seen_36 rfl rfl ?_
      refine v_getR X 40 fl_X12_115.r dX12_seen_37 rfl (fun v8 => ?_)
      refine v_aload_n X 41 0 dX12_seen_40 rfl rfl ?_
      refine v_getI X 44 fl_X12_494.r dX12_seen_41 rfl (fun v9 => ?_)
      refine v_iload_n X 45 2 dX12_seen_44 rfl rfl ?_
      refine v_iast X 46 dX12_seen_45 rfl (fun M10 => ?_)
      refine v_aload_n X 47 0 dX12_seen_46 rfl rfl ?_
      refine v_getR X 50 fl_X12_118.r dX12_seen_47 rfl (fun v11 => ?_)
      refine v_aload_n X 51 0 dX12_seen_50 rfl rfl ?_
      refine v_getI X 54 fl_X12_494.r dX12_seen_51 rfl (fun v12 => ?_)
      refine v_iload_n X 55 3 dX12_seen_54 rfl rfl ?_
      refine v_iast X 56 dX12_seen_55 rfl (fun M13 => ?_)
      refine v_aload_n X 57 0 dX12_seen_56 rfl rfl ?_
      refine v_dup X 58 dX12_seen_57 rfl rfl ?_
      refine v_getI X 61 fl_X12_494.r dX12_seen_58 rfl (fun v14 => ?_)
      refine v_iconst X 62 dX12_seen_61 ik_1 rfl ?_
      refine v_iadd X 63 dX12_seen_62 rfl ?_
      refine v_putI X 66 fl_X12_494 nof dX12_seen_63 rfl (fun M15 => ?_)
      refine v_aload_n X 67 0 dX12_seen_66 rfl rfl ?_
      refine v_getI X 70 fl_X12_494.r dX12_seen_67 rfl (fun v16 => ?_)
      exact v_iret X Y (Nat.le_refl _) (Nat.le_refl _) dX12_seen_70
    · refine v_iconst X 25 dX12_seen_24 ik_m1 rfl ?_
      exact v_iret X Y (Nat.le_refl _) (Nat.le_refl _) dX12_seen_25
theorem c_X12_seen (l : Launch) (x0 : Nat) (x1 : Int32) (x2 : Int32) (x3 : Int32) (M : MM) (r : Int32) (M1 : MM) (h : f_X12_seen x0 x1 x2 x3 M = some (r, M1)) : KV l yX12_seen cX12_seen 4 (some .int) (RM 4 0 0) false 12 x0 [.int x1, .int x2, .int x3] M (some (.int r)) M1 := by
  obtain ⟨hO, h2⟩ := iteO_some h
  exact ⟨hO, ct_of (tr := trI) (by decide) (Nat.le_of_ble_eq_true rfl) [(0, .ref x0), (1, .int x1), (2, .int x2), (3, .int x3)] rfl h2 (fun G X Y hn hl => L_X12_seen_0 X Y x0 x1 x2 x3 M)⟩

def f_X12_forget_0 (x0 : Nat) (M : MM) : Option (Int32 × MM) :=
    b1 (pI 12 0 x0 (0 : Int32) M) fun M1 =>
    b1 (gI 12 51 x0 M1) fun v2 =>
    b1 (pI 12 51 x0 (0 : Int32) M1) fun M3 =>
    some (v2, M3)

def f_X12_forget (x0 : Nat) (M : MM) : Option (Int32 × MM) := if isO 12 x0 M = true then f_X12_forget_0 x0 M else none
set_option maxRecDepth 4000 in
theorem L_X12_forget_0 {G : Gx} (X : Cb G cX12_forget 2 RX12 (RM 1 0 0) false) (Y : Cr G (some .int) 0 0) (x0 : Nat) (M : MM) : V G trI 2 0 0 0 [(0, .ref x0)] [] M (f_X12_forget_0 x0 M) := by
  unfold f_X12_forget_0
  refine v_aload_n X 1 0 dX12_forget_0 rfl rfl ?_
  refine v_iconst X 2 dX12_forget_1 ik_0 rfl ?_
  refine v_putI X 5 fl_X12_133 nof dX12_forget_2 rfl (fun M1 => ?_)
  refine v_aload_n X 6 0 dX12_forget_5 rfl rfl ?_
  refine v_getI X 9 fl_X12_494.r dX12_forget_6 rfl (fun v2 => ?_)
  refine v_istore_n (lv' := [(0, .ref x0), (1, .int v2)]) X 10 dX12_forget_9 (by decide) rfl rfl ?_
  refine v_aload_n X 11 0 dX12_forget_10 rfl rfl ?_
  refine v_iconst X 12 dX12_forget_11 ik_0 rfl ?_
  refine v_putI X 15 fl_X12_494 nof dX12_forget_12 rfl (fun M3 => ?_)
  refine v_iload_n X 16 1 dX12_forget_15 rfl rfl ?_
  exact v_iret X Y (Nat.le_refl _) (Nat.le_refl _) dX12_forget_16
theorem c_X12_forget (l : Launch) (x0 : Nat) (M : MM) (r : Int32) (M1 : MM) (h : f_X12_forget x0 M = some (r, M1)) : KV l yX12_forget cX12_forget 2 (some .int) (RM 1 0 0) false 12 x0 [] M (some (.int r)) M1 := by
  obtain ⟨hO, h2⟩ := iteO_some h
  exact ⟨hO, ct_of (tr := trI) (by decide) (Nat.le_of_ble_eq_true rfl) [(0, .ref x0)] rfl h2 (fun G X Y hn hl => L_X12_forget_0 X Y x0 M)⟩

def f_X12_fits_90 (K9 : Nat → Int32 → Int32 → MM → Option (Int32 × MM)) (K19 : Nat → Int32 → Int32 → Int32 → MM → Option (Int32 × MM)) (x0 : Nat) (x2 : Int32) (x3 : Int32) (s0 : Int32) (s1 : Int32) (M : MM) : Option (Int32 × MM) :=
    bn (s1 ||| s0 : Int32) fun y1 =>
    bn (x3 + 1 : Int32) fun y2 =>
    K19 x0 y1 x2 y2 M

def f_X12_fits_89 (K9 : Nat → Int32 → Int32 → MM → Option (Int32 × MM)) (K19 : Nat → Int32 → Int32 → Int32 → MM → Option (Int32 × MM)) (x0 : Nat) (x2 : Int32) (x3 : Int32) (s0 : Int32) (M : MM) : Option (Int32 × MM) :=
    f_X12_fits_90 K9 K19 x0 x2 x3 (0 : Int32) s0 M

def f_X12_fits_19 (K9 : Nat → Int32 → Int32 → MM → Option (Int32 × MM)) : Nat → Nat → Int32 → Int32 → Int32 → MM → Option (Int32 × MM)
  | 0, _, _, _, _, _ => none
  | n + 1, x0, x1, x2, x3, M =>
    b1 (gR 12 15 x0 M) fun v1 =>
    b1 (ldI v1 (45 : Int32) M) fun v2 =>
    if v2 ≤ x3 then
      bn (x2 + 1 : Int32) fun y3 =>
      K9 x0 x1 y3 M
    else
      b1 (gR 12 15 x0 M) fun v4 =>
      b2 (f_X12_who v4 x3 M) fun r6 M5 =>
      b1 (gR 12 52 x0 M5) fun v7 =>
      b1 (ldI v7 x2 M5) fun v8 =>
      if r6 = v8 then
        b1 (gR 12 15 x0 M5) fun v9 =>
        b2 (f_X12_what v9 x3 M5) fun r11 M10 =>
        b1 (gR 12 53 x0 M10) fun v12 =>
        b1 (ldI v12 x2 M10) fun v13 =>
        if r11 = v13 then
          b1 (gR 12 15 x0 M10) fun v14 =>
          b1 (gR 12 54 x0 M10) fun v15 =>
          b1 (ldI v15 x2 M10) fun v16 =>
          b2 (f_X12_isThere x0 v14 x3 v16 M10) fun r18 M17 =>
          if r18 = 0 then
            f_X12_fits_89 K9 (f_X12_fits_19 K9 n) x0 x2 x3 x1 M17
          else
            f_X12_fits_90 K9 (f_X12_fits_19 K9 n) x0 x2 x3 ((1 : Int32) <<< (x2 &&& 31)) x1 M17
        else
          f_X12_fits_89 K9 (f_X12_fits_19 K9 n) x0 x2 x3 x1 M10
      else
        f_X12_fits_89 K9 (f_X12_fits_19 K9 n) x0 x2 x3 x1 M5

def f_X12_fits_9 : Nat → Nat → Int32 → Int32 → MM → Option (Int32 × MM)
  | 0, _, _, _, _ => none
  | n + 1, x0, x1, x2, M =>
    b1 (gI 12 51 x0 M) fun v1 =>
    if v1 ≤ x2 then
      b1 (pI 12 1 x0 (0 : Int32) M) fun M2 =>
      b1 (f_X12_enters x0 (Int32.toInt64 x1) M2) fun M3 =>
      b2 (f_J6_bitCount_0f7a4 x1 M3) fun r5 M4 =>
      some (r5, M4)
    else
      f_X12_fits_19 (f_X12_fits_9 n) 1024 x0 x1 x2 (0 : Int32) M

def f_X12_fits_0 (x0 : Nat) (M : MM) : Option (Int32 × MM) :=
    b1 (pI 12 0 x0 (0 : Int32) M) fun M1 =>
    f_X12_fits_9 1024 x0 (0 : Int32) (0 : Int32) M1

def f_X12_fits (x0 : Nat) (M : MM) : Option (Int32 × MM) := if isO 12 x0 M = true then f_X12_fits_0 x0 M else none
set_option maxRecDepth 4000 in
theorem L_X12_fits_90 {G : Gx} (X : Cb G cX12_fits 4 RX12 (RM 3 0 0) false) (Y : Cr G (some .int) 0 0) {K9 : Nat → Int32 → Int32 → MM → Option (Int32 × MM)} (hK9 : ∀ (x0 : Nat) (x1 : Int32) (x2 : Int32) (M : MM), V G trI 4 0 0 9 [(0, .ref x0), (1, .int x1), (2, .int x2)] [] M (K9 x0 x1 x2 M)) {K19 : Nat → Int32 → Int32 → Int32 → MM → Option (Int32 × MM)} (hK19 : ∀ (x0 : Nat) (x1 : Int32) (x2 : Int32) (x3 : Int32) (M : MM), V G trI 4 0 0 19 [(0, .ref x0), (1, .int x1), (2, .int x2), (3, .int x3)] [] M (K19 x0 x1 x2 x3 M)) (x0 : Nat) (x2 : Int32) (x3 : Int32) (s0 : Int32) (s1 : Int32) (M : MM) : V G trI 4 0 0 90 [(0, .ref x0), (2, .int x2), (3, .int x3)] [.int s0, .int s1] M (f_X12_fits_90 K9 K19 x0 x2 x3 s0 s1 M) := by
  unfold f_X12_fits_90
  refine v_ior X 91 dX12_fits_90 rfl ?_
  refine v_bnI (fun y1 => ?_)
  refine v_istore_n (lv' := [(0, .ref x0), (1, .int y1), (2, .int x2), (3, .int x3)]) X 92 dX12_fits_91 (by decide) rfl rfl ?_
  refine v_iinc X 95 3 (fun z => [(0, .ref x0), (1, .int y1), (2, .int x2), (3, .int z)]) dX12_fits_92 rfl ik_1 (by decide) (fun _ => rfl) rfl (fun y2 => ?_)
  refine v_goto X 19 dX12_fits_95 rfl ?_
  exact hK19 _ _ _ _ _
set_option maxRecDepth 4000 in
theorem L_X12_fits_89 {G : Gx} (X : Cb G cX12_fits 4 RX12 (RM 3 0 0) false) (Y : Cr G (some .int) 0 0) {K9 : Nat → Int32 → Int32 → MM → Option (Int32 × MM)} (hK9 : ∀ (x0 : Nat) (x1 : Int32) (x2 : Int32) (M : MM), V G trI 4 0 0 9 [(0, .ref x0), (1, .int x1), (2, .int x2)] [] M (K9 x0 x1 x2 M)) {K19 : Nat → Int32 → Int32 → Int32 → MM → Option (Int32 × MM)} (hK19 : ∀ (x0 : Nat) (x1 : Int32) (x2 : Int32) (x3 : Int32) (M : MM), V G trI 4 0 0 19 [(0, .ref x0), (1, .int x1), (2, .int x2), (3, .int x3)] [] M (K19 x0 x1 x2 x3 M)) (x0 : Nat) (x2 : Int32) (x3 : Int32) (s0 : Int32) (M : MM) : V G trI 4 0 0 89 [(0, .ref x0), (2, .int x2), (3, .int x3)] [.int s0] M (f_X12_fits_89 K9 K19 x0 x2 x3 s0 M) := by
  unfold f_X12_fits_89
  refine v_iconst X 90 dX12_fits_89 ik_0 rfl ?_
  exact L_X12_fits_90 X Y hK9 hK19 _ _ _ _ _ _
set_option maxRecDepth 4000 in
theorem L_X12_fits_19 {G : Gx} (X : Cb G cX12_fits 4 RX12 (RM 3 0 0) false) (Y : Cr G (some .int) 0 0) {K9 : Nat → Int32 → Int32 → MM → Option (Int32 × MM)} (hK9 : ∀ (x0 : Nat) (x1 : Int32) (x2 : Int32) (M : MM), V G trI 4 0 0 9 [(0, .ref x0), (1, .int x1), (2, .int x2)] [] M (K9 x0 x1 x2 M)) : ∀ (n : Nat) (x0 : Nat) (x1 : Int32) (x2 : Int32) (x3 : Int32) (M : MM), V G trI 4 0 0 19 [(0, .ref x0), (1, .int x1), (2, .int x2), (3, .int x3)] [] M (f_X12_fits_19 K9 n x0 x1 x2 x3 M) := by
  intro n
  induction n with
  | zero => intro x0 x1 x2 x3 M; rw [f_X12_fits_19]; exact v_none
  | succ n ih =>
    intro x0 x1 x2 x3 M
    rw [f_X12_fits_19]
    refine v_iload_n X 20 3 dX12_fits_19 rfl rfl ?_
    refine v_aload_n X 21 0 dX12_fits_20 rfl rfl ?_
    refine v_getR X 24 fl_X12_43.r dX12_fits_21 rfl (fun v1 => ?_)
    refine v_bipush X 26 dX12_fits_24 bk_45 rfl ?_
    refine v_iald X 27 dX12_fits_26 rfl (fun v2 => ?_)
    refine v_icge X 30 98 dX12_fits_27 rfl rfl ?_ ?_
    · refine v_iinc X 101 2 (fun z => [(0, .ref x0), (1, .int x1), (2, .int z), (3, .int x3)]) dX12_fits_98 rfl ik_1 (by decide) (fun _ => rfl) rfl (fun y3 => ?_)
      refine v_goto X 9 dX12_fits_101 rfl ?_
      exact v_sb [0, 1, 2] (hK9 _ _ _ _) rfl
    · refine v_iload_n X 31 1 dX12_fits_30 rfl rfl ?_
      refine v_aload_n X 32 0 dX12_fits_31 rfl rfl ?_
      refine v_getR X 35 fl_X12_43.r dX12_fits_32 rfl (fun v4 => ?_)
      refine v_iload_n X 36 3 dX12_fits_35 rfl rfl ?_
      refine v_sI X 39 cs_X12_who ml_X12_293 (n1 := 1) rfl [.ref v4, .int x3] rfl rfl rfl dX12_fits_36 rfl (fun r M1 h => c_X12_who _ _ _ _ _ _ h) (fun r6 M5 => ?_)
      refine v_aload_n X 40 0 dX12_fits_39 rfl rfl ?_
      refine v_getR X 43 fl_X12_112.r dX12_fits_40 rfl (fun v7 => ?_)
      refine v_iload_n X 44 2 dX12_fits_43 rfl rfl ?_
      refine v_iald X 45 dX12_fits_44 rfl (fun v8 => ?_)
      refine v_icne X 48 89 dX12_fits_45 rfl rfl ?_ ?_
      · exact v_sb [0, 2, 3] (L_X12_fits_89 X Y hK9 ih _ _ _ _ _) rfl
      · refine v_aload_n X 49 0 dX12_fits_48 rfl rfl ?_
        refine v_getR X 52 fl_X12_43.r dX12_fits_49 rfl (fun v9 => ?_)
        refine v_iload_n X 53 3 dX12_fits_52 rfl rfl ?_
        refine v_sI X 56 cs_X12_what ml_X12_278 (n1 := 1) rfl [.ref v9, .int x3] rfl rfl rfl dX12_fits_53 rfl (fun r M1 h => c_X12_what _ _ _ _ _ _ h) (fun r11 M10 => ?_)
        refine v_aload_n X 57 0 dX12_fits_56 rfl rfl ?_
        refine v_getR X 60 fl_X12_115.r dX12_fits_57 rfl (fun v12 => ?_)
        refine v_iload_n X 61 2 dX12_fits_60 rfl rfl ?_
        refine v_iald X 62 dX12_fits_61 rfl (fun v13 => ?_)
        refine v_icne X 65 89 dX12_fits_62 rfl rfl ?_ ?_
        · exact v_sb [0, 2, 3] (L_X12_fits_89 X Y hK9 ih _ _ _ _ _) rfl
        · refine v_aload_n X 66 0 dX12_fits_65 rfl rfl ?_
          refine v_aload_n X 67 0 dX12_fits_66 rfl rfl ?_
          refine v_getR X 70 fl_X12_43.r dX12_fits_67 rfl (fun v14 => ?_)
          refine v_iload_n X 71 3 dX12_fits_70 rfl rfl ?_
          refine v_aload_n X 72 0 dX12_fits_71 rfl rfl ?_
          refine v_getR X 75 fl_X12_118.r dX12_fits_72 rfl (fun v15 => ?_)
          refine v_iload_n X 76 2 dX12_fits_75 rfl rfl ?_
          refine v_iald X 77 dX12_fits_76 rfl (fun v16 => ?_)
          refine v_vI X 80 cv_X12_isThere ml_X12_320 (n1 := 2) rfl [.ref v14, .int x3, .int v16] rfl rfl rfl dX12_fits_77 rfl (fun r M1 h => c_X12_isThere _ _ _ _ _ _ _ _ h) (fun r18 M17 => ?_)
          refine v_ifeq X 83 89 dX12_fits_80 rfl rfl ?_ ?_
          · exact v_sb [0, 2, 3] (L_X12_fits_89 X Y hK9 ih _ _ _ _ _) rfl
          · refine v_iconst X 84 dX12_fits_83 ik_1 rfl ?_
            refine v_iload_n X 85 2 dX12_fits_84 rfl rfl ?_
            refine v_ishl X 86 dX12_fits_85 rfl ?_
            refine v_goto X 90 dX12_fits_86 rfl ?_
            exact v_sb [0, 2, 3] (L_X12_fits_90 X Y hK9 ih _ _ _ _ _ _) rfl
set_option maxRecDepth 4000 in
theorem L_X12_fits_9 {G : Gx} (X : Cb G cX12_fits 4 RX12 (RM 3 0 0) false) (Y : Cr G (some .int) 0 0) : ∀ (n : Nat) (x0 : Nat) (x1 : Int32) (x2 : Int32) (M : MM), V G trI 4 0 0 9 [(0, .ref x0), (1, .int x1), (2, .int x2)] [] M (f_X12_fits_9 n x0 x1 x2 M) := by
  intro n
  induction n with
  | zero => intro x0 x1 x2 M; rw [f_X12_fits_9]; exact v_none
  | succ n ih =>
    intro x0 x1 x2 M
    rw [f_X12_fits_9]
    refine v_iload_n X 10 2 dX12_fits_9 rfl rfl ?_
    refine v_aload_n X 11 0 dX12_fits_10 rfl rfl ?_
    refine v_getI X 14 fl_X12_494.r dX12_fits_11 rfl (fun v1 => ?_)
    refine v_icge X 17 104 dX12_fits_14 rfl rfl ?_ ?_
    · refine v_aload_n X 105 0 dX12_fits_104 rfl rfl ?_
      refine v_iconst X 106 dX12_fits_105 ik_0 rfl ?_
      refine v_putI X 109 fl_X12_140 nof dX12_fits_106 rfl (fun M2 => ?_)
      refine v_aload_n X 110 0 dX12_fits_109 rfl rfl ?_
      refine v_iload_n X 111 1 dX12_fits_110 rfl rfl ?_
      refine v_i2l X 112 dX12_fits_111 rfl ?_
      refine v_vV X 115 cv_X12_enters ml_X12_414 (n1 := 1) rfl [.long (Int32.toInt64 x1)] rfl rfl rfl dX12_fits_112 rfl (fun M1 h => c_X12_enters _ _ _ _ _ h) (fun M3 => ?_)
      refine v_iload_n X 116 1 dX12_fits_115 rfl rfl ?_
      refine v_sI X 119 cs_J6_bitCount_0f7a4 ml_X12_428 (n1 := 1) rfl [.int x1] rfl rfl rfl dX12_fits_116 rfl (fun r M1 h => c_J6_bitCount_0f7a4 _ _ _ _ _ h) (fun r5 M4 => ?_)
      exact v_iret X Y (Nat.le_refl _) (Nat.le_refl _) dX12_fits_119
    · refine v_iconst X 18 dX12_fits_17 ik_0 rfl ?_
      refine v_istore_n (lv' := [(0, .ref x0), (1, .int x1), (2, .int x2), (3, .int (0 : Int32))]) X 19 dX12_fits_18 (by decide) rfl rfl ?_
      exact L_X12_fits_19 X Y ih 1024 _ _ _ _ _
set_option maxRecDepth 4000 in
theorem L_X12_fits_0 {G : Gx} (X : Cb G cX12_fits 4 RX12 (RM 3 0 0) false) (Y : Cr G (some .int) 0 0) (x0 : Nat) (M : MM) : V G trI 4 0 0 0 [(0, .ref x0)] [] M (f_X12_fits_0 x0 M) := by
  unfold f_X12_fits_0
  refine v_aload_n X 1 0 dX12_fits_0 rfl rfl ?_
  refine v_iconst X 2 dX12_fits_1 ik_0 rfl ?_
  refine v_putI X 5 fl_X12_133 nof dX12_fits_2 rfl (fun M1 => ?_)
  refine v_iconst X 6 dX12_fits_5 ik_0 rfl ?_
  refine v_istore_n (lv' := [(0, .ref x0), (1, .int (0 : Int32))]) X 7 dX12_fits_6 (by decide) rfl rfl ?_
  refine v_iconst X 8 dX12_fits_7 ik_0 rfl ?_
  refine v_istore_n (lv' := [(0, .ref x0), (1, .int (0 : Int32)), (2, .int (0 : Int32))]) X 9 dX12_fits_8 (by decide) rfl rfl ?_
  exact L_X12_fits_9 X Y 1024 _ _ _ _
theorem c_X12_fits (l : Launch) (x0 : Nat) (M : MM) (r : Int32) (M1 : MM) (h : f_X12_fits x0 M = some (r, M1)) : KV l yX12_fits cX12_fits 4 (some .int) (RM 3 0 0) false 12 x0 [] M (some (.int r)) M1 := by
  obtain ⟨hO, h2⟩ := iteO_some h
  exact ⟨hO, ct_of (tr := trI) (by decide) (Nat.le_of_ble_eq_true rfl) [(0, .ref x0)] rfl h2 (fun G X Y hn hl => L_X12_fits_0 X Y x0 M)⟩

def f_X12_canHaveGone_133 (K51 : Nat → Int32 → Int32 → Int32 → Int32 → MM → Option (Int32 × MM)) (x0 : Nat) (x1 : Int32) (x2 : Int32) (x5 : Int32) (s0 : Int32) (M : MM) : Option (Int32 × MM) :=
    bn (x5 + 1 : Int32) fun y1 =>
    K51 x0 x1 x2 s0 y1 M

def f_X12_canHaveGone_128 (K51 : Nat → Int32 → Int32 → Int32 → Int32 → MM → Option (Int32 × MM)) (x0 : Nat) (x1 : Int32) (x2 : Int32) (x5 : Int32) (M : MM) : Option (Int32 × MM) :=
    f_X12_canHaveGone_133 K51 x0 x1 x2 x5 (1 : Int32) M

def f_X12_canHaveGone_132 (K51 : Nat → Int32 → Int32 → Int32 → Int32 → MM → Option (Int32 × MM)) (x0 : Nat) (x1 : Int32) (x2 : Int32) (x5 : Int32) (M : MM) : Option (Int32 × MM) :=
    f_X12_canHaveGone_133 K51 x0 x1 x2 x5 (0 : Int32) M

def f_X12_canHaveGone_51 : Nat → Nat → Int32 → Int32 → Int32 → Int32 → MM → Option (Int32 × MM)
  | 0, _, _, _, _, _, _ => none
  | n + 1, x0, x1, x2, x4, x5, M =>
    b1 (gI 12 51 x0 M) fun v1 =>
    if v1 ≤ x5 then
      rz x4 M
    else
      if x4 = 0 then
        rz x4 M
      else
        b1 (gR 12 52 x0 M) fun v2 =>
        b1 (ldI v2 x5 M) fun v3 =>
        if v3 = x1 then
          b1 (gR 12 53 x0 M) fun v4 =>
          b1 (ldI v4 x5 M) fun v5 =>
          if v5 = x2 then
            b1 (gR 12 16 x0 M) fun v11 =>
            b1 (gR 12 54 x0 M) fun v12 =>
            b1 (ldI v12 x5 M) fun v13 =>
            b2 (f_X12_isThere x0 v11 (0 : Int32) v13 M) fun r15 M14 =>
            if r15 = 0 then
              f_X12_canHaveGone_132 (f_X12_canHaveGone_51 n) x0 x1 x2 x5 M14
            else
              f_X12_canHaveGone_128 (f_X12_canHaveGone_51 n) x0 x1 x2 x5 M14
          else
            b1 (gR 12 16 x0 M) fun v6 =>
            b1 (gR 12 54 x0 M) fun v7 =>
            b1 (ldI v7 x5 M) fun v8 =>
            b2 (f_X12_isAway x0 v6 (0 : Int32) v8 M) fun r10 M9 =>
            if r10 = 0 then
              f_X12_canHaveGone_128 (f_X12_canHaveGone_51 n) x0 x1 x2 x5 M9
            else
              f_X12_canHaveGone_132 (f_X12_canHaveGone_51 n) x0 x1 x2 x5 M9
        else
          f_X12_canHaveGone_128 (f_X12_canHaveGone_51 n) x0 x1 x2 x5 M

def f_X12_canHaveGone_46 (x0 : Nat) (x1 : Int32) (x2 : Int32) (s0 : Int32) (M : MM) : Option (Int32 × MM) :=
    f_X12_canHaveGone_51 1024 x0 x1 x2 s0 (0 : Int32) M

def f_X12_canHaveGone_45 (x0 : Nat) (x1 : Int32) (x2 : Int32) (M : MM) : Option (Int32 × MM) :=
    f_X12_canHaveGone_46 x0 x1 x2 (0 : Int32) M

def f_X12_canHaveGone_0 (x0 : Nat) (x1 : Int32) (x2 : Int32) (x3 : Int32) (M : MM) : Option (Int32 × MM) :=
    b1 (gR 12 16 x0 M) fun v1 =>
    b1 (stI v1 (45 : Int32) (0 : Int32) M) fun M2 =>
    b1 (gR 12 16 x0 M2) fun v3 =>
    b1 (f_X12_comes v3 x1 x2 x3 M2) fun M4 =>
    b2 (f_X12_awayLong x0 x2 M4) fun r6 M5 =>
    b1 (gI 12 6 x0 M5) fun v7 =>
    if v7 < (x3 + r6) then
      f_X12_canHaveGone_45 x0 x1 x2 M5
    else
      b2 (f_X12_fitsIn x0 x2 x3 M5) fun r9 M8 =>
      if r9 = 0 then
        f_X12_canHaveGone_45 x0 x1 x2 M8
      else
        f_X12_canHaveGone_46 x0 x1 x2 (1 : Int32) M8

def f_X12_canHaveGone (x0 : Nat) (x1 : Int32) (x2 : Int32) (x3 : Int32) (M : MM) : Option (Int32 × MM) := if isO 12 x0 M = true then f_X12_canHaveGone_0 x0 x1 x2 x3 M else none
set_option maxRecDepth 4000 in
theorem L_X12_canHaveGone_133 {G : Gx} (X : Cb G cX12_canHaveGone 6 RX12 (RM 4 0 0) false) (Y : Cr G (some .boolean) 0 0) {K51 : Nat → Int32 → Int32 → Int32 → Int32 → MM → Option (Int32 × MM)} (hK51 : ∀ (x0 : Nat) (x1 : Int32) (x2 : Int32) (x4 : Int32) (x5 : Int32) (M : MM), V G trI 6 0 0 51 [(0, .ref x0), (1, .int x1), (2, .int x2), (4, .int x4), (5, .int x5)] [] M (K51 x0 x1 x2 x4 x5 M)) (x0 : Nat) (x1 : Int32) (x2 : Int32) (x5 : Int32) (s0 : Int32) (M : MM) : V G trI 6 0 0 133 [(0, .ref x0), (1, .int x1), (2, .int x2), (5, .int x5)] [.int s0] M (f_X12_canHaveGone_133 K51 x0 x1 x2 x5 s0 M) := by
  unfold f_X12_canHaveGone_133
  refine v_istore (lv' := [(0, .ref x0), (1, .int x1), (2, .int x2), (4, .int s0), (5, .int x5)]) X 135 dX12_canHaveGone_133 (by decide) rfl rfl ?_
  refine v_iinc X 138 4 (fun z => [(0, .ref x0), (1, .int x1), (2, .int x2), (4, .int s0), (5, .int z)]) dX12_canHaveGone_135 rfl ik_1 (by decide) (fun _ => rfl) rfl (fun y1 => ?_)
  refine v_goto X 51 dX12_canHaveGone_138 rfl ?_
  exact hK51 _ _ _ _ _ _
set_option maxRecDepth 4000 in
theorem L_X12_canHaveGone_128 {G : Gx} (X : Cb G cX12_canHaveGone 6 RX12 (RM 4 0 0) false) (Y : Cr G (some .boolean) 0 0) {K51 : Nat → Int32 → Int32 → Int32 → Int32 → MM → Option (Int32 × MM)} (hK51 : ∀ (x0 : Nat) (x1 : Int32) (x2 : Int32) (x4 : Int32) (x5 : Int32) (M : MM), V G trI 6 0 0 51 [(0, .ref x0), (1, .int x1), (2, .int x2), (4, .int x4), (5, .int x5)] [] M (K51 x0 x1 x2 x4 x5 M)) (x0 : Nat) (x1 : Int32) (x2 : Int32) (x5 : Int32) (M : MM) : V G trI 6 0 0 128 [(0, .ref x0), (1, .int x1), (2, .int x2), (5, .int x5)] [] M (f_X12_canHaveGone_128 K51 x0 x1 x2 x5 M) := by
  unfold f_X12_canHaveGone_128
  refine v_iconst X 129 dX12_canHaveGone_128 ik_1 rfl ?_
  refine v_goto X 133 dX12_canHaveGone_129 rfl ?_
  exact L_X12_canHaveGone_133 X Y hK51 _ _ _ _ _ _
set_option maxRecDepth 4000 in
theorem L_X12_canHaveGone_132 {G : Gx} (X : Cb G cX12_canHaveGone 6 RX12 (RM 4 0 0) false) (Y : Cr G (some .boolean) 0 0) {K51 : Nat → Int32 → Int32 → Int32 → Int32 → MM → Option (Int32 × MM)} (hK51 : ∀ (x0 : Nat) (x1 : Int32) (x2 : Int32) (x4 : Int32) (x5 : Int32) (M : MM), V G trI 6 0 0 51 [(0, .ref x0), (1, .int x1), (2, .int x2), (4, .int x4), (5, .int x5)] [] M (K51 x0 x1 x2 x4 x5 M)) (x0 : Nat) (x1 : Int32) (x2 : Int32) (x5 : Int32) (M : MM) : V G trI 6 0 0 132 [(0, .ref x0), (1, .int x1), (2, .int x2), (5, .int x5)] [] M (f_X12_canHaveGone_132 K51 x0 x1 x2 x5 M) := by
  unfold f_X12_canHaveGone_132
  refine v_iconst X 133 dX12_canHaveGone_132 ik_0 rfl ?_
  exact L_X12_canHaveGone_133 X Y hK51 _ _ _ _ _ _
set_option maxRecDepth 4000 in
theorem L_X12_canHaveGone_51 {G : Gx} (X : Cb G cX12_canHaveGone 6 RX12 (RM 4 0 0) false) (Y : Cr G (some .boolean) 0 0) : ∀ (n : Nat) (x0 : Nat) (x1 : Int32) (x2 : Int32) (x4 : Int32) (x5 : Int32) (M : MM), V G trI 6 0 0 51 [(0, .ref x0), (1, .int x1), (2, .int x2), (4, .int x4), (5, .int x5)] [] M (f_X12_canHaveGone_51 n x0 x1 x2 x4 x5 M) := by
  intro n
  induction n with
  | zero => intro x0 x1 x2 x4 x5 M; rw [f_X12_canHaveGone_51]; exact v_none
  | succ n ih =>
    intro x0 x1 x2 x4 x5 M
    rw [f_X12_canHaveGone_51]
    refine v_iload X 53 4 dX12_canHaveGone_51 rfl rfl ?_
    refine v_aload_n X 54 0 dX12_canHaveGone_53 rfl rfl ?_
    refine v_getI X 57 fl_X12_494.r dX12_canHaveGone_54 rfl (fun v1 => ?_)
    refine v_icge X 60 141 dX12_canHaveGone_57 rfl rfl ?_ ?_
    · refine v_iload X 143 3 dX12_canHaveGone_141 rfl rfl ?_
      exact v_zret X Y (Nat.le_refl _) (Nat.le_refl _) dX12_canHaveGone_143
    · refine v_iload X 62 3 dX12_canHaveGone_60 rfl rfl ?_
      refine v_ifeq X 65 141 dX12_canHaveGone_62 rfl rfl ?_ ?_
      · refine v_iload X 143 3 dX12_canHaveGone_141 rfl rfl ?_
        exact v_zret X Y (Nat.le_refl _) (Nat.le_refl _) dX12_canHaveGone_143
      · refine v_aload_n X 66 0 dX12_canHaveGone_65 rfl rfl ?_
        refine v_getR X 69 fl_X12_112.r dX12_canHaveGone_66 rfl (fun v2 => ?_)
        refine v_iload X 71 4 dX12_canHaveGone_69 rfl rfl ?_
        refine v_iald X 72 dX12_canHaveGone_71 rfl (fun v3 => ?_)
        refine v_iload_n X 73 1 dX12_canHaveGone_72 rfl rfl ?_
        refine v_icne X 76 128 dX12_canHaveGone_73 rfl rfl ?_ ?_
        · exact v_sb [0, 1, 2, 4] (L_X12_canHaveGone_128 X Y ih _ _ _ _ _) rfl
        · refine v_aload_n X 77 0 dX12_canHaveGone_76 rfl rfl ?_
          refine v_getR X 80 fl_X12_115.r dX12_canHaveGone_77 rfl (fun v4 => ?_)
          refine v_iload X 82 4 dX12_canHaveGone_80 rfl rfl ?_
          refine v_iald X 83 dX12_canHaveGone_82 rfl (fun v5 => ?_)
          refine v_iload_n X 84 2 dX12_canHaveGone_83 rfl rfl ?_
          refine v_icne X 87 109 dX12_canHaveGone_84 rfl rfl ?_ ?_
          · refine v_aload_n X 110 0 dX12_canHaveGone_109 rfl rfl ?_
            refine v_aload_n X 111 0 dX12_canHaveGone_110 rfl rfl ?_
            refine v_getR X 114 fl_X12_46.r dX12_canHaveGone_111 rfl (fun v6 => ?_)
            refine v_iconst X 115 dX12_canHaveGone_114 ik_0 rfl ?_
            refine v_aload_n X 116 0 dX12_canHaveGone_115 rfl rfl ?_
            refine v_getR X 119 fl_X12_118.r dX12_canHaveGone_116 rfl (fun v7 => ?_)
            refine v_iload X 121 4 dX12_canHaveGone_119 rfl rfl ?_
            refine v_iald X 122 dX12_canHaveGone_121 rfl (fun v8 => ?_)
            refine v_vI X 125 cv_X12_isAway ml_X12_317 (n1 := 3) rfl [.ref v6, .int (0 : Int32), .int v8] rfl rfl rfl dX12_canHaveGone_122 rfl (fun r M1 h => c_X12_isAway _ _ _ _ _ _ _ _ h) (fun r10 M9 => ?_)
            refine v_ifne X 128 132 dX12_canHaveGone_125 rfl rfl ?_ ?_
            · exact v_sb [0, 1, 2, 4] (L_X12_canHaveGone_132 X Y ih _ _ _ _ _) rfl
            · exact v_sb [0, 1, 2, 4] (L_X12_canHaveGone_128 X Y ih _ _ _ _ _) rfl
          · refine v_aload_n X 88 0 dX12_canHaveGone_87 rfl rfl ?_
            refine v_aload_n X 89 0 dX12_canHaveGone_88 rfl rfl ?_
            refine v_getR X 92 fl_X12_46.r dX12_canHaveGone_89 rfl (fun v11 => ?_)
            refine v_iconst X 93 dX12_canHaveGone_92 ik_0 rfl ?_
            refine v_aload_n X 94 0 dX12_canHaveGone_93 rfl rfl ?_
            refine v_getR X 97 fl_X12_118.r dX12_canHaveGone_94 rfl (fun v12 => ?_)
            refine v_iload X 99 4 dX12_canHaveGone_97 rfl rfl ?_
            refine v_iald X 100 dX12_canHaveGone_99 rfl (fun v13 => ?_)
            refine v_vI X 103 cv_X12_isThere ml_X12_320 (n1 := 2) rfl [.ref v11, .int (0 : Int32), .int v13] rfl rfl rfl dX12_canHaveGone_100 rfl (fun r M1 h => c_X12_isThere _ _ _ _ _ _ _ _ h) (fun r15 M14 => ?_)
            refine v_ifeq X 106 132 dX12_canHaveGone_103 rfl rfl ?_ ?_
            · exact v_sb [0, 1, 2, 4] (L_X12_canHaveGone_132 X Y ih _ _ _ _ _) rfl
            · refine v_goto X 128 dX12_canHaveGone_106 rfl ?_
              exact v_sb [0, 1, 2, 4] (L_X12_canHaveGone_128 X Y ih _ _ _ _ _) rfl
set_option maxRecDepth 4000 in
theorem L_X12_canHaveGone_46 {G : Gx} (X : Cb G cX12_canHaveGone 6 RX12 (RM 4 0 0) false) (Y : Cr G (some .boolean) 0 0) (x0 : Nat) (x1 : Int32) (x2 : Int32) (s0 : Int32) (M : MM) : V G trI 6 0 0 46 [(0, .ref x0), (1, .int x1), (2, .int x2)] [.int s0] M (f_X12_canHaveGone_46 x0 x1 x2 s0 M) := by
  unfold f_X12_canHaveGone_46
  refine v_istore (lv' := [(0, .ref x0), (1, .int x1), (2, .int x2), (4, .int s0)]) X 48 dX12_canHaveGone_46 (by decide) rfl rfl ?_
  refine v_iconst X 49 dX12_canHaveGone_48 ik_0 rfl ?_
  refine v_istore (lv' := [(0, .ref x0), (1, .int x1), (2, .int x2), (4, .int s0), (5, .int (0 : Int32))]) X 51 dX12_canHaveGone_49 (by decide) rfl rfl ?_
  exact L_X12_canHaveGone_51 X Y 1024 _ _ _ _ _ _
set_option maxRecDepth 4000 in
theorem L_X12_canHaveGone_45 {G : Gx} (X : Cb G cX12_canHaveGone 6 RX12 (RM 4 0 0) false) (Y : Cr G (some .boolean) 0 0) (x0 : Nat) (x1 : Int32) (x2 : Int32) (M : MM) : V G trI 6 0 0 45 [(0, .ref x0), (1, .int x1), (2, .int x2)] [] M (f_X12_canHaveGone_45 x0 x1 x2 M) := by
  unfold f_X12_canHaveGone_45
  refine v_iconst X 46 dX12_canHaveGone_45 ik_0 rfl ?_
  exact L_X12_canHaveGone_46 X Y _ _ _ _ _
set_option maxRecDepth 4000 in
theorem L_X12_canHaveGone_0 {G : Gx} (X : Cb G cX12_canHaveGone 6 RX12 (RM 4 0 0) false) (Y : Cr G (some .boolean) 0 0) (x0 : Nat) (x1 : Int32) (x2 : Int32) (x3 : Int32) (M : MM) : V G trI 6 0 0 0 [(0, .ref x0), (1, .int x1), (2, .int x2), (3, .int x3)] [] M (f_X12_canHaveGone_0 x0 x1 x2 x3 M) := by
  unfold f_X12_canHaveGone_0
  refine v_aload_n X 1 0 dX12_canHaveGone_0 rfl rfl ?_
  refine v_getR X 4 fl_X12_46.r dX12_canHaveGone_1 rfl (fun v1 => ?_)
  refine v_bipush X 6 dX12_canHaveGone_4 bk_45 rfl ?_
  refine v_iconst X 7 dX12_canHaveGone_6 ik_0 rfl ?_
  refine v_iast X 8 dX12_canHaveGone_7 rfl (fun M2 => ?_)
  refine v_aload_n X 9 0 dX12_canHaveGone_8 rfl rfl ?_
  refine v_getR X 12 fl_X12_46.r dX12_canHaveGone_9 rfl (fun v3 => ?_)
  refine v_iload_n X 13 1 dX12_canHaveGone_12 rfl rfl ?_
  refine v_iload_n X 14 2 dX12_canHaveGone_13 rfl rfl ?_
  refine v_iload_n X 15 3 dX12_canHaveGone_14 rfl rfl ?_
  refine v_sV X 18 cs_X12_comes ml_X12_336 (n1 := 1) rfl [.ref v3, .int x1, .int x2, .int x3] rfl rfl rfl dX12_canHaveGone_15 rfl (fun M1 h => c_X12_comes _ _ _ _ _ _ _ h) (fun M4 => ?_)
  refine v_iload_n X 19 3 dX12_canHaveGone_18 rfl rfl ?_
  refine v_aload_n X 20 0 dX12_canHaveGone_19 rfl rfl ?_
  refine v_iload_n X 21 2 dX12_canHaveGone_20 rfl rfl ?_
  refine v_vI X 24 cv_X12_awayLong ml_X12_281 (n1 := 1) rfl [.int x2] rfl rfl rfl dX12_canHaveGone_21 rfl (fun r M1 h => c_X12_awayLong _ _ _ _ _ _ h) (fun r6 M5 => ?_)
  refine v_iadd X 25 dX12_canHaveGone_24 rfl ?_
  refine v_aload_n X 26 0 dX12_canHaveGone_25 rfl rfl ?_
  refine v_getI X 29 fl_X12_13.r dX12_canHaveGone_26 rfl (fun v7 => ?_)
  refine v_icgt X 32 45 dX12_canHaveGone_29 rfl rfl ?_ ?_
  · exact v_sb [0, 1, 2] (L_X12_canHaveGone_45 X Y _ _ _ _) rfl
  · refine v_aload_n X 33 0 dX12_canHaveGone_32 rfl rfl ?_
    refine v_iload_n X 34 2 dX12_canHaveGone_33 rfl rfl ?_
    refine v_iload_n X 35 3 dX12_canHaveGone_34 rfl rfl ?_
    refine v_vI X 38 cv_X12_fitsIn ml_X12_289 (n1 := 2) rfl [.int x2, .int x3] rfl rfl rfl dX12_canHaveGone_35 rfl (fun r M1 h => c_X12_fitsIn _ _ _ _ _ _ _ h) (fun r9 M8 => ?_)
    refine v_ifeq X 41 45 dX12_canHaveGone_38 rfl rfl ?_ ?_
    · exact v_sb [0, 1, 2] (L_X12_canHaveGone_45 X Y _ _ _ _) rfl
    · refine v_iconst X 42 dX12_canHaveGone_41 ik_1 rfl ?_
      refine v_goto X 46 dX12_canHaveGone_42 rfl ?_
      exact v_sb [0, 1, 2] (L_X12_canHaveGone_46 X Y _ _ _ _ _) rfl
theorem c_X12_canHaveGone (l : Launch) (x0 : Nat) (x1 : Int32) (x2 : Int32) (x3 : Int32) (M : MM) (r : Int32) (M1 : MM) (h : f_X12_canHaveGone x0 x1 x2 x3 M = some (r, M1)) : KV l yX12_canHaveGone cX12_canHaveGone 6 (some .boolean) (RM 4 0 0) false 12 x0 [.int x1, .int x2, .int x3] M (some (.int r)) M1 := by
  obtain ⟨hO, h2⟩ := iteO_some h
  exact ⟨hO, ct_of (tr := trI) (by decide) (Nat.le_of_ble_eq_true rfl) [(0, .ref x0), (1, .int x1), (2, .int x2), (3, .int x3)] rfl h2 (fun G X Y hn hl => L_X12_canHaveGone_0 X Y x0 x1 x2 x3 M)⟩

def f_X12_since_73 (K34 : Nat → Int32 → Int32 → Int32 → Int32 → Int32 → Int32 → MM → Option (Int32 × MM)) (x0 : Nat) (x1 : Int32) (x2 : Int32) (x3 : Int32) (x4 : Int32) (x5 : Int32) (x6 : Int32) (M : MM) : Option (Int32 × MM) :=
    bn (x6 + 1 : Int32) fun y1 =>
    K34 x0 x1 x2 x3 x4 x5 y1 M

def f_X12_since_64 (K34 : Nat → Int32 → Int32 → Int32 → Int32 → Int32 → Int32 → MM → Option (Int32 × MM)) (x0 : Nat) (x1 : Int32) (x2 : Int32) (x3 : Int32) (x6 : Int32) (s0 : Int32) (M : MM) : Option (Int32 × MM) :=
    bn (x3 + 1 : Int32) fun y1 =>
    f_X12_since_73 K34 x0 x1 x2 y1 s0 x6 x6 M

def f_X12_since_34 : Nat → Nat → Int32 → Int32 → Int32 → Int32 → Int32 → Int32 → MM → Option (Int32 × MM)
  | 0, _, _, _, _, _, _, _, _ => none
  | n + 1, x0, x1, x2, x3, x4, x5, x6, M =>
    if (99 : Int32) < x6 then
      b1 (pI 12 1 x0 (0 : Int32) M) fun M1 =>
      b1 (f_X12_enters x0 (Int32.toInt64 x4) M1) fun M2 =>
      b1 (f_X12_enters x0 (Int32.toInt64 x5) M2) fun M3 =>
      some (x3, M3)
    else
      b2 (f_X12_canHaveGone x0 x1 x2 x6 M) fun r5 M4 =>
      if r5 = 0 then
        f_X12_since_73 (f_X12_since_34 n) x0 x1 x2 x3 x4 x5 x6 M4
      else
        if 0 ≤ x4 then
          f_X12_since_64 (f_X12_since_34 n) x0 x1 x2 x3 x6 x4 M4
        else
          f_X12_since_64 (f_X12_since_34 n) x0 x1 x2 x3 x6 x6 M4

def f_X12_since_0 (x0 : Nat) (x1 : Int32) (x2 : Int32) (M : MM) : Option (Int32 × MM) :=
    b1 (pI 12 0 x0 (0 : Int32) M) fun M1 =>
    b2 (f_X12_isPerson x0 x1 M1) fun r3 M2 =>
    if r3 = 0 then
      some ((-1 : Int32), M2)
    else
      b2 (f_X12_isErrand x0 x2 M2) fun r5 M4 =>
      if r5 = 0 then
        some ((-1 : Int32), M4)
      else
        f_X12_since_34 1024 x0 x1 x2 (0 : Int32) (-1 : Int32) (-1 : Int32) (0 : Int32) M4

def f_X12_since (x0 : Nat) (x1 : Int32) (x2 : Int32) (M : MM) : Option (Int32 × MM) := if isO 12 x0 M = true then f_X12_since_0 x0 x1 x2 M else none
set_option maxRecDepth 4000 in
theorem L_X12_since_73 {G : Gx} (X : Cb G cX12_since 7 RX12 (RM 5 0 0) false) (Y : Cr G (some .int) 0 0) {K34 : Nat → Int32 → Int32 → Int32 → Int32 → Int32 → Int32 → MM → Option (Int32 × MM)} (hK34 : ∀ (x0 : Nat) (x1 : Int32) (x2 : Int32) (x3 : Int32) (x4 : Int32) (x5 : Int32) (x6 : Int32) (M : MM), V G trI 7 0 0 34 [(0, .ref x0), (1, .int x1), (2, .int x2), (3, .int x3), (4, .int x4), (5, .int x5), (6, .int x6)] [] M (K34 x0 x1 x2 x3 x4 x5 x6 M)) (x0 : Nat) (x1 : Int32) (x2 : Int32) (x3 : Int32) (x4 : Int32) (x5 : Int32) (x6 : Int32) (M : MM) : V G trI 7 0 0 73 [(0, .ref x0), (1, .int x1), (2, .int x2), (3, .int x3), (4, .int x4), (5, .int x5), (6, .int x6)] [] M (f_X12_since_73 K34 x0 x1 x2 x3 x4 x5 x6 M) := by
  unfold f_X12_since_73
  refine v_iinc X 76 6 (fun z => [(0, .ref x0), (1, .int x1), (2, .int x2), (3, .int x3), (4, .int x4), (5, .int x5), (6, .int z)]) dX12_since_73 rfl ik_1 (by decide) (fun _ => rfl) rfl (fun y1 => ?_)
  refine v_goto X 34 dX12_since_76 rfl ?_
  exact hK34 _ _ _ _ _ _ _ _
set_option maxRecDepth 4000 in
theorem L_X12_since_64 {G : Gx} (X : Cb G cX12_since 7 RX12 (RM 5 0 0) false) (Y : Cr G (some .int) 0 0) {K34 : Nat → Int32 → Int32 → Int32 → Int32 → Int32 → Int32 → MM → Option (Int32 × MM)} (hK34 : ∀ (x0 : Nat) (x1 : Int32) (x2 : Int32) (x3 : Int32) (x4 : Int32) (x5 : Int32) (x6 : Int32) (M : MM), V G trI 7 0 0 34 [(0, .ref x0), (1, .int x1), (2, .int x2), (3, .int x3), (4, .int x4), (5, .int x5), (6, .int x6)] [] M (K34 x0 x1 x2 x3 x4 x5 x6 M)) (x0 : Nat) (x1 : Int32) (x2 : Int32) (x3 : Int32) (x6 : Int32) (s0 : Int32) (M : MM) : V G trI 7 0 0 64 [(0, .ref x0), (1, .int x1), (2, .int x2), (3, .int x3), (6, .int x6)] [.int s0] M (f_X12_since_64 K34 x0 x1 x2 x3 x6 s0 M) := by
  unfold f_X12_since_64
  refine v_istore (lv' := [(0, .ref x0), (1, .int x1), (2, .int x2), (3, .int x3), (4, .int s0), (6, .int x6)]) X 66 dX12_since_64 (by decide) rfl rfl ?_
  refine v_iload X 68 5 dX12_since_66 rfl rfl ?_
  refine v_istore (lv' := [(0, .ref x0), (1, .int x1), (2, .int x2), (3, .int x3), (4, .int s0), (5, .int x6), (6, .int x6)]) X 70 dX12_since_68 (by decide) rfl rfl ?_
  refine v_iinc X 73 3 (fun z => [(0, .ref x0), (1, .int x1), (2, .int x2), (3, .int z), (4, .int s0), (5, .int x6), (6, .int x6)]) dX12_since_70 rfl ik_1 (by decide) (fun _ => rfl) rfl (fun y1 => ?_)
  exact L_X12_since_73 X Y hK34 _ _ _ _ _ _ _ _
set_option maxRecDepth 4000 in
theorem L_X12_since_34 {G : Gx} (X : Cb G cX12_since 7 RX12 (RM 5 0 0) false) (Y : Cr G (some .int) 0 0) : ∀ (n : Nat) (x0 : Nat) (x1 : Int32) (x2 : Int32) (x3 : Int32) (x4 : Int32) (x5 : Int32) (x6 : Int32) (M : MM), V G trI 7 0 0 34 [(0, .ref x0), (1, .int x1), (2, .int x2), (3, .int x3), (4, .int x4), (5, .int x5), (6, .int x6)] [] M (f_X12_since_34 n x0 x1 x2 x3 x4 x5 x6 M) := by
  intro n
  induction n with
  | zero => intro x0 x1 x2 x3 x4 x5 x6 M; rw [f_X12_since_34]; exact v_none
  | succ n ih =>
    intro x0 x1 x2 x3 x4 x5 x6 M
    rw [f_X12_since_34]
    refine v_iload X 36 6 dX12_since_34 rfl rfl ?_
    refine v_bipush X 38 dX12_since_36 bk_99 rfl ?_
    refine v_icgt X 41 79 dX12_since_38 rfl rfl ?_ ?_
    · refine v_aload_n X 80 0 dX12_since_79 rfl rfl ?_
      refine v_iconst X 81 dX12_since_80 ik_0 rfl ?_
      refine v_putI X 84 fl_X12_140 nof dX12_since_81 rfl (fun M1 => ?_)
      refine v_aload_n X 85 0 dX12_since_84 rfl rfl ?_
      refine v_iload X 87 4 dX12_since_85 rfl rfl ?_
      refine v_i2l X 88 dX12_since_87 rfl ?_
      refine v_vV X 91 cv_X12_enters ml_X12_414 (n1 := 1) rfl [.long (Int32.toInt64 x4)] rfl rfl rfl dX12_since_88 rfl (fun M1 h => c_X12_enters _ _ _ _ _ h) (fun M2 => ?_)
      refine v_aload_n X 92 0 dX12_since_91 rfl rfl ?_
      refine v_iload X 94 5 dX12_since_92 rfl rfl ?_
      refine v_i2l X 95 dX12_since_94 rfl ?_
      refine v_vV X 98 cv_X12_enters ml_X12_414 (n1 := 1) rfl [.long (Int32.toInt64 x5)] rfl rfl rfl dX12_since_95 rfl (fun M1 h => c_X12_enters _ _ _ _ _ h) (fun M3 => ?_)
      refine v_iload_n X 99 3 dX12_since_98 rfl rfl ?_
      exact v_iret X Y (Nat.le_refl _) (Nat.le_refl _) dX12_since_99
    · refine v_aload_n X 42 0 dX12_since_41 rfl rfl ?_
      refine v_iload_n X 43 1 dX12_since_42 rfl rfl ?_
      refine v_iload_n X 44 2 dX12_since_43 rfl rfl ?_
      refine v_iload X 46 6 dX12_since_44 rfl rfl ?_
      refine v_vI X 49 cv_X12_canHaveGone ml_X12_497 (n1 := 4) rfl [.int x1, .int x2, .int x6] rfl rfl rfl dX12_since_46 rfl (fun r M1 h => c_X12_canHaveGone _ _ _ _ _ _ _ _ h) (fun r5 M4 => ?_)
      refine v_ifeq X 52 73 dX12_since_49 rfl rfl ?_ ?_
      · exact L_X12_since_73 X Y ih _ _ _ _ _ _ _ _
      · refine v_iload X 54 4 dX12_since_52 rfl rfl ?_
        refine v_ifge X 57 62 dX12_since_54 rfl rfl ?_ ?_
        · refine v_iload X 64 4 dX12_since_62 rfl rfl ?_
          exact v_sb [0, 1, 2, 3, 6] (L_X12_since_64 X Y ih _ _ _ _ _ _ _) rfl
        · refine v_iload X 59 6 dX12_since_57 rfl rfl ?_
          refine v_goto X 64 dX12_since_59 rfl ?_
          exact v_sb [0, 1, 2, 3, 6] (L_X12_since_64 X Y ih _ _ _ _ _ _ _) rfl
set_option maxRecDepth 4000 in
theorem L_X12_since_0 {G : Gx} (X : Cb G cX12_since 7 RX12 (RM 5 0 0) false) (Y : Cr G (some .int) 0 0) (x0 : Nat) (x1 : Int32) (x2 : Int32) (M : MM) : V G trI 7 0 0 0 [(0, .ref x0), (1, .int x1), (2, .int x2)] [] M (f_X12_since_0 x0 x1 x2 M) := by
  unfold f_X12_since_0
  refine v_aload_n X 1 0 dX12_since_0 rfl rfl ?_
  refine v_iconst X 2 dX12_since_1 ik_0 rfl ?_
  refine v_putI X 5 fl_X12_133 nof dX12_since_2 rfl (fun M1 => ?_)
  refine v_aload_n X 6 0 dX12_since_5 rfl rfl ?_
  refine v_iload_n X 7 1 dX12_since_6 rfl rfl ?_
  refine v_vI X 10 cv_X12_isPerson ml_X12_247 (n1 := 2) rfl [.int x1] rfl rfl rfl dX12_since_7 rfl (fun r M1 h => c_X12_isPerson _ _ _ _ _ _ h) (fun r3 M2 => ?_)
  refine v_ifeq X 13 21 dX12_since_10 rfl rfl ?_ ?_
  · refine v_iconst X 22 dX12_since_21 ik_m1 rfl ?_
    exact v_iret X Y (Nat.le_refl _) (Nat.le_refl _) dX12_since_22
  · refine v_aload_n X 14 0 dX12_since_13 rfl rfl ?_
    refine v_iload_n X 15 2 dX12_since_14 rfl rfl ?_
    refine v_vI X 18 cv_X12_isErrand ml_X12_361 (n1 := 2) rfl [.int x2] rfl rfl rfl dX12_since_15 rfl (fun r M1 h => c_X12_isErrand _ _ _ _ _ _ h) (fun r5 M4 => ?_)
    refine v_ifne X 21 23 dX12_since_18 rfl rfl ?_ ?_
    · refine v_iconst X 24 dX12_since_23 ik_0 rfl ?_
      refine v_istore_n (lv' := [(0, .ref x0), (1, .int x1), (2, .int x2), (3, .int (0 : Int32))]) X 25 dX12_since_24 (by decide) rfl rfl ?_
      refine v_iconst X 26 dX12_since_25 ik_m1 rfl ?_
      refine v_istore (lv' := [(0, .ref x0), (1, .int x1), (2, .int x2), (3, .int (0 : Int32)), (4, .int (-1 : Int32))]) X 28 dX12_since_26 (by decide) rfl rfl ?_
      refine v_iconst X 29 dX12_since_28 ik_m1 rfl ?_
      refine v_istore (lv' := [(0, .ref x0), (1, .int x1), (2, .int x2), (3, .int (0 : Int32)), (4, .int (-1 : Int32)), (5, .int (-1 : Int32))]) X 31 dX12_since_29 (by decide) rfl rfl ?_
      refine v_iconst X 32 dX12_since_31 ik_0 rfl ?_
      refine v_istore (lv' := [(0, .ref x0), (1, .int x1), (2, .int x2), (3, .int (0 : Int32)), (4, .int (-1 : Int32)), (5, .int (-1 : Int32)), (6, .int (0 : Int32))]) X 34 dX12_since_32 (by decide) rfl rfl ?_
      exact L_X12_since_34 X Y 1024 _ _ _ _ _ _ _ _
    · refine v_iconst X 22 dX12_since_21 ik_m1 rfl ?_
      exact v_iret X Y (Nat.le_refl _) (Nat.le_refl _) dX12_since_22
theorem c_X12_since (l : Launch) (x0 : Nat) (x1 : Int32) (x2 : Int32) (M : MM) (r : Int32) (M1 : MM) (h : f_X12_since x0 x1 x2 M = some (r, M1)) : KV l yX12_since cX12_since 7 (some .int) (RM 5 0 0) false 12 x0 [.int x1, .int x2] M (some (.int r)) M1 := by
  obtain ⟨hO, h2⟩ := iteO_some h
  exact ⟨hO, ct_of (tr := trI) (by decide) (Nat.le_of_ble_eq_true rfl) [(0, .ref x0), (1, .int x1), (2, .int x2)] rfl h2 (fun G X Y hn hl => L_X12_since_0 X Y x0 x1 x2 M)⟩

def f_X12_stayed_78 (K30 : Nat → Int32 → Int32 → Int32 → MM → Option (Int32 × MM)) (x0 : Nat) (x1 : Int32) (x3 : Int32) (s0 : Int32) (s1 : Int32) (M : MM) : Option (Int32 × MM) :=
    bn (s1 &&& s0 : Int32) fun y1 =>
    bn (x3 + 1 : Int32) fun y2 =>
    K30 x0 x1 y1 y2 M

def f_X12_stayed_30 : Nat → Nat → Int32 → Int32 → Int32 → MM → Option (Int32 × MM)
  | 0, _, _, _, _, _ => none
  | n + 1, x0, x1, x2, x3, M =>
    b1 (gI 12 51 x0 M) fun v1 =>
    if v1 ≤ x3 then
      some (x2, M)
    else
      b1 (gR 12 54 x0 M) fun v2 =>
      b1 (ldI v2 x3 M) fun v3 =>
      b1 (gR 12 9 x0 M) fun v4 =>
      b1 (gR 12 53 x0 M) fun v5 =>
      b1 (ldI v5 x3 M) fun v6 =>
      b1 (ldI v4 v6 M) fun v7 =>
      if v7 < (absI (v3 - x1)) then
        f_X12_stayed_78 (f_X12_stayed_30 n) x0 x1 x3 (-1 : Int32) x2 M
      else
        b1 (gR 12 52 x0 M) fun v8 =>
        b1 (ldI v8 x3 M) fun v9 =>
        f_X12_stayed_78 (f_X12_stayed_30 n) x0 x1 x3 (((1 : Int32) <<< (v9 &&& 31)) ^^^ (-1 : Int32)) x2 M

def f_X12_stayed_0 (x0 : Nat) (x1 : Int32) (M : MM) : Option (Int32 × MM) :=
    b1 (pI 12 0 x0 (0 : Int32) M) fun M1 =>
    b2 (f_X12_in (Int32.toInt64 x1) (0 : Int64) (99 : Int64) M1) fun r3 M2 =>
    if r3 = 0 then
      some ((-1 : Int32), M2)
    else
      b1 (gI 12 3 x0 M2) fun v4 =>
      bn (((1 : Int32) <<< (v4 &&& 31)) - (1 : Int32) : Int32) fun y5 =>
      f_X12_stayed_30 1024 x0 x1 y5 (0 : Int32) M2

def f_X12_stayed (x0 : Nat) (x1 : Int32) (M : MM) : Option (Int32 × MM) := if isO 12 x0 M = true then f_X12_stayed_0 x0 x1 M else none
set_option maxRecDepth 4000 in
theorem L_X12_stayed_78 {G : Gx} (X : Cb G cX12_stayed 4 RX12 (RM 2 0 0) false) (Y : Cr G (some .int) 0 0) {K30 : Nat → Int32 → Int32 → Int32 → MM → Option (Int32 × MM)} (hK30 : ∀ (x0 : Nat) (x1 : Int32) (x2 : Int32) (x3 : Int32) (M : MM), V G trI 4 0 0 30 [(0, .ref x0), (1, .int x1), (2, .int x2), (3, .int x3)] [] M (K30 x0 x1 x2 x3 M)) (x0 : Nat) (x1 : Int32) (x3 : Int32) (s0 : Int32) (s1 : Int32) (M : MM) : V G trI 4 0 0 78 [(0, .ref x0), (1, .int x1), (3, .int x3)] [.int s0, .int s1] M (f_X12_stayed_78 K30 x0 x1 x3 s0 s1 M) := by
  unfold f_X12_stayed_78
  refine v_iand X 79 dX12_stayed_78 rfl ?_
  refine v_bnI (fun y1 => ?_)
  refine v_istore_n (lv' := [(0, .ref x0), (1, .int x1), (2, .int y1), (3, .int x3)]) X 80 dX12_stayed_79 (by decide) rfl rfl ?_
  refine v_iinc X 83 3 (fun z => [(0, .ref x0), (1, .int x1), (2, .int y1), (3, .int z)]) dX12_stayed_80 rfl ik_1 (by decide) (fun _ => rfl) rfl (fun y2 => ?_)
  refine v_goto X 30 dX12_stayed_83 rfl ?_
  exact hK30 _ _ _ _ _
set_option maxRecDepth 4000 in
theorem L_X12_stayed_30 {G : Gx} (X : Cb G cX12_stayed 4 RX12 (RM 2 0 0) false) (Y : Cr G (some .int) 0 0) : ∀ (n : Nat) (x0 : Nat) (x1 : Int32) (x2 : Int32) (x3 : Int32) (M : MM), V G trI 4 0 0 30 [(0, .ref x0), (1, .int x1), (2, .int x2), (3, .int x3)] [] M (f_X12_stayed_30 n x0 x1 x2 x3 M) := by
  intro n
  induction n with
  | zero => intro x0 x1 x2 x3 M; rw [f_X12_stayed_30]; exact v_none
  | succ n ih =>
    intro x0 x1 x2 x3 M
    rw [f_X12_stayed_30]
    refine v_iload_n X 31 3 dX12_stayed_30 rfl rfl ?_
    refine v_aload_n X 32 0 dX12_stayed_31 rfl rfl ?_
    refine v_getI X 35 fl_X12_494.r dX12_stayed_32 rfl (fun v1 => ?_)
    refine v_icge X 38 86 dX12_stayed_35 rfl rfl ?_ ?_
    · refine v_iload_n X 87 2 dX12_stayed_86 rfl rfl ?_
      exact v_iret X Y (Nat.le_refl _) (Nat.le_refl _) dX12_stayed_87
    · refine v_iload_n X 39 2 dX12_stayed_38 rfl rfl ?_
      refine v_aload_n X 40 0 dX12_stayed_39 rfl rfl ?_
      refine v_getR X 43 fl_X12_118.r dX12_stayed_40 rfl (fun v2 => ?_)
      refine v_iload_n X 44 3 dX12_stayed_43 rfl rfl ?_
      refine v_iald X 45 dX12_stayed_44 rfl (fun v3 => ?_)
      refine v_iload_n X 46 1 dX12_stayed_45 rfl rfl ?_
      refine v_isub X 47 dX12_stayed_46 rfl ?_
      refine v_abs X 50 ml_X12_500 w_abs (Nat.le_of_ble_eq_true rfl) (Nat.le_of_ble_eq_true rfl) (Nat.zero_le _) (Nat.zero_le _) dX12_stayed_47 rfl ?_
      refine v_aload_n X 51 0 dX12_stayed_50 rfl rfl ?_
      refine v_getR X 54 fl_X12_25.r dX12_stayed_51 rfl (fun v4 => ?_)
      refine v_aload_n X 55 0 dX12_stayed_54 rfl rfl ?_
      refine v_getR X 58 fl_X12_115.r dX12_stayed_55 rfl (fun v5 => ?_)
      refine v_iload_n X 59 3 dX12_stayed_58 rfl rfl ?_
      refine v_iald X 60 dX12_stayed_59 rfl (fun v6 => ?_)
      refine v_iald X 61 dX12_stayed_60 rfl (fun v7 => ?_)
      refine v_icgt X 64 77 dX12_stayed_61 rfl rfl ?_ ?_
      · refine v_iconst X 78 dX12_stayed_77 ik_m1 rfl ?_
        exact v_sb [0, 1, 3] (L_X12_stayed_78 X Y ih _ _ _ _ _ _) rfl
      · refine v_iconst X 65 dX12_stayed_64 ik_1 rfl ?_
        refine v_aload_n X 66 0 dX12_stayed_65 rfl rfl ?_
        refine v_getR X 69 fl_X12_112.r dX12_stayed_66 rfl (fun v8 => ?_)
        refine v_iload_n X 70 3 dX12_stayed_69 rfl rfl ?_
        refine v_iald X 71 dX12_stayed_70 rfl (fun v9 => ?_)
        refine v_ishl X 72 dX12_stayed_71 rfl ?_
        refine v_iconst X 73 dX12_stayed_72 ik_m1 rfl ?_
        refine v_ixor X 74 dX12_stayed_73 rfl ?_
        refine v_goto X 78 dX12_stayed_74 rfl ?_
        exact v_sb [0, 1, 3] (L_X12_stayed_78 X Y ih _ _ _ _ _ _) rfl
set_option maxRecDepth 4000 in
theorem L_X12_stayed_0 {G : Gx} (X : Cb G cX12_stayed 4 RX12 (RM 2 0 0) false) (Y : Cr G (some .int) 0 0) (x0 : Nat) (x1 : Int32) (M : MM) : V G trI 4 0 0 0 [(0, .ref x0), (1, .int x1)] [] M (f_X12_stayed_0 x0 x1 M) := by
  unfold f_X12_stayed_0
  refine v_aload_n X 1 0 dX12_stayed_0 rfl rfl ?_
  refine v_iconst X 2 dX12_stayed_1 ik_0 rfl ?_
  refine v_putI X 5 fl_X12_133 nof dX12_stayed_2 rfl (fun M1 => ?_)
  refine v_iload_n X 6 1 dX12_stayed_5 rfl rfl ?_
  refine v_i2l X 7 dX12_stayed_6 rfl ?_
  refine v_lconst X 8 dX12_stayed_7 lk_0 rfl ?_
  refine v_ldc2 X 11 dX12_stayed_8 kl_X12_374 rfl ?_
  refine v_sI X 14 cs_X12_in ml_X12_146 (n1 := 1) rfl [.long (Int32.toInt64 x1), .long (0 : Int64), .long (99 : Int64)] rfl rfl rfl dX12_stayed_11 rfl (fun r M1 h => c_X12_in _ _ _ _ _ _ _ h) (fun r3 M2 => ?_)
  refine v_ifne X 17 19 dX12_stayed_14 rfl rfl ?_ ?_
  · refine v_iconst X 20 dX12_stayed_19 ik_1 rfl ?_
    refine v_aload_n X 21 0 dX12_stayed_20 rfl rfl ?_
    refine v_getI X 24 fl_X12_143.r dX12_stayed_21 rfl (fun v4 => ?_)
    refine v_ishl X 25 dX12_stayed_24 rfl ?_
    refine v_iconst X 26 dX12_stayed_25 ik_1 rfl ?_
    refine v_isub X 27 dX12_stayed_26 rfl ?_
    refine v_bnI (fun y5 => ?_)
    refine v_istore_n (lv' := [(0, .ref x0), (1, .int x1), (2, .int y5)]) X 28 dX12_stayed_27 (by decide) rfl rfl ?_
    refine v_iconst X 29 dX12_stayed_28 ik_0 rfl ?_
    refine v_istore_n (lv' := [(0, .ref x0), (1, .int x1), (2, .int y5), (3, .int (0 : Int32))]) X 30 dX12_stayed_29 (by decide) rfl rfl ?_
    exact L_X12_stayed_30 X Y 1024 _ _ _ _ _
  · refine v_iconst X 18 dX12_stayed_17 ik_m1 rfl ?_
    exact v_iret X Y (Nat.le_refl _) (Nat.le_refl _) dX12_stayed_18
theorem c_X12_stayed (l : Launch) (x0 : Nat) (x1 : Int32) (M : MM) (r : Int32) (M1 : MM) (h : f_X12_stayed x0 x1 M = some (r, M1)) : KV l yX12_stayed cX12_stayed 4 (some .int) (RM 2 0 0) false 12 x0 [.int x1] M (some (.int r)) M1 := by
  obtain ⟨hO, h2⟩ := iteO_some h
  exact ⟨hO, ct_of (tr := trI) (by decide) (Nat.le_of_ble_eq_true rfl) [(0, .ref x0), (1, .int x1)] rfl h2 (fun G X Y hn hl => L_X12_stayed_0 X Y x0 x1 M)⟩

def f_X12_journey_164 (K64 : Nat → Int32 → Int32 → Int32 → Int32 → Int32 → MM → Option (Int32 × MM)) (K76 : Nat → Int32 → Int32 → Int32 → Int32 → Int32 → Int32 → Int32 → MM → Option (Int32 × MM)) (x0 : Nat) (x2 : Int32) (x3 : Int32) (x4 : Int32) (x5 : Int32) (x6 : Int32) (x7 : Int32) (x8 : Int32) (M : MM) : Option (Int32 × MM) :=
    bn (x8 + 1 : Int32) fun y1 =>
    K76 x0 x2 x3 x4 x5 x6 x7 y1 M

def f_X12_journey_162 (K64 : Nat → Int32 → Int32 → Int32 → Int32 → Int32 → MM → Option (Int32 × MM)) (K76 : Nat → Int32 → Int32 → Int32 → Int32 → Int32 → Int32 → Int32 → MM → Option (Int32 × MM)) (x0 : Nat) (x2 : Int32) (x3 : Int32) (x4 : Int32) (x5 : Int32) (x6 : Int32) (x8 : Int32) (s0 : Int32) (M : MM) : Option (Int32 × MM) :=
    f_X12_journey_164 K64 K76 x0 x2 x3 x4 x5 x6 s0 x8 M

def f_X12_journey_161 (K64 : Nat → Int32 → Int32 → Int32 → Int32 → Int32 → MM → Option (Int32 × MM)) (K76 : Nat → Int32 → Int32 → Int32 → Int32 → Int32 → Int32 → Int32 → MM → Option (Int32 × MM)) (x0 : Nat) (x2 : Int32) (x3 : Int32) (x4 : Int32) (x5 : Int32) (x6 : Int32) (x8 : Int32) (M : MM) : Option (Int32 × MM) :=
    f_X12_journey_162 K64 K76 x0 x2 x3 x4 x5 x6 x8 (0 : Int32) M

def f_X12_journey_130 (K64 : Nat → Int32 → Int32 → Int32 → Int32 → Int32 → MM → Option (Int32 × MM)) (K76 : Nat → Int32 → Int32 → Int32 → Int32 → Int32 → Int32 → Int32 → MM → Option (Int32 × MM)) (x0 : Nat) (x2 : Int32) (x3 : Int32) (x4 : Int32) (x5 : Int32) (x6 : Int32) (x7 : Int32) (x8 : Int32) (s0 : Int32) (M : MM) : Option (Int32 × MM) :=
    b1 (gR 12 55 x0 M) fun v1 =>
    b1 (ldI v1 x8 M) fun v2 =>
    b2 (f_X12_flag s0 M) fun r4 M3 =>
    b1 (stI v1 x8 (v2 + r4) M3) fun M5 =>
    if x7 = 0 then
      f_X12_journey_161 K64 K76 x0 x2 x3 x4 x5 x6 x8 M5
    else
      if s0 = 0 then
        f_X12_journey_162 K64 K76 x0 x2 x3 x4 x5 x6 x8 (1 : Int32) M5
      else
        f_X12_journey_161 K64 K76 x0 x2 x3 x4 x5 x6 x8 M5

def f_X12_journey_76 (K64 : Nat → Int32 → Int32 → Int32 → Int32 → Int32 → MM → Option (Int32 × MM)) : Nat → Nat → Int32 → Int32 → Int32 → Int32 → Int32 → Int32 → Int32 → MM → Option (Int32 × MM)
  | 0, _, _, _, _, _, _, _, _, _ => none
  | n + 1, x0, x2, x3, x4, x5, x6, x7, x8, M =>
    b1 (gR 12 15 x0 M) fun v1 =>
    b1 (ldI v1 (45 : Int32) M) fun v2 =>
    if v2 ≤ x8 then
      b2 (f_X12_flag x7 M) fun r4 M3 =>
      bn (x5 + r4 : Int32) fun y5 =>
      bn (x6 + 1 : Int32) fun y6 =>
      K64 x0 x2 x3 x4 y5 y6 M3
    else
      b2 (f_X12_isLawful x0 x8 M) fun r8 M7 =>
      if r8 = 0 then
        f_X12_journey_164 K64 (f_X12_journey_76 K64 n) x0 x2 x3 x4 x5 x6 x7 x8 M7
      else
        bn ((x4 * (1103515245 : Int32)) + (12345 : Int32) : Int32) fun y9 =>
        b1 (remI (iush y9 (16 : Int32)) x3) fun v10 =>
        b2 (f_X12_slackOf x0 x8 M7) fun r12 M11 =>
        if v10 ≤ r12 then
          f_X12_journey_130 K64 (f_X12_journey_76 K64 n) x0 x2 x3 y9 x5 x6 x7 x8 (0 : Int32) M11
        else
          f_X12_journey_130 K64 (f_X12_journey_76 K64 n) x0 x2 x3 y9 x5 x6 x7 x8 (1 : Int32) M11

def f_X12_journey_226 (K195 : Nat → Int32 → Int32 → Int32 → Int32 → MM → Option (Int32 × MM)) (x0 : Nat) (x5 : Int32) (x7 : Int32) (x8 : Int32) (s0 : Int32) (M : MM) : Option (Int32 × MM) :=
    b1 (gR 12 55 x0 M) fun v1 =>
    b1 (ldI v1 x8 M) fun v2 =>
    bn (maxI x7 v2 : Int32) fun y3 =>
    bn (x8 + 1 : Int32) fun y4 =>
    K195 x0 x5 s0 y3 y4 M

def f_X12_journey_195 : Nat → Nat → Int32 → Int32 → Int32 → Int32 → MM → Option (Int32 × MM)
  | 0, _, _, _, _, _, _ => none
  | n + 1, x0, x5, x6, x7, x8, M =>
    b1 (gR 12 15 x0 M) fun v1 =>
    b1 (ldI v1 (45 : Int32) M) fun v2 =>
    if v2 ≤ x8 then
      b1 (pI 12 1 x0 (0 : Int32) M) fun M3 =>
      b1 (f_X12_enters x0 (Int32.toInt64 x6) M3) fun M4 =>
      b1 (f_X12_enters x0 (Int32.toInt64 x7) M4) fun M5 =>
      some (x5, M5)
    else
      b1 (gR 12 55 x0 M) fun v6 =>
      b1 (ldI v6 x8 M) fun v7 =>
      if v7 ≤ x7 then
        f_X12_journey_226 (f_X12_journey_195 n) x0 x5 x7 x8 x6 M
      else
        f_X12_journey_226 (f_X12_journey_195 n) x0 x5 x7 x8 x8 M

def f_X12_journey_64 : Nat → Nat → Int32 → Int32 → Int32 → Int32 → Int32 → MM → Option (Int32 × MM)
  | 0, _, _, _, _, _, _, _ => none
  | n + 1, x0, x2, x3, x4, x5, x6, M =>
    if x2 ≤ x6 then
      f_X12_journey_195 1024 x0 x5 (-1 : Int32) (0 : Int32) (0 : Int32) M
    else
      f_X12_journey_76 (f_X12_journey_64 n) 1024 x0 x2 x3 x4 x5 x6 (1 : Int32) (0 : Int32) M

def f_X12_journey_40 : Nat → Nat → Int32 → Int32 → Int32 → Int32 → Int32 → MM → Option (Int32 × MM)
  | 0, _, _, _, _, _, _, _ => none
  | n + 1, x0, x2, x3, x4, x5, x6, M =>
    if (12 : Int32) ≤ x6 then
      f_X12_journey_64 1024 x0 x2 x3 x4 x5 (0 : Int32) M
    else
      b1 (gR 12 55 x0 M) fun v1 =>
      b1 (stI v1 x6 (0 : Int32) M) fun M2 =>
      bn (x6 + 1 : Int32) fun y3 =>
      f_X12_journey_40 n x0 x2 x3 x4 x5 y3 M2

def f_X12_journey_0 (x0 : Nat) (x1 : Int32) (x2 : Int32) (x3 : Int32) (M : MM) : Option (Int32 × MM) :=
    b1 (pI 12 0 x0 (0 : Int32) M) fun M1 =>
    b2 (f_X12_in (Int32.toInt64 x2) (1 : Int64) (50 : Int64) M1) fun r3 M2 =>
    if r3 = 0 then
      some ((-1 : Int32), M2)
    else
      b2 (f_X12_in (Int32.toInt64 x3) (1 : Int64) (9 : Int64) M2) fun r5 M4 =>
      if r5 = 0 then
        some ((-1 : Int32), M4)
      else
        f_X12_journey_40 1024 x0 x2 x3 x1 (0 : Int32) (0 : Int32) M4

def f_X12_journey (x0 : Nat) (x1 : Int32) (x2 : Int32) (x3 : Int32) (M : MM) : Option (Int32 × MM) := if isO 12 x0 M = true then f_X12_journey_0 x0 x1 x2 x3 M else none
set_option maxRecDepth 4000 in
theorem L_X12_journey_164 {G : Gx} (X : Cb G cX12_journey 10 RX12 (RM 6 0 0) false) (Y : Cr G (some .int) 0 0) {K64 : Nat → Int32 → Int32 → Int32 → Int32 → Int32 → MM → Option (Int32 × MM)} (hK64 : ∀ (x0 : Nat) (x2 : Int32) (x3 : Int32) (x4 : Int32) (x5 : Int32) (x6 : Int32) (M : MM), V G trI 10 0 0 64 [(0, .ref x0), (2, .int x2), (3, .int x3), (4, .int x4), (5, .int x5), (6, .int x6)] [] M (K64 x0 x2 x3 x4 x5 x6 M)) {K76 : Nat → Int32 → Int32 → Int32 → Int32 → Int32 → Int32 → Int32 → MM → Option (Int32 × MM)} (hK76 : ∀ (x0 : Nat) (x2 : Int32) (x3 : Int32) (x4 : Int32) (x5 : Int32) (x6 : Int32) (x7 : Int32) (x8 : Int32) (M : MM), V G trI 10 0 0 76 [(0, .ref x0), (2, .int x2), (3, .int x3), (4, .int x4), (5, .int x5), (6, .int x6), (7, .int x7), (8, .int x8)] [] M (K76 x0 x2 x3 x4 x5 x6 x7 x8 M)) (x0 : Nat) (x2 : Int32) (x3 : Int32) (x4 : Int32) (x5 : Int32) (x6 : Int32) (x7 : Int32) (x8 : Int32) (M : MM) : V G trI 10 0 0 164 [(0, .ref x0), (2, .int x2), (3, .int x3), (4, .int x4), (5, .int x5), (6, .int x6), (7, .int x7), (8, .int x8)] [] M (f_X12_journey_164 K64 K76 x0 x2 x3 x4 x5 x6 x7 x8 M) := by
  unfold f_X12_journey_164
  refine v_iinc X 167 7 (fun z => [(0, .ref x0), (2, .int x2), (3, .int x3), (4, .int x4), (5, .int x5), (6, .int x6), (7, .int x7), (8, .int z)]) dX12_journey_164 rfl ik_1 (by decide) (fun _ => rfl) rfl (fun y1 => ?_)
  refine v_goto X 76 dX12_journey_167 rfl ?_
  exact hK76 _ _ _ _ _ _ _ _ _
set_option maxRecDepth 4000 in
theorem L_X12_journey_162 {G : Gx} (X : Cb G cX12_journey 10 RX12 (RM 6 0 0) false) (Y : Cr G (some .int) 0 0) {K64 : Nat → Int32 → Int32 → Int32 → Int32 → Int32 → MM → Option (Int32 × MM)} (hK64 : ∀ (x0 : Nat) (x2 : Int32) (x3 : Int32) (x4 : Int32) (x5 : Int32) (x6 : Int32) (M : MM), V G trI 10 0 0 64 [(0, .ref x0), (2, .int x2), (3, .int x3), (4, .int x4), (5, .int x5), (6, .int x6)] [] M (K64 x0 x2 x3 x4 x5 x6 M)) {K76 : Nat → Int32 → Int32 → Int32 → Int32 → Int32 → Int32 → Int32 → MM → Option (Int32 × MM)} (hK76 : ∀ (x0 : Nat) (x2 : Int32) (x3 : Int32) (x4 : Int32) (x5 : Int32) (x6 : Int32) (x7 : Int32) (x8 : Int32) (M : MM), V G trI 10 0 0 76 [(0, .ref x0), (2, .int x2), (3, .int x3), (4, .int x4), (5, .int x5), (6, .int x6), (7, .int x7), (8, .int x8)] [] M (K76 x0 x2 x3 x4 x5 x6 x7 x8 M)) (x0 : Nat) (x2 : Int32) (x3 : Int32) (x4 : Int32) (x5 : Int32) (x6 : Int32) (x8 : Int32) (s0 : Int32) (M : MM) : V G trI 10 0 0 162 [(0, .ref x0), (2, .int x2), (3, .int x3), (4, .int x4), (5, .int x5), (6, .int x6), (8, .int x8)] [.int s0] M (f_X12_journey_162 K64 K76 x0 x2 x3 x4 x5 x6 x8 s0 M) := by
  unfold f_X12_journey_162
  refine v_istore (lv' := [(0, .ref x0), (2, .int x2), (3, .int x3), (4, .int x4), (5, .int x5), (6, .int x6), (7, .int s0), (8, .int x8)]) X 164 dX12_journey_162 (by decide) rfl rfl ?_
  exact L_X12_journey_164 X Y hK64 hK76 _ _ _ _ _ _ _ _ _
set_option maxRecDepth 4000 in
theorem L_X12_journey_161 {G : Gx} (X : Cb G cX12_journey 10 RX12 (RM 6 0 0) false) (Y : Cr G (some .int) 0 0) {K64 : Nat → Int32 → Int32 → Int32 → Int32 → Int32 → MM → Option (Int32 × MM)} (hK64 : ∀ (x0 : Nat) (x2 : Int32) (x3 : Int32) (x4 : Int32) (x5 : Int32) (x6 : Int32) (M : MM), V G trI 10 0 0 64 [(0, .ref x0), (2, .int x2), (3, .int x3), (4, .int x4), (5, .int x5), (6, .int x6)] [] M (K64 x0 x2 x3 x4 x5 x6 M)) {K76 : Nat → Int32 → Int32 → Int32 → Int32 → Int32 → Int32 → Int32 → MM → Option (Int32 × MM)} (hK76 : ∀ (x0 : Nat) (x2 : Int32) (x3 : Int32) (x4 : Int32) (x5 : Int32) (x6 : Int32) (x7 : Int32) (x8 : Int32) (M : MM), V G trI 10 0 0 76 [(0, .ref x0), (2, .int x2), (3, .int x3), (4, .int x4), (5, .int x5), (6, .int x6), (7, .int x7), (8, .int x8)] [] M (K76 x0 x2 x3 x4 x5 x6 x7 x8 M)) (x0 : Nat) (x2 : Int32) (x3 : Int32) (x4 : Int32) (x5 : Int32) (x6 : Int32) (x8 : Int32) (M : MM) : V G trI 10 0 0 161 [(0, .ref x0), (2, .int x2), (3, .int x3), (4, .int x4), (5, .int x5), (6, .int x6), (8, .int x8)] [] M (f_X12_journey_161 K64 K76 x0 x2 x3 x4 x5 x6 x8 M) := by
  unfold f_X12_journey_161
  refine v_iconst X 162 dX12_journey_161 ik_0 rfl ?_
  exact L_X12_journey_162 X Y hK64 hK76 _ _ _ _ _ _ _ _ _
set_option maxRecDepth 4000 in
theorem L_X12_journey_130 {G : Gx} (X : Cb G cX12_journey 10 RX12 (RM 6 0 0) false) (Y : Cr G (some .int) 0 0) {K64 : Nat → Int32 → Int32 → Int32 → Int32 → Int32 → MM → Option (Int32 × MM)} (hK64 : ∀ (x0 : Nat) (x2 : Int32) (x3 : Int32) (x4 : Int32) (x5 : Int32) (x6 : Int32) (M : MM), V G trI 10 0 0 64 [(0, .ref x0), (2, .int x2), (3, .int x3), (4, .int x4), (5, .int x5), (6, .int x6)] [] M (K64 x0 x2 x3 x4 x5 x6 M)) {K76 : Nat → Int32 → Int32 → Int32 → Int32 → Int32 → Int32 → Int32 → MM → Option (Int32 × MM)} (hK76 : ∀ (x0 : Nat) (x2 : Int32) (x3 : Int32) (x4 : Int32) (x5 : Int32) (x6 : Int32) (x7 : Int32) (x8 : Int32) (M : MM), V G trI 10 0 0 76 [(0, .ref x0), (2, .int x2), (3, .int x3), (4, .int x4), (5, .int x5), (6, .int x6), (7, .int x7), (8, .int x8)] [] M (K76 x0 x2 x3 x4 x5 x6 x7 x8 M)) (x0 : Nat) (x2 : Int32) (x3 : Int32) (x4 : Int32) (x5 : Int32) (x6 : Int32) (x7 : Int32) (x8 : Int32) (s0 : Int32) (M : MM) : V G trI 10 0 0 130 [(0, .ref x0), (2, .int x2), (3, .int x3), (4, .int x4), (5, .int x5), (6, .int x6), (7, .int x7), (8, .int x8)] [.int s0] M (f_X12_journey_130 K64 K76 x0 x2 x3 x4 x5 x6 x7 x8 s0 M) := by
  unfold f_X12_journey_130
  refine v_istore (lv' := [(0, .ref x0), (2, .int x2), (3, .int x3), (4, .int x4), (5, .int x5), (6, .int x6), (7, .int x7), (8, .int x8), (9, .int s0)]) X 132 dX12_journey_130 (by decide) rfl rfl ?_
  refine v_aload_n X 133 0 dX12_journey_132 rfl rfl ?_
  refine v_getR X 136 fl_X12_121.r dX12_journey_133 rfl (fun v1 => ?_)
  refine v_iload X 138 7 dX12_journey_136 rfl rfl ?_
  refine v_dup2 X 139 dX12_journey_138 rfl rfl rfl ?_
  refine v_iald X 140 dX12_journey_139 rfl (fun v2 => ?_)
  refine v_iload X 142 8 dX12_journey_140 rfl rfl ?_
  refine v_sI X 145 cs_X12_flag ml_X12_171 (n1 := 1) rfl [.int s0] rfl rfl rfl dX12_journey_142 rfl (fun r M1 h => c_X12_flag _ _ _ _ _ h) (fun r4 M3 => ?_)
  refine v_iadd X 146 dX12_journey_145 rfl ?_
  refine v_iast X 147 dX12_journey_146 rfl (fun M5 => ?_)
  refine v_iload X 149 6 dX12_journey_147 rfl rfl ?_
  refine v_ifeq X 152 161 dX12_journey_149 rfl rfl ?_ ?_
  · exact v_sb [0, 1, 2, 3, 4, 5, 7] (L_X12_journey_161 X Y hK64 hK76 _ _ _ _ _ _ _ _) rfl
  · refine v_iload X 154 8 dX12_journey_152 rfl rfl ?_
    refine v_ifne X 157 161 dX12_journey_154 rfl rfl ?_ ?_
    · exact v_sb [0, 1, 2, 3, 4, 5, 7] (L_X12_journey_161 X Y hK64 hK76 _ _ _ _ _ _ _ _) rfl
    · refine v_iconst X 158 dX12_journey_157 ik_1 rfl ?_
      refine v_goto X 162 dX12_journey_158 rfl ?_
      exact v_sb [0, 1, 2, 3, 4, 5, 7] (L_X12_journey_162 X Y hK64 hK76 _ _ _ _ _ _ _ _ _) rfl
set_option maxRecDepth 4000 in
theorem L_X12_journey_76 {G : Gx} (X : Cb G cX12_journey 10 RX12 (RM 6 0 0) false) (Y : Cr G (some .int) 0 0) {K64 : Nat → Int32 → Int32 → Int32 → Int32 → Int32 → MM → Option (Int32 × MM)} (hK64 : ∀ (x0 : Nat) (x2 : Int32) (x3 : Int32) (x4 : Int32) (x5 : Int32) (x6 : Int32) (M : MM), V G trI 10 0 0 64 [(0, .ref x0), (2, .int x2), (3, .int x3), (4, .int x4), (5, .int x5), (6, .int x6)] [] M (K64 x0 x2 x3 x4 x5 x6 M)) : ∀ (n : Nat) (x0 : Nat) (x2 : Int32) (x3 : Int32) (x4 : Int32) (x5 : Int32) (x6 : Int32) (x7 : Int32) (x8 : Int32) (M : MM), V G trI 10 0 0 76 [(0, .ref x0), (2, .int x2), (3, .int x3), (4, .int x4), (5, .int x5), (6, .int x6), (7, .int x7), (8, .int x8)] [] M (f_X12_journey_76 K64 n x0 x2 x3 x4 x5 x6 x7 x8 M) := by
  intro n
  induction n with
  | zero => intro x0 x2 x3 x4 x5 x6 x7 x8 M; rw [f_X12_journey_76]; exact v_none
  | succ n ih =>
    intro x0 x2 x3 x4 x5 x6 x7 x8 M
    rw [f_X12_journey_76]
    refine v_iload X 78 7 dX12_journey_76 rfl rfl ?_
    refine v_aload_n X 79 0 dX12_journey_78 rfl rfl ?_
    refine v_getR X 82 fl_X12_43.r dX12_journey_79 rfl (fun v1 => ?_)
    refine v_bipush X 84 dX12_journey_82 bk_45 rfl ?_
    refine v_iald X 85 dX12_journey_84 rfl (fun v2 => ?_)
    refine v_icge X 88 170 dX12_journey_85 rfl rfl ?_ ?_
    · refine v_iload X 172 4 dX12_journey_170 rfl rfl ?_
      refine v_iload X 174 6 dX12_journey_172 rfl rfl ?_
      refine v_sI X 177 cs_X12_flag ml_X12_171 (n1 := 1) rfl [.int x7] rfl rfl rfl dX12_journey_174 rfl (fun r M1 h => c_X12_flag _ _ _ _ _ h) (fun r4 M3 => ?_)
      refine v_iadd X 178 dX12_journey_177 rfl ?_
      refine v_bnI (fun y5 => ?_)
      refine v_istore (lv' := [(0, .ref x0), (2, .int x2), (3, .int x3), (4, .int x4), (5, .int y5), (6, .int x6), (7, .int x7), (8, .int x8)]) X 180 dX12_journey_178 (by decide) rfl rfl ?_
      refine v_iinc X 183 5 (fun z => [(0, .ref x0), (2, .int x2), (3, .int x3), (4, .int x4), (5, .int y5), (6, .int z), (7, .int x7), (8, .int x8)]) dX12_journey_180 rfl ik_1 (by decide) (fun _ => rfl) rfl (fun y6 => ?_)
      refine v_goto X 64 dX12_journey_183 rfl ?_
      exact v_sb [0, 1, 2, 3, 4, 5] (hK64 _ _ _ _ _ _ _) rfl
    · refine v_aload_n X 89 0 dX12_journey_88 rfl rfl ?_
      refine v_iload X 91 7 dX12_journey_89 rfl rfl ?_
      refine v_vI X 94 cv_X12_isLawful ml_X12_486 (n1 := 5) rfl [.int x8] rfl rfl rfl dX12_journey_91 rfl (fun r M1 h => c_X12_isLawful _ _ _ _ _ _ h) (fun r8 M7 => ?_)
      refine v_ifeq X 97 164 dX12_journey_94 rfl rfl ?_ ?_
      · exact L_X12_journey_164 X Y hK64 ih _ _ _ _ _ _ _ _ _
      · refine v_iload X 99 3 dX12_journey_97 rfl rfl ?_
        refine v_ldcw X 102 dX12_journey_99 kc_X12_505 rfl ?_
        refine v_imul X 103 dX12_journey_102 rfl ?_
        refine v_sipush X 106 dX12_journey_103 sk_12345 rfl ?_
        refine v_iadd X 107 dX12_journey_106 rfl ?_
        refine v_bnI (fun y9 => ?_)
        refine v_istore (lv' := [(0, .ref x0), (2, .int x2), (3, .int x3), (4, .int y9), (5, .int x5), (6, .int x6), (7, .int x7), (8, .int x8)]) X 109 dX12_journey_107 (by decide) rfl rfl ?_
        refine v_iload X 111 3 dX12_journey_109 rfl rfl ?_
        refine v_bipush X 113 dX12_journey_111 bk_16 rfl ?_
        refine v_iushr X 114 dX12_journey_113 rfl ?_
        refine v_iload_n X 115 2 dX12_journey_114 rfl rfl ?_
        refine v_irem X 116 dX12_journey_115 rfl (fun v10 => ?_)
        refine v_aload_n X 117 0 dX12_journey_116 rfl rfl ?_
        refine v_iload X 119 7 dX12_journey_117 rfl rfl ?_
        refine v_vI X 122 cv_X12_slackOf ml_X12_489 (n1 := 3) rfl [.int x8] rfl rfl rfl dX12_journey_119 rfl (fun r M1 h => c_X12_slackOf _ _ _ _ _ _ h) (fun r12 M11 => ?_)
        refine v_icle X 125 129 dX12_journey_122 rfl rfl ?_ ?_
        · refine v_iconst X 130 dX12_journey_129 ik_0 rfl ?_
          exact L_X12_journey_130 X Y hK64 ih _ _ _ _ _ _ _ _ _ _
        · refine v_iconst X 126 dX12_journey_125 ik_1 rfl ?_
          refine v_goto X 130 dX12_journey_126 rfl ?_
          exact L_X12_journey_130 X Y hK64 ih _ _ _ _ _ _ _ _ _ _
set_option maxRecDepth 4000 in
theorem L_X12_journey_226 {G : Gx} (X : Cb G cX12_journey 10 RX12 (RM 6 0 0) false) (Y : Cr G (some .int) 0 0) {K195 : Nat → Int32 → Int32 → Int32 → Int32 → MM → Option (Int32 × MM)} (hK195 : ∀ (x0 : Nat) (x5 : Int32) (x6 : Int32) (x7 : Int32) (x8 : Int32) (M : MM), V G trI 10 0 0 195 [(0, .ref x0), (5, .int x5), (6, .int x6), (7, .int x7), (8, .int x8)] [] M (K195 x0 x5 x6 x7 x8 M)) (x0 : Nat) (x5 : Int32) (x7 : Int32) (x8 : Int32) (s0 : Int32) (M : MM) : V G trI 10 0 0 226 [(0, .ref x0), (5, .int x5), (7, .int x7), (8, .int x8)] [.int s0] M (f_X12_journey_226 K195 x0 x5 x7 x8 s0 M) := by
  unfold f_X12_journey_226
  refine v_istore (lv' := [(0, .ref x0), (5, .int x5), (6, .int s0), (7, .int x7), (8, .int x8)]) X 228 dX12_journey_226 (by decide) rfl rfl ?_
  refine v_iload X 230 3 dX12_journey_228 rfl rfl ?_
  refine v_aload_n X 231 0 dX12_journey_230 rfl rfl ?_
  refine v_getR X 234 fl_X12_121.r dX12_journey_231 rfl (fun v1 => ?_)
  refine v_iload X 236 4 dX12_journey_234 rfl rfl ?_
  refine v_iald X 237 dX12_journey_236 rfl (fun v2 => ?_)
  refine v_max X 240 ml_X12_311 w_max (Nat.le_of_ble_eq_true rfl) (Nat.le_of_ble_eq_true rfl) (Nat.zero_le _) (Nat.zero_le _) dX12_journey_237 rfl ?_
  refine v_bnI (fun y3 => ?_)
  refine v_istore (lv' := [(0, .ref x0), (5, .int x5), (6, .int s0), (7, .int y3), (8, .int x8)]) X 242 dX12_journey_240 (by decide) rfl rfl ?_
  refine v_iinc X 245 4 (fun z => [(0, .ref x0), (5, .int x5), (6, .int s0), (7, .int y3), (8, .int z)]) dX12_journey_242 rfl ik_1 (by decide) (fun _ => rfl) rfl (fun y4 => ?_)
  refine v_goto X 195 dX12_journey_245 rfl ?_
  exact hK195 _ _ _ _ _ _
set_option maxRecDepth 4000 in
theorem L_X12_journey_195 {G : Gx} (X : Cb G cX12_journey 10 RX12 (RM 6 0 0) false) (Y : Cr G (some .int) 0 0) : ∀ (n : Nat) (x0 : Nat) (x5 : Int32) (x6 : Int32) (x7 : Int32) (x8 : Int32) (M : MM), V G trI 10 0 0 195 [(0, .ref x0), (5, .int x5), (6, .int x6), (7, .int x7), (8, .int x8)] [] M (f_X12_journey_195 n x0 x5 x6 x7 x8 M) := by
  intro n
  induction n with
  | zero => intro x0 x5 x6 x7 x8 M; rw [f_X12_journey_195]; exact v_none
  | succ n ih =>
    intro x0 x5 x6 x7 x8 M
    rw [f_X12_journey_195]
    refine v_iload X 197 4 dX12_journey_195 rfl rfl ?_
    refine v_aload_n X 198 0 dX12_journey_197 rfl rfl ?_
    refine v_getR X 201 fl_X12_43.r dX12_journey_198 rfl (fun v1 => ?_)
    refine v_bipush X 203 dX12_journey_201 bk_45 rfl ?_
    refine v_iald X 204 dX12_journey_203 rfl (fun v2 => ?_)
    refine v_icge X 207 248 dX12_journey_204 rfl rfl ?_ ?_
    · refine v_aload_n X 249 0 dX12_journey_248 rfl rfl ?_
      refine v_iconst X 250 dX12_journey_249 ik_0 rfl ?_
      refine v_putI X 253 fl_X12_140 nof dX12_journey_250 rfl (fun M3 => ?_)
      refine v_aload_n X 254 0 dX12_journey_253 rfl rfl ?_
      refine v_iload X 256 2 dX12_journey_254 rfl rfl ?_
      refine v_i2l X 257 dX12_journey_256 rfl ?_
      refine v_vV X 260 cv_X12_enters ml_X12_414 (n1 := 1) rfl [.long (Int32.toInt64 x6)] rfl rfl rfl dX12_journey_257 rfl (fun M1 h => c_X12_enters _ _ _ _ _ h) (fun M4 => ?_)
      refine v_aload_n X 261 0 dX12_journey_260 rfl rfl ?_
      refine v_iload X 263 3 dX12_journey_261 rfl rfl ?_
      refine v_i2l X 264 dX12_journey_263 rfl ?_
      refine v_vV X 267 cv_X12_enters ml_X12_414 (n1 := 1) rfl [.long (Int32.toInt64 x7)] rfl rfl rfl dX12_journey_264 rfl (fun M1 h => c_X12_enters _ _ _ _ _ h) (fun M5 => ?_)
      refine v_iload X 269 1 dX12_journey_267 rfl rfl ?_
      exact v_iret X Y (Nat.le_refl _) (Nat.le_refl _) dX12_journey_269
    · refine v_aload_n X 208 0 dX12_journey_207 rfl rfl ?_
      refine v_getR X 211 fl_X12_121.r dX12_journey_208 rfl (fun v6 => ?_)
      refine v_iload X 213 4 dX12_journey_211 rfl rfl ?_
      refine v_iald X 214 dX12_journey_213 rfl (fun v7 => ?_)
      refine v_iload X 216 3 dX12_journey_214 rfl rfl ?_
      refine v_icle X 219 224 dX12_journey_216 rfl rfl ?_ ?_
      · refine v_iload X 226 2 dX12_journey_224 rfl rfl ?_
        exact v_sb [0, 1, 3, 4] (L_X12_journey_226 X Y ih _ _ _ _ _ _) rfl
      · refine v_iload X 221 4 dX12_journey_219 rfl rfl ?_
        refine v_goto X 226 dX12_journey_221 rfl ?_
        exact v_sb [0, 1, 3, 4] (L_X12_journey_226 X Y ih _ _ _ _ _ _) rfl
set_option maxRecDepth 4000 in
theorem L_X12_journey_64 {G : Gx} (X : Cb G cX12_journey 10 RX12 (RM 6 0 0) false) (Y : Cr G (some .int) 0 0) : ∀ (n : Nat) (x0 : Nat) (x2 : Int32) (x3 : Int32) (x4 : Int32) (x5 : Int32) (x6 : Int32) (M : MM), V G trI 10 0 0 64 [(0, .ref x0), (2, .int x2), (3, .int x3), (4, .int x4), (5, .int x5), (6, .int x6)] [] M (f_X12_journey_64 n x0 x2 x3 x4 x5 x6 M) := by
  intro n
  induction n with
  | zero => intro x0 x2 x3 x4 x5 x6 M; rw [f_X12_journey_64]; exact v_none
  | succ n ih =>
    intro x0 x2 x3 x4 x5 x6 M
    rw [f_X12_journey_64]
    refine v_iload X 66 5 dX12_journey_64 rfl rfl ?_
    refine v_iload_n X 67 1 dX12_journey_66 rfl rfl ?_
    refine v_icge X 70 186 dX12_journey_67 rfl rfl ?_ ?_
    · refine v_iconst X 187 dX12_journey_186 ik_m1 rfl ?_
      refine v_istore (lv' := [(0, .ref x0), (2, .int x2), (3, .int x3), (4, .int x4), (5, .int x5), (6, .int (-1 : Int32))]) X 189 dX12_journey_187 (by decide) rfl rfl ?_
      refine v_iconst X 190 dX12_journey_189 ik_0 rfl ?_
      refine v_istore (lv' := [(0, .ref x0), (2, .int x2), (3, .int x3), (4, .int x4), (5, .int x5), (6, .int (-1 : Int32)), (7, .int (0 : Int32))]) X 192 dX12_journey_190 (by decide) rfl rfl ?_
      refine v_iconst X 193 dX12_journey_192 ik_0 rfl ?_
      refine v_istore (lv' := [(0, .ref x0), (2, .int x2), (3, .int x3), (4, .int x4), (5, .int x5), (6, .int (-1 : Int32)), (7, .int (0 : Int32)), (8, .int (0 : Int32))]) X 195 dX12_journey_193 (by decide) rfl rfl ?_
      exact v_sb [0, 4, 5, 6, 7] (L_X12_journey_195 X Y 1024 _ _ _ _ _ _) rfl
    · refine v_iconst X 71 dX12_journey_70 ik_1 rfl ?_
      refine v_istore (lv' := [(0, .ref x0), (2, .int x2), (3, .int x3), (4, .int x4), (5, .int x5), (6, .int x6), (7, .int (1 : Int32))]) X 73 dX12_journey_71 (by decide) rfl rfl ?_
      refine v_iconst X 74 dX12_journey_73 ik_0 rfl ?_
      refine v_istore (lv' := [(0, .ref x0), (2, .int x2), (3, .int x3), (4, .int x4), (5, .int x5), (6, .int x6), (7, .int (1 : Int32)), (8, .int (0 : Int32))]) X 76 dX12_journey_74 (by decide) rfl rfl ?_
      exact L_X12_journey_76 X Y ih 1024 _ _ _ _ _ _ _ _ _
set_option maxRecDepth 4000 in
theorem L_X12_journey_40 {G : Gx} (X : Cb G cX12_journey 10 RX12 (RM 6 0 0) false) (Y : Cr G (some .int) 0 0) : ∀ (n : Nat) (x0 : Nat) (x2 : Int32) (x3 : Int32) (x4 : Int32) (x5 : Int32) (x6 : Int32) (M : MM), V G trI 10 0 0 40 [(0, .ref x0), (2, .int x2), (3, .int x3), (4, .int x4), (5, .int x5), (6, .int x6)] [] M (f_X12_journey_40 n x0 x2 x3 x4 x5 x6 M) := by
  intro n
  induction n with
  | zero => intro x0 x2 x3 x4 x5 x6 M; rw [f_X12_journey_40]; exact v_none
  | succ n ih =>
    intro x0 x2 x3 x4 x5 x6 M
    rw [f_X12_journey_40]
    refine v_iload X 42 5 dX12_journey_40 rfl rfl ?_
    refine v_bipush X 44 dX12_journey_42 bk_12 rfl ?_
    refine v_icge X 47 61 dX12_journey_44 rfl rfl ?_ ?_
    · refine v_iconst X 62 dX12_journey_61 ik_0 rfl ?_
      refine v_istore (lv' := [(0, .ref x0), (2, .int x2), (3, .int x3), (4, .int x4), (5, .int x5), (6, .int (0 : Int32))]) X 64 dX12_journey_62 (by decide) rfl rfl ?_
      exact L_X12_journey_64 X Y 1024 _ _ _ _ _ _ _
    · refine v_aload_n X 48 0 dX12_journey_47 rfl rfl ?_
      refine v_getR X 51 fl_X12_121.r dX12_journey_48 rfl (fun v1 => ?_)
      refine v_iload X 53 5 dX12_journey_51 rfl rfl ?_
      refine v_iconst X 54 dX12_journey_53 ik_0 rfl ?_
      refine v_iast X 55 dX12_journey_54 rfl (fun M2 => ?_)
      refine v_iinc X 58 5 (fun z => [(0, .ref x0), (2, .int x2), (3, .int x3), (4, .int x4), (5, .int x5), (6, .int z)]) dX12_journey_55 rfl ik_1 (by decide) (fun _ => rfl) rfl (fun y3 => ?_)
      refine v_goto X 40 dX12_journey_58 rfl ?_
      exact ih _ _ _ _ _ _ _
set_option maxRecDepth 4000 in
theorem L_X12_journey_0 {G : Gx} (X : Cb G cX12_journey 10 RX12 (RM 6 0 0) false) (Y : Cr G (some .int) 0 0) (x0 : Nat) (x1 : Int32) (x2 : Int32) (x3 : Int32) (M : MM) : V G trI 10 0 0 0 [(0, .ref x0), (1, .int x1), (2, .int x2), (3, .int x3)] [] M (f_X12_journey_0 x0 x1 x2 x3 M) := by
  unfold f_X12_journey_0
  refine v_aload_n X 1 0 dX12_journey_0 rfl rfl ?_
  refine v_iconst X 2 dX12_journey_1 ik_0 rfl ?_
  refine v_putI X 5 fl_X12_133 nof dX12_journey_2 rfl (fun M1 => ?_)
  refine v_iload_n X 6 2 dX12_journey_5 rfl rfl ?_
  refine v_i2l X 7 dX12_journey_6 rfl ?_
  refine v_lconst X 8 dX12_journey_7 lk_1 rfl ?_
  refine v_ldc2 X 11 dX12_journey_8 kl_X12_503 rfl ?_
  refine v_sI X 14 cs_X12_in ml_X12_146 (n1 := 1) rfl [.long (Int32.toInt64 x2), .long (1 : Int64), .long (50 : Int64)] rfl rfl rfl dX12_journey_11 rfl (fun r M1 h => c_X12_in _ _ _ _ _ _ _ h) (fun r3 M2 => ?_)
  refine v_ifeq X 17 29 dX12_journey_14 rfl rfl ?_ ?_
  · refine v_iconst X 30 dX12_journey_29 ik_m1 rfl ?_
    exact v_iret X Y (Nat.le_refl _) (Nat.le_refl _) dX12_journey_30
  · refine v_iload_n X 18 3 dX12_journey_17 rfl rfl ?_
    refine v_i2l X 19 dX12_journey_18 rfl ?_
    refine v_lconst X 20 dX12_journey_19 lk_1 rfl ?_
    refine v_ldc2 X 23 dX12_journey_20 kl_X12_372 rfl ?_
    refine v_sI X 26 cs_X12_in ml_X12_146 (n1 := 1) rfl [.long (Int32.toInt64 x3), .long (1 : Int64), .long (9 : Int64)] rfl rfl rfl dX12_journey_23 rfl (fun r M1 h => c_X12_in _ _ _ _ _ _ _ h) (fun r5 M4 => ?_)
    refine v_ifne X 29 31 dX12_journey_26 rfl rfl ?_ ?_
    · refine v_iload_n X 32 1 dX12_journey_31 rfl rfl ?_
      refine v_istore (lv' := [(0, .ref x0), (1, .int x1), (2, .int x2), (3, .int x3), (4, .int x1)]) X 34 dX12_journey_32 (by decide) rfl rfl ?_
      refine v_iconst X 35 dX12_journey_34 ik_0 rfl ?_
      refine v_istore (lv' := [(0, .ref x0), (1, .int x1), (2, .int x2), (3, .int x3), (4, .int x1), (5, .int (0 : Int32))]) X 37 dX12_journey_35 (by decide) rfl rfl ?_
      refine v_iconst X 38 dX12_journey_37 ik_0 rfl ?_
      refine v_istore (lv' := [(0, .ref x0), (1, .int x1), (2, .int x2), (3, .int x3), (4, .int x1), (5, .int (0 : Int32)), (6, .int (0 : Int32))]) X 40 dX12_journey_38 (by decide) rfl rfl ?_
      exact v_sb [0, 2, 3, 4, 5, 6] (L_X12_journey_40 X Y 1024 _ _ _ _ _ _ _) rfl
    · refine v_iconst X 30 dX12_journey_29 ik_m1 rfl ?_
      exact v_iret X Y (Nat.le_refl _) (Nat.le_refl _) dX12_journey_30
theorem c_X12_journey (l : Launch) (x0 : Nat) (x1 : Int32) (x2 : Int32) (x3 : Int32) (M : MM) (r : Int32) (M1 : MM) (h : f_X12_journey x0 x1 x2 x3 M = some (r, M1)) : KV l yX12_journey cX12_journey 10 (some .int) (RM 6 0 0) false 12 x0 [.int x1, .int x2, .int x3] M (some (.int r)) M1 := by
  obtain ⟨hO, h2⟩ := iteO_some h
  exact ⟨hO, ct_of (tr := trI) (by decide) (Nat.le_of_ble_eq_true rfl) [(0, .ref x0), (1, .int x1), (2, .int x2), (3, .int x3)] rfl h2 (fun G X Y hn hl => L_X12_journey_0 X Y x0 x1 x2 x3 M)⟩

def f_X12_keep_38 : Nat → Nat → Int32 → Int32 → MM → Option (Int32 × MM)
  | 0, _, _, _, _ => none
  | n + 1, x0, x1, x2, M =>
    if (46 : Int32) ≤ x2 then
      rz (1 : Int32) M
    else
      b1 (gR 12 58 x0 M) fun v1 =>
      b1 (gR 12 15 x0 M) fun v2 =>
      b1 (ldI v2 x2 M) fun v3 =>
      b1 (stI v1 (((46 : Int32) * x1) + x2) v3 M) fun M4 =>
      bn (x2 + 1 : Int32) fun y5 =>
      f_X12_keep_38 n x0 x1 y5 M4

def f_X12_keep_0 (x0 : Nat) (x1 : Int32) (M : MM) : Option (Int32 × MM) :=
    b1 (pI 12 0 x0 (0 : Int32) M) fun M1 =>
    b2 (f_X12_in (Int32.toInt64 x1) (0 : Int64) (2 : Int64) M1) fun r3 M2 =>
    if r3 = 0 then
      rz (0 : Int32) M2
    else
      b1 (gR 12 56 x0 M2) fun v4 =>
      b1 (stZ v4 x1 (1 : Int32) M2) fun M5 =>
      b1 (gR 12 57 x0 M5) fun v6 =>
      b1 (gI 12 5 x0 M5) fun v7 =>
      b1 (stI v6 x1 v7 M5) fun M8 =>
      f_X12_keep_38 1024 x0 x1 (0 : Int32) M8

def f_X12_keep (x0 : Nat) (x1 : Int32) (M : MM) : Option (Int32 × MM) := if isO 12 x0 M = true then f_X12_keep_0 x0 x1 M else none
set_option maxRecDepth 4000 in
theorem L_X12_keep_38 {G : Gx} (X : Cb G cX12_keep 3 RX12 (RM 2 0 0) false) (Y : Cr G (some .boolean) 0 0) : ∀ (n : Nat) (x0 : Nat) (x1 : Int32) (x2 : Int32) (M : MM), V G trI 3 0 0 38 [(0, .ref x0), (1, .int x1), (2, .int x2)] [] M (f_X12_keep_38 n x0 x1 x2 M) := by
  intro n
  induction n with
  | zero => intro x0 x1 x2 M; rw [f_X12_keep_38]; exact v_none
  | succ n ih =>
    intro x0 x1 x2 M
    rw [f_X12_keep_38]
    refine v_iload_n X 39 2 dX12_keep_38 rfl rfl ?_
    refine v_bipush X 41 dX12_keep_39 bk_46 rfl ?_
    refine v_icge X 44 67 dX12_keep_41 rfl rfl ?_ ?_
    · refine v_iconst X 68 dX12_keep_67 ik_1 rfl ?_
      exact v_zret X Y (Nat.le_refl _) (Nat.le_refl _) dX12_keep_68
    · refine v_aload_n X 45 0 dX12_keep_44 rfl rfl ?_
      refine v_getR X 48 fl_X12_130.r dX12_keep_45 rfl (fun v1 => ?_)
      refine v_bipush X 50 dX12_keep_48 bk_46 rfl ?_
      refine v_iload_n X 51 1 dX12_keep_50 rfl rfl ?_
      refine v_imul X 52 dX12_keep_51 rfl ?_
      refine v_iload_n X 53 2 dX12_keep_52 rfl rfl ?_
      refine v_iadd X 54 dX12_keep_53 rfl ?_
      refine v_aload_n X 55 0 dX12_keep_54 rfl rfl ?_
      refine v_getR X 58 fl_X12_43.r dX12_keep_55 rfl (fun v2 => ?_)
      refine v_iload_n X 59 2 dX12_keep_58 rfl rfl ?_
      refine v_iald X 60 dX12_keep_59 rfl (fun v3 => ?_)
      refine v_iast X 61 dX12_keep_60 rfl (fun M4 => ?_)
      refine v_iinc X 64 2 (fun z => [(0, .ref x0), (1, .int x1), (2, .int z)]) dX12_keep_61 rfl ik_1 (by decide) (fun _ => rfl) rfl (fun y5 => ?_)
      refine v_goto X 38 dX12_keep_64 rfl ?_
      exact ih _ _ _ _
set_option maxRecDepth 4000 in
theorem L_X12_keep_0 {G : Gx} (X : Cb G cX12_keep 3 RX12 (RM 2 0 0) false) (Y : Cr G (some .boolean) 0 0) (x0 : Nat) (x1 : Int32) (M : MM) : V G trI 3 0 0 0 [(0, .ref x0), (1, .int x1)] [] M (f_X12_keep_0 x0 x1 M) := by
  unfold f_X12_keep_0
  refine v_aload_n X 1 0 dX12_keep_0 rfl rfl ?_
  refine v_iconst X 2 dX12_keep_1 ik_0 rfl ?_
  refine v_putI X 5 fl_X12_133 nof dX12_keep_2 rfl (fun M1 => ?_)
  refine v_iload_n X 6 1 dX12_keep_5 rfl rfl ?_
  refine v_i2l X 7 dX12_keep_6 rfl ?_
  refine v_lconst X 8 dX12_keep_7 lk_0 rfl ?_
  refine v_ldc2 X 11 dX12_keep_8 kl_X12_436 rfl ?_
  refine v_sI X 14 cs_X12_in ml_X12_146 (n1 := 1) rfl [.long (Int32.toInt64 x1), .long (0 : Int64), .long (2 : Int64)] rfl rfl rfl dX12_keep_11 rfl (fun r M1 h => c_X12_in _ _ _ _ _ _ _ h) (fun r3 M2 => ?_)
  refine v_ifne X 17 19 dX12_keep_14 rfl rfl ?_ ?_
  · refine v_aload_n X 20 0 dX12_keep_19 rfl rfl ?_
    refine v_getR X 23 fl_X12_124.r dX12_keep_20 rfl (fun v4 => ?_)
    refine v_iload_n X 24 1 dX12_keep_23 rfl rfl ?_
    refine v_iconst X 25 dX12_keep_24 ik_1 rfl ?_
    refine v_zast X 26 dX12_keep_25 rfl (fun M5 => ?_)
    refine v_aload_n X 27 0 dX12_keep_26 rfl rfl ?_
    refine v_getR X 30 fl_X12_127.r dX12_keep_27 rfl (fun v6 => ?_)
    refine v_iload_n X 31 1 dX12_keep_30 rfl rfl ?_
    refine v_aload_n X 32 0 dX12_keep_31 rfl rfl ?_
    refine v_getI X 35 fl_X12_244.r dX12_keep_32 rfl (fun v7 => ?_)
    refine v_iast X 36 dX12_keep_35 rfl (fun M8 => ?_)
    refine v_iconst X 37 dX12_keep_36 ik_0 rfl ?_
    refine v_istore_n (lv' := [(0, .ref x0), (1, .int x1), (2, .int (0 : Int32))]) X 38 dX12_keep_37 (by decide) rfl rfl ?_
    exact L_X12_keep_38 X Y 1024 _ _ _ _
  · refine v_iconst X 18 dX12_keep_17 ik_0 rfl ?_
    exact v_zret X Y (Nat.le_refl _) (Nat.le_refl _) dX12_keep_18
theorem c_X12_keep (l : Launch) (x0 : Nat) (x1 : Int32) (M : MM) (r : Int32) (M1 : MM) (h : f_X12_keep x0 x1 M = some (r, M1)) : KV l yX12_keep cX12_keep 3 (some .boolean) (RM 2 0 0) false 12 x0 [.int x1] M (some (.int r)) M1 := by
  obtain ⟨hO, h2⟩ := iteO_some h
  exact ⟨hO, ct_of (tr := trI) (by decide) (Nat.le_of_ble_eq_true rfl) [(0, .ref x0), (1, .int x1)] rfl h2 (fun G X Y hn hl => L_X12_keep_0 X Y x0 x1 M)⟩

def f_X12_again_43 : Nat → Nat → Int32 → Int32 → MM → Option (Int32 × MM)
  | 0, _, _, _, _ => none
  | n + 1, x0, x1, x2, M =>
    if (46 : Int32) ≤ x2 then
      b1 (pI 12 33 x0 (0 : Int32) M) fun M1 =>
      rz (1 : Int32) M1
    else
      b1 (gR 12 15 x0 M) fun v2 =>
      b1 (gR 12 58 x0 M) fun v3 =>
      b1 (ldI v3 (((46 : Int32) * x1) + x2) M) fun v4 =>
      b1 (stI v2 x2 v4 M) fun M5 =>
      bn (x2 + 1 : Int32) fun y6 =>
      f_X12_again_43 n x0 x1 y6 M5

def f_X12_again_0 (x0 : Nat) (x1 : Int32) (M : MM) : Option (Int32 × MM) :=
    b1 (pI 12 0 x0 (0 : Int32) M) fun M1 =>
    b2 (f_X12_in (Int32.toInt64 x1) (0 : Int64) (2 : Int64) M1) fun r3 M2 =>
    if r3 = 0 then
      rz (0 : Int32) M2
    else
      b1 (gR 12 56 x0 M2) fun v4 =>
      b1 (ldZ v4 x1 M2) fun v5 =>
      if v5 = 0 then
        rz (0 : Int32) M2
      else
        b1 (gR 12 57 x0 M2) fun v6 =>
        b1 (ldI v6 x1 M2) fun v7 =>
        b1 (gI 12 5 x0 M2) fun v8 =>
        if v7 = v8 then
          f_X12_again_43 1024 x0 x1 (0 : Int32) M2
        else
          rz (0 : Int32) M2

def f_X12_again (x0 : Nat) (x1 : Int32) (M : MM) : Option (Int32 × MM) := if isO 12 x0 M = true then f_X12_again_0 x0 x1 M else none
set_option maxRecDepth 4000 in
theorem L_X12_again_43 {G : Gx} (X : Cb G cX12_again 3 RX12 (RM 2 0 0) false) (Y : Cr G (some .boolean) 0 0) : ∀ (n : Nat) (x0 : Nat) (x1 : Int32) (x2 : Int32) (M : MM), V G trI 3 0 0 43 [(0, .ref x0), (1, .int x1), (2, .int x2)] [] M (f_X12_again_43 n x0 x1 x2 M) := by
  intro n
  induction n with
  | zero => intro x0 x1 x2 M; rw [f_X12_again_43]; exact v_none
  | succ n ih =>
    intro x0 x1 x2 M
    rw [f_X12_again_43]
    refine v_iload_n X 44 2 dX12_again_43 rfl rfl ?_
    refine v_bipush X 46 dX12_again_44 bk_46 rfl ?_
    refine v_icge X 49 72 dX12_again_46 rfl rfl ?_ ?_
    · refine v_aload_n X 73 0 dX12_again_72 rfl rfl ?_
      refine v_iconst X 74 dX12_again_73 ik_0 rfl ?_
      refine v_putI X 77 fl_X12_241 nof dX12_again_74 rfl (fun M1 => ?_)
      refine v_iconst X 78 dX12_again_77 ik_1 rfl ?_
      exact v_zret X Y (Nat.le_refl _) (Nat.le_refl _) dX12_again_78
    · refine v_aload_n X 50 0 dX12_again_49 rfl rfl ?_
      refine v_getR X 53 fl_X12_43.r dX12_again_50 rfl (fun v2 => ?_)
      refine v_iload_n X 54 2 dX12_again_53 rfl rfl ?_
      refine v_aload_n X 55 0 dX12_again_54 rfl rfl ?_
      refine v_getR X 58 fl_X12_130.r dX12_again_55 rfl (fun v3 => ?_)
      refine v_bipush X 60 dX12_again_58 bk_46 rfl ?_
      refine v_iload_n X 61 1 dX12_again_60 rfl rfl ?_
      refine v_imul X 62 dX12_again_61 rfl ?_
      refine v_iload_n X 63 2 dX12_again_62 rfl rfl ?_
      refine v_iadd X 64 dX12_again_63 rfl ?_
      refine v_iald X 65 dX12_again_64 rfl (fun v4 => ?_)
      refine v_iast X 66 dX12_again_65 rfl (fun M5 => ?_)
      refine v_iinc X 69 2 (fun z => [(0, .ref x0), (1, .int x1), (2, .int z)]) dX12_again_66 rfl ik_1 (by decide) (fun _ => rfl) rfl (fun y6 => ?_)
      refine v_goto X 43 dX12_again_69 rfl ?_
      exact ih _ _ _ _
set_option maxRecDepth 4000 in
theorem L_X12_again_0 {G : Gx} (X : Cb G cX12_again 3 RX12 (RM 2 0 0) false) (Y : Cr G (some .boolean) 0 0) (x0 : Nat) (x1 : Int32) (M : MM) : V G trI 3 0 0 0 [(0, .ref x0), (1, .int x1)] [] M (f_X12_again_0 x0 x1 M) := by
  unfold f_X12_again_0
  refine v_aload_n X 1 0 dX12_again_0 rfl rfl ?_
  refine v_iconst X 2 dX12_again_1 ik_0 rfl ?_
  refine v_putI X 5 fl_X12_133 nof dX12_again_2 rfl (fun M1 => ?_)
  refine v_iload_n X 6 1 dX12_again_5 rfl rfl ?_
  refine v_i2l X 7 dX12_again_6 rfl ?_
  refine v_lconst X 8 dX12_again_7 lk_0 rfl ?_
  refine v_ldc2 X 11 dX12_again_8 kl_X12_436 rfl ?_
  refine v_sI X 14 cs_X12_in ml_X12_146 (n1 := 1) rfl [.long (Int32.toInt64 x1), .long (0 : Int64), .long (2 : Int64)] rfl rfl rfl dX12_again_11 rfl (fun r M1 h => c_X12_in _ _ _ _ _ _ _ h) (fun r3 M2 => ?_)
  refine v_ifeq X 17 39 dX12_again_14 rfl rfl ?_ ?_
  · refine v_iconst X 40 dX12_again_39 ik_0 rfl ?_
    exact v_zret X Y (Nat.le_refl _) (Nat.le_refl _) dX12_again_40
  · refine v_aload_n X 18 0 dX12_again_17 rfl rfl ?_
    refine v_getR X 21 fl_X12_124.r dX12_again_18 rfl (fun v4 => ?_)
    refine v_iload_n X 22 1 dX12_again_21 rfl rfl ?_
    refine v_zald X 23 dX12_again_22 rfl (fun v5 => ?_)
    refine v_ifeq X 26 39 dX12_again_23 rfl rfl ?_ ?_
    · refine v_iconst X 40 dX12_again_39 ik_0 rfl ?_
      exact v_zret X Y (Nat.le_refl _) (Nat.le_refl _) dX12_again_40
    · refine v_aload_n X 27 0 dX12_again_26 rfl rfl ?_
      refine v_getR X 30 fl_X12_127.r dX12_again_27 rfl (fun v6 => ?_)
      refine v_iload_n X 31 1 dX12_again_30 rfl rfl ?_
      refine v_iald X 32 dX12_again_31 rfl (fun v7 => ?_)
      refine v_aload_n X 33 0 dX12_again_32 rfl rfl ?_
      refine v_getI X 36 fl_X12_244.r dX12_again_33 rfl (fun v8 => ?_)
      refine v_iceq X 39 41 dX12_again_36 rfl rfl ?_ ?_
      · refine v_iconst X 42 dX12_again_41 ik_0 rfl ?_
        refine v_istore_n (lv' := [(0, .ref x0), (1, .int x1), (2, .int (0 : Int32))]) X 43 dX12_again_42 (by decide) rfl rfl ?_
        exact L_X12_again_43 X Y 1024 _ _ _ _
      · refine v_iconst X 40 dX12_again_39 ik_0 rfl ?_
        exact v_zret X Y (Nat.le_refl _) (Nat.le_refl _) dX12_again_40
theorem c_X12_again (l : Launch) (x0 : Nat) (x1 : Int32) (M : MM) (r : Int32) (M1 : MM) (h : f_X12_again x0 x1 M = some (r, M1)) : KV l yX12_again cX12_again 3 (some .boolean) (RM 2 0 0) false 12 x0 [.int x1] M (some (.int r)) M1 := by
  obtain ⟨hO, h2⟩ := iteO_some h
  exact ⟨hO, ct_of (tr := trI) (by decide) (Nat.le_of_ble_eq_true rfl) [(0, .ref x0), (1, .int x1)] rfl h2 (fun G X Y hn hl => L_X12_again_0 X Y x0 x1 M)⟩

def f_X12_shyOnes_29 (K4 : Nat → Int32 → Int32 → MM → Option (Int32 × MM)) (x0 : Nat) (x2 : Int32) (s0 : Int32) (s1 : Int32) (M : MM) : Option (Int32 × MM) :=
    bn (s1 ||| s0 : Int32) fun y1 =>
    bn (x2 + 1 : Int32) fun y2 =>
    K4 x0 y1 y2 M

def f_X12_shyOnes_4 : Nat → Nat → Int32 → Int32 → MM → Option (Int32 × MM)
  | 0, _, _, _, _ => none
  | n + 1, x0, x1, x2, M =>
    b1 (gI 12 3 x0 M) fun v1 =>
    if v1 ≤ x2 then
      some (x1, M)
    else
      b1 (gR 12 7 x0 M) fun v2 =>
      b1 (ldZ v2 x2 M) fun v3 =>
      if v3 = 0 then
        f_X12_shyOnes_29 (f_X12_shyOnes_4 n) x0 x2 (0 : Int32) x1 M
      else
        f_X12_shyOnes_29 (f_X12_shyOnes_4 n) x0 x2 ((1 : Int32) <<< (x2 &&& 31)) x1 M

def f_X12_shyOnes_0 (x0 : Nat) (M : MM) : Option (Int32 × MM) :=
    f_X12_shyOnes_4 1024 x0 (0 : Int32) (0 : Int32) M

def f_X12_shyOnes (x0 : Nat) (M : MM) : Option (Int32 × MM) := if isO 12 x0 M = true then f_X12_shyOnes_0 x0 M else none
set_option maxRecDepth 4000 in
theorem L_X12_shyOnes_29 {G : Gx} (X : Cb G cX12_shyOnes 3 RX12 (RM 1 0 0) false) (Y : Cr G (some .int) 0 0) {K4 : Nat → Int32 → Int32 → MM → Option (Int32 × MM)} (hK4 : ∀ (x0 : Nat) (x1 : Int32) (x2 : Int32) (M : MM), V G trI 3 0 0 4 [(0, .ref x0), (1, .int x1), (2, .int x2)] [] M (K4 x0 x1 x2 M)) (x0 : Nat) (x2 : Int32) (s0 : Int32) (s1 : Int32) (M : MM) : V G trI 3 0 0 29 [(0, .ref x0), (2, .int x2)] [.int s0, .int s1] M (f_X12_shyOnes_29 K4 x0 x2 s0 s1 M) := by
  unfold f_X12_shyOnes_29
  refine v_ior X 30 dX12_shyOnes_29 rfl ?_
  refine v_bnI (fun y1 => ?_)
  refine v_istore_n (lv' := [(0, .ref x0), (1, .int y1), (2, .int x2)]) X 31 dX12_shyOnes_30 (by decide) rfl rfl ?_
  refine v_iinc X 34 2 (fun z => [(0, .ref x0), (1, .int y1), (2, .int z)]) dX12_shyOnes_31 rfl ik_1 (by decide) (fun _ => rfl) rfl (fun y2 => ?_)
  refine v_goto X 4 dX12_shyOnes_34 rfl ?_
  exact hK4 _ _ _ _
set_option maxRecDepth 4000 in
theorem L_X12_shyOnes_4 {G : Gx} (X : Cb G cX12_shyOnes 3 RX12 (RM 1 0 0) false) (Y : Cr G (some .int) 0 0) : ∀ (n : Nat) (x0 : Nat) (x1 : Int32) (x2 : Int32) (M : MM), V G trI 3 0 0 4 [(0, .ref x0), (1, .int x1), (2, .int x2)] [] M (f_X12_shyOnes_4 n x0 x1 x2 M) := by
  intro n
  induction n with
  | zero => intro x0 x1 x2 M; rw [f_X12_shyOnes_4]; exact v_none
  | succ n ih =>
    intro x0 x1 x2 M
    rw [f_X12_shyOnes_4]
    refine v_iload_n X 5 2 dX12_shyOnes_4 rfl rfl ?_
    refine v_aload_n X 6 0 dX12_shyOnes_5 rfl rfl ?_
    refine v_getI X 9 fl_X12_143.r dX12_shyOnes_6 rfl (fun v1 => ?_)
    refine v_icge X 12 37 dX12_shyOnes_9 rfl rfl ?_ ?_
    · refine v_iload_n X 38 1 dX12_shyOnes_37 rfl rfl ?_
      exact v_iret X Y (Nat.le_refl _) (Nat.le_refl _) dX12_shyOnes_38
    · refine v_iload_n X 13 1 dX12_shyOnes_12 rfl rfl ?_
      refine v_aload_n X 14 0 dX12_shyOnes_13 rfl rfl ?_
      refine v_getR X 17 fl_X12_17.r dX12_shyOnes_14 rfl (fun v2 => ?_)
      refine v_iload_n X 18 2 dX12_shyOnes_17 rfl rfl ?_
      refine v_zald X 19 dX12_shyOnes_18 rfl (fun v3 => ?_)
      refine v_ifeq X 22 28 dX12_shyOnes_19 rfl rfl ?_ ?_
      · refine v_iconst X 29 dX12_shyOnes_28 ik_0 rfl ?_
        exact v_sb [0, 2] (L_X12_shyOnes_29 X Y ih _ _ _ _ _) rfl
      · refine v_iconst X 23 dX12_shyOnes_22 ik_1 rfl ?_
        refine v_iload_n X 24 2 dX12_shyOnes_23 rfl rfl ?_
        refine v_ishl X 25 dX12_shyOnes_24 rfl ?_
        refine v_goto X 29 dX12_shyOnes_25 rfl ?_
        exact v_sb [0, 2] (L_X12_shyOnes_29 X Y ih _ _ _ _ _) rfl
set_option maxRecDepth 4000 in
theorem L_X12_shyOnes_0 {G : Gx} (X : Cb G cX12_shyOnes 3 RX12 (RM 1 0 0) false) (Y : Cr G (some .int) 0 0) (x0 : Nat) (M : MM) : V G trI 3 0 0 0 [(0, .ref x0)] [] M (f_X12_shyOnes_0 x0 M) := by
  unfold f_X12_shyOnes_0
  refine v_iconst X 1 dX12_shyOnes_0 ik_0 rfl ?_
  refine v_istore_n (lv' := [(0, .ref x0), (1, .int (0 : Int32))]) X 2 dX12_shyOnes_1 (by decide) rfl rfl ?_
  refine v_iconst X 3 dX12_shyOnes_2 ik_0 rfl ?_
  refine v_istore_n (lv' := [(0, .ref x0), (1, .int (0 : Int32)), (2, .int (0 : Int32))]) X 4 dX12_shyOnes_3 (by decide) rfl rfl ?_
  exact L_X12_shyOnes_4 X Y 1024 _ _ _ _
theorem c_X12_shyOnes (l : Launch) (x0 : Nat) (M : MM) (r : Int32) (M1 : MM) (h : f_X12_shyOnes x0 M = some (r, M1)) : KV l yX12_shyOnes cX12_shyOnes 3 (some .int) (RM 1 0 0) false 12 x0 [] M (some (.int r)) M1 := by
  obtain ⟨hO, h2⟩ := iteO_some h
  exact ⟨hO, ct_of (tr := trI) (by decide) (Nat.le_of_ble_eq_true rfl) [(0, .ref x0)] rfl h2 (fun G X Y hn hl => L_X12_shyOnes_0 X Y x0 M)⟩

def f_X12_count_0 (x0 : Nat) (x1 : Int32) (M : MM) : Option (Int32 × MM) :=
    b1 (pI 12 0 x0 (0 : Int32) M) fun M1 =>
    if x1 = 0 then
      b1 (gI 12 3 x0 M1) fun v2 =>
      some (v2, M1)
    else
    if x1 = 1 then
      b1 (gI 12 4 x0 M1) fun v3 =>
      some (v3, M1)
    else
    if x1 = 2 then
      b1 (gI 12 6 x0 M1) fun v4 =>
      some (v4, M1)
    else
    if x1 = 3 then
      b1 (gR 12 15 x0 M1) fun v5 =>
      b1 (ldI v5 (45 : Int32) M1) fun v6 =>
      some (v6, M1)
    else
    if x1 = 4 then
      b2 (f_X12_shyOnes x0 M1) fun r8 M7 =>
      some (r8, M7)
    else
    if x1 = 5 then
      b1 (gI 12 33 x0 M1) fun v9 =>
      some (v9, M1)
    else
    if x1 = 6 then
      b1 (gI 12 51 x0 M1) fun v10 =>
      some (v10, M1)
    else
    if x1 = 7 then
      b1 (gI 12 1 x0 M1) fun v11 =>
      some (v11, M1)
    else
    if x1 = 8 then
      b1 (gI 12 18 x0 M1) fun v12 =>
      some (v12, M1)
    else
      some ((-100 : Int32), M1)

def f_X12_count (x0 : Nat) (x1 : Int32) (M : MM) : Option (Int32 × MM) := if isO 12 x0 M = true then f_X12_count_0 x0 x1 M else none
set_option maxRecDepth 4000 in
theorem L_X12_count_0 {G : Gx} (X : Cb G cX12_count 2 RX12 (RM 2 0 0) false) (Y : Cr G (some .int) 0 0) (x0 : Nat) (x1 : Int32) (M : MM) : V G trI 2 0 0 0 [(0, .ref x0), (1, .int x1)] [] M (f_X12_count_0 x0 x1 M) := by
  unfold f_X12_count_0
  refine v_aload_n X 1 0 dX12_count_0 rfl rfl ?_
  refine v_iconst X 2 dX12_count_1 ik_0 rfl ?_
  refine v_putI X 5 fl_X12_133 nof dX12_count_2 rfl (fun M1 => ?_)
  refine v_iload_n X 6 1 dX12_count_5 rfl rfl ?_
  refine v_ite (fun e => ?_) (fun e0 => ?_)
  · refine v_tabIn X 56 dX12_count_6 e rfl ?_
    refine v_aload_n X 57 0 dX12_count_56 rfl rfl ?_
    refine v_getI X 60 fl_X12_143.r dX12_count_57 rfl (fun v2 => ?_)
    exact v_iret X Y (Nat.le_refl _) (Nat.le_refl _) dX12_count_60
  refine v_ite (fun e => ?_) (fun e1 => ?_)
  · refine v_tabIn X 61 dX12_count_6 e rfl ?_
    refine v_aload_n X 62 0 dX12_count_61 rfl rfl ?_
    refine v_getI X 65 fl_X12_150.r dX12_count_62 rfl (fun v3 => ?_)
    exact v_iret X Y (Nat.le_refl _) (Nat.le_refl _) dX12_count_65
  refine v_ite (fun e => ?_) (fun e2 => ?_)
  · refine v_tabIn X 66 dX12_count_6 e rfl ?_
    refine v_aload_n X 67 0 dX12_count_66 rfl rfl ?_
    refine v_getI X 70 fl_X12_13.r dX12_count_67 rfl (fun v4 => ?_)
    exact v_iret X Y (Nat.le_refl _) (Nat.le_refl _) dX12_count_70
  refine v_ite (fun e => ?_) (fun e3 => ?_)
  · refine v_tabIn X 71 dX12_count_6 e rfl ?_
    refine v_aload_n X 72 0 dX12_count_71 rfl rfl ?_
    refine v_getR X 75 fl_X12_43.r dX12_count_72 rfl (fun v5 => ?_)
    refine v_bipush X 77 dX12_count_75 bk_45 rfl ?_
    refine v_iald X 78 dX12_count_77 rfl (fun v6 => ?_)
    exact v_iret X Y (Nat.le_refl _) (Nat.le_refl _) dX12_count_78
  refine v_ite (fun e => ?_) (fun e4 => ?_)
  · refine v_tabIn X 79 dX12_count_6 e rfl ?_
    refine v_aload_n X 80 0 dX12_count_79 rfl rfl ?_
    refine v_vI X 83 cv_X12_shyOnes ml_X12_506 (n1 := 1) rfl [] rfl rfl rfl dX12_count_80 rfl (fun r M1 h => c_X12_shyOnes _ _ _ _ _ h) (fun r8 M7 => ?_)
    exact v_iret X Y (Nat.le_refl _) (Nat.le_refl _) dX12_count_83
  refine v_ite (fun e => ?_) (fun e5 => ?_)
  · refine v_tabIn X 84 dX12_count_6 e rfl ?_
    refine v_aload_n X 85 0 dX12_count_84 rfl rfl ?_
    refine v_getI X 88 fl_X12_241.r dX12_count_85 rfl (fun v9 => ?_)
    exact v_iret X Y (Nat.le_refl _) (Nat.le_refl _) dX12_count_88
  refine v_ite (fun e => ?_) (fun e6 => ?_)
  · refine v_tabIn X 89 dX12_count_6 e rfl ?_
    refine v_aload_n X 90 0 dX12_count_89 rfl rfl ?_
    refine v_getI X 93 fl_X12_494.r dX12_count_90 rfl (fun v10 => ?_)
    exact v_iret X Y (Nat.le_refl _) (Nat.le_refl _) dX12_count_93
  refine v_ite (fun e => ?_) (fun e7 => ?_)
  · refine v_tabIn X 94 dX12_count_6 e rfl ?_
    refine v_aload_n X 95 0 dX12_count_94 rfl rfl ?_
    refine v_getI X 98 fl_X12_140.r dX12_count_95 rfl (fun v11 => ?_)
    exact v_iret X Y (Nat.le_refl _) (Nat.le_refl _) dX12_count_98
  refine v_ite (fun e => ?_) (fun e8 => ?_)
  · refine v_tabIn X 99 dX12_count_6 e rfl ?_
    refine v_aload_n X 100 0 dX12_count_99 rfl rfl ?_
    refine v_getI X 103 fl_X12_153.r dX12_count_100 rfl (fun v12 => ?_)
    exact v_iret X Y (Nat.le_refl _) (Nat.le_refl _) dX12_count_103
  refine v_tabOut X 104 dX12_count_6 [0, 1, 2, 3, 4, 5, 6, 7, 8] ⟨e0, e1, e2, e3, e4, e5, e6, e7, e8, trivial⟩ rfl rfl ?_
  refine v_bipush X 106 dX12_count_104 bk_m100 rfl ?_
  exact v_iret X Y (Nat.le_refl _) (Nat.le_refl _) dX12_count_106
theorem c_X12_count (l : Launch) (x0 : Nat) (x1 : Int32) (M : MM) (r : Int32) (M1 : MM) (h : f_X12_count x0 x1 M = some (r, M1)) : KV l yX12_count cX12_count 2 (some .int) (RM 2 0 0) false 12 x0 [.int x1] M (some (.int r)) M1 := by
  obtain ⟨hO, h2⟩ := iteO_some h
  exact ⟨hO, ct_of (tr := trI) (by decide) (Nat.le_of_ble_eq_true rfl) [(0, .ref x0), (1, .int x1)] rfl h2 (fun G X Y hn hl => L_X12_count_0 X Y x0 x1 M)⟩

def f_X12_row_0 (x0 : Nat) (x1 : Int32) (M : MM) : Option (Int64 × MM) :=
    b1 (pI 12 0 x0 (0 : Int32) M) fun M1 =>
    b1 (gI 12 1 x0 M1) fun v2 =>
    b2 (f_X12_in (Int32.toInt64 x1) (0 : Int64) (Int32.toInt64 (v2 - (1 : Int32))) M1) fun r4 M3 =>
    if r4 = 0 then
      b1 (pI 12 0 x0 (1 : Int32) M3) fun M7 =>
      some ((0 : Int64), M7)
    else
      b1 (gR 12 2 x0 M3) fun v5 =>
      b1 (ldL v5 x1 M3) fun v6 =>
      some (v6, M3)

def f_X12_row (x0 : Nat) (x1 : Int32) (M : MM) : Option (Int64 × MM) := if isO 12 x0 M = true then f_X12_row_0 x0 x1 M else none
set_option maxRecDepth 4000 in
theorem L_X12_row_0 {G : Gx} (X : Cb G cX12_row 2 RX12 (RM 2 0 0) false) (Y : Cr G (some .long) 0 0) (x0 : Nat) (x1 : Int32) (M : MM) : V G trL 2 0 0 0 [(0, .ref x0), (1, .int x1)] [] M (f_X12_row_0 x0 x1 M) := by
  unfold f_X12_row_0
  refine v_aload_n X 1 0 dX12_row_0 rfl rfl ?_
  refine v_iconst X 2 dX12_row_1 ik_0 rfl ?_
  refine v_putI X 5 fl_X12_133 nof dX12_row_2 rfl (fun M1 => ?_)
  refine v_iload_n X 6 1 dX12_row_5 rfl rfl ?_
  refine v_i2l X 7 dX12_row_6 rfl ?_
  refine v_lconst X 8 dX12_row_7 lk_0 rfl ?_
  refine v_aload_n X 9 0 dX12_row_8 rfl rfl ?_
  refine v_getI X 12 fl_X12_140.r dX12_row_9 rfl (fun v2 => ?_)
  refine v_iconst X 13 dX12_row_12 ik_1 rfl ?_
  refine v_isub X 14 dX12_row_13 rfl ?_
  refine v_i2l X 15 dX12_row_14 rfl ?_
  refine v_sI X 18 cs_X12_in ml_X12_146 (n1 := 1) rfl [.long (Int32.toInt64 x1), .long (0 : Int64), .long (Int32.toInt64 (v2 - (1 : Int32)))] rfl rfl rfl dX12_row_15 rfl (fun r M1 h => c_X12_in _ _ _ _ _ _ _ h) (fun r4 M3 => ?_)
  refine v_ifne X 21 28 dX12_row_18 rfl rfl ?_ ?_
  · refine v_aload_n X 29 0 dX12_row_28 rfl rfl ?_
    refine v_getR X 32 fl_X12_9.r dX12_row_29 rfl (fun v5 => ?_)
    refine v_iload_n X 33 1 dX12_row_32 rfl rfl ?_
    refine v_lald X 34 dX12_row_33 rfl (fun v6 => ?_)
    exact v_lret X Y (Nat.le_refl _) (Nat.le_refl _) dX12_row_34
  · refine v_aload_n X 22 0 dX12_row_21 rfl rfl ?_
    refine v_iconst X 23 dX12_row_22 ik_1 rfl ?_
    refine v_putI X 26 fl_X12_133 nof dX12_row_23 rfl (fun M7 => ?_)
    refine v_lconst X 27 dX12_row_26 lk_0 rfl ?_
    exact v_lret X Y (Nat.le_refl _) (Nat.le_refl _) dX12_row_27
theorem c_X12_row (l : Launch) (x0 : Nat) (x1 : Int32) (M : MM) (r : Int64) (M1 : MM) (h : f_X12_row x0 x1 M = some (r, M1)) : KV l yX12_row cX12_row 2 (some .long) (RM 2 0 0) false 12 x0 [.int x1] M (some (.long r)) M1 := by
  obtain ⟨hO, h2⟩ := iteO_some h
  exact ⟨hO, ct_of (tr := trL) (by decide) (Nat.le_of_ble_eq_true rfl) [(0, .ref x0), (1, .int x1)] rfl h2 (fun G X Y hn hl => L_X12_row_0 X Y x0 x1 M)⟩

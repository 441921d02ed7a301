def f_X7_emit_0 (x0 : Nat) (x1 : Int32) (M : MM) : Option (MM) :=
    b1 (gI 7 7 x0 M) fun v1 =>
    if (40 : Int32) ≤ v1 then
      some M
    else
      b1 (gR 7 3 x0 M) fun v2 =>
      b1 (gI 7 7 x0 M) fun v3 =>
      b1 (stI v2 v3 x1 M) fun M4 =>
      b1 (gI 7 7 x0 M4) fun v5 =>
      b1 (pI 7 7 x0 (v5 + (1 : Int32)) M4) fun M6 =>
      some M6

def f_X7_emit (x0 : Nat) (x1 : Int32) (M : MM) : Option (MM) := if isO 7 x0 M = true then f_X7_emit_0 x0 x1 M else none
set_option maxRecDepth 4000 in
theorem L_X7_emit_0 {G : Gx} (X : Cb G cX7_emit 2 RX7 (RM 1 0 0) false) (Y : Cr G none 0 0) (x0 : Nat) (x1 : Int32) (M : MM) : V G trV 2 0 0 0 [(0, .ref x0), (1, .int x1)] [] M (f_X7_emit_0 x0 x1 M) := by
  unfold f_X7_emit_0
  refine v_aload_n X 1 0 dX7_emit_0 rfl rfl ?_
  refine v_getI X 4 fl_X7_38.r dX7_emit_1 rfl (fun v1 => ?_)
  refine v_bipush X 6 dX7_emit_4 bk_40 rfl ?_
  refine v_icge X 9 29 dX7_emit_6 rfl rfl ?_ ?_
  · exact v_vret X Y (Nat.le_refl _) (Nat.le_refl _) dX7_emit_29
  · refine v_aload_n X 10 0 dX7_emit_9 rfl rfl ?_
    refine v_getR X 13 fl_X7_15.r dX7_emit_10 rfl (fun v2 => ?_)
    refine v_aload_n X 14 0 dX7_emit_13 rfl rfl ?_
    refine v_getI X 17 fl_X7_38.r dX7_emit_14 rfl (fun v3 => ?_)
    refine v_iload_n X 18 1 dX7_emit_17 rfl rfl ?_
    refine v_iast X 19 dX7_emit_18 rfl (fun M4 => ?_)
    refine v_aload_n X 20 0 dX7_emit_19 rfl rfl ?_
    refine v_dup X 21 dX7_emit_20 rfl rfl ?_
    refine v_getI X 24 fl_X7_38.r dX7_emit_21 rfl (fun v5 => ?_)
    refine v_iconst X 25 dX7_emit_24 ik_1 rfl ?_
    refine v_iadd X 26 dX7_emit_25 rfl ?_
    refine v_putI X 29 fl_X7_38 nof dX7_emit_26 rfl (fun M6 => ?_)
    exact v_vret X Y (Nat.le_refl _) (Nat.le_refl _) dX7_emit_29
theorem c_X7_emit (l : Launch) (x0 : Nat) (x1 : Int32) (M : MM) (M1 : MM) (h : f_X7_emit x0 x1 M = some M1) : KV l yX7_emit cX7_emit 2 none (RM 1 0 0) false 7 x0 [.int x1] M none M1 := by
  obtain ⟨hO, h2⟩ := iteO_some h
  exact ⟨hO, ct_of (tr := trV) (by decide) (Nat.le_of_ble_eq_true rfl) [(0, .ref x0), (1, .int x1)] rfl h2 (fun G X Y hn hl => L_X7_emit_0 X Y x0 x1 M)⟩

def f_X7_operator_0 (x0 : Int32) (M : MM) : Option (Int32 × MM) :=
    some ((-100 : Int32) - x0, M)

def f_X7_operator (x0 : Int32) (M : MM) : Option (Int32 × MM) := f_X7_operator_0 x0 M
set_option maxRecDepth 4000 in
theorem L_X7_operator_0 {G : Gx} (X : Cb G cX7_operator 1 RX7 (RM 1 0 0) false) (Y : Cr G (some .int) 0 0) (x0 : Int32) (M : MM) : V G trI 1 0 0 0 [(0, .int x0)] [] M (f_X7_operator_0 x0 M) := by
  unfold f_X7_operator_0
  refine v_bipush X 2 dX7_operator_0 bk_m100 rfl ?_
  refine v_iload_n X 3 0 dX7_operator_2 rfl rfl ?_
  refine v_isub X 4 dX7_operator_3 rfl ?_
  exact v_iret X Y (Nat.le_refl _) (Nat.le_refl _) dX7_operator_4
theorem c_X7_operator (l : Launch) (x0 : Int32) (M : MM) (r : Int32) (M1 : MM) (h : f_X7_operator x0 M = some (r, M1)) : CtAt l yX7_operator cX7_operator 1 (some .int) (RM 1 0 0) false [.int x0] M (some (.int r)) M1 :=
  ct_of (tr := trI) (by decide) (Nat.le_of_ble_eq_true rfl) [(0, .int x0)] rfl h (fun G X Y hn hl => L_X7_operator_0 X Y x0 M)

def f_X7_readThing_30 (P0 : Nat → Nat → Int32 → MM → Option (Int32 × MM)) (K5 : Nat → Nat → Int32 → Int32 → Int32 → MM → Option (Int32 × MM)) (x0 : Nat) (x1 : Nat) (x2 : Int32) (x4 : Int32) (s0 : Int32) (M : MM) : Option (Int32 × MM) :=
    bn (x4 + 1 : Int32) fun y1 =>
    K5 x0 x1 x2 s0 y1 M

def f_X7_readThing_136 (P0 : Nat → Nat → Int32 → MM → Option (Int32 × MM)) (x0 : Nat) (x3 : Int32) (M : MM) : Option (Int32 × MM) :=
    if x3 = 0 then
      rz (1 : Int32) M
    else
      b2 (f_X7_operator (126 : Int32) M) fun r2 M1 =>
      b1 (f_X7_emit x0 r2 M1) fun M3 =>
      rz (1 : Int32) M3

def f_X7_readThing_115 (P0 : Nat → Nat → Int32 → MM → Option (Int32 × MM)) (x0 : Nat) (x1 : Nat) (x3 : Int32) (s0 : Int32) (M : MM) : Option (Int32 × MM) :=
    if 0 ≤ s0 then
      b1 (f_X10_skip x1 M) fun M1 =>
      b1 (f_X7_emit x0 ((-1 : Int32) - s0) M1) fun M2 =>
      f_X7_readThing_136 P0 x0 x3 M2
    else
      rz (0 : Int32) M

def f_X7_readThing_94 (P0 : Nat → Nat → Int32 → MM → Option (Int32 × MM)) (x0 : Nat) (x1 : Nat) (x3 : Int32) (M : MM) : Option (Int32 × MM) :=
    b2 (f_X10_atEnd x1 M) fun r2 M1 =>
    if r2 = 0 then
      b2 (f_X10_peek x1 M1) fun r4 M3 =>
      b2 (f_J0_indexOf_0f7a4 (sB + 0) (i2cv r4) M3) fun r6 M5 =>
      f_X7_readThing_115 P0 x0 x1 x3 r6 M5
    else
      f_X7_readThing_115 P0 x0 x1 x3 (-1 : Int32) M1

def f_X7_readThing_37 (P0 : Nat → Nat → Int32 → MM → Option (Int32 × MM)) (x0 : Nat) (x1 : Nat) (x2 : Int32) (x3 : Int32) (M : MM) : Option (Int32 × MM) :=
    b2 (f_X10_number x1 (3 : Int32) M) fun r2 M1 =>
    if r2 < 0 then
      if (4 : Int32) ≤ x2 then
        f_X7_readThing_94 P0 x0 x1 x3 M1
      else
        b2 (f_X10_take x1 (40 : Int32) M1) fun r4 M3 =>
        if r4 = 0 then
          f_X7_readThing_94 P0 x0 x1 x3 M3
        else
          b2 (P0 x0 x1 (x2 + (1 : Int32)) M3) fun r6 M5 =>
          if r6 = 0 then
            rz (0 : Int32) M5
          else
            b2 (f_X10_take x1 (41 : Int32) M5) fun r8 M7 =>
            if r8 = 0 then
              rz (0 : Int32) M7
            else
              f_X7_readThing_136 P0 x0 x3 M7
    else
      b1 (f_X7_emit x0 r2 M1) fun M9 =>
      f_X7_readThing_136 P0 x0 x3 M9

def f_X7_readThing_5 (P0 : Nat → Nat → Int32 → MM → Option (Int32 × MM)) : Nat → Nat → Nat → Int32 → Int32 → Int32 → MM → Option (Int32 × MM)
  | 0, _, _, _, _, _, _ => none
  | n + 1, x0, x1, x2, x3, x4, M =>
    if (40 : Int32) ≤ x4 then
      f_X7_readThing_37 P0 x0 x1 x2 x3 M
    else
      b2 (f_X10_take x1 (45 : Int32) M) fun r2 M1 =>
      if r2 = 0 then
        f_X7_readThing_37 P0 x0 x1 x2 x3 M1
      else
        if x3 = 0 then
          f_X7_readThing_30 P0 (f_X7_readThing_5 P0 n) x0 x1 x2 x4 (1 : Int32) M1
        else
          f_X7_readThing_30 P0 (f_X7_readThing_5 P0 n) x0 x1 x2 x4 (0 : Int32) M1

def f_X7_readThing_0 (P0 : Nat → Nat → Int32 → MM → Option (Int32 × MM)) (x0 : Nat) (x1 : Nat) (x2 : Int32) (M : MM) : Option (Int32 × MM) :=
    f_X7_readThing_5 P0 1024 x0 x1 x2 (0 : Int32) (0 : Int32) M

set_option maxRecDepth 4000 in
theorem L_X7_readThing_30 {k : Nat} {G : Gx} (X : Cb G cX7_readThing 6 RX7 (RM (13 + 4 * k + 1) 0 0) false) (Y : Cr G (some .boolean) 0 0) {P0 : Nat → Nat → Int32 → MM → Option (Int32 × MM)} (hP0 : ∀ (x0 : Nat) (x1 : Nat) (x2 : Int32) (M : MM) (r : Int32) (M1 : MM), P0 x0 x1 x2 M = some (r, M1) → KV G.1.2.1 yX7_readComparison cX7_readComparison 4 (some .boolean) (RM (13 + 4 * k) 0 0) false 7 x0 [.ref x1, .int x2] M (some (.int r)) M1) {K5 : Nat → Nat → Int32 → Int32 → Int32 → MM → Option (Int32 × MM)} (hK5 : ∀ (x0 : Nat) (x1 : Nat) (x2 : Int32) (x3 : Int32) (x4 : Int32) (M : MM), V G trI 6 0 0 5 [(0, .ref x0), (1, .ref x1), (2, .int x2), (3, .int x3), (4, .int x4)] [] M (K5 x0 x1 x2 x3 x4 M)) (x0 : Nat) (x1 : Nat) (x2 : Int32) (x4 : Int32) (s0 : Int32) (M : MM) : V G trI 6 0 0 30 [(0, .ref x0), (1, .ref x1), (2, .int x2), (4, .int x4)] [.int s0] M (f_X7_readThing_30 P0 K5 x0 x1 x2 x4 s0 M) := by
  unfold f_X7_readThing_30
  refine v_istore_n (lv' := [(0, .ref x0), (1, .ref x1), (2, .int x2), (3, .int s0), (4, .int x4)]) X 31 dX7_readThing_30 (by decide) rfl rfl ?_
  refine v_iinc X 34 4 (fun z => [(0, .ref x0), (1, .ref x1), (2, .int x2), (3, .int s0), (4, .int z)]) dX7_readThing_31 rfl ik_1 (by decide) (fun _ => rfl) rfl (fun y1 => ?_)
  refine v_goto X 5 dX7_readThing_34 rfl ?_
  exact hK5 _ _ _ _ _ _
set_option maxRecDepth 4000 in
theorem L_X7_readThing_136 {k : Nat} {G : Gx} (X : Cb G cX7_readThing 6 RX7 (RM (13 + 4 * k + 1) 0 0) false) (Y : Cr G (some .boolean) 0 0) {P0 : Nat → Nat → Int32 → MM → Option (Int32 × MM)} (hP0 : ∀ (x0 : Nat) (x1 : Nat) (x2 : Int32) (M : MM) (r : Int32) (M1 : MM), P0 x0 x1 x2 M = some (r, M1) → KV G.1.2.1 yX7_readComparison cX7_readComparison 4 (some .boolean) (RM (13 + 4 * k) 0 0) false 7 x0 [.ref x1, .int x2] M (some (.int r)) M1) (x0 : Nat) (x3 : Int32) (M : MM) : V G trI 6 0 0 136 [(0, .ref x0), (3, .int x3)] [] M (f_X7_readThing_136 P0 x0 x3 M) := by
  unfold f_X7_readThing_136
  refine v_iload_n X 137 1 dX7_readThing_136 rfl rfl ?_
  refine v_ifeq X 140 149 dX7_readThing_137 rfl rfl ?_ ?_
  · refine v_iconst X 150 dX7_readThing_149 ik_1 rfl ?_
    exact v_zret X Y (Nat.le_refl _) (Nat.le_refl _) dX7_readThing_150
  · refine v_aload_n X 141 0 dX7_readThing_140 rfl rfl ?_
    refine v_bipush X 143 dX7_readThing_141 bk_126 rfl ?_
    refine v_sI X 146 cs_X7_operator ml_X7_78 (n1 := 1) (rmq (by omega) (by decide)) [.int (126 : Int32)] rfl rfl rfl dX7_readThing_143 rfl (fun r M1 h => c_X7_operator _ _ _ _ _ h) (fun r2 M1 => ?_)
    refine v_vV X 149 cv_X7_emit ml_X7_82 (n1 := 1) (rmq (by omega) (by decide)) [.int r2] rfl rfl rfl dX7_readThing_146 rfl (fun M1 h => c_X7_emit _ _ _ _ _ h) (fun M3 => ?_)
    refine v_iconst X 150 dX7_readThing_149 ik_1 rfl ?_
    exact v_zret X Y (Nat.le_refl _) (Nat.le_refl _) dX7_readThing_150
set_option maxRecDepth 4000 in
theorem L_X7_readThing_115 {k : Nat} {G : Gx} (X : Cb G cX7_readThing 6 RX7 (RM (13 + 4 * k + 1) 0 0) false) (Y : Cr G (some .boolean) 0 0) {P0 : Nat → Nat → Int32 → MM → Option (Int32 × MM)} (hP0 : ∀ (x0 : Nat) (x1 : Nat) (x2 : Int32) (M : MM) (r : Int32) (M1 : MM), P0 x0 x1 x2 M = some (r, M1) → KV G.1.2.1 yX7_readComparison cX7_readComparison 4 (some .boolean) (RM (13 + 4 * k) 0 0) false 7 x0 [.ref x1, .int x2] M (some (.int r)) M1) (x0 : Nat) (x1 : Nat) (x3 : Int32) (s0 : Int32) (M : MM) : V G trI 6 0 0 115 [(0, .ref x0), (1, .ref x1), (3, .int x3)] [.int s0] M (f_X7_readThing_115 P0 x0 x1 x3 s0 M) := by
  unfold f_X7_readThing_115
  refine v_istore (lv' := [(0, .ref x0), (1, .ref x1), (3, .int x3), (5, .int s0)]) X 117 dX7_readThing_115 (by decide) rfl rfl ?_
  refine v_iload X 119 3 dX7_readThing_117 rfl rfl ?_
  refine v_ifge X 122 124 dX7_readThing_119 rfl rfl ?_ ?_
  · refine v_aload_n X 125 1 dX7_readThing_124 rfl rfl ?_
    refine v_vV X 128 cv_X10_skip ml_X7_75 (n1 := 1) (rmq (by omega) (by decide)) [] rfl rfl rfl dX7_readThing_125 rfl (fun M1 h => c_X10_skip _ _ _ _ h) (fun M1 => ?_)
    refine v_aload_n X 129 0 dX7_readThing_128 rfl rfl ?_
    refine v_iconst X 130 dX7_readThing_129 ik_m1 rfl ?_
    refine v_iload X 132 3 dX7_readThing_130 rfl rfl ?_
    refine v_isub X 133 dX7_readThing_132 rfl ?_
    refine v_vV X 136 cv_X7_emit ml_X7_82 (n1 := 1) (rmq (by omega) (by decide)) [.int ((-1 : Int32) - s0)] rfl rfl rfl dX7_readThing_133 rfl (fun M1 h => c_X7_emit _ _ _ _ _ h) (fun M2 => ?_)
    exact v_sb [0, 2] (L_X7_readThing_136 X Y hP0 _ _ _) rfl
  · refine v_iconst X 123 dX7_readThing_122 ik_0 rfl ?_
    exact v_zret X Y (Nat.le_refl _) (Nat.le_refl _) dX7_readThing_123
set_option maxRecDepth 4000 in
theorem L_X7_readThing_94 {k : Nat} {G : Gx} (X : Cb G cX7_readThing 6 RX7 (RM (13 + 4 * k + 1) 0 0) false) (Y : Cr G (some .boolean) 0 0) {P0 : Nat → Nat → Int32 → MM → Option (Int32 × MM)} (hP0 : ∀ (x0 : Nat) (x1 : Nat) (x2 : Int32) (M : MM) (r : Int32) (M1 : MM), P0 x0 x1 x2 M = some (r, M1) → KV G.1.2.1 yX7_readComparison cX7_readComparison 4 (some .boolean) (RM (13 + 4 * k) 0 0) false 7 x0 [.ref x1, .int x2] M (some (.int r)) M1) (x0 : Nat) (x1 : Nat) (x3 : Int32) (M : MM) : V G trI 6 0 0 94 [(0, .ref x0), (1, .ref x1), (3, .int x3)] [] M (f_X7_readThing_94 P0 x0 x1 x3 M) := by
  unfold f_X7_readThing_94
  refine v_aload_n X 95 1 dX7_readThing_94 rfl rfl ?_
  refine v_vI X 98 cv_X10_atEnd ml_X7_50 (n1 := 1) (rmq (by omega) (by decide)) [] rfl rfl rfl dX7_readThing_95 rfl (fun r M1 h => c_X10_atEnd _ _ _ _ _ h) (fun r2 M1 => ?_)
  refine v_ifeq X 101 105 dX7_readThing_98 rfl rfl ?_ ?_
  · refine v_ldcS X 107 (tx := "wasnieyz") (no := 0) dX7_readThing_105 (by decide) rfl ?_
    refine v_aload_n X 108 1 dX7_readThing_107 rfl rfl ?_
    refine v_vI X 111 cv_X10_peek ml_X7_72 (n1 := 1) (rmq (by omega) (by decide)) [] rfl rfl rfl dX7_readThing_108 rfl (fun r M1 h => c_X10_peek _ _ _ _ _ h) (fun r4 M3 => ?_)
    refine v_i2c X 112 dX7_readThing_111 rfl ?_
    refine v_tI X 115 cvs_J0_indexOf_0f7a4 ml_X7_100 (n1 := 10) (rmq (by omega) (by decide)) [.int (i2cv r4)] rfl rfl rfl dX7_readThing_112 rfl (fun r M1 h => c_J0_indexOf_0f7a4 _ _ _ _ _ _ h) (fun r6 M5 => ?_)
    exact L_X7_readThing_115 X Y hP0 _ _ _ _ _
  · refine v_iconst X 102 dX7_readThing_101 ik_m1 rfl ?_
    refine v_goto X 115 dX7_readThing_102 rfl ?_
    exact L_X7_readThing_115 X Y hP0 _ _ _ _ _
set_option maxRecDepth 4000 in
theorem L_X7_readThing_37 {k : Nat} {G : Gx} (X : Cb G cX7_readThing 6 RX7 (RM (13 + 4 * k + 1) 0 0) false) (Y : Cr G (some .boolean) 0 0) {P0 : Nat → Nat → Int32 → MM → Option (Int32 × MM)} (hP0 : ∀ (x0 : Nat) (x1 : Nat) (x2 : Int32) (M : MM) (r : Int32) (M1 : MM), P0 x0 x1 x2 M = some (r, M1) → KV G.1.2.1 yX7_readComparison cX7_readComparison 4 (some .boolean) (RM (13 + 4 * k) 0 0) false 7 x0 [.ref x1, .int x2] M (some (.int r)) M1) (x0 : Nat) (x1 : Nat) (x2 : Int32) (x3 : Int32) (M : MM) : V G trI 6 0 0 37 [(0, .ref x0), (1, .ref x1), (2, .int x2), (3, .int x3)] [] M (f_X7_readThing_37 P0 x0 x1 x2 x3 M) := by
  unfold f_X7_readThing_37
  refine v_aload_n X 38 1 dX7_readThing_37 rfl rfl ?_
  refine v_iconst X 39 dX7_readThing_38 ik_3 rfl ?_
  refine v_vI X 42 cv_X10_number ml_X7_95 (n1 := 2) (rmq (by omega) (by decide)) [.int (3 : Int32)] rfl rfl rfl dX7_readThing_39 rfl (fun r M1 h => c_X10_number _ _ _ _ _ _ h) (fun r2 M1 => ?_)
  refine v_istore (lv' := [(0, .ref x0), (1, .ref x1), (2, .int x2), (3, .int x3), (4, .int r2)]) X 44 dX7_readThing_42 (by decide) rfl rfl ?_
  refine v_iload X 46 4 dX7_readThing_44 rfl rfl ?_
  refine v_iflt X 49 58 dX7_readThing_46 rfl rfl ?_ ?_
  · refine v_iload_n X 59 2 dX7_readThing_58 rfl rfl ?_
    refine v_iconst X 60 dX7_readThing_59 ik_4 rfl ?_
    refine v_icge X 63 94 dX7_readThing_60 rfl rfl ?_ ?_
    · exact v_sb [0, 1, 3] (L_X7_readThing_94 X Y hP0 _ _ _ _) rfl
    · refine v_aload_n X 64 1 dX7_readThing_63 rfl rfl ?_
      refine v_bipush X 66 dX7_readThing_64 bk_40 rfl ?_
      refine v_vI X 69 cv_X10_take ml_X7_91 (n1 := 2) (rmq (by omega) (by decide)) [.int (40 : Int32)] rfl rfl rfl dX7_readThing_66 rfl (fun r M1 h => c_X10_take _ _ _ _ _ _ h) (fun r4 M3 => ?_)
      refine v_ifeq X 72 94 dX7_readThing_69 rfl rfl ?_ ?_
      · exact v_sb [0, 1, 3] (L_X7_readThing_94 X Y hP0 _ _ _ _) rfl
      · refine v_aload_n X 73 0 dX7_readThing_72 rfl rfl ?_
        refine v_aload_n X 74 1 dX7_readThing_73 rfl rfl ?_
        refine v_iload_n X 75 2 dX7_readThing_74 rfl rfl ?_
        refine v_iconst X 76 dX7_readThing_75 ik_1 rfl ?_
        refine v_iadd X 77 dX7_readThing_76 rfl ?_
        refine v_vI X 80 cv_X7_readComparison ml_X7_46 (n1 := (13 + 4 * k)) (rmq (by omega) (by decide)) [.ref x1, .int (x2 + (1 : Int32))] rfl rfl rfl dX7_readThing_77 rfl (fun r M1 h => hP0 _ _ _ _ _ _ h) (fun r6 M5 => ?_)
        refine v_ifeq X 83 92 dX7_readThing_80 rfl rfl ?_ ?_
        · refine v_iconst X 93 dX7_readThing_92 ik_0 rfl ?_
          exact v_zret X Y (Nat.le_refl _) (Nat.le_refl _) dX7_readThing_93
        · refine v_aload_n X 84 1 dX7_readThing_83 rfl rfl ?_
          refine v_bipush X 86 dX7_readThing_84 bk_41 rfl ?_
          refine v_vI X 89 cv_X10_take ml_X7_91 (n1 := 2) (rmq (by omega) (by decide)) [.int (41 : Int32)] rfl rfl rfl dX7_readThing_86 rfl (fun r M1 h => c_X10_take _ _ _ _ _ _ h) (fun r8 M7 => ?_)
          refine v_ifne X 92 136 dX7_readThing_89 rfl rfl ?_ ?_
          · exact v_sb [0, 3] (L_X7_readThing_136 X Y hP0 _ _ _) rfl
          · refine v_iconst X 93 dX7_readThing_92 ik_0 rfl ?_
            exact v_zret X Y (Nat.le_refl _) (Nat.le_refl _) dX7_readThing_93
  · refine v_aload_n X 50 0 dX7_readThing_49 rfl rfl ?_
    refine v_iload X 52 4 dX7_readThing_50 rfl rfl ?_
    refine v_vV X 55 cv_X7_emit ml_X7_82 (n1 := 1) (rmq (by omega) (by decide)) [.int r2] rfl rfl rfl dX7_readThing_52 rfl (fun M1 h => c_X7_emit _ _ _ _ _ h) (fun M9 => ?_)
    refine v_goto X 136 dX7_readThing_55 rfl ?_
    exact v_sb [0, 3] (L_X7_readThing_136 X Y hP0 _ _ _) rfl
set_option maxRecDepth 4000 in
theorem L_X7_readThing_5 {k : Nat} {G : Gx} (X : Cb G cX7_readThing 6 RX7 (RM (13 + 4 * k + 1) 0 0) false) (Y : Cr G (some .boolean) 0 0) {P0 : Nat → Nat → Int32 → MM → Option (Int32 × MM)} (hP0 : ∀ (x0 : Nat) (x1 : Nat) (x2 : Int32) (M : MM) (r : Int32) (M1 : MM), P0 x0 x1 x2 M = some (r, M1) → KV G.1.2.1 yX7_readComparison cX7_readComparison 4 (some .boolean) (RM (13 + 4 * k) 0 0) false 7 x0 [.ref x1, .int x2] M (some (.int r)) M1) : ∀ (n : Nat) (x0 : Nat) (x1 : Nat) (x2 : Int32) (x3 : Int32) (x4 : Int32) (M : MM), V G trI 6 0 0 5 [(0, .ref x0), (1, .ref x1), (2, .int x2), (3, .int x3), (4, .int x4)] [] M (f_X7_readThing_5 P0 n x0 x1 x2 x3 x4 M) := by
  intro n
  induction n with
  | zero => intro x0 x1 x2 x3 x4 M; rw [f_X7_readThing_5]; exact v_none
  | succ n ih =>
    intro x0 x1 x2 x3 x4 M
    rw [f_X7_readThing_5]
    refine v_iload X 7 4 dX7_readThing_5 rfl rfl ?_
    refine v_bipush X 9 dX7_readThing_7 bk_40 rfl ?_
    refine v_icge X 12 37 dX7_readThing_9 rfl rfl ?_ ?_
    · exact v_sb [0, 1, 2, 3] (L_X7_readThing_37 X Y hP0 _ _ _ _ _) rfl
    · refine v_aload_n X 13 1 dX7_readThing_12 rfl rfl ?_
      refine v_bipush X 15 dX7_readThing_13 bk_45 rfl ?_
      refine v_vI X 18 cv_X10_take ml_X7_91 (n1 := 2) (rmq (by omega) (by decide)) [.int (45 : Int32)] rfl rfl rfl dX7_readThing_15 rfl (fun r M1 h => c_X10_take _ _ _ _ _ _ h) (fun r2 M1 => ?_)
      refine v_ifeq X 21 37 dX7_readThing_18 rfl rfl ?_ ?_
      · exact v_sb [0, 1, 2, 3] (L_X7_readThing_37 X Y hP0 _ _ _ _ _) rfl
      · refine v_iload_n X 22 3 dX7_readThing_21 rfl rfl ?_
        refine v_ifne X 25 29 dX7_readThing_22 rfl rfl ?_ ?_
        · refine v_iconst X 30 dX7_readThing_29 ik_0 rfl ?_
          exact v_sb [0, 1, 2, 4] (L_X7_readThing_30 X Y hP0 ih _ _ _ _ _ _) rfl
        · refine v_iconst X 26 dX7_readThing_25 ik_1 rfl ?_
          refine v_goto X 30 dX7_readThing_26 rfl ?_
          exact v_sb [0, 1, 2, 4] (L_X7_readThing_30 X Y hP0 ih _ _ _ _ _ _) rfl
set_option maxRecDepth 4000 in
theorem L_X7_readThing_0 {k : Nat} {G : Gx} (X : Cb G cX7_readThing 6 RX7 (RM (13 + 4 * k + 1) 0 0) false) (Y : Cr G (some .boolean) 0 0) {P0 : Nat → Nat → Int32 → MM → Option (Int32 × MM)} (hP0 : ∀ (x0 : Nat) (x1 : Nat) (x2 : Int32) (M : MM) (r : Int32) (M1 : MM), P0 x0 x1 x2 M = some (r, M1) → KV G.1.2.1 yX7_readComparison cX7_readComparison 4 (some .boolean) (RM (13 + 4 * k) 0 0) false 7 x0 [.ref x1, .int x2] M (some (.int r)) M1) (x0 : Nat) (x1 : Nat) (x2 : Int32) (M : MM) : V G trI 6 0 0 0 [(0, .ref x0), (1, .ref x1), (2, .int x2)] [] M (f_X7_readThing_0 P0 x0 x1 x2 M) := by
  unfold f_X7_readThing_0
  refine v_iconst X 1 dX7_readThing_0 ik_0 rfl ?_
  refine v_istore_n (lv' := [(0, .ref x0), (1, .ref x1), (2, .int x2), (3, .int (0 : Int32))]) X 2 dX7_readThing_1 (by decide) rfl rfl ?_
  refine v_iconst X 3 dX7_readThing_2 ik_0 rfl ?_
  refine v_istore (lv' := [(0, .ref x0), (1, .ref x1), (2, .int x2), (3, .int (0 : Int32)), (4, .int (0 : Int32))]) X 5 dX7_readThing_3 (by decide) rfl rfl ?_
  exact L_X7_readThing_5 X Y hP0 1024 _ _ _ _ _ _
def f_X7_readProduct_41 (P0 : Nat → Nat → Int32 → MM → Option (Int32 × MM)) (K13 : Nat → Nat → Int32 → Int32 → MM → Option (Int32 × MM)) (x0 : Nat) (x1 : Nat) (x2 : Int32) (x3 : Int32) (x4 : Int32) (M : MM) : Option (Int32 × MM) :=
    b1 (f_X10_skip x1 M) fun M1 =>
    b2 (P0 x0 x1 x2 M1) fun r3 M2 =>
    if r3 = 0 then
      rz (0 : Int32) M2
    else
      b2 (f_X7_operator x4 M2) fun r5 M4 =>
      b1 (f_X7_emit x0 r5 M4) fun M6 =>
      bn (x3 + 1 : Int32) fun y7 =>
      K13 x0 x1 x2 y7 M6

def f_X7_readProduct_13 (P0 : Nat → Nat → Int32 → MM → Option (Int32 × MM)) : Nat → Nat → Nat → Int32 → Int32 → MM → Option (Int32 × MM)
  | 0, _, _, _, _, _ => none
  | n + 1, x0, x1, x2, x3, M =>
    if (40 : Int32) ≤ x3 then
      rz (1 : Int32) M
    else
      b2 (f_X10_peek x1 M) fun r2 M1 =>
      if r2 = (42 : Int32) then
        f_X7_readProduct_41 P0 (f_X7_readProduct_13 P0 n) x0 x1 x2 x3 r2 M1
      else
        if r2 = (47 : Int32) then
          f_X7_readProduct_41 P0 (f_X7_readProduct_13 P0 n) x0 x1 x2 x3 r2 M1
        else
          rz (1 : Int32) M1

def f_X7_readProduct_0 (P0 : Nat → Nat → Int32 → MM → Option (Int32 × MM)) (x0 : Nat) (x1 : Nat) (x2 : Int32) (M : MM) : Option (Int32 × MM) :=
    b2 (P0 x0 x1 x2 M) fun r2 M1 =>
    if r2 = 0 then
      rz (0 : Int32) M1
    else
      f_X7_readProduct_13 P0 1024 x0 x1 x2 (0 : Int32) M1

set_option maxRecDepth 4000 in
theorem L_X7_readProduct_41 {k : Nat} {G : Gx} (X : Cb G cX7_readProduct 5 RX7 (RM (13 + 4 * k + 2) 0 0) false) (Y : Cr G (some .boolean) 0 0) {P0 : Nat → Nat → Int32 → MM → Option (Int32 × MM)} (hP0 : ∀ (x0 : Nat) (x1 : Nat) (x2 : Int32) (M : MM) (r : Int32) (M1 : MM), P0 x0 x1 x2 M = some (r, M1) → KV G.1.2.1 yX7_readThing cX7_readThing 6 (some .boolean) (RM (13 + 4 * k + 1) 0 0) false 7 x0 [.ref x1, .int x2] M (some (.int r)) M1) {K13 : Nat → Nat → Int32 → Int32 → MM → Option (Int32 × MM)} (hK13 : ∀ (x0 : Nat) (x1 : Nat) (x2 : Int32) (x3 : Int32) (M : MM), V G trI 5 0 0 13 [(0, .ref x0), (1, .ref x1), (2, .int x2), (3, .int x3)] [] M (K13 x0 x1 x2 x3 M)) (x0 : Nat) (x1 : Nat) (x2 : Int32) (x3 : Int32) (x4 : Int32) (M : MM) : V G trI 5 0 0 41 [(0, .ref x0), (1, .ref x1), (2, .int x2), (3, .int x3), (4, .int x4)] [] M (f_X7_readProduct_41 P0 K13 x0 x1 x2 x3 x4 M) := by
  unfold f_X7_readProduct_41
  refine v_aload_n X 42 1 dX7_readProduct_41 rfl rfl ?_
  refine v_vV X 45 cv_X10_skip ml_X7_75 (n1 := 1) (rmq (by omega) (by decide)) [] rfl rfl rfl dX7_readProduct_42 rfl (fun M1 h => c_X10_skip _ _ _ _ h) (fun M1 => ?_)
  refine v_aload_n X 46 0 dX7_readProduct_45 rfl rfl ?_
  refine v_aload_n X 47 1 dX7_readProduct_46 rfl rfl ?_
  refine v_iload_n X 48 2 dX7_readProduct_47 rfl rfl ?_
  refine v_vI X 51 cv_X7_readThing ml_X7_88 (n1 := (13 + 4 * k + 1)) (rmq (by omega) (by decide)) [.ref x1, .int x2] rfl rfl rfl dX7_readProduct_48 rfl (fun r M1 h => hP0 _ _ _ _ _ _ h) (fun r3 M2 => ?_)
  refine v_ifne X 54 56 dX7_readProduct_51 rfl rfl ?_ ?_
  · refine v_aload_n X 57 0 dX7_readProduct_56 rfl rfl ?_
    refine v_iload X 59 4 dX7_readProduct_57 rfl rfl ?_
    refine v_sI X 62 cs_X7_operator ml_X7_78 (n1 := 1) (rmq (by omega) (by decide)) [.int x4] rfl rfl rfl dX7_readProduct_59 rfl (fun r M1 h => c_X7_operator _ _ _ _ _ h) (fun r5 M4 => ?_)
    refine v_vV X 65 cv_X7_emit ml_X7_82 (n1 := 1) (rmq (by omega) (by decide)) [.int r5] rfl rfl rfl dX7_readProduct_62 rfl (fun M1 h => c_X7_emit _ _ _ _ _ h) (fun M6 => ?_)
    refine v_iinc X 68 3 (fun z => [(0, .ref x0), (1, .ref x1), (2, .int x2), (3, .int z), (4, .int x4)]) dX7_readProduct_65 rfl ik_1 (by decide) (fun _ => rfl) rfl (fun y7 => ?_)
    refine v_goto X 13 dX7_readProduct_68 rfl ?_
    exact v_sb [0, 1, 2, 3] (hK13 _ _ _ _ _) rfl
  · refine v_iconst X 55 dX7_readProduct_54 ik_0 rfl ?_
    exact v_zret X Y (Nat.le_refl _) (Nat.le_refl _) dX7_readProduct_55
set_option maxRecDepth 4000 in
theorem L_X7_readProduct_13 {k : Nat} {G : Gx} (X : Cb G cX7_readProduct 5 RX7 (RM (13 + 4 * k + 2) 0 0) false) (Y : Cr G (some .boolean) 0 0) {P0 : Nat → Nat → Int32 → MM → Option (Int32 × MM)} (hP0 : ∀ (x0 : Nat) (x1 : Nat) (x2 : Int32) (M : MM) (r : Int32) (M1 : MM), P0 x0 x1 x2 M = some (r, M1) → KV G.1.2.1 yX7_readThing cX7_readThing 6 (some .boolean) (RM (13 + 4 * k + 1) 0 0) false 7 x0 [.ref x1, .int x2] M (some (.int r)) M1) : ∀ (n : Nat) (x0 : Nat) (x1 : Nat) (x2 : Int32) (x3 : Int32) (M : MM), V G trI 5 0 0 13 [(0, .ref x0), (1, .ref x1), (2, .int x2), (3, .int x3)] [] M (f_X7_readProduct_13 P0 n x0 x1 x2 x3 M) := by
  intro n
  induction n with
  | zero => intro x0 x1 x2 x3 M; rw [f_X7_readProduct_13]; exact v_none
  | succ n ih =>
    intro x0 x1 x2 x3 M
    rw [f_X7_readProduct_13]
    refine v_iload_n X 14 3 dX7_readProduct_13 rfl rfl ?_
    refine v_bipush X 16 dX7_readProduct_14 bk_40 rfl ?_
    refine v_icge X 19 71 dX7_readProduct_16 rfl rfl ?_ ?_
    · refine v_iconst X 72 dX7_readProduct_71 ik_1 rfl ?_
      exact v_zret X Y (Nat.le_refl _) (Nat.le_refl _) dX7_readProduct_72
    · refine v_aload_n X 20 1 dX7_readProduct_19 rfl rfl ?_
      refine v_vI X 23 cv_X10_peek ml_X7_72 (n1 := 1) (rmq (by omega) (by decide)) [] rfl rfl rfl dX7_readProduct_20 rfl (fun r M1 h => c_X10_peek _ _ _ _ _ h) (fun r2 M1 => ?_)
      refine v_istore (lv' := [(0, .ref x0), (1, .ref x1), (2, .int x2), (3, .int x3), (4, .int r2)]) X 25 dX7_readProduct_23 (by decide) rfl rfl ?_
      refine v_iload X 27 4 dX7_readProduct_25 rfl rfl ?_
      refine v_bipush X 29 dX7_readProduct_27 bk_42 rfl ?_
      refine v_iceq X 32 41 dX7_readProduct_29 rfl rfl ?_ ?_
      · exact L_X7_readProduct_41 X Y hP0 ih _ _ _ _ _ _
      · refine v_iload X 34 4 dX7_readProduct_32 rfl rfl ?_
        refine v_bipush X 36 dX7_readProduct_34 bk_47 rfl ?_
        refine v_iceq X 39 41 dX7_readProduct_36 rfl rfl ?_ ?_
        · exact L_X7_readProduct_41 X Y hP0 ih _ _ _ _ _ _
        · refine v_iconst X 40 dX7_readProduct_39 ik_1 rfl ?_
          exact v_zret X Y (Nat.le_refl _) (Nat.le_refl _) dX7_readProduct_40
set_option maxRecDepth 4000 in
theorem L_X7_readProduct_0 {k : Nat} {G : Gx} (X : Cb G cX7_readProduct 5 RX7 (RM (13 + 4 * k + 2) 0 0) false) (Y : Cr G (some .boolean) 0 0) {P0 : Nat → Nat → Int32 → MM → Option (Int32 × MM)} (hP0 : ∀ (x0 : Nat) (x1 : Nat) (x2 : Int32) (M : MM) (r : Int32) (M1 : MM), P0 x0 x1 x2 M = some (r, M1) → KV G.1.2.1 yX7_readThing cX7_readThing 6 (some .boolean) (RM (13 + 4 * k + 1) 0 0) false 7 x0 [.ref x1, .int x2] M (some (.int r)) M1) (x0 : Nat) (x1 : Nat) (x2 : Int32) (M : MM) : V G trI 5 0 0 0 [(0, .ref x0), (1, .ref x1), (2, .int x2)] [] M (f_X7_readProduct_0 P0 x0 x1 x2 M) := by
  unfold f_X7_readProduct_0
  refine v_aload_n X 1 0 dX7_readProduct_0 rfl rfl ?_
  refine v_aload_n X 2 1 dX7_readProduct_1 rfl rfl ?_
  refine v_iload_n X 3 2 dX7_readProduct_2 rfl rfl ?_
  refine v_vI X 6 cv_X7_readThing ml_X7_88 (n1 := (13 + 4 * k + 1)) (rmq (by omega) (by decide)) [.ref x1, .int x2] rfl rfl rfl dX7_readProduct_3 rfl (fun r M1 h => hP0 _ _ _ _ _ _ h) (fun r2 M1 => ?_)
  refine v_ifne X 9 11 dX7_readProduct_6 rfl rfl ?_ ?_
  · refine v_iconst X 12 dX7_readProduct_11 ik_0 rfl ?_
    refine v_istore_n (lv' := [(0, .ref x0), (1, .ref x1), (2, .int x2), (3, .int (0 : Int32))]) X 13 dX7_readProduct_12 (by decide) rfl rfl ?_
    exact L_X7_readProduct_13 X Y hP0 1024 _ _ _ _ _
  · refine v_iconst X 10 dX7_readProduct_9 ik_0 rfl ?_
    exact v_zret X Y (Nat.le_refl _) (Nat.le_refl _) dX7_readProduct_10
def f_X7_readSum_41 (P0 : Nat → Nat → Int32 → MM → Option (Int32 × MM)) (K13 : Nat → Nat → Int32 → Int32 → MM → Option (Int32 × MM)) (x0 : Nat) (x1 : Nat) (x2 : Int32) (x3 : Int32) (x4 : Int32) (M : MM) : Option (Int32 × MM) :=
    b1 (f_X10_skip x1 M) fun M1 =>
    b2 (P0 x0 x1 x2 M1) fun r3 M2 =>
    if r3 = 0 then
      rz (0 : Int32) M2
    else
      b2 (f_X7_operator x4 M2) fun r5 M4 =>
      b1 (f_X7_emit x0 r5 M4) fun M6 =>
      bn (x3 + 1 : Int32) fun y7 =>
      K13 x0 x1 x2 y7 M6

def f_X7_readSum_13 (P0 : Nat → Nat → Int32 → MM → Option (Int32 × MM)) : Nat → Nat → Nat → Int32 → Int32 → MM → Option (Int32 × MM)
  | 0, _, _, _, _, _ => none
  | n + 1, x0, x1, x2, x3, M =>
    if (40 : Int32) ≤ x3 then
      rz (1 : Int32) M
    else
      b2 (f_X10_peek x1 M) fun r2 M1 =>
      if r2 = (43 : Int32) then
        f_X7_readSum_41 P0 (f_X7_readSum_13 P0 n) x0 x1 x2 x3 r2 M1
      else
        if r2 = (45 : Int32) then
          f_X7_readSum_41 P0 (f_X7_readSum_13 P0 n) x0 x1 x2 x3 r2 M1
        else
          rz (1 : Int32) M1

def f_X7_readSum_0 (P0 : Nat → Nat → Int32 → MM → Option (Int32 × MM)) (x0 : Nat) (x1 : Nat) (x2 : Int32) (M : MM) : Option (Int32 × MM) :=
    b2 (P0 x0 x1 x2 M) fun r2 M1 =>
    if r2 = 0 then
      rz (0 : Int32) M1
    else
      f_X7_readSum_13 P0 1024 x0 x1 x2 (0 : Int32) M1

set_option maxRecDepth 4000 in
theorem L_X7_readSum_41 {k : Nat} {G : Gx} (X : Cb G cX7_readSum 5 RX7 (RM (13 + 4 * k + 3) 0 0) false) (Y : Cr G (some .boolean) 0 0) {P0 : Nat → Nat → Int32 → MM → Option (Int32 × MM)} (hP0 : ∀ (x0 : Nat) (x1 : Nat) (x2 : Int32) (M : MM) (r : Int32) (M1 : MM), P0 x0 x1 x2 M = some (r, M1) → KV G.1.2.1 yX7_readProduct cX7_readProduct 5 (some .boolean) (RM (13 + 4 * k + 2) 0 0) false 7 x0 [.ref x1, .int x2] M (some (.int r)) M1) {K13 : Nat → Nat → Int32 → Int32 → MM → Option (Int32 × MM)} (hK13 : ∀ (x0 : Nat) (x1 : Nat) (x2 : Int32) (x3 : Int32) (M : MM), V G trI 5 0 0 13 [(0, .ref x0), (1, .ref x1), (2, .int x2), (3, .int x3)] [] M (K13 x0 x1 x2 x3 M)) (x0 : Nat) (x1 : Nat) (x2 : Int32) (x3 : Int32) (x4 : Int32) (M : MM) : V G trI 5 0 0 41 [(0, .ref x0), (1, .ref x1), (2, .int x2), (3, .int x3), (4, .int x4)] [] M (f_X7_readSum_41 P0 K13 x0 x1 x2 x3 x4 M) := by
  unfold f_X7_readSum_41
  refine v_aload_n X 42 1 dX7_readSum_41 rfl rfl ?_
  refine v_vV X 45 cv_X10_skip ml_X7_75 (n1 := 1) (rmq (by omega) (by decide)) [] rfl rfl rfl dX7_readSum_42 rfl (fun M1 h => c_X10_skip _ _ _ _ h) (fun M1 => ?_)
  refine v_aload_n X 46 0 dX7_readSum_45 rfl rfl ?_
  refine v_aload_n X 47 1 dX7_readSum_46 rfl rfl ?_
  refine v_iload_n X 48 2 dX7_readSum_47 rfl rfl ?_
  refine v_vI X 51 cv_X7_readProduct ml_X7_85 (n1 := (13 + 4 * k + 2)) (rmq (by omega) (by decide)) [.ref x1, .int x2] rfl rfl rfl dX7_readSum_48 rfl (fun r M1 h => hP0 _ _ _ _ _ _ h) (fun r3 M2 => ?_)
  refine v_ifne X 54 56 dX7_readSum_51 rfl rfl ?_ ?_
  · refine v_aload_n X 57 0 dX7_readSum_56 rfl rfl ?_
    refine v_iload X 59 4 dX7_readSum_57 rfl rfl ?_
    refine v_sI X 62 cs_X7_operator ml_X7_78 (n1 := 1) (rmq (by omega) (by decide)) [.int x4] rfl rfl rfl dX7_readSum_59 rfl (fun r M1 h => c_X7_operator _ _ _ _ _ h) (fun r5 M4 => ?_)
    refine v_vV X 65 cv_X7_emit ml_X7_82 (n1 := 1) (rmq (by omega) (by decide)) [.int r5] rfl rfl rfl dX7_readSum_62 rfl (fun M1 h => c_X7_emit _ _ _ _ _ h) (fun M6 => ?_)
    refine v_iinc X 68 3 (fun z => [(0, .ref x0), (1, .ref x1), (2, .int x2), (3, .int z), (4, .int x4)]) dX7_readSum_65 rfl ik_1 (by decide) (fun _ => rfl) rfl (fun y7 => ?_)
    refine v_goto X 13 dX7_readSum_68 rfl ?_
    exact v_sb [0, 1, 2, 3] (hK13 _ _ _ _ _) rfl
  · refine v_iconst X 55 dX7_readSum_54 ik_0 rfl ?_
    exact v_zret X Y (Nat.le_refl _) (Nat.le_refl _) dX7_readSum_55
set_option maxRecDepth 4000 in
theorem L_X7_readSum_13 {k : Nat} {G : Gx} (X : Cb G cX7_readSum 5 RX7 (RM (13 + 4 * k + 3) 0 0) false) (Y : Cr G (some .boolean) 0 0) {P0 : Nat → Nat → Int32 → MM → Option (Int32 × MM)} (hP0 : ∀ (x0 : Nat) (x1 : Nat) (x2 : Int32) (M : MM) (r : Int32) (M1 : MM), P0 x0 x1 x2 M = some (r, M1) → KV G.1.2.1 yX7_readProduct cX7_readProduct 5 (some .boolean) (RM (13 + 4 * k + 2) 0 0) false 7 x0 [.ref x1, .int x2] M (some (.int r)) M1) : ∀ (n : Nat) (x0 : Nat) (x1 : Nat) (x2 : Int32) (x3 : Int32) (M : MM), V G trI 5 0 0 13 [(0, .ref x0), (1, .ref x1), (2, .int x2), (3, .int x3)] [] M (f_X7_readSum_13 P0 n x0 x1 x2 x3 M) := by
  intro n
  induction n with
  | zero => intro x0 x1 x2 x3 M; rw [f_X7_readSum_13]; exact v_none
  | succ n ih =>
    intro x0 x1 x2 x3 M
    rw [f_X7_readSum_13]
    refine v_iload_n X 14 3 dX7_readSum_13 rfl rfl ?_
    refine v_bipush X 16 dX7_readSum_14 bk_40 rfl ?_
    refine v_icge X 19 71 dX7_readSum_16 rfl rfl ?_ ?_
    · refine v_iconst X 72 dX7_readSum_71 ik_1 rfl ?_
      exact v_zret X Y (Nat.le_refl _) (Nat.le_refl _) dX7_readSum_72
    · refine v_aload_n X 20 1 dX7_readSum_19 rfl rfl ?_
      refine v_vI X 23 cv_X10_peek ml_X7_72 (n1 := 1) (rmq (by omega) (by decide)) [] rfl rfl rfl dX7_readSum_20 rfl (fun r M1 h => c_X10_peek _ _ _ _ _ h) (fun r2 M1 => ?_)
      refine v_istore (lv' := [(0, .ref x0), (1, .ref x1), (2, .int x2), (3, .int x3), (4, .int r2)]) X 25 dX7_readSum_23 (by decide) rfl rfl ?_
      refine v_iload X 27 4 dX7_readSum_25 rfl rfl ?_
      refine v_bipush X 29 dX7_readSum_27 bk_43 rfl ?_
      refine v_iceq X 32 41 dX7_readSum_29 rfl rfl ?_ ?_
      · exact L_X7_readSum_41 X Y hP0 ih _ _ _ _ _ _
      · refine v_iload X 34 4 dX7_readSum_32 rfl rfl ?_
        refine v_bipush X 36 dX7_readSum_34 bk_45 rfl ?_
        refine v_iceq X 39 41 dX7_readSum_36 rfl rfl ?_ ?_
        · exact L_X7_readSum_41 X Y hP0 ih _ _ _ _ _ _
        · refine v_iconst X 40 dX7_readSum_39 ik_1 rfl ?_
          exact v_zret X Y (Nat.le_refl _) (Nat.le_refl _) dX7_readSum_40
set_option maxRecDepth 4000 in
theorem L_X7_readSum_0 {k : Nat} {G : Gx} (X : Cb G cX7_readSum 5 RX7 (RM (13 + 4 * k + 3) 0 0) false) (Y : Cr G (some .boolean) 0 0) {P0 : Nat → Nat → Int32 → MM → Option (Int32 × MM)} (hP0 : ∀ (x0 : Nat) (x1 : Nat) (x2 : Int32) (M : MM) (r : Int32) (M1 : MM), P0 x0 x1 x2 M = some (r, M1) → KV G.1.2.1 yX7_readProduct cX7_readProduct 5 (some .boolean) (RM (13 + 4 * k + 2) 0 0) false 7 x0 [.ref x1, .int x2] M (some (.int r)) M1) (x0 : Nat) (x1 : Nat) (x2 : Int32) (M : MM) : V G trI 5 0 0 0 [(0, .ref x0), (1, .ref x1), (2, .int x2)] [] M (f_X7_readSum_0 P0 x0 x1 x2 M) := by
  unfold f_X7_readSum_0
  refine v_aload_n X 1 0 dX7_readSum_0 rfl rfl ?_
  refine v_aload_n X 2 1 dX7_readSum_1 rfl rfl ?_
  refine v_iload_n X 3 2 dX7_readSum_2 rfl rfl ?_
  refine v_vI X 6 cv_X7_readProduct ml_X7_85 (n1 := (13 + 4 * k + 2)) (rmq (by omega) (by decide)) [.ref x1, .int x2] rfl rfl rfl dX7_readSum_3 rfl (fun r M1 h => hP0 _ _ _ _ _ _ h) (fun r2 M1 => ?_)
  refine v_ifne X 9 11 dX7_readSum_6 rfl rfl ?_ ?_
  · refine v_iconst X 12 dX7_readSum_11 ik_0 rfl ?_
    refine v_istore_n (lv' := [(0, .ref x0), (1, .ref x1), (2, .int x2), (3, .int (0 : Int32))]) X 13 dX7_readSum_12 (by decide) rfl rfl ?_
    exact L_X7_readSum_13 X Y hP0 1024 _ _ _ _ _
  · refine v_iconst X 10 dX7_readSum_9 ik_0 rfl ?_
    exact v_zret X Y (Nat.le_refl _) (Nat.le_refl _) dX7_readSum_10
def f_X7_readComparison_36 (P0 : Nat → Nat → Int32 → MM → Option (Int32 × MM)) (x0 : Nat) (x1 : Nat) (x2 : Int32) (x3 : Int32) (M : MM) : Option (Int32 × MM) :=
    b1 (f_X10_skip x1 M) fun M1 =>
    b2 (P0 x0 x1 x2 M1) fun r3 M2 =>
    if r3 = 0 then
      rz (0 : Int32) M2
    else
      b2 (f_X7_operator x3 M2) fun r5 M4 =>
      b1 (f_X7_emit x0 r5 M4) fun M6 =>
      rz (1 : Int32) M6

def f_X7_readComparison_0 (P0 : Nat → Nat → Int32 → MM → Option (Int32 × MM)) (x0 : Nat) (x1 : Nat) (x2 : Int32) (M : MM) : Option (Int32 × MM) :=
    b2 (P0 x0 x1 x2 M) fun r2 M1 =>
    if r2 = 0 then
      rz (0 : Int32) M1
    else
      b2 (f_X10_peek x1 M1) fun r4 M3 =>
      if r4 = (60 : Int32) then
        f_X7_readComparison_36 P0 x0 x1 x2 r4 M3
      else
        if r4 = (62 : Int32) then
          f_X7_readComparison_36 P0 x0 x1 x2 r4 M3
        else
          if r4 = (61 : Int32) then
            f_X7_readComparison_36 P0 x0 x1 x2 r4 M3
          else
            rz (1 : Int32) M3

set_option maxRecDepth 4000 in
theorem L_X7_readComparison_36 {k : Nat} {G : Gx} (X : Cb G cX7_readComparison 4 RX7 (RM (13 + 4 * (k + 1)) 0 0) false) (Y : Cr G (some .boolean) 0 0) {P0 : Nat → Nat → Int32 → MM → Option (Int32 × MM)} (hP0 : ∀ (x0 : Nat) (x1 : Nat) (x2 : Int32) (M : MM) (r : Int32) (M1 : MM), P0 x0 x1 x2 M = some (r, M1) → KV G.1.2.1 yX7_readSum cX7_readSum 5 (some .boolean) (RM (13 + 4 * k + 3) 0 0) false 7 x0 [.ref x1, .int x2] M (some (.int r)) M1) (x0 : Nat) (x1 : Nat) (x2 : Int32) (x3 : Int32) (M : MM) : V G trI 4 0 0 36 [(0, .ref x0), (1, .ref x1), (2, .int x2), (3, .int x3)] [] M (f_X7_readComparison_36 P0 x0 x1 x2 x3 M) := by
  unfold f_X7_readComparison_36
  refine v_aload_n X 37 1 dX7_readComparison_36 rfl rfl ?_
  refine v_vV X 40 cv_X10_skip ml_X7_75 (n1 := 1) (rmq (by omega) (by decide)) [] rfl rfl rfl dX7_readComparison_37 rfl (fun M1 h => c_X10_skip _ _ _ _ h) (fun M1 => ?_)
  refine v_aload_n X 41 0 dX7_readComparison_40 rfl rfl ?_
  refine v_aload_n X 42 1 dX7_readComparison_41 rfl rfl ?_
  refine v_iload_n X 43 2 dX7_readComparison_42 rfl rfl ?_
  refine v_vI X 46 cv_X7_readSum ml_X7_69 (n1 := (13 + 4 * k + 3)) (rmq (by omega) (by decide)) [.ref x1, .int x2] rfl rfl rfl dX7_readComparison_43 rfl (fun r M1 h => hP0 _ _ _ _ _ _ h) (fun r3 M2 => ?_)
  refine v_ifne X 49 51 dX7_readComparison_46 rfl rfl ?_ ?_
  · refine v_aload_n X 52 0 dX7_readComparison_51 rfl rfl ?_
    refine v_iload_n X 53 3 dX7_readComparison_52 rfl rfl ?_
    refine v_sI X 56 cs_X7_operator ml_X7_78 (n1 := 1) (rmq (by omega) (by decide)) [.int x3] rfl rfl rfl dX7_readComparison_53 rfl (fun r M1 h => c_X7_operator _ _ _ _ _ h) (fun r5 M4 => ?_)
    refine v_vV X 59 cv_X7_emit ml_X7_82 (n1 := 1) (rmq (by omega) (by decide)) [.int r5] rfl rfl rfl dX7_readComparison_56 rfl (fun M1 h => c_X7_emit _ _ _ _ _ h) (fun M6 => ?_)
    refine v_iconst X 60 dX7_readComparison_59 ik_1 rfl ?_
    exact v_zret X Y (Nat.le_refl _) (Nat.le_refl _) dX7_readComparison_60
  · refine v_iconst X 50 dX7_readComparison_49 ik_0 rfl ?_
    exact v_zret X Y (Nat.le_refl _) (Nat.le_refl _) dX7_readComparison_50
set_option maxRecDepth 4000 in
theorem L_X7_readComparison_0 {k : Nat} {G : Gx} (X : Cb G cX7_readComparison 4 RX7 (RM (13 + 4 * (k + 1)) 0 0) false) (Y : Cr G (some .boolean) 0 0) {P0 : Nat → Nat → Int32 → MM → Option (Int32 × MM)} (hP0 : ∀ (x0 : Nat) (x1 : Nat) (x2 : Int32) (M : MM) (r : Int32) (M1 : MM), P0 x0 x1 x2 M = some (r, M1) → KV G.1.2.1 yX7_readSum cX7_readSum 5 (some .boolean) (RM (13 + 4 * k + 3) 0 0) false 7 x0 [.ref x1, .int x2] M (some (.int r)) M1) (x0 : Nat) (x1 : Nat) (x2 : Int32) (M : MM) : V G trI 4 0 0 0 [(0, .ref x0), (1, .ref x1), (2, .int x2)] [] M (f_X7_readComparison_0 P0 x0 x1 x2 M) := by
  unfold f_X7_readComparison_0
  refine v_aload_n X 1 0 dX7_readComparison_0 rfl rfl ?_
  refine v_aload_n X 2 1 dX7_readComparison_1 rfl rfl ?_
  refine v_iload_n X 3 2 dX7_readComparison_2 rfl rfl ?_
  refine v_vI X 6 cv_X7_readSum ml_X7_69 (n1 := (13 + 4 * k + 3)) (rmq (by omega) (by decide)) [.ref x1, .int x2] rfl rfl rfl dX7_readComparison_3 rfl (fun r M1 h => hP0 _ _ _ _ _ _ h) (fun r2 M1 => ?_)
  refine v_ifne X 9 11 dX7_readComparison_6 rfl rfl ?_ ?_
  · refine v_aload_n X 12 1 dX7_readComparison_11 rfl rfl ?_
    refine v_vI X 15 cv_X10_peek ml_X7_72 (n1 := 1) (rmq (by omega) (by decide)) [] rfl rfl rfl dX7_readComparison_12 rfl (fun r M1 h => c_X10_peek _ _ _ _ _ h) (fun r4 M3 => ?_)
    refine v_istore_n (lv' := [(0, .ref x0), (1, .ref x1), (2, .int x2), (3, .int r4)]) X 16 dX7_readComparison_15 (by decide) rfl rfl ?_
    refine v_iload_n X 17 3 dX7_readComparison_16 rfl rfl ?_
    refine v_bipush X 19 dX7_readComparison_17 bk_60 rfl ?_
    refine v_iceq X 22 36 dX7_readComparison_19 rfl rfl ?_ ?_
    · exact L_X7_readComparison_36 X Y hP0 _ _ _ _ _
    · refine v_iload_n X 23 3 dX7_readComparison_22 rfl rfl ?_
      refine v_bipush X 25 dX7_readComparison_23 bk_62 rfl ?_
      refine v_iceq X 28 36 dX7_readComparison_25 rfl rfl ?_ ?_
      · exact L_X7_readComparison_36 X Y hP0 _ _ _ _ _
      · refine v_iload_n X 29 3 dX7_readComparison_28 rfl rfl ?_
        refine v_bipush X 31 dX7_readComparison_29 bk_61 rfl ?_
        refine v_iceq X 34 36 dX7_readComparison_31 rfl rfl ?_ ?_
        · exact L_X7_readComparison_36 X Y hP0 _ _ _ _ _
        · refine v_iconst X 35 dX7_readComparison_34 ik_1 rfl ?_
          exact v_zret X Y (Nat.le_refl _) (Nat.le_refl _) dX7_readComparison_35
  · refine v_iconst X 10 dX7_readComparison_9 ik_0 rfl ?_
    exact v_zret X Y (Nat.le_refl _) (Nat.le_refl _) dX7_readComparison_10
def f_X7_readThing (P : Nat → Nat → Int32 → MM → Option (Int32 × MM)) (x0 : Nat) (x1 : Nat) (x2 : Int32) (M : MM) : Option (Int32 × MM) := if isO 7 x0 M = true then f_X7_readThing_0 P x0 x1 x2 M else none
def f_X7_readProduct (P : Nat → Nat → Int32 → MM → Option (Int32 × MM)) (x0 : Nat) (x1 : Nat) (x2 : Int32) (M : MM) : Option (Int32 × MM) := if isO 7 x0 M = true then f_X7_readProduct_0 (f_X7_readThing P) x0 x1 x2 M else none
def f_X7_readSum (P : Nat → Nat → Int32 → MM → Option (Int32 × MM)) (x0 : Nat) (x1 : Nat) (x2 : Int32) (M : MM) : Option (Int32 × MM) := if isO 7 x0 M = true then f_X7_readSum_0 (f_X7_readProduct P) x0 x1 x2 M else none
def f_X7_readComparison : Nat → Nat → Nat → Int32 → MM → Option (Int32 × MM)
  | 0, _, _, _, _ => none
  | n + 1, x0, x1, x2, M => if isO 7 x0 M = true then f_X7_readComparison_0 (f_X7_readSum (f_X7_readComparison n)) x0 x1 x2 M else none
theorem c_X7_readThing (l : Launch) {k : Nat} {P : Nat → Nat → Int32 → MM → Option (Int32 × MM)} (hP : ∀ (x0 : Nat) (x1 : Nat) (x2 : Int32) (M : MM) (r : Int32) (M1 : MM), P x0 x1 x2 M = some (r, M1) → KV l yX7_readComparison cX7_readComparison 4 (some .boolean) (RM (13 + 4 * k) 0 0) false 7 x0 [.ref x1, .int x2] M (some (.int r)) M1) (x0 : Nat) (x1 : Nat) (x2 : Int32) (M : MM) (r : Int32) (M1 : MM) (h : f_X7_readThing P x0 x1 x2 M = some (r, M1)) : KV l yX7_readThing cX7_readThing 6 (some .boolean) (RM (13 + 4 * k + 1) 0 0) false 7 x0 [.ref x1, .int x2] M (some (.int r)) M1 := by
  obtain ⟨hO, h2⟩ := iteO_some h
  exact ⟨hO, ct_of (tr := trI) (by decide) (Nat.le_of_ble_eq_true rfl) [(0, .ref x0), (1, .ref x1), (2, .int x2)] rfl h2 (fun G X Y hn hl => L_X7_readThing_0 (k := k) X Y (by rw [hl]; exact hP) x0 x1 x2 M)⟩
theorem c_X7_readProduct (l : Launch) {k : Nat} {P : Nat → Nat → Int32 → MM → Option (Int32 × MM)} (hP : ∀ (x0 : Nat) (x1 : Nat) (x2 : Int32) (M : MM) (r : Int32) (M1 : MM), P x0 x1 x2 M = some (r, M1) → KV l yX7_readComparison cX7_readComparison 4 (some .boolean) (RM (13 + 4 * k) 0 0) false 7 x0 [.ref x1, .int x2] M (some (.int r)) M1) (x0 : Nat) (x1 : Nat) (x2 : Int32) (M : MM) (r : Int32) (M1 : MM) (h : f_X7_readProduct P x0 x1 x2 M = some (r, M1)) : KV l yX7_readProduct cX7_readProduct 5 (some .boolean) (RM (13 + 4 * k + 2) 0 0) false 7 x0 [.ref x1, .int x2] M (some (.int r)) M1 := by
  obtain ⟨hO, h2⟩ := iteO_some h
  exact ⟨hO, ct_of (tr := trI) (by decide) (Nat.le_of_ble_eq_true rfl) [(0, .ref x0), (1, .ref x1), (2, .int x2)] rfl h2 (fun G X Y hn hl => L_X7_readProduct_0 (k := k) X Y (by rw [hl]; exact c_X7_readThing l hP) x0 x1 x2 M)⟩
theorem c_X7_readSum (l : Launch) {k : Nat} {P : Nat → Nat → Int32 → MM → Option (Int32 × MM)} (hP : ∀ (x0 : Nat) (x1 : Nat) (x2 : Int32) (M : MM) (r : Int32) (M1 : MM), P x0 x1 x2 M = some (r, M1) → KV l yX7_readComparison cX7_readComparison 4 (some .boolean) (RM (13 + 4 * k) 0 0) false 7 x0 [.ref x1, .int x2] M (some (.int r)) M1) (x0 : Nat) (x1 : Nat) (x2 : Int32) (M : MM) (r : Int32) (M1 : MM) (h : f_X7_readSum P x0 x1 x2 M = some (r, M1)) : KV l yX7_readSum cX7_readSum 5 (some .boolean) (RM (13 + 4 * k + 3) 0 0) false 7 x0 [.ref x1, .int x2] M (some (.int r)) M1 := by
  obtain ⟨hO, h2⟩ := iteO_some h
  exact ⟨hO, ct_of (tr := trI) (by decide) (Nat.le_of_ble_eq_true rfl) [(0, .ref x0), (1, .ref x1), (2, .int x2)] rfl h2 (fun G X Y hn hl => L_X7_readSum_0 (k := k) X Y (by rw [hl]; exact c_X7_readProduct l hP) x0 x1 x2 M)⟩
theorem c_X7_readComparison (l : Launch) : ∀ (n : Nat) (x0 : Nat) (x1 : Nat) (x2 : Int32) (M : MM) (r : Int32) (M1 : MM) (h : f_X7_readComparison n x0 x1 x2 M = some (r, M1)), KV l yX7_readComparison cX7_readComparison 4 (some .boolean) (RM (13 + 4 * n) 0 0) false 7 x0 [.ref x1, .int x2] M (some (.int r)) M1 := by
  intro n
  induction n with
  | zero => intro x0 x1 x2 M r M1 h; rw [f_X7_readComparison] at h; cases h
  | succ n ih =>
    intro x0 x1 x2 M r M1 h
    rw [f_X7_readComparison] at h
    obtain ⟨hO, h2⟩ := iteO_some h
    exact ⟨hO, ct_of (tr := trI) (by decide) (Nat.le_of_ble_eq_true rfl) [(0, .ref x0), (1, .ref x1), (2, .int x2)] rfl h2 (fun G X Y hn hl => L_X7_readComparison_0 (k := n) X Y (by rw [hl]; exact c_X7_readSum l ih) x0 x1 x2 M)⟩

def f_X7_read_41 (x1 : Nat) (M : MM) : Option (Int32 × MM) :=
    b2 (f_X10_refusal x1 M) fun r2 M1 =>
    some (r2, M1)

def f_X7_read_46 (x0 : Nat) (M : MM) : Option (Int32 × MM) :=
    b1 (gR 7 3 x0 M) fun v1 =>
    b1 (gR 7 2 x0 M) fun v2 =>
    b1 (gI 7 7 x0 M) fun v3 =>
    b1 (cpI v1 (0 : Int32) v2 (0 : Int32) v3 M) fun M4 =>
    b1 (gI 7 7 x0 M4) fun v5 =>
    b1 (pI 7 6 x0 v5 M4) fun M6 =>
    some ((0 : Int32), M6)

def f_X7_read_0 (x0 : Nat) (x1 : Nat) (M : MM) : Option (Int32 × MM) :=
    b1 (f_X10_begin x1 (40 : Int32) M) fun M1 =>
    b1 (pI 7 7 x0 (0 : Int32) M1) fun M2 =>
    b2 (f_X10_isEmpty x1 M2) fun r4 M3 =>
    if r4 = 0 then
      b2 (f_X7_readComparison 100 x0 x1 (0 : Int32) M3) fun r6 M5 =>
      if r6 = 0 then
        f_X7_read_41 x1 M5
      else
        b2 (f_X10_atEnd x1 M5) fun r8 M7 =>
        if r8 = 0 then
          f_X7_read_41 x1 M7
        else
          b2 (f_X10_hasMore x1 M7) fun r10 M9 =>
          if r10 = 0 then
            f_X7_read_46 x0 M9
          else
            f_X7_read_41 x1 M9
    else
      f_X7_read_46 x0 M3

def f_X7_read (x0 : Nat) (x1 : Nat) (M : MM) : Option (Int32 × MM) := if isO 7 x0 M = true then f_X7_read_0 x0 x1 M else none
set_option maxRecDepth 4000 in
theorem L_X7_read_41 {G : Gx} (X : Cb G cX7_read 2 RX7 (RM 414 0 0) false) (Y : Cr G (some .int) 0 0) (x1 : Nat) (M : MM) : V G trI 2 0 0 41 [(1, .ref x1)] [] M (f_X7_read_41 x1 M) := by
  unfold f_X7_read_41
  refine v_aload_n X 42 0 dX7_read_41 rfl rfl ?_
  refine v_vI X 45 cv_X10_refusal ml_X7_56 (n1 := 1) rfl [] rfl rfl rfl dX7_read_42 rfl (fun r M1 h => c_X10_refusal _ _ _ _ _ h) (fun r2 M1 => ?_)
  exact v_iret X Y (Nat.le_refl _) (Nat.le_refl _) dX7_read_45
set_option maxRecDepth 4000 in
theorem L_X7_read_46 {G : Gx} (X : Cb G cX7_read 2 RX7 (RM 414 0 0) false) (Y : Cr G (some .int) 0 0) (x0 : Nat) (M : MM) : V G trI 2 0 0 46 [(0, .ref x0)] [] M (f_X7_read_46 x0 M) := by
  unfold f_X7_read_46
  refine v_aload_n X 47 0 dX7_read_46 rfl rfl ?_
  refine v_getR X 50 fl_X7_15.r dX7_read_47 rfl (fun v1 => ?_)
  refine v_iconst X 51 dX7_read_50 ik_0 rfl ?_
  refine v_aload_n X 52 0 dX7_read_51 rfl rfl ?_
  refine v_getR X 55 fl_X7_11.r dX7_read_52 rfl (fun v2 => ?_)
  refine v_iconst X 56 dX7_read_55 ik_0 rfl ?_
  refine v_aload_n X 57 0 dX7_read_56 rfl rfl ?_
  refine v_getI X 60 fl_X7_38.r dX7_read_57 rfl (fun v3 => ?_)
  refine v_copy X 63 ml_X7_60 wCopy (Nat.le_of_ble_eq_true rfl) (Nat.le_of_ble_eq_true rfl) dX7_read_60 rfl (fun M4 => ?_)
  refine v_aload_n X 64 0 dX7_read_63 rfl rfl ?_
  refine v_aload_n X 65 0 dX7_read_64 rfl rfl ?_
  refine v_getI X 68 fl_X7_38.r dX7_read_65 rfl (fun v5 => ?_)
  refine v_putI X 71 fl_X7_66 nof dX7_read_68 rfl (fun M6 => ?_)
  refine v_iconst X 72 dX7_read_71 ik_0 rfl ?_
  exact v_iret X Y (Nat.le_refl _) (Nat.le_refl _) dX7_read_72
set_option maxRecDepth 4000 in
theorem L_X7_read_0 {G : Gx} (X : Cb G cX7_read 2 RX7 (RM 414 0 0) false) (Y : Cr G (some .int) 0 0) (x0 : Nat) (x1 : Nat) (M : MM) : V G trI 2 0 0 0 [(0, .ref x0), (1, .ref x1)] [] M (f_X7_read_0 x0 x1 M) := by
  unfold f_X7_read_0
  refine v_aload_n X 1 1 dX7_read_0 rfl rfl ?_
  refine v_bipush X 3 dX7_read_1 bk_40 rfl ?_
  refine v_vV X 6 cv_X10_begin ml_X7_32 (n1 := 2) rfl [.int (40 : Int32)] rfl rfl rfl dX7_read_3 rfl (fun M1 h => c_X10_begin _ _ _ _ _ h) (fun M1 => ?_)
  refine v_aload_n X 7 0 dX7_read_6 rfl rfl ?_
  refine v_iconst X 8 dX7_read_7 ik_0 rfl ?_
  refine v_putI X 11 fl_X7_38 nof dX7_read_8 rfl (fun M2 => ?_)
  refine v_aload_n X 12 1 dX7_read_11 rfl rfl ?_
  refine v_vI X 15 cv_X10_isEmpty ml_X7_42 (n1 := 1) rfl [] rfl rfl rfl dX7_read_12 rfl (fun r M1 h => c_X10_isEmpty _ _ _ _ _ h) (fun r4 M3 => ?_)
  refine v_ifne X 18 46 dX7_read_15 rfl rfl ?_ ?_
  · exact v_sb [0] (L_X7_read_46 X Y _ _) rfl
  · refine v_aload_n X 19 0 dX7_read_18 rfl rfl ?_
    refine v_aload_n X 20 1 dX7_read_19 rfl rfl ?_
    refine v_iconst X 21 dX7_read_20 ik_0 rfl ?_
    refine v_vI X 24 cv_X7_readComparison ml_X7_46 (n1 := 413) rfl [.ref x1, .int (0 : Int32)] rfl rfl rfl dX7_read_21 rfl (fun r M1 h => c_X7_readComparison _ 100 _ _ _ _ _ _ h) (fun r6 M5 => ?_)
    refine v_ifeq X 27 41 dX7_read_24 rfl rfl ?_ ?_
    · exact v_sb [1] (L_X7_read_41 X Y _ _) rfl
    · refine v_aload_n X 28 1 dX7_read_27 rfl rfl ?_
      refine v_vI X 31 cv_X10_atEnd ml_X7_50 (n1 := 1) rfl [] rfl rfl rfl dX7_read_28 rfl (fun r M1 h => c_X10_atEnd _ _ _ _ _ h) (fun r8 M7 => ?_)
      refine v_ifeq X 34 41 dX7_read_31 rfl rfl ?_ ?_
      · exact v_sb [1] (L_X7_read_41 X Y _ _) rfl
      · refine v_aload_n X 35 1 dX7_read_34 rfl rfl ?_
        refine v_vI X 38 cv_X10_hasMore ml_X7_53 (n1 := 1) rfl [] rfl rfl rfl dX7_read_35 rfl (fun r M1 h => c_X10_hasMore _ _ _ _ _ h) (fun r10 M9 => ?_)
        refine v_ifeq X 41 46 dX7_read_38 rfl rfl ?_ ?_
        · exact v_sb [0] (L_X7_read_46 X Y _ _) rfl
        · exact v_sb [1] (L_X7_read_41 X Y _ _) rfl
theorem c_X7_read (l : Launch) (x0 : Nat) (x1 : Nat) (M : MM) (r : Int32) (M1 : MM) (h : f_X7_read x0 x1 M = some (r, M1)) : KV l yX7_read cX7_read 2 (some .int) (RM 414 0 0) false 7 x0 [.ref x1] M (some (.int r)) M1 := by
  obtain ⟨hO, h2⟩ := iteO_some h
  exact ⟨hO, ct_of (tr := trI) (by decide) (Nat.le_of_ble_eq_true rfl) [(0, .ref x0), (1, .ref x1)] rfl h2 (fun G X Y hn hl => L_X7_read_0 X Y x0 x1 M)⟩

def f_X7_combine_0 (x0 : Int32) (x1 : Int32) (x2 : Int32) (M : MM) : Option (Int32 × MM) :=
    if x0 = 42 then
      some (x1 * x2, M)
    else
    if x0 = 43 then
      some (x1 + x2, M)
    else
    if x0 = 45 then
      some (x1 - x2, M)
    else
    if x0 = 47 then
      if x2 = 0 then
        some ((0 : Int32), M)
      else
        b1 (divI x1 x2) fun v1 =>
        some (v1, M)
    else
    if x0 = 60 then
      if x2 ≤ x1 then
        some ((0 : Int32), M)
      else
        some ((1 : Int32), M)
    else
    if x0 = 62 then
      if x1 ≤ x2 then
        some ((0 : Int32), M)
      else
        some ((1 : Int32), M)
    else
      if x1 = x2 then
        some ((1 : Int32), M)
      else
        some ((0 : Int32), M)

def f_X7_combine (x0 : Int32) (x1 : Int32) (x2 : Int32) (M : MM) : Option (Int32 × MM) := f_X7_combine_0 x0 x1 x2 M
set_option maxRecDepth 4000 in
theorem L_X7_combine_0 {G : Gx} (X : Cb G cX7_combine 3 RX7 (RM 1 0 0) false) (Y : Cr G (some .int) 0 0) (x0 : Int32) (x1 : Int32) (x2 : Int32) (M : MM) : V G trI 3 0 0 0 [(0, .int x0), (1, .int x1), (2, .int x2)] [] M (f_X7_combine_0 x0 x1 x2 M) := by
  unfold f_X7_combine_0
  refine v_iload_n X 1 0 dX7_combine_0 rfl rfl ?_
  refine v_ite (fun e => ?_) (fun e42 => ?_)
  · refine v_lkIn X 68 dX7_combine_1 e rfl ?_
    refine v_iload_n X 69 1 dX7_combine_68 rfl rfl ?_
    refine v_iload_n X 70 2 dX7_combine_69 rfl rfl ?_
    refine v_imul X 71 dX7_combine_70 rfl ?_
    exact v_iret X Y (Nat.le_refl _) (Nat.le_refl _) dX7_combine_71
  refine v_ite (fun e => ?_) (fun e43 => ?_)
  · refine v_lkIn X 60 dX7_combine_1 e rfl ?_
    refine v_iload_n X 61 1 dX7_combine_60 rfl rfl ?_
    refine v_iload_n X 62 2 dX7_combine_61 rfl rfl ?_
    refine v_iadd X 63 dX7_combine_62 rfl ?_
    exact v_iret X Y (Nat.le_refl _) (Nat.le_refl _) dX7_combine_63
  refine v_ite (fun e => ?_) (fun e45 => ?_)
  · refine v_lkIn X 64 dX7_combine_1 e rfl ?_
    refine v_iload_n X 65 1 dX7_combine_64 rfl rfl ?_
    refine v_iload_n X 66 2 dX7_combine_65 rfl rfl ?_
    refine v_isub X 67 dX7_combine_66 rfl ?_
    exact v_iret X Y (Nat.le_refl _) (Nat.le_refl _) dX7_combine_67
  refine v_ite (fun e => ?_) (fun e47 => ?_)
  · refine v_lkIn X 72 dX7_combine_1 e rfl ?_
    refine v_iload_n X 73 2 dX7_combine_72 rfl rfl ?_
    refine v_ifne X 76 80 dX7_combine_73 rfl rfl ?_ ?_
    · refine v_iload_n X 81 1 dX7_combine_80 rfl rfl ?_
      refine v_iload_n X 82 2 dX7_combine_81 rfl rfl ?_
      refine v_idiv X 83 dX7_combine_82 rfl (fun v1 => ?_)
      exact v_iret X Y (Nat.le_refl _) (Nat.le_refl _) dX7_combine_83
    · refine v_iconst X 77 dX7_combine_76 ik_0 rfl ?_
      refine v_goto X 83 dX7_combine_77 rfl ?_
      exact v_iret X Y (Nat.le_refl _) (Nat.le_refl _) dX7_combine_83
  refine v_ite (fun e => ?_) (fun e60 => ?_)
  · refine v_lkIn X 84 dX7_combine_1 e rfl ?_
    refine v_iload_n X 85 1 dX7_combine_84 rfl rfl ?_
    refine v_iload_n X 86 2 dX7_combine_85 rfl rfl ?_
    refine v_icge X 89 93 dX7_combine_86 rfl rfl ?_ ?_
    · refine v_iconst X 94 dX7_combine_93 ik_0 rfl ?_
      exact v_iret X Y (Nat.le_refl _) (Nat.le_refl _) dX7_combine_94
    · refine v_iconst X 90 dX7_combine_89 ik_1 rfl ?_
      refine v_goto X 94 dX7_combine_90 rfl ?_
      exact v_iret X Y (Nat.le_refl _) (Nat.le_refl _) dX7_combine_94
  refine v_ite (fun e => ?_) (fun e62 => ?_)
  · refine v_lkIn X 95 dX7_combine_1 e rfl ?_
    refine v_iload_n X 96 1 dX7_combine_95 rfl rfl ?_
    refine v_iload_n X 97 2 dX7_combine_96 rfl rfl ?_
    refine v_icle X 100 104 dX7_combine_97 rfl rfl ?_ ?_
    · refine v_iconst X 105 dX7_combine_104 ik_0 rfl ?_
      exact v_iret X Y (Nat.le_refl _) (Nat.le_refl _) dX7_combine_105
    · refine v_iconst X 101 dX7_combine_100 ik_1 rfl ?_
      refine v_goto X 105 dX7_combine_101 rfl ?_
      exact v_iret X Y (Nat.le_refl _) (Nat.le_refl _) dX7_combine_105
  refine v_lkOut X 106 dX7_combine_1 [42, 43, 45, 47, 60, 62] ⟨e42, e43, e45, e47, e60, e62, trivial⟩ rfl rfl ?_
  refine v_iload_n X 107 1 dX7_combine_106 rfl rfl ?_
  refine v_iload_n X 108 2 dX7_combine_107 rfl rfl ?_
  refine v_icne X 111 115 dX7_combine_108 rfl rfl ?_ ?_
  · refine v_iconst X 116 dX7_combine_115 ik_0 rfl ?_
    exact v_iret X Y (Nat.le_refl _) (Nat.le_refl _) dX7_combine_116
  · refine v_iconst X 112 dX7_combine_111 ik_1 rfl ?_
    refine v_goto X 116 dX7_combine_112 rfl ?_
    exact v_iret X Y (Nat.le_refl _) (Nat.le_refl _) dX7_combine_116
theorem c_X7_combine (l : Launch) (x0 : Int32) (x1 : Int32) (x2 : Int32) (M : MM) (r : Int32) (M1 : MM) (h : f_X7_combine x0 x1 x2 M = some (r, M1)) : CtAt l yX7_combine cX7_combine 3 (some .int) (RM 1 0 0) false [.int x0, .int x1, .int x2] M (some (.int r)) M1 :=
  ct_of (tr := trI) (by decide) (Nat.le_of_ble_eq_true rfl) [(0, .int x0), (1, .int x1), (2, .int x2)] rfl h (fun G X Y hn hl => L_X7_combine_0 X Y x0 x1 x2 M)

def f_X7_evaluate_124 (K4 : Nat → Int32 → Int32 → MM → Option (Int32 × MM)) (x0 : Nat) (x1 : Int32) (x2 : Int32) (M : MM) : Option (Int32 × MM) :=
    bn (x2 + 1 : Int32) fun y1 =>
    K4 x0 x1 y1 M

def f_X7_evaluate_46 (K4 : Nat → Int32 → Int32 → MM → Option (Int32 × MM)) (x0 : Nat) (x1 : Int32) (x2 : Int32) (s0 : Int32) (s1 : Int32) (s2 : Nat) (M : MM) : Option (Int32 × MM) :=
    b1 (stI s2 s1 s0 M) fun M1 =>
    bn (x1 + 1 : Int32) fun y2 =>
    f_X7_evaluate_124 K4 x0 y2 x2 M1

def f_X7_evaluate_87 (K4 : Nat → Int32 → Int32 → MM → Option (Int32 × MM)) (x0 : Nat) (x1 : Int32) (x2 : Int32) (x3 : Int32) (M : MM) : Option (Int32 × MM) :=
    if x1 < (2 : Int32) then
      f_X7_evaluate_124 K4 x0 x1 x2 M
    else
      bn (x1 + (-1) : Int32) fun y1 =>
      b1 (gR 7 4 x0 M) fun v2 =>
      b1 (gR 7 4 x0 M) fun v3 =>
      b1 (ldI v3 (y1 - (1 : Int32)) M) fun v4 =>
      b1 (gR 7 4 x0 M) fun v5 =>
      b1 (ldI v5 y1 M) fun v6 =>
      b2 (f_X7_combine ((-100 : Int32) - x3) v4 v6 M) fun r8 M7 =>
      b1 (stI v2 (y1 - (1 : Int32)) r8 M7) fun M9 =>
      f_X7_evaluate_124 K4 x0 y1 x2 M9

def f_X7_evaluate_4 : Nat → Nat → Int32 → Int32 → MM → Option (Int32 × MM)
  | 0, _, _, _, _ => none
  | n + 1, x0, x1, x2, M =>
    b1 (gI 7 6 x0 M) fun v1 =>
    if v1 ≤ x2 then
      if x1 ≤ 0 then
        some ((0 : Int32), M)
      else
        b1 (gR 7 4 x0 M) fun v2 =>
        b1 (ldI v2 (0 : Int32) M) fun v3 =>
        some (v3, M)
    else
      b1 (gR 7 2 x0 M) fun v4 =>
      b1 (ldI v4 x2 M) fun v5 =>
      if v5 < (-8 : Int32) then
        b2 (f_X7_operator (126 : Int32) M) fun r7 M6 =>
        if v5 = r7 then
          if x1 < (1 : Int32) then
            f_X7_evaluate_87 (f_X7_evaluate_4 n) x0 x1 x2 v5 M6
          else
            b1 (gR 7 4 x0 M6) fun v8 =>
            b1 (gR 7 4 x0 M6) fun v9 =>
            b1 (ldI v9 (x1 - (1 : Int32)) M6) fun v10 =>
            b1 (stI v8 (x1 - (1 : Int32)) (-v10) M6) fun M11 =>
            f_X7_evaluate_124 (f_X7_evaluate_4 n) x0 x1 x2 M11
        else
          f_X7_evaluate_87 (f_X7_evaluate_4 n) x0 x1 x2 v5 M6
      else
        b1 (gR 7 4 x0 M) fun v12 =>
        if v5 < 0 then
          b1 (gR 7 5 x0 M) fun v13 =>
          b1 (ldI v13 ((-1 : Int32) - v5) M) fun v14 =>
          f_X7_evaluate_46 (f_X7_evaluate_4 n) x0 x1 x2 v14 x1 v12 M
        else
          f_X7_evaluate_46 (f_X7_evaluate_4 n) x0 x1 x2 v5 x1 v12 M

def f_X7_evaluate_0 (x0 : Nat) (M : MM) : Option (Int32 × MM) :=
    f_X7_evaluate_4 1024 x0 (0 : Int32) (0 : Int32) M

def f_X7_evaluate (x0 : Nat) (M : MM) : Option (Int32 × MM) := if isO 7 x0 M = true then f_X7_evaluate_0 x0 M else none
set_option maxRecDepth 4000 in
theorem L_X7_evaluate_124 {G : Gx} (X : Cb G cX7_evaluate 4 RX7 (RM 2 0 0) false) (Y : Cr G (some .int) 0 0) {K4 : Nat → Int32 → Int32 → MM → Option (Int32 × MM)} (hK4 : ∀ (x0 : Nat) (x1 : Int32) (x2 : Int32) (M : MM), V G trI 4 0 0 4 [(0, .ref x0), (1, .int x1), (2, .int x2)] [] M (K4 x0 x1 x2 M)) (x0 : Nat) (x1 : Int32) (x2 : Int32) (M : MM) : V G trI 4 0 0 124 [(0, .ref x0), (1, .int x1), (2, .int x2)] [] M (f_X7_evaluate_124 K4 x0 x1 x2 M) := by
  unfold f_X7_evaluate_124
  refine v_iinc X 127 2 (fun z => [(0, .ref x0), (1, .int x1), (2, .int z)]) dX7_evaluate_124 rfl ik_1 (by decide) (fun _ => rfl) rfl (fun y1 => ?_)
  refine v_goto X 4 dX7_evaluate_127 rfl ?_
  exact hK4 _ _ _ _
set_option maxRecDepth 4000 in
theorem L_X7_evaluate_46 {G : Gx} (X : Cb G cX7_evaluate 4 RX7 (RM 2 0 0) false) (Y : Cr G (some .int) 0 0) {K4 : Nat → Int32 → Int32 → MM → Option (Int32 × MM)} (hK4 : ∀ (x0 : Nat) (x1 : Int32) (x2 : Int32) (M : MM), V G trI 4 0 0 4 [(0, .ref x0), (1, .int x1), (2, .int x2)] [] M (K4 x0 x1 x2 M)) (x0 : Nat) (x1 : Int32) (x2 : Int32) (s0 : Int32) (s1 : Int32) (s2 : Nat) (M : MM) : V G trI 4 0 0 46 [(0, .ref x0), (1, .int x1), (2, .int x2)] [.int s0, .int s1, .ref s2] M (f_X7_evaluate_46 K4 x0 x1 x2 s0 s1 s2 M) := by
  unfold f_X7_evaluate_46
  refine v_iast X 47 dX7_evaluate_46 rfl (fun M1 => ?_)
  refine v_iinc X 50 1 (fun z => [(0, .ref x0), (1, .int z), (2, .int x2)]) dX7_evaluate_47 rfl ik_1 (by decide) (fun _ => rfl) rfl (fun y2 => ?_)
  refine v_goto X 124 dX7_evaluate_50 rfl ?_
  exact L_X7_evaluate_124 X Y hK4 _ _ _ _
set_option maxRecDepth 4000 in
theorem L_X7_evaluate_87 {G : Gx} (X : Cb G cX7_evaluate 4 RX7 (RM 2 0 0) false) (Y : Cr G (some .int) 0 0) {K4 : Nat → Int32 → Int32 → MM → Option (Int32 × MM)} (hK4 : ∀ (x0 : Nat) (x1 : Int32) (x2 : Int32) (M : MM), V G trI 4 0 0 4 [(0, .ref x0), (1, .int x1), (2, .int x2)] [] M (K4 x0 x1 x2 M)) (x0 : Nat) (x1 : Int32) (x2 : Int32) (x3 : Int32) (M : MM) : V G trI 4 0 0 87 [(0, .ref x0), (1, .int x1), (2, .int x2), (3, .int x3)] [] M (f_X7_evaluate_87 K4 x0 x1 x2 x3 M) := by
  unfold f_X7_evaluate_87
  refine v_iload_n X 88 1 dX7_evaluate_87 rfl rfl ?_
  refine v_iconst X 89 dX7_evaluate_88 ik_2 rfl ?_
  refine v_iclt X 92 124 dX7_evaluate_89 rfl rfl ?_ ?_
  · exact v_sb [0, 1, 2] (L_X7_evaluate_124 X Y hK4 _ _ _ _) rfl
  · refine v_iinc X 95 1 (fun z => [(0, .ref x0), (1, .int z), (2, .int x2), (3, .int x3)]) dX7_evaluate_92 rfl ik_m1 (by decide) (fun _ => rfl) rfl (fun y1 => ?_)
    refine v_aload_n X 96 0 dX7_evaluate_95 rfl rfl ?_
    refine v_getR X 99 fl_X7_18.r dX7_evaluate_96 rfl (fun v2 => ?_)
    refine v_iload_n X 100 1 dX7_evaluate_99 rfl rfl ?_
    refine v_iconst X 101 dX7_evaluate_100 ik_1 rfl ?_
    refine v_isub X 102 dX7_evaluate_101 rfl ?_
    refine v_bipush X 104 dX7_evaluate_102 bk_m100 rfl ?_
    refine v_iload_n X 105 3 dX7_evaluate_104 rfl rfl ?_
    refine v_isub X 106 dX7_evaluate_105 rfl ?_
    refine v_aload_n X 107 0 dX7_evaluate_106 rfl rfl ?_
    refine v_getR X 110 fl_X7_18.r dX7_evaluate_107 rfl (fun v3 => ?_)
    refine v_iload_n X 111 1 dX7_evaluate_110 rfl rfl ?_
    refine v_iconst X 112 dX7_evaluate_111 ik_1 rfl ?_
    refine v_isub X 113 dX7_evaluate_112 rfl ?_
    refine v_iald X 114 dX7_evaluate_113 rfl (fun v4 => ?_)
    refine v_aload_n X 115 0 dX7_evaluate_114 rfl rfl ?_
    refine v_getR X 118 fl_X7_18.r dX7_evaluate_115 rfl (fun v5 => ?_)
    refine v_iload_n X 119 1 dX7_evaluate_118 rfl rfl ?_
    refine v_iald X 120 dX7_evaluate_119 rfl (fun v6 => ?_)
    refine v_sI X 123 cs_X7_combine ml_X7_145 (n1 := 1) rfl [.int ((-100 : Int32) - x3), .int v4, .int v6] rfl rfl rfl dX7_evaluate_120 rfl (fun r M1 h => c_X7_combine _ _ _ _ _ _ _ h) (fun r8 M7 => ?_)
    refine v_iast X 124 dX7_evaluate_123 rfl (fun M9 => ?_)
    exact v_sb [0, 1, 2] (L_X7_evaluate_124 X Y hK4 _ _ _ _) rfl
set_option maxRecDepth 4000 in
theorem L_X7_evaluate_4 {G : Gx} (X : Cb G cX7_evaluate 4 RX7 (RM 2 0 0) false) (Y : Cr G (some .int) 0 0) : ∀ (n : Nat) (x0 : Nat) (x1 : Int32) (x2 : Int32) (M : MM), V G trI 4 0 0 4 [(0, .ref x0), (1, .int x1), (2, .int x2)] [] M (f_X7_evaluate_4 n x0 x1 x2 M) := by
  intro n
  induction n with
  | zero => intro x0 x1 x2 M; rw [f_X7_evaluate_4]; exact v_none
  | succ n ih =>
    intro x0 x1 x2 M
    rw [f_X7_evaluate_4]
    refine v_iload_n X 5 2 dX7_evaluate_4 rfl rfl ?_
    refine v_aload_n X 6 0 dX7_evaluate_5 rfl rfl ?_
    refine v_getI X 9 fl_X7_66.r dX7_evaluate_6 rfl (fun v1 => ?_)
    refine v_icge X 12 130 dX7_evaluate_9 rfl rfl ?_ ?_
    · refine v_iload_n X 131 1 dX7_evaluate_130 rfl rfl ?_
      refine v_ifle X 134 143 dX7_evaluate_131 rfl rfl ?_ ?_
      · refine v_iconst X 144 dX7_evaluate_143 ik_0 rfl ?_
        exact v_iret X Y (Nat.le_refl _) (Nat.le_refl _) dX7_evaluate_144
      · refine v_aload_n X 135 0 dX7_evaluate_134 rfl rfl ?_
        refine v_getR X 138 fl_X7_18.r dX7_evaluate_135 rfl (fun v2 => ?_)
        refine v_iconst X 139 dX7_evaluate_138 ik_0 rfl ?_
        refine v_iald X 140 dX7_evaluate_139 rfl (fun v3 => ?_)
        refine v_goto X 144 dX7_evaluate_140 rfl ?_
        exact v_iret X Y (Nat.le_refl _) (Nat.le_refl _) dX7_evaluate_144
    · refine v_aload_n X 13 0 dX7_evaluate_12 rfl rfl ?_
      refine v_getR X 16 fl_X7_11.r dX7_evaluate_13 rfl (fun v4 => ?_)
      refine v_iload_n X 17 2 dX7_evaluate_16 rfl rfl ?_
      refine v_iald X 18 dX7_evaluate_17 rfl (fun v5 => ?_)
      refine v_istore_n (lv' := [(0, .ref x0), (1, .int x1), (2, .int x2), (3, .int v5)]) X 19 dX7_evaluate_18 (by decide) rfl rfl ?_
      refine v_iload_n X 20 3 dX7_evaluate_19 rfl rfl ?_
      refine v_bipush X 22 dX7_evaluate_20 bk_m8 rfl ?_
      refine v_iclt X 25 53 dX7_evaluate_22 rfl rfl ?_ ?_
      · refine v_iload_n X 54 3 dX7_evaluate_53 rfl rfl ?_
        refine v_bipush X 56 dX7_evaluate_54 bk_126 rfl ?_
        refine v_sI X 59 cs_X7_operator ml_X7_78 (n1 := 1) rfl [.int (126 : Int32)] rfl rfl rfl dX7_evaluate_56 rfl (fun r M1 h => c_X7_operator _ _ _ _ _ h) (fun r7 M6 => ?_)
        refine v_icne X 62 87 dX7_evaluate_59 rfl rfl ?_ ?_
        · exact L_X7_evaluate_87 X Y ih _ _ _ _ _
        · refine v_iload_n X 63 1 dX7_evaluate_62 rfl rfl ?_
          refine v_iconst X 64 dX7_evaluate_63 ik_1 rfl ?_
          refine v_iclt X 67 87 dX7_evaluate_64 rfl rfl ?_ ?_
          · exact L_X7_evaluate_87 X Y ih _ _ _ _ _
          · refine v_aload_n X 68 0 dX7_evaluate_67 rfl rfl ?_
            refine v_getR X 71 fl_X7_18.r dX7_evaluate_68 rfl (fun v8 => ?_)
            refine v_iload_n X 72 1 dX7_evaluate_71 rfl rfl ?_
            refine v_iconst X 73 dX7_evaluate_72 ik_1 rfl ?_
            refine v_isub X 74 dX7_evaluate_73 rfl ?_
            refine v_aload_n X 75 0 dX7_evaluate_74 rfl rfl ?_
            refine v_getR X 78 fl_X7_18.r dX7_evaluate_75 rfl (fun v9 => ?_)
            refine v_iload_n X 79 1 dX7_evaluate_78 rfl rfl ?_
            refine v_iconst X 80 dX7_evaluate_79 ik_1 rfl ?_
            refine v_isub X 81 dX7_evaluate_80 rfl ?_
            refine v_iald X 82 dX7_evaluate_81 rfl (fun v10 => ?_)
            refine v_ineg X 83 dX7_evaluate_82 rfl ?_
            refine v_iast X 84 dX7_evaluate_83 rfl (fun M11 => ?_)
            refine v_goto X 124 dX7_evaluate_84 rfl ?_
            exact v_sb [0, 1, 2] (L_X7_evaluate_124 X Y ih _ _ _ _) rfl
      · refine v_aload_n X 26 0 dX7_evaluate_25 rfl rfl ?_
        refine v_getR X 29 fl_X7_18.r dX7_evaluate_26 rfl (fun v12 => ?_)
        refine v_iload_n X 30 1 dX7_evaluate_29 rfl rfl ?_
        refine v_iload_n X 31 3 dX7_evaluate_30 rfl rfl ?_
        refine v_iflt X 34 38 dX7_evaluate_31 rfl rfl ?_ ?_
        · refine v_aload_n X 39 0 dX7_evaluate_38 rfl rfl ?_
          refine v_getR X 42 fl_X7_21.r dX7_evaluate_39 rfl (fun v13 => ?_)
          refine v_iconst X 43 dX7_evaluate_42 ik_m1 rfl ?_
          refine v_iload_n X 44 3 dX7_evaluate_43 rfl rfl ?_
          refine v_isub X 45 dX7_evaluate_44 rfl ?_
          refine v_iald X 46 dX7_evaluate_45 rfl (fun v14 => ?_)
          exact v_sb [0, 1, 2] (L_X7_evaluate_46 X Y ih _ _ _ _ _ _ _) rfl
        · refine v_iload_n X 35 3 dX7_evaluate_34 rfl rfl ?_
          refine v_goto X 46 dX7_evaluate_35 rfl ?_
          exact v_sb [0, 1, 2] (L_X7_evaluate_46 X Y ih _ _ _ _ _ _ _) rfl
set_option maxRecDepth 4000 in
theorem L_X7_evaluate_0 {G : Gx} (X : Cb G cX7_evaluate 4 RX7 (RM 2 0 0) false) (Y : Cr G (some .int) 0 0) (x0 : Nat) (M : MM) : V G trI 4 0 0 0 [(0, .ref x0)] [] M (f_X7_evaluate_0 x0 M) := by
  unfold f_X7_evaluate_0
  refine v_iconst X 1 dX7_evaluate_0 ik_0 rfl ?_
  refine v_istore_n (lv' := [(0, .ref x0), (1, .int (0 : Int32))]) X 2 dX7_evaluate_1 (by decide) rfl rfl ?_
  refine v_iconst X 3 dX7_evaluate_2 ik_0 rfl ?_
  refine v_istore_n (lv' := [(0, .ref x0), (1, .int (0 : Int32)), (2, .int (0 : Int32))]) X 4 dX7_evaluate_3 (by decide) rfl rfl ?_
  exact L_X7_evaluate_4 X Y 1024 _ _ _ _
theorem c_X7_evaluate (l : Launch) (x0 : Nat) (M : MM) (r : Int32) (M1 : MM) (h : f_X7_evaluate x0 M = some (r, M1)) : KV l yX7_evaluate cX7_evaluate 4 (some .int) (RM 2 0 0) false 7 x0 [] M (some (.int r)) M1 := by
  obtain ⟨hO, h2⟩ := iteO_some h
  exact ⟨hO, ct_of (tr := trI) (by decide) (Nat.le_of_ble_eq_true rfl) [(0, .ref x0)] rfl h2 (fun G X Y hn hl => L_X7_evaluate_0 X Y x0 M)⟩

def f_X7_of_129 (K54 : Nat → Int32 → Int32 → Int32 → Int32 → Int32 → Int32 → Int32 → MM → Option (Int32 × MM)) (x0 : Nat) (x1 : Int32) (x2 : Int32) (x3 : Int32) (x4 : Int32) (x5 : Int32) (x7 : Int32) (s0 : Int32) (M : MM) : Option (Int32 × MM) :=
    bn (x7 + 1 : Int32) fun y1 =>
    K54 x0 x1 x2 x3 x4 x5 s0 y1 M

def f_X7_of_127 (K54 : Nat → Int32 → Int32 → Int32 → Int32 → Int32 → Int32 → Int32 → MM → Option (Int32 × MM)) (x0 : Nat) (x1 : Int32) (x2 : Int32) (x3 : Int32) (x4 : Int32) (x5 : Int32) (x6 : Int32) (x7 : Int32) (M : MM) : Option (Int32 × MM) :=
    f_X7_of_129 K54 x0 x1 x2 x3 x4 x5 x7 x6 M

def f_X7_of_88 (K54 : Nat → Int32 → Int32 → Int32 → Int32 → Int32 → Int32 → Int32 → MM → Option (Int32 × MM)) (x0 : Nat) (x1 : Int32) (x2 : Int32) (x3 : Int32) (x4 : Int32) (x6 : Int32) (x7 : Int32) (s0 : Int32) (s1 : Int32) (M : MM) : Option (Int32 × MM) :=
    bn (s1 + s0 : Int32) fun y1 =>
    if x1 ≤ x7 then
      f_X7_of_127 K54 x0 x1 x2 x3 x4 y1 x6 x7 M
    else
      b1 (gR 7 1 x0 M) fun v2 =>
      b2 (f_X5_who v2 x7 M) fun r4 M3 =>
      if r4 = x2 then
        b1 (gR 7 1 x0 M3) fun v5 =>
        b2 (f_X5_what v5 x7 M3) fun r7 M6 =>
        if r7 = x3 then
          f_X7_of_129 K54 x0 x1 x2 x3 x4 y1 x7 (1 : Int32) M6
        else
          f_X7_of_127 K54 x0 x1 x2 x3 x4 y1 x6 x7 M6
      else
        f_X7_of_127 K54 x0 x1 x2 x3 x4 y1 x6 x7 M3

def f_X7_of_219 (x0 : Nat) (x6 : Int32) (s0 : Int32) (s1 : Int32) (s2 : Nat) (M : MM) : Option (Int32 × MM) :=
    b1 (stI s2 s1 s0 M) fun M1 =>
    b1 (gR 7 5 x0 M1) fun v2 =>
    b1 (stI v2 (7 : Int32) x6 M1) fun M3 =>
    b2 (f_X7_evaluate x0 M3) fun r5 M4 =>
    some (maxI (-999 : Int32) (minI (999 : Int32) r5), M4)

def f_X7_of_54 : Nat → Nat → Int32 → Int32 → Int32 → Int32 → Int32 → Int32 → Int32 → MM → Option (Int32 × MM)
  | 0, _, _, _, _, _, _, _, _, _ => none
  | n + 1, x0, x1, x2, x3, x4, x5, x6, x7, M =>
    b1 (gR 7 1 x0 M) fun v1 =>
    b1 (gI 5 1 v1 M) fun v2 =>
    if v2 ≤ x7 then
      b1 (gR 7 5 x0 M) fun v3 =>
      b1 (gR 7 0 x0 M) fun v4 =>
      b2 (f_X9_getWish v4 x2 x3 M) fun r6 M5 =>
      b1 (stI v3 (0 : Int32) r6 M5) fun M7 =>
      b1 (gR 7 5 x0 M7) fun v8 =>
      b1 (gR 7 0 x0 M7) fun v9 =>
      b2 (f_X9_length v9 x3 M7) fun r11 M10 =>
      b1 (stI v8 (1 : Int32) r11 M10) fun M12 =>
      b1 (gR 7 5 x0 M12) fun v13 =>
      b1 (stI v13 (2 : Int32) x4 M12) fun M14 =>
      b1 (gR 7 5 x0 M14) fun v15 =>
      b1 (stI v15 (3 : Int32) x5 M14) fun M16 =>
      b1 (gR 7 5 x0 M16) fun v17 =>
      b1 (stI v17 (4 : Int32) x2 M16) fun M18 =>
      b1 (gR 7 5 x0 M18) fun v19 =>
      b1 (stI v19 (5 : Int32) x3 M18) fun M20 =>
      b1 (gR 7 5 x0 M20) fun v21 =>
      b1 (gR 7 0 x0 M20) fun v22 =>
      b1 (gR 9 0 v22 M20) fun v23 =>
      b1 (ldZ v23 x2 M20) fun v24 =>
      if v24 = 0 then
        f_X7_of_219 x0 x6 (0 : Int32) (6 : Int32) v21 M20
      else
        f_X7_of_219 x0 x6 (1 : Int32) (6 : Int32) v21 M20
    else
      b1 (gR 7 1 x0 M) fun v25 =>
      b2 (f_X5_goTogether v25 x7 x3 x4 M) fun r27 M26 =>
      if r27 = 0 then
        f_X7_of_88 (f_X7_of_54 n) x0 x1 x2 x3 x4 x6 x7 (0 : Int32) x5 M26
      else
        f_X7_of_88 (f_X7_of_54 n) x0 x1 x2 x3 x4 x6 x7 (1 : Int32) x5 M26

def f_X7_of_0 (x0 : Nat) (x1 : Int32) (M : MM) : Option (Int32 × MM) :=
    b1 (gR 7 1 x0 M) fun v1 =>
    b2 (f_X5_who v1 x1 M) fun r3 M2 =>
    b1 (gR 7 1 x0 M2) fun v4 =>
    b2 (f_X5_what v4 x1 M2) fun r6 M5 =>
    b1 (gR 7 1 x0 M5) fun v7 =>
    b2 (f_X5_first v7 x1 M5) fun r9 M8 =>
    b1 (gI 7 6 x0 M8) fun v10 =>
    if v10 = 0 then
      b1 (gR 7 0 x0 M8) fun v11 =>
      b2 (f_X9_getWish v11 r3 r6 M8) fun r13 M12 =>
      some (r13, M12)
    else
      f_X7_of_54 1024 x0 x1 r3 r6 r9 (-1 : Int32) (0 : Int32) (0 : Int32) M8

def f_X7_of (x0 : Nat) (x1 : Int32) (M : MM) : Option (Int32 × MM) := if isO 7 x0 M = true then f_X7_of_0 x0 x1 M else none
set_option maxRecDepth 4000 in
theorem L_X7_of_129 {G : Gx} (X : Cb G cX7_of 8 RX7 (RM 3 0 0) false) (Y : Cr G (some .int) 0 0) {K54 : Nat → Int32 → Int32 → Int32 → Int32 → Int32 → Int32 → Int32 → MM → Option (Int32 × MM)} (hK54 : ∀ (x0 : Nat) (x1 : Int32) (x2 : Int32) (x3 : Int32) (x4 : Int32) (x5 : Int32) (x6 : Int32) (x7 : Int32) (M : MM), V G trI 8 0 0 54 [(0, .ref x0), (1, .int x1), (2, .int x2), (3, .int x3), (4, .int x4), (5, .int x5), (6, .int x6), (7, .int x7)] [] M (K54 x0 x1 x2 x3 x4 x5 x6 x7 M)) (x0 : Nat) (x1 : Int32) (x2 : Int32) (x3 : Int32) (x4 : Int32) (x5 : Int32) (x7 : Int32) (s0 : Int32) (M : MM) : V G trI 8 0 0 129 [(0, .ref x0), (1, .int x1), (2, .int x2), (3, .int x3), (4, .int x4), (5, .int x5), (7, .int x7)] [.int s0] M (f_X7_of_129 K54 x0 x1 x2 x3 x4 x5 x7 s0 M) := by
  unfold f_X7_of_129
  refine v_istore (lv' := [(0, .ref x0), (1, .int x1), (2, .int x2), (3, .int x3), (4, .int x4), (5, .int x5), (6, .int s0), (7, .int x7)]) X 131 dX7_of_129 (by decide) rfl rfl ?_
  refine v_iinc X 134 7 (fun z => [(0, .ref x0), (1, .int x1), (2, .int x2), (3, .int x3), (4, .int x4), (5, .int x5), (6, .int s0), (7, .int z)]) dX7_of_131 rfl ik_1 (by decide) (fun _ => rfl) rfl (fun y1 => ?_)
  refine v_goto X 54 dX7_of_134 rfl ?_
  exact hK54 _ _ _ _ _ _ _ _ _
set_option maxRecDepth 4000 in
theorem L_X7_of_127 {G : Gx} (X : Cb G cX7_of 8 RX7 (RM 3 0 0) false) (Y : Cr G (some .int) 0 0) {K54 : Nat → Int32 → Int32 → Int32 → Int32 → Int32 → Int32 → Int32 → MM → Option (Int32 × MM)} (hK54 : ∀ (x0 : Nat) (x1 : Int32) (x2 : Int32) (x3 : Int32) (x4 : Int32) (x5 : Int32) (x6 : Int32) (x7 : Int32) (M : MM), V G trI 8 0 0 54 [(0, .ref x0), (1, .int x1), (2, .int x2), (3, .int x3), (4, .int x4), (5, .int x5), (6, .int x6), (7, .int x7)] [] M (K54 x0 x1 x2 x3 x4 x5 x6 x7 M)) (x0 : Nat) (x1 : Int32) (x2 : Int32) (x3 : Int32) (x4 : Int32) (x5 : Int32) (x6 : Int32) (x7 : Int32) (M : MM) : V G trI 8 0 0 127 [(0, .ref x0), (1, .int x1), (2, .int x2), (3, .int x3), (4, .int x4), (5, .int x5), (6, .int x6), (7, .int x7)] [] M (f_X7_of_127 K54 x0 x1 x2 x3 x4 x5 x6 x7 M) := by
  unfold f_X7_of_127
  refine v_iload X 129 6 dX7_of_127 rfl rfl ?_
  exact v_sb [0, 1, 2, 3, 4, 5, 7] (L_X7_of_129 X Y hK54 _ _ _ _ _ _ _ _ _) rfl
set_option maxRecDepth 4000 in
theorem L_X7_of_88 {G : Gx} (X : Cb G cX7_of 8 RX7 (RM 3 0 0) false) (Y : Cr G (some .int) 0 0) {K54 : Nat → Int32 → Int32 → Int32 → Int32 → Int32 → Int32 → Int32 → MM → Option (Int32 × MM)} (hK54 : ∀ (x0 : Nat) (x1 : Int32) (x2 : Int32) (x3 : Int32) (x4 : Int32) (x5 : Int32) (x6 : Int32) (x7 : Int32) (M : MM), V G trI 8 0 0 54 [(0, .ref x0), (1, .int x1), (2, .int x2), (3, .int x3), (4, .int x4), (5, .int x5), (6, .int x6), (7, .int x7)] [] M (K54 x0 x1 x2 x3 x4 x5 x6 x7 M)) (x0 : Nat) (x1 : Int32) (x2 : Int32) (x3 : Int32) (x4 : Int32) (x6 : Int32) (x7 : Int32) (s0 : Int32) (s1 : Int32) (M : MM) : V G trI 8 0 0 88 [(0, .ref x0), (1, .int x1), (2, .int x2), (3, .int x3), (4, .int x4), (6, .int x6), (7, .int x7)] [.int s0, .int s1] M (f_X7_of_88 K54 x0 x1 x2 x3 x4 x6 x7 s0 s1 M) := by
  unfold f_X7_of_88
  refine v_iadd X 89 dX7_of_88 rfl ?_
  refine v_bnI (fun y1 => ?_)
  refine v_istore (lv' := [(0, .ref x0), (1, .int x1), (2, .int x2), (3, .int x3), (4, .int x4), (5, .int y1), (6, .int x6), (7, .int x7)]) X 91 dX7_of_89 (by decide) rfl rfl ?_
  refine v_iload X 93 7 dX7_of_91 rfl rfl ?_
  refine v_iload_n X 94 1 dX7_of_93 rfl rfl ?_
  refine v_icge X 97 127 dX7_of_94 rfl rfl ?_ ?_
  · exact L_X7_of_127 X Y hK54 _ _ _ _ _ _ _ _ _
  · refine v_aload_n X 98 0 dX7_of_97 rfl rfl ?_
    refine v_getR X 101 fl_X7_28.r dX7_of_98 rfl (fun v2 => ?_)
    refine v_iload X 103 7 dX7_of_101 rfl rfl ?_
    refine v_vI X 106 cv_X5_who ml_X7_105 (n1 := 1) rfl [.int x7] rfl rfl rfl dX7_of_103 rfl (fun r M1 h => c_X5_who _ _ _ _ _ _ h) (fun r4 M3 => ?_)
    refine v_iload_n X 107 2 dX7_of_106 rfl rfl ?_
    refine v_icne X 110 127 dX7_of_107 rfl rfl ?_ ?_
    · exact L_X7_of_127 X Y hK54 _ _ _ _ _ _ _ _ _
    · refine v_aload_n X 111 0 dX7_of_110 rfl rfl ?_
      refine v_getR X 114 fl_X7_28.r dX7_of_111 rfl (fun v5 => ?_)
      refine v_iload X 116 7 dX7_of_114 rfl rfl ?_
      refine v_vI X 119 cv_X5_what ml_X7_110 (n1 := 1) rfl [.int x7] rfl rfl rfl dX7_of_116 rfl (fun r M1 h => c_X5_what _ _ _ _ _ _ h) (fun r7 M6 => ?_)
      refine v_iload_n X 120 3 dX7_of_119 rfl rfl ?_
      refine v_icne X 123 127 dX7_of_120 rfl rfl ?_ ?_
      · exact L_X7_of_127 X Y hK54 _ _ _ _ _ _ _ _ _
      · refine v_iconst X 124 dX7_of_123 ik_1 rfl ?_
        refine v_goto X 129 dX7_of_124 rfl ?_
        exact v_sb [0, 1, 2, 3, 4, 5, 7] (L_X7_of_129 X Y hK54 _ _ _ _ _ _ _ _ _) rfl
set_option maxRecDepth 4000 in
theorem L_X7_of_219 {G : Gx} (X : Cb G cX7_of 8 RX7 (RM 3 0 0) false) (Y : Cr G (some .int) 0 0) (x0 : Nat) (x6 : Int32) (s0 : Int32) (s1 : Int32) (s2 : Nat) (M : MM) : V G trI 8 0 0 219 [(0, .ref x0), (6, .int x6)] [.int s0, .int s1, .ref s2] M (f_X7_of_219 x0 x6 s0 s1 s2 M) := by
  unfold f_X7_of_219
  refine v_iast X 220 dX7_of_219 rfl (fun M1 => ?_)
  refine v_aload_n X 221 0 dX7_of_220 rfl rfl ?_
  refine v_getR X 224 fl_X7_21.r dX7_of_221 rfl (fun v2 => ?_)
  refine v_bipush X 226 dX7_of_224 bk_7 rfl ?_
  refine v_iload X 228 1 dX7_of_226 rfl rfl ?_
  refine v_iast X 229 dX7_of_228 rfl (fun M3 => ?_)
  refine v_sipush X 232 dX7_of_229 sk_m999 rfl ?_
  refine v_sipush X 235 dX7_of_232 sk_999 rfl ?_
  refine v_aload_n X 236 0 dX7_of_235 rfl rfl ?_
  refine v_vI X 239 cv_X7_evaluate ml_X7_134 (n1 := 2) rfl [] rfl rfl rfl dX7_of_236 rfl (fun r M1 h => c_X7_evaluate _ _ _ _ _ h) (fun r5 M4 => ?_)
  refine v_min X 242 ml_X7_137 w_min (Nat.le_of_ble_eq_true rfl) (Nat.le_of_ble_eq_true rfl) (Nat.zero_le _) (Nat.zero_le _) dX7_of_239 rfl ?_
  refine v_max X 245 ml_X7_142 w_max (Nat.le_of_ble_eq_true rfl) (Nat.le_of_ble_eq_true rfl) (Nat.zero_le _) (Nat.zero_le _) dX7_of_242 rfl ?_
  exact v_iret X Y (Nat.le_refl _) (Nat.le_refl _) dX7_of_245
set_option maxRecDepth 4000 in
theorem L_X7_of_54 {G : Gx} (X : Cb G cX7_of 8 RX7 (RM 3 0 0) false) (Y : Cr G (some .int) 0 0) : ∀ (n : Nat) (x0 : Nat) (x1 : Int32) (x2 : Int32) (x3 : Int32) (x4 : Int32) (x5 : Int32) (x6 : Int32) (x7 : Int32) (M : MM), V G trI 8 0 0 54 [(0, .ref x0), (1, .int x1), (2, .int x2), (3, .int x3), (4, .int x4), (5, .int x5), (6, .int x6), (7, .int x7)] [] M (f_X7_of_54 n x0 x1 x2 x3 x4 x5 x6 x7 M) := by
  intro n
  induction n with
  | zero => intro x0 x1 x2 x3 x4 x5 x6 x7 M; rw [f_X7_of_54]; exact v_none
  | succ n ih =>
    intro x0 x1 x2 x3 x4 x5 x6 x7 M
    rw [f_X7_of_54]
    refine v_iload X 56 7 dX7_of_54 rfl rfl ?_
    refine v_aload_n X 57 0 dX7_of_56 rfl rfl ?_
    refine v_getR X 60 fl_X7_28.r dX7_of_57 rfl (fun v1 => ?_)
    refine v_getI X 63 fl_X7_122.r dX7_of_60 rfl (fun v2 => ?_)
    refine v_icge X 66 137 dX7_of_63 rfl rfl ?_ ?_
    · refine v_aload_n X 138 0 dX7_of_137 rfl rfl ?_
      refine v_getR X 141 fl_X7_21.r dX7_of_138 rfl (fun v3 => ?_)
      refine v_iconst X 142 dX7_of_141 ik_0 rfl ?_
      refine v_aload_n X 143 0 dX7_of_142 rfl rfl ?_
      refine v_getR X 146 fl_X7_24.r dX7_of_143 rfl (fun v4 => ?_)
      refine v_iload_n X 147 2 dX7_of_146 rfl rfl ?_
      refine v_iload_n X 148 3 dX7_of_147 rfl rfl ?_
      refine v_vI X 151 cv_X9_getWish ml_X7_116 (n1 := 2) rfl [.int x2, .int x3] rfl rfl rfl dX7_of_148 rfl (fun r M1 h => c_X9_getWish _ _ _ _ _ _ _ h) (fun r6 M5 => ?_)
      refine v_iast X 152 dX7_of_151 rfl (fun M7 => ?_)
      refine v_aload_n X 153 0 dX7_of_152 rfl rfl ?_
      refine v_getR X 156 fl_X7_21.r dX7_of_153 rfl (fun v8 => ?_)
      refine v_iconst X 157 dX7_of_156 ik_1 rfl ?_
      refine v_aload_n X 158 0 dX7_of_157 rfl rfl ?_
      refine v_getR X 161 fl_X7_24.r dX7_of_158 rfl (fun v9 => ?_)
      refine v_iload_n X 162 3 dX7_of_161 rfl rfl ?_
      refine v_vI X 165 cv_X9_length ml_X7_127 (n1 := 1) rfl [.int x3] rfl rfl rfl dX7_of_162 rfl (fun r M1 h => c_X9_length _ _ _ _ _ _ h) (fun r11 M10 => ?_)
      refine v_iast X 166 dX7_of_165 rfl (fun M12 => ?_)
      refine v_aload_n X 167 0 dX7_of_166 rfl rfl ?_
      refine v_getR X 170 fl_X7_21.r dX7_of_167 rfl (fun v13 => ?_)
      refine v_iconst X 171 dX7_of_170 ik_2 rfl ?_
      refine v_iload X 173 4 dX7_of_171 rfl rfl ?_
      refine v_iast X 174 dX7_of_173 rfl (fun M14 => ?_)
      refine v_aload_n X 175 0 dX7_of_174 rfl rfl ?_
      refine v_getR X 178 fl_X7_21.r dX7_of_175 rfl (fun v15 => ?_)
      refine v_iconst X 179 dX7_of_178 ik_3 rfl ?_
      refine v_iload X 181 5 dX7_of_179 rfl rfl ?_
      refine v_iast X 182 dX7_of_181 rfl (fun M16 => ?_)
      refine v_aload_n X 183 0 dX7_of_182 rfl rfl ?_
      refine v_getR X 186 fl_X7_21.r dX7_of_183 rfl (fun v17 => ?_)
      refine v_iconst X 187 dX7_of_186 ik_4 rfl ?_
      refine v_iload_n X 188 2 dX7_of_187 rfl rfl ?_
      refine v_iast X 189 dX7_of_188 rfl (fun M18 => ?_)
      refine v_aload_n X 190 0 dX7_of_189 rfl rfl ?_
      refine v_getR X 193 fl_X7_21.r dX7_of_190 rfl (fun v19 => ?_)
      refine v_iconst X 194 dX7_of_193 ik_5 rfl ?_
      refine v_iload_n X 195 3 dX7_of_194 rfl rfl ?_
      refine v_iast X 196 dX7_of_195 rfl (fun M20 => ?_)
      refine v_aload_n X 197 0 dX7_of_196 rfl rfl ?_
      refine v_getR X 200 fl_X7_21.r dX7_of_197 rfl (fun v21 => ?_)
      refine v_bipush X 202 dX7_of_200 bk_6 rfl ?_
      refine v_aload_n X 203 0 dX7_of_202 rfl rfl ?_
      refine v_getR X 206 fl_X7_24.r dX7_of_203 rfl (fun v22 => ?_)
      refine v_getR X 209 fl_X7_130 dX7_of_206 rfl (fun v23 => ?_)
      refine v_iload_n X 210 2 dX7_of_209 rfl rfl ?_
      refine v_zald X 211 dX7_of_210 rfl (fun v24 => ?_)
      refine v_ifeq X 214 218 dX7_of_211 rfl rfl ?_ ?_
      · refine v_iconst X 219 dX7_of_218 ik_0 rfl ?_
        exact v_sb [0, 6] (L_X7_of_219 X Y _ _ _ _ _ _) rfl
      · refine v_iconst X 215 dX7_of_214 ik_1 rfl ?_
        refine v_goto X 219 dX7_of_215 rfl ?_
        exact v_sb [0, 6] (L_X7_of_219 X Y _ _ _ _ _ _) rfl
    · refine v_iload X 68 5 dX7_of_66 rfl rfl ?_
      refine v_aload_n X 69 0 dX7_of_68 rfl rfl ?_
      refine v_getR X 72 fl_X7_28.r dX7_of_69 rfl (fun v25 => ?_)
      refine v_iload X 74 7 dX7_of_72 rfl rfl ?_
      refine v_iload_n X 75 3 dX7_of_74 rfl rfl ?_
      refine v_iload X 77 4 dX7_of_75 rfl rfl ?_
      refine v_vI X 80 cv_X5_goTogether ml_X7_123 (n1 := 2) rfl [.int x7, .int x3, .int x4] rfl rfl rfl dX7_of_77 rfl (fun r M1 h => c_X5_goTogether _ _ _ _ _ _ _ _ h) (fun r27 M26 => ?_)
      refine v_ifeq X 83 87 dX7_of_80 rfl rfl ?_ ?_
      · refine v_iconst X 88 dX7_of_87 ik_0 rfl ?_
        exact v_sb [0, 1, 2, 3, 4, 6, 7] (L_X7_of_88 X Y ih _ _ _ _ _ _ _ _ _ _) rfl
      · refine v_iconst X 84 dX7_of_83 ik_1 rfl ?_
        refine v_goto X 88 dX7_of_84 rfl ?_
        exact v_sb [0, 1, 2, 3, 4, 6, 7] (L_X7_of_88 X Y ih _ _ _ _ _ _ _ _ _ _) rfl
set_option maxRecDepth 4000 in
theorem L_X7_of_0 {G : Gx} (X : Cb G cX7_of 8 RX7 (RM 3 0 0) false) (Y : Cr G (some .int) 0 0) (x0 : Nat) (x1 : Int32) (M : MM) : V G trI 8 0 0 0 [(0, .ref x0), (1, .int x1)] [] M (f_X7_of_0 x0 x1 M) := by
  unfold f_X7_of_0
  refine v_aload_n X 1 0 dX7_of_0 rfl rfl ?_
  refine v_getR X 4 fl_X7_28.r dX7_of_1 rfl (fun v1 => ?_)
  refine v_iload_n X 5 1 dX7_of_4 rfl rfl ?_
  refine v_vI X 8 cv_X5_who ml_X7_105 (n1 := 1) rfl [.int x1] rfl rfl rfl dX7_of_5 rfl (fun r M1 h => c_X5_who _ _ _ _ _ _ h) (fun r3 M2 => ?_)
  refine v_istore_n (lv' := [(0, .ref x0), (1, .int x1), (2, .int r3)]) X 9 dX7_of_8 (by decide) rfl rfl ?_
  refine v_aload_n X 10 0 dX7_of_9 rfl rfl ?_
  refine v_getR X 13 fl_X7_28.r dX7_of_10 rfl (fun v4 => ?_)
  refine v_iload_n X 14 1 dX7_of_13 rfl rfl ?_
  refine v_vI X 17 cv_X5_what ml_X7_110 (n1 := 1) rfl [.int x1] rfl rfl rfl dX7_of_14 rfl (fun r M1 h => c_X5_what _ _ _ _ _ _ h) (fun r6 M5 => ?_)
  refine v_istore_n (lv' := [(0, .ref x0), (1, .int x1), (2, .int r3), (3, .int r6)]) X 18 dX7_of_17 (by decide) rfl rfl ?_
  refine v_aload_n X 19 0 dX7_of_18 rfl rfl ?_
  refine v_getR X 22 fl_X7_28.r dX7_of_19 rfl (fun v7 => ?_)
  refine v_iload_n X 23 1 dX7_of_22 rfl rfl ?_
  refine v_vI X 26 cv_X5_first ml_X7_113 (n1 := 1) rfl [.int x1] rfl rfl rfl dX7_of_23 rfl (fun r M1 h => c_X5_first _ _ _ _ _ _ h) (fun r9 M8 => ?_)
  refine v_istore (lv' := [(0, .ref x0), (1, .int x1), (2, .int r3), (3, .int r6), (4, .int r9)]) X 28 dX7_of_26 (by decide) rfl rfl ?_
  refine v_aload_n X 29 0 dX7_of_28 rfl rfl ?_
  refine v_getI X 32 fl_X7_66.r dX7_of_29 rfl (fun v10 => ?_)
  refine v_ifne X 35 45 dX7_of_32 rfl rfl ?_ ?_
  · refine v_iconst X 46 dX7_of_45 ik_m1 rfl ?_
    refine v_istore (lv' := [(0, .ref x0), (1, .int x1), (2, .int r3), (3, .int r6), (4, .int r9), (5, .int (-1 : Int32))]) X 48 dX7_of_46 (by decide) rfl rfl ?_
    refine v_iconst X 49 dX7_of_48 ik_0 rfl ?_
    refine v_istore (lv' := [(0, .ref x0), (1, .int x1), (2, .int r3), (3, .int r6), (4, .int r9), (5, .int (-1 : Int32)), (6, .int (0 : Int32))]) X 51 dX7_of_49 (by decide) rfl rfl ?_
    refine v_iconst X 52 dX7_of_51 ik_0 rfl ?_
    refine v_istore (lv' := [(0, .ref x0), (1, .int x1), (2, .int r3), (3, .int r6), (4, .int r9), (5, .int (-1 : Int32)), (6, .int (0 : Int32)), (7, .int (0 : Int32))]) X 54 dX7_of_52 (by decide) rfl rfl ?_
    exact L_X7_of_54 X Y 1024 _ _ _ _ _ _ _ _ _
  · refine v_aload_n X 36 0 dX7_of_35 rfl rfl ?_
    refine v_getR X 39 fl_X7_24.r dX7_of_36 rfl (fun v11 => ?_)
    refine v_iload_n X 40 2 dX7_of_39 rfl rfl ?_
    refine v_iload_n X 41 3 dX7_of_40 rfl rfl ?_
    refine v_vI X 44 cv_X9_getWish ml_X7_116 (n1 := 2) rfl [.int r3, .int r6] rfl rfl rfl dX7_of_41 rfl (fun r M1 h => c_X9_getWish _ _ _ _ _ _ _ h) (fun r13 M12 => ?_)
    exact v_iret X Y (Nat.le_refl _) (Nat.le_refl _) dX7_of_44
theorem c_X7_of (l : Launch) (x0 : Nat) (x1 : Int32) (M : MM) (r : Int32) (M1 : MM) (h : f_X7_of x0 x1 M = some (r, M1)) : KV l yX7_of cX7_of 8 (some .int) (RM 3 0 0) false 7 x0 [.int x1] M (some (.int r)) M1 := by
  obtain ⟨hO, h2⟩ := iteO_some h
  exact ⟨hO, ct_of (tr := trI) (by decide) (Nat.le_of_ble_eq_true rfl) [(0, .ref x0), (1, .int x1)] rfl h2 (fun G X Y hn hl => L_X7_of_0 X Y x0 x1 M)⟩

def f_X7_sum_4 : Nat → Nat → Int32 → Int32 → MM → Option (Int32 × MM)
  | 0, _, _, _, _ => none
  | n + 1, x0, x1, x2, M =>
    b1 (gR 7 1 x0 M) fun v1 =>
    b1 (gI 5 1 v1 M) fun v2 =>
    if v2 ≤ x2 then
      some (x1, M)
    else
      b2 (f_X7_of x0 x2 M) fun r4 M3 =>
      bn (x1 + r4 : Int32) fun y5 =>
      bn (x2 + 1 : Int32) fun y6 =>
      f_X7_sum_4 n x0 y5 y6 M3

def f_X7_sum_0 (x0 : Nat) (M : MM) : Option (Int32 × MM) :=
    f_X7_sum_4 1024 x0 (0 : Int32) (0 : Int32) M

def f_X7_sum (x0 : Nat) (M : MM) : Option (Int32 × MM) := if isO 7 x0 M = true then f_X7_sum_0 x0 M else none
set_option maxRecDepth 4000 in
theorem L_X7_sum_4 {G : Gx} (X : Cb G cX7_sum 3 RX7 (RM 4 0 0) false) (Y : Cr G (some .int) 0 0) : ∀ (n : Nat) (x0 : Nat) (x1 : Int32) (x2 : Int32) (M : MM), V G trI 3 0 0 4 [(0, .ref x0), (1, .int x1), (2, .int x2)] [] M (f_X7_sum_4 n x0 x1 x2 M) := by
  intro n
  induction n with
  | zero => intro x0 x1 x2 M; rw [f_X7_sum_4]; exact v_none
  | succ n ih =>
    intro x0 x1 x2 M
    rw [f_X7_sum_4]
    refine v_iload_n X 5 2 dX7_sum_4 rfl rfl ?_
    refine v_aload_n X 6 0 dX7_sum_5 rfl rfl ?_
    refine v_getR X 9 fl_X7_28.r dX7_sum_6 rfl (fun v1 => ?_)
    refine v_getI X 12 fl_X7_122.r dX7_sum_9 rfl (fun v2 => ?_)
    refine v_icge X 15 29 dX7_sum_12 rfl rfl ?_ ?_
    · refine v_iload_n X 30 1 dX7_sum_29 rfl rfl ?_
      exact v_iret X Y (Nat.le_refl _) (Nat.le_refl _) dX7_sum_30
    · refine v_iload_n X 16 1 dX7_sum_15 rfl rfl ?_
      refine v_aload_n X 17 0 dX7_sum_16 rfl rfl ?_
      refine v_iload_n X 18 2 dX7_sum_17 rfl rfl ?_
      refine v_vI X 21 cv_X7_of ml_X7_149 (n1 := 3) rfl [.int x2] rfl rfl rfl dX7_sum_18 rfl (fun r M1 h => c_X7_of _ _ _ _ _ _ h) (fun r4 M3 => ?_)
      refine v_iadd X 22 dX7_sum_21 rfl ?_
      refine v_bnI (fun y5 => ?_)
      refine v_istore_n (lv' := [(0, .ref x0), (1, .int y5), (2, .int x2)]) X 23 dX7_sum_22 (by decide) rfl rfl ?_
      refine v_iinc X 26 2 (fun z => [(0, .ref x0), (1, .int y5), (2, .int z)]) dX7_sum_23 rfl ik_1 (by decide) (fun _ => rfl) rfl (fun y6 => ?_)
      refine v_goto X 4 dX7_sum_26 rfl ?_
      exact ih _ _ _ _
set_option maxRecDepth 4000 in
theorem L_X7_sum_0 {G : Gx} (X : Cb G cX7_sum 3 RX7 (RM 4 0 0) false) (Y : Cr G (some .int) 0 0) (x0 : Nat) (M : MM) : V G trI 3 0 0 0 [(0, .ref x0)] [] M (f_X7_sum_0 x0 M) := by
  unfold f_X7_sum_0
  refine v_iconst X 1 dX7_sum_0 ik_0 rfl ?_
  refine v_istore_n (lv' := [(0, .ref x0), (1, .int (0 : Int32))]) X 2 dX7_sum_1 (by decide) rfl rfl ?_
  refine v_iconst X 3 dX7_sum_2 ik_0 rfl ?_
  refine v_istore_n (lv' := [(0, .ref x0), (1, .int (0 : Int32)), (2, .int (0 : Int32))]) X 4 dX7_sum_3 (by decide) rfl rfl ?_
  exact L_X7_sum_4 X Y 1024 _ _ _ _
theorem c_X7_sum (l : Launch) (x0 : Nat) (M : MM) (r : Int32) (M1 : MM) (h : f_X7_sum x0 M = some (r, M1)) : KV l yX7_sum cX7_sum 3 (some .int) (RM 4 0 0) false 7 x0 [] M (some (.int r)) M1 := by
  obtain ⟨hO, h2⟩ := iteO_some h
  exact ⟨hO, ct_of (tr := trI) (by decide) (Nat.le_of_ble_eq_true rfl) [(0, .ref x0)] rfl h2 (fun G X Y hn hl => L_X7_sum_0 X Y x0 M)⟩

def f_X7_sumOf_37 (K4 : Nat → Int32 → Int32 → Int32 → MM → Option (Int32 × MM)) (x0 : Nat) (x1 : Int32) (x3 : Int32) (s0 : Int32) (s1 : Int32) (M : MM) : Option (Int32 × MM) :=
    bn (s1 + s0 : Int32) fun y1 =>
    bn (x3 + 1 : Int32) fun y2 =>
    K4 x0 x1 y1 y2 M

def f_X7_sumOf_4 : Nat → Nat → Int32 → Int32 → Int32 → MM → Option (Int32 × MM)
  | 0, _, _, _, _, _ => none
  | n + 1, x0, x1, x2, x3, M =>
    b1 (gR 7 1 x0 M) fun v1 =>
    b1 (gI 5 1 v1 M) fun v2 =>
    if v2 ≤ x3 then
      some (x2, M)
    else
      b1 (gR 7 1 x0 M) fun v3 =>
      b2 (f_X5_who v3 x3 M) fun r5 M4 =>
      if r5 = x1 then
        b2 (f_X7_of x0 x3 M4) fun r7 M6 =>
        f_X7_sumOf_37 (f_X7_sumOf_4 n) x0 x1 x3 r7 x2 M6
      else
        f_X7_sumOf_37 (f_X7_sumOf_4 n) x0 x1 x3 (0 : Int32) x2 M4

def f_X7_sumOf_0 (x0 : Nat) (x1 : Int32) (M : MM) : Option (Int32 × MM) :=
    f_X7_sumOf_4 1024 x0 x1 (0 : Int32) (0 : Int32) M

def f_X7_sumOf (x0 : Nat) (x1 : Int32) (M : MM) : Option (Int32 × MM) := if isO 7 x0 M = true then f_X7_sumOf_0 x0 x1 M else none
set_option maxRecDepth 4000 in
theorem L_X7_sumOf_37 {G : Gx} (X : Cb G cX7_sumOf 4 RX7 (RM 4 0 0) false) (Y : Cr G (some .int) 0 0) {K4 : Nat → Int32 → Int32 → Int32 → MM → Option (Int32 × MM)} (hK4 : ∀ (x0 : Nat) (x1 : Int32) (x2 : Int32) (x3 : Int32) (M : MM), V G trI 4 0 0 4 [(0, .ref x0), (1, .int x1), (2, .int x2), (3, .int x3)] [] M (K4 x0 x1 x2 x3 M)) (x0 : Nat) (x1 : Int32) (x3 : Int32) (s0 : Int32) (s1 : Int32) (M : MM) : V G trI 4 0 0 37 [(0, .ref x0), (1, .int x1), (3, .int x3)] [.int s0, .int s1] M (f_X7_sumOf_37 K4 x0 x1 x3 s0 s1 M) := by
  unfold f_X7_sumOf_37
  refine v_iadd X 38 dX7_sumOf_37 rfl ?_
  refine v_bnI (fun y1 => ?_)
  refine v_istore_n (lv' := [(0, .ref x0), (1, .int x1), (2, .int y1), (3, .int x3)]) X 39 dX7_sumOf_38 (by decide) rfl rfl ?_
  refine v_iinc X 42 3 (fun z => [(0, .ref x0), (1, .int x1), (2, .int y1), (3, .int z)]) dX7_sumOf_39 rfl ik_1 (by decide) (fun _ => rfl) rfl (fun y2 => ?_)
  refine v_goto X 4 dX7_sumOf_42 rfl ?_
  exact hK4 _ _ _ _ _
set_option maxRecDepth 4000 in
theorem L_X7_sumOf_4 {G : Gx} (X : Cb G cX7_sumOf 4 RX7 (RM 4 0 0) false) (Y : Cr G (some .int) 0 0) : ∀ (n : Nat) (x0 : Nat) (x1 : Int32) (x2 : Int32) (x3 : Int32) (M : MM), V G trI 4 0 0 4 [(0, .ref x0), (1, .int x1), (2, .int x2), (3, .int x3)] [] M (f_X7_sumOf_4 n x0 x1 x2 x3 M) := by
  intro n
  induction n with
  | zero => intro x0 x1 x2 x3 M; rw [f_X7_sumOf_4]; exact v_none
  | succ n ih =>
    intro x0 x1 x2 x3 M
    rw [f_X7_sumOf_4]
    refine v_iload_n X 5 3 dX7_sumOf_4 rfl rfl ?_
    refine v_aload_n X 6 0 dX7_sumOf_5 rfl rfl ?_
    refine v_getR X 9 fl_X7_28.r dX7_sumOf_6 rfl (fun v1 => ?_)
    refine v_getI X 12 fl_X7_122.r dX7_sumOf_9 rfl (fun v2 => ?_)
    refine v_icge X 15 45 dX7_sumOf_12 rfl rfl ?_ ?_
    · refine v_iload_n X 46 2 dX7_sumOf_45 rfl rfl ?_
      exact v_iret X Y (Nat.le_refl _) (Nat.le_refl _) dX7_sumOf_46
    · refine v_iload_n X 16 2 dX7_sumOf_15 rfl rfl ?_
      refine v_aload_n X 17 0 dX7_sumOf_16 rfl rfl ?_
      refine v_getR X 20 fl_X7_28.r dX7_sumOf_17 rfl (fun v3 => ?_)
      refine v_iload_n X 21 3 dX7_sumOf_20 rfl rfl ?_
      refine v_vI X 24 cv_X5_who ml_X7_105 (n1 := 1) rfl [.int x3] rfl rfl rfl dX7_sumOf_21 rfl (fun r M1 h => c_X5_who _ _ _ _ _ _ h) (fun r5 M4 => ?_)
      refine v_iload_n X 25 1 dX7_sumOf_24 rfl rfl ?_
      refine v_icne X 28 36 dX7_sumOf_25 rfl rfl ?_ ?_
      · refine v_iconst X 37 dX7_sumOf_36 ik_0 rfl ?_
        exact v_sb [0, 1, 3] (L_X7_sumOf_37 X Y ih _ _ _ _ _ _) rfl
      · refine v_aload_n X 29 0 dX7_sumOf_28 rfl rfl ?_
        refine v_iload_n X 30 3 dX7_sumOf_29 rfl rfl ?_
        refine v_vI X 33 cv_X7_of ml_X7_149 (n1 := 3) rfl [.int x3] rfl rfl rfl dX7_sumOf_30 rfl (fun r M1 h => c_X7_of _ _ _ _ _ _ h) (fun r7 M6 => ?_)
        refine v_goto X 37 dX7_sumOf_33 rfl ?_
        exact v_sb [0, 1, 3] (L_X7_sumOf_37 X Y ih _ _ _ _ _ _) rfl
set_option maxRecDepth 4000 in
theorem L_X7_sumOf_0 {G : Gx} (X : Cb G cX7_sumOf 4 RX7 (RM 4 0 0) false) (Y : Cr G (some .int) 0 0) (x0 : Nat) (x1 : Int32) (M : MM) : V G trI 4 0 0 0 [(0, .ref x0), (1, .int x1)] [] M (f_X7_sumOf_0 x0 x1 M) := by
  unfold f_X7_sumOf_0
  refine v_iconst X 1 dX7_sumOf_0 ik_0 rfl ?_
  refine v_istore_n (lv' := [(0, .ref x0), (1, .int x1), (2, .int (0 : Int32))]) X 2 dX7_sumOf_1 (by decide) rfl rfl ?_
  refine v_iconst X 3 dX7_sumOf_2 ik_0 rfl ?_
  refine v_istore_n (lv' := [(0, .ref x0), (1, .int x1), (2, .int (0 : Int32)), (3, .int (0 : Int32))]) X 4 dX7_sumOf_3 (by decide) rfl rfl ?_
  exact L_X7_sumOf_4 X Y 1024 _ _ _ _ _
theorem c_X7_sumOf (l : Launch) (x0 : Nat) (x1 : Int32) (M : MM) (r : Int32) (M1 : MM) (h : f_X7_sumOf x0 x1 M = some (r, M1)) : KV l yX7_sumOf cX7_sumOf 4 (some .int) (RM 4 0 0) false 7 x0 [.int x1] M (some (.int r)) M1 := by
  obtain ⟨hO, h2⟩ := iteO_some h
  exact ⟨hO, ct_of (tr := trI) (by decide) (Nat.le_of_ble_eq_true rfl) [(0, .ref x0), (1, .int x1)] rfl h2 (fun G X Y hn hl => L_X7_sumOf_0 X Y x0 x1 M)⟩

def f_X7_sumTogether_42 (K5 : Nat → Int32 → Int32 → Int32 → Int32 → MM → Option (Int32 × MM)) (x0 : Nat) (x1 : Int32) (x2 : Int32) (x4 : Int32) (s0 : Int32) (s1 : Int32) (M : MM) : Option (Int32 × MM) :=
    bn (s1 + s0 : Int32) fun y1 =>
    bn (x4 + 1 : Int32) fun y2 =>
    K5 x0 x1 x2 y1 y2 M

def f_X7_sumTogether_5 : Nat → Nat → Int32 → Int32 → Int32 → Int32 → MM → Option (Int32 × MM)
  | 0, _, _, _, _, _, _ => none
  | n + 1, x0, x1, x2, x3, x4, M =>
    b1 (gR 7 1 x0 M) fun v1 =>
    b1 (gI 5 1 v1 M) fun v2 =>
    if v2 ≤ x4 then
      some (x3, M)
    else
      b1 (gR 7 1 x0 M) fun v3 =>
      b2 (f_X5_goTogether v3 x4 x1 x2 M) fun r5 M4 =>
      if r5 = 0 then
        f_X7_sumTogether_42 (f_X7_sumTogether_5 n) x0 x1 x2 x4 (0 : Int32) x3 M4
      else
        b2 (f_X7_of x0 x4 M4) fun r7 M6 =>
        f_X7_sumTogether_42 (f_X7_sumTogether_5 n) x0 x1 x2 x4 r7 x3 M6

def f_X7_sumTogether_0 (x0 : Nat) (x1 : Int32) (x2 : Int32) (M : MM) : Option (Int32 × MM) :=
    f_X7_sumTogether_5 1024 x0 x1 x2 (0 : Int32) (0 : Int32) M

def f_X7_sumTogether (x0 : Nat) (x1 : Int32) (x2 : Int32) (M : MM) : Option (Int32 × MM) := if isO 7 x0 M = true then f_X7_sumTogether_0 x0 x1 x2 M else none
set_option maxRecDepth 4000 in
theorem L_X7_sumTogether_42 {G : Gx} (X : Cb G cX7_sumTogether 5 RX7 (RM 4 0 0) false) (Y : Cr G (some .int) 0 0) {K5 : Nat → Int32 → Int32 → Int32 → Int32 → MM → Option (Int32 × MM)} (hK5 : ∀ (x0 : Nat) (x1 : Int32) (x2 : Int32) (x3 : Int32) (x4 : Int32) (M : MM), V G trI 5 0 0 5 [(0, .ref x0), (1, .int x1), (2, .int x2), (3, .int x3), (4, .int x4)] [] M (K5 x0 x1 x2 x3 x4 M)) (x0 : Nat) (x1 : Int32) (x2 : Int32) (x4 : Int32) (s0 : Int32) (s1 : Int32) (M : MM) : V G trI 5 0 0 42 [(0, .ref x0), (1, .int x1), (2, .int x2), (4, .int x4)] [.int s0, .int s1] M (f_X7_sumTogether_42 K5 x0 x1 x2 x4 s0 s1 M) := by
  unfold f_X7_sumTogether_42
  refine v_iadd X 43 dX7_sumTogether_42 rfl ?_
  refine v_bnI (fun y1 => ?_)
  refine v_istore_n (lv' := [(0, .ref x0), (1, .int x1), (2, .int x2), (3, .int y1), (4, .int x4)]) X 44 dX7_sumTogether_43 (by decide) rfl rfl ?_
  refine v_iinc X 47 4 (fun z => [(0, .ref x0), (1, .int x1), (2, .int x2), (3, .int y1), (4, .int z)]) dX7_sumTogether_44 rfl ik_1 (by decide) (fun _ => rfl) rfl (fun y2 => ?_)
  refine v_goto X 5 dX7_sumTogether_47 rfl ?_
  exact hK5 _ _ _ _ _ _
set_option maxRecDepth 4000 in
theorem L_X7_sumTogether_5 {G : Gx} (X : Cb G cX7_sumTogether 5 RX7 (RM 4 0 0) false) (Y : Cr G (some .int) 0 0) : ∀ (n : Nat) (x0 : Nat) (x1 : Int32) (x2 : Int32) (x3 : Int32) (x4 : Int32) (M : MM), V G trI 5 0 0 5 [(0, .ref x0), (1, .int x1), (2, .int x2), (3, .int x3), (4, .int x4)] [] M (f_X7_sumTogether_5 n x0 x1 x2 x3 x4 M) := by
  intro n
  induction n with
  | zero => intro x0 x1 x2 x3 x4 M; rw [f_X7_sumTogether_5]; exact v_none
  | succ n ih =>
    intro x0 x1 x2 x3 x4 M
    rw [f_X7_sumTogether_5]
    refine v_iload X 7 4 dX7_sumTogether_5 rfl rfl ?_
    refine v_aload_n X 8 0 dX7_sumTogether_7 rfl rfl ?_
    refine v_getR X 11 fl_X7_28.r dX7_sumTogether_8 rfl (fun v1 => ?_)
    refine v_getI X 14 fl_X7_122.r dX7_sumTogether_11 rfl (fun v2 => ?_)
    refine v_icge X 17 50 dX7_sumTogether_14 rfl rfl ?_ ?_
    · refine v_iload_n X 51 3 dX7_sumTogether_50 rfl rfl ?_
      exact v_iret X Y (Nat.le_refl _) (Nat.le_refl _) dX7_sumTogether_51
    · refine v_iload_n X 18 3 dX7_sumTogether_17 rfl rfl ?_
      refine v_aload_n X 19 0 dX7_sumTogether_18 rfl rfl ?_
      refine v_getR X 22 fl_X7_28.r dX7_sumTogether_19 rfl (fun v3 => ?_)
      refine v_iload X 24 4 dX7_sumTogether_22 rfl rfl ?_
      refine v_iload_n X 25 1 dX7_sumTogether_24 rfl rfl ?_
      refine v_iload_n X 26 2 dX7_sumTogether_25 rfl rfl ?_
      refine v_vI X 29 cv_X5_goTogether ml_X7_123 (n1 := 2) rfl [.int x4, .int x1, .int x2] rfl rfl rfl dX7_sumTogether_26 rfl (fun r M1 h => c_X5_goTogether _ _ _ _ _ _ _ _ h) (fun r5 M4 => ?_)
      refine v_ifeq X 32 41 dX7_sumTogether_29 rfl rfl ?_ ?_
      · refine v_iconst X 42 dX7_sumTogether_41 ik_0 rfl ?_
        exact v_sb [0, 1, 2, 4] (L_X7_sumTogether_42 X Y ih _ _ _ _ _ _ _) rfl
      · refine v_aload_n X 33 0 dX7_sumTogether_32 rfl rfl ?_
        refine v_iload X 35 4 dX7_sumTogether_33 rfl rfl ?_
        refine v_vI X 38 cv_X7_of ml_X7_149 (n1 := 3) rfl [.int x4] rfl rfl rfl dX7_sumTogether_35 rfl (fun r M1 h => c_X7_of _ _ _ _ _ _ h) (fun r7 M6 => ?_)
        refine v_goto X 42 dX7_sumTogether_38 rfl ?_
        exact v_sb [0, 1, 2, 4] (L_X7_sumTogether_42 X Y ih _ _ _ _ _ _ _) rfl
set_option maxRecDepth 4000 in
theorem L_X7_sumTogether_0 {G : Gx} (X : Cb G cX7_sumTogether 5 RX7 (RM 4 0 0) false) (Y : Cr G (some .int) 0 0) (x0 : Nat) (x1 : Int32) (x2 : Int32) (M : MM) : V G trI 5 0 0 0 [(0, .ref x0), (1, .int x1), (2, .int x2)] [] M (f_X7_sumTogether_0 x0 x1 x2 M) := by
  unfold f_X7_sumTogether_0
  refine v_iconst X 1 dX7_sumTogether_0 ik_0 rfl ?_
  refine v_istore_n (lv' := [(0, .ref x0), (1, .int x1), (2, .int x2), (3, .int (0 : Int32))]) X 2 dX7_sumTogether_1 (by decide) rfl rfl ?_
  refine v_iconst X 3 dX7_sumTogether_2 ik_0 rfl ?_
  refine v_istore (lv' := [(0, .ref x0), (1, .int x1), (2, .int x2), (3, .int (0 : Int32)), (4, .int (0 : Int32))]) X 5 dX7_sumTogether_3 (by decide) rfl rfl ?_
  exact L_X7_sumTogether_5 X Y 1024 _ _ _ _ _ _
theorem c_X7_sumTogether (l : Launch) (x0 : Nat) (x1 : Int32) (x2 : Int32) (M : MM) (r : Int32) (M1 : MM) (h : f_X7_sumTogether x0 x1 x2 M = some (r, M1)) : KV l yX7_sumTogether cX7_sumTogether 5 (some .int) (RM 4 0 0) false 7 x0 [.int x1, .int x2] M (some (.int r)) M1 := by
  obtain ⟨hO, h2⟩ := iteO_some h
  exact ⟨hO, ct_of (tr := trI) (by decide) (Nat.le_of_ble_eq_true rfl) [(0, .ref x0), (1, .int x1), (2, .int x2)] rfl h2 (fun G X Y hn hl => L_X7_sumTogether_0 X Y x0 x1 x2 M)⟩

def f_X11_sign_0 (x0 : Nat) (x1 : Int32) (M : MM) : Option (Int32 × MM) :=
    b1 (gR 11 0 x0 M) fun v1 =>
    b2 (f_X10_put v1 x1 M) fun r3 M2 =>
    if r3 = 0 then
      some ((-1 : Int32), M2)
    else
      b1 (gR 11 0 x0 M2) fun v4 =>
      b1 (gI 10 1 v4 M2) fun v5 =>
      some (v5, M2)

def f_X11_sign (x0 : Nat) (x1 : Int32) (M : MM) : Option (Int32 × MM) := if isO 11 x0 M = true then f_X11_sign_0 x0 x1 M else none
set_option maxRecDepth 4000 in
theorem L_X11_sign_0 {G : Gx} (X : Cb G cX11_sign 2 RX11 (RM 2 0 0) false) (Y : Cr G (some .int) 0 0) (x0 : Nat) (x1 : Int32) (M : MM) : V G trI 2 0 0 0 [(0, .ref x0), (1, .int x1)] [] M (f_X11_sign_0 x0 x1 M) := by
  unfold f_X11_sign_0
  refine v_aload_n X 1 0 dX11_sign_0 rfl rfl ?_
  refine v_getR X 4 fl_X11_10.r dX11_sign_1 rfl (fun v1 => ?_)
  refine v_iload_n X 5 1 dX11_sign_4 rfl rfl ?_
  refine v_vI X 8 cv_X10_put ml_X11_95 (n1 := 1) rfl [.int x1] rfl rfl rfl dX11_sign_5 rfl (fun r M1 h => c_X10_put _ _ _ _ _ _ h) (fun r3 M2 => ?_)
  refine v_ifeq X 11 21 dX11_sign_8 rfl rfl ?_ ?_
  · refine v_iconst X 22 dX11_sign_21 ik_m1 rfl ?_
    exact v_iret X Y (Nat.le_refl _) (Nat.le_refl _) dX11_sign_22
  · refine v_aload_n X 12 0 dX11_sign_11 rfl rfl ?_
    refine v_getR X 15 fl_X11_10.r dX11_sign_12 rfl (fun v4 => ?_)
    refine v_getI X 18 fl_X11_99.r dX11_sign_15 rfl (fun v5 => ?_)
    refine v_goto X 22 dX11_sign_18 rfl ?_
    exact v_iret X Y (Nat.le_refl _) (Nat.le_refl _) dX11_sign_22
theorem c_X11_sign (l : Launch) (x0 : Nat) (x1 : Int32) (M : MM) (r : Int32) (M1 : MM) (h : f_X11_sign x0 x1 M = some (r, M1)) : KV l yX11_sign cX11_sign 2 (some .int) (RM 2 0 0) false 11 x0 [.int x1] M (some (.int r)) M1 := by
  obtain ⟨hO, h2⟩ := iteO_some h
  exact ⟨hO, ct_of (tr := trI) (by decide) (Nat.le_of_ble_eq_true rfl) [(0, .ref x0), (1, .int x1)] rfl h2 (fun G X Y hn hl => L_X11_sign_0 X Y x0 x1 M)⟩

def f_X11_end_0 (x0 : Nat) (x1 : Int32) (M : MM) : Option (Int32 × MM) :=
    b1 (gR 11 0 x0 M) fun v1 =>
    b2 (f_X10_cut v1 x1 M) fun r3 M2 =>
    rz r3 M2

def f_X11_end (x0 : Nat) (x1 : Int32) (M : MM) : Option (Int32 × MM) := if isO 11 x0 M = true then f_X11_end_0 x0 x1 M else none
set_option maxRecDepth 4000 in
theorem L_X11_end_0 {G : Gx} (X : Cb G cX11_end 2 RX11 (RM 2 0 0) false) (Y : Cr G (some .boolean) 0 0) (x0 : Nat) (x1 : Int32) (M : MM) : V G trI 2 0 0 0 [(0, .ref x0), (1, .int x1)] [] M (f_X11_end_0 x0 x1 M) := by
  unfold f_X11_end_0
  refine v_aload_n X 1 0 dX11_end_0 rfl rfl ?_
  refine v_getR X 4 fl_X11_10.r dX11_end_1 rfl (fun v1 => ?_)
  refine v_iload_n X 5 1 dX11_end_4 rfl rfl ?_
  refine v_vI X 8 cv_X10_cut ml_X11_103 (n1 := 1) rfl [.int x1] rfl rfl rfl dX11_end_5 rfl (fun r M1 h => c_X10_cut _ _ _ _ _ _ h) (fun r3 M2 => ?_)
  exact v_zret X Y (Nat.le_refl _) (Nat.le_refl _) dX11_end_8
theorem c_X11_end (l : Launch) (x0 : Nat) (x1 : Int32) (M : MM) (r : Int32) (M1 : MM) (h : f_X11_end x0 x1 M = some (r, M1)) : KV l yX11_end cX11_end 2 (some .boolean) (RM 2 0 0) false 11 x0 [.int x1] M (some (.int r)) M1 := by
  obtain ⟨hO, h2⟩ := iteO_some h
  exact ⟨hO, ct_of (tr := trI) (by decide) (Nat.le_of_ble_eq_true rfl) [(0, .ref x0), (1, .int x1)] rfl h2 (fun G X Y hn hl => L_X11_end_0 X Y x0 x1 M)⟩

def f_X11_station_0 (x0 : Nat) (M : MM) : Option (Int32 × MM) :=
    b1 (gR 11 2 x0 M) fun v1 =>
    b1 (gR 11 0 x0 M) fun v2 =>
    b2 (f_X9_read v1 v2 M) fun r4 M3 =>
    if r4 ≤ 0 then
      some (r4, M3)
    else
      b1 (gR 11 9 x0 M3) fun v5 =>
      b1 (f_X4_drop v5 M3) fun M6 =>
      some (r4, M6)

def f_X11_station (x0 : Nat) (M : MM) : Option (Int32 × MM) := if isO 11 x0 M = true then f_X11_station_0 x0 M else none
set_option maxRecDepth 4000 in
theorem L_X11_station_0 {G : Gx} (X : Cb G cX11_station 2 RX11 (RM 6 0 0) false) (Y : Cr G (some .int) 0 0) (x0 : Nat) (M : MM) : V G trI 2 0 0 0 [(0, .ref x0)] [] M (f_X11_station_0 x0 M) := by
  unfold f_X11_station_0
  refine v_aload_n X 1 0 dX11_station_0 rfl rfl ?_
  refine v_getR X 4 fl_X11_26.r dX11_station_1 rfl (fun v1 => ?_)
  refine v_aload_n X 5 0 dX11_station_4 rfl rfl ?_
  refine v_getR X 8 fl_X11_10.r dX11_station_5 rfl (fun v2 => ?_)
  refine v_vI X 11 cv_X9_read ml_X11_106 (n1 := 5) rfl [.ref v2] rfl rfl rfl dX11_station_8 rfl (fun r M1 h => c_X9_read _ _ _ _ _ _ h) (fun r4 M3 => ?_)
  refine v_istore_n (lv' := [(0, .ref x0), (1, .int r4)]) X 12 dX11_station_11 (by decide) rfl rfl ?_
  refine v_iload_n X 13 1 dX11_station_12 rfl rfl ?_
  refine v_ifle X 16 23 dX11_station_13 rfl rfl ?_ ?_
  · refine v_iload_n X 24 1 dX11_station_23 rfl rfl ?_
    exact v_iret X Y (Nat.le_refl _) (Nat.le_refl _) dX11_station_24
  · refine v_aload_n X 17 0 dX11_station_16 rfl rfl ?_
    refine v_getR X 20 fl_X11_71.r dX11_station_17 rfl (fun v5 => ?_)
    refine v_vV X 23 cv_X4_drop ml_X11_110 (n1 := 1) rfl [] rfl rfl rfl dX11_station_20 rfl (fun M1 h => c_X4_drop _ _ _ _ h) (fun M6 => ?_)
    refine v_iload_n X 24 1 dX11_station_23 rfl rfl ?_
    exact v_iret X Y (Nat.le_refl _) (Nat.le_refl _) dX11_station_24
theorem c_X11_station (l : Launch) (x0 : Nat) (M : MM) (r : Int32) (M1 : MM) (h : f_X11_station x0 M = some (r, M1)) : KV l yX11_station cX11_station 2 (some .int) (RM 6 0 0) false 11 x0 [] M (some (.int r)) M1 := by
  obtain ⟨hO, h2⟩ := iteO_some h
  exact ⟨hO, ct_of (tr := trI) (by decide) (Nat.le_of_ble_eq_true rfl) [(0, .ref x0)] rfl h2 (fun G X Y hn hl => L_X11_station_0 X Y x0 M)⟩

def f_X11_wishes_88 : Nat → Nat → Int32 → Int32 → MM → Option (Int32 × MM)
  | 0, _, _, _, _ => none
  | n + 1, x0, x1, x2, M =>
    b1 (gR 11 2 x0 M) fun v1 =>
    b1 (gI 9 8 v1 M) fun v2 =>
    if v2 ≤ x2 then
      b1 (gR 11 2 x0 M) fun v3 =>
      b1 (gI 9 8 v3 M) fun v4 =>
      some (v4, M)
    else
      b1 (gR 11 2 x0 M) fun v5 =>
      b1 (gR 11 0 x0 M) fun v6 =>
      b2 (f_X10_digit v6 (0 : Int32) M) fun r8 M7 =>
      b1 (f_X9_setWish v5 x1 x2 r8 M7) fun M9 =>
      bn (x2 + 1 : Int32) fun y10 =>
      f_X11_wishes_88 n x0 x1 y10 M9

def f_X11_wishes_25 : Nat → Nat → Int32 → Int32 → MM → Option (Int32 × MM)
  | 0, _, _, _, _ => none
  | n + 1, x0, x1, x2, M =>
    b1 (gR 11 2 x0 M) fun v1 =>
    b1 (gI 9 8 v1 M) fun v2 =>
    if v2 ≤ x2 then
      b1 (gR 11 0 x0 M) fun v3 =>
      b2 (f_X10_atEnd v3 M) fun r5 M4 =>
      if r5 = 0 then
        b1 (gR 11 0 x0 M4) fun v8 =>
        b2 (f_X10_refusal v8 M4) fun r10 M9 =>
        some (r10, M9)
      else
        b1 (gR 11 0 x0 M4) fun v6 =>
        b1 (f_X10_rewind v6 M4) fun M7 =>
        f_X11_wishes_88 1024 x0 x1 (0 : Int32) M7
    else
      b1 (gR 11 0 x0 M) fun v11 =>
      b2 (f_X10_digit v11 (0 : Int32) M) fun r13 M12 =>
      if 0 ≤ r13 then
        bn (x2 + 1 : Int32) fun y14 =>
        f_X11_wishes_25 n x0 x1 y14 M12
      else
        b1 (gR 11 0 x0 M12) fun v15 =>
        b2 (f_X10_refusal v15 M12) fun r17 M16 =>
        some (r17, M16)

def f_X11_wishes_0 (x0 : Nat) (x1 : Int32) (M : MM) : Option (Int32 × MM) :=
    b1 (gR 11 0 x0 M) fun v1 =>
    b1 (f_X10_begin v1 (80 : Int32) M) fun M2 =>
    b1 (gR 11 2 x0 M2) fun v3 =>
    b2 (f_X9_hasPerson v3 x1 M2) fun r5 M4 =>
    if r5 = 0 then
      some ((-100 : Int32), M4)
    else
      f_X11_wishes_25 1024 x0 x1 (0 : Int32) M4

def f_X11_wishes (x0 : Nat) (x1 : Int32) (M : MM) : Option (Int32 × MM) := if isO 11 x0 M = true then f_X11_wishes_0 x0 x1 M else none
set_option maxRecDepth 4000 in
theorem L_X11_wishes_88 {G : Gx} (X : Cb G cX11_wishes 3 RX11 (RM 3 0 0) false) (Y : Cr G (some .int) 0 0) : ∀ (n : Nat) (x0 : Nat) (x1 : Int32) (x2 : Int32) (M : MM), V G trI 3 0 0 88 [(0, .ref x0), (1, .int x1), (2, .int x2)] [] M (f_X11_wishes_88 n x0 x1 x2 M) := by
  intro n
  induction n with
  | zero => intro x0 x1 x2 M; rw [f_X11_wishes_88]; exact v_none
  | succ n ih =>
    intro x0 x1 x2 M
    rw [f_X11_wishes_88]
    refine v_iload_n X 89 2 dX11_wishes_88 rfl rfl ?_
    refine v_aload_n X 90 0 dX11_wishes_89 rfl rfl ?_
    refine v_getR X 93 fl_X11_26.r dX11_wishes_90 rfl (fun v1 => ?_)
    refine v_getI X 96 fl_X11_120.r dX11_wishes_93 rfl (fun v2 => ?_)
    refine v_icge X 99 122 dX11_wishes_96 rfl rfl ?_ ?_
    · refine v_aload_n X 123 0 dX11_wishes_122 rfl rfl ?_
      refine v_getR X 126 fl_X11_26.r dX11_wishes_123 rfl (fun v3 => ?_)
      refine v_getI X 129 fl_X11_120.r dX11_wishes_126 rfl (fun v4 => ?_)
      exact v_iret X Y (Nat.le_refl _) (Nat.le_refl _) dX11_wishes_129
    · refine v_aload_n X 100 0 dX11_wishes_99 rfl rfl ?_
      refine v_getR X 103 fl_X11_26.r dX11_wishes_100 rfl (fun v5 => ?_)
      refine v_iload_n X 104 1 dX11_wishes_103 rfl rfl ?_
      refine v_iload_n X 105 2 dX11_wishes_104 rfl rfl ?_
      refine v_aload_n X 106 0 dX11_wishes_105 rfl rfl ?_
      refine v_getR X 109 fl_X11_10.r dX11_wishes_106 rfl (fun v6 => ?_)
      refine v_iconst X 110 dX11_wishes_109 ik_0 rfl ?_
      refine v_vI X 113 cv_X10_digit ml_X11_123 (n1 := 1) rfl [.int (0 : Int32)] rfl rfl rfl dX11_wishes_110 rfl (fun r M1 h => c_X10_digit _ _ _ _ _ _ h) (fun r8 M7 => ?_)
      refine v_vV X 116 cv_X9_setWish ml_X11_138 (n1 := 2) rfl [.int x1, .int x2, .int r8] rfl rfl rfl dX11_wishes_113 rfl (fun M1 h => c_X9_setWish _ _ _ _ _ _ _ h) (fun M9 => ?_)
      refine v_iinc X 119 2 (fun z => [(0, .ref x0), (1, .int x1), (2, .int z)]) dX11_wishes_116 rfl ik_1 (by decide) (fun _ => rfl) rfl (fun y10 => ?_)
      refine v_goto X 88 dX11_wishes_119 rfl ?_
      exact ih _ _ _ _
set_option maxRecDepth 4000 in
theorem L_X11_wishes_25 {G : Gx} (X : Cb G cX11_wishes 3 RX11 (RM 3 0 0) false) (Y : Cr G (some .int) 0 0) : ∀ (n : Nat) (x0 : Nat) (x1 : Int32) (x2 : Int32) (M : MM), V G trI 3 0 0 25 [(0, .ref x0), (1, .int x1), (2, .int x2)] [] M (f_X11_wishes_25 n x0 x1 x2 M) := by
  intro n
  induction n with
  | zero => intro x0 x1 x2 M; rw [f_X11_wishes_25]; exact v_none
  | succ n ih =>
    intro x0 x1 x2 M
    rw [f_X11_wishes_25]
    refine v_iload_n X 26 2 dX11_wishes_25 rfl rfl ?_
    refine v_aload_n X 27 0 dX11_wishes_26 rfl rfl ?_
    refine v_getR X 30 fl_X11_26.r dX11_wishes_27 rfl (fun v1 => ?_)
    refine v_getI X 33 fl_X11_120.r dX11_wishes_30 rfl (fun v2 => ?_)
    refine v_icge X 36 61 dX11_wishes_33 rfl rfl ?_ ?_
    · refine v_aload_n X 62 0 dX11_wishes_61 rfl rfl ?_
      refine v_getR X 65 fl_X11_10.r dX11_wishes_62 rfl (fun v3 => ?_)
      refine v_vI X 68 cv_X10_atEnd ml_X11_131 (n1 := 1) rfl [] rfl rfl rfl dX11_wishes_65 rfl (fun r M1 h => c_X10_atEnd _ _ _ _ _ h) (fun r5 M4 => ?_)
      refine v_ifne X 71 79 dX11_wishes_68 rfl rfl ?_ ?_
      · refine v_aload_n X 80 0 dX11_wishes_79 rfl rfl ?_
        refine v_getR X 83 fl_X11_10.r dX11_wishes_80 rfl (fun v6 => ?_)
        refine v_vV X 86 cv_X10_rewind ml_X11_135 (n1 := 1) rfl [] rfl rfl rfl dX11_wishes_83 rfl (fun M1 h => c_X10_rewind _ _ _ _ h) (fun M7 => ?_)
        refine v_iconst X 87 dX11_wishes_86 ik_0 rfl ?_
        refine v_istore_n (lv' := [(0, .ref x0), (1, .int x1), (2, .int (0 : Int32))]) X 88 dX11_wishes_87 (by decide) rfl rfl ?_
        exact L_X11_wishes_88 X Y 1024 _ _ _ _
      · refine v_aload_n X 72 0 dX11_wishes_71 rfl rfl ?_
        refine v_getR X 75 fl_X11_10.r dX11_wishes_72 rfl (fun v8 => ?_)
        refine v_vI X 78 cv_X10_refusal ml_X11_127 (n1 := 1) rfl [] rfl rfl rfl dX11_wishes_75 rfl (fun r M1 h => c_X10_refusal _ _ _ _ _ h) (fun r10 M9 => ?_)
        exact v_iret X Y (Nat.le_refl _) (Nat.le_refl _) dX11_wishes_78
    · refine v_aload_n X 37 0 dX11_wishes_36 rfl rfl ?_
      refine v_getR X 40 fl_X11_10.r dX11_wishes_37 rfl (fun v11 => ?_)
      refine v_iconst X 41 dX11_wishes_40 ik_0 rfl ?_
      refine v_vI X 44 cv_X10_digit ml_X11_123 (n1 := 1) rfl [.int (0 : Int32)] rfl rfl rfl dX11_wishes_41 rfl (fun r M1 h => c_X10_digit _ _ _ _ _ _ h) (fun r13 M12 => ?_)
      refine v_ifge X 47 55 dX11_wishes_44 rfl rfl ?_ ?_
      · refine v_iinc X 58 2 (fun z => [(0, .ref x0), (1, .int x1), (2, .int z)]) dX11_wishes_55 rfl ik_1 (by decide) (fun _ => rfl) rfl (fun y14 => ?_)
        refine v_goto X 25 dX11_wishes_58 rfl ?_
        exact ih _ _ _ _
      · refine v_aload_n X 48 0 dX11_wishes_47 rfl rfl ?_
        refine v_getR X 51 fl_X11_10.r dX11_wishes_48 rfl (fun v15 => ?_)
        refine v_vI X 54 cv_X10_refusal ml_X11_127 (n1 := 1) rfl [] rfl rfl rfl dX11_wishes_51 rfl (fun r M1 h => c_X10_refusal _ _ _ _ _ h) (fun r17 M16 => ?_)
        exact v_iret X Y (Nat.le_refl _) (Nat.le_refl _) dX11_wishes_54
set_option maxRecDepth 4000 in
theorem L_X11_wishes_0 {G : Gx} (X : Cb G cX11_wishes 3 RX11 (RM 3 0 0) false) (Y : Cr G (some .int) 0 0) (x0 : Nat) (x1 : Int32) (M : MM) : V G trI 3 0 0 0 [(0, .ref x0), (1, .int x1)] [] M (f_X11_wishes_0 x0 x1 M) := by
  unfold f_X11_wishes_0
  refine v_aload_n X 1 0 dX11_wishes_0 rfl rfl ?_
  refine v_getR X 4 fl_X11_10.r dX11_wishes_1 rfl (fun v1 => ?_)
  refine v_bipush X 6 dX11_wishes_4 bk_80 rfl ?_
  refine v_vV X 9 cv_X10_begin ml_X11_113 (n1 := 2) rfl [.int (80 : Int32)] rfl rfl rfl dX11_wishes_6 rfl (fun M1 h => c_X10_begin _ _ _ _ _ h) (fun M2 => ?_)
  refine v_aload_n X 10 0 dX11_wishes_9 rfl rfl ?_
  refine v_getR X 13 fl_X11_26.r dX11_wishes_10 rfl (fun v3 => ?_)
  refine v_iload_n X 14 1 dX11_wishes_13 rfl rfl ?_
  refine v_vI X 17 cv_X9_hasPerson ml_X11_117 (n1 := 1) rfl [.int x1] rfl rfl rfl dX11_wishes_14 rfl (fun r M1 h => c_X9_hasPerson _ _ _ _ _ _ h) (fun r5 M4 => ?_)
  refine v_ifne X 20 23 dX11_wishes_17 rfl rfl ?_ ?_
  · refine v_iconst X 24 dX11_wishes_23 ik_0 rfl ?_
    refine v_istore_n (lv' := [(0, .ref x0), (1, .int x1), (2, .int (0 : Int32))]) X 25 dX11_wishes_24 (by decide) rfl rfl ?_
    exact L_X11_wishes_25 X Y 1024 _ _ _ _
  · refine v_bipush X 22 dX11_wishes_20 bk_m100 rfl ?_
    exact v_iret X Y (Nat.le_refl _) (Nat.le_refl _) dX11_wishes_22
theorem c_X11_wishes (l : Launch) (x0 : Nat) (x1 : Int32) (M : MM) (r : Int32) (M1 : MM) (h : f_X11_wishes x0 x1 M = some (r, M1)) : KV l yX11_wishes cX11_wishes 3 (some .int) (RM 3 0 0) false 11 x0 [.int x1] M (some (.int r)) M1 := by
  obtain ⟨hO, h2⟩ := iteO_some h
  exact ⟨hO, ct_of (tr := trI) (by decide) (Nat.le_of_ble_eq_true rfl) [(0, .ref x0), (1, .int x1)] rfl h2 (fun G X Y hn hl => L_X11_wishes_0 X Y x0 x1 M)⟩

def f_X11_rule_0 (x0 : Nat) (M : MM) : Option (Int32 × MM) :=
    b1 (gR 11 7 x0 M) fun v1 =>
    b1 (gR 11 0 x0 M) fun v2 =>
    b2 (f_X7_read v1 v2 M) fun r4 M3 =>
    some (r4, M3)

def f_X11_rule (x0 : Nat) (M : MM) : Option (Int32 × MM) := if isO 11 x0 M = true then f_X11_rule_0 x0 M else none
set_option maxRecDepth 4000 in
theorem L_X11_rule_0 {G : Gx} (X : Cb G cX11_rule 1 RX11 (RM 415 0 0) false) (Y : Cr G (some .int) 0 0) (x0 : Nat) (M : MM) : V G trI 1 0 0 0 [(0, .ref x0)] [] M (f_X11_rule_0 x0 M) := by
  unfold f_X11_rule_0
  refine v_aload_n X 1 0 dX11_rule_0 rfl rfl ?_
  refine v_getR X 4 fl_X11_55.r dX11_rule_1 rfl (fun v1 => ?_)
  refine v_aload_n X 5 0 dX11_rule_4 rfl rfl ?_
  refine v_getR X 8 fl_X11_10.r dX11_rule_5 rfl (fun v2 => ?_)
  refine v_vI X 11 cv_X7_read ml_X11_142 (n1 := 414) rfl [.ref v2] rfl rfl rfl dX11_rule_8 rfl (fun r M1 h => c_X7_read _ _ _ _ _ _ h) (fun r4 M3 => ?_)
  exact v_iret X Y (Nat.le_refl _) (Nat.le_refl _) dX11_rule_11
theorem c_X11_rule (l : Launch) (x0 : Nat) (M : MM) (r : Int32) (M1 : MM) (h : f_X11_rule x0 M = some (r, M1)) : KV l yX11_rule cX11_rule 1 (some .int) (RM 415 0 0) false 11 x0 [] M (some (.int r)) M1 := by
  obtain ⟨hO, h2⟩ := iteO_some h
  exact ⟨hO, ct_of (tr := trI) (by decide) (Nat.le_of_ble_eq_true rfl) [(0, .ref x0)] rfl h2 (fun G X Y hn hl => L_X11_rule_0 X Y x0 M)⟩

def f_X11_readTrips_94 (K2 : Nat → Int32 → MM → Option (Int32 × MM)) (x0 : Nat) (x1 : Int32) (x2 : Int32) (x3 : Int32) (s0 : Int32) (M : MM) : Option (Int32 × MM) :=
    if 0 ≤ s0 then
      b1 (gR 11 4 x0 M) fun v1 =>
      b1 (f_X5_add v1 x2 x3 s0 M) fun M2 =>
      b1 (gR 11 0 x0 M2) fun v3 =>
      b2 (f_X10_atEnd v3 M2) fun r5 M4 =>
      if r5 = 0 then
        b1 (gR 11 0 x0 M4) fun v6 =>
        b2 (f_X10_take v6 (59 : Int32) M4) fun r8 M7 =>
        if r8 = 0 then
          rz (0 : Int32) M7
        else
          bn (x1 + 1 : Int32) fun y9 =>
          K2 x0 y9 M7
      else
        b1 (gR 11 0 x0 M4) fun v10 =>
        b2 (f_X10_hasMore v10 M4) fun r12 M11 =>
        if r12 = 0 then
          rz (1 : Int32) M11
        else
          rz (0 : Int32) M11
    else
      rz (0 : Int32) M

def f_X11_readTrips_2 : Nat → Nat → Int32 → MM → Option (Int32 × MM)
  | 0, _, _, _ => none
  | n + 1, x0, x1, M =>
    if (12 : Int32) ≤ x1 then
      rz (0 : Int32) M
    else
      b1 (gR 11 0 x0 M) fun v1 =>
      b2 (f_X10_peek v1 M) fun r3 M2 =>
      bn (r3 - (97 : Int32) : Int32) fun y4 =>
      b1 (gR 11 2 x0 M2) fun v5 =>
      b2 (f_X9_hasPerson v5 y4 M2) fun r7 M6 =>
      if r7 = 0 then
        rz (0 : Int32) M6
      else
        b1 (gR 11 0 x0 M6) fun v8 =>
        b1 (f_X10_skip v8 M6) fun M9 =>
        b1 (gR 11 0 x0 M9) fun v10 =>
        b2 (f_X10_peek v10 M9) fun r12 M11 =>
        bn (r12 - (48 : Int32) : Int32) fun y13 =>
        b1 (gR 11 2 x0 M11) fun v14 =>
        b2 (f_X9_hasErrand v14 y13 M11) fun r16 M15 =>
        if r16 = 0 then
          rz (0 : Int32) M15
        else
          b1 (gR 11 0 x0 M15) fun v17 =>
          b1 (f_X10_skip v17 M15) fun M18 =>
          b1 (gR 11 0 x0 M18) fun v19 =>
          b2 (f_X10_take v19 (64 : Int32) M18) fun r21 M20 =>
          if r21 = 0 then
            f_X11_readTrips_94 (f_X11_readTrips_2 n) x0 x1 y4 y13 (-1 : Int32) M20
          else
            b1 (gR 11 0 x0 M20) fun v22 =>
            b2 (f_X10_number v22 (2 : Int32) M20) fun r24 M23 =>
            f_X11_readTrips_94 (f_X11_readTrips_2 n) x0 x1 y4 y13 r24 M23

def f_X11_readTrips_0 (x0 : Nat) (M : MM) : Option (Int32 × MM) :=
    f_X11_readTrips_2 1024 x0 (0 : Int32) M

def f_X11_readTrips (x0 : Nat) (M : MM) : Option (Int32 × MM) := if isO 11 x0 M = true then f_X11_readTrips_0 x0 M else none
set_option maxRecDepth 4000 in
theorem L_X11_readTrips_94 {G : Gx} (X : Cb G cX11_readTrips 5 RX11 (RM 3 0 0) false) (Y : Cr G (some .boolean) 0 0) {K2 : Nat → Int32 → MM → Option (Int32 × MM)} (hK2 : ∀ (x0 : Nat) (x1 : Int32) (M : MM), V G trI 5 0 0 2 [(0, .ref x0), (1, .int x1)] [] M (K2 x0 x1 M)) (x0 : Nat) (x1 : Int32) (x2 : Int32) (x3 : Int32) (s0 : Int32) (M : MM) : V G trI 5 0 0 94 [(0, .ref x0), (1, .int x1), (2, .int x2), (3, .int x3)] [.int s0] M (f_X11_readTrips_94 K2 x0 x1 x2 x3 s0 M) := by
  unfold f_X11_readTrips_94
  refine v_istore (lv' := [(0, .ref x0), (1, .int x1), (2, .int x2), (3, .int x3), (4, .int s0)]) X 96 dX11_readTrips_94 (by decide) rfl rfl ?_
  refine v_iload X 98 4 dX11_readTrips_96 rfl rfl ?_
  refine v_ifge X 101 103 dX11_readTrips_98 rfl rfl ?_ ?_
  · refine v_aload_n X 104 0 dX11_readTrips_103 rfl rfl ?_
    refine v_getR X 107 fl_X11_37.r dX11_readTrips_104 rfl (fun v1 => ?_)
    refine v_iload_n X 108 2 dX11_readTrips_107 rfl rfl ?_
    refine v_iload_n X 109 3 dX11_readTrips_108 rfl rfl ?_
    refine v_iload X 111 4 dX11_readTrips_109 rfl rfl ?_
    refine v_vV X 114 cv_X5_add ml_X11_251 (n1 := 1) rfl [.int x2, .int x3, .int s0] rfl rfl rfl dX11_readTrips_111 rfl (fun M1 h => c_X5_add _ _ _ _ _ _ _ h) (fun M2 => ?_)
    refine v_aload_n X 115 0 dX11_readTrips_114 rfl rfl ?_
    refine v_getR X 118 fl_X11_10.r dX11_readTrips_115 rfl (fun v3 => ?_)
    refine v_vI X 121 cv_X10_atEnd ml_X11_131 (n1 := 1) rfl [] rfl rfl rfl dX11_readTrips_118 rfl (fun r M1 h => c_X10_atEnd _ _ _ _ _ h) (fun r5 M4 => ?_)
    refine v_ifeq X 124 140 dX11_readTrips_121 rfl rfl ?_ ?_
    · refine v_aload_n X 141 0 dX11_readTrips_140 rfl rfl ?_
      refine v_getR X 144 fl_X11_10.r dX11_readTrips_141 rfl (fun v6 => ?_)
      refine v_bipush X 146 dX11_readTrips_144 bk_59 rfl ?_
      refine v_vI X 149 cv_X10_take ml_X11_276 (n1 := 2) rfl [.int (59 : Int32)] rfl rfl rfl dX11_readTrips_146 rfl (fun r M1 h => c_X10_take _ _ _ _ _ _ h) (fun r8 M7 => ?_)
      refine v_ifne X 152 154 dX11_readTrips_149 rfl rfl ?_ ?_
      · refine v_iinc X 157 1 (fun z => [(0, .ref x0), (1, .int z), (2, .int x2), (3, .int x3), (4, .int s0)]) dX11_readTrips_154 rfl ik_1 (by decide) (fun _ => rfl) rfl (fun y9 => ?_)
        refine v_goto X 2 dX11_readTrips_157 rfl ?_
        exact v_sb [0, 1] (hK2 _ _ _) rfl
      · refine v_iconst X 153 dX11_readTrips_152 ik_0 rfl ?_
        exact v_zret X Y (Nat.le_refl _) (Nat.le_refl _) dX11_readTrips_153
    · refine v_aload_n X 125 0 dX11_readTrips_124 rfl rfl ?_
      refine v_getR X 128 fl_X11_10.r dX11_readTrips_125 rfl (fun v10 => ?_)
      refine v_vI X 131 cv_X10_hasMore ml_X11_479 (n1 := 1) rfl [] rfl rfl rfl dX11_readTrips_128 rfl (fun r M1 h => c_X10_hasMore _ _ _ _ _ h) (fun r12 M11 => ?_)
      refine v_ifne X 134 138 dX11_readTrips_131 rfl rfl ?_ ?_
      · refine v_iconst X 139 dX11_readTrips_138 ik_0 rfl ?_
        exact v_zret X Y (Nat.le_refl _) (Nat.le_refl _) dX11_readTrips_139
      · refine v_iconst X 135 dX11_readTrips_134 ik_1 rfl ?_
        refine v_goto X 139 dX11_readTrips_135 rfl ?_
        exact v_zret X Y (Nat.le_refl _) (Nat.le_refl _) dX11_readTrips_139
  · refine v_iconst X 102 dX11_readTrips_101 ik_0 rfl ?_
    exact v_zret X Y (Nat.le_refl _) (Nat.le_refl _) dX11_readTrips_102
set_option maxRecDepth 4000 in
theorem L_X11_readTrips_2 {G : Gx} (X : Cb G cX11_readTrips 5 RX11 (RM 3 0 0) false) (Y : Cr G (some .boolean) 0 0) : ∀ (n : Nat) (x0 : Nat) (x1 : Int32) (M : MM), V G trI 5 0 0 2 [(0, .ref x0), (1, .int x1)] [] M (f_X11_readTrips_2 n x0 x1 M) := by
  intro n
  induction n with
  | zero => intro x0 x1 M; rw [f_X11_readTrips_2]; exact v_none
  | succ n ih =>
    intro x0 x1 M
    rw [f_X11_readTrips_2]
    refine v_iload_n X 3 1 dX11_readTrips_2 rfl rfl ?_
    refine v_bipush X 5 dX11_readTrips_3 bk_12 rfl ?_
    refine v_icge X 8 160 dX11_readTrips_5 rfl rfl ?_ ?_
    · refine v_iconst X 161 dX11_readTrips_160 ik_0 rfl ?_
      exact v_zret X Y (Nat.le_refl _) (Nat.le_refl _) dX11_readTrips_161
    · refine v_aload_n X 9 0 dX11_readTrips_8 rfl rfl ?_
      refine v_getR X 12 fl_X11_10.r dX11_readTrips_9 rfl (fun v1 => ?_)
      refine v_vI X 15 cv_X10_peek ml_X11_473 (n1 := 1) rfl [] rfl rfl rfl dX11_readTrips_12 rfl (fun r M1 h => c_X10_peek _ _ _ _ _ h) (fun r3 M2 => ?_)
      refine v_bipush X 17 dX11_readTrips_15 bk_97 rfl ?_
      refine v_isub X 18 dX11_readTrips_17 rfl ?_
      refine v_bnI (fun y4 => ?_)
      refine v_istore_n (lv' := [(0, .ref x0), (1, .int x1), (2, .int y4)]) X 19 dX11_readTrips_18 (by decide) rfl rfl ?_
      refine v_aload_n X 20 0 dX11_readTrips_19 rfl rfl ?_
      refine v_getR X 23 fl_X11_26.r dX11_readTrips_20 rfl (fun v5 => ?_)
      refine v_iload_n X 24 2 dX11_readTrips_23 rfl rfl ?_
      refine v_vI X 27 cv_X9_hasPerson ml_X11_117 (n1 := 1) rfl [.int y4] rfl rfl rfl dX11_readTrips_24 rfl (fun r M1 h => c_X9_hasPerson _ _ _ _ _ _ h) (fun r7 M6 => ?_)
      refine v_ifne X 30 32 dX11_readTrips_27 rfl rfl ?_ ?_
      · refine v_aload_n X 33 0 dX11_readTrips_32 rfl rfl ?_
        refine v_getR X 36 fl_X11_10.r dX11_readTrips_33 rfl (fun v8 => ?_)
        refine v_vV X 39 cv_X10_skip ml_X11_476 (n1 := 1) rfl [] rfl rfl rfl dX11_readTrips_36 rfl (fun M1 h => c_X10_skip _ _ _ _ h) (fun M9 => ?_)
        refine v_aload_n X 40 0 dX11_readTrips_39 rfl rfl ?_
        refine v_getR X 43 fl_X11_10.r dX11_readTrips_40 rfl (fun v10 => ?_)
        refine v_vI X 46 cv_X10_peek ml_X11_473 (n1 := 1) rfl [] rfl rfl rfl dX11_readTrips_43 rfl (fun r M1 h => c_X10_peek _ _ _ _ _ h) (fun r12 M11 => ?_)
        refine v_bipush X 48 dX11_readTrips_46 bk_48 rfl ?_
        refine v_isub X 49 dX11_readTrips_48 rfl ?_
        refine v_bnI (fun y13 => ?_)
        refine v_istore_n (lv' := [(0, .ref x0), (1, .int x1), (2, .int y4), (3, .int y13)]) X 50 dX11_readTrips_49 (by decide) rfl rfl ?_
        refine v_aload_n X 51 0 dX11_readTrips_50 rfl rfl ?_
        refine v_getR X 54 fl_X11_26.r dX11_readTrips_51 rfl (fun v14 => ?_)
        refine v_iload_n X 55 3 dX11_readTrips_54 rfl rfl ?_
        refine v_vI X 58 cv_X9_hasErrand ml_X11_184 (n1 := 1) rfl [.int y13] rfl rfl rfl dX11_readTrips_55 rfl (fun r M1 h => c_X9_hasErrand _ _ _ _ _ _ h) (fun r16 M15 => ?_)
        refine v_ifne X 61 63 dX11_readTrips_58 rfl rfl ?_ ?_
        · refine v_aload_n X 64 0 dX11_readTrips_63 rfl rfl ?_
          refine v_getR X 67 fl_X11_10.r dX11_readTrips_64 rfl (fun v17 => ?_)
          refine v_vV X 70 cv_X10_skip ml_X11_476 (n1 := 1) rfl [] rfl rfl rfl dX11_readTrips_67 rfl (fun M1 h => c_X10_skip _ _ _ _ h) (fun M18 => ?_)
          refine v_aload_n X 71 0 dX11_readTrips_70 rfl rfl ?_
          refine v_getR X 74 fl_X11_10.r dX11_readTrips_71 rfl (fun v19 => ?_)
          refine v_bipush X 76 dX11_readTrips_74 bk_64 rfl ?_
          refine v_vI X 79 cv_X10_take ml_X11_276 (n1 := 2) rfl [.int (64 : Int32)] rfl rfl rfl dX11_readTrips_76 rfl (fun r M1 h => c_X10_take _ _ _ _ _ _ h) (fun r21 M20 => ?_)
          refine v_ifeq X 82 93 dX11_readTrips_79 rfl rfl ?_ ?_
          · refine v_iconst X 94 dX11_readTrips_93 ik_m1 rfl ?_
            exact L_X11_readTrips_94 X Y ih _ _ _ _ _ _
          · refine v_aload_n X 83 0 dX11_readTrips_82 rfl rfl ?_
            refine v_getR X 86 fl_X11_10.r dX11_readTrips_83 rfl (fun v22 => ?_)
            refine v_iconst X 87 dX11_readTrips_86 ik_2 rfl ?_
            refine v_vI X 90 cv_X10_number ml_X11_368 (n1 := 2) rfl [.int (2 : Int32)] rfl rfl rfl dX11_readTrips_87 rfl (fun r M1 h => c_X10_number _ _ _ _ _ _ h) (fun r24 M23 => ?_)
            refine v_goto X 94 dX11_readTrips_90 rfl ?_
            exact L_X11_readTrips_94 X Y ih _ _ _ _ _ _
        · refine v_iconst X 62 dX11_readTrips_61 ik_0 rfl ?_
          exact v_zret X Y (Nat.le_refl _) (Nat.le_refl _) dX11_readTrips_62
      · refine v_iconst X 31 dX11_readTrips_30 ik_0 rfl ?_
        exact v_zret X Y (Nat.le_refl _) (Nat.le_refl _) dX11_readTrips_31
set_option maxRecDepth 4000 in
theorem L_X11_readTrips_0 {G : Gx} (X : Cb G cX11_readTrips 5 RX11 (RM 3 0 0) false) (Y : Cr G (some .boolean) 0 0) (x0 : Nat) (M : MM) : V G trI 5 0 0 0 [(0, .ref x0)] [] M (f_X11_readTrips_0 x0 M) := by
  unfold f_X11_readTrips_0
  refine v_iconst X 1 dX11_readTrips_0 ik_0 rfl ?_
  refine v_istore_n (lv' := [(0, .ref x0), (1, .int (0 : Int32))]) X 2 dX11_readTrips_1 (by decide) rfl rfl ?_
  exact L_X11_readTrips_2 X Y 1024 _ _ _
theorem c_X11_readTrips (l : Launch) (x0 : Nat) (M : MM) (r : Int32) (M1 : MM) (h : f_X11_readTrips x0 M = some (r, M1)) : KV l yX11_readTrips cX11_readTrips 5 (some .boolean) (RM 3 0 0) false 11 x0 [] M (some (.int r)) M1 := by
  obtain ⟨hO, h2⟩ := iteO_some h
  exact ⟨hO, ct_of (tr := trI) (by decide) (Nat.le_of_ble_eq_true rfl) [(0, .ref x0)] rfl h2 (fun G X Y hn hl => L_X11_readTrips_0 X Y x0 M)⟩

def f_X11_plan_42 (x0 : Nat) (M : MM) : Option (Int32 × MM) :=
    b1 (gR 11 9 x0 M) fun v1 =>
    b1 (gR 11 3 x0 M) fun v2 =>
    b1 (f_X4_push v1 v2 M) fun M3 =>
    b1 (gR 11 3 x0 M3) fun v4 =>
    b1 (gR 11 4 x0 M3) fun v5 =>
    b1 (f_X5_copy v4 v5 M3) fun M6 =>
    b1 (gR 11 3 x0 M6) fun v7 =>
    b1 (gI 5 1 v7 M6) fun v8 =>
    some (v8, M6)

def f_X11_plan_0 (x0 : Nat) (M : MM) : Option (Int32 × MM) :=
    b1 (gR 11 0 x0 M) fun v1 =>
    b1 (f_X10_begin v1 (72 : Int32) M) fun M2 =>
    b1 (gR 11 4 x0 M2) fun v3 =>
    b1 (pI 5 1 v3 (0 : Int32) M2) fun M4 =>
    b1 (gR 11 0 x0 M4) fun v5 =>
    b2 (f_X10_isEmpty v5 M4) fun r7 M6 =>
    if r7 = 0 then
      b2 (f_X11_readTrips x0 M6) fun r9 M8 =>
      if r9 = 0 then
        b1 (gR 11 0 x0 M8) fun v10 =>
        b2 (f_X10_refusal v10 M8) fun r12 M11 =>
        some (r12, M11)
      else
        f_X11_plan_42 x0 M8
    else
      f_X11_plan_42 x0 M6

def f_X11_plan (x0 : Nat) (M : MM) : Option (Int32 × MM) := if isO 11 x0 M = true then f_X11_plan_0 x0 M else none
set_option maxRecDepth 4000 in
theorem L_X11_plan_42 {G : Gx} (X : Cb G cX11_plan 1 RX11 (RM 4 0 0) false) (Y : Cr G (some .int) 0 0) (x0 : Nat) (M : MM) : V G trI 1 0 0 42 [(0, .ref x0)] [] M (f_X11_plan_42 x0 M) := by
  unfold f_X11_plan_42
  refine v_aload_n X 43 0 dX11_plan_42 rfl rfl ?_
  refine v_getR X 46 fl_X11_71.r dX11_plan_43 rfl (fun v1 => ?_)
  refine v_aload_n X 47 0 dX11_plan_46 rfl rfl ?_
  refine v_getR X 50 fl_X11_33.r dX11_plan_47 rfl (fun v2 => ?_)
  refine v_vV X 53 cv_X4_push ml_X11_152 (n1 := 2) rfl [.ref v2] rfl rfl rfl dX11_plan_50 rfl (fun M1 h => c_X4_push _ _ _ _ _ h) (fun M3 => ?_)
  refine v_aload_n X 54 0 dX11_plan_53 rfl rfl ?_
  refine v_getR X 57 fl_X11_33.r dX11_plan_54 rfl (fun v4 => ?_)
  refine v_aload_n X 58 0 dX11_plan_57 rfl rfl ?_
  refine v_getR X 61 fl_X11_37.r dX11_plan_58 rfl (fun v5 => ?_)
  refine v_vV X 64 cv_X5_copy ml_X11_156 (n1 := 1) rfl [.ref v5] rfl rfl rfl dX11_plan_61 rfl (fun M1 h => c_X5_copy _ _ _ _ _ h) (fun M6 => ?_)
  refine v_aload_n X 65 0 dX11_plan_64 rfl rfl ?_
  refine v_getR X 68 fl_X11_33.r dX11_plan_65 rfl (fun v7 => ?_)
  refine v_getI X 71 fl_X11_143.r dX11_plan_68 rfl (fun v8 => ?_)
  exact v_iret X Y (Nat.le_refl _) (Nat.le_refl _) dX11_plan_71
set_option maxRecDepth 4000 in
theorem L_X11_plan_0 {G : Gx} (X : Cb G cX11_plan 1 RX11 (RM 4 0 0) false) (Y : Cr G (some .int) 0 0) (x0 : Nat) (M : MM) : V G trI 1 0 0 0 [(0, .ref x0)] [] M (f_X11_plan_0 x0 M) := by
  unfold f_X11_plan_0
  refine v_aload_n X 1 0 dX11_plan_0 rfl rfl ?_
  refine v_getR X 4 fl_X11_10.r dX11_plan_1 rfl (fun v1 => ?_)
  refine v_bipush X 6 dX11_plan_4 bk_72 rfl ?_
  refine v_vV X 9 cv_X10_begin ml_X11_113 (n1 := 2) rfl [.int (72 : Int32)] rfl rfl rfl dX11_plan_6 rfl (fun M1 h => c_X10_begin _ _ _ _ _ h) (fun M2 => ?_)
  refine v_aload_n X 10 0 dX11_plan_9 rfl rfl ?_
  refine v_getR X 13 fl_X11_37.r dX11_plan_10 rfl (fun v3 => ?_)
  refine v_iconst X 14 dX11_plan_13 ik_0 rfl ?_
  refine v_putI X 17 fl_X11_143 nof dX11_plan_14 rfl (fun M4 => ?_)
  refine v_aload_n X 18 0 dX11_plan_17 rfl rfl ?_
  refine v_getR X 21 fl_X11_10.r dX11_plan_18 rfl (fun v5 => ?_)
  refine v_vI X 24 cv_X10_isEmpty ml_X11_146 (n1 := 1) rfl [] rfl rfl rfl dX11_plan_21 rfl (fun r M1 h => c_X10_isEmpty _ _ _ _ _ h) (fun r7 M6 => ?_)
  refine v_ifne X 27 42 dX11_plan_24 rfl rfl ?_ ?_
  · exact L_X11_plan_42 X Y _ _
  · refine v_aload_n X 28 0 dX11_plan_27 rfl rfl ?_
    refine v_vI X 31 cv_X11_readTrips ml_X11_149 (n1 := 3) rfl [] rfl rfl rfl dX11_plan_28 rfl (fun r M1 h => c_X11_readTrips _ _ _ _ _ h) (fun r9 M8 => ?_)
    refine v_ifne X 34 42 dX11_plan_31 rfl rfl ?_ ?_
    · exact L_X11_plan_42 X Y _ _
    · refine v_aload_n X 35 0 dX11_plan_34 rfl rfl ?_
      refine v_getR X 38 fl_X11_10.r dX11_plan_35 rfl (fun v10 => ?_)
      refine v_vI X 41 cv_X10_refusal ml_X11_127 (n1 := 1) rfl [] rfl rfl rfl dX11_plan_38 rfl (fun r M1 h => c_X10_refusal _ _ _ _ _ h) (fun r12 M11 => ?_)
      exact v_iret X Y (Nat.le_refl _) (Nat.le_refl _) dX11_plan_41
theorem c_X11_plan (l : Launch) (x0 : Nat) (M : MM) (r : Int32) (M1 : MM) (h : f_X11_plan x0 M = some (r, M1)) : KV l yX11_plan cX11_plan 1 (some .int) (RM 4 0 0) false 11 x0 [] M (some (.int r)) M1 := by
  obtain ⟨hO, h2⟩ := iteO_some h
  exact ⟨hO, ct_of (tr := trI) (by decide) (Nat.le_of_ble_eq_true rfl) [(0, .ref x0)] rfl h2 (fun G X Y hn hl => L_X11_plan_0 X Y x0 M)⟩

def f_X11_wish_0 (x0 : Nat) (x1 : Int32) (x2 : Int32) (x3 : Int32) (M : MM) : Option (Int32 × MM) :=
    b1 (gR 11 2 x0 M) fun v1 =>
    b2 (f_X9_hasPerson v1 x1 M) fun r3 M2 =>
    if r3 = 0 then
      some ((-1 : Int32), M2)
    else
      b1 (gR 11 2 x0 M2) fun v4 =>
      b2 (f_X9_hasErrand v4 x2 M2) fun r6 M5 =>
      if r6 = 0 then
        some ((-1 : Int32), M5)
      else
        if x3 < 0 then
          some ((-1 : Int32), M5)
        else
          if x3 ≤ (9 : Int32) then
            b1 (gR 11 2 x0 M5) fun v7 =>
            b2 (f_X9_getWish v7 x1 x2 M5) fun r9 M8 =>
            b1 (gR 11 2 x0 M8) fun v10 =>
            b1 (f_X9_setWish v10 x1 x2 x3 M8) fun M11 =>
            some (r9, M11)
          else
            some ((-1 : Int32), M5)

def f_X11_wish (x0 : Nat) (x1 : Int32) (x2 : Int32) (x3 : Int32) (M : MM) : Option (Int32 × MM) := if isO 11 x0 M = true then f_X11_wish_0 x0 x1 x2 x3 M else none
set_option maxRecDepth 4000 in
theorem L_X11_wish_0 {G : Gx} (X : Cb G cX11_wish 5 RX11 (RM 3 0 0) false) (Y : Cr G (some .int) 0 0) (x0 : Nat) (x1 : Int32) (x2 : Int32) (x3 : Int32) (M : MM) : V G trI 5 0 0 0 [(0, .ref x0), (1, .int x1), (2, .int x2), (3, .int x3)] [] M (f_X11_wish_0 x0 x1 x2 x3 M) := by
  unfold f_X11_wish_0
  refine v_aload_n X 1 0 dX11_wish_0 rfl rfl ?_
  refine v_getR X 4 fl_X11_26.r dX11_wish_1 rfl (fun v1 => ?_)
  refine v_iload_n X 5 1 dX11_wish_4 rfl rfl ?_
  refine v_vI X 8 cv_X9_hasPerson ml_X11_117 (n1 := 1) rfl [.int x1] rfl rfl rfl dX11_wish_5 rfl (fun r M1 h => c_X9_hasPerson _ _ _ _ _ _ h) (fun r3 M2 => ?_)
  refine v_ifeq X 11 32 dX11_wish_8 rfl rfl ?_ ?_
  · refine v_iconst X 33 dX11_wish_32 ik_m1 rfl ?_
    exact v_iret X Y (Nat.le_refl _) (Nat.le_refl _) dX11_wish_33
  · refine v_aload_n X 12 0 dX11_wish_11 rfl rfl ?_
    refine v_getR X 15 fl_X11_26.r dX11_wish_12 rfl (fun v4 => ?_)
    refine v_iload_n X 16 2 dX11_wish_15 rfl rfl ?_
    refine v_vI X 19 cv_X9_hasErrand ml_X11_184 (n1 := 1) rfl [.int x2] rfl rfl rfl dX11_wish_16 rfl (fun r M1 h => c_X9_hasErrand _ _ _ _ _ _ h) (fun r6 M5 => ?_)
    refine v_ifeq X 22 32 dX11_wish_19 rfl rfl ?_ ?_
    · refine v_iconst X 33 dX11_wish_32 ik_m1 rfl ?_
      exact v_iret X Y (Nat.le_refl _) (Nat.le_refl _) dX11_wish_33
    · refine v_iload_n X 23 3 dX11_wish_22 rfl rfl ?_
      refine v_iflt X 26 32 dX11_wish_23 rfl rfl ?_ ?_
      · refine v_iconst X 33 dX11_wish_32 ik_m1 rfl ?_
        exact v_iret X Y (Nat.le_refl _) (Nat.le_refl _) dX11_wish_33
      · refine v_iload_n X 27 3 dX11_wish_26 rfl rfl ?_
        refine v_bipush X 29 dX11_wish_27 bk_9 rfl ?_
        refine v_icle X 32 34 dX11_wish_29 rfl rfl ?_ ?_
        · refine v_aload_n X 35 0 dX11_wish_34 rfl rfl ?_
          refine v_getR X 38 fl_X11_26.r dX11_wish_35 rfl (fun v7 => ?_)
          refine v_iload_n X 39 1 dX11_wish_38 rfl rfl ?_
          refine v_iload_n X 40 2 dX11_wish_39 rfl rfl ?_
          refine v_vI X 43 cv_X9_getWish ml_X11_229 (n1 := 2) rfl [.int x1, .int x2] rfl rfl rfl dX11_wish_40 rfl (fun r M1 h => c_X9_getWish _ _ _ _ _ _ _ h) (fun r9 M8 => ?_)
          refine v_istore (lv' := [(0, .ref x0), (1, .int x1), (2, .int x2), (3, .int x3), (4, .int r9)]) X 45 dX11_wish_43 (by decide) rfl rfl ?_
          refine v_aload_n X 46 0 dX11_wish_45 rfl rfl ?_
          refine v_getR X 49 fl_X11_26.r dX11_wish_46 rfl (fun v10 => ?_)
          refine v_iload_n X 50 1 dX11_wish_49 rfl rfl ?_
          refine v_iload_n X 51 2 dX11_wish_50 rfl rfl ?_
          refine v_iload_n X 52 3 dX11_wish_51 rfl rfl ?_
          refine v_vV X 55 cv_X9_setWish ml_X11_138 (n1 := 2) rfl [.int x1, .int x2, .int x3] rfl rfl rfl dX11_wish_52 rfl (fun M1 h => c_X9_setWish _ _ _ _ _ _ _ h) (fun M11 => ?_)
          refine v_iload X 57 4 dX11_wish_55 rfl rfl ?_
          exact v_iret X Y (Nat.le_refl _) (Nat.le_refl _) dX11_wish_57
        · refine v_iconst X 33 dX11_wish_32 ik_m1 rfl ?_
          exact v_iret X Y (Nat.le_refl _) (Nat.le_refl _) dX11_wish_33
theorem c_X11_wish (l : Launch) (x0 : Nat) (x1 : Int32) (x2 : Int32) (x3 : Int32) (M : MM) (r : Int32) (M1 : MM) (h : f_X11_wish x0 x1 x2 x3 M = some (r, M1)) : KV l yX11_wish cX11_wish 5 (some .int) (RM 3 0 0) false 11 x0 [.int x1, .int x2, .int x3] M (some (.int r)) M1 := by
  obtain ⟨hO, h2⟩ := iteO_some h
  exact ⟨hO, ct_of (tr := trI) (by decide) (Nat.le_of_ble_eq_true rfl) [(0, .ref x0), (1, .int x1), (2, .int x2), (3, .int x3)] rfl h2 (fun G X Y hn hl => L_X11_wish_0 X Y x0 x1 x2 x3 M)⟩

def f_X11_train_0 (x0 : Nat) (x1 : Int32) (M : MM) : Option (Int32 × MM) :=
    if x1 < (1 : Int32) then
      some ((-1 : Int32), M)
    else
      if x1 ≤ (99 : Int32) then
        b1 (gR 11 2 x0 M) fun v1 =>
        b1 (gI 9 9 v1 M) fun v2 =>
        b1 (gR 11 2 x0 M) fun v3 =>
        b1 (pI 9 9 v3 x1 M) fun M4 =>
        some (v2, M4)
      else
        some ((-1 : Int32), M)

def f_X11_train (x0 : Nat) (x1 : Int32) (M : MM) : Option (Int32 × MM) := if isO 11 x0 M = true then f_X11_train_0 x0 x1 M else none
set_option maxRecDepth 4000 in
theorem L_X11_train_0 {G : Gx} (X : Cb G cX11_train 3 RX11 (RM 1 0 0) false) (Y : Cr G (some .int) 0 0) (x0 : Nat) (x1 : Int32) (M : MM) : V G trI 3 0 0 0 [(0, .ref x0), (1, .int x1)] [] M (f_X11_train_0 x0 x1 M) := by
  unfold f_X11_train_0
  refine v_iload_n X 1 1 dX11_train_0 rfl rfl ?_
  refine v_iconst X 2 dX11_train_1 ik_1 rfl ?_
  refine v_iclt X 5 11 dX11_train_2 rfl rfl ?_ ?_
  · refine v_iconst X 12 dX11_train_11 ik_m1 rfl ?_
    exact v_iret X Y (Nat.le_refl _) (Nat.le_refl _) dX11_train_12
  · refine v_iload_n X 6 1 dX11_train_5 rfl rfl ?_
    refine v_bipush X 8 dX11_train_6 bk_99 rfl ?_
    refine v_icle X 11 13 dX11_train_8 rfl rfl ?_ ?_
    · refine v_aload_n X 14 0 dX11_train_13 rfl rfl ?_
      refine v_getR X 17 fl_X11_26.r dX11_train_14 rfl (fun v1 => ?_)
      refine v_getI X 20 fl_X11_172.r dX11_train_17 rfl (fun v2 => ?_)
      refine v_istore_n (lv' := [(0, .ref x0), (1, .int x1), (2, .int v2)]) X 21 dX11_train_20 (by decide) rfl rfl ?_
      refine v_aload_n X 22 0 dX11_train_21 rfl rfl ?_
      refine v_getR X 25 fl_X11_26.r dX11_train_22 rfl (fun v3 => ?_)
      refine v_iload_n X 26 1 dX11_train_25 rfl rfl ?_
      refine v_putI X 29 fl_X11_172 nof dX11_train_26 rfl (fun M4 => ?_)
      refine v_iload_n X 30 2 dX11_train_29 rfl rfl ?_
      exact v_iret X Y (Nat.le_refl _) (Nat.le_refl _) dX11_train_30
    · refine v_iconst X 12 dX11_train_11 ik_m1 rfl ?_
      exact v_iret X Y (Nat.le_refl _) (Nat.le_refl _) dX11_train_12
theorem c_X11_train (l : Launch) (x0 : Nat) (x1 : Int32) (M : MM) (r : Int32) (M1 : MM) (h : f_X11_train x0 x1 M = some (r, M1)) : KV l yX11_train cX11_train 3 (some .int) (RM 1 0 0) false 11 x0 [.int x1] M (some (.int r)) M1 := by
  obtain ⟨hO, h2⟩ := iteO_some h
  exact ⟨hO, ct_of (tr := trI) (by decide) (Nat.le_of_ble_eq_true rfl) [(0, .ref x0), (1, .int x1)] rfl h2 (fun G X Y hn hl => L_X11_train_0 X Y x0 x1 M)⟩

def f_X11_sheet_0 (x0 : Nat) (x1 : Int32) (x2 : Int32) (x3 : Int32) (x4 : Int32) (M : MM) : Option (Int32 × MM) :=
    if x1 < 0 then
      some ((-1 : Int32), M)
    else
      if (3 : Int32) < x1 then
        some ((-1 : Int32), M)
      else
        if x2 ≤ (8 : Int32) then
          if x1 = (3 : Int32) then
            b1 (gR 11 2 x0 M) fun v4 =>
            b2 (f_X9_setLasts v4 x1 (0 : Int32) x3 x4 M) fun r6 M5 =>
            some ((-3 : Int32), M5)
          else
            if 0 ≤ x2 then
              b1 (gR 11 2 x0 M) fun v1 =>
              b2 (f_X9_setLasts v1 x1 x2 x3 x4 M) fun r3 M2 =>
              some (r3, M2)
            else
              some ((-2 : Int32), M)
        else
          some ((-1 : Int32), M)

def f_X11_sheet (x0 : Nat) (x1 : Int32) (x2 : Int32) (x3 : Int32) (x4 : Int32) (M : MM) : Option (Int32 × MM) := if isO 11 x0 M = true then f_X11_sheet_0 x0 x1 x2 x3 x4 M else none
set_option maxRecDepth 4000 in
theorem L_X11_sheet_0 {G : Gx} (X : Cb G cX11_sheet 5 RX11 (RM 3 0 0) false) (Y : Cr G (some .int) 0 0) (x0 : Nat) (x1 : Int32) (x2 : Int32) (x3 : Int32) (x4 : Int32) (M : MM) : V G trI 5 0 0 0 [(0, .ref x0), (1, .int x1), (2, .int x2), (3, .int x3), (4, .int x4)] [] M (f_X11_sheet_0 x0 x1 x2 x3 x4 M) := by
  unfold f_X11_sheet_0
  refine v_iload_n X 1 1 dX11_sheet_0 rfl rfl ?_
  refine v_iflt X 4 15 dX11_sheet_1 rfl rfl ?_ ?_
  · refine v_iconst X 16 dX11_sheet_15 ik_m1 rfl ?_
    exact v_iret X Y (Nat.le_refl _) (Nat.le_refl _) dX11_sheet_16
  · refine v_iload_n X 5 1 dX11_sheet_4 rfl rfl ?_
    refine v_iconst X 6 dX11_sheet_5 ik_3 rfl ?_
    refine v_icgt X 9 15 dX11_sheet_6 rfl rfl ?_ ?_
    · refine v_iconst X 16 dX11_sheet_15 ik_m1 rfl ?_
      exact v_iret X Y (Nat.le_refl _) (Nat.le_refl _) dX11_sheet_16
    · refine v_iload_n X 10 2 dX11_sheet_9 rfl rfl ?_
      refine v_bipush X 12 dX11_sheet_10 bk_8 rfl ?_
      refine v_icle X 15 17 dX11_sheet_12 rfl rfl ?_ ?_
      · refine v_iload_n X 18 1 dX11_sheet_17 rfl rfl ?_
        refine v_iconst X 19 dX11_sheet_18 ik_3 rfl ?_
        refine v_icne X 22 38 dX11_sheet_19 rfl rfl ?_ ?_
        · refine v_iload_n X 39 2 dX11_sheet_38 rfl rfl ?_
          refine v_ifge X 42 45 dX11_sheet_39 rfl rfl ?_ ?_
          · refine v_aload_n X 46 0 dX11_sheet_45 rfl rfl ?_
            refine v_getR X 49 fl_X11_26.r dX11_sheet_46 rfl (fun v1 => ?_)
            refine v_iload_n X 50 1 dX11_sheet_49 rfl rfl ?_
            refine v_iload_n X 51 2 dX11_sheet_50 rfl rfl ?_
            refine v_iload_n X 52 3 dX11_sheet_51 rfl rfl ?_
            refine v_iload X 54 4 dX11_sheet_52 rfl rfl ?_
            refine v_vI X 57 cv_X9_setLasts ml_X11_233 (n1 := 2) rfl [.int x1, .int x2, .int x3, .int x4] rfl rfl rfl dX11_sheet_54 rfl (fun r M1 h => c_X9_setLasts _ _ _ _ _ _ _ _ _ h) (fun r3 M2 => ?_)
            exact v_iret X Y (Nat.le_refl _) (Nat.le_refl _) dX11_sheet_57
          · refine v_bipush X 44 dX11_sheet_42 bk_m2 rfl ?_
            exact v_iret X Y (Nat.le_refl _) (Nat.le_refl _) dX11_sheet_44
        · refine v_aload_n X 23 0 dX11_sheet_22 rfl rfl ?_
          refine v_getR X 26 fl_X11_26.r dX11_sheet_23 rfl (fun v4 => ?_)
          refine v_iload_n X 27 1 dX11_sheet_26 rfl rfl ?_
          refine v_iconst X 28 dX11_sheet_27 ik_0 rfl ?_
          refine v_iload_n X 29 3 dX11_sheet_28 rfl rfl ?_
          refine v_iload X 31 4 dX11_sheet_29 rfl rfl ?_
          refine v_vI X 34 cv_X9_setLasts ml_X11_233 (n1 := 2) rfl [.int x1, .int (0 : Int32), .int x3, .int x4] rfl rfl rfl dX11_sheet_31 rfl (fun r M1 h => c_X9_setLasts _ _ _ _ _ _ _ _ _ h) (fun r6 M5 => ?_)
          refine v_pop X 35 dX11_sheet_34 rfl rfl ?_
          refine v_bipush X 37 dX11_sheet_35 bk_m3 rfl ?_
          exact v_iret X Y (Nat.le_refl _) (Nat.le_refl _) dX11_sheet_37
      · refine v_iconst X 16 dX11_sheet_15 ik_m1 rfl ?_
        exact v_iret X Y (Nat.le_refl _) (Nat.le_refl _) dX11_sheet_16
theorem c_X11_sheet (l : Launch) (x0 : Nat) (x1 : Int32) (x2 : Int32) (x3 : Int32) (x4 : Int32) (M : MM) (r : Int32) (M1 : MM) (h : f_X11_sheet x0 x1 x2 x3 x4 M = some (r, M1)) : KV l yX11_sheet cX11_sheet 5 (some .int) (RM 3 0 0) false 11 x0 [.int x1, .int x2, .int x3, .int x4] M (some (.int r)) M1 := by
  obtain ⟨hO, h2⟩ := iteO_some h
  exact ⟨hO, ct_of (tr := trI) (by decide) (Nat.le_of_ble_eq_true rfl) [(0, .ref x0), (1, .int x1), (2, .int x2), (3, .int x3), (4, .int x4)] rfl h2 (fun G X Y hn hl => L_X11_sheet_0 X Y x0 x1 x2 x3 x4 M)⟩

def f_X11_canBeAsked_0 (x0 : Nat) (x1 : Int32) (x2 : Int32) (x3 : Int32) (M : MM) : Option (Int32 × MM) :=
    b1 (gR 11 2 x0 M) fun v1 =>
    b2 (f_X9_hasPerson v1 x1 M) fun r3 M2 =>
    if r3 = 0 then
      rz (0 : Int32) M2
    else
      b1 (gR 11 2 x0 M2) fun v4 =>
      b2 (f_X9_hasErrand v4 x2 M2) fun r6 M5 =>
      if r6 = 0 then
        rz (0 : Int32) M5
      else
        if x3 < 0 then
          rz (0 : Int32) M5
        else
          if (99 : Int32) < x3 then
            rz (0 : Int32) M5
          else
            rz (1 : Int32) M5

def f_X11_canBeAsked (x0 : Nat) (x1 : Int32) (x2 : Int32) (x3 : Int32) (M : MM) : Option (Int32 × MM) := if isO 11 x0 M = true then f_X11_canBeAsked_0 x0 x1 x2 x3 M else none
set_option maxRecDepth 4000 in
theorem L_X11_canBeAsked_0 {G : Gx} (X : Cb G cX11_canBeAsked 4 RX11 (RM 2 0 0) false) (Y : Cr G (some .boolean) 0 0) (x0 : Nat) (x1 : Int32) (x2 : Int32) (x3 : Int32) (M : MM) : V G trI 4 0 0 0 [(0, .ref x0), (1, .int x1), (2, .int x2), (3, .int x3)] [] M (f_X11_canBeAsked_0 x0 x1 x2 x3 M) := by
  unfold f_X11_canBeAsked_0
  refine v_aload_n X 1 0 dX11_canBeAsked_0 rfl rfl ?_
  refine v_getR X 4 fl_X11_26.r dX11_canBeAsked_1 rfl (fun v1 => ?_)
  refine v_iload_n X 5 1 dX11_canBeAsked_4 rfl rfl ?_
  refine v_vI X 8 cv_X9_hasPerson ml_X11_117 (n1 := 1) rfl [.int x1] rfl rfl rfl dX11_canBeAsked_5 rfl (fun r M1 h => c_X9_hasPerson _ _ _ _ _ _ h) (fun r3 M2 => ?_)
  refine v_ifeq X 11 36 dX11_canBeAsked_8 rfl rfl ?_ ?_
  · refine v_iconst X 37 dX11_canBeAsked_36 ik_0 rfl ?_
    exact v_zret X Y (Nat.le_refl _) (Nat.le_refl _) dX11_canBeAsked_37
  · refine v_aload_n X 12 0 dX11_canBeAsked_11 rfl rfl ?_
    refine v_getR X 15 fl_X11_26.r dX11_canBeAsked_12 rfl (fun v4 => ?_)
    refine v_iload_n X 16 2 dX11_canBeAsked_15 rfl rfl ?_
    refine v_vI X 19 cv_X9_hasErrand ml_X11_184 (n1 := 1) rfl [.int x2] rfl rfl rfl dX11_canBeAsked_16 rfl (fun r M1 h => c_X9_hasErrand _ _ _ _ _ _ h) (fun r6 M5 => ?_)
    refine v_ifeq X 22 36 dX11_canBeAsked_19 rfl rfl ?_ ?_
    · refine v_iconst X 37 dX11_canBeAsked_36 ik_0 rfl ?_
      exact v_zret X Y (Nat.le_refl _) (Nat.le_refl _) dX11_canBeAsked_37
    · refine v_iload_n X 23 3 dX11_canBeAsked_22 rfl rfl ?_
      refine v_iflt X 26 36 dX11_canBeAsked_23 rfl rfl ?_ ?_
      · refine v_iconst X 37 dX11_canBeAsked_36 ik_0 rfl ?_
        exact v_zret X Y (Nat.le_refl _) (Nat.le_refl _) dX11_canBeAsked_37
      · refine v_iload_n X 27 3 dX11_canBeAsked_26 rfl rfl ?_
        refine v_bipush X 29 dX11_canBeAsked_27 bk_99 rfl ?_
        refine v_icgt X 32 36 dX11_canBeAsked_29 rfl rfl ?_ ?_
        · refine v_iconst X 37 dX11_canBeAsked_36 ik_0 rfl ?_
          exact v_zret X Y (Nat.le_refl _) (Nat.le_refl _) dX11_canBeAsked_37
        · refine v_iconst X 33 dX11_canBeAsked_32 ik_1 rfl ?_
          refine v_goto X 37 dX11_canBeAsked_33 rfl ?_
          exact v_zret X Y (Nat.le_refl _) (Nat.le_refl _) dX11_canBeAsked_37
theorem c_X11_canBeAsked (l : Launch) (x0 : Nat) (x1 : Int32) (x2 : Int32) (x3 : Int32) (M : MM) (r : Int32) (M1 : MM) (h : f_X11_canBeAsked x0 x1 x2 x3 M = some (r, M1)) : KV l yX11_canBeAsked cX11_canBeAsked 4 (some .boolean) (RM 2 0 0) false 11 x0 [.int x1, .int x2, .int x3] M (some (.int r)) M1 := by
  obtain ⟨hO, h2⟩ := iteO_some h
  exact ⟨hO, ct_of (tr := trI) (by decide) (Nat.le_of_ble_eq_true rfl) [(0, .ref x0), (1, .int x1), (2, .int x2), (3, .int x3)] rfl h2 (fun G X Y hn hl => L_X11_canBeAsked_0 X Y x0 x1 x2 x3 M)⟩

def f_X11_may_0 (x0 : Nat) (x1 : Int32) (x2 : Int32) (x3 : Int32) (M : MM) : Option (Int32 × MM) :=
    b2 (f_X11_canBeAsked x0 x1 x2 x3 M) fun r2 M1 =>
    if r2 = 0 then
      some ((-1 : Int32), M1)
    else
      b1 (gR 11 5 x0 M1) fun v3 =>
      b1 (f_X1_look v3 M1) fun M4 =>
      b1 (gR 11 5 x0 M4) fun v5 =>
      b2 (f_X1_hindrance v5 x1 x2 x3 M4) fun r7 M6 =>
      some (r7, M6)

def f_X11_may (x0 : Nat) (x1 : Int32) (x2 : Int32) (x3 : Int32) (M : MM) : Option (Int32 × MM) := if isO 11 x0 M = true then f_X11_may_0 x0 x1 x2 x3 M else none
set_option maxRecDepth 4000 in
theorem L_X11_may_0 {G : Gx} (X : Cb G cX11_may 4 RX11 (RM 5 0 0) false) (Y : Cr G (some .int) 0 0) (x0 : Nat) (x1 : Int32) (x2 : Int32) (x3 : Int32) (M : MM) : V G trI 4 0 0 0 [(0, .ref x0), (1, .int x1), (2, .int x2), (3, .int x3)] [] M (f_X11_may_0 x0 x1 x2 x3 M) := by
  unfold f_X11_may_0
  refine v_aload_n X 1 0 dX11_may_0 rfl rfl ?_
  refine v_iload_n X 2 1 dX11_may_1 rfl rfl ?_
  refine v_iload_n X 3 2 dX11_may_2 rfl rfl ?_
  refine v_iload_n X 4 3 dX11_may_3 rfl rfl ?_
  refine v_vI X 7 cv_X11_canBeAsked ml_X11_237 (n1 := 2) rfl [.int x1, .int x2, .int x3] rfl rfl rfl dX11_may_4 rfl (fun r M1 h => c_X11_canBeAsked _ _ _ _ _ _ _ _ h) (fun r2 M1 => ?_)
  refine v_ifne X 10 12 dX11_may_7 rfl rfl ?_ ?_
  · refine v_aload_n X 13 0 dX11_may_12 rfl rfl ?_
    refine v_getR X 16 fl_X11_45.r dX11_may_13 rfl (fun v3 => ?_)
    refine v_vV X 19 cv_X1_look ml_X11_162 (n1 := 3) rfl [] rfl rfl rfl dX11_may_16 rfl (fun M1 h => c_X1_look _ _ _ _ h) (fun M4 => ?_)
    refine v_aload_n X 20 0 dX11_may_19 rfl rfl ?_
    refine v_getR X 23 fl_X11_45.r dX11_may_20 rfl (fun v5 => ?_)
    refine v_iload_n X 24 1 dX11_may_23 rfl rfl ?_
    refine v_iload_n X 25 2 dX11_may_24 rfl rfl ?_
    refine v_iload_n X 26 3 dX11_may_25 rfl rfl ?_
    refine v_vI X 29 cv_X1_hindrance ml_X11_241 (n1 := 4) rfl [.int x1, .int x2, .int x3] rfl rfl rfl dX11_may_26 rfl (fun r M1 h => c_X1_hindrance _ _ _ _ _ _ _ _ h) (fun r7 M6 => ?_)
    exact v_iret X Y (Nat.le_refl _) (Nat.le_refl _) dX11_may_29
  · refine v_iconst X 11 dX11_may_10 ik_m1 rfl ?_
    exact v_iret X Y (Nat.le_refl _) (Nat.le_refl _) dX11_may_11
theorem c_X11_may (l : Launch) (x0 : Nat) (x1 : Int32) (x2 : Int32) (x3 : Int32) (M : MM) (r : Int32) (M1 : MM) (h : f_X11_may x0 x1 x2 x3 M = some (r, M1)) : KV l yX11_may cX11_may 4 (some .int) (RM 5 0 0) false 11 x0 [.int x1, .int x2, .int x3] M (some (.int r)) M1 := by
  obtain ⟨hO, h2⟩ := iteO_some h
  exact ⟨hO, ct_of (tr := trI) (by decide) (Nat.le_of_ble_eq_true rfl) [(0, .ref x0), (1, .int x1), (2, .int x2), (3, .int x3)] rfl h2 (fun G X Y hn hl => L_X11_may_0 X Y x0 x1 x2 x3 M)⟩

def f_X11_putIn_0 (x0 : Nat) (x1 : Int32) (x2 : Int32) (x3 : Int32) (M : MM) : Option (Int32 × MM) :=
    b2 (f_X11_canBeAsked x0 x1 x2 x3 M) fun r2 M1 =>
    if r2 = 0 then
      some ((-1 : Int32), M1)
    else
      b1 (gR 11 5 x0 M1) fun v3 =>
      b1 (f_X1_look v3 M1) fun M4 =>
      b1 (gR 11 5 x0 M4) fun v5 =>
      b2 (f_X1_hindrance v5 x1 x2 x3 M4) fun r7 M6 =>
      if r7 = 0 then
        b1 (gR 11 3 x0 M6) fun v8 =>
        b1 (f_X5_add v8 x1 x2 x3 M6) fun M9 =>
        b1 (gR 11 3 x0 M9) fun v10 =>
        b1 (gI 5 1 v10 M9) fun v11 =>
        some (v11, M9)
      else
        some ((-2 : Int32), M6)

def f_X11_putIn (x0 : Nat) (x1 : Int32) (x2 : Int32) (x3 : Int32) (M : MM) : Option (Int32 × MM) := if isO 11 x0 M = true then f_X11_putIn_0 x0 x1 x2 x3 M else none
set_option maxRecDepth 4000 in
theorem L_X11_putIn_0 {G : Gx} (X : Cb G cX11_putIn 4 RX11 (RM 5 0 0) false) (Y : Cr G (some .int) 0 0) (x0 : Nat) (x1 : Int32) (x2 : Int32) (x3 : Int32) (M : MM) : V G trI 4 0 0 0 [(0, .ref x0), (1, .int x1), (2, .int x2), (3, .int x3)] [] M (f_X11_putIn_0 x0 x1 x2 x3 M) := by
  unfold f_X11_putIn_0
  refine v_aload_n X 1 0 dX11_putIn_0 rfl rfl ?_
  refine v_iload_n X 2 1 dX11_putIn_1 rfl rfl ?_
  refine v_iload_n X 3 2 dX11_putIn_2 rfl rfl ?_
  refine v_iload_n X 4 3 dX11_putIn_3 rfl rfl ?_
  refine v_vI X 7 cv_X11_canBeAsked ml_X11_237 (n1 := 2) rfl [.int x1, .int x2, .int x3] rfl rfl rfl dX11_putIn_4 rfl (fun r M1 h => c_X11_canBeAsked _ _ _ _ _ _ _ _ h) (fun r2 M1 => ?_)
  refine v_ifne X 10 12 dX11_putIn_7 rfl rfl ?_ ?_
  · refine v_aload_n X 13 0 dX11_putIn_12 rfl rfl ?_
    refine v_getR X 16 fl_X11_45.r dX11_putIn_13 rfl (fun v3 => ?_)
    refine v_vV X 19 cv_X1_look ml_X11_162 (n1 := 3) rfl [] rfl rfl rfl dX11_putIn_16 rfl (fun M1 h => c_X1_look _ _ _ _ h) (fun M4 => ?_)
    refine v_aload_n X 20 0 dX11_putIn_19 rfl rfl ?_
    refine v_getR X 23 fl_X11_45.r dX11_putIn_20 rfl (fun v5 => ?_)
    refine v_iload_n X 24 1 dX11_putIn_23 rfl rfl ?_
    refine v_iload_n X 25 2 dX11_putIn_24 rfl rfl ?_
    refine v_iload_n X 26 3 dX11_putIn_25 rfl rfl ?_
    refine v_vI X 29 cv_X1_hindrance ml_X11_241 (n1 := 4) rfl [.int x1, .int x2, .int x3] rfl rfl rfl dX11_putIn_26 rfl (fun r M1 h => c_X1_hindrance _ _ _ _ _ _ _ _ h) (fun r7 M6 => ?_)
    refine v_ifeq X 32 35 dX11_putIn_29 rfl rfl ?_ ?_
    · refine v_aload_n X 36 0 dX11_putIn_35 rfl rfl ?_
      refine v_getR X 39 fl_X11_33.r dX11_putIn_36 rfl (fun v8 => ?_)
      refine v_iload_n X 40 1 dX11_putIn_39 rfl rfl ?_
      refine v_iload_n X 41 2 dX11_putIn_40 rfl rfl ?_
      refine v_iload_n X 42 3 dX11_putIn_41 rfl rfl ?_
      refine v_vV X 45 cv_X5_add ml_X11_251 (n1 := 1) rfl [.int x1, .int x2, .int x3] rfl rfl rfl dX11_putIn_42 rfl (fun M1 h => c_X5_add _ _ _ _ _ _ _ h) (fun M9 => ?_)
      refine v_aload_n X 46 0 dX11_putIn_45 rfl rfl ?_
      refine v_getR X 49 fl_X11_33.r dX11_putIn_46 rfl (fun v10 => ?_)
      refine v_getI X 52 fl_X11_143.r dX11_putIn_49 rfl (fun v11 => ?_)
      exact v_iret X Y (Nat.le_refl _) (Nat.le_refl _) dX11_putIn_52
    · refine v_bipush X 34 dX11_putIn_32 bk_m2 rfl ?_
      exact v_iret X Y (Nat.le_refl _) (Nat.le_refl _) dX11_putIn_34
  · refine v_iconst X 11 dX11_putIn_10 ik_m1 rfl ?_
    exact v_iret X Y (Nat.le_refl _) (Nat.le_refl _) dX11_putIn_11
theorem c_X11_putIn (l : Launch) (x0 : Nat) (x1 : Int32) (x2 : Int32) (x3 : Int32) (M : MM) (r : Int32) (M1 : MM) (h : f_X11_putIn x0 x1 x2 x3 M = some (r, M1)) : KV l yX11_putIn cX11_putIn 4 (some .int) (RM 5 0 0) false 11 x0 [.int x1, .int x2, .int x3] M (some (.int r)) M1 := by
  obtain ⟨hO, h2⟩ := iteO_some h
  exact ⟨hO, ct_of (tr := trI) (by decide) (Nat.le_of_ble_eq_true rfl) [(0, .ref x0), (1, .int x1), (2, .int x2), (3, .int x3)] rfl h2 (fun G X Y hn hl => L_X11_putIn_0 X Y x0 x1 x2 x3 M)⟩

def f_X11_remember_0 (x0 : Nat) (x1 : Int32) (M : MM) : Option (Int32 × MM) :=
    if x1 < 0 then
      some (x1, M)
    else
      b1 (gR 11 9 x0 M) fun v1 =>
      b1 (gR 11 4 x0 M) fun v2 =>
      b1 (f_X4_push v1 v2 M) fun M3 =>
      some (x1, M3)

def f_X11_remember (x0 : Nat) (x1 : Int32) (M : MM) : Option (Int32 × MM) := if isO 11 x0 M = true then f_X11_remember_0 x0 x1 M else none
set_option maxRecDepth 4000 in
theorem L_X11_remember_0 {G : Gx} (X : Cb G cX11_remember 2 RX11 (RM 3 0 0) false) (Y : Cr G (some .int) 0 0) (x0 : Nat) (x1 : Int32) (M : MM) : V G trI 2 0 0 0 [(0, .ref x0), (1, .int x1)] [] M (f_X11_remember_0 x0 x1 M) := by
  unfold f_X11_remember_0
  refine v_iload_n X 1 1 dX11_remember_0 rfl rfl ?_
  refine v_iflt X 4 15 dX11_remember_1 rfl rfl ?_ ?_
  · refine v_iload_n X 16 1 dX11_remember_15 rfl rfl ?_
    exact v_iret X Y (Nat.le_refl _) (Nat.le_refl _) dX11_remember_16
  · refine v_aload_n X 5 0 dX11_remember_4 rfl rfl ?_
    refine v_getR X 8 fl_X11_71.r dX11_remember_5 rfl (fun v1 => ?_)
    refine v_aload_n X 9 0 dX11_remember_8 rfl rfl ?_
    refine v_getR X 12 fl_X11_37.r dX11_remember_9 rfl (fun v2 => ?_)
    refine v_vV X 15 cv_X4_push ml_X11_152 (n1 := 2) rfl [.ref v2] rfl rfl rfl dX11_remember_12 rfl (fun M1 h => c_X4_push _ _ _ _ _ h) (fun M3 => ?_)
    refine v_iload_n X 16 1 dX11_remember_15 rfl rfl ?_
    exact v_iret X Y (Nat.le_refl _) (Nat.le_refl _) dX11_remember_16
theorem c_X11_remember (l : Launch) (x0 : Nat) (x1 : Int32) (M : MM) (r : Int32) (M1 : MM) (h : f_X11_remember x0 x1 M = some (r, M1)) : KV l yX11_remember cX11_remember 2 (some .int) (RM 3 0 0) false 11 x0 [.int x1] M (some (.int r)) M1 := by
  obtain ⟨hO, h2⟩ := iteO_some h
  exact ⟨hO, ct_of (tr := trI) (by decide) (Nat.le_of_ble_eq_true rfl) [(0, .ref x0), (1, .int x1)] rfl h2 (fun G X Y hn hl => L_X11_remember_0 X Y x0 x1 M)⟩

def f_X11_go_0 (x0 : Nat) (x1 : Int32) (x2 : Int32) (x3 : Int32) (M : MM) : Option (Int32 × MM) :=
    b1 (gR 11 4 x0 M) fun v1 =>
    b1 (gR 11 3 x0 M) fun v2 =>
    b1 (f_X5_copy v1 v2 M) fun M3 =>
    b2 (f_X11_putIn x0 x1 x2 x3 M3) fun r5 M4 =>
    b2 (f_X11_remember x0 r5 M4) fun r7 M6 =>
    some (r7, M6)

def f_X11_go (x0 : Nat) (x1 : Int32) (x2 : Int32) (x3 : Int32) (M : MM) : Option (Int32 × MM) := if isO 11 x0 M = true then f_X11_go_0 x0 x1 x2 x3 M else none
set_option maxRecDepth 4000 in
theorem L_X11_go_0 {G : Gx} (X : Cb G cX11_go 4 RX11 (RM 6 0 0) false) (Y : Cr G (some .int) 0 0) (x0 : Nat) (x1 : Int32) (x2 : Int32) (x3 : Int32) (M : MM) : V G trI 4 0 0 0 [(0, .ref x0), (1, .int x1), (2, .int x2), (3, .int x3)] [] M (f_X11_go_0 x0 x1 x2 x3 M) := by
  unfold f_X11_go_0
  refine v_aload_n X 1 0 dX11_go_0 rfl rfl ?_
  refine v_getR X 4 fl_X11_37.r dX11_go_1 rfl (fun v1 => ?_)
  refine v_aload_n X 5 0 dX11_go_4 rfl rfl ?_
  refine v_getR X 8 fl_X11_33.r dX11_go_5 rfl (fun v2 => ?_)
  refine v_vV X 11 cv_X5_copy ml_X11_156 (n1 := 1) rfl [.ref v2] rfl rfl rfl dX11_go_8 rfl (fun M1 h => c_X5_copy _ _ _ _ _ h) (fun M3 => ?_)
  refine v_aload_n X 12 0 dX11_go_11 rfl rfl ?_
  refine v_aload_n X 13 0 dX11_go_12 rfl rfl ?_
  refine v_iload_n X 14 1 dX11_go_13 rfl rfl ?_
  refine v_iload_n X 15 2 dX11_go_14 rfl rfl ?_
  refine v_iload_n X 16 3 dX11_go_15 rfl rfl ?_
  refine v_vI X 19 cv_X11_putIn ml_X11_245 (n1 := 5) rfl [.int x1, .int x2, .int x3] rfl rfl rfl dX11_go_16 rfl (fun r M1 h => c_X11_putIn _ _ _ _ _ _ _ _ h) (fun r5 M4 => ?_)
  refine v_vI X 22 cv_X11_remember ml_X11_248 (n1 := 3) rfl [.int r5] rfl rfl rfl dX11_go_19 rfl (fun r M1 h => c_X11_remember _ _ _ _ _ _ h) (fun r7 M6 => ?_)
  exact v_iret X Y (Nat.le_refl _) (Nat.le_refl _) dX11_go_22
theorem c_X11_go (l : Launch) (x0 : Nat) (x1 : Int32) (x2 : Int32) (x3 : Int32) (M : MM) (r : Int32) (M1 : MM) (h : f_X11_go x0 x1 x2 x3 M = some (r, M1)) : KV l yX11_go cX11_go 4 (some .int) (RM 6 0 0) false 11 x0 [.int x1, .int x2, .int x3] M (some (.int r)) M1 := by
  obtain ⟨hO, h2⟩ := iteO_some h
  exact ⟨hO, ct_of (tr := trI) (by decide) (Nat.le_of_ble_eq_true rfl) [(0, .ref x0), (1, .int x1), (2, .int x2), (3, .int x3)] rfl h2 (fun G X Y hn hl => L_X11_go_0 X Y x0 x1 x2 x3 M)⟩

def f_X11_pair_163 (x0 : Nat) (M : MM) : Option (Int32 × MM) :=
    b1 (gR 11 3 x0 M) fun v1 =>
    b1 (gR 11 4 x0 M) fun v2 =>
    b1 (f_X5_copy v1 v2 M) fun M3 =>
    some ((-2 : Int32), M3)

def f_X11_pair_136 (x0 : Nat) (s0 : Int32) (M : MM) : Option (Int32 × MM) :=
    if s0 = 0 then
      f_X11_pair_163 x0 M
    else
      b1 (gR 11 5 x0 M) fun v1 =>
      b1 (gR 1 5 v1 M) fun v2 =>
      b1 (gR 11 6 x0 M) fun v3 =>
      b1 (gR 1 5 v3 M) fun v4 =>
      b2 (f_X2_hasMoreThan v2 v4 M) fun r6 M5 =>
      if r6 = 0 then
        b1 (gR 11 3 x0 M5) fun v7 =>
        b1 (gI 5 1 v7 M5) fun v8 =>
        b2 (f_X11_remember x0 v8 M5) fun r10 M9 =>
        some (r10, M9)
      else
        f_X11_pair_163 x0 M5

def f_X11_pair_135 (x0 : Nat) (M : MM) : Option (Int32 × MM) :=
    f_X11_pair_136 x0 (0 : Int32) M

def f_X11_pair_0 (x0 : Nat) (x1 : Int32) (x2 : Int32) (x3 : Int32) (x4 : Int32) (M : MM) : Option (Int32 × MM) :=
    if x1 = x2 then
      some ((-1 : Int32), M)
    else
      b2 (f_X11_canBeAsked x0 x1 x3 x4 M) fun r2 M1 =>
      if r2 = 0 then
        some ((-1 : Int32), M1)
      else
        b1 (gR 11 2 x0 M1) fun v3 =>
        b2 (f_X9_hasPerson v3 x2 M1) fun r5 M4 =>
        if r5 = 0 then
          some ((-1 : Int32), M4)
        else
          b1 (gR 11 3 x0 M4) fun v6 =>
          b1 (gI 5 1 v6 M4) fun v7 =>
          if (v7 + (2 : Int32)) ≤ (12 : Int32) then
            b1 (gR 11 4 x0 M4) fun v8 =>
            b1 (gR 11 3 x0 M4) fun v9 =>
            b1 (f_X5_copy v8 v9 M4) fun M10 =>
            b1 (gR 11 6 x0 M10) fun v11 =>
            b1 (f_X1_look v11 M10) fun M12 =>
            b1 (gR 11 3 x0 M12) fun v13 =>
            b1 (f_X5_add v13 x1 x3 x4 M12) fun M14 =>
            b1 (gR 11 3 x0 M14) fun v15 =>
            b1 (f_X5_add v15 x2 x3 x4 M14) fun M16 =>
            b1 (gR 11 5 x0 M16) fun v17 =>
            b1 (f_X1_look v17 M16) fun M18 =>
            b1 (gR 11 5 x0 M18) fun v19 =>
            b1 (gR 11 3 x0 M18) fun v20 =>
            b1 (gI 5 1 v20 M18) fun v21 =>
            b2 (f_X1_brokenBy v19 (v21 - (2 : Int32)) M18) fun r23 M22 =>
            if r23 = 0 then
              b1 (gR 11 5 x0 M22) fun v24 =>
              b1 (gR 11 3 x0 M22) fun v25 =>
              b1 (gI 5 1 v25 M22) fun v26 =>
              b2 (f_X1_brokenBy v24 (v26 - (1 : Int32)) M22) fun r28 M27 =>
              if r28 = 0 then
                f_X11_pair_136 x0 (1 : Int32) M27
              else
                f_X11_pair_135 x0 M27
            else
              f_X11_pair_135 x0 M22
          else
            some ((-2 : Int32), M4)

def f_X11_pair (x0 : Nat) (x1 : Int32) (x2 : Int32) (x3 : Int32) (x4 : Int32) (M : MM) : Option (Int32 × MM) := if isO 11 x0 M = true then f_X11_pair_0 x0 x1 x2 x3 x4 M else none
set_option maxRecDepth 4000 in
theorem L_X11_pair_163 {G : Gx} (X : Cb G cX11_pair 6 RX11 (RM 5 0 0) false) (Y : Cr G (some .int) 0 0) (x0 : Nat) (M : MM) : V G trI 6 0 0 163 [(0, .ref x0)] [] M (f_X11_pair_163 x0 M) := by
  unfold f_X11_pair_163
  refine v_aload_n X 164 0 dX11_pair_163 rfl rfl ?_
  refine v_getR X 167 fl_X11_33.r dX11_pair_164 rfl (fun v1 => ?_)
  refine v_aload_n X 168 0 dX11_pair_167 rfl rfl ?_
  refine v_getR X 171 fl_X11_37.r dX11_pair_168 rfl (fun v2 => ?_)
  refine v_vV X 174 cv_X5_copy ml_X11_156 (n1 := 1) rfl [.ref v2] rfl rfl rfl dX11_pair_171 rfl (fun M1 h => c_X5_copy _ _ _ _ _ h) (fun M3 => ?_)
  refine v_bipush X 176 dX11_pair_174 bk_m2 rfl ?_
  exact v_iret X Y (Nat.le_refl _) (Nat.le_refl _) dX11_pair_176
set_option maxRecDepth 4000 in
theorem L_X11_pair_136 {G : Gx} (X : Cb G cX11_pair 6 RX11 (RM 5 0 0) false) (Y : Cr G (some .int) 0 0) (x0 : Nat) (s0 : Int32) (M : MM) : V G trI 6 0 0 136 [(0, .ref x0)] [.int s0] M (f_X11_pair_136 x0 s0 M) := by
  unfold f_X11_pair_136
  refine v_istore (lv' := [(0, .ref x0), (5, .int s0)]) X 138 dX11_pair_136 (by decide) rfl rfl ?_
  refine v_iload X 140 1 dX11_pair_138 rfl rfl ?_
  refine v_ifeq X 143 163 dX11_pair_140 rfl rfl ?_ ?_
  · exact v_sb [0] (L_X11_pair_163 X Y _ _) rfl
  · refine v_aload_n X 144 0 dX11_pair_143 rfl rfl ?_
    refine v_getR X 147 fl_X11_45.r dX11_pair_144 rfl (fun v1 => ?_)
    refine v_getR X 150 fl_X11_254 dX11_pair_147 rfl (fun v2 => ?_)
    refine v_aload_n X 151 0 dX11_pair_150 rfl rfl ?_
    refine v_getR X 154 fl_X11_49.r dX11_pair_151 rfl (fun v3 => ?_)
    refine v_getR X 157 fl_X11_254 dX11_pair_154 rfl (fun v4 => ?_)
    refine v_vI X 160 cv_X2_hasMoreThan ml_X11_258 (n1 := 1) rfl [.ref v4] rfl rfl rfl dX11_pair_157 rfl (fun r M1 h => c_X2_hasMoreThan _ _ _ _ _ _ h) (fun r6 M5 => ?_)
    refine v_ifeq X 163 177 dX11_pair_160 rfl rfl ?_ ?_
    · refine v_aload_n X 178 0 dX11_pair_177 rfl rfl ?_
      refine v_aload_n X 179 0 dX11_pair_178 rfl rfl ?_
      refine v_getR X 182 fl_X11_33.r dX11_pair_179 rfl (fun v7 => ?_)
      refine v_getI X 185 fl_X11_143.r dX11_pair_182 rfl (fun v8 => ?_)
      refine v_vI X 188 cv_X11_remember ml_X11_248 (n1 := 3) rfl [.int v8] rfl rfl rfl dX11_pair_185 rfl (fun r M1 h => c_X11_remember _ _ _ _ _ _ h) (fun r10 M9 => ?_)
      exact v_iret X Y (Nat.le_refl _) (Nat.le_refl _) dX11_pair_188
    · exact v_sb [0] (L_X11_pair_163 X Y _ _) rfl
set_option maxRecDepth 4000 in
theorem L_X11_pair_135 {G : Gx} (X : Cb G cX11_pair 6 RX11 (RM 5 0 0) false) (Y : Cr G (some .int) 0 0) (x0 : Nat) (M : MM) : V G trI 6 0 0 135 [(0, .ref x0)] [] M (f_X11_pair_135 x0 M) := by
  unfold f_X11_pair_135
  refine v_iconst X 136 dX11_pair_135 ik_0 rfl ?_
  exact L_X11_pair_136 X Y _ _ _
set_option maxRecDepth 4000 in
theorem L_X11_pair_0 {G : Gx} (X : Cb G cX11_pair 6 RX11 (RM 5 0 0) false) (Y : Cr G (some .int) 0 0) (x0 : Nat) (x1 : Int32) (x2 : Int32) (x3 : Int32) (x4 : Int32) (M : MM) : V G trI 6 0 0 0 [(0, .ref x0), (1, .int x1), (2, .int x2), (3, .int x3), (4, .int x4)] [] M (f_X11_pair_0 x0 x1 x2 x3 x4 M) := by
  unfold f_X11_pair_0
  refine v_iload_n X 1 1 dX11_pair_0 rfl rfl ?_
  refine v_iload_n X 2 2 dX11_pair_1 rfl rfl ?_
  refine v_iceq X 5 27 dX11_pair_2 rfl rfl ?_ ?_
  · refine v_iconst X 28 dX11_pair_27 ik_m1 rfl ?_
    exact v_iret X Y (Nat.le_refl _) (Nat.le_refl _) dX11_pair_28
  · refine v_aload_n X 6 0 dX11_pair_5 rfl rfl ?_
    refine v_iload_n X 7 1 dX11_pair_6 rfl rfl ?_
    refine v_iload_n X 8 3 dX11_pair_7 rfl rfl ?_
    refine v_iload X 10 4 dX11_pair_8 rfl rfl ?_
    refine v_vI X 13 cv_X11_canBeAsked ml_X11_237 (n1 := 2) rfl [.int x1, .int x3, .int x4] rfl rfl rfl dX11_pair_10 rfl (fun r M1 h => c_X11_canBeAsked _ _ _ _ _ _ _ _ h) (fun r2 M1 => ?_)
    refine v_ifeq X 16 27 dX11_pair_13 rfl rfl ?_ ?_
    · refine v_iconst X 28 dX11_pair_27 ik_m1 rfl ?_
      exact v_iret X Y (Nat.le_refl _) (Nat.le_refl _) dX11_pair_28
    · refine v_aload_n X 17 0 dX11_pair_16 rfl rfl ?_
      refine v_getR X 20 fl_X11_26.r dX11_pair_17 rfl (fun v3 => ?_)
      refine v_iload_n X 21 2 dX11_pair_20 rfl rfl ?_
      refine v_vI X 24 cv_X9_hasPerson ml_X11_117 (n1 := 1) rfl [.int x2] rfl rfl rfl dX11_pair_21 rfl (fun r M1 h => c_X9_hasPerson _ _ _ _ _ _ h) (fun r5 M4 => ?_)
      refine v_ifne X 27 29 dX11_pair_24 rfl rfl ?_ ?_
      · refine v_aload_n X 30 0 dX11_pair_29 rfl rfl ?_
        refine v_getR X 33 fl_X11_33.r dX11_pair_30 rfl (fun v6 => ?_)
        refine v_getI X 36 fl_X11_143.r dX11_pair_33 rfl (fun v7 => ?_)
        refine v_iconst X 37 dX11_pair_36 ik_2 rfl ?_
        refine v_iadd X 38 dX11_pair_37 rfl ?_
        refine v_bipush X 40 dX11_pair_38 bk_12 rfl ?_
        refine v_icle X 43 46 dX11_pair_40 rfl rfl ?_ ?_
        · refine v_aload_n X 47 0 dX11_pair_46 rfl rfl ?_
          refine v_getR X 50 fl_X11_37.r dX11_pair_47 rfl (fun v8 => ?_)
          refine v_aload_n X 51 0 dX11_pair_50 rfl rfl ?_
          refine v_getR X 54 fl_X11_33.r dX11_pair_51 rfl (fun v9 => ?_)
          refine v_vV X 57 cv_X5_copy ml_X11_156 (n1 := 1) rfl [.ref v9] rfl rfl rfl dX11_pair_54 rfl (fun M1 h => c_X5_copy _ _ _ _ _ h) (fun M10 => ?_)
          refine v_aload_n X 58 0 dX11_pair_57 rfl rfl ?_
          refine v_getR X 61 fl_X11_49.r dX11_pair_58 rfl (fun v11 => ?_)
          refine v_vV X 64 cv_X1_look ml_X11_162 (n1 := 3) rfl [] rfl rfl rfl dX11_pair_61 rfl (fun M1 h => c_X1_look _ _ _ _ h) (fun M12 => ?_)
          refine v_aload_n X 65 0 dX11_pair_64 rfl rfl ?_
          refine v_getR X 68 fl_X11_33.r dX11_pair_65 rfl (fun v13 => ?_)
          refine v_iload_n X 69 1 dX11_pair_68 rfl rfl ?_
          refine v_iload_n X 70 3 dX11_pair_69 rfl rfl ?_
          refine v_iload X 72 4 dX11_pair_70 rfl rfl ?_
          refine v_vV X 75 cv_X5_add ml_X11_251 (n1 := 1) rfl [.int x1, .int x3, .int x4] rfl rfl rfl dX11_pair_72 rfl (fun M1 h => c_X5_add _ _ _ _ _ _ _ h) (fun M14 => ?_)
          refine v_aload_n X 76 0 dX11_pair_75 rfl rfl ?_
          refine v_getR X 79 fl_X11_33.r dX11_pair_76 rfl (fun v15 => ?_)
          refine v_iload_n X 80 2 dX11_pair_79 rfl rfl ?_
          refine v_iload_n X 81 3 dX11_pair_80 rfl rfl ?_
          refine v_iload X 83 4 dX11_pair_81 rfl rfl ?_
          refine v_vV X 86 cv_X5_add ml_X11_251 (n1 := 1) rfl [.int x2, .int x3, .int x4] rfl rfl rfl dX11_pair_83 rfl (fun M1 h => c_X5_add _ _ _ _ _ _ _ h) (fun M16 => ?_)
          refine v_aload_n X 87 0 dX11_pair_86 rfl rfl ?_
          refine v_getR X 90 fl_X11_45.r dX11_pair_87 rfl (fun v17 => ?_)
          refine v_vV X 93 cv_X1_look ml_X11_162 (n1 := 3) rfl [] rfl rfl rfl dX11_pair_90 rfl (fun M1 h => c_X1_look _ _ _ _ h) (fun M18 => ?_)
          refine v_aload_n X 94 0 dX11_pair_93 rfl rfl ?_
          refine v_getR X 97 fl_X11_45.r dX11_pair_94 rfl (fun v19 => ?_)
          refine v_aload_n X 98 0 dX11_pair_97 rfl rfl ?_
          refine v_getR X 101 fl_X11_33.r dX11_pair_98 rfl (fun v20 => ?_)
          refine v_getI X 104 fl_X11_143.r dX11_pair_101 rfl (fun v21 => ?_)
          refine v_iconst X 105 dX11_pair_104 ik_2 rfl ?_
          refine v_isub X 106 dX11_pair_105 rfl ?_
          refine v_vI X 109 cv_X1_brokenBy ml_X11_226 (n1 := 4) rfl [.int (v21 - (2 : Int32))] rfl rfl rfl dX11_pair_106 rfl (fun r M1 h => c_X1_brokenBy _ _ _ _ _ _ h) (fun r23 M22 => ?_)
          refine v_ifne X 112 135 dX11_pair_109 rfl rfl ?_ ?_
          · exact v_sb [0] (L_X11_pair_135 X Y _ _) rfl
          · refine v_aload_n X 113 0 dX11_pair_112 rfl rfl ?_
            refine v_getR X 116 fl_X11_45.r dX11_pair_113 rfl (fun v24 => ?_)
            refine v_aload_n X 117 0 dX11_pair_116 rfl rfl ?_
            refine v_getR X 120 fl_X11_33.r dX11_pair_117 rfl (fun v25 => ?_)
            refine v_getI X 123 fl_X11_143.r dX11_pair_120 rfl (fun v26 => ?_)
            refine v_iconst X 124 dX11_pair_123 ik_1 rfl ?_
            refine v_isub X 125 dX11_pair_124 rfl ?_
            refine v_vI X 128 cv_X1_brokenBy ml_X11_226 (n1 := 4) rfl [.int (v26 - (1 : Int32))] rfl rfl rfl dX11_pair_125 rfl (fun r M1 h => c_X1_brokenBy _ _ _ _ _ _ h) (fun r28 M27 => ?_)
            refine v_ifne X 131 135 dX11_pair_128 rfl rfl ?_ ?_
            · exact v_sb [0] (L_X11_pair_135 X Y _ _) rfl
            · refine v_iconst X 132 dX11_pair_131 ik_1 rfl ?_
              refine v_goto X 136 dX11_pair_132 rfl ?_
              exact v_sb [0] (L_X11_pair_136 X Y _ _ _) rfl
        · refine v_bipush X 45 dX11_pair_43 bk_m2 rfl ?_
          exact v_iret X Y (Nat.le_refl _) (Nat.le_refl _) dX11_pair_45
      · refine v_iconst X 28 dX11_pair_27 ik_m1 rfl ?_
        exact v_iret X Y (Nat.le_refl _) (Nat.le_refl _) dX11_pair_28
theorem c_X11_pair (l : Launch) (x0 : Nat) (x1 : Int32) (x2 : Int32) (x3 : Int32) (x4 : Int32) (M : MM) (r : Int32) (M1 : MM) (h : f_X11_pair x0 x1 x2 x3 x4 M = some (r, M1)) : KV l yX11_pair cX11_pair 6 (some .int) (RM 5 0 0) false 11 x0 [.int x1, .int x2, .int x3, .int x4] M (some (.int r)) M1 := by
  obtain ⟨hO, h2⟩ := iteO_some h
  exact ⟨hO, ct_of (tr := trI) (by decide) (Nat.le_of_ble_eq_true rfl) [(0, .ref x0), (1, .int x1), (2, .int x2), (3, .int x3), (4, .int x4)] rfl h2 (fun G X Y hn hl => L_X11_pair_0 X Y x0 x1 x2 x3 x4 M)⟩

def f_X11_takeOut_0 (x0 : Nat) (x1 : Int32) (M : MM) : Option (Int32 × MM) :=
    b1 (gR 11 3 x0 M) fun v1 =>
    b2 (f_X5_has v1 x1 M) fun r3 M2 =>
    if r3 = 0 then
      some ((-1 : Int32), M2)
    else
      b1 (gR 11 3 x0 M2) fun v4 =>
      b1 (f_X5_remove v4 x1 M2) fun M5 =>
      b1 (gR 11 3 x0 M5) fun v6 =>
      b1 (gI 5 1 v6 M5) fun v7 =>
      some (v7, M5)

def f_X11_takeOut (x0 : Nat) (x1 : Int32) (M : MM) : Option (Int32 × MM) := if isO 11 x0 M = true then f_X11_takeOut_0 x0 x1 M else none
set_option maxRecDepth 4000 in
theorem L_X11_takeOut_0 {G : Gx} (X : Cb G cX11_takeOut 2 RX11 (RM 3 0 0) false) (Y : Cr G (some .int) 0 0) (x0 : Nat) (x1 : Int32) (M : MM) : V G trI 2 0 0 0 [(0, .ref x0), (1, .int x1)] [] M (f_X11_takeOut_0 x0 x1 M) := by
  unfold f_X11_takeOut_0
  refine v_aload_n X 1 0 dX11_takeOut_0 rfl rfl ?_
  refine v_getR X 4 fl_X11_33.r dX11_takeOut_1 rfl (fun v1 => ?_)
  refine v_iload_n X 5 1 dX11_takeOut_4 rfl rfl ?_
  refine v_vI X 8 cv_X5_has ml_X11_208 (n1 := 1) rfl [.int x1] rfl rfl rfl dX11_takeOut_5 rfl (fun r M1 h => c_X5_has _ _ _ _ _ _ h) (fun r3 M2 => ?_)
  refine v_ifne X 11 13 dX11_takeOut_8 rfl rfl ?_ ?_
  · refine v_aload_n X 14 0 dX11_takeOut_13 rfl rfl ?_
    refine v_getR X 17 fl_X11_33.r dX11_takeOut_14 rfl (fun v4 => ?_)
    refine v_iload_n X 18 1 dX11_takeOut_17 rfl rfl ?_
    refine v_vV X 21 cv_X5_remove ml_X11_467 (n1 := 2) rfl [.int x1] rfl rfl rfl dX11_takeOut_18 rfl (fun M1 h => c_X5_remove _ _ _ _ _ h) (fun M5 => ?_)
    refine v_aload_n X 22 0 dX11_takeOut_21 rfl rfl ?_
    refine v_getR X 25 fl_X11_33.r dX11_takeOut_22 rfl (fun v6 => ?_)
    refine v_getI X 28 fl_X11_143.r dX11_takeOut_25 rfl (fun v7 => ?_)
    exact v_iret X Y (Nat.le_refl _) (Nat.le_refl _) dX11_takeOut_28
  · refine v_iconst X 12 dX11_takeOut_11 ik_m1 rfl ?_
    exact v_iret X Y (Nat.le_refl _) (Nat.le_refl _) dX11_takeOut_12
theorem c_X11_takeOut (l : Launch) (x0 : Nat) (x1 : Int32) (M : MM) (r : Int32) (M1 : MM) (h : f_X11_takeOut x0 x1 M = some (r, M1)) : KV l yX11_takeOut cX11_takeOut 2 (some .int) (RM 3 0 0) false 11 x0 [.int x1] M (some (.int r)) M1 := by
  obtain ⟨hO, h2⟩ := iteO_some h
  exact ⟨hO, ct_of (tr := trI) (by decide) (Nat.le_of_ble_eq_true rfl) [(0, .ref x0), (1, .int x1)] rfl h2 (fun G X Y hn hl => L_X11_takeOut_0 X Y x0 x1 M)⟩

def f_X11_strike_0 (x0 : Nat) (x1 : Int32) (M : MM) : Option (Int32 × MM) :=
    b1 (gR 11 4 x0 M) fun v1 =>
    b1 (gR 11 3 x0 M) fun v2 =>
    b1 (f_X5_copy v1 v2 M) fun M3 =>
    b2 (f_X11_takeOut x0 x1 M3) fun r5 M4 =>
    b2 (f_X11_remember x0 r5 M4) fun r7 M6 =>
    some (r7, M6)

def f_X11_strike (x0 : Nat) (x1 : Int32) (M : MM) : Option (Int32 × MM) := if isO 11 x0 M = true then f_X11_strike_0 x0 x1 M else none
set_option maxRecDepth 4000 in
theorem L_X11_strike_0 {G : Gx} (X : Cb G cX11_strike 2 RX11 (RM 4 0 0) false) (Y : Cr G (some .int) 0 0) (x0 : Nat) (x1 : Int32) (M : MM) : V G trI 2 0 0 0 [(0, .ref x0), (1, .int x1)] [] M (f_X11_strike_0 x0 x1 M) := by
  unfold f_X11_strike_0
  refine v_aload_n X 1 0 dX11_strike_0 rfl rfl ?_
  refine v_getR X 4 fl_X11_37.r dX11_strike_1 rfl (fun v1 => ?_)
  refine v_aload_n X 5 0 dX11_strike_4 rfl rfl ?_
  refine v_getR X 8 fl_X11_33.r dX11_strike_5 rfl (fun v2 => ?_)
  refine v_vV X 11 cv_X5_copy ml_X11_156 (n1 := 1) rfl [.ref v2] rfl rfl rfl dX11_strike_8 rfl (fun M1 h => c_X5_copy _ _ _ _ _ h) (fun M3 => ?_)
  refine v_aload_n X 12 0 dX11_strike_11 rfl rfl ?_
  refine v_aload_n X 13 0 dX11_strike_12 rfl rfl ?_
  refine v_iload_n X 14 1 dX11_strike_13 rfl rfl ?_
  refine v_vI X 17 cv_X11_takeOut ml_X11_264 (n1 := 3) rfl [.int x1] rfl rfl rfl dX11_strike_14 rfl (fun r M1 h => c_X11_takeOut _ _ _ _ _ _ h) (fun r5 M4 => ?_)
  refine v_vI X 20 cv_X11_remember ml_X11_248 (n1 := 3) rfl [.int r5] rfl rfl rfl dX11_strike_17 rfl (fun r M1 h => c_X11_remember _ _ _ _ _ _ h) (fun r7 M6 => ?_)
  exact v_iret X Y (Nat.le_refl _) (Nat.le_refl _) dX11_strike_20
theorem c_X11_strike (l : Launch) (x0 : Nat) (x1 : Int32) (M : MM) (r : Int32) (M1 : MM) (h : f_X11_strike x0 x1 M = some (r, M1)) : KV l yX11_strike cX11_strike 2 (some .int) (RM 4 0 0) false 11 x0 [.int x1] M (some (.int r)) M1 := by
  obtain ⟨hO, h2⟩ := iteO_some h
  exact ⟨hO, ct_of (tr := trI) (by decide) (Nat.le_of_ble_eq_true rfl) [(0, .ref x0), (1, .int x1)] rfl h2 (fun G X Y hn hl => L_X11_strike_0 X Y x0 x1 M)⟩

def f_X11_moveBy_0 (x0 : Nat) (x1 : Int32) (x2 : Int32) (M : MM) : Option (Int32 × MM) :=
    b1 (gR 11 3 x0 M) fun v1 =>
    b2 (f_X5_has v1 x1 M) fun r3 M2 =>
    if r3 = 0 then
      some ((-1 : Int32), M2)
    else
      if x2 < (-99 : Int32) then
        some ((-1 : Int32), M2)
      else
        if x2 ≤ (99 : Int32) then
          b1 (gR 11 3 x0 M2) fun v4 =>
          b2 (f_X5_first v4 x1 M2) fun r6 M5 =>
          bn (r6 + x2 : Int32) fun y7 =>
          if y7 < 0 then
            some ((-2 : Int32), M5)
          else
            if y7 ≤ (99 : Int32) then
              b1 (gR 11 3 x0 M5) fun v8 =>
              b1 (f_X5_begin v8 x1 y7 M5) fun M9 =>
              b1 (gR 11 5 x0 M9) fun v10 =>
              b2 (f_X1_brokenBy v10 x1 M9) fun r12 M11 =>
              if r12 = 0 then
                some (y7, M11)
              else
                b1 (gR 11 3 x0 M11) fun v13 =>
                b1 (f_X5_begin v13 x1 r6 M11) fun M14 =>
                some ((-2 : Int32), M14)
            else
              some ((-2 : Int32), M5)
        else
          some ((-1 : Int32), M2)

def f_X11_moveBy (x0 : Nat) (x1 : Int32) (x2 : Int32) (M : MM) : Option (Int32 × MM) := if isO 11 x0 M = true then f_X11_moveBy_0 x0 x1 x2 M else none
set_option maxRecDepth 4000 in
theorem L_X11_moveBy_0 {G : Gx} (X : Cb G cX11_moveBy 5 RX11 (RM 5 0 0) false) (Y : Cr G (some .int) 0 0) (x0 : Nat) (x1 : Int32) (x2 : Int32) (M : MM) : V G trI 5 0 0 0 [(0, .ref x0), (1, .int x1), (2, .int x2)] [] M (f_X11_moveBy_0 x0 x1 x2 M) := by
  unfold f_X11_moveBy_0
  refine v_aload_n X 1 0 dX11_moveBy_0 rfl rfl ?_
  refine v_getR X 4 fl_X11_33.r dX11_moveBy_1 rfl (fun v1 => ?_)
  refine v_iload_n X 5 1 dX11_moveBy_4 rfl rfl ?_
  refine v_vI X 8 cv_X5_has ml_X11_208 (n1 := 1) rfl [.int x1] rfl rfl rfl dX11_moveBy_5 rfl (fun r M1 h => c_X5_has _ _ _ _ _ _ h) (fun r3 M2 => ?_)
  refine v_ifeq X 11 23 dX11_moveBy_8 rfl rfl ?_ ?_
  · refine v_iconst X 24 dX11_moveBy_23 ik_m1 rfl ?_
    exact v_iret X Y (Nat.le_refl _) (Nat.le_refl _) dX11_moveBy_24
  · refine v_iload_n X 12 2 dX11_moveBy_11 rfl rfl ?_
    refine v_bipush X 14 dX11_moveBy_12 bk_m99 rfl ?_
    refine v_iclt X 17 23 dX11_moveBy_14 rfl rfl ?_ ?_
    · refine v_iconst X 24 dX11_moveBy_23 ik_m1 rfl ?_
      exact v_iret X Y (Nat.le_refl _) (Nat.le_refl _) dX11_moveBy_24
    · refine v_iload_n X 18 2 dX11_moveBy_17 rfl rfl ?_
      refine v_bipush X 20 dX11_moveBy_18 bk_99 rfl ?_
      refine v_icle X 23 25 dX11_moveBy_20 rfl rfl ?_ ?_
      · refine v_aload_n X 26 0 dX11_moveBy_25 rfl rfl ?_
        refine v_getR X 29 fl_X11_33.r dX11_moveBy_26 rfl (fun v4 => ?_)
        refine v_iload_n X 30 1 dX11_moveBy_29 rfl rfl ?_
        refine v_vI X 33 cv_X5_first ml_X11_217 (n1 := 1) rfl [.int x1] rfl rfl rfl dX11_moveBy_30 rfl (fun r M1 h => c_X5_first _ _ _ _ _ _ h) (fun r6 M5 => ?_)
        refine v_istore_n (lv' := [(0, .ref x0), (1, .int x1), (2, .int x2), (3, .int r6)]) X 34 dX11_moveBy_33 (by decide) rfl rfl ?_
        refine v_iload_n X 35 3 dX11_moveBy_34 rfl rfl ?_
        refine v_iload_n X 36 2 dX11_moveBy_35 rfl rfl ?_
        refine v_iadd X 37 dX11_moveBy_36 rfl ?_
        refine v_bnI (fun y7 => ?_)
        refine v_istore (lv' := [(0, .ref x0), (1, .int x1), (2, .int x2), (3, .int r6), (4, .int y7)]) X 39 dX11_moveBy_37 (by decide) rfl rfl ?_
        refine v_iload X 41 4 dX11_moveBy_39 rfl rfl ?_
        refine v_iflt X 44 51 dX11_moveBy_41 rfl rfl ?_ ?_
        · refine v_bipush X 53 dX11_moveBy_51 bk_m2 rfl ?_
          exact v_iret X Y (Nat.le_refl _) (Nat.le_refl _) dX11_moveBy_53
        · refine v_iload X 46 4 dX11_moveBy_44 rfl rfl ?_
          refine v_bipush X 48 dX11_moveBy_46 bk_99 rfl ?_
          refine v_icle X 51 54 dX11_moveBy_48 rfl rfl ?_ ?_
          · refine v_aload_n X 55 0 dX11_moveBy_54 rfl rfl ?_
            refine v_getR X 58 fl_X11_33.r dX11_moveBy_55 rfl (fun v8 => ?_)
            refine v_iload_n X 59 1 dX11_moveBy_58 rfl rfl ?_
            refine v_iload X 61 4 dX11_moveBy_59 rfl rfl ?_
            refine v_vV X 64 cv_X5_begin ml_X11_470 (n1 := 2) rfl [.int x1, .int y7] rfl rfl rfl dX11_moveBy_61 rfl (fun M1 h => c_X5_begin _ _ _ _ _ _ h) (fun M9 => ?_)
            refine v_aload_n X 65 0 dX11_moveBy_64 rfl rfl ?_
            refine v_getR X 68 fl_X11_45.r dX11_moveBy_65 rfl (fun v10 => ?_)
            refine v_iload_n X 69 1 dX11_moveBy_68 rfl rfl ?_
            refine v_vI X 72 cv_X1_brokenBy ml_X11_226 (n1 := 4) rfl [.int x1] rfl rfl rfl dX11_moveBy_69 rfl (fun r M1 h => c_X1_brokenBy _ _ _ _ _ _ h) (fun r12 M11 => ?_)
            refine v_ifeq X 75 87 dX11_moveBy_72 rfl rfl ?_ ?_
            · refine v_iload X 89 4 dX11_moveBy_87 rfl rfl ?_
              exact v_iret X Y (Nat.le_refl _) (Nat.le_refl _) dX11_moveBy_89
            · refine v_aload_n X 76 0 dX11_moveBy_75 rfl rfl ?_
              refine v_getR X 79 fl_X11_33.r dX11_moveBy_76 rfl (fun v13 => ?_)
              refine v_iload_n X 80 1 dX11_moveBy_79 rfl rfl ?_
              refine v_iload_n X 81 3 dX11_moveBy_80 rfl rfl ?_
              refine v_vV X 84 cv_X5_begin ml_X11_470 (n1 := 2) rfl [.int x1, .int r6] rfl rfl rfl dX11_moveBy_81 rfl (fun M1 h => c_X5_begin _ _ _ _ _ _ h) (fun M14 => ?_)
              refine v_bipush X 86 dX11_moveBy_84 bk_m2 rfl ?_
              exact v_iret X Y (Nat.le_refl _) (Nat.le_refl _) dX11_moveBy_86
          · refine v_bipush X 53 dX11_moveBy_51 bk_m2 rfl ?_
            exact v_iret X Y (Nat.le_refl _) (Nat.le_refl _) dX11_moveBy_53
      · refine v_iconst X 24 dX11_moveBy_23 ik_m1 rfl ?_
        exact v_iret X Y (Nat.le_refl _) (Nat.le_refl _) dX11_moveBy_24
theorem c_X11_moveBy (l : Launch) (x0 : Nat) (x1 : Int32) (x2 : Int32) (M : MM) (r : Int32) (M1 : MM) (h : f_X11_moveBy x0 x1 x2 M = some (r, M1)) : KV l yX11_moveBy cX11_moveBy 5 (some .int) (RM 5 0 0) false 11 x0 [.int x1, .int x2] M (some (.int r)) M1 := by
  obtain ⟨hO, h2⟩ := iteO_some h
  exact ⟨hO, ct_of (tr := trI) (by decide) (Nat.le_of_ble_eq_true rfl) [(0, .ref x0), (1, .int x1), (2, .int x2)] rfl h2 (fun G X Y hn hl => L_X11_moveBy_0 X Y x0 x1 x2 M)⟩

def f_X11_shift_0 (x0 : Nat) (x1 : Int32) (x2 : Int32) (M : MM) : Option (Int32 × MM) :=
    b1 (gR 11 4 x0 M) fun v1 =>
    b1 (gR 11 3 x0 M) fun v2 =>
    b1 (f_X5_copy v1 v2 M) fun M3 =>
    b2 (f_X11_moveBy x0 x1 x2 M3) fun r5 M4 =>
    b2 (f_X11_remember x0 r5 M4) fun r7 M6 =>
    some (r7, M6)

def f_X11_shift (x0 : Nat) (x1 : Int32) (x2 : Int32) (M : MM) : Option (Int32 × MM) := if isO 11 x0 M = true then f_X11_shift_0 x0 x1 x2 M else none
set_option maxRecDepth 4000 in
theorem L_X11_shift_0 {G : Gx} (X : Cb G cX11_shift 3 RX11 (RM 6 0 0) false) (Y : Cr G (some .int) 0 0) (x0 : Nat) (x1 : Int32) (x2 : Int32) (M : MM) : V G trI 3 0 0 0 [(0, .ref x0), (1, .int x1), (2, .int x2)] [] M (f_X11_shift_0 x0 x1 x2 M) := by
  unfold f_X11_shift_0
  refine v_aload_n X 1 0 dX11_shift_0 rfl rfl ?_
  refine v_getR X 4 fl_X11_37.r dX11_shift_1 rfl (fun v1 => ?_)
  refine v_aload_n X 5 0 dX11_shift_4 rfl rfl ?_
  refine v_getR X 8 fl_X11_33.r dX11_shift_5 rfl (fun v2 => ?_)
  refine v_vV X 11 cv_X5_copy ml_X11_156 (n1 := 1) rfl [.ref v2] rfl rfl rfl dX11_shift_8 rfl (fun M1 h => c_X5_copy _ _ _ _ _ h) (fun M3 => ?_)
  refine v_aload_n X 12 0 dX11_shift_11 rfl rfl ?_
  refine v_aload_n X 13 0 dX11_shift_12 rfl rfl ?_
  refine v_iload_n X 14 1 dX11_shift_13 rfl rfl ?_
  refine v_iload_n X 15 2 dX11_shift_14 rfl rfl ?_
  refine v_vI X 18 cv_X11_moveBy ml_X11_267 (n1 := 5) rfl [.int x1, .int x2] rfl rfl rfl dX11_shift_15 rfl (fun r M1 h => c_X11_moveBy _ _ _ _ _ _ _ h) (fun r5 M4 => ?_)
  refine v_vI X 21 cv_X11_remember ml_X11_248 (n1 := 3) rfl [.int r5] rfl rfl rfl dX11_shift_18 rfl (fun r M1 h => c_X11_remember _ _ _ _ _ _ h) (fun r7 M6 => ?_)
  exact v_iret X Y (Nat.le_refl _) (Nat.le_refl _) dX11_shift_21
theorem c_X11_shift (l : Launch) (x0 : Nat) (x1 : Int32) (x2 : Int32) (M : MM) (r : Int32) (M1 : MM) (h : f_X11_shift x0 x1 x2 M = some (r, M1)) : KV l yX11_shift cX11_shift 3 (some .int) (RM 6 0 0) false 11 x0 [.int x1, .int x2] M (some (.int r)) M1 := by
  obtain ⟨hO, h2⟩ := iteO_some h
  exact ⟨hO, ct_of (tr := trI) (by decide) (Nat.le_of_ble_eq_true rfl) [(0, .ref x0), (1, .int x1), (2, .int x2)] rfl h2 (fun G X Y hn hl => L_X11_shift_0 X Y x0 x1 x2 M)⟩

def f_X11_doAct_0 (x0 : Nat) (M : MM) : Option (Int32 × MM) :=
    b1 (gR 11 12 x0 M) fun v1 =>
    b1 (ldI v1 (0 : Int32) M) fun v2 =>
    if v2 = 103 then
      b1 (gR 11 12 x0 M) fun v3 =>
      b1 (ldI v3 (1 : Int32) M) fun v4 =>
      b1 (gR 11 12 x0 M) fun v5 =>
      b1 (ldI v5 (2 : Int32) M) fun v6 =>
      b1 (gR 11 12 x0 M) fun v7 =>
      b1 (ldI v7 (3 : Int32) M) fun v8 =>
      b2 (f_X11_putIn x0 v4 v6 v8 M) fun r10 M9 =>
      some (r10, M9)
    else
    if v2 = 120 then
      b1 (gR 11 12 x0 M) fun v11 =>
      b1 (ldI v11 (1 : Int32) M) fun v12 =>
      b2 (f_X11_takeOut x0 v12 M) fun r14 M13 =>
      some (r14, M13)
    else
      b1 (gR 11 12 x0 M) fun v15 =>
      b1 (ldI v15 (1 : Int32) M) fun v16 =>
      b1 (gR 11 12 x0 M) fun v17 =>
      b1 (ldI v17 (2 : Int32) M) fun v18 =>
      b2 (f_X11_moveBy x0 v16 v18 M) fun r20 M19 =>
      some (r20, M19)

def f_X11_doAct (x0 : Nat) (M : MM) : Option (Int32 × MM) := if isO 11 x0 M = true then f_X11_doAct_0 x0 M else none
set_option maxRecDepth 4000 in
theorem L_X11_doAct_0 {G : Gx} (X : Cb G cX11_doAct 1 RX11 (RM 6 0 0) false) (Y : Cr G (some .int) 0 0) (x0 : Nat) (M : MM) : V G trI 1 0 0 0 [(0, .ref x0)] [] M (f_X11_doAct_0 x0 M) := by
  unfold f_X11_doAct_0
  refine v_aload_n X 1 0 dX11_doAct_0 rfl rfl ?_
  refine v_getR X 4 fl_X11_91.r dX11_doAct_1 rfl (fun v1 => ?_)
  refine v_iconst X 5 dX11_doAct_4 ik_0 rfl ?_
  refine v_iald X 6 dX11_doAct_5 rfl (fun v2 => ?_)
  refine v_ite (fun e => ?_) (fun e103 => ?_)
  · refine v_lkIn X 32 dX11_doAct_6 e rfl ?_
    refine v_aload_n X 33 0 dX11_doAct_32 rfl rfl ?_
    refine v_aload_n X 34 0 dX11_doAct_33 rfl rfl ?_
    refine v_getR X 37 fl_X11_91.r dX11_doAct_34 rfl (fun v3 => ?_)
    refine v_iconst X 38 dX11_doAct_37 ik_1 rfl ?_
    refine v_iald X 39 dX11_doAct_38 rfl (fun v4 => ?_)
    refine v_aload_n X 40 0 dX11_doAct_39 rfl rfl ?_
    refine v_getR X 43 fl_X11_91.r dX11_doAct_40 rfl (fun v5 => ?_)
    refine v_iconst X 44 dX11_doAct_43 ik_2 rfl ?_
    refine v_iald X 45 dX11_doAct_44 rfl (fun v6 => ?_)
    refine v_aload_n X 46 0 dX11_doAct_45 rfl rfl ?_
    refine v_getR X 49 fl_X11_91.r dX11_doAct_46 rfl (fun v7 => ?_)
    refine v_iconst X 50 dX11_doAct_49 ik_3 rfl ?_
    refine v_iald X 51 dX11_doAct_50 rfl (fun v8 => ?_)
    refine v_vI X 54 cv_X11_putIn ml_X11_245 (n1 := 5) rfl [.int v4, .int v6, .int v8] rfl rfl rfl dX11_doAct_51 rfl (fun r M1 h => c_X11_putIn _ _ _ _ _ _ _ _ h) (fun r10 M9 => ?_)
    exact v_iret X Y (Nat.le_refl _) (Nat.le_refl _) dX11_doAct_54
  refine v_ite (fun e => ?_) (fun e120 => ?_)
  · refine v_lkIn X 55 dX11_doAct_6 e rfl ?_
    refine v_aload_n X 56 0 dX11_doAct_55 rfl rfl ?_
    refine v_aload_n X 57 0 dX11_doAct_56 rfl rfl ?_
    refine v_getR X 60 fl_X11_91.r dX11_doAct_57 rfl (fun v11 => ?_)
    refine v_iconst X 61 dX11_doAct_60 ik_1 rfl ?_
    refine v_iald X 62 dX11_doAct_61 rfl (fun v12 => ?_)
    refine v_vI X 65 cv_X11_takeOut ml_X11_264 (n1 := 3) rfl [.int v12] rfl rfl rfl dX11_doAct_62 rfl (fun r M1 h => c_X11_takeOut _ _ _ _ _ _ h) (fun r14 M13 => ?_)
    exact v_iret X Y (Nat.le_refl _) (Nat.le_refl _) dX11_doAct_65
  refine v_lkOut X 66 dX11_doAct_6 [103, 120] ⟨e103, e120, trivial⟩ rfl rfl ?_
  refine v_aload_n X 67 0 dX11_doAct_66 rfl rfl ?_
  refine v_aload_n X 68 0 dX11_doAct_67 rfl rfl ?_
  refine v_getR X 71 fl_X11_91.r dX11_doAct_68 rfl (fun v15 => ?_)
  refine v_iconst X 72 dX11_doAct_71 ik_1 rfl ?_
  refine v_iald X 73 dX11_doAct_72 rfl (fun v16 => ?_)
  refine v_aload_n X 74 0 dX11_doAct_73 rfl rfl ?_
  refine v_getR X 77 fl_X11_91.r dX11_doAct_74 rfl (fun v17 => ?_)
  refine v_iconst X 78 dX11_doAct_77 ik_2 rfl ?_
  refine v_iald X 79 dX11_doAct_78 rfl (fun v18 => ?_)
  refine v_vI X 82 cv_X11_moveBy ml_X11_267 (n1 := 5) rfl [.int v16, .int v18] rfl rfl rfl dX11_doAct_79 rfl (fun r M1 h => c_X11_moveBy _ _ _ _ _ _ _ h) (fun r20 M19 => ?_)
  exact v_iret X Y (Nat.le_refl _) (Nat.le_refl _) dX11_doAct_82
theorem c_X11_doAct (l : Launch) (x0 : Nat) (M : MM) (r : Int32) (M1 : MM) (h : f_X11_doAct x0 M = some (r, M1)) : KV l yX11_doAct cX11_doAct 1 (some .int) (RM 6 0 0) false 11 x0 [] M (some (.int r)) M1 := by
  obtain ⟨hO, h2⟩ := iteO_some h
  exact ⟨hO, ct_of (tr := trI) (by decide) (Nat.le_of_ble_eq_true rfl) [(0, .ref x0)] rfl h2 (fun G X Y hn hl => L_X11_doAct_0 X Y x0 M)⟩

def f_X11_readShift_77 (x2 : Int32) (s0 : Int32) (s1 : Int32) (s2 : Nat) (M : MM) : Option (Int32 × MM) :=
    b1 (stI s2 s1 s0 M) fun M1 =>
    if x2 < 0 then
      rz (0 : Int32) M1
    else
      rz (1 : Int32) M1

def f_X11_readShift_53 (x0 : Nat) (x1 : Int32) (M : MM) : Option (Int32 × MM) :=
    b1 (gR 11 0 x0 M) fun v1 =>
    b2 (f_X10_number v1 (2 : Int32) M) fun r3 M2 =>
    b1 (gR 11 12 x0 M2) fun v4 =>
    if x1 = 0 then
      f_X11_readShift_77 r3 (-r3) (2 : Int32) v4 M2
    else
      f_X11_readShift_77 r3 r3 (2 : Int32) v4 M2

def f_X11_readShift_0 (x0 : Nat) (M : MM) : Option (Int32 × MM) :=
    b1 (gR 11 12 x0 M) fun v1 =>
    b1 (gR 11 0 x0 M) fun v2 =>
    b2 (f_X10_number v2 (2 : Int32) M) fun r4 M3 =>
    b1 (stI v1 (1 : Int32) r4 M3) fun M5 =>
    b1 (gR 11 12 x0 M5) fun v6 =>
    b1 (ldI v6 (1 : Int32) M5) fun v7 =>
    if 0 ≤ v7 then
      b1 (gR 11 0 x0 M5) fun v8 =>
      b2 (f_X10_take v8 (43 : Int32) M5) fun r10 M9 =>
      if r10 = 0 then
        b1 (gR 11 0 x0 M9) fun v11 =>
        b2 (f_X10_take v11 (45 : Int32) M9) fun r13 M12 =>
        if r13 = 0 then
          rz (0 : Int32) M12
        else
          f_X11_readShift_53 x0 r10 M12
      else
        f_X11_readShift_53 x0 r10 M9
    else
      rz (0 : Int32) M5

def f_X11_readShift (x0 : Nat) (M : MM) : Option (Int32 × MM) := if isO 11 x0 M = true then f_X11_readShift_0 x0 M else none
set_option maxRecDepth 4000 in
theorem L_X11_readShift_77 {G : Gx} (X : Cb G cX11_readShift 3 RX11 (RM 3 0 0) false) (Y : Cr G (some .boolean) 0 0) (x2 : Int32) (s0 : Int32) (s1 : Int32) (s2 : Nat) (M : MM) : V G trI 3 0 0 77 [(2, .int x2)] [.int s0, .int s1, .ref s2] M (f_X11_readShift_77 x2 s0 s1 s2 M) := by
  unfold f_X11_readShift_77
  refine v_iast X 78 dX11_readShift_77 rfl (fun M1 => ?_)
  refine v_iload_n X 79 0 dX11_readShift_78 rfl rfl ?_
  refine v_iflt X 82 86 dX11_readShift_79 rfl rfl ?_ ?_
  · refine v_iconst X 87 dX11_readShift_86 ik_0 rfl ?_
    exact v_zret X Y (Nat.le_refl _) (Nat.le_refl _) dX11_readShift_87
  · refine v_iconst X 83 dX11_readShift_82 ik_1 rfl ?_
    refine v_goto X 87 dX11_readShift_83 rfl ?_
    exact v_zret X Y (Nat.le_refl _) (Nat.le_refl _) dX11_readShift_87
set_option maxRecDepth 4000 in
theorem L_X11_readShift_53 {G : Gx} (X : Cb G cX11_readShift 3 RX11 (RM 3 0 0) false) (Y : Cr G (some .boolean) 0 0) (x0 : Nat) (x1 : Int32) (M : MM) : V G trI 3 0 0 53 [(0, .ref x0), (1, .int x1)] [] M (f_X11_readShift_53 x0 x1 M) := by
  unfold f_X11_readShift_53
  refine v_aload_n X 54 0 dX11_readShift_53 rfl rfl ?_
  refine v_getR X 57 fl_X11_10.r dX11_readShift_54 rfl (fun v1 => ?_)
  refine v_iconst X 58 dX11_readShift_57 ik_2 rfl ?_
  refine v_vI X 61 cv_X10_number ml_X11_368 (n1 := 2) rfl [.int (2 : Int32)] rfl rfl rfl dX11_readShift_58 rfl (fun r M1 h => c_X10_number _ _ _ _ _ _ h) (fun r3 M2 => ?_)
  refine v_istore_n (lv' := [(0, .ref x0), (1, .int x1), (2, .int r3)]) X 62 dX11_readShift_61 (by decide) rfl rfl ?_
  refine v_aload_n X 63 0 dX11_readShift_62 rfl rfl ?_
  refine v_getR X 66 fl_X11_91.r dX11_readShift_63 rfl (fun v4 => ?_)
  refine v_iconst X 67 dX11_readShift_66 ik_2 rfl ?_
  refine v_iload_n X 68 1 dX11_readShift_67 rfl rfl ?_
  refine v_ifeq X 71 75 dX11_readShift_68 rfl rfl ?_ ?_
  · refine v_iload_n X 76 2 dX11_readShift_75 rfl rfl ?_
    refine v_ineg X 77 dX11_readShift_76 rfl ?_
    exact v_sb [2] (L_X11_readShift_77 X Y _ _ _ _ _) rfl
  · refine v_iload_n X 72 2 dX11_readShift_71 rfl rfl ?_
    refine v_goto X 77 dX11_readShift_72 rfl ?_
    exact v_sb [2] (L_X11_readShift_77 X Y _ _ _ _ _) rfl
set_option maxRecDepth 4000 in
theorem L_X11_readShift_0 {G : Gx} (X : Cb G cX11_readShift 3 RX11 (RM 3 0 0) false) (Y : Cr G (some .boolean) 0 0) (x0 : Nat) (M : MM) : V G trI 3 0 0 0 [(0, .ref x0)] [] M (f_X11_readShift_0 x0 M) := by
  unfold f_X11_readShift_0
  refine v_aload_n X 1 0 dX11_readShift_0 rfl rfl ?_
  refine v_getR X 4 fl_X11_91.r dX11_readShift_1 rfl (fun v1 => ?_)
  refine v_iconst X 5 dX11_readShift_4 ik_1 rfl ?_
  refine v_aload_n X 6 0 dX11_readShift_5 rfl rfl ?_
  refine v_getR X 9 fl_X11_10.r dX11_readShift_6 rfl (fun v2 => ?_)
  refine v_iconst X 10 dX11_readShift_9 ik_2 rfl ?_
  refine v_vI X 13 cv_X10_number ml_X11_368 (n1 := 2) rfl [.int (2 : Int32)] rfl rfl rfl dX11_readShift_10 rfl (fun r M1 h => c_X10_number _ _ _ _ _ _ h) (fun r4 M3 => ?_)
  refine v_iast X 14 dX11_readShift_13 rfl (fun M5 => ?_)
  refine v_aload_n X 15 0 dX11_readShift_14 rfl rfl ?_
  refine v_getR X 18 fl_X11_91.r dX11_readShift_15 rfl (fun v6 => ?_)
  refine v_iconst X 19 dX11_readShift_18 ik_1 rfl ?_
  refine v_iald X 20 dX11_readShift_19 rfl (fun v7 => ?_)
  refine v_ifge X 23 25 dX11_readShift_20 rfl rfl ?_ ?_
  · refine v_aload_n X 26 0 dX11_readShift_25 rfl rfl ?_
    refine v_getR X 29 fl_X11_10.r dX11_readShift_26 rfl (fun v8 => ?_)
    refine v_bipush X 31 dX11_readShift_29 bk_43 rfl ?_
    refine v_vI X 34 cv_X10_take ml_X11_276 (n1 := 2) rfl [.int (43 : Int32)] rfl rfl rfl dX11_readShift_31 rfl (fun r M1 h => c_X10_take _ _ _ _ _ _ h) (fun r10 M9 => ?_)
    refine v_istore_n (lv' := [(0, .ref x0), (1, .int r10)]) X 35 dX11_readShift_34 (by decide) rfl rfl ?_
    refine v_iload_n X 36 1 dX11_readShift_35 rfl rfl ?_
    refine v_ifne X 39 53 dX11_readShift_36 rfl rfl ?_ ?_
    · exact L_X11_readShift_53 X Y _ _ _
    · refine v_aload_n X 40 0 dX11_readShift_39 rfl rfl ?_
      refine v_getR X 43 fl_X11_10.r dX11_readShift_40 rfl (fun v11 => ?_)
      refine v_bipush X 45 dX11_readShift_43 bk_45 rfl ?_
      refine v_vI X 48 cv_X10_take ml_X11_276 (n1 := 2) rfl [.int (45 : Int32)] rfl rfl rfl dX11_readShift_45 rfl (fun r M1 h => c_X10_take _ _ _ _ _ _ h) (fun r13 M12 => ?_)
      refine v_ifne X 51 53 dX11_readShift_48 rfl rfl ?_ ?_
      · exact L_X11_readShift_53 X Y _ _ _
      · refine v_iconst X 52 dX11_readShift_51 ik_0 rfl ?_
        exact v_zret X Y (Nat.le_refl _) (Nat.le_refl _) dX11_readShift_52
  · refine v_iconst X 24 dX11_readShift_23 ik_0 rfl ?_
    exact v_zret X Y (Nat.le_refl _) (Nat.le_refl _) dX11_readShift_24
theorem c_X11_readShift (l : Launch) (x0 : Nat) (M : MM) (r : Int32) (M1 : MM) (h : f_X11_readShift x0 M = some (r, M1)) : KV l yX11_readShift cX11_readShift 3 (some .boolean) (RM 3 0 0) false 11 x0 [] M (some (.int r)) M1 := by
  obtain ⟨hO, h2⟩ := iteO_some h
  exact ⟨hO, ct_of (tr := trI) (by decide) (Nat.le_of_ble_eq_true rfl) [(0, .ref x0)] rfl h2 (fun G X Y hn hl => L_X11_readShift_0 X Y x0 M)⟩

def f_X11_readAct_103 (x0 : Nat) (s0 : Int32) (s1 : Int32) (s2 : Nat) (M : MM) : Option (Int32 × MM) :=
    b1 (stI s2 s1 s0 M) fun M1 =>
    b1 (gR 11 12 x0 M1) fun v2 =>
    b1 (ldI v2 (3 : Int32) M1) fun v3 =>
    if v3 < 0 then
      rz (0 : Int32) M1
    else
      rz (1 : Int32) M1

def f_X11_readAct_102 (x0 : Nat) (s0 : Int32) (s1 : Nat) (M : MM) : Option (Int32 × MM) :=
    f_X11_readAct_103 x0 (-1 : Int32) s0 s1 M

def f_X11_readAct_64 (x0 : Nat) (s0 : Int32) (s1 : Int32) (s2 : Nat) (M : MM) : Option (Int32 × MM) :=
    b1 (stI s2 s1 s0 M) fun M1 =>
    b1 (gR 11 12 x0 M1) fun v2 =>
    b1 (gR 11 12 x0 M1) fun v3 =>
    b1 (ldI v3 (2 : Int32) M1) fun v4 =>
    if v4 < 0 then
      f_X11_readAct_102 x0 (3 : Int32) v2 M1
    else
      b1 (gR 11 0 x0 M1) fun v5 =>
      b2 (f_X10_take v5 (64 : Int32) M1) fun r7 M6 =>
      if r7 = 0 then
        f_X11_readAct_102 x0 (3 : Int32) v2 M6
      else
        b1 (gR 11 0 x0 M6) fun v8 =>
        b2 (f_X10_number v8 (2 : Int32) M6) fun r10 M9 =>
        f_X11_readAct_103 x0 r10 (3 : Int32) v2 M9

def f_X11_readAct_0 (x0 : Nat) (M : MM) : Option (Int32 × MM) :=
    b1 (gR 11 12 x0 M) fun v1 =>
    b1 (gR 11 0 x0 M) fun v2 =>
    b2 (f_X10_peek v2 M) fun r4 M3 =>
    b1 (stI v1 (0 : Int32) r4 M3) fun M5 =>
    b1 (gR 11 0 x0 M5) fun v6 =>
    b2 (f_X10_take v6 (103 : Int32) M5) fun r8 M7 =>
    if r8 = 0 then
      b1 (gR 11 0 x0 M7) fun v9 =>
      b2 (f_X10_take v9 (120 : Int32) M7) fun r11 M10 =>
      if r11 = 0 then
        b1 (gR 11 0 x0 M10) fun v12 =>
        b2 (f_X10_take v12 (115 : Int32) M10) fun r14 M13 =>
        if r14 = 0 then
          rz (0 : Int32) M13
        else
          b2 (f_X11_readShift x0 M13) fun r16 M15 =>
          if r16 = 0 then
            rz (0 : Int32) M15
          else
            rz (1 : Int32) M15
      else
        b1 (gR 11 12 x0 M10) fun v17 =>
        b1 (gR 11 0 x0 M10) fun v18 =>
        b2 (f_X10_number v18 (2 : Int32) M10) fun r20 M19 =>
        b1 (stI v17 (1 : Int32) r20 M19) fun M21 =>
        b1 (gR 11 12 x0 M21) fun v22 =>
        b1 (ldI v22 (1 : Int32) M21) fun v23 =>
        if v23 < 0 then
          rz (0 : Int32) M21
        else
          rz (1 : Int32) M21
    else
      b1 (gR 11 12 x0 M7) fun v24 =>
      b1 (gR 11 0 x0 M7) fun v25 =>
      b2 (f_X10_letter v25 M7) fun r27 M26 =>
      b1 (stI v24 (1 : Int32) r27 M26) fun M28 =>
      b1 (gR 11 12 x0 M28) fun v29 =>
      b1 (gR 11 12 x0 M28) fun v30 =>
      b1 (ldI v30 (1 : Int32) M28) fun v31 =>
      if 0 ≤ v31 then
        b1 (gR 11 0 x0 M28) fun v32 =>
        b2 (f_X10_digit v32 (0 : Int32) M28) fun r34 M33 =>
        f_X11_readAct_64 x0 r34 (2 : Int32) v29 M33
      else
        f_X11_readAct_64 x0 (-1 : Int32) (2 : Int32) v29 M28

def f_X11_readAct (x0 : Nat) (M : MM) : Option (Int32 × MM) := if isO 11 x0 M = true then f_X11_readAct_0 x0 M else none
set_option maxRecDepth 4000 in
theorem L_X11_readAct_103 {G : Gx} (X : Cb G cX11_readAct 1 RX11 (RM 4 0 0) false) (Y : Cr G (some .boolean) 0 0) (x0 : Nat) (s0 : Int32) (s1 : Int32) (s2 : Nat) (M : MM) : V G trI 1 0 0 103 [(0, .ref x0)] [.int s0, .int s1, .ref s2] M (f_X11_readAct_103 x0 s0 s1 s2 M) := by
  unfold f_X11_readAct_103
  refine v_iast X 104 dX11_readAct_103 rfl (fun M1 => ?_)
  refine v_aload_n X 105 0 dX11_readAct_104 rfl rfl ?_
  refine v_getR X 108 fl_X11_91.r dX11_readAct_105 rfl (fun v2 => ?_)
  refine v_iconst X 109 dX11_readAct_108 ik_3 rfl ?_
  refine v_iald X 110 dX11_readAct_109 rfl (fun v3 => ?_)
  refine v_iflt X 113 117 dX11_readAct_110 rfl rfl ?_ ?_
  · refine v_iconst X 118 dX11_readAct_117 ik_0 rfl ?_
    exact v_zret X Y (Nat.le_refl _) (Nat.le_refl _) dX11_readAct_118
  · refine v_iconst X 114 dX11_readAct_113 ik_1 rfl ?_
    refine v_goto X 118 dX11_readAct_114 rfl ?_
    exact v_zret X Y (Nat.le_refl _) (Nat.le_refl _) dX11_readAct_118
set_option maxRecDepth 4000 in
theorem L_X11_readAct_102 {G : Gx} (X : Cb G cX11_readAct 1 RX11 (RM 4 0 0) false) (Y : Cr G (some .boolean) 0 0) (x0 : Nat) (s0 : Int32) (s1 : Nat) (M : MM) : V G trI 1 0 0 102 [(0, .ref x0)] [.int s0, .ref s1] M (f_X11_readAct_102 x0 s0 s1 M) := by
  unfold f_X11_readAct_102
  refine v_iconst X 103 dX11_readAct_102 ik_m1 rfl ?_
  exact L_X11_readAct_103 X Y _ _ _ _ _
set_option maxRecDepth 4000 in
theorem L_X11_readAct_64 {G : Gx} (X : Cb G cX11_readAct 1 RX11 (RM 4 0 0) false) (Y : Cr G (some .boolean) 0 0) (x0 : Nat) (s0 : Int32) (s1 : Int32) (s2 : Nat) (M : MM) : V G trI 1 0 0 64 [(0, .ref x0)] [.int s0, .int s1, .ref s2] M (f_X11_readAct_64 x0 s0 s1 s2 M) := by
  unfold f_X11_readAct_64
  refine v_iast X 65 dX11_readAct_64 rfl (fun M1 => ?_)
  refine v_aload_n X 66 0 dX11_readAct_65 rfl rfl ?_
  refine v_getR X 69 fl_X11_91.r dX11_readAct_66 rfl (fun v2 => ?_)
  refine v_iconst X 70 dX11_readAct_69 ik_3 rfl ?_
  refine v_aload_n X 71 0 dX11_readAct_70 rfl rfl ?_
  refine v_getR X 74 fl_X11_91.r dX11_readAct_71 rfl (fun v3 => ?_)
  refine v_iconst X 75 dX11_readAct_74 ik_2 rfl ?_
  refine v_iald X 76 dX11_readAct_75 rfl (fun v4 => ?_)
  refine v_iflt X 79 102 dX11_readAct_76 rfl rfl ?_ ?_
  · exact L_X11_readAct_102 X Y _ _ _ _
  · refine v_aload_n X 80 0 dX11_readAct_79 rfl rfl ?_
    refine v_getR X 83 fl_X11_10.r dX11_readAct_80 rfl (fun v5 => ?_)
    refine v_bipush X 85 dX11_readAct_83 bk_64 rfl ?_
    refine v_vI X 88 cv_X10_take ml_X11_276 (n1 := 2) rfl [.int (64 : Int32)] rfl rfl rfl dX11_readAct_85 rfl (fun r M1 h => c_X10_take _ _ _ _ _ _ h) (fun r7 M6 => ?_)
    refine v_ifeq X 91 102 dX11_readAct_88 rfl rfl ?_ ?_
    · exact L_X11_readAct_102 X Y _ _ _ _
    · refine v_aload_n X 92 0 dX11_readAct_91 rfl rfl ?_
      refine v_getR X 95 fl_X11_10.r dX11_readAct_92 rfl (fun v8 => ?_)
      refine v_iconst X 96 dX11_readAct_95 ik_2 rfl ?_
      refine v_vI X 99 cv_X10_number ml_X11_368 (n1 := 2) rfl [.int (2 : Int32)] rfl rfl rfl dX11_readAct_96 rfl (fun r M1 h => c_X10_number _ _ _ _ _ _ h) (fun r10 M9 => ?_)
      refine v_goto X 103 dX11_readAct_99 rfl ?_
      exact L_X11_readAct_103 X Y _ _ _ _ _
set_option maxRecDepth 4000 in
theorem L_X11_readAct_0 {G : Gx} (X : Cb G cX11_readAct 1 RX11 (RM 4 0 0) false) (Y : Cr G (some .boolean) 0 0) (x0 : Nat) (M : MM) : V G trI 1 0 0 0 [(0, .ref x0)] [] M (f_X11_readAct_0 x0 M) := by
  unfold f_X11_readAct_0
  refine v_aload_n X 1 0 dX11_readAct_0 rfl rfl ?_
  refine v_getR X 4 fl_X11_91.r dX11_readAct_1 rfl (fun v1 => ?_)
  refine v_iconst X 5 dX11_readAct_4 ik_0 rfl ?_
  refine v_aload_n X 6 0 dX11_readAct_5 rfl rfl ?_
  refine v_getR X 9 fl_X11_10.r dX11_readAct_6 rfl (fun v2 => ?_)
  refine v_vI X 12 cv_X10_peek ml_X11_473 (n1 := 1) rfl [] rfl rfl rfl dX11_readAct_9 rfl (fun r M1 h => c_X10_peek _ _ _ _ _ h) (fun r4 M3 => ?_)
  refine v_iast X 13 dX11_readAct_12 rfl (fun M5 => ?_)
  refine v_aload_n X 14 0 dX11_readAct_13 rfl rfl ?_
  refine v_getR X 17 fl_X11_10.r dX11_readAct_14 rfl (fun v6 => ?_)
  refine v_bipush X 19 dX11_readAct_17 bk_103 rfl ?_
  refine v_vI X 22 cv_X10_take ml_X11_276 (n1 := 2) rfl [.int (103 : Int32)] rfl rfl rfl dX11_readAct_19 rfl (fun r M1 h => c_X10_take _ _ _ _ _ _ h) (fun r8 M7 => ?_)
  refine v_ifeq X 25 119 dX11_readAct_22 rfl rfl ?_ ?_
  · refine v_aload_n X 120 0 dX11_readAct_119 rfl rfl ?_
    refine v_getR X 123 fl_X11_10.r dX11_readAct_120 rfl (fun v9 => ?_)
    refine v_bipush X 125 dX11_readAct_123 bk_120 rfl ?_
    refine v_vI X 128 cv_X10_take ml_X11_276 (n1 := 2) rfl [.int (120 : Int32)] rfl rfl rfl dX11_readAct_125 rfl (fun r M1 h => c_X10_take _ _ _ _ _ _ h) (fun r11 M10 => ?_)
    refine v_ifeq X 131 160 dX11_readAct_128 rfl rfl ?_ ?_
    · refine v_aload_n X 161 0 dX11_readAct_160 rfl rfl ?_
      refine v_getR X 164 fl_X11_10.r dX11_readAct_161 rfl (fun v12 => ?_)
      refine v_bipush X 166 dX11_readAct_164 bk_115 rfl ?_
      refine v_vI X 169 cv_X10_take ml_X11_276 (n1 := 2) rfl [.int (115 : Int32)] rfl rfl rfl dX11_readAct_166 rfl (fun r M1 h => c_X10_take _ _ _ _ _ _ h) (fun r14 M13 => ?_)
      refine v_ifeq X 172 183 dX11_readAct_169 rfl rfl ?_ ?_
      · refine v_iconst X 184 dX11_readAct_183 ik_0 rfl ?_
        exact v_zret X Y (Nat.le_refl _) (Nat.le_refl _) dX11_readAct_184
      · refine v_aload_n X 173 0 dX11_readAct_172 rfl rfl ?_
        refine v_vI X 176 cv_X11_readShift ml_X11_485 (n1 := 3) rfl [] rfl rfl rfl dX11_readAct_173 rfl (fun r M1 h => c_X11_readShift _ _ _ _ _ h) (fun r16 M15 => ?_)
        refine v_ifeq X 179 183 dX11_readAct_176 rfl rfl ?_ ?_
        · refine v_iconst X 184 dX11_readAct_183 ik_0 rfl ?_
          exact v_zret X Y (Nat.le_refl _) (Nat.le_refl _) dX11_readAct_184
        · refine v_iconst X 180 dX11_readAct_179 ik_1 rfl ?_
          refine v_goto X 184 dX11_readAct_180 rfl ?_
          exact v_zret X Y (Nat.le_refl _) (Nat.le_refl _) dX11_readAct_184
    · refine v_aload_n X 132 0 dX11_readAct_131 rfl rfl ?_
      refine v_getR X 135 fl_X11_91.r dX11_readAct_132 rfl (fun v17 => ?_)
      refine v_iconst X 136 dX11_readAct_135 ik_1 rfl ?_
      refine v_aload_n X 137 0 dX11_readAct_136 rfl rfl ?_
      refine v_getR X 140 fl_X11_10.r dX11_readAct_137 rfl (fun v18 => ?_)
      refine v_iconst X 141 dX11_readAct_140 ik_2 rfl ?_
      refine v_vI X 144 cv_X10_number ml_X11_368 (n1 := 2) rfl [.int (2 : Int32)] rfl rfl rfl dX11_readAct_141 rfl (fun r M1 h => c_X10_number _ _ _ _ _ _ h) (fun r20 M19 => ?_)
      refine v_iast X 145 dX11_readAct_144 rfl (fun M21 => ?_)
      refine v_aload_n X 146 0 dX11_readAct_145 rfl rfl ?_
      refine v_getR X 149 fl_X11_91.r dX11_readAct_146 rfl (fun v22 => ?_)
      refine v_iconst X 150 dX11_readAct_149 ik_1 rfl ?_
      refine v_iald X 151 dX11_readAct_150 rfl (fun v23 => ?_)
      refine v_iflt X 154 158 dX11_readAct_151 rfl rfl ?_ ?_
      · refine v_iconst X 159 dX11_readAct_158 ik_0 rfl ?_
        exact v_zret X Y (Nat.le_refl _) (Nat.le_refl _) dX11_readAct_159
      · refine v_iconst X 155 dX11_readAct_154 ik_1 rfl ?_
        refine v_goto X 159 dX11_readAct_155 rfl ?_
        exact v_zret X Y (Nat.le_refl _) (Nat.le_refl _) dX11_readAct_159
  · refine v_aload_n X 26 0 dX11_readAct_25 rfl rfl ?_
    refine v_getR X 29 fl_X11_91.r dX11_readAct_26 rfl (fun v24 => ?_)
    refine v_iconst X 30 dX11_readAct_29 ik_1 rfl ?_
    refine v_aload_n X 31 0 dX11_readAct_30 rfl rfl ?_
    refine v_getR X 34 fl_X11_10.r dX11_readAct_31 rfl (fun v25 => ?_)
    refine v_vI X 37 cv_X10_letter ml_X11_482 (n1 := 2) rfl [] rfl rfl rfl dX11_readAct_34 rfl (fun r M1 h => c_X10_letter _ _ _ _ _ h) (fun r27 M26 => ?_)
    refine v_iast X 38 dX11_readAct_37 rfl (fun M28 => ?_)
    refine v_aload_n X 39 0 dX11_readAct_38 rfl rfl ?_
    refine v_getR X 42 fl_X11_91.r dX11_readAct_39 rfl (fun v29 => ?_)
    refine v_iconst X 43 dX11_readAct_42 ik_2 rfl ?_
    refine v_aload_n X 44 0 dX11_readAct_43 rfl rfl ?_
    refine v_getR X 47 fl_X11_91.r dX11_readAct_44 rfl (fun v30 => ?_)
    refine v_iconst X 48 dX11_readAct_47 ik_1 rfl ?_
    refine v_iald X 49 dX11_readAct_48 rfl (fun v31 => ?_)
    refine v_ifge X 52 56 dX11_readAct_49 rfl rfl ?_ ?_
    · refine v_aload_n X 57 0 dX11_readAct_56 rfl rfl ?_
      refine v_getR X 60 fl_X11_10.r dX11_readAct_57 rfl (fun v32 => ?_)
      refine v_iconst X 61 dX11_readAct_60 ik_0 rfl ?_
      refine v_vI X 64 cv_X10_digit ml_X11_123 (n1 := 1) rfl [.int (0 : Int32)] rfl rfl rfl dX11_readAct_61 rfl (fun r M1 h => c_X10_digit _ _ _ _ _ _ h) (fun r34 M33 => ?_)
      exact L_X11_readAct_64 X Y _ _ _ _ _
    · refine v_iconst X 53 dX11_readAct_52 ik_m1 rfl ?_
      refine v_goto X 64 dX11_readAct_53 rfl ?_
      exact L_X11_readAct_64 X Y _ _ _ _ _
theorem c_X11_readAct (l : Launch) (x0 : Nat) (M : MM) (r : Int32) (M1 : MM) (h : f_X11_readAct x0 M = some (r, M1)) : KV l yX11_readAct cX11_readAct 1 (some .boolean) (RM 4 0 0) false 11 x0 [] M (some (.int r)) M1 := by
  obtain ⟨hO, h2⟩ := iteO_some h
  exact ⟨hO, ct_of (tr := trI) (by decide) (Nat.le_of_ble_eq_true rfl) [(0, .ref x0)] rfl h2 (fun G X Y hn hl => L_X11_readAct_0 X Y x0 M)⟩

def f_X11_readActs_2 : Nat → Nat → Int32 → MM → Option (Int32 × MM)
  | 0, _, _, _ => none
  | n + 1, x0, x1, M =>
    if (60 : Int32) ≤ x1 then
      rz (0 : Int32) M
    else
      b2 (f_X11_readAct x0 M) fun r2 M1 =>
      if r2 = 0 then
        rz (0 : Int32) M1
      else
        b1 (gR 11 0 x0 M1) fun v3 =>
        b2 (f_X10_atEnd v3 M1) fun r5 M4 =>
        if r5 = 0 then
          b1 (gR 11 0 x0 M4) fun v6 =>
          b2 (f_X10_take v6 (59 : Int32) M4) fun r8 M7 =>
          if r8 = 0 then
            rz (0 : Int32) M7
          else
            bn (x1 + 1 : Int32) fun y9 =>
            f_X11_readActs_2 n x0 y9 M7
        else
          b1 (gR 11 0 x0 M4) fun v10 =>
          b2 (f_X10_hasMore v10 M4) fun r12 M11 =>
          if r12 = 0 then
            rz (1 : Int32) M11
          else
            rz (0 : Int32) M11

def f_X11_readActs_0 (x0 : Nat) (M : MM) : Option (Int32 × MM) :=
    f_X11_readActs_2 1024 x0 (0 : Int32) M

def f_X11_readActs (x0 : Nat) (M : MM) : Option (Int32 × MM) := if isO 11 x0 M = true then f_X11_readActs_0 x0 M else none
set_option maxRecDepth 4000 in
theorem L_X11_readActs_2 {G : Gx} (X : Cb G cX11_readActs 2 RX11 (RM 5 0 0) false) (Y : Cr G (some .boolean) 0 0) : ∀ (n : Nat) (x0 : Nat) (x1 : Int32) (M : MM), V G trI 2 0 0 2 [(0, .ref x0), (1, .int x1)] [] M (f_X11_readActs_2 n x0 x1 M) := by
  intro n
  induction n with
  | zero => intro x0 x1 M; rw [f_X11_readActs_2]; exact v_none
  | succ n ih =>
    intro x0 x1 M
    rw [f_X11_readActs_2]
    refine v_iload_n X 3 1 dX11_readActs_2 rfl rfl ?_
    refine v_bipush X 5 dX11_readActs_3 bk_60 rfl ?_
    refine v_icge X 8 63 dX11_readActs_5 rfl rfl ?_ ?_
    · refine v_iconst X 64 dX11_readActs_63 ik_0 rfl ?_
      exact v_zret X Y (Nat.le_refl _) (Nat.le_refl _) dX11_readActs_64
    · refine v_aload_n X 9 0 dX11_readActs_8 rfl rfl ?_
      refine v_vI X 12 cv_X11_readAct ml_X11_273 (n1 := 4) rfl [] rfl rfl rfl dX11_readActs_9 rfl (fun r M1 h => c_X11_readAct _ _ _ _ _ h) (fun r2 M1 => ?_)
      refine v_ifne X 15 17 dX11_readActs_12 rfl rfl ?_ ?_
      · refine v_aload_n X 18 0 dX11_readActs_17 rfl rfl ?_
        refine v_getR X 21 fl_X11_10.r dX11_readActs_18 rfl (fun v3 => ?_)
        refine v_vI X 24 cv_X10_atEnd ml_X11_131 (n1 := 1) rfl [] rfl rfl rfl dX11_readActs_21 rfl (fun r M1 h => c_X10_atEnd _ _ _ _ _ h) (fun r5 M4 => ?_)
        refine v_ifeq X 27 43 dX11_readActs_24 rfl rfl ?_ ?_
        · refine v_aload_n X 44 0 dX11_readActs_43 rfl rfl ?_
          refine v_getR X 47 fl_X11_10.r dX11_readActs_44 rfl (fun v6 => ?_)
          refine v_bipush X 49 dX11_readActs_47 bk_59 rfl ?_
          refine v_vI X 52 cv_X10_take ml_X11_276 (n1 := 2) rfl [.int (59 : Int32)] rfl rfl rfl dX11_readActs_49 rfl (fun r M1 h => c_X10_take _ _ _ _ _ _ h) (fun r8 M7 => ?_)
          refine v_ifne X 55 57 dX11_readActs_52 rfl rfl ?_ ?_
          · refine v_iinc X 60 1 (fun z => [(0, .ref x0), (1, .int z)]) dX11_readActs_57 rfl ik_1 (by decide) (fun _ => rfl) rfl (fun y9 => ?_)
            refine v_goto X 2 dX11_readActs_60 rfl ?_
            exact ih _ _ _
          · refine v_iconst X 56 dX11_readActs_55 ik_0 rfl ?_
            exact v_zret X Y (Nat.le_refl _) (Nat.le_refl _) dX11_readActs_56
        · refine v_aload_n X 28 0 dX11_readActs_27 rfl rfl ?_
          refine v_getR X 31 fl_X11_10.r dX11_readActs_28 rfl (fun v10 => ?_)
          refine v_vI X 34 cv_X10_hasMore ml_X11_479 (n1 := 1) rfl [] rfl rfl rfl dX11_readActs_31 rfl (fun r M1 h => c_X10_hasMore _ _ _ _ _ h) (fun r12 M11 => ?_)
          refine v_ifne X 37 41 dX11_readActs_34 rfl rfl ?_ ?_
          · refine v_iconst X 42 dX11_readActs_41 ik_0 rfl ?_
            exact v_zret X Y (Nat.le_refl _) (Nat.le_refl _) dX11_readActs_42
          · refine v_iconst X 38 dX11_readActs_37 ik_1 rfl ?_
            refine v_goto X 42 dX11_readActs_38 rfl ?_
            exact v_zret X Y (Nat.le_refl _) (Nat.le_refl _) dX11_readActs_42
      · refine v_iconst X 16 dX11_readActs_15 ik_0 rfl ?_
        exact v_zret X Y (Nat.le_refl _) (Nat.le_refl _) dX11_readActs_16
set_option maxRecDepth 4000 in
theorem L_X11_readActs_0 {G : Gx} (X : Cb G cX11_readActs 2 RX11 (RM 5 0 0) false) (Y : Cr G (some .boolean) 0 0) (x0 : Nat) (M : MM) : V G trI 2 0 0 0 [(0, .ref x0)] [] M (f_X11_readActs_0 x0 M) := by
  unfold f_X11_readActs_0
  refine v_iconst X 1 dX11_readActs_0 ik_0 rfl ?_
  refine v_istore_n (lv' := [(0, .ref x0), (1, .int (0 : Int32))]) X 2 dX11_readActs_1 (by decide) rfl rfl ?_
  exact L_X11_readActs_2 X Y 1024 _ _ _
theorem c_X11_readActs (l : Launch) (x0 : Nat) (M : MM) (r : Int32) (M1 : MM) (h : f_X11_readActs x0 M = some (r, M1)) : KV l yX11_readActs cX11_readActs 2 (some .boolean) (RM 5 0 0) false 11 x0 [] M (some (.int r)) M1 := by
  obtain ⟨hO, h2⟩ := iteO_some h
  exact ⟨hO, ct_of (tr := trI) (by decide) (Nat.le_of_ble_eq_true rfl) [(0, .ref x0)] rfl h2 (fun G X Y hn hl => L_X11_readActs_0 X Y x0 M)⟩

def f_X11_afternoon_116 (K58 : Nat → Int32 → Int32 → Int32 → MM → Option (Int32 × MM)) (x0 : Nat) (x2 : Int32) (x3 : Int32) (s0 : Int32) (s1 : Int32) (M : MM) : Option (Int32 × MM) :=
    bn (s1 + s0 : Int32) fun y1 =>
    bn (x3 + 1 : Int32) fun y2 =>
    K58 x0 y1 x2 y2 M

def f_X11_afternoon_105 (K58 : Nat → Int32 → Int32 → Int32 → MM → Option (Int32 × MM)) (x0 : Nat) (x1 : Int32) (x3 : Int32) (s0 : Int32) (M : MM) : Option (Int32 × MM) :=
    if s0 = 0 then
      f_X11_afternoon_116 K58 x0 s0 x3 (1 : Int32) x1 M
    else
      f_X11_afternoon_116 K58 x0 s0 x3 (0 : Int32) x1 M

def f_X11_afternoon_152 (x0 : Nat) (x1 : Int32) (s0 : Int64) (s1 : Nat) (M : MM) : Option (Int32 × MM) :=
    b1 (gR 11 7 x0 M) fun v1 =>
    b2 (f_X7_sum v1 M) fun r3 M2 =>
    b1 (f_X6_two s1 s0 (Int32.toInt64 r3) M2) fun M4 =>
    some (x1, M4)

def f_X11_afternoon_139 (x0 : Nat) (x1 : Int32) (x2 : Int32) (M : MM) : Option (Int32 × MM) :=
    b1 (gR 11 1 x0 M) fun v1 =>
    if x2 = 0 then
      f_X11_afternoon_152 x0 x1 (0 : Int64) v1 M
    else
      f_X11_afternoon_152 x0 x1 (1 : Int64) v1 M

def f_X11_afternoon_124 (x0 : Nat) (x1 : Int32) (x2 : Int32) (M : MM) : Option (Int32 × MM) :=
    if x1 ≤ 0 then
      f_X11_afternoon_139 x0 x1 x2 M
    else
      b1 (gR 11 9 x0 M) fun v1 =>
      b1 (gR 11 4 x0 M) fun v2 =>
      b1 (f_X4_push v1 v2 M) fun M3 =>
      f_X11_afternoon_139 x0 x1 x2 M3

def f_X11_afternoon_58 : Nat → Nat → Int32 → Int32 → Int32 → MM → Option (Int32 × MM)
  | 0, _, _, _, _, _ => none
  | n + 1, x0, x1, x2, x3, M =>
    if (60 : Int32) ≤ x3 then
      f_X11_afternoon_124 x0 x1 x2 M
    else
      b1 (gR 11 0 x0 M) fun v1 =>
      b2 (f_X10_atEnd v1 M) fun r3 M2 =>
      if r3 = 0 then
        if x2 = 0 then
          b2 (f_X11_readAct x0 M2) fun r5 M4 =>
          b1 (gR 11 0 x0 M4) fun v6 =>
          b2 (f_X10_take v6 (59 : Int32) M4) fun r8 M7 =>
          b2 (f_X11_doAct x0 M7) fun r10 M9 =>
          if 0 ≤ r10 then
            f_X11_afternoon_105 (f_X11_afternoon_58 n) x0 x1 x3 (0 : Int32) M9
          else
            f_X11_afternoon_105 (f_X11_afternoon_58 n) x0 x1 x3 (1 : Int32) M9
        else
          f_X11_afternoon_124 x0 x1 x2 M2
      else
        f_X11_afternoon_124 x0 x1 x2 M2

def f_X11_afternoon_34 (x0 : Nat) (M : MM) : Option (Int32 × MM) :=
    b1 (gR 11 4 x0 M) fun v1 =>
    b1 (gR 11 3 x0 M) fun v2 =>
    b1 (f_X5_copy v1 v2 M) fun M3 =>
    b1 (gR 11 0 x0 M3) fun v4 =>
    b1 (f_X10_rewind v4 M3) fun M5 =>
    f_X11_afternoon_58 1024 x0 (0 : Int32) (0 : Int32) (0 : Int32) M5

def f_X11_afternoon_0 (x0 : Nat) (M : MM) : Option (Int32 × MM) :=
    b1 (gR 11 0 x0 M) fun v1 =>
    b1 (f_X10_begin v1 (60 : Int32) M) fun M2 =>
    b1 (gR 11 0 x0 M2) fun v3 =>
    b2 (f_X10_isEmpty v3 M2) fun r5 M4 =>
    if r5 = 0 then
      b2 (f_X11_readActs x0 M4) fun r7 M6 =>
      if r7 = 0 then
        b1 (gR 11 0 x0 M6) fun v8 =>
        b2 (f_X10_refusal v8 M6) fun r10 M9 =>
        some (r10, M9)
      else
        f_X11_afternoon_34 x0 M6
    else
      f_X11_afternoon_34 x0 M4

def f_X11_afternoon (x0 : Nat) (M : MM) : Option (Int32 × MM) := if isO 11 x0 M = true then f_X11_afternoon_0 x0 M else none
set_option maxRecDepth 4000 in
theorem L_X11_afternoon_116 {G : Gx} (X : Cb G cX11_afternoon 4 RX11 (RM 7 0 0) false) (Y : Cr G (some .int) 0 0) {K58 : Nat → Int32 → Int32 → Int32 → MM → Option (Int32 × MM)} (hK58 : ∀ (x0 : Nat) (x1 : Int32) (x2 : Int32) (x3 : Int32) (M : MM), V G trI 4 0 0 58 [(0, .ref x0), (1, .int x1), (2, .int x2), (3, .int x3)] [] M (K58 x0 x1 x2 x3 M)) (x0 : Nat) (x2 : Int32) (x3 : Int32) (s0 : Int32) (s1 : Int32) (M : MM) : V G trI 4 0 0 116 [(0, .ref x0), (2, .int x2), (3, .int x3)] [.int s0, .int s1] M (f_X11_afternoon_116 K58 x0 x2 x3 s0 s1 M) := by
  unfold f_X11_afternoon_116
  refine v_iadd X 117 dX11_afternoon_116 rfl ?_
  refine v_bnI (fun y1 => ?_)
  refine v_istore_n (lv' := [(0, .ref x0), (1, .int y1), (2, .int x2), (3, .int x3)]) X 118 dX11_afternoon_117 (by decide) rfl rfl ?_
  refine v_iinc X 121 3 (fun z => [(0, .ref x0), (1, .int y1), (2, .int x2), (3, .int z)]) dX11_afternoon_118 rfl ik_1 (by decide) (fun _ => rfl) rfl (fun y2 => ?_)
  refine v_goto X 58 dX11_afternoon_121 rfl ?_
  exact hK58 _ _ _ _ _
set_option maxRecDepth 4000 in
theorem L_X11_afternoon_105 {G : Gx} (X : Cb G cX11_afternoon 4 RX11 (RM 7 0 0) false) (Y : Cr G (some .int) 0 0) {K58 : Nat → Int32 → Int32 → Int32 → MM → Option (Int32 × MM)} (hK58 : ∀ (x0 : Nat) (x1 : Int32) (x2 : Int32) (x3 : Int32) (M : MM), V G trI 4 0 0 58 [(0, .ref x0), (1, .int x1), (2, .int x2), (3, .int x3)] [] M (K58 x0 x1 x2 x3 M)) (x0 : Nat) (x1 : Int32) (x3 : Int32) (s0 : Int32) (M : MM) : V G trI 4 0 0 105 [(0, .ref x0), (1, .int x1), (3, .int x3)] [.int s0] M (f_X11_afternoon_105 K58 x0 x1 x3 s0 M) := by
  unfold f_X11_afternoon_105
  refine v_istore_n (lv' := [(0, .ref x0), (1, .int x1), (2, .int s0), (3, .int x3)]) X 106 dX11_afternoon_105 (by decide) rfl rfl ?_
  refine v_iload_n X 107 1 dX11_afternoon_106 rfl rfl ?_
  refine v_iload_n X 108 2 dX11_afternoon_107 rfl rfl ?_
  refine v_ifeq X 111 115 dX11_afternoon_108 rfl rfl ?_ ?_
  · refine v_iconst X 116 dX11_afternoon_115 ik_1 rfl ?_
    exact v_sb [0, 2, 3] (L_X11_afternoon_116 X Y hK58 _ _ _ _ _ _) rfl
  · refine v_iconst X 112 dX11_afternoon_111 ik_0 rfl ?_
    refine v_goto X 116 dX11_afternoon_112 rfl ?_
    exact v_sb [0, 2, 3] (L_X11_afternoon_116 X Y hK58 _ _ _ _ _ _) rfl
set_option maxRecDepth 4000 in
theorem L_X11_afternoon_152 {G : Gx} (X : Cb G cX11_afternoon 4 RX11 (RM 7 0 0) false) (Y : Cr G (some .int) 0 0) (x0 : Nat) (x1 : Int32) (s0 : Int64) (s1 : Nat) (M : MM) : V G trI 4 0 0 152 [(0, .ref x0), (1, .int x1)] [.long s0, .ref s1] M (f_X11_afternoon_152 x0 x1 s0 s1 M) := by
  unfold f_X11_afternoon_152
  refine v_aload_n X 153 0 dX11_afternoon_152 rfl rfl ?_
  refine v_getR X 156 fl_X11_55.r dX11_afternoon_153 rfl (fun v1 => ?_)
  refine v_vI X 159 cv_X7_sum ml_X11_282 (n1 := 4) rfl [] rfl rfl rfl dX11_afternoon_156 rfl (fun r M1 h => c_X7_sum _ _ _ _ _ h) (fun r3 M2 => ?_)
  refine v_i2l X 160 dX11_afternoon_159 rfl ?_
  refine v_vV X 163 cv_X6_two ml_X11_285 (n1 := 3) rfl [.long s0, .long (Int32.toInt64 r3)] rfl rfl rfl dX11_afternoon_160 rfl (fun M1 h => c_X6_two _ _ _ _ _ _ h) (fun M4 => ?_)
  refine v_iload_n X 164 1 dX11_afternoon_163 rfl rfl ?_
  exact v_iret X Y (Nat.le_refl _) (Nat.le_refl _) dX11_afternoon_164
set_option maxRecDepth 4000 in
theorem L_X11_afternoon_139 {G : Gx} (X : Cb G cX11_afternoon 4 RX11 (RM 7 0 0) false) (Y : Cr G (some .int) 0 0) (x0 : Nat) (x1 : Int32) (x2 : Int32) (M : MM) : V G trI 4 0 0 139 [(0, .ref x0), (1, .int x1), (2, .int x2)] [] M (f_X11_afternoon_139 x0 x1 x2 M) := by
  unfold f_X11_afternoon_139
  refine v_aload_n X 140 0 dX11_afternoon_139 rfl rfl ?_
  refine v_getR X 143 fl_X11_19.r dX11_afternoon_140 rfl (fun v1 => ?_)
  refine v_iload_n X 144 2 dX11_afternoon_143 rfl rfl ?_
  refine v_ifeq X 147 151 dX11_afternoon_144 rfl rfl ?_ ?_
  · refine v_lconst X 152 dX11_afternoon_151 lk_0 rfl ?_
    exact v_sb [0, 1] (L_X11_afternoon_152 X Y _ _ _ _ _) rfl
  · refine v_lconst X 148 dX11_afternoon_147 lk_1 rfl ?_
    refine v_goto X 152 dX11_afternoon_148 rfl ?_
    exact v_sb [0, 1] (L_X11_afternoon_152 X Y _ _ _ _ _) rfl
set_option maxRecDepth 4000 in
theorem L_X11_afternoon_124 {G : Gx} (X : Cb G cX11_afternoon 4 RX11 (RM 7 0 0) false) (Y : Cr G (some .int) 0 0) (x0 : Nat) (x1 : Int32) (x2 : Int32) (M : MM) : V G trI 4 0 0 124 [(0, .ref x0), (1, .int x1), (2, .int x2)] [] M (f_X11_afternoon_124 x0 x1 x2 M) := by
  unfold f_X11_afternoon_124
  refine v_iload_n X 125 1 dX11_afternoon_124 rfl rfl ?_
  refine v_ifle X 128 139 dX11_afternoon_125 rfl rfl ?_ ?_
  · exact L_X11_afternoon_139 X Y _ _ _ _
  · refine v_aload_n X 129 0 dX11_afternoon_128 rfl rfl ?_
    refine v_getR X 132 fl_X11_71.r dX11_afternoon_129 rfl (fun v1 => ?_)
    refine v_aload_n X 133 0 dX11_afternoon_132 rfl rfl ?_
    refine v_getR X 136 fl_X11_37.r dX11_afternoon_133 rfl (fun v2 => ?_)
    refine v_vV X 139 cv_X4_push ml_X11_152 (n1 := 2) rfl [.ref v2] rfl rfl rfl dX11_afternoon_136 rfl (fun M1 h => c_X4_push _ _ _ _ _ h) (fun M3 => ?_)
    exact L_X11_afternoon_139 X Y _ _ _ _
set_option maxRecDepth 4000 in
theorem L_X11_afternoon_58 {G : Gx} (X : Cb G cX11_afternoon 4 RX11 (RM 7 0 0) false) (Y : Cr G (some .int) 0 0) : ∀ (n : Nat) (x0 : Nat) (x1 : Int32) (x2 : Int32) (x3 : Int32) (M : MM), V G trI 4 0 0 58 [(0, .ref x0), (1, .int x1), (2, .int x2), (3, .int x3)] [] M (f_X11_afternoon_58 n x0 x1 x2 x3 M) := by
  intro n
  induction n with
  | zero => intro x0 x1 x2 x3 M; rw [f_X11_afternoon_58]; exact v_none
  | succ n ih =>
    intro x0 x1 x2 x3 M
    rw [f_X11_afternoon_58]
    refine v_iload_n X 59 3 dX11_afternoon_58 rfl rfl ?_
    refine v_bipush X 61 dX11_afternoon_59 bk_60 rfl ?_
    refine v_icge X 64 124 dX11_afternoon_61 rfl rfl ?_ ?_
    · exact v_sb [0, 1, 2] (L_X11_afternoon_124 X Y _ _ _ _) rfl
    · refine v_aload_n X 65 0 dX11_afternoon_64 rfl rfl ?_
      refine v_getR X 68 fl_X11_10.r dX11_afternoon_65 rfl (fun v1 => ?_)
      refine v_vI X 71 cv_X10_atEnd ml_X11_131 (n1 := 1) rfl [] rfl rfl rfl dX11_afternoon_68 rfl (fun r M1 h => c_X10_atEnd _ _ _ _ _ h) (fun r3 M2 => ?_)
      refine v_ifne X 74 124 dX11_afternoon_71 rfl rfl ?_ ?_
      · exact v_sb [0, 1, 2] (L_X11_afternoon_124 X Y _ _ _ _) rfl
      · refine v_iload_n X 75 2 dX11_afternoon_74 rfl rfl ?_
        refine v_ifne X 78 124 dX11_afternoon_75 rfl rfl ?_ ?_
        · exact v_sb [0, 1, 2] (L_X11_afternoon_124 X Y _ _ _ _) rfl
        · refine v_aload_n X 79 0 dX11_afternoon_78 rfl rfl ?_
          refine v_vI X 82 cv_X11_readAct ml_X11_273 (n1 := 4) rfl [] rfl rfl rfl dX11_afternoon_79 rfl (fun r M1 h => c_X11_readAct _ _ _ _ _ h) (fun r5 M4 => ?_)
          refine v_pop X 83 dX11_afternoon_82 rfl rfl ?_
          refine v_aload_n X 84 0 dX11_afternoon_83 rfl rfl ?_
          refine v_getR X 87 fl_X11_10.r dX11_afternoon_84 rfl (fun v6 => ?_)
          refine v_bipush X 89 dX11_afternoon_87 bk_59 rfl ?_
          refine v_vI X 92 cv_X10_take ml_X11_276 (n1 := 2) rfl [.int (59 : Int32)] rfl rfl rfl dX11_afternoon_89 rfl (fun r M1 h => c_X10_take _ _ _ _ _ _ h) (fun r8 M7 => ?_)
          refine v_pop X 93 dX11_afternoon_92 rfl rfl ?_
          refine v_aload_n X 94 0 dX11_afternoon_93 rfl rfl ?_
          refine v_vI X 97 cv_X11_doAct ml_X11_279 (n1 := 6) rfl [] rfl rfl rfl dX11_afternoon_94 rfl (fun r M1 h => c_X11_doAct _ _ _ _ _ h) (fun r10 M9 => ?_)
          refine v_ifge X 100 104 dX11_afternoon_97 rfl rfl ?_ ?_
          · refine v_iconst X 105 dX11_afternoon_104 ik_0 rfl ?_
            exact v_sb [0, 1, 3] (L_X11_afternoon_105 X Y ih _ _ _ _ _) rfl
          · refine v_iconst X 101 dX11_afternoon_100 ik_1 rfl ?_
            refine v_goto X 105 dX11_afternoon_101 rfl ?_
            exact v_sb [0, 1, 3] (L_X11_afternoon_105 X Y ih _ _ _ _ _) rfl
set_option maxRecDepth 4000 in
theorem L_X11_afternoon_34 {G : Gx} (X : Cb G cX11_afternoon 4 RX11 (RM 7 0 0) false) (Y : Cr G (some .int) 0 0) (x0 : Nat) (M : MM) : V G trI 4 0 0 34 [(0, .ref x0)] [] M (f_X11_afternoon_34 x0 M) := by
  unfold f_X11_afternoon_34
  refine v_aload_n X 35 0 dX11_afternoon_34 rfl rfl ?_
  refine v_getR X 38 fl_X11_37.r dX11_afternoon_35 rfl (fun v1 => ?_)
  refine v_aload_n X 39 0 dX11_afternoon_38 rfl rfl ?_
  refine v_getR X 42 fl_X11_33.r dX11_afternoon_39 rfl (fun v2 => ?_)
  refine v_vV X 45 cv_X5_copy ml_X11_156 (n1 := 1) rfl [.ref v2] rfl rfl rfl dX11_afternoon_42 rfl (fun M1 h => c_X5_copy _ _ _ _ _ h) (fun M3 => ?_)
  refine v_aload_n X 46 0 dX11_afternoon_45 rfl rfl ?_
  refine v_getR X 49 fl_X11_10.r dX11_afternoon_46 rfl (fun v4 => ?_)
  refine v_vV X 52 cv_X10_rewind ml_X11_135 (n1 := 1) rfl [] rfl rfl rfl dX11_afternoon_49 rfl (fun M1 h => c_X10_rewind _ _ _ _ h) (fun M5 => ?_)
  refine v_iconst X 53 dX11_afternoon_52 ik_0 rfl ?_
  refine v_istore_n (lv' := [(0, .ref x0), (1, .int (0 : Int32))]) X 54 dX11_afternoon_53 (by decide) rfl rfl ?_
  refine v_iconst X 55 dX11_afternoon_54 ik_0 rfl ?_
  refine v_istore_n (lv' := [(0, .ref x0), (1, .int (0 : Int32)), (2, .int (0 : Int32))]) X 56 dX11_afternoon_55 (by decide) rfl rfl ?_
  refine v_iconst X 57 dX11_afternoon_56 ik_0 rfl ?_
  refine v_istore_n (lv' := [(0, .ref x0), (1, .int (0 : Int32)), (2, .int (0 : Int32)), (3, .int (0 : Int32))]) X 58 dX11_afternoon_57 (by decide) rfl rfl ?_
  exact L_X11_afternoon_58 X Y 1024 _ _ _ _ _
set_option maxRecDepth 4000 in
theorem L_X11_afternoon_0 {G : Gx} (X : Cb G cX11_afternoon 4 RX11 (RM 7 0 0) false) (Y : Cr G (some .int) 0 0) (x0 : Nat) (M : MM) : V G trI 4 0 0 0 [(0, .ref x0)] [] M (f_X11_afternoon_0 x0 M) := by
  unfold f_X11_afternoon_0
  refine v_aload_n X 1 0 dX11_afternoon_0 rfl rfl ?_
  refine v_getR X 4 fl_X11_10.r dX11_afternoon_1 rfl (fun v1 => ?_)
  refine v_bipush X 6 dX11_afternoon_4 bk_60 rfl ?_
  refine v_vV X 9 cv_X10_begin ml_X11_113 (n1 := 2) rfl [.int (60 : Int32)] rfl rfl rfl dX11_afternoon_6 rfl (fun M1 h => c_X10_begin _ _ _ _ _ h) (fun M2 => ?_)
  refine v_aload_n X 10 0 dX11_afternoon_9 rfl rfl ?_
  refine v_getR X 13 fl_X11_10.r dX11_afternoon_10 rfl (fun v3 => ?_)
  refine v_vI X 16 cv_X10_isEmpty ml_X11_146 (n1 := 1) rfl [] rfl rfl rfl dX11_afternoon_13 rfl (fun r M1 h => c_X10_isEmpty _ _ _ _ _ h) (fun r5 M4 => ?_)
  refine v_ifne X 19 34 dX11_afternoon_16 rfl rfl ?_ ?_
  · exact L_X11_afternoon_34 X Y _ _
  · refine v_aload_n X 20 0 dX11_afternoon_19 rfl rfl ?_
    refine v_vI X 23 cv_X11_readActs ml_X11_270 (n1 := 5) rfl [] rfl rfl rfl dX11_afternoon_20 rfl (fun r M1 h => c_X11_readActs _ _ _ _ _ h) (fun r7 M6 => ?_)
    refine v_ifne X 26 34 dX11_afternoon_23 rfl rfl ?_ ?_
    · exact L_X11_afternoon_34 X Y _ _
    · refine v_aload_n X 27 0 dX11_afternoon_26 rfl rfl ?_
      refine v_getR X 30 fl_X11_10.r dX11_afternoon_27 rfl (fun v8 => ?_)
      refine v_vI X 33 cv_X10_refusal ml_X11_127 (n1 := 1) rfl [] rfl rfl rfl dX11_afternoon_30 rfl (fun r M1 h => c_X10_refusal _ _ _ _ _ h) (fun r10 M9 => ?_)
      exact v_iret X Y (Nat.le_refl _) (Nat.le_refl _) dX11_afternoon_33
theorem c_X11_afternoon (l : Launch) (x0 : Nat) (M : MM) (r : Int32) (M1 : MM) (h : f_X11_afternoon x0 M = some (r, M1)) : KV l yX11_afternoon cX11_afternoon 4 (some .int) (RM 7 0 0) false 11 x0 [] M (some (.int r)) M1 := by
  obtain ⟨hO, h2⟩ := iteO_some h
  exact ⟨hO, ct_of (tr := trI) (by decide) (Nat.le_of_ble_eq_true rfl) [(0, .ref x0)] rfl h2 (fun G X Y hn hl => L_X11_afternoon_0 X Y x0 M)⟩

def f_X11_undo_0 (x0 : Nat) (M : MM) : Option (Int32 × MM) :=
    b1 (gR 11 9 x0 M) fun v1 =>
    b1 (gR 11 3 x0 M) fun v2 =>
    b2 (f_X4_pop v1 v2 M) fun r4 M3 =>
    if r4 = 0 then
      some ((-1 : Int32), M3)
    else
      b1 (gR 11 9 x0 M3) fun v5 =>
      b1 (gI 4 4 v5 M3) fun v6 =>
      some (v6, M3)

def f_X11_undo (x0 : Nat) (M : MM) : Option (Int32 × MM) := if isO 11 x0 M = true then f_X11_undo_0 x0 M else none
set_option maxRecDepth 4000 in
theorem L_X11_undo_0 {G : Gx} (X : Cb G cX11_undo 1 RX11 (RM 3 0 0) false) (Y : Cr G (some .int) 0 0) (x0 : Nat) (M : MM) : V G trI 1 0 0 0 [(0, .ref x0)] [] M (f_X11_undo_0 x0 M) := by
  unfold f_X11_undo_0
  refine v_aload_n X 1 0 dX11_undo_0 rfl rfl ?_
  refine v_getR X 4 fl_X11_71.r dX11_undo_1 rfl (fun v1 => ?_)
  refine v_aload_n X 5 0 dX11_undo_4 rfl rfl ?_
  refine v_getR X 8 fl_X11_33.r dX11_undo_5 rfl (fun v2 => ?_)
  refine v_vI X 11 cv_X4_pop ml_X11_289 (n1 := 2) rfl [.ref v2] rfl rfl rfl dX11_undo_8 rfl (fun r M1 h => c_X4_pop _ _ _ _ _ _ h) (fun r4 M3 => ?_)
  refine v_ifeq X 14 24 dX11_undo_11 rfl rfl ?_ ?_
  · refine v_iconst X 25 dX11_undo_24 ik_m1 rfl ?_
    exact v_iret X Y (Nat.le_refl _) (Nat.le_refl _) dX11_undo_25
  · refine v_aload_n X 15 0 dX11_undo_14 rfl rfl ?_
    refine v_getR X 18 fl_X11_71.r dX11_undo_15 rfl (fun v5 => ?_)
    refine v_getI X 21 fl_X11_293.r dX11_undo_18 rfl (fun v6 => ?_)
    refine v_goto X 25 dX11_undo_21 rfl ?_
    exact v_iret X Y (Nat.le_refl _) (Nat.le_refl _) dX11_undo_25
theorem c_X11_undo (l : Launch) (x0 : Nat) (M : MM) (r : Int32) (M1 : MM) (h : f_X11_undo x0 M = some (r, M1)) : KV l yX11_undo cX11_undo 1 (some .int) (RM 3 0 0) false 11 x0 [] M (some (.int r)) M1 := by
  obtain ⟨hO, h2⟩ := iteO_some h
  exact ⟨hO, ct_of (tr := trI) (by decide) (Nat.le_of_ble_eq_true rfl) [(0, .ref x0)] rfl h2 (fun G X Y hn hl => L_X11_undo_0 X Y x0 M)⟩

def f_X11_alone_93 (K22 : Nat → Int32 → Int32 → Int32 → Int32 → Int32 → Int32 → MM → Option (Int32 × MM)) (x0 : Nat) (x1 : Int32) (x2 : Int32) (x3 : Int32) (x4 : Int32) (x5 : Int32) (x6 : Int32) (M : MM) : Option (Int32 × MM) :=
    bn (x6 + 1 : Int32) fun y1 =>
    K22 x0 x1 x2 x3 x4 x5 y1 M

def f_X11_alone_76 (K22 : Nat → Int32 → Int32 → Int32 → Int32 → Int32 → Int32 → MM → Option (Int32 × MM)) (x0 : Nat) (x1 : Int32) (x2 : Int32) (x3 : Int32) (x4 : Int32) (x5 : Int32) (x6 : Int32) (M : MM) : Option (Int32 × MM) :=
    if x3 ≤ x4 then
      f_X11_alone_93 K22 x0 x1 x2 x3 x4 x5 x6 M
    else
      bn ((x6 - x3) + (1 : Int32) : Int32) fun y1 =>
      f_X11_alone_93 K22 x0 x1 x2 x3 x3 y1 x6 M

def f_X11_alone_75 (K22 : Nat → Int32 → Int32 → Int32 → Int32 → Int32 → Int32 → MM → Option (Int32 × MM)) (x0 : Nat) (x2 : Int32) (x3 : Int32) (x4 : Int32) (x5 : Int32) (x6 : Int32) (s0 : Int32) (M : MM) : Option (Int32 × MM) :=
    f_X11_alone_76 K22 x0 s0 x2 x3 x4 x5 x6 M

def f_X11_alone_56 (K22 : Nat → Int32 → Int32 → Int32 → Int32 → Int32 → Int32 → MM → Option (Int32 × MM)) (x0 : Nat) (x1 : Int32) (x2 : Int32) (x4 : Int32) (x5 : Int32) (x6 : Int32) (s0 : Int32) (M : MM) : Option (Int32 × MM) :=
    if s0 ≤ 0 then
      f_X11_alone_76 K22 x0 x1 x2 s0 x4 x5 x6 M
    else
      bn (x2 + 1 : Int32) fun y1 =>
      if x1 = (-1 : Int32) then
        f_X11_alone_75 K22 x0 y1 s0 x4 x5 x6 x6 M
      else
        f_X11_alone_75 K22 x0 y1 s0 x4 x5 x6 x1 M

def f_X11_alone_22 : Nat → Nat → Int32 → Int32 → Int32 → Int32 → Int32 → Int32 → MM → Option (Int32 × MM)
  | 0, _, _, _, _, _, _, _, _ => none
  | n + 1, x0, x1, x2, x3, x4, x5, x6, M =>
    b1 (gR 11 2 x0 M) fun v1 =>
    b1 (gI 9 9 v1 M) fun v2 =>
    if v2 ≤ x6 then
      b1 (gR 11 1 x0 M) fun v3 =>
      b1 (f_X6_three v3 (Int32.toInt64 x1) (Int32.toInt64 x4) (Int32.toInt64 x5) M) fun M4 =>
      some (x2, M4)
    else
      b1 (gR 11 5 x0 M) fun v5 =>
      b1 (gR 1 5 v5 M) fun v6 =>
      b2 (f_X2_has v6 x6 M) fun r8 M7 =>
      if r8 = 0 then
        f_X11_alone_56 (f_X11_alone_22 n) x0 x1 x2 x4 x5 x6 (0 : Int32) M7
      else
        f_X11_alone_56 (f_X11_alone_22 n) x0 x1 x2 x4 x5 x6 (x3 + (1 : Int32)) M7

def f_X11_alone_0 (x0 : Nat) (M : MM) : Option (Int32 × MM) :=
    b1 (gR 11 5 x0 M) fun v1 =>
    b1 (f_X1_look v1 M) fun M2 =>
    f_X11_alone_22 1024 x0 (-1 : Int32) (0 : Int32) (0 : Int32) (0 : Int32) (-1 : Int32) (0 : Int32) M2

def f_X11_alone (x0 : Nat) (M : MM) : Option (Int32 × MM) := if isO 11 x0 M = true then f_X11_alone_0 x0 M else none
set_option maxRecDepth 4000 in
theorem L_X11_alone_93 {G : Gx} (X : Cb G cX11_alone 7 RX11 (RM 5 0 0) false) (Y : Cr G (some .int) 0 0) {K22 : Nat → Int32 → Int32 → Int32 → Int32 → Int32 → Int32 → MM → Option (Int32 × MM)} (hK22 : ∀ (x0 : Nat) (x1 : Int32) (x2 : Int32) (x3 : Int32) (x4 : Int32) (x5 : Int32) (x6 : Int32) (M : MM), V G trI 7 0 0 22 [(0, .ref x0), (1, .int x1), (2, .int x2), (3, .int x3), (4, .int x4), (5, .int x5), (6, .int x6)] [] M (K22 x0 x1 x2 x3 x4 x5 x6 M)) (x0 : Nat) (x1 : Int32) (x2 : Int32) (x3 : Int32) (x4 : Int32) (x5 : Int32) (x6 : Int32) (M : MM) : V G trI 7 0 0 93 [(0, .ref x0), (1, .int x1), (2, .int x2), (3, .int x3), (4, .int x4), (5, .int x5), (6, .int x6)] [] M (f_X11_alone_93 K22 x0 x1 x2 x3 x4 x5 x6 M) := by
  unfold f_X11_alone_93
  refine v_iinc X 96 6 (fun z => [(0, .ref x0), (1, .int x1), (2, .int x2), (3, .int x3), (4, .int x4), (5, .int x5), (6, .int z)]) dX11_alone_93 rfl ik_1 (by decide) (fun _ => rfl) rfl (fun y1 => ?_)
  refine v_goto X 22 dX11_alone_96 rfl ?_
  exact hK22 _ _ _ _ _ _ _ _
set_option maxRecDepth 4000 in
theorem L_X11_alone_76 {G : Gx} (X : Cb G cX11_alone 7 RX11 (RM 5 0 0) false) (Y : Cr G (some .int) 0 0) {K22 : Nat → Int32 → Int32 → Int32 → Int32 → Int32 → Int32 → MM → Option (Int32 × MM)} (hK22 : ∀ (x0 : Nat) (x1 : Int32) (x2 : Int32) (x3 : Int32) (x4 : Int32) (x5 : Int32) (x6 : Int32) (M : MM), V G trI 7 0 0 22 [(0, .ref x0), (1, .int x1), (2, .int x2), (3, .int x3), (4, .int x4), (5, .int x5), (6, .int x6)] [] M (K22 x0 x1 x2 x3 x4 x5 x6 M)) (x0 : Nat) (x1 : Int32) (x2 : Int32) (x3 : Int32) (x4 : Int32) (x5 : Int32) (x6 : Int32) (M : MM) : V G trI 7 0 0 76 [(0, .ref x0), (1, .int x1), (2, .int x2), (3, .int x3), (4, .int x4), (5, .int x5), (6, .int x6)] [] M (f_X11_alone_76 K22 x0 x1 x2 x3 x4 x5 x6 M) := by
  unfold f_X11_alone_76
  refine v_iload_n X 77 3 dX11_alone_76 rfl rfl ?_
  refine v_iload X 79 4 dX11_alone_77 rfl rfl ?_
  refine v_icle X 82 93 dX11_alone_79 rfl rfl ?_ ?_
  · exact L_X11_alone_93 X Y hK22 _ _ _ _ _ _ _ _
  · refine v_iload_n X 83 3 dX11_alone_82 rfl rfl ?_
    refine v_istore (lv' := [(0, .ref x0), (1, .int x1), (2, .int x2), (3, .int x3), (4, .int x3), (5, .int x5), (6, .int x6)]) X 85 dX11_alone_83 (by decide) rfl rfl ?_
    refine v_iload X 87 6 dX11_alone_85 rfl rfl ?_
    refine v_iload_n X 88 3 dX11_alone_87 rfl rfl ?_
    refine v_isub X 89 dX11_alone_88 rfl ?_
    refine v_iconst X 90 dX11_alone_89 ik_1 rfl ?_
    refine v_iadd X 91 dX11_alone_90 rfl ?_
    refine v_bnI (fun y1 => ?_)
    refine v_istore (lv' := [(0, .ref x0), (1, .int x1), (2, .int x2), (3, .int x3), (4, .int x3), (5, .int y1), (6, .int x6)]) X 93 dX11_alone_91 (by decide) rfl rfl ?_
    exact L_X11_alone_93 X Y hK22 _ _ _ _ _ _ _ _
set_option maxRecDepth 4000 in
theorem L_X11_alone_75 {G : Gx} (X : Cb G cX11_alone 7 RX11 (RM 5 0 0) false) (Y : Cr G (some .int) 0 0) {K22 : Nat → Int32 → Int32 → Int32 → Int32 → Int32 → Int32 → MM → Option (Int32 × MM)} (hK22 : ∀ (x0 : Nat) (x1 : Int32) (x2 : Int32) (x3 : Int32) (x4 : Int32) (x5 : Int32) (x6 : Int32) (M : MM), V G trI 7 0 0 22 [(0, .ref x0), (1, .int x1), (2, .int x2), (3, .int x3), (4, .int x4), (5, .int x5), (6, .int x6)] [] M (K22 x0 x1 x2 x3 x4 x5 x6 M)) (x0 : Nat) (x2 : Int32) (x3 : Int32) (x4 : Int32) (x5 : Int32) (x6 : Int32) (s0 : Int32) (M : MM) : V G trI 7 0 0 75 [(0, .ref x0), (2, .int x2), (3, .int x3), (4, .int x4), (5, .int x5), (6, .int x6)] [.int s0] M (f_X11_alone_75 K22 x0 x2 x3 x4 x5 x6 s0 M) := by
  unfold f_X11_alone_75
  refine v_istore_n (lv' := [(0, .ref x0), (1, .int s0), (2, .int x2), (3, .int x3), (4, .int x4), (5, .int x5), (6, .int x6)]) X 76 dX11_alone_75 (by decide) rfl rfl ?_
  exact L_X11_alone_76 X Y hK22 _ _ _ _ _ _ _ _
set_option maxRecDepth 4000 in
theorem L_X11_alone_56 {G : Gx} (X : Cb G cX11_alone 7 RX11 (RM 5 0 0) false) (Y : Cr G (some .int) 0 0) {K22 : Nat → Int32 → Int32 → Int32 → Int32 → Int32 → Int32 → MM → Option (Int32 × MM)} (hK22 : ∀ (x0 : Nat) (x1 : Int32) (x2 : Int32) (x3 : Int32) (x4 : Int32) (x5 : Int32) (x6 : Int32) (M : MM), V G trI 7 0 0 22 [(0, .ref x0), (1, .int x1), (2, .int x2), (3, .int x3), (4, .int x4), (5, .int x5), (6, .int x6)] [] M (K22 x0 x1 x2 x3 x4 x5 x6 M)) (x0 : Nat) (x1 : Int32) (x2 : Int32) (x4 : Int32) (x5 : Int32) (x6 : Int32) (s0 : Int32) (M : MM) : V G trI 7 0 0 56 [(0, .ref x0), (1, .int x1), (2, .int x2), (4, .int x4), (5, .int x5), (6, .int x6)] [.int s0] M (f_X11_alone_56 K22 x0 x1 x2 x4 x5 x6 s0 M) := by
  unfold f_X11_alone_56
  refine v_istore_n (lv' := [(0, .ref x0), (1, .int x1), (2, .int x2), (3, .int s0), (4, .int x4), (5, .int x5), (6, .int x6)]) X 57 dX11_alone_56 (by decide) rfl rfl ?_
  refine v_iload_n X 58 3 dX11_alone_57 rfl rfl ?_
  refine v_ifle X 61 76 dX11_alone_58 rfl rfl ?_ ?_
  · exact L_X11_alone_76 X Y hK22 _ _ _ _ _ _ _ _
  · refine v_iinc X 64 2 (fun z => [(0, .ref x0), (1, .int x1), (2, .int z), (3, .int s0), (4, .int x4), (5, .int x5), (6, .int x6)]) dX11_alone_61 rfl ik_1 (by decide) (fun _ => rfl) rfl (fun y1 => ?_)
    refine v_iload_n X 65 1 dX11_alone_64 rfl rfl ?_
    refine v_iconst X 66 dX11_alone_65 ik_m1 rfl ?_
    refine v_icne X 69 74 dX11_alone_66 rfl rfl ?_ ?_
    · refine v_iload_n X 75 1 dX11_alone_74 rfl rfl ?_
      exact v_sb [0, 2, 3, 4, 5, 6] (L_X11_alone_75 X Y hK22 _ _ _ _ _ _ _ _) rfl
    · refine v_iload X 71 6 dX11_alone_69 rfl rfl ?_
      refine v_goto X 75 dX11_alone_71 rfl ?_
      exact v_sb [0, 2, 3, 4, 5, 6] (L_X11_alone_75 X Y hK22 _ _ _ _ _ _ _ _) rfl
set_option maxRecDepth 4000 in
theorem L_X11_alone_22 {G : Gx} (X : Cb G cX11_alone 7 RX11 (RM 5 0 0) false) (Y : Cr G (some .int) 0 0) : ∀ (n : Nat) (x0 : Nat) (x1 : Int32) (x2 : Int32) (x3 : Int32) (x4 : Int32) (x5 : Int32) (x6 : Int32) (M : MM), V G trI 7 0 0 22 [(0, .ref x0), (1, .int x1), (2, .int x2), (3, .int x3), (4, .int x4), (5, .int x5), (6, .int x6)] [] M (f_X11_alone_22 n x0 x1 x2 x3 x4 x5 x6 M) := by
  intro n
  induction n with
  | zero => intro x0 x1 x2 x3 x4 x5 x6 M; rw [f_X11_alone_22]; exact v_none
  | succ n ih =>
    intro x0 x1 x2 x3 x4 x5 x6 M
    rw [f_X11_alone_22]
    refine v_iload X 24 6 dX11_alone_22 rfl rfl ?_
    refine v_aload_n X 25 0 dX11_alone_24 rfl rfl ?_
    refine v_getR X 28 fl_X11_26.r dX11_alone_25 rfl (fun v1 => ?_)
    refine v_getI X 31 fl_X11_172.r dX11_alone_28 rfl (fun v2 => ?_)
    refine v_icge X 34 99 dX11_alone_31 rfl rfl ?_ ?_
    · refine v_aload_n X 100 0 dX11_alone_99 rfl rfl ?_
      refine v_getR X 103 fl_X11_19.r dX11_alone_100 rfl (fun v3 => ?_)
      refine v_iload_n X 104 1 dX11_alone_103 rfl rfl ?_
      refine v_i2l X 105 dX11_alone_104 rfl ?_
      refine v_iload X 107 4 dX11_alone_105 rfl rfl ?_
      refine v_i2l X 108 dX11_alone_107 rfl ?_
      refine v_iload X 110 5 dX11_alone_108 rfl rfl ?_
      refine v_i2l X 111 dX11_alone_110 rfl ?_
      refine v_vV X 114 cv_X6_three ml_X11_295 (n1 := 4) rfl [.long (Int32.toInt64 x1), .long (Int32.toInt64 x4), .long (Int32.toInt64 x5)] rfl rfl rfl dX11_alone_111 rfl (fun M1 h => c_X6_three _ _ _ _ _ _ _ h) (fun M4 => ?_)
      refine v_iload_n X 115 2 dX11_alone_114 rfl rfl ?_
      exact v_iret X Y (Nat.le_refl _) (Nat.le_refl _) dX11_alone_115
    · refine v_aload_n X 35 0 dX11_alone_34 rfl rfl ?_
      refine v_getR X 38 fl_X11_45.r dX11_alone_35 rfl (fun v5 => ?_)
      refine v_getR X 41 fl_X11_254 dX11_alone_38 rfl (fun v6 => ?_)
      refine v_iload X 43 6 dX11_alone_41 rfl rfl ?_
      refine v_vI X 46 cv_X2_has ml_X11_294 (n1 := 1) rfl [.int x6] rfl rfl rfl dX11_alone_43 rfl (fun r M1 h => c_X2_has _ _ _ _ _ _ h) (fun r8 M7 => ?_)
      refine v_ifeq X 49 55 dX11_alone_46 rfl rfl ?_ ?_
      · refine v_iconst X 56 dX11_alone_55 ik_0 rfl ?_
        exact v_sb [0, 1, 2, 4, 5, 6] (L_X11_alone_56 X Y ih _ _ _ _ _ _ _ _) rfl
      · refine v_iload_n X 50 3 dX11_alone_49 rfl rfl ?_
        refine v_iconst X 51 dX11_alone_50 ik_1 rfl ?_
        refine v_iadd X 52 dX11_alone_51 rfl ?_
        refine v_goto X 56 dX11_alone_52 rfl ?_
        exact v_sb [0, 1, 2, 4, 5, 6] (L_X11_alone_56 X Y ih _ _ _ _ _ _ _ _) rfl
set_option maxRecDepth 4000 in
theorem L_X11_alone_0 {G : Gx} (X : Cb G cX11_alone 7 RX11 (RM 5 0 0) false) (Y : Cr G (some .int) 0 0) (x0 : Nat) (M : MM) : V G trI 7 0 0 0 [(0, .ref x0)] [] M (f_X11_alone_0 x0 M) := by
  unfold f_X11_alone_0
  refine v_aload_n X 1 0 dX11_alone_0 rfl rfl ?_
  refine v_getR X 4 fl_X11_45.r dX11_alone_1 rfl (fun v1 => ?_)
  refine v_vV X 7 cv_X1_look ml_X11_162 (n1 := 3) rfl [] rfl rfl rfl dX11_alone_4 rfl (fun M1 h => c_X1_look _ _ _ _ h) (fun M2 => ?_)
  refine v_iconst X 8 dX11_alone_7 ik_m1 rfl ?_
  refine v_istore_n (lv' := [(0, .ref x0), (1, .int (-1 : Int32))]) X 9 dX11_alone_8 (by decide) rfl rfl ?_
  refine v_iconst X 10 dX11_alone_9 ik_0 rfl ?_
  refine v_istore_n (lv' := [(0, .ref x0), (1, .int (-1 : Int32)), (2, .int (0 : Int32))]) X 11 dX11_alone_10 (by decide) rfl rfl ?_
  refine v_iconst X 12 dX11_alone_11 ik_0 rfl ?_
  refine v_istore_n (lv' := [(0, .ref x0), (1, .int (-1 : Int32)), (2, .int (0 : Int32)), (3, .int (0 : Int32))]) X 13 dX11_alone_12 (by decide) rfl rfl ?_
  refine v_iconst X 14 dX11_alone_13 ik_0 rfl ?_
  refine v_istore (lv' := [(0, .ref x0), (1, .int (-1 : Int32)), (2, .int (0 : Int32)), (3, .int (0 : Int32)), (4, .int (0 : Int32))]) X 16 dX11_alone_14 (by decide) rfl rfl ?_
  refine v_iconst X 17 dX11_alone_16 ik_m1 rfl ?_
  refine v_istore (lv' := [(0, .ref x0), (1, .int (-1 : Int32)), (2, .int (0 : Int32)), (3, .int (0 : Int32)), (4, .int (0 : Int32)), (5, .int (-1 : Int32))]) X 19 dX11_alone_17 (by decide) rfl rfl ?_
  refine v_iconst X 20 dX11_alone_19 ik_0 rfl ?_
  refine v_istore (lv' := [(0, .ref x0), (1, .int (-1 : Int32)), (2, .int (0 : Int32)), (3, .int (0 : Int32)), (4, .int (0 : Int32)), (5, .int (-1 : Int32)), (6, .int (0 : Int32))]) X 22 dX11_alone_20 (by decide) rfl rfl ?_
  exact L_X11_alone_22 X Y 1024 _ _ _ _ _ _ _ _
theorem c_X11_alone (l : Launch) (x0 : Nat) (M : MM) (r : Int32) (M1 : MM) (h : f_X11_alone x0 M = some (r, M1)) : KV l yX11_alone cX11_alone 7 (some .int) (RM 5 0 0) false 11 x0 [] M (some (.int r)) M1 := by
  obtain ⟨hO, h2⟩ := iteO_some h
  exact ⟨hO, ct_of (tr := trI) (by decide) (Nat.le_of_ble_eq_true rfl) [(0, .ref x0)] rfl h2 (fun G X Y hn hl => L_X11_alone_0 X Y x0 M)⟩

def f_X11_bench_114 (K31 : Nat → Int32 → Int32 → Int32 → Int32 → MM → Option (Int32 × MM)) (x0 : Nat) (x1 : Int32) (x2 : Int32) (x4 : Int32) (s0 : Int32) (s1 : Int32) (M : MM) : Option (Int32 × MM) :=
    bn (s1 ||| s0 : Int32) fun y1 =>
    bn (x4 + 1 : Int32) fun y2 =>
    K31 x0 x1 x2 y1 y2 M

def f_X11_bench_113 (K31 : Nat → Int32 → Int32 → Int32 → Int32 → MM → Option (Int32 × MM)) (x0 : Nat) (x1 : Int32) (x2 : Int32) (x4 : Int32) (s0 : Int32) (M : MM) : Option (Int32 × MM) :=
    f_X11_bench_114 K31 x0 x1 x2 x4 (0 : Int32) s0 M

def f_X11_bench_69 (K31 : Nat → Int32 → Int32 → Int32 → Int32 → MM → Option (Int32 × MM)) (x0 : Nat) (x1 : Int32) (x3 : Int32) (x4 : Int32) (s0 : Int32) (s1 : Int32) (M : MM) : Option (Int32 × MM) :=
    bn (s1 ||| s0 : Int32) fun y1 =>
    b1 (gR 11 5 x0 M) fun v2 =>
    b1 (gR 1 2 v2 M) fun v3 =>
    b1 (ldR 23 v3 x4 M) fun v4 =>
    b2 (f_X2_has v4 x1 M) fun r6 M5 =>
    if r6 = 0 then
      f_X11_bench_113 K31 x0 x1 y1 x4 x3 M5
    else
      b1 (gR 11 5 x0 M5) fun v7 =>
      b1 (gR 1 3 v7 M5) fun v8 =>
      b1 (ldR 23 v8 x4 M5) fun v9 =>
      b2 (f_X2_has v9 x1 M5) fun r11 M10 =>
      if r11 = 0 then
        f_X11_bench_114 K31 x0 x1 y1 x4 ((1 : Int32) <<< (x4 &&& 31)) x3 M10
      else
        f_X11_bench_113 K31 x0 x1 y1 x4 x3 M10

def f_X11_bench_31 : Nat → Nat → Int32 → Int32 → Int32 → Int32 → MM → Option (Int32 × MM)
  | 0, _, _, _, _, _, _ => none
  | n + 1, x0, x1, x2, x3, x4, M =>
    b1 (gR 11 2 x0 M) fun v1 =>
    b1 (gI 9 7 v1 M) fun v2 =>
    if v2 ≤ x4 then
      b1 (gR 11 1 x0 M) fun v3 =>
      b1 (f_X6_two v3 (Int32.toInt64 x2) (Int32.toInt64 x3) M) fun M4 =>
      b1 (gR 11 5 x0 M4) fun v5 =>
      b2 (f_X1_benchIn v5 x1 M4) fun r7 M6 =>
      some (r7, M6)
    else
      b1 (gR 11 5 x0 M) fun v8 =>
      b1 (gR 1 4 v8 M) fun v9 =>
      b1 (ldR 23 v9 x4 M) fun v10 =>
      b2 (f_X2_has v10 x1 M) fun r12 M11 =>
      if r12 = 0 then
        f_X11_bench_69 (f_X11_bench_31 n) x0 x1 x3 x4 (0 : Int32) x2 M11
      else
        f_X11_bench_69 (f_X11_bench_31 n) x0 x1 x3 x4 ((1 : Int32) <<< (x4 &&& 31)) x2 M11

def f_X11_bench_0 (x0 : Nat) (x1 : Int32) (M : MM) : Option (Int32 × MM) :=
    if x1 < 0 then
      some ((-1 : Int32), M)
    else
      b1 (gR 11 2 x0 M) fun v1 =>
      b1 (gI 9 9 v1 M) fun v2 =>
      if x1 < v2 then
        b1 (gR 11 5 x0 M) fun v3 =>
        b1 (f_X1_look v3 M) fun M4 =>
        f_X11_bench_31 1024 x0 x1 (0 : Int32) (0 : Int32) (0 : Int32) M4
      else
        some ((-1 : Int32), M)

def f_X11_bench (x0 : Nat) (x1 : Int32) (M : MM) : Option (Int32 × MM) := if isO 11 x0 M = true then f_X11_bench_0 x0 x1 M else none
set_option maxRecDepth 4000 in
theorem L_X11_bench_114 {G : Gx} (X : Cb G cX11_bench 5 RX11 (RM 4 0 0) false) (Y : Cr G (some .int) 0 0) {K31 : Nat → Int32 → Int32 → Int32 → Int32 → MM → Option (Int32 × MM)} (hK31 : ∀ (x0 : Nat) (x1 : Int32) (x2 : Int32) (x3 : Int32) (x4 : Int32) (M : MM), V G trI 5 0 0 31 [(0, .ref x0), (1, .int x1), (2, .int x2), (3, .int x3), (4, .int x4)] [] M (K31 x0 x1 x2 x3 x4 M)) (x0 : Nat) (x1 : Int32) (x2 : Int32) (x4 : Int32) (s0 : Int32) (s1 : Int32) (M : MM) : V G trI 5 0 0 114 [(0, .ref x0), (1, .int x1), (2, .int x2), (4, .int x4)] [.int s0, .int s1] M (f_X11_bench_114 K31 x0 x1 x2 x4 s0 s1 M) := by
  unfold f_X11_bench_114
  refine v_ior X 115 dX11_bench_114 rfl ?_
  refine v_bnI (fun y1 => ?_)
  refine v_istore_n (lv' := [(0, .ref x0), (1, .int x1), (2, .int x2), (3, .int y1), (4, .int x4)]) X 116 dX11_bench_115 (by decide) rfl rfl ?_
  refine v_iinc X 119 4 (fun z => [(0, .ref x0), (1, .int x1), (2, .int x2), (3, .int y1), (4, .int z)]) dX11_bench_116 rfl ik_1 (by decide) (fun _ => rfl) rfl (fun y2 => ?_)
  refine v_goto X 31 dX11_bench_119 rfl ?_
  exact hK31 _ _ _ _ _ _
set_option maxRecDepth 4000 in
theorem L_X11_bench_113 {G : Gx} (X : Cb G cX11_bench 5 RX11 (RM 4 0 0) false) (Y : Cr G (some .int) 0 0) {K31 : Nat → Int32 → Int32 → Int32 → Int32 → MM → Option (Int32 × MM)} (hK31 : ∀ (x0 : Nat) (x1 : Int32) (x2 : Int32) (x3 : Int32) (x4 : Int32) (M : MM), V G trI 5 0 0 31 [(0, .ref x0), (1, .int x1), (2, .int x2), (3, .int x3), (4, .int x4)] [] M (K31 x0 x1 x2 x3 x4 M)) (x0 : Nat) (x1 : Int32) (x2 : Int32) (x4 : Int32) (s0 : Int32) (M : MM) : V G trI 5 0 0 113 [(0, .ref x0), (1, .int x1), (2, .int x2), (4, .int x4)] [.int s0] M (f_X11_bench_113 K31 x0 x1 x2 x4 s0 M) := by
  unfold f_X11_bench_113
  refine v_iconst X 114 dX11_bench_113 ik_0 rfl ?_
  exact L_X11_bench_114 X Y hK31 _ _ _ _ _ _ _
set_option maxRecDepth 4000 in
theorem L_X11_bench_69 {G : Gx} (X : Cb G cX11_bench 5 RX11 (RM 4 0 0) false) (Y : Cr G (some .int) 0 0) {K31 : Nat → Int32 → Int32 → Int32 → Int32 → MM → Option (Int32 × MM)} (hK31 : ∀ (x0 : Nat) (x1 : Int32) (x2 : Int32) (x3 : Int32) (x4 : Int32) (M : MM), V G trI 5 0 0 31 [(0, .ref x0), (1, .int x1), (2, .int x2), (3, .int x3), (4, .int x4)] [] M (K31 x0 x1 x2 x3 x4 M)) (x0 : Nat) (x1 : Int32) (x3 : Int32) (x4 : Int32) (s0 : Int32) (s1 : Int32) (M : MM) : V G trI 5 0 0 69 [(0, .ref x0), (1, .int x1), (3, .int x3), (4, .int x4)] [.int s0, .int s1] M (f_X11_bench_69 K31 x0 x1 x3 x4 s0 s1 M) := by
  unfold f_X11_bench_69
  refine v_ior X 70 dX11_bench_69 rfl ?_
  refine v_bnI (fun y1 => ?_)
  refine v_istore_n (lv' := [(0, .ref x0), (1, .int x1), (2, .int y1), (3, .int x3), (4, .int x4)]) X 71 dX11_bench_70 (by decide) rfl rfl ?_
  refine v_iload_n X 72 3 dX11_bench_71 rfl rfl ?_
  refine v_aload_n X 73 0 dX11_bench_72 rfl rfl ?_
  refine v_getR X 76 fl_X11_45.r dX11_bench_73 rfl (fun v2 => ?_)
  refine v_getR X 79 fl_X11_306 dX11_bench_76 rfl (fun v3 => ?_)
  refine v_iload X 81 4 dX11_bench_79 rfl rfl ?_
  refine v_aald23 X 82 dX11_bench_81 rfl (fun v4 => ?_)
  refine v_iload_n X 83 1 dX11_bench_82 rfl rfl ?_
  refine v_vI X 86 cv_X2_has ml_X11_294 (n1 := 1) rfl [.int x1] rfl rfl rfl dX11_bench_83 rfl (fun r M1 h => c_X2_has _ _ _ _ _ _ h) (fun r6 M5 => ?_)
  refine v_ifeq X 89 113 dX11_bench_86 rfl rfl ?_ ?_
  · exact v_sb [0, 1, 2, 4] (L_X11_bench_113 X Y hK31 _ _ _ _ _ _) rfl
  · refine v_aload_n X 90 0 dX11_bench_89 rfl rfl ?_
    refine v_getR X 93 fl_X11_45.r dX11_bench_90 rfl (fun v7 => ?_)
    refine v_getR X 96 fl_X11_309 dX11_bench_93 rfl (fun v8 => ?_)
    refine v_iload X 98 4 dX11_bench_96 rfl rfl ?_
    refine v_aald23 X 99 dX11_bench_98 rfl (fun v9 => ?_)
    refine v_iload_n X 100 1 dX11_bench_99 rfl rfl ?_
    refine v_vI X 103 cv_X2_has ml_X11_294 (n1 := 1) rfl [.int x1] rfl rfl rfl dX11_bench_100 rfl (fun r M1 h => c_X2_has _ _ _ _ _ _ h) (fun r11 M10 => ?_)
    refine v_ifne X 106 113 dX11_bench_103 rfl rfl ?_ ?_
    · exact v_sb [0, 1, 2, 4] (L_X11_bench_113 X Y hK31 _ _ _ _ _ _) rfl
    · refine v_iconst X 107 dX11_bench_106 ik_1 rfl ?_
      refine v_iload X 109 4 dX11_bench_107 rfl rfl ?_
      refine v_ishl X 110 dX11_bench_109 rfl ?_
      refine v_goto X 114 dX11_bench_110 rfl ?_
      exact v_sb [0, 1, 2, 4] (L_X11_bench_114 X Y hK31 _ _ _ _ _ _ _) rfl
set_option maxRecDepth 4000 in
theorem L_X11_bench_31 {G : Gx} (X : Cb G cX11_bench 5 RX11 (RM 4 0 0) false) (Y : Cr G (some .int) 0 0) : ∀ (n : Nat) (x0 : Nat) (x1 : Int32) (x2 : Int32) (x3 : Int32) (x4 : Int32) (M : MM), V G trI 5 0 0 31 [(0, .ref x0), (1, .int x1), (2, .int x2), (3, .int x3), (4, .int x4)] [] M (f_X11_bench_31 n x0 x1 x2 x3 x4 M) := by
  intro n
  induction n with
  | zero => intro x0 x1 x2 x3 x4 M; rw [f_X11_bench_31]; exact v_none
  | succ n ih =>
    intro x0 x1 x2 x3 x4 M
    rw [f_X11_bench_31]
    refine v_iload X 33 4 dX11_bench_31 rfl rfl ?_
    refine v_aload_n X 34 0 dX11_bench_33 rfl rfl ?_
    refine v_getR X 37 fl_X11_26.r dX11_bench_34 rfl (fun v1 => ?_)
    refine v_getI X 40 fl_X11_299.r dX11_bench_37 rfl (fun v2 => ?_)
    refine v_icge X 43 122 dX11_bench_40 rfl rfl ?_ ?_
    · refine v_aload_n X 123 0 dX11_bench_122 rfl rfl ?_
      refine v_getR X 126 fl_X11_19.r dX11_bench_123 rfl (fun v3 => ?_)
      refine v_iload_n X 127 2 dX11_bench_126 rfl rfl ?_
      refine v_i2l X 128 dX11_bench_127 rfl ?_
      refine v_iload_n X 129 3 dX11_bench_128 rfl rfl ?_
      refine v_i2l X 130 dX11_bench_129 rfl ?_
      refine v_vV X 133 cv_X6_two ml_X11_285 (n1 := 3) rfl [.long (Int32.toInt64 x2), .long (Int32.toInt64 x3)] rfl rfl rfl dX11_bench_130 rfl (fun M1 h => c_X6_two _ _ _ _ _ _ h) (fun M4 => ?_)
      refine v_aload_n X 134 0 dX11_bench_133 rfl rfl ?_
      refine v_getR X 137 fl_X11_45.r dX11_bench_134 rfl (fun v5 => ?_)
      refine v_iload_n X 138 1 dX11_bench_137 rfl rfl ?_
      refine v_vI X 141 cv_X1_benchIn ml_X11_312 (n1 := 2) rfl [.int x1] rfl rfl rfl dX11_bench_138 rfl (fun r M1 h => c_X1_benchIn _ _ _ _ _ _ h) (fun r7 M6 => ?_)
      exact v_iret X Y (Nat.le_refl _) (Nat.le_refl _) dX11_bench_141
    · refine v_iload_n X 44 2 dX11_bench_43 rfl rfl ?_
      refine v_aload_n X 45 0 dX11_bench_44 rfl rfl ?_
      refine v_getR X 48 fl_X11_45.r dX11_bench_45 rfl (fun v8 => ?_)
      refine v_getR X 51 fl_X11_302 dX11_bench_48 rfl (fun v9 => ?_)
      refine v_iload X 53 4 dX11_bench_51 rfl rfl ?_
      refine v_aald23 X 54 dX11_bench_53 rfl (fun v10 => ?_)
      refine v_iload_n X 55 1 dX11_bench_54 rfl rfl ?_
      refine v_vI X 58 cv_X2_has ml_X11_294 (n1 := 1) rfl [.int x1] rfl rfl rfl dX11_bench_55 rfl (fun r M1 h => c_X2_has _ _ _ _ _ _ h) (fun r12 M11 => ?_)
      refine v_ifeq X 61 68 dX11_bench_58 rfl rfl ?_ ?_
      · refine v_iconst X 69 dX11_bench_68 ik_0 rfl ?_
        exact v_sb [0, 1, 3, 4] (L_X11_bench_69 X Y ih _ _ _ _ _ _ _) rfl
      · refine v_iconst X 62 dX11_bench_61 ik_1 rfl ?_
        refine v_iload X 64 4 dX11_bench_62 rfl rfl ?_
        refine v_ishl X 65 dX11_bench_64 rfl ?_
        refine v_goto X 69 dX11_bench_65 rfl ?_
        exact v_sb [0, 1, 3, 4] (L_X11_bench_69 X Y ih _ _ _ _ _ _ _) rfl
set_option maxRecDepth 4000 in
theorem L_X11_bench_0 {G : Gx} (X : Cb G cX11_bench 5 RX11 (RM 4 0 0) false) (Y : Cr G (some .int) 0 0) (x0 : Nat) (x1 : Int32) (M : MM) : V G trI 5 0 0 0 [(0, .ref x0), (1, .int x1)] [] M (f_X11_bench_0 x0 x1 M) := by
  unfold f_X11_bench_0
  refine v_iload_n X 1 1 dX11_bench_0 rfl rfl ?_
  refine v_iflt X 4 15 dX11_bench_1 rfl rfl ?_ ?_
  · refine v_iconst X 16 dX11_bench_15 ik_m1 rfl ?_
    exact v_iret X Y (Nat.le_refl _) (Nat.le_refl _) dX11_bench_16
  · refine v_iload_n X 5 1 dX11_bench_4 rfl rfl ?_
    refine v_aload_n X 6 0 dX11_bench_5 rfl rfl ?_
    refine v_getR X 9 fl_X11_26.r dX11_bench_6 rfl (fun v1 => ?_)
    refine v_getI X 12 fl_X11_172.r dX11_bench_9 rfl (fun v2 => ?_)
    refine v_iclt X 15 17 dX11_bench_12 rfl rfl ?_ ?_
    · refine v_aload_n X 18 0 dX11_bench_17 rfl rfl ?_
      refine v_getR X 21 fl_X11_45.r dX11_bench_18 rfl (fun v3 => ?_)
      refine v_vV X 24 cv_X1_look ml_X11_162 (n1 := 3) rfl [] rfl rfl rfl dX11_bench_21 rfl (fun M1 h => c_X1_look _ _ _ _ h) (fun M4 => ?_)
      refine v_iconst X 25 dX11_bench_24 ik_0 rfl ?_
      refine v_istore_n (lv' := [(0, .ref x0), (1, .int x1), (2, .int (0 : Int32))]) X 26 dX11_bench_25 (by decide) rfl rfl ?_
      refine v_iconst X 27 dX11_bench_26 ik_0 rfl ?_
      refine v_istore_n (lv' := [(0, .ref x0), (1, .int x1), (2, .int (0 : Int32)), (3, .int (0 : Int32))]) X 28 dX11_bench_27 (by decide) rfl rfl ?_
      refine v_iconst X 29 dX11_bench_28 ik_0 rfl ?_
      refine v_istore (lv' := [(0, .ref x0), (1, .int x1), (2, .int (0 : Int32)), (3, .int (0 : Int32)), (4, .int (0 : Int32))]) X 31 dX11_bench_29 (by decide) rfl rfl ?_
      exact L_X11_bench_31 X Y 1024 _ _ _ _ _ _
    · refine v_iconst X 16 dX11_bench_15 ik_m1 rfl ?_
      exact v_iret X Y (Nat.le_refl _) (Nat.le_refl _) dX11_bench_16
theorem c_X11_bench (l : Launch) (x0 : Nat) (x1 : Int32) (M : MM) (r : Int32) (M1 : MM) (h : f_X11_bench x0 x1 M = some (r, M1)) : KV l yX11_bench cX11_bench 5 (some .int) (RM 4 0 0) false 11 x0 [.int x1] M (some (.int r)) M1 := by
  obtain ⟨hO, h2⟩ := iteO_some h
  exact ⟨hO, ct_of (tr := trI) (by decide) (Nat.le_of_ble_eq_true rfl) [(0, .ref x0), (1, .int x1)] rfl h2 (fun G X Y hn hl => L_X11_bench_0 X Y x0 x1 M)⟩

def f_X11_worth_42 (K6 : Nat → Int32 → Int32 → Int32 → MM → Option (Int32 × MM)) (x0 : Nat) (x1 : Int32) (x2 : Int32) (x3 : Int32) (M : MM) : Option (Int32 × MM) :=
    bn (x3 + 1 : Int32) fun y1 =>
    K6 x0 x1 x2 y1 M

def f_X11_worth_41 (K6 : Nat → Int32 → Int32 → Int32 → MM → Option (Int32 × MM)) (x0 : Nat) (x1 : Int32) (x3 : Int32) (s0 : Int32) (M : MM) : Option (Int32 × MM) :=
    f_X11_worth_42 K6 x0 x1 s0 x3 M

def f_X11_worth_6 : Nat → Nat → Int32 → Int32 → Int32 → MM → Option (Int32 × MM)
  | 0, _, _, _, _, _ => none
  | n + 1, x0, x1, x2, x3, M =>
    b1 (gR 11 3 x0 M) fun v1 =>
    b1 (gI 5 1 v1 M) fun v2 =>
    if v2 ≤ x3 then
      b1 (gR 11 1 x0 M) fun v3 =>
      b1 (f_X6_two v3 (Int32.toInt64 x1) (Int32.toInt64 x2) M) fun M4 =>
      b1 (gR 11 7 x0 M4) fun v5 =>
      b2 (f_X7_sum v5 M4) fun r7 M6 =>
      some (r7, M6)
    else
      b1 (gR 11 5 x0 M) fun v8 =>
      b2 (f_X1_brokenBy v8 x3 M) fun r10 M9 =>
      if r10 = 0 then
        f_X11_worth_42 (f_X11_worth_6 n) x0 x1 x2 x3 M9
      else
        bn (x1 + 1 : Int32) fun y11 =>
        if x2 = (-1 : Int32) then
          f_X11_worth_41 (f_X11_worth_6 n) x0 y11 x3 x3 M9
        else
          f_X11_worth_41 (f_X11_worth_6 n) x0 y11 x3 x2 M9

def f_X11_worth_0 (x0 : Nat) (M : MM) : Option (Int32 × MM) :=
    f_X11_worth_6 1024 x0 (0 : Int32) (-1 : Int32) (0 : Int32) M

def f_X11_worth (x0 : Nat) (M : MM) : Option (Int32 × MM) := if isO 11 x0 M = true then f_X11_worth_0 x0 M else none
set_option maxRecDepth 4000 in
theorem L_X11_worth_42 {G : Gx} (X : Cb G cX11_worth 4 RX11 (RM 5 0 0) false) (Y : Cr G (some .int) 0 0) {K6 : Nat → Int32 → Int32 → Int32 → MM → Option (Int32 × MM)} (hK6 : ∀ (x0 : Nat) (x1 : Int32) (x2 : Int32) (x3 : Int32) (M : MM), V G trI 4 0 0 6 [(0, .ref x0), (1, .int x1), (2, .int x2), (3, .int x3)] [] M (K6 x0 x1 x2 x3 M)) (x0 : Nat) (x1 : Int32) (x2 : Int32) (x3 : Int32) (M : MM) : V G trI 4 0 0 42 [(0, .ref x0), (1, .int x1), (2, .int x2), (3, .int x3)] [] M (f_X11_worth_42 K6 x0 x1 x2 x3 M) := by
  unfold f_X11_worth_42
  refine v_iinc X 45 3 (fun z => [(0, .ref x0), (1, .int x1), (2, .int x2), (3, .int z)]) dX11_worth_42 rfl ik_1 (by decide) (fun _ => rfl) rfl (fun y1 => ?_)
  refine v_goto X 6 dX11_worth_45 rfl ?_
  exact hK6 _ _ _ _ _
set_option maxRecDepth 4000 in
theorem L_X11_worth_41 {G : Gx} (X : Cb G cX11_worth 4 RX11 (RM 5 0 0) false) (Y : Cr G (some .int) 0 0) {K6 : Nat → Int32 → Int32 → Int32 → MM → Option (Int32 × MM)} (hK6 : ∀ (x0 : Nat) (x1 : Int32) (x2 : Int32) (x3 : Int32) (M : MM), V G trI 4 0 0 6 [(0, .ref x0), (1, .int x1), (2, .int x2), (3, .int x3)] [] M (K6 x0 x1 x2 x3 M)) (x0 : Nat) (x1 : Int32) (x3 : Int32) (s0 : Int32) (M : MM) : V G trI 4 0 0 41 [(0, .ref x0), (1, .int x1), (3, .int x3)] [.int s0] M (f_X11_worth_41 K6 x0 x1 x3 s0 M) := by
  unfold f_X11_worth_41
  refine v_istore_n (lv' := [(0, .ref x0), (1, .int x1), (2, .int s0), (3, .int x3)]) X 42 dX11_worth_41 (by decide) rfl rfl ?_
  exact L_X11_worth_42 X Y hK6 _ _ _ _ _
set_option maxRecDepth 4000 in
theorem L_X11_worth_6 {G : Gx} (X : Cb G cX11_worth 4 RX11 (RM 5 0 0) false) (Y : Cr G (some .int) 0 0) : ∀ (n : Nat) (x0 : Nat) (x1 : Int32) (x2 : Int32) (x3 : Int32) (M : MM), V G trI 4 0 0 6 [(0, .ref x0), (1, .int x1), (2, .int x2), (3, .int x3)] [] M (f_X11_worth_6 n x0 x1 x2 x3 M) := by
  intro n
  induction n with
  | zero => intro x0 x1 x2 x3 M; rw [f_X11_worth_6]; exact v_none
  | succ n ih =>
    intro x0 x1 x2 x3 M
    rw [f_X11_worth_6]
    refine v_iload_n X 7 3 dX11_worth_6 rfl rfl ?_
    refine v_aload_n X 8 0 dX11_worth_7 rfl rfl ?_
    refine v_getR X 11 fl_X11_33.r dX11_worth_8 rfl (fun v1 => ?_)
    refine v_getI X 14 fl_X11_143.r dX11_worth_11 rfl (fun v2 => ?_)
    refine v_icge X 17 48 dX11_worth_14 rfl rfl ?_ ?_
    · refine v_aload_n X 49 0 dX11_worth_48 rfl rfl ?_
      refine v_getR X 52 fl_X11_19.r dX11_worth_49 rfl (fun v3 => ?_)
      refine v_iload_n X 53 1 dX11_worth_52 rfl rfl ?_
      refine v_i2l X 54 dX11_worth_53 rfl ?_
      refine v_iload_n X 55 2 dX11_worth_54 rfl rfl ?_
      refine v_i2l X 56 dX11_worth_55 rfl ?_
      refine v_vV X 59 cv_X6_two ml_X11_285 (n1 := 3) rfl [.long (Int32.toInt64 x1), .long (Int32.toInt64 x2)] rfl rfl rfl dX11_worth_56 rfl (fun M1 h => c_X6_two _ _ _ _ _ _ h) (fun M4 => ?_)
      refine v_aload_n X 60 0 dX11_worth_59 rfl rfl ?_
      refine v_getR X 63 fl_X11_55.r dX11_worth_60 rfl (fun v5 => ?_)
      refine v_vI X 66 cv_X7_sum ml_X11_282 (n1 := 4) rfl [] rfl rfl rfl dX11_worth_63 rfl (fun r M1 h => c_X7_sum _ _ _ _ _ h) (fun r7 M6 => ?_)
      exact v_iret X Y (Nat.le_refl _) (Nat.le_refl _) dX11_worth_66
    · refine v_aload_n X 18 0 dX11_worth_17 rfl rfl ?_
      refine v_getR X 21 fl_X11_45.r dX11_worth_18 rfl (fun v8 => ?_)
      refine v_iload_n X 22 3 dX11_worth_21 rfl rfl ?_
      refine v_vI X 25 cv_X1_brokenBy ml_X11_226 (n1 := 4) rfl [.int x3] rfl rfl rfl dX11_worth_22 rfl (fun r M1 h => c_X1_brokenBy _ _ _ _ _ _ h) (fun r10 M9 => ?_)
      refine v_ifeq X 28 42 dX11_worth_25 rfl rfl ?_ ?_
      · exact L_X11_worth_42 X Y ih _ _ _ _ _
      · refine v_iinc X 31 1 (fun z => [(0, .ref x0), (1, .int z), (2, .int x2), (3, .int x3)]) dX11_worth_28 rfl ik_1 (by decide) (fun _ => rfl) rfl (fun y11 => ?_)
        refine v_iload_n X 32 2 dX11_worth_31 rfl rfl ?_
        refine v_iconst X 33 dX11_worth_32 ik_m1 rfl ?_
        refine v_icne X 36 40 dX11_worth_33 rfl rfl ?_ ?_
        · refine v_iload_n X 41 2 dX11_worth_40 rfl rfl ?_
          exact v_sb [0, 1, 3] (L_X11_worth_41 X Y ih _ _ _ _ _) rfl
        · refine v_iload_n X 37 3 dX11_worth_36 rfl rfl ?_
          refine v_goto X 41 dX11_worth_37 rfl ?_
          exact v_sb [0, 1, 3] (L_X11_worth_41 X Y ih _ _ _ _ _) rfl
set_option maxRecDepth 4000 in
theorem L_X11_worth_0 {G : Gx} (X : Cb G cX11_worth 4 RX11 (RM 5 0 0) false) (Y : Cr G (some .int) 0 0) (x0 : Nat) (M : MM) : V G trI 4 0 0 0 [(0, .ref x0)] [] M (f_X11_worth_0 x0 M) := by
  unfold f_X11_worth_0
  refine v_iconst X 1 dX11_worth_0 ik_0 rfl ?_
  refine v_istore_n (lv' := [(0, .ref x0), (1, .int (0 : Int32))]) X 2 dX11_worth_1 (by decide) rfl rfl ?_
  refine v_iconst X 3 dX11_worth_2 ik_m1 rfl ?_
  refine v_istore_n (lv' := [(0, .ref x0), (1, .int (0 : Int32)), (2, .int (-1 : Int32))]) X 4 dX11_worth_3 (by decide) rfl rfl ?_
  refine v_iconst X 5 dX11_worth_4 ik_0 rfl ?_
  refine v_istore_n (lv' := [(0, .ref x0), (1, .int (0 : Int32)), (2, .int (-1 : Int32)), (3, .int (0 : Int32))]) X 6 dX11_worth_5 (by decide) rfl rfl ?_
  exact L_X11_worth_6 X Y 1024 _ _ _ _ _
theorem c_X11_worth (l : Launch) (x0 : Nat) (M : MM) (r : Int32) (M1 : MM) (h : f_X11_worth x0 M = some (r, M1)) : KV l yX11_worth cX11_worth 4 (some .int) (RM 5 0 0) false 11 x0 [] M (some (.int r)) M1 := by
  obtain ⟨hO, h2⟩ := iteO_some h
  exact ⟨hO, ct_of (tr := trI) (by decide) (Nat.le_of_ble_eq_true rfl) [(0, .ref x0)] rfl h2 (fun G X Y hn hl => L_X11_worth_0 X Y x0 M)⟩

def f_X11_stays_86 (K26 : Nat → Int32 → Int32 → Int32 → MM → Option (Int32 × MM)) (x0 : Nat) (x1 : Int32) (x3 : Int32) (s0 : Int32) (M : MM) : Option (Int32 × MM) :=
    bn (x3 + 1 : Int32) fun y1 =>
    K26 x0 x1 s0 y1 M

def f_X11_stays_61 (K26 : Nat → Int32 → Int32 → Int32 → MM → Option (Int32 × MM)) (x0 : Nat) (x2 : Int32) (x3 : Int32) (s0 : Int32) (M : MM) : Option (Int32 × MM) :=
    b1 (gR 11 5 x0 M) fun v1 =>
    b2 (f_X1_atBench v1 x3 M) fun r3 M2 =>
    b1 (gR 11 5 x0 M2) fun v4 =>
    b2 (f_X1_atBench v4 x2 M2) fun r6 M5 =>
    if r6 ≤ r3 then
      f_X11_stays_86 K26 x0 s0 x3 x2 M5
    else
      f_X11_stays_86 K26 x0 s0 x3 x3 M5

def f_X11_stays_26 : Nat → Nat → Int32 → Int32 → Int32 → MM → Option (Int32 × MM)
  | 0, _, _, _, _, _ => none
  | n + 1, x0, x1, x2, x3, M =>
    b1 (gR 11 2 x0 M) fun v1 =>
    b1 (gI 9 7 v1 M) fun v2 =>
    if v2 ≤ x3 then
      b1 (gR 11 1 x0 M) fun v3 =>
      b1 (gR 11 5 x0 M) fun v4 =>
      b2 (f_X1_atBench v4 x1 M) fun r6 M5 =>
      b1 (gR 11 5 x0 M5) fun v7 =>
      b2 (f_X1_atBench v7 x2 M5) fun r9 M8 =>
      b1 (f_X6_three v3 (Int32.toInt64 r6) (Int32.toInt64 x2) (Int32.toInt64 r9) M8) fun M10 =>
      some (x1, M10)
    else
      b1 (gR 11 5 x0 M) fun v11 =>
      b2 (f_X1_atBench v11 x3 M) fun r13 M12 =>
      b1 (gR 11 5 x0 M12) fun v14 =>
      b2 (f_X1_atBench v14 x1 M12) fun r16 M15 =>
      if r13 ≤ r16 then
        f_X11_stays_61 (f_X11_stays_26 n) x0 x2 x3 x1 M15
      else
        f_X11_stays_61 (f_X11_stays_26 n) x0 x2 x3 x3 M15

def f_X11_stays_0 (x0 : Nat) (M : MM) : Option (Int32 × MM) :=
    b1 (gR 11 2 x0 M) fun v1 =>
    b1 (gI 9 7 v1 M) fun v2 =>
    if v2 = 0 then
      some ((-2 : Int32), M)
    else
      b1 (gR 11 5 x0 M) fun v3 =>
      b1 (f_X1_look v3 M) fun M4 =>
      f_X11_stays_26 1024 x0 (0 : Int32) (0 : Int32) (1 : Int32) M4

def f_X11_stays (x0 : Nat) (M : MM) : Option (Int32 × MM) := if isO 11 x0 M = true then f_X11_stays_0 x0 M else none
set_option maxRecDepth 4000 in
theorem L_X11_stays_86 {G : Gx} (X : Cb G cX11_stays 4 RX11 (RM 5 0 0) false) (Y : Cr G (some .int) 0 0) {K26 : Nat → Int32 → Int32 → Int32 → MM → Option (Int32 × MM)} (hK26 : ∀ (x0 : Nat) (x1 : Int32) (x2 : Int32) (x3 : Int32) (M : MM), V G trI 4 0 0 26 [(0, .ref x0), (1, .int x1), (2, .int x2), (3, .int x3)] [] M (K26 x0 x1 x2 x3 M)) (x0 : Nat) (x1 : Int32) (x3 : Int32) (s0 : Int32) (M : MM) : V G trI 4 0 0 86 [(0, .ref x0), (1, .int x1), (3, .int x3)] [.int s0] M (f_X11_stays_86 K26 x0 x1 x3 s0 M) := by
  unfold f_X11_stays_86
  refine v_istore_n (lv' := [(0, .ref x0), (1, .int x1), (2, .int s0), (3, .int x3)]) X 87 dX11_stays_86 (by decide) rfl rfl ?_
  refine v_iinc X 90 3 (fun z => [(0, .ref x0), (1, .int x1), (2, .int s0), (3, .int z)]) dX11_stays_87 rfl ik_1 (by decide) (fun _ => rfl) rfl (fun y1 => ?_)
  refine v_goto X 26 dX11_stays_90 rfl ?_
  exact hK26 _ _ _ _ _
set_option maxRecDepth 4000 in
theorem L_X11_stays_61 {G : Gx} (X : Cb G cX11_stays 4 RX11 (RM 5 0 0) false) (Y : Cr G (some .int) 0 0) {K26 : Nat → Int32 → Int32 → Int32 → MM → Option (Int32 × MM)} (hK26 : ∀ (x0 : Nat) (x1 : Int32) (x2 : Int32) (x3 : Int32) (M : MM), V G trI 4 0 0 26 [(0, .ref x0), (1, .int x1), (2, .int x2), (3, .int x3)] [] M (K26 x0 x1 x2 x3 M)) (x0 : Nat) (x2 : Int32) (x3 : Int32) (s0 : Int32) (M : MM) : V G trI 4 0 0 61 [(0, .ref x0), (2, .int x2), (3, .int x3)] [.int s0] M (f_X11_stays_61 K26 x0 x2 x3 s0 M) := by
  unfold f_X11_stays_61
  refine v_istore_n (lv' := [(0, .ref x0), (1, .int s0), (2, .int x2), (3, .int x3)]) X 62 dX11_stays_61 (by decide) rfl rfl ?_
  refine v_aload_n X 63 0 dX11_stays_62 rfl rfl ?_
  refine v_getR X 66 fl_X11_45.r dX11_stays_63 rfl (fun v1 => ?_)
  refine v_iload_n X 67 3 dX11_stays_66 rfl rfl ?_
  refine v_vI X 70 cv_X1_atBench ml_X11_175 (n1 := 2) rfl [.int x3] rfl rfl rfl dX11_stays_67 rfl (fun r M1 h => c_X1_atBench _ _ _ _ _ _ h) (fun r3 M2 => ?_)
  refine v_aload_n X 71 0 dX11_stays_70 rfl rfl ?_
  refine v_getR X 74 fl_X11_45.r dX11_stays_71 rfl (fun v4 => ?_)
  refine v_iload_n X 75 2 dX11_stays_74 rfl rfl ?_
  refine v_vI X 78 cv_X1_atBench ml_X11_175 (n1 := 2) rfl [.int x2] rfl rfl rfl dX11_stays_75 rfl (fun r M1 h => c_X1_atBench _ _ _ _ _ _ h) (fun r6 M5 => ?_)
  refine v_icge X 81 85 dX11_stays_78 rfl rfl ?_ ?_
  · refine v_iload_n X 86 2 dX11_stays_85 rfl rfl ?_
    exact v_sb [0, 1, 3] (L_X11_stays_86 X Y hK26 _ _ _ _ _) rfl
  · refine v_iload_n X 82 3 dX11_stays_81 rfl rfl ?_
    refine v_goto X 86 dX11_stays_82 rfl ?_
    exact v_sb [0, 1, 3] (L_X11_stays_86 X Y hK26 _ _ _ _ _) rfl
set_option maxRecDepth 4000 in
theorem L_X11_stays_26 {G : Gx} (X : Cb G cX11_stays 4 RX11 (RM 5 0 0) false) (Y : Cr G (some .int) 0 0) : ∀ (n : Nat) (x0 : Nat) (x1 : Int32) (x2 : Int32) (x3 : Int32) (M : MM), V G trI 4 0 0 26 [(0, .ref x0), (1, .int x1), (2, .int x2), (3, .int x3)] [] M (f_X11_stays_26 n x0 x1 x2 x3 M) := by
  intro n
  induction n with
  | zero => intro x0 x1 x2 x3 M; rw [f_X11_stays_26]; exact v_none
  | succ n ih =>
    intro x0 x1 x2 x3 M
    rw [f_X11_stays_26]
    refine v_iload_n X 27 3 dX11_stays_26 rfl rfl ?_
    refine v_aload_n X 28 0 dX11_stays_27 rfl rfl ?_
    refine v_getR X 31 fl_X11_26.r dX11_stays_28 rfl (fun v1 => ?_)
    refine v_getI X 34 fl_X11_299.r dX11_stays_31 rfl (fun v2 => ?_)
    refine v_icge X 37 93 dX11_stays_34 rfl rfl ?_ ?_
    · refine v_aload_n X 94 0 dX11_stays_93 rfl rfl ?_
      refine v_getR X 97 fl_X11_19.r dX11_stays_94 rfl (fun v3 => ?_)
      refine v_aload_n X 98 0 dX11_stays_97 rfl rfl ?_
      refine v_getR X 101 fl_X11_45.r dX11_stays_98 rfl (fun v4 => ?_)
      refine v_iload_n X 102 1 dX11_stays_101 rfl rfl ?_
      refine v_vI X 105 cv_X1_atBench ml_X11_175 (n1 := 2) rfl [.int x1] rfl rfl rfl dX11_stays_102 rfl (fun r M1 h => c_X1_atBench _ _ _ _ _ _ h) (fun r6 M5 => ?_)
      refine v_i2l X 106 dX11_stays_105 rfl ?_
      refine v_iload_n X 107 2 dX11_stays_106 rfl rfl ?_
      refine v_i2l X 108 dX11_stays_107 rfl ?_
      refine v_aload_n X 109 0 dX11_stays_108 rfl rfl ?_
      refine v_getR X 112 fl_X11_45.r dX11_stays_109 rfl (fun v7 => ?_)
      refine v_iload_n X 113 2 dX11_stays_112 rfl rfl ?_
      refine v_vI X 116 cv_X1_atBench ml_X11_175 (n1 := 2) rfl [.int x2] rfl rfl rfl dX11_stays_113 rfl (fun r M1 h => c_X1_atBench _ _ _ _ _ _ h) (fun r9 M8 => ?_)
      refine v_i2l X 117 dX11_stays_116 rfl ?_
      refine v_vV X 120 cv_X6_three ml_X11_295 (n1 := 4) rfl [.long (Int32.toInt64 r6), .long (Int32.toInt64 x2), .long (Int32.toInt64 r9)] rfl rfl rfl dX11_stays_117 rfl (fun M1 h => c_X6_three _ _ _ _ _ _ _ h) (fun M10 => ?_)
      refine v_iload_n X 121 1 dX11_stays_120 rfl rfl ?_
      exact v_iret X Y (Nat.le_refl _) (Nat.le_refl _) dX11_stays_121
    · refine v_aload_n X 38 0 dX11_stays_37 rfl rfl ?_
      refine v_getR X 41 fl_X11_45.r dX11_stays_38 rfl (fun v11 => ?_)
      refine v_iload_n X 42 3 dX11_stays_41 rfl rfl ?_
      refine v_vI X 45 cv_X1_atBench ml_X11_175 (n1 := 2) rfl [.int x3] rfl rfl rfl dX11_stays_42 rfl (fun r M1 h => c_X1_atBench _ _ _ _ _ _ h) (fun r13 M12 => ?_)
      refine v_aload_n X 46 0 dX11_stays_45 rfl rfl ?_
      refine v_getR X 49 fl_X11_45.r dX11_stays_46 rfl (fun v14 => ?_)
      refine v_iload_n X 50 1 dX11_stays_49 rfl rfl ?_
      refine v_vI X 53 cv_X1_atBench ml_X11_175 (n1 := 2) rfl [.int x1] rfl rfl rfl dX11_stays_50 rfl (fun r M1 h => c_X1_atBench _ _ _ _ _ _ h) (fun r16 M15 => ?_)
      refine v_icle X 56 60 dX11_stays_53 rfl rfl ?_ ?_
      · refine v_iload_n X 61 1 dX11_stays_60 rfl rfl ?_
        exact v_sb [0, 2, 3] (L_X11_stays_61 X Y ih _ _ _ _ _) rfl
      · refine v_iload_n X 57 3 dX11_stays_56 rfl rfl ?_
        refine v_goto X 61 dX11_stays_57 rfl ?_
        exact v_sb [0, 2, 3] (L_X11_stays_61 X Y ih _ _ _ _ _) rfl
set_option maxRecDepth 4000 in
theorem L_X11_stays_0 {G : Gx} (X : Cb G cX11_stays 4 RX11 (RM 5 0 0) false) (Y : Cr G (some .int) 0 0) (x0 : Nat) (M : MM) : V G trI 4 0 0 0 [(0, .ref x0)] [] M (f_X11_stays_0 x0 M) := by
  unfold f_X11_stays_0
  refine v_aload_n X 1 0 dX11_stays_0 rfl rfl ?_
  refine v_getR X 4 fl_X11_26.r dX11_stays_1 rfl (fun v1 => ?_)
  refine v_getI X 7 fl_X11_299.r dX11_stays_4 rfl (fun v2 => ?_)
  refine v_ifne X 10 13 dX11_stays_7 rfl rfl ?_ ?_
  · refine v_aload_n X 14 0 dX11_stays_13 rfl rfl ?_
    refine v_getR X 17 fl_X11_45.r dX11_stays_14 rfl (fun v3 => ?_)
    refine v_vV X 20 cv_X1_look ml_X11_162 (n1 := 3) rfl [] rfl rfl rfl dX11_stays_17 rfl (fun M1 h => c_X1_look _ _ _ _ h) (fun M4 => ?_)
    refine v_iconst X 21 dX11_stays_20 ik_0 rfl ?_
    refine v_istore_n (lv' := [(0, .ref x0), (1, .int (0 : Int32))]) X 22 dX11_stays_21 (by decide) rfl rfl ?_
    refine v_iconst X 23 dX11_stays_22 ik_0 rfl ?_
    refine v_istore_n (lv' := [(0, .ref x0), (1, .int (0 : Int32)), (2, .int (0 : Int32))]) X 24 dX11_stays_23 (by decide) rfl rfl ?_
    refine v_iconst X 25 dX11_stays_24 ik_1 rfl ?_
    refine v_istore_n (lv' := [(0, .ref x0), (1, .int (0 : Int32)), (2, .int (0 : Int32)), (3, .int (1 : Int32))]) X 26 dX11_stays_25 (by decide) rfl rfl ?_
    exact L_X11_stays_26 X Y 1024 _ _ _ _ _
  · refine v_bipush X 12 dX11_stays_10 bk_m2 rfl ?_
    exact v_iret X Y (Nat.le_refl _) (Nat.le_refl _) dX11_stays_12
theorem c_X11_stays (l : Launch) (x0 : Nat) (M : MM) (r : Int32) (M1 : MM) (h : f_X11_stays x0 M = some (r, M1)) : KV l yX11_stays cX11_stays 4 (some .int) (RM 5 0 0) false 11 x0 [] M (some (.int r)) M1 := by
  obtain ⟨hO, h2⟩ := iteO_some h
  exact ⟨hO, ct_of (tr := trI) (by decide) (Nat.le_of_ble_eq_true rfl) [(0, .ref x0)] rfl h2 (fun G X Y hn hl => L_X11_stays_0 X Y x0 M)⟩

def f_X11_stuck_101 (K22 : Nat → Int32 → Int32 → Int32 → Int32 → Int32 → Int32 → MM → Option (Int32 × MM)) (x0 : Nat) (x1 : Int32) (x2 : Int32) (x3 : Int32) (x4 : Int32) (x5 : Int32) (x6 : Int32) (M : MM) : Option (Int32 × MM) :=
    bn (x6 + 1 : Int32) fun y1 =>
    K22 x0 x1 x2 x3 x4 x5 y1 M

def f_X11_stuck_75 (K22 : Nat → Int32 → Int32 → Int32 → Int32 → Int32 → Int32 → MM → Option (Int32 × MM)) (x0 : Nat) (x3 : Int32) (x4 : Int32) (x5 : Int32) (x6 : Int32) (x7 : Int32) (s0 : Int32) (M : MM) : Option (Int32 × MM) :=
    if s0 ≤ x3 then
      f_X11_stuck_101 K22 x0 s0 x7 x3 x4 x5 x6 M
    else
      b2 (f_J6_numberOfTrailingZeros_0f7a4 x7 M) fun r2 M1 =>
      bn ((x6 - s0) + (1 : Int32) : Int32) fun y3 =>
      f_X11_stuck_101 K22 x0 s0 x7 s0 r2 y3 x6 M1

def f_X11_stuck_56 (K22 : Nat → Int32 → Int32 → Int32 → Int32 → Int32 → Int32 → MM → Option (Int32 × MM)) (x0 : Nat) (x3 : Int32) (x4 : Int32) (x5 : Int32) (x6 : Int32) (x7 : Int32) (s0 : Int32) (M : MM) : Option (Int32 × MM) :=
    b2 (f_J6_bitCount_0f7a4 x7 M) fun r2 M1 =>
    if r2 = (1 : Int32) then
      f_X11_stuck_75 K22 x0 x3 x4 x5 x6 x7 (s0 + (1 : Int32)) M1
    else
      f_X11_stuck_75 K22 x0 x3 x4 x5 x6 x7 (0 : Int32) M1

def f_X11_stuck_22 : Nat → Nat → Int32 → Int32 → Int32 → Int32 → Int32 → Int32 → MM → Option (Int32 × MM)
  | 0, _, _, _, _, _, _, _, _ => none
  | n + 1, x0, x1, x2, x3, x4, x5, x6, M =>
    b1 (gR 11 2 x0 M) fun v1 =>
    b1 (gI 9 9 v1 M) fun v2 =>
    if v2 ≤ x6 then
      b1 (gR 11 1 x0 M) fun v3 =>
      b1 (f_X6_two v3 (Int32.toInt64 x4) (Int32.toInt64 x5) M) fun M4 =>
      some (x3, M4)
    else
      b1 (gR 11 5 x0 M) fun v5 =>
      b2 (f_X1_benchIn v5 x6 M) fun r7 M6 =>
      if r7 = x2 then
        f_X11_stuck_56 (f_X11_stuck_22 n) x0 x3 x4 x5 x6 r7 x1 M6
      else
        f_X11_stuck_56 (f_X11_stuck_22 n) x0 x3 x4 x5 x6 r7 (0 : Int32) M6

def f_X11_stuck_0 (x0 : Nat) (M : MM) : Option (Int32 × MM) :=
    b1 (gR 11 5 x0 M) fun v1 =>
    b1 (f_X1_look v1 M) fun M2 =>
    f_X11_stuck_22 1024 x0 (0 : Int32) (0 : Int32) (0 : Int32) (-1 : Int32) (-1 : Int32) (0 : Int32) M2

def f_X11_stuck (x0 : Nat) (M : MM) : Option (Int32 × MM) := if isO 11 x0 M = true then f_X11_stuck_0 x0 M else none
set_option maxRecDepth 4000 in
theorem L_X11_stuck_101 {G : Gx} (X : Cb G cX11_stuck 9 RX11 (RM 4 0 0) false) (Y : Cr G (some .int) 0 0) {K22 : Nat → Int32 → Int32 → Int32 → Int32 → Int32 → Int32 → MM → Option (Int32 × MM)} (hK22 : ∀ (x0 : Nat) (x1 : Int32) (x2 : Int32) (x3 : Int32) (x4 : Int32) (x5 : Int32) (x6 : Int32) (M : MM), V G trI 9 0 0 22 [(0, .ref x0), (1, .int x1), (2, .int x2), (3, .int x3), (4, .int x4), (5, .int x5), (6, .int x6)] [] M (K22 x0 x1 x2 x3 x4 x5 x6 M)) (x0 : Nat) (x1 : Int32) (x2 : Int32) (x3 : Int32) (x4 : Int32) (x5 : Int32) (x6 : Int32) (M : MM) : V G trI 9 0 0 101 [(0, .ref x0), (1, .int x1), (2, .int x2), (3, .int x3), (4, .int x4), (5, .int x5), (6, .int x6)] [] M (f_X11_stuck_101 K22 x0 x1 x2 x3 x4 x5 x6 M) := by
  unfold f_X11_stuck_101
  refine v_iinc X 104 6 (fun z => [(0, .ref x0), (1, .int x1), (2, .int x2), (3, .int x3), (4, .int x4), (5, .int x5), (6, .int z)]) dX11_stuck_101 rfl ik_1 (by decide) (fun _ => rfl) rfl (fun y1 => ?_)
  refine v_goto X 22 dX11_stuck_104 rfl ?_
  exact hK22 _ _ _ _ _ _ _ _
set_option maxRecDepth 4000 in
theorem L_X11_stuck_75 {G : Gx} (X : Cb G cX11_stuck 9 RX11 (RM 4 0 0) false) (Y : Cr G (some .int) 0 0) {K22 : Nat → Int32 → Int32 → Int32 → Int32 → Int32 → Int32 → MM → Option (Int32 × MM)} (hK22 : ∀ (x0 : Nat) (x1 : Int32) (x2 : Int32) (x3 : Int32) (x4 : Int32) (x5 : Int32) (x6 : Int32) (M : MM), V G trI 9 0 0 22 [(0, .ref x0), (1, .int x1), (2, .int x2), (3, .int x3), (4, .int x4), (5, .int x5), (6, .int x6)] [] M (K22 x0 x1 x2 x3 x4 x5 x6 M)) (x0 : Nat) (x3 : Int32) (x4 : Int32) (x5 : Int32) (x6 : Int32) (x7 : Int32) (s0 : Int32) (M : MM) : V G trI 9 0 0 75 [(0, .ref x0), (3, .int x3), (4, .int x4), (5, .int x5), (6, .int x6), (7, .int x7)] [.int s0] M (f_X11_stuck_75 K22 x0 x3 x4 x5 x6 x7 s0 M) := by
  unfold f_X11_stuck_75
  refine v_istore_n (lv' := [(0, .ref x0), (1, .int s0), (3, .int x3), (4, .int x4), (5, .int x5), (6, .int x6), (7, .int x7)]) X 76 dX11_stuck_75 (by decide) rfl rfl ?_
  refine v_iload X 78 6 dX11_stuck_76 rfl rfl ?_
  refine v_istore_n (lv' := [(0, .ref x0), (1, .int s0), (2, .int x7), (3, .int x3), (4, .int x4), (5, .int x5), (6, .int x6), (7, .int x7)]) X 79 dX11_stuck_78 (by decide) rfl rfl ?_
  refine v_iload_n X 80 1 dX11_stuck_79 rfl rfl ?_
  refine v_iload_n X 81 3 dX11_stuck_80 rfl rfl ?_
  refine v_icle X 84 101 dX11_stuck_81 rfl rfl ?_ ?_
  · exact v_sb [0, 1, 2, 3, 4, 5, 6] (L_X11_stuck_101 X Y hK22 _ _ _ _ _ _ _ _) rfl
  · refine v_iload_n X 85 1 dX11_stuck_84 rfl rfl ?_
    refine v_istore_n (lv' := [(0, .ref x0), (1, .int s0), (2, .int x7), (3, .int s0), (4, .int x4), (5, .int x5), (6, .int x6), (7, .int x7)]) X 86 dX11_stuck_85 (by decide) rfl rfl ?_
    refine v_iload X 88 7 dX11_stuck_86 rfl rfl ?_
    refine v_sI X 91 cs_J6_numberOfTrailingZeros_0f7a4 ml_X11_320 (n1 := 1) rfl [.int x7] rfl rfl rfl dX11_stuck_88 rfl (fun r M1 h => c_J6_numberOfTrailingZeros_0f7a4 _ _ _ _ _ h) (fun r2 M1 => ?_)
    refine v_istore (lv' := [(0, .ref x0), (1, .int s0), (2, .int x7), (3, .int s0), (4, .int r2), (5, .int x5), (6, .int x6), (7, .int x7)]) X 93 dX11_stuck_91 (by decide) rfl rfl ?_
    refine v_iload X 95 6 dX11_stuck_93 rfl rfl ?_
    refine v_iload_n X 96 1 dX11_stuck_95 rfl rfl ?_
    refine v_isub X 97 dX11_stuck_96 rfl ?_
    refine v_iconst X 98 dX11_stuck_97 ik_1 rfl ?_
    refine v_iadd X 99 dX11_stuck_98 rfl ?_
    refine v_bnI (fun y3 => ?_)
    refine v_istore (lv' := [(0, .ref x0), (1, .int s0), (2, .int x7), (3, .int s0), (4, .int r2), (5, .int y3), (6, .int x6), (7, .int x7)]) X 101 dX11_stuck_99 (by decide) rfl rfl ?_
    exact v_sb [0, 1, 2, 3, 4, 5, 6] (L_X11_stuck_101 X Y hK22 _ _ _ _ _ _ _ _) rfl
set_option maxRecDepth 4000 in
theorem L_X11_stuck_56 {G : Gx} (X : Cb G cX11_stuck 9 RX11 (RM 4 0 0) false) (Y : Cr G (some .int) 0 0) {K22 : Nat → Int32 → Int32 → Int32 → Int32 → Int32 → Int32 → MM → Option (Int32 × MM)} (hK22 : ∀ (x0 : Nat) (x1 : Int32) (x2 : Int32) (x3 : Int32) (x4 : Int32) (x5 : Int32) (x6 : Int32) (M : MM), V G trI 9 0 0 22 [(0, .ref x0), (1, .int x1), (2, .int x2), (3, .int x3), (4, .int x4), (5, .int x5), (6, .int x6)] [] M (K22 x0 x1 x2 x3 x4 x5 x6 M)) (x0 : Nat) (x3 : Int32) (x4 : Int32) (x5 : Int32) (x6 : Int32) (x7 : Int32) (s0 : Int32) (M : MM) : V G trI 9 0 0 56 [(0, .ref x0), (3, .int x3), (4, .int x4), (5, .int x5), (6, .int x6), (7, .int x7)] [.int s0] M (f_X11_stuck_56 K22 x0 x3 x4 x5 x6 x7 s0 M) := by
  unfold f_X11_stuck_56
  refine v_istore (lv' := [(0, .ref x0), (3, .int x3), (4, .int x4), (5, .int x5), (6, .int x6), (7, .int x7), (8, .int s0)]) X 58 dX11_stuck_56 (by decide) rfl rfl ?_
  refine v_iload X 60 5 dX11_stuck_58 rfl rfl ?_
  refine v_sI X 63 cs_J6_bitCount_0f7a4 ml_X11_315 (n1 := 1) rfl [.int x7] rfl rfl rfl dX11_stuck_60 rfl (fun r M1 h => c_J6_bitCount_0f7a4 _ _ _ _ _ h) (fun r2 M1 => ?_)
  refine v_iconst X 64 dX11_stuck_63 ik_1 rfl ?_
  refine v_icne X 67 74 dX11_stuck_64 rfl rfl ?_ ?_
  · refine v_iconst X 75 dX11_stuck_74 ik_0 rfl ?_
    exact v_sb [0, 1, 2, 3, 4, 5] (L_X11_stuck_75 X Y hK22 _ _ _ _ _ _ _ _) rfl
  · refine v_iload X 69 6 dX11_stuck_67 rfl rfl ?_
    refine v_iconst X 70 dX11_stuck_69 ik_1 rfl ?_
    refine v_iadd X 71 dX11_stuck_70 rfl ?_
    refine v_goto X 75 dX11_stuck_71 rfl ?_
    exact v_sb [0, 1, 2, 3, 4, 5] (L_X11_stuck_75 X Y hK22 _ _ _ _ _ _ _ _) rfl
set_option maxRecDepth 4000 in
theorem L_X11_stuck_22 {G : Gx} (X : Cb G cX11_stuck 9 RX11 (RM 4 0 0) false) (Y : Cr G (some .int) 0 0) : ∀ (n : Nat) (x0 : Nat) (x1 : Int32) (x2 : Int32) (x3 : Int32) (x4 : Int32) (x5 : Int32) (x6 : Int32) (M : MM), V G trI 9 0 0 22 [(0, .ref x0), (1, .int x1), (2, .int x2), (3, .int x3), (4, .int x4), (5, .int x5), (6, .int x6)] [] M (f_X11_stuck_22 n x0 x1 x2 x3 x4 x5 x6 M) := by
  intro n
  induction n with
  | zero => intro x0 x1 x2 x3 x4 x5 x6 M; rw [f_X11_stuck_22]; exact v_none
  | succ n ih =>
    intro x0 x1 x2 x3 x4 x5 x6 M
    rw [f_X11_stuck_22]
    refine v_iload X 24 6 dX11_stuck_22 rfl rfl ?_
    refine v_aload_n X 25 0 dX11_stuck_24 rfl rfl ?_
    refine v_getR X 28 fl_X11_26.r dX11_stuck_25 rfl (fun v1 => ?_)
    refine v_getI X 31 fl_X11_172.r dX11_stuck_28 rfl (fun v2 => ?_)
    refine v_icge X 34 107 dX11_stuck_31 rfl rfl ?_ ?_
    · refine v_aload_n X 108 0 dX11_stuck_107 rfl rfl ?_
      refine v_getR X 111 fl_X11_19.r dX11_stuck_108 rfl (fun v3 => ?_)
      refine v_iload X 113 4 dX11_stuck_111 rfl rfl ?_
      refine v_i2l X 114 dX11_stuck_113 rfl ?_
      refine v_iload X 116 5 dX11_stuck_114 rfl rfl ?_
      refine v_i2l X 117 dX11_stuck_116 rfl ?_
      refine v_vV X 120 cv_X6_two ml_X11_285 (n1 := 3) rfl [.long (Int32.toInt64 x4), .long (Int32.toInt64 x5)] rfl rfl rfl dX11_stuck_117 rfl (fun M1 h => c_X6_two _ _ _ _ _ _ h) (fun M4 => ?_)
      refine v_iload_n X 121 3 dX11_stuck_120 rfl rfl ?_
      exact v_iret X Y (Nat.le_refl _) (Nat.le_refl _) dX11_stuck_121
    · refine v_aload_n X 35 0 dX11_stuck_34 rfl rfl ?_
      refine v_getR X 38 fl_X11_45.r dX11_stuck_35 rfl (fun v5 => ?_)
      refine v_iload X 40 6 dX11_stuck_38 rfl rfl ?_
      refine v_vI X 43 cv_X1_benchIn ml_X11_312 (n1 := 2) rfl [.int x6] rfl rfl rfl dX11_stuck_40 rfl (fun r M1 h => c_X1_benchIn _ _ _ _ _ _ h) (fun r7 M6 => ?_)
      refine v_istore (lv' := [(0, .ref x0), (1, .int x1), (2, .int x2), (3, .int x3), (4, .int x4), (5, .int x5), (6, .int x6), (7, .int r7)]) X 45 dX11_stuck_43 (by decide) rfl rfl ?_
      refine v_iload X 47 7 dX11_stuck_45 rfl rfl ?_
      refine v_iload_n X 48 2 dX11_stuck_47 rfl rfl ?_
      refine v_icne X 51 55 dX11_stuck_48 rfl rfl ?_ ?_
      · refine v_iconst X 56 dX11_stuck_55 ik_0 rfl ?_
        exact v_sb [0, 3, 4, 5, 6, 7] (L_X11_stuck_56 X Y ih _ _ _ _ _ _ _ _) rfl
      · refine v_iload_n X 52 1 dX11_stuck_51 rfl rfl ?_
        refine v_goto X 56 dX11_stuck_52 rfl ?_
        exact v_sb [0, 3, 4, 5, 6, 7] (L_X11_stuck_56 X Y ih _ _ _ _ _ _ _ _) rfl
set_option maxRecDepth 4000 in
theorem L_X11_stuck_0 {G : Gx} (X : Cb G cX11_stuck 9 RX11 (RM 4 0 0) false) (Y : Cr G (some .int) 0 0) (x0 : Nat) (M : MM) : V G trI 9 0 0 0 [(0, .ref x0)] [] M (f_X11_stuck_0 x0 M) := by
  unfold f_X11_stuck_0
  refine v_aload_n X 1 0 dX11_stuck_0 rfl rfl ?_
  refine v_getR X 4 fl_X11_45.r dX11_stuck_1 rfl (fun v1 => ?_)
  refine v_vV X 7 cv_X1_look ml_X11_162 (n1 := 3) rfl [] rfl rfl rfl dX11_stuck_4 rfl (fun M1 h => c_X1_look _ _ _ _ h) (fun M2 => ?_)
  refine v_iconst X 8 dX11_stuck_7 ik_0 rfl ?_
  refine v_istore_n (lv' := [(0, .ref x0), (1, .int (0 : Int32))]) X 9 dX11_stuck_8 (by decide) rfl rfl ?_
  refine v_iconst X 10 dX11_stuck_9 ik_0 rfl ?_
  refine v_istore_n (lv' := [(0, .ref x0), (1, .int (0 : Int32)), (2, .int (0 : Int32))]) X 11 dX11_stuck_10 (by decide) rfl rfl ?_
  refine v_iconst X 12 dX11_stuck_11 ik_0 rfl ?_
  refine v_istore_n (lv' := [(0, .ref x0), (1, .int (0 : Int32)), (2, .int (0 : Int32)), (3, .int (0 : Int32))]) X 13 dX11_stuck_12 (by decide) rfl rfl ?_
  refine v_iconst X 14 dX11_stuck_13 ik_m1 rfl ?_
  refine v_istore (lv' := [(0, .ref x0), (1, .int (0 : Int32)), (2, .int (0 : Int32)), (3, .int (0 : Int32)), (4, .int (-1 : Int32))]) X 16 dX11_stuck_14 (by decide) rfl rfl ?_
  refine v_iconst X 17 dX11_stuck_16 ik_m1 rfl ?_
  refine v_istore (lv' := [(0, .ref x0), (1, .int (0 : Int32)), (2, .int (0 : Int32)), (3, .int (0 : Int32)), (4, .int (-1 : Int32)), (5, .int (-1 : Int32))]) X 19 dX11_stuck_17 (by decide) rfl rfl ?_
  refine v_iconst X 20 dX11_stuck_19 ik_0 rfl ?_
  refine v_istore (lv' := [(0, .ref x0), (1, .int (0 : Int32)), (2, .int (0 : Int32)), (3, .int (0 : Int32)), (4, .int (-1 : Int32)), (5, .int (-1 : Int32)), (6, .int (0 : Int32))]) X 22 dX11_stuck_20 (by decide) rfl rfl ?_
  exact L_X11_stuck_22 X Y 1024 _ _ _ _ _ _ _ _
theorem c_X11_stuck (l : Launch) (x0 : Nat) (M : MM) (r : Int32) (M1 : MM) (h : f_X11_stuck x0 M = some (r, M1)) : KV l yX11_stuck cX11_stuck 9 (some .int) (RM 4 0 0) false 11 x0 [] M (some (.int r)) M1 := by
  obtain ⟨hO, h2⟩ := iteO_some h
  exact ⟨hO, ct_of (tr := trI) (by decide) (Nat.le_of_ble_eq_true rfl) [(0, .ref x0)] rfl h2 (fun G X Y hn hl => L_X11_stuck_0 X Y x0 M)⟩

def f_X11_hands_105 (K29 : Nat → Int32 → Int32 → Int32 → MM → Option (Int32 × MM)) (x0 : Nat) (x1 : Int32) (x2 : Int32) (x3 : Int32) (M : MM) : Option (Int32 × MM) :=
    bn (x3 + 1 : Int32) fun y1 =>
    K29 x0 x1 x2 y1 M

def f_X11_hands_65 (K29 : Nat → Int32 → Int32 → Int32 → MM → Option (Int32 × MM)) (x0 : Nat) (x1 : Int32) (x2 : Int32) (x3 : Int32) (s0 : Int32) (M : MM) : Option (Int32 × MM) :=
    if s0 = 0 then
      f_X11_hands_105 K29 x0 x1 x2 x3 M
    else
      b1 (gR 11 3 x0 M) fun v1 =>
      b2 (f_X5_first v1 x3 M) fun r3 M2 =>
      if x2 < r3 then
        f_X11_hands_105 K29 x0 x1 x2 x3 M2
      else
        b1 (gR 11 5 x0 M2) fun v4 =>
        b2 (f_X1_back v4 x3 M2) fun r6 M5 =>
        if r6 ≤ x2 then
          f_X11_hands_105 K29 x0 x1 x2 x3 M5
        else
          b1 (gR 11 3 x0 M5) fun v7 =>
          b2 (f_X5_who v7 x3 M5) fun r9 M8 =>
          some (r9, M8)

def f_X11_hands_29 : Nat → Nat → Int32 → Int32 → Int32 → MM → Option (Int32 × MM)
  | 0, _, _, _, _, _ => none
  | n + 1, x0, x1, x2, x3, M =>
    b1 (gR 11 3 x0 M) fun v1 =>
    b1 (gI 5 1 v1 M) fun v2 =>
    if v2 ≤ x3 then
      some ((-2 : Int32), M)
    else
      b1 (gR 11 2 x0 M) fun v3 =>
      b1 (gR 9 5 v3 M) fun v4 =>
      b1 (gR 11 3 x0 M) fun v5 =>
      b2 (f_X5_what v5 x3 M) fun r7 M6 =>
      b1 (ldI v4 r7 M6) fun v8 =>
      if v8 = x1 then
        f_X11_hands_65 (f_X11_hands_29 n) x0 x1 x2 x3 (1 : Int32) M6
      else
        f_X11_hands_65 (f_X11_hands_29 n) x0 x1 x2 x3 (0 : Int32) M6

def f_X11_hands_0 (x0 : Nat) (x1 : Int32) (x2 : Int32) (M : MM) : Option (Int32 × MM) :=
    if x1 < (1 : Int32) then
      some ((-1 : Int32), M)
    else
      if (2 : Int32) < x1 then
        some ((-1 : Int32), M)
      else
        if x2 < 0 then
          some ((-1 : Int32), M)
        else
          b1 (gR 11 2 x0 M) fun v1 =>
          b1 (gI 9 9 v1 M) fun v2 =>
          if x2 < v2 then
            f_X11_hands_29 1024 x0 x1 x2 (0 : Int32) M
          else
            some ((-1 : Int32), M)

def f_X11_hands (x0 : Nat) (x1 : Int32) (x2 : Int32) (M : MM) : Option (Int32 × MM) := if isO 11 x0 M = true then f_X11_hands_0 x0 x1 x2 M else none
set_option maxRecDepth 4000 in
theorem L_X11_hands_105 {G : Gx} (X : Cb G cX11_hands 5 RX11 (RM 3 0 0) false) (Y : Cr G (some .int) 0 0) {K29 : Nat → Int32 → Int32 → Int32 → MM → Option (Int32 × MM)} (hK29 : ∀ (x0 : Nat) (x1 : Int32) (x2 : Int32) (x3 : Int32) (M : MM), V G trI 5 0 0 29 [(0, .ref x0), (1, .int x1), (2, .int x2), (3, .int x3)] [] M (K29 x0 x1 x2 x3 M)) (x0 : Nat) (x1 : Int32) (x2 : Int32) (x3 : Int32) (M : MM) : V G trI 5 0 0 105 [(0, .ref x0), (1, .int x1), (2, .int x2), (3, .int x3)] [] M (f_X11_hands_105 K29 x0 x1 x2 x3 M) := by
  unfold f_X11_hands_105
  refine v_iinc X 108 3 (fun z => [(0, .ref x0), (1, .int x1), (2, .int x2), (3, .int z)]) dX11_hands_105 rfl ik_1 (by decide) (fun _ => rfl) rfl (fun y1 => ?_)
  refine v_goto X 29 dX11_hands_108 rfl ?_
  exact hK29 _ _ _ _ _
set_option maxRecDepth 4000 in
theorem L_X11_hands_65 {G : Gx} (X : Cb G cX11_hands 5 RX11 (RM 3 0 0) false) (Y : Cr G (some .int) 0 0) {K29 : Nat → Int32 → Int32 → Int32 → MM → Option (Int32 × MM)} (hK29 : ∀ (x0 : Nat) (x1 : Int32) (x2 : Int32) (x3 : Int32) (M : MM), V G trI 5 0 0 29 [(0, .ref x0), (1, .int x1), (2, .int x2), (3, .int x3)] [] M (K29 x0 x1 x2 x3 M)) (x0 : Nat) (x1 : Int32) (x2 : Int32) (x3 : Int32) (s0 : Int32) (M : MM) : V G trI 5 0 0 65 [(0, .ref x0), (1, .int x1), (2, .int x2), (3, .int x3)] [.int s0] M (f_X11_hands_65 K29 x0 x1 x2 x3 s0 M) := by
  unfold f_X11_hands_65
  refine v_istore (lv' := [(0, .ref x0), (1, .int x1), (2, .int x2), (3, .int x3), (4, .int s0)]) X 67 dX11_hands_65 (by decide) rfl rfl ?_
  refine v_iload X 69 4 dX11_hands_67 rfl rfl ?_
  refine v_ifeq X 72 105 dX11_hands_69 rfl rfl ?_ ?_
  · exact v_sb [0, 1, 2, 3] (L_X11_hands_105 X Y hK29 _ _ _ _ _) rfl
  · refine v_iload_n X 73 2 dX11_hands_72 rfl rfl ?_
    refine v_aload_n X 74 0 dX11_hands_73 rfl rfl ?_
    refine v_getR X 77 fl_X11_33.r dX11_hands_74 rfl (fun v1 => ?_)
    refine v_iload_n X 78 3 dX11_hands_77 rfl rfl ?_
    refine v_vI X 81 cv_X5_first ml_X11_217 (n1 := 1) rfl [.int x3] rfl rfl rfl dX11_hands_78 rfl (fun r M1 h => c_X5_first _ _ _ _ _ _ h) (fun r3 M2 => ?_)
    refine v_iclt X 84 105 dX11_hands_81 rfl rfl ?_ ?_
    · exact v_sb [0, 1, 2, 3] (L_X11_hands_105 X Y hK29 _ _ _ _ _) rfl
    · refine v_iload_n X 85 2 dX11_hands_84 rfl rfl ?_
      refine v_aload_n X 86 0 dX11_hands_85 rfl rfl ?_
      refine v_getR X 89 fl_X11_45.r dX11_hands_86 rfl (fun v4 => ?_)
      refine v_iload_n X 90 3 dX11_hands_89 rfl rfl ?_
      refine v_vI X 93 cv_X1_back ml_X11_220 (n1 := 2) rfl [.int x3] rfl rfl rfl dX11_hands_90 rfl (fun r M1 h => c_X1_back _ _ _ _ _ _ h) (fun r6 M5 => ?_)
      refine v_icge X 96 105 dX11_hands_93 rfl rfl ?_ ?_
      · exact v_sb [0, 1, 2, 3] (L_X11_hands_105 X Y hK29 _ _ _ _ _) rfl
      · refine v_aload_n X 97 0 dX11_hands_96 rfl rfl ?_
        refine v_getR X 100 fl_X11_33.r dX11_hands_97 rfl (fun v7 => ?_)
        refine v_iload_n X 101 3 dX11_hands_100 rfl rfl ?_
        refine v_vI X 104 cv_X5_who ml_X11_211 (n1 := 1) rfl [.int x3] rfl rfl rfl dX11_hands_101 rfl (fun r M1 h => c_X5_who _ _ _ _ _ _ h) (fun r9 M8 => ?_)
        exact v_iret X Y (Nat.le_refl _) (Nat.le_refl _) dX11_hands_104
set_option maxRecDepth 4000 in
theorem L_X11_hands_29 {G : Gx} (X : Cb G cX11_hands 5 RX11 (RM 3 0 0) false) (Y : Cr G (some .int) 0 0) : ∀ (n : Nat) (x0 : Nat) (x1 : Int32) (x2 : Int32) (x3 : Int32) (M : MM), V G trI 5 0 0 29 [(0, .ref x0), (1, .int x1), (2, .int x2), (3, .int x3)] [] M (f_X11_hands_29 n x0 x1 x2 x3 M) := by
  intro n
  induction n with
  | zero => intro x0 x1 x2 x3 M; rw [f_X11_hands_29]; exact v_none
  | succ n ih =>
    intro x0 x1 x2 x3 M
    rw [f_X11_hands_29]
    refine v_iload_n X 30 3 dX11_hands_29 rfl rfl ?_
    refine v_aload_n X 31 0 dX11_hands_30 rfl rfl ?_
    refine v_getR X 34 fl_X11_33.r dX11_hands_31 rfl (fun v1 => ?_)
    refine v_getI X 37 fl_X11_143.r dX11_hands_34 rfl (fun v2 => ?_)
    refine v_icge X 40 111 dX11_hands_37 rfl rfl ?_ ?_
    · refine v_bipush X 113 dX11_hands_111 bk_m2 rfl ?_
      exact v_iret X Y (Nat.le_refl _) (Nat.le_refl _) dX11_hands_113
    · refine v_aload_n X 41 0 dX11_hands_40 rfl rfl ?_
      refine v_getR X 44 fl_X11_26.r dX11_hands_41 rfl (fun v3 => ?_)
      refine v_getR X 47 fl_X11_199 dX11_hands_44 rfl (fun v4 => ?_)
      refine v_aload_n X 48 0 dX11_hands_47 rfl rfl ?_
      refine v_getR X 51 fl_X11_33.r dX11_hands_48 rfl (fun v5 => ?_)
      refine v_iload_n X 52 3 dX11_hands_51 rfl rfl ?_
      refine v_vI X 55 cv_X5_what ml_X11_214 (n1 := 1) rfl [.int x3] rfl rfl rfl dX11_hands_52 rfl (fun r M1 h => c_X5_what _ _ _ _ _ _ h) (fun r7 M6 => ?_)
      refine v_iald X 56 dX11_hands_55 rfl (fun v8 => ?_)
      refine v_iload_n X 57 1 dX11_hands_56 rfl rfl ?_
      refine v_icne X 60 64 dX11_hands_57 rfl rfl ?_ ?_
      · refine v_iconst X 65 dX11_hands_64 ik_0 rfl ?_
        exact L_X11_hands_65 X Y ih _ _ _ _ _ _
      · refine v_iconst X 61 dX11_hands_60 ik_1 rfl ?_
        refine v_goto X 65 dX11_hands_61 rfl ?_
        exact L_X11_hands_65 X Y ih _ _ _ _ _ _
set_option maxRecDepth 4000 in
theorem L_X11_hands_0 {G : Gx} (X : Cb G cX11_hands 5 RX11 (RM 3 0 0) false) (Y : Cr G (some .int) 0 0) (x0 : Nat) (x1 : Int32) (x2 : Int32) (M : MM) : V G trI 5 0 0 0 [(0, .ref x0), (1, .int x1), (2, .int x2)] [] M (f_X11_hands_0 x0 x1 x2 M) := by
  unfold f_X11_hands_0
  refine v_iload_n X 1 1 dX11_hands_0 rfl rfl ?_
  refine v_iconst X 2 dX11_hands_1 ik_1 rfl ?_
  refine v_iclt X 5 25 dX11_hands_2 rfl rfl ?_ ?_
  · refine v_iconst X 26 dX11_hands_25 ik_m1 rfl ?_
    exact v_iret X Y (Nat.le_refl _) (Nat.le_refl _) dX11_hands_26
  · refine v_iload_n X 6 1 dX11_hands_5 rfl rfl ?_
    refine v_iconst X 7 dX11_hands_6 ik_2 rfl ?_
    refine v_icgt X 10 25 dX11_hands_7 rfl rfl ?_ ?_
    · refine v_iconst X 26 dX11_hands_25 ik_m1 rfl ?_
      exact v_iret X Y (Nat.le_refl _) (Nat.le_refl _) dX11_hands_26
    · refine v_iload_n X 11 2 dX11_hands_10 rfl rfl ?_
      refine v_iflt X 14 25 dX11_hands_11 rfl rfl ?_ ?_
      · refine v_iconst X 26 dX11_hands_25 ik_m1 rfl ?_
        exact v_iret X Y (Nat.le_refl _) (Nat.le_refl _) dX11_hands_26
      · refine v_iload_n X 15 2 dX11_hands_14 rfl rfl ?_
        refine v_aload_n X 16 0 dX11_hands_15 rfl rfl ?_
        refine v_getR X 19 fl_X11_26.r dX11_hands_16 rfl (fun v1 => ?_)
        refine v_getI X 22 fl_X11_172.r dX11_hands_19 rfl (fun v2 => ?_)
        refine v_iclt X 25 27 dX11_hands_22 rfl rfl ?_ ?_
        · refine v_iconst X 28 dX11_hands_27 ik_0 rfl ?_
          refine v_istore_n (lv' := [(0, .ref x0), (1, .int x1), (2, .int x2), (3, .int (0 : Int32))]) X 29 dX11_hands_28 (by decide) rfl rfl ?_
          exact L_X11_hands_29 X Y 1024 _ _ _ _ _
        · refine v_iconst X 26 dX11_hands_25 ik_m1 rfl ?_
          exact v_iret X Y (Nat.le_refl _) (Nat.le_refl _) dX11_hands_26
theorem c_X11_hands (l : Launch) (x0 : Nat) (x1 : Int32) (x2 : Int32) (M : MM) (r : Int32) (M1 : MM) (h : f_X11_hands x0 x1 x2 M = some (r, M1)) : KV l yX11_hands cX11_hands 5 (some .int) (RM 3 0 0) false 11 x0 [.int x1, .int x2] M (some (.int r)) M1 := by
  obtain ⟨hO, h2⟩ := iteO_some h
  exact ⟨hO, ct_of (tr := trI) (by decide) (Nat.le_of_ble_eq_true rfl) [(0, .ref x0), (1, .int x1), (2, .int x2)] rfl h2 (fun G X Y hn hl => L_X11_hands_0 X Y x0 x1 x2 M)⟩

def f_X11_tellMinute_0 (x0 : Nat) (x1 : Int32) (x2 : Int32) (M : MM) : Option (Int32 × MM) :=
    if 0 ≤ x2 then
      b1 (gR 11 1 x0 M) fun v1 =>
      b1 (gR 11 2 x0 M) fun v2 =>
      b2 (f_X9_length v2 x1 M) fun r4 M3 =>
      b1 (f_X6_one v1 (Int32.toInt64 (x2 + r4)) M3) fun M5 =>
      some (x2, M5)
    else
      some ((-2 : Int32), M)

def f_X11_tellMinute (x0 : Nat) (x1 : Int32) (x2 : Int32) (M : MM) : Option (Int32 × MM) := if isO 11 x0 M = true then f_X11_tellMinute_0 x0 x1 x2 M else none
set_option maxRecDepth 4000 in
theorem L_X11_tellMinute_0 {G : Gx} (X : Cb G cX11_tellMinute 3 RX11 (RM 3 0 0) false) (Y : Cr G (some .int) 0 0) (x0 : Nat) (x1 : Int32) (x2 : Int32) (M : MM) : V G trI 3 0 0 0 [(0, .ref x0), (1, .int x1), (2, .int x2)] [] M (f_X11_tellMinute_0 x0 x1 x2 M) := by
  unfold f_X11_tellMinute_0
  refine v_iload_n X 1 2 dX11_tellMinute_0 rfl rfl ?_
  refine v_ifge X 4 7 dX11_tellMinute_1 rfl rfl ?_ ?_
  · refine v_aload_n X 8 0 dX11_tellMinute_7 rfl rfl ?_
    refine v_getR X 11 fl_X11_19.r dX11_tellMinute_8 rfl (fun v1 => ?_)
    refine v_iload_n X 12 2 dX11_tellMinute_11 rfl rfl ?_
    refine v_aload_n X 13 0 dX11_tellMinute_12 rfl rfl ?_
    refine v_getR X 16 fl_X11_26.r dX11_tellMinute_13 rfl (fun v2 => ?_)
    refine v_iload_n X 17 1 dX11_tellMinute_16 rfl rfl ?_
    refine v_vI X 20 cv_X9_length ml_X11_488 (n1 := 1) rfl [.int x1] rfl rfl rfl dX11_tellMinute_17 rfl (fun r M1 h => c_X9_length _ _ _ _ _ _ h) (fun r4 M3 => ?_)
    refine v_iadd X 21 dX11_tellMinute_20 rfl ?_
    refine v_i2l X 22 dX11_tellMinute_21 rfl ?_
    refine v_vV X 25 cv_X6_one ml_X11_362 (n1 := 2) rfl [.long (Int32.toInt64 (x2 + r4))] rfl rfl rfl dX11_tellMinute_22 rfl (fun M1 h => c_X6_one _ _ _ _ _ h) (fun M5 => ?_)
    refine v_iload_n X 26 2 dX11_tellMinute_25 rfl rfl ?_
    exact v_iret X Y (Nat.le_refl _) (Nat.le_refl _) dX11_tellMinute_26
  · refine v_bipush X 6 dX11_tellMinute_4 bk_m2 rfl ?_
    exact v_iret X Y (Nat.le_refl _) (Nat.le_refl _) dX11_tellMinute_6
theorem c_X11_tellMinute (l : Launch) (x0 : Nat) (x1 : Int32) (x2 : Int32) (M : MM) (r : Int32) (M1 : MM) (h : f_X11_tellMinute x0 x1 x2 M = some (r, M1)) : KV l yX11_tellMinute cX11_tellMinute 3 (some .int) (RM 3 0 0) false 11 x0 [.int x1, .int x2] M (some (.int r)) M1 := by
  obtain ⟨hO, h2⟩ := iteO_some h
  exact ⟨hO, ct_of (tr := trI) (by decide) (Nat.le_of_ble_eq_true rfl) [(0, .ref x0), (1, .int x1), (2, .int x2)] rfl h2 (fun G X Y hn hl => L_X11_tellMinute_0 X Y x0 x1 x2 M)⟩

def f_X11_earliest_0 (x0 : Nat) (x1 : Int32) (x2 : Int32) (M : MM) : Option (Int32 × MM) :=
    b1 (gR 11 2 x0 M) fun v1 =>
    b2 (f_X9_hasPerson v1 x1 M) fun r3 M2 =>
    if r3 = 0 then
      some ((-1 : Int32), M2)
    else
      b1 (gR 11 2 x0 M2) fun v4 =>
      b2 (f_X9_hasErrand v4 x2 M2) fun r6 M5 =>
      if r6 = 0 then
        some ((-1 : Int32), M5)
      else
        b1 (gR 11 5 x0 M5) fun v7 =>
        b1 (f_X1_look v7 M5) fun M8 =>
        b1 (gR 11 8 x0 M8) fun v9 =>
        b2 (f_X3_soonest v9 x1 x2 M8) fun r11 M10 =>
        b2 (f_X11_tellMinute x0 x2 r11 M10) fun r13 M12 =>
        some (r13, M12)

def f_X11_earliest (x0 : Nat) (x1 : Int32) (x2 : Int32) (M : MM) : Option (Int32 × MM) := if isO 11 x0 M = true then f_X11_earliest_0 x0 x1 x2 M else none
set_option maxRecDepth 4000 in
theorem L_X11_earliest_0 {G : Gx} (X : Cb G cX11_earliest 3 RX11 (RM 6 0 0) false) (Y : Cr G (some .int) 0 0) (x0 : Nat) (x1 : Int32) (x2 : Int32) (M : MM) : V G trI 3 0 0 0 [(0, .ref x0), (1, .int x1), (2, .int x2)] [] M (f_X11_earliest_0 x0 x1 x2 M) := by
  unfold f_X11_earliest_0
  refine v_aload_n X 1 0 dX11_earliest_0 rfl rfl ?_
  refine v_getR X 4 fl_X11_26.r dX11_earliest_1 rfl (fun v1 => ?_)
  refine v_iload_n X 5 1 dX11_earliest_4 rfl rfl ?_
  refine v_vI X 8 cv_X9_hasPerson ml_X11_117 (n1 := 1) rfl [.int x1] rfl rfl rfl dX11_earliest_5 rfl (fun r M1 h => c_X9_hasPerson _ _ _ _ _ _ h) (fun r3 M2 => ?_)
  refine v_ifeq X 11 22 dX11_earliest_8 rfl rfl ?_ ?_
  · refine v_iconst X 23 dX11_earliest_22 ik_m1 rfl ?_
    exact v_iret X Y (Nat.le_refl _) (Nat.le_refl _) dX11_earliest_23
  · refine v_aload_n X 12 0 dX11_earliest_11 rfl rfl ?_
    refine v_getR X 15 fl_X11_26.r dX11_earliest_12 rfl (fun v4 => ?_)
    refine v_iload_n X 16 2 dX11_earliest_15 rfl rfl ?_
    refine v_vI X 19 cv_X9_hasErrand ml_X11_184 (n1 := 1) rfl [.int x2] rfl rfl rfl dX11_earliest_16 rfl (fun r M1 h => c_X9_hasErrand _ _ _ _ _ _ h) (fun r6 M5 => ?_)
    refine v_ifne X 22 24 dX11_earliest_19 rfl rfl ?_ ?_
    · refine v_aload_n X 25 0 dX11_earliest_24 rfl rfl ?_
      refine v_getR X 28 fl_X11_45.r dX11_earliest_25 rfl (fun v7 => ?_)
      refine v_vV X 31 cv_X1_look ml_X11_162 (n1 := 3) rfl [] rfl rfl rfl dX11_earliest_28 rfl (fun M1 h => c_X1_look _ _ _ _ h) (fun M8 => ?_)
      refine v_aload_n X 32 0 dX11_earliest_31 rfl rfl ?_
      refine v_iload_n X 33 2 dX11_earliest_32 rfl rfl ?_
      refine v_aload_n X 34 0 dX11_earliest_33 rfl rfl ?_
      refine v_getR X 37 fl_X11_64.r dX11_earliest_34 rfl (fun v9 => ?_)
      refine v_iload_n X 38 1 dX11_earliest_37 rfl rfl ?_
      refine v_iload_n X 39 2 dX11_earliest_38 rfl rfl ?_
      refine v_vI X 42 cv_X3_soonest ml_X11_323 (n1 := 5) rfl [.int x1, .int x2] rfl rfl rfl dX11_earliest_39 rfl (fun r M1 h => c_X3_soonest _ _ _ _ _ _ _ h) (fun r11 M10 => ?_)
      refine v_vI X 45 cv_X11_tellMinute ml_X11_326 (n1 := 3) rfl [.int x2, .int r11] rfl rfl rfl dX11_earliest_42 rfl (fun r M1 h => c_X11_tellMinute _ _ _ _ _ _ _ h) (fun r13 M12 => ?_)
      exact v_iret X Y (Nat.le_refl _) (Nat.le_refl _) dX11_earliest_45
    · refine v_iconst X 23 dX11_earliest_22 ik_m1 rfl ?_
      exact v_iret X Y (Nat.le_refl _) (Nat.le_refl _) dX11_earliest_23
theorem c_X11_earliest (l : Launch) (x0 : Nat) (x1 : Int32) (x2 : Int32) (M : MM) (r : Int32) (M1 : MM) (h : f_X11_earliest x0 x1 x2 M = some (r, M1)) : KV l yX11_earliest cX11_earliest 3 (some .int) (RM 6 0 0) false 11 x0 [.int x1, .int x2] M (some (.int r)) M1 := by
  obtain ⟨hO, h2⟩ := iteO_some h
  exact ⟨hO, ct_of (tr := trI) (by decide) (Nat.le_of_ble_eq_true rfl) [(0, .ref x0), (1, .int x1), (2, .int x2)] rfl h2 (fun G X Y hn hl => L_X11_earliest_0 X Y x0 x1 x2 M)⟩

def f_X11_latest_0 (x0 : Nat) (x1 : Int32) (x2 : Int32) (M : MM) : Option (Int32 × MM) :=
    b1 (gR 11 2 x0 M) fun v1 =>
    b2 (f_X9_hasPerson v1 x1 M) fun r3 M2 =>
    if r3 = 0 then
      some ((-1 : Int32), M2)
    else
      b1 (gR 11 2 x0 M2) fun v4 =>
      b2 (f_X9_hasErrand v4 x2 M2) fun r6 M5 =>
      if r6 = 0 then
        some ((-1 : Int32), M5)
      else
        b1 (gR 11 5 x0 M5) fun v7 =>
        b1 (f_X1_look v7 M5) fun M8 =>
        b1 (gR 11 8 x0 M8) fun v9 =>
        b2 (f_X3_last v9 x1 x2 M8) fun r11 M10 =>
        b2 (f_X11_tellMinute x0 x2 r11 M10) fun r13 M12 =>
        some (r13, M12)

def f_X11_latest (x0 : Nat) (x1 : Int32) (x2 : Int32) (M : MM) : Option (Int32 × MM) := if isO 11 x0 M = true then f_X11_latest_0 x0 x1 x2 M else none
set_option maxRecDepth 4000 in
theorem L_X11_latest_0 {G : Gx} (X : Cb G cX11_latest 3 RX11 (RM 6 0 0) false) (Y : Cr G (some .int) 0 0) (x0 : Nat) (x1 : Int32) (x2 : Int32) (M : MM) : V G trI 3 0 0 0 [(0, .ref x0), (1, .int x1), (2, .int x2)] [] M (f_X11_latest_0 x0 x1 x2 M) := by
  unfold f_X11_latest_0
  refine v_aload_n X 1 0 dX11_latest_0 rfl rfl ?_
  refine v_getR X 4 fl_X11_26.r dX11_latest_1 rfl (fun v1 => ?_)
  refine v_iload_n X 5 1 dX11_latest_4 rfl rfl ?_
  refine v_vI X 8 cv_X9_hasPerson ml_X11_117 (n1 := 1) rfl [.int x1] rfl rfl rfl dX11_latest_5 rfl (fun r M1 h => c_X9_hasPerson _ _ _ _ _ _ h) (fun r3 M2 => ?_)
  refine v_ifeq X 11 22 dX11_latest_8 rfl rfl ?_ ?_
  · refine v_iconst X 23 dX11_latest_22 ik_m1 rfl ?_
    exact v_iret X Y (Nat.le_refl _) (Nat.le_refl _) dX11_latest_23
  · refine v_aload_n X 12 0 dX11_latest_11 rfl rfl ?_
    refine v_getR X 15 fl_X11_26.r dX11_latest_12 rfl (fun v4 => ?_)
    refine v_iload_n X 16 2 dX11_latest_15 rfl rfl ?_
    refine v_vI X 19 cv_X9_hasErrand ml_X11_184 (n1 := 1) rfl [.int x2] rfl rfl rfl dX11_latest_16 rfl (fun r M1 h => c_X9_hasErrand _ _ _ _ _ _ h) (fun r6 M5 => ?_)
    refine v_ifne X 22 24 dX11_latest_19 rfl rfl ?_ ?_
    · refine v_aload_n X 25 0 dX11_latest_24 rfl rfl ?_
      refine v_getR X 28 fl_X11_45.r dX11_latest_25 rfl (fun v7 => ?_)
      refine v_vV X 31 cv_X1_look ml_X11_162 (n1 := 3) rfl [] rfl rfl rfl dX11_latest_28 rfl (fun M1 h => c_X1_look _ _ _ _ h) (fun M8 => ?_)
      refine v_aload_n X 32 0 dX11_latest_31 rfl rfl ?_
      refine v_iload_n X 33 2 dX11_latest_32 rfl rfl ?_
      refine v_aload_n X 34 0 dX11_latest_33 rfl rfl ?_
      refine v_getR X 37 fl_X11_64.r dX11_latest_34 rfl (fun v9 => ?_)
      refine v_iload_n X 38 1 dX11_latest_37 rfl rfl ?_
      refine v_iload_n X 39 2 dX11_latest_38 rfl rfl ?_
      refine v_vI X 42 cv_X3_last ml_X11_329 (n1 := 5) rfl [.int x1, .int x2] rfl rfl rfl dX11_latest_39 rfl (fun r M1 h => c_X3_last _ _ _ _ _ _ _ h) (fun r11 M10 => ?_)
      refine v_vI X 45 cv_X11_tellMinute ml_X11_326 (n1 := 3) rfl [.int x2, .int r11] rfl rfl rfl dX11_latest_42 rfl (fun r M1 h => c_X11_tellMinute _ _ _ _ _ _ _ h) (fun r13 M12 => ?_)
      exact v_iret X Y (Nat.le_refl _) (Nat.le_refl _) dX11_latest_45
    · refine v_iconst X 23 dX11_latest_22 ik_m1 rfl ?_
      exact v_iret X Y (Nat.le_refl _) (Nat.le_refl _) dX11_latest_23
theorem c_X11_latest (l : Launch) (x0 : Nat) (x1 : Int32) (x2 : Int32) (M : MM) (r : Int32) (M1 : MM) (h : f_X11_latest x0 x1 x2 M = some (r, M1)) : KV l yX11_latest cX11_latest 3 (some .int) (RM 6 0 0) false 11 x0 [.int x1, .int x2] M (some (.int r)) M1 := by
  obtain ⟨hO, h2⟩ := iteO_some h
  exact ⟨hO, ct_of (tr := trI) (by decide) (Nat.le_of_ble_eq_true rfl) [(0, .ref x0), (1, .int x1), (2, .int x2)] rfl h2 (fun G X Y hn hl => L_X11_latest_0 X Y x0 x1 x2 M)⟩

def f_X11_best_0 (x0 : Nat) (x1 : Int32) (M : MM) : Option (Int32 × MM) :=
    b1 (gR 11 2 x0 M) fun v1 =>
    b2 (f_X9_hasPerson v1 x1 M) fun r3 M2 =>
    if r3 = 0 then
      some ((-1 : Int32), M2)
    else
      b1 (gR 11 5 x0 M2) fun v4 =>
      b1 (f_X1_look v4 M2) fun M5 =>
      b1 (gR 11 8 x0 M5) fun v6 =>
      b2 (f_X3_bestFor v6 x1 M5) fun r8 M7 =>
      if 0 ≤ r8 then
        b1 (gR 11 1 x0 M7) fun v9 =>
        b1 (gR 11 8 x0 M7) fun v10 =>
        b1 (gI 3 8 v10 M7) fun v11 =>
        b1 (gR 11 8 x0 M7) fun v12 =>
        b1 (gI 3 9 v12 M7) fun v13 =>
        b1 (f_X6_two v9 (Int32.toInt64 v11) (Int32.toInt64 v13) M7) fun M14 =>
        some (r8, M14)
      else
        some ((-2 : Int32), M7)

def f_X11_best (x0 : Nat) (x1 : Int32) (M : MM) : Option (Int32 × MM) := if isO 11 x0 M = true then f_X11_best_0 x0 x1 M else none
set_option maxRecDepth 4000 in
theorem L_X11_best_0 {G : Gx} (X : Cb G cX11_best 3 RX11 (RM 7 0 0) false) (Y : Cr G (some .int) 0 0) (x0 : Nat) (x1 : Int32) (M : MM) : V G trI 3 0 0 0 [(0, .ref x0), (1, .int x1)] [] M (f_X11_best_0 x0 x1 M) := by
  unfold f_X11_best_0
  refine v_aload_n X 1 0 dX11_best_0 rfl rfl ?_
  refine v_getR X 4 fl_X11_26.r dX11_best_1 rfl (fun v1 => ?_)
  refine v_iload_n X 5 1 dX11_best_4 rfl rfl ?_
  refine v_vI X 8 cv_X9_hasPerson ml_X11_117 (n1 := 1) rfl [.int x1] rfl rfl rfl dX11_best_5 rfl (fun r M1 h => c_X9_hasPerson _ _ _ _ _ _ h) (fun r3 M2 => ?_)
  refine v_ifne X 11 13 dX11_best_8 rfl rfl ?_ ?_
  · refine v_aload_n X 14 0 dX11_best_13 rfl rfl ?_
    refine v_getR X 17 fl_X11_45.r dX11_best_14 rfl (fun v4 => ?_)
    refine v_vV X 20 cv_X1_look ml_X11_162 (n1 := 3) rfl [] rfl rfl rfl dX11_best_17 rfl (fun M1 h => c_X1_look _ _ _ _ h) (fun M5 => ?_)
    refine v_aload_n X 21 0 dX11_best_20 rfl rfl ?_
    refine v_getR X 24 fl_X11_64.r dX11_best_21 rfl (fun v6 => ?_)
    refine v_iload_n X 25 1 dX11_best_24 rfl rfl ?_
    refine v_vI X 28 cv_X3_bestFor ml_X11_332 (n1 := 6) rfl [.int x1] rfl rfl rfl dX11_best_25 rfl (fun r M1 h => c_X3_bestFor _ _ _ _ _ _ h) (fun r8 M7 => ?_)
    refine v_istore_n (lv' := [(0, .ref x0), (1, .int x1), (2, .int r8)]) X 29 dX11_best_28 (by decide) rfl rfl ?_
    refine v_iload_n X 30 2 dX11_best_29 rfl rfl ?_
    refine v_ifge X 33 36 dX11_best_30 rfl rfl ?_ ?_
    · refine v_aload_n X 37 0 dX11_best_36 rfl rfl ?_
      refine v_getR X 40 fl_X11_19.r dX11_best_37 rfl (fun v9 => ?_)
      refine v_aload_n X 41 0 dX11_best_40 rfl rfl ?_
      refine v_getR X 44 fl_X11_64.r dX11_best_41 rfl (fun v10 => ?_)
      refine v_getI X 47 fl_X11_335.r dX11_best_44 rfl (fun v11 => ?_)
      refine v_i2l X 48 dX11_best_47 rfl ?_
      refine v_aload_n X 49 0 dX11_best_48 rfl rfl ?_
      refine v_getR X 52 fl_X11_64.r dX11_best_49 rfl (fun v12 => ?_)
      refine v_getI X 55 fl_X11_338.r dX11_best_52 rfl (fun v13 => ?_)
      refine v_i2l X 56 dX11_best_55 rfl ?_
      refine v_vV X 59 cv_X6_two ml_X11_285 (n1 := 3) rfl [.long (Int32.toInt64 v11), .long (Int32.toInt64 v13)] rfl rfl rfl dX11_best_56 rfl (fun M1 h => c_X6_two _ _ _ _ _ _ h) (fun M14 => ?_)
      refine v_iload_n X 60 2 dX11_best_59 rfl rfl ?_
      exact v_iret X Y (Nat.le_refl _) (Nat.le_refl _) dX11_best_60
    · refine v_bipush X 35 dX11_best_33 bk_m2 rfl ?_
      exact v_iret X Y (Nat.le_refl _) (Nat.le_refl _) dX11_best_35
  · refine v_iconst X 12 dX11_best_11 ik_m1 rfl ?_
    exact v_iret X Y (Nat.le_refl _) (Nat.le_refl _) dX11_best_12
theorem c_X11_best (l : Launch) (x0 : Nat) (x1 : Int32) (M : MM) (r : Int32) (M1 : MM) (h : f_X11_best x0 x1 M = some (r, M1)) : KV l yX11_best cX11_best 3 (some .int) (RM 7 0 0) false 11 x0 [.int x1] M (some (.int r)) M1 := by
  obtain ⟨hO, h2⟩ := iteO_some h
  exact ⟨hO, ct_of (tr := trI) (by decide) (Nat.le_of_ble_eq_true rfl) [(0, .ref x0), (1, .int x1)] rfl h2 (fun G X Y hn hl => L_X11_best_0 X Y x0 x1 M)⟩

def f_X11_most_28 : Nat → Nat → Int32 → MM → Option (Int32 × MM)
  | 0, _, _, _ => none
  | n + 1, x0, x2, M =>
    b1 (gR 11 8 x0 M) fun v1 =>
    b1 (gI 3 6 v1 M) fun v2 =>
    if ((3 : Int32) * v2) ≤ x2 then
      b1 (gR 11 8 x0 M) fun v3 =>
      b1 (gI 3 7 v3 M) fun v4 =>
      some (v4, M)
    else
      b1 (gR 11 1 x0 M) fun v5 =>
      b1 (gR 11 8 x0 M) fun v6 =>
      b1 (gR 3 4 v6 M) fun v7 =>
      b1 (ldI v7 x2 M) fun v8 =>
      b1 (f_X6_add v5 (Int32.toInt64 v8) M) fun M9 =>
      bn (x2 + 1 : Int32) fun y10 =>
      f_X11_most_28 n x0 y10 M9

def f_X11_most_0 (x0 : Nat) (x1 : Int32) (M : MM) : Option (Int32 × MM) :=
    if x1 < 0 then
      some ((-1 : Int32), M)
    else
      if x1 ≤ (2 : Int32) then
        b1 (gR 11 8 x0 M) fun v1 =>
        b1 (f_X3_search v1 x1 M) fun M2 =>
        b1 (gR 11 1 x0 M2) fun v3 =>
        b1 (f_X6_clear v3 M2) fun M4 =>
        f_X11_most_28 1024 x0 (0 : Int32) M4
      else
        some ((-1 : Int32), M)

def f_X11_most (x0 : Nat) (x1 : Int32) (M : MM) : Option (Int32 × MM) := if isO 11 x0 M = true then f_X11_most_0 x0 x1 M else none
set_option maxRecDepth 4000 in
theorem L_X11_most_28 {G : Gx} (X : Cb G cX11_most 3 RX11 (RM 8 0 0) false) (Y : Cr G (some .int) 0 0) : ∀ (n : Nat) (x0 : Nat) (x2 : Int32) (M : MM), V G trI 3 0 0 28 [(0, .ref x0), (2, .int x2)] [] M (f_X11_most_28 n x0 x2 M) := by
  intro n
  induction n with
  | zero => intro x0 x2 M; rw [f_X11_most_28]; exact v_none
  | succ n ih =>
    intro x0 x2 M
    rw [f_X11_most_28]
    refine v_iload_n X 29 1 dX11_most_28 rfl rfl ?_
    refine v_iconst X 30 dX11_most_29 ik_3 rfl ?_
    refine v_aload_n X 31 0 dX11_most_30 rfl rfl ?_
    refine v_getR X 34 fl_X11_64.r dX11_most_31 rfl (fun v1 => ?_)
    refine v_getI X 37 fl_X11_347.r dX11_most_34 rfl (fun v2 => ?_)
    refine v_imul X 38 dX11_most_37 rfl ?_
    refine v_icge X 41 64 dX11_most_38 rfl rfl ?_ ?_
    · refine v_aload_n X 65 0 dX11_most_64 rfl rfl ?_
      refine v_getR X 68 fl_X11_64.r dX11_most_65 rfl (fun v3 => ?_)
      refine v_getI X 71 fl_X11_356.r dX11_most_68 rfl (fun v4 => ?_)
      exact v_iret X Y (Nat.le_refl _) (Nat.le_refl _) dX11_most_71
    · refine v_aload_n X 42 0 dX11_most_41 rfl rfl ?_
      refine v_getR X 45 fl_X11_19.r dX11_most_42 rfl (fun v5 => ?_)
      refine v_aload_n X 46 0 dX11_most_45 rfl rfl ?_
      refine v_getR X 49 fl_X11_64.r dX11_most_46 rfl (fun v6 => ?_)
      refine v_getR X 52 fl_X11_350 dX11_most_49 rfl (fun v7 => ?_)
      refine v_iload_n X 53 1 dX11_most_52 rfl rfl ?_
      refine v_iald X 54 dX11_most_53 rfl (fun v8 => ?_)
      refine v_i2l X 55 dX11_most_54 rfl ?_
      refine v_vV X 58 cv_X6_add ml_X11_353 (n1 := 1) rfl [.long (Int32.toInt64 v8)] rfl rfl rfl dX11_most_55 rfl (fun M1 h => c_X6_add _ _ _ _ _ h) (fun M9 => ?_)
      refine v_iinc X 61 1 (fun z => [(0, .ref x0), (2, .int z)]) dX11_most_58 rfl ik_1 (by decide) (fun _ => rfl) rfl (fun y10 => ?_)
      refine v_goto X 28 dX11_most_61 rfl ?_
      exact ih _ _ _
set_option maxRecDepth 4000 in
theorem L_X11_most_0 {G : Gx} (X : Cb G cX11_most 3 RX11 (RM 8 0 0) false) (Y : Cr G (some .int) 0 0) (x0 : Nat) (x1 : Int32) (M : MM) : V G trI 3 0 0 0 [(0, .ref x0), (1, .int x1)] [] M (f_X11_most_0 x0 x1 M) := by
  unfold f_X11_most_0
  refine v_iload_n X 1 1 dX11_most_0 rfl rfl ?_
  refine v_iflt X 4 9 dX11_most_1 rfl rfl ?_ ?_
  · refine v_iconst X 10 dX11_most_9 ik_m1 rfl ?_
    exact v_iret X Y (Nat.le_refl _) (Nat.le_refl _) dX11_most_10
  · refine v_iload_n X 5 1 dX11_most_4 rfl rfl ?_
    refine v_iconst X 6 dX11_most_5 ik_2 rfl ?_
    refine v_icle X 9 11 dX11_most_6 rfl rfl ?_ ?_
    · refine v_aload_n X 12 0 dX11_most_11 rfl rfl ?_
      refine v_getR X 15 fl_X11_64.r dX11_most_12 rfl (fun v1 => ?_)
      refine v_iload_n X 16 1 dX11_most_15 rfl rfl ?_
      refine v_vV X 19 cv_X3_search ml_X11_341 (n1 := 7) rfl [.int x1] rfl rfl rfl dX11_most_16 rfl (fun M1 h => c_X3_search _ _ _ _ _ h) (fun M2 => ?_)
      refine v_aload_n X 20 0 dX11_most_19 rfl rfl ?_
      refine v_getR X 23 fl_X11_19.r dX11_most_20 rfl (fun v3 => ?_)
      refine v_vV X 26 cv_X6_clear ml_X11_344 (n1 := 1) rfl [] rfl rfl rfl dX11_most_23 rfl (fun M1 h => c_X6_clear _ _ _ _ h) (fun M4 => ?_)
      refine v_iconst X 27 dX11_most_26 ik_0 rfl ?_
      refine v_istore_n (lv' := [(0, .ref x0), (1, .int x1), (2, .int (0 : Int32))]) X 28 dX11_most_27 (by decide) rfl rfl ?_
      exact v_sb [0, 2] (L_X11_most_28 X Y 1024 _ _ _) rfl
    · refine v_iconst X 10 dX11_most_9 ik_m1 rfl ?_
      exact v_iret X Y (Nat.le_refl _) (Nat.le_refl _) dX11_most_10
theorem c_X11_most (l : Launch) (x0 : Nat) (x1 : Int32) (M : MM) (r : Int32) (M1 : MM) (h : f_X11_most x0 x1 M = some (r, M1)) : KV l yX11_most cX11_most 3 (some .int) (RM 8 0 0) false 11 x0 [.int x1] M (some (.int r)) M1 := by
  obtain ⟨hO, h2⟩ := iteO_some h
  exact ⟨hO, ct_of (tr := trI) (by decide) (Nat.le_of_ble_eq_true rfl) [(0, .ref x0), (1, .int x1)] rfl h2 (fun G X Y hn hl => L_X11_most_0 X Y x0 x1 M)⟩

def f_X11_open_64 (K13 : Nat → Int32 → Int32 → Int32 → MM → Option (Int32 × MM)) (x0 : Nat) (x1 : Int32) (x2 : Int32) (x3 : Int32) (M : MM) : Option (Int32 × MM) :=
    bn (x3 + 1 : Int32) fun y1 =>
    K13 x0 x1 x2 y1 M

def f_X11_open_13 : Nat → Nat → Int32 → Int32 → Int32 → MM → Option (Int32 × MM)
  | 0, _, _, _, _, _ => none
  | n + 1, x0, x1, x2, x3, M =>
    b1 (gR 11 2 x0 M) fun v1 =>
    b1 (gI 9 8 v1 M) fun v2 =>
    if v2 ≤ x3 then
      b1 (gR 11 1 x0 M) fun v3 =>
      b1 (f_X6_one v3 (Int32.toInt64 x2) M) fun M4 =>
      some (x1, M4)
    else
      b1 (gR 11 3 x0 M) fun v5 =>
      b2 (f_X5_ofErrand v5 x3 M) fun r7 M6 =>
      if r7 ≤ 0 then
        b1 (gR 11 8 x0 M6) fun v8 =>
        b2 (f_X3_someone v8 x3 M6) fun r10 M9 =>
        if r10 = 0 then
          bn (x2 ||| ((1 : Int32) <<< (x3 &&& 31)) : Int32) fun y11 =>
          f_X11_open_64 (f_X11_open_13 n) x0 x1 y11 x3 M9
        else
          bn (x1 ||| ((1 : Int32) <<< (x3 &&& 31)) : Int32) fun y12 =>
          f_X11_open_64 (f_X11_open_13 n) x0 y12 x2 x3 M9
      else
        f_X11_open_64 (f_X11_open_13 n) x0 x1 x2 x3 M6

def f_X11_open_0 (x0 : Nat) (M : MM) : Option (Int32 × MM) :=
    b1 (gR 11 5 x0 M) fun v1 =>
    b1 (f_X1_look v1 M) fun M2 =>
    f_X11_open_13 1024 x0 (0 : Int32) (0 : Int32) (0 : Int32) M2

def f_X11_open (x0 : Nat) (M : MM) : Option (Int32 × MM) := if isO 11 x0 M = true then f_X11_open_0 x0 M else none
set_option maxRecDepth 4000 in
theorem L_X11_open_64 {G : Gx} (X : Cb G cX11_open 4 RX11 (RM 7 0 0) false) (Y : Cr G (some .int) 0 0) {K13 : Nat → Int32 → Int32 → Int32 → MM → Option (Int32 × MM)} (hK13 : ∀ (x0 : Nat) (x1 : Int32) (x2 : Int32) (x3 : Int32) (M : MM), V G trI 4 0 0 13 [(0, .ref x0), (1, .int x1), (2, .int x2), (3, .int x3)] [] M (K13 x0 x1 x2 x3 M)) (x0 : Nat) (x1 : Int32) (x2 : Int32) (x3 : Int32) (M : MM) : V G trI 4 0 0 64 [(0, .ref x0), (1, .int x1), (2, .int x2), (3, .int x3)] [] M (f_X11_open_64 K13 x0 x1 x2 x3 M) := by
  unfold f_X11_open_64
  refine v_iinc X 67 3 (fun z => [(0, .ref x0), (1, .int x1), (2, .int x2), (3, .int z)]) dX11_open_64 rfl ik_1 (by decide) (fun _ => rfl) rfl (fun y1 => ?_)
  refine v_goto X 13 dX11_open_67 rfl ?_
  exact hK13 _ _ _ _ _
set_option maxRecDepth 4000 in
theorem L_X11_open_13 {G : Gx} (X : Cb G cX11_open 4 RX11 (RM 7 0 0) false) (Y : Cr G (some .int) 0 0) : ∀ (n : Nat) (x0 : Nat) (x1 : Int32) (x2 : Int32) (x3 : Int32) (M : MM), V G trI 4 0 0 13 [(0, .ref x0), (1, .int x1), (2, .int x2), (3, .int x3)] [] M (f_X11_open_13 n x0 x1 x2 x3 M) := by
  intro n
  induction n with
  | zero => intro x0 x1 x2 x3 M; rw [f_X11_open_13]; exact v_none
  | succ n ih =>
    intro x0 x1 x2 x3 M
    rw [f_X11_open_13]
    refine v_iload_n X 14 3 dX11_open_13 rfl rfl ?_
    refine v_aload_n X 15 0 dX11_open_14 rfl rfl ?_
    refine v_getR X 18 fl_X11_26.r dX11_open_15 rfl (fun v1 => ?_)
    refine v_getI X 21 fl_X11_120.r dX11_open_18 rfl (fun v2 => ?_)
    refine v_icge X 24 70 dX11_open_21 rfl rfl ?_ ?_
    · refine v_aload_n X 71 0 dX11_open_70 rfl rfl ?_
      refine v_getR X 74 fl_X11_19.r dX11_open_71 rfl (fun v3 => ?_)
      refine v_iload_n X 75 2 dX11_open_74 rfl rfl ?_
      refine v_i2l X 76 dX11_open_75 rfl ?_
      refine v_vV X 79 cv_X6_one ml_X11_362 (n1 := 2) rfl [.long (Int32.toInt64 x2)] rfl rfl rfl dX11_open_76 rfl (fun M1 h => c_X6_one _ _ _ _ _ h) (fun M4 => ?_)
      refine v_iload_n X 80 1 dX11_open_79 rfl rfl ?_
      exact v_iret X Y (Nat.le_refl _) (Nat.le_refl _) dX11_open_80
    · refine v_aload_n X 25 0 dX11_open_24 rfl rfl ?_
      refine v_getR X 28 fl_X11_33.r dX11_open_25 rfl (fun v5 => ?_)
      refine v_iload_n X 29 3 dX11_open_28 rfl rfl ?_
      refine v_vI X 32 cv_X5_ofErrand ml_X11_205 (n1 := 2) rfl [.int x3] rfl rfl rfl dX11_open_29 rfl (fun r M1 h => c_X5_ofErrand _ _ _ _ _ _ h) (fun r7 M6 => ?_)
      refine v_ifle X 35 38 dX11_open_32 rfl rfl ?_ ?_
      · refine v_aload_n X 39 0 dX11_open_38 rfl rfl ?_
        refine v_getR X 42 fl_X11_64.r dX11_open_39 rfl (fun v8 => ?_)
        refine v_iload_n X 43 3 dX11_open_42 rfl rfl ?_
        refine v_vI X 46 cv_X3_someone ml_X11_359 (n1 := 6) rfl [.int x3] rfl rfl rfl dX11_open_43 rfl (fun r M1 h => c_X3_someone _ _ _ _ _ _ h) (fun r10 M9 => ?_)
        refine v_ifeq X 49 58 dX11_open_46 rfl rfl ?_ ?_
        · refine v_iload_n X 59 2 dX11_open_58 rfl rfl ?_
          refine v_iconst X 60 dX11_open_59 ik_1 rfl ?_
          refine v_iload_n X 61 3 dX11_open_60 rfl rfl ?_
          refine v_ishl X 62 dX11_open_61 rfl ?_
          refine v_ior X 63 dX11_open_62 rfl ?_
          refine v_bnI (fun y11 => ?_)
          refine v_istore_n (lv' := [(0, .ref x0), (1, .int x1), (2, .int y11), (3, .int x3)]) X 64 dX11_open_63 (by decide) rfl rfl ?_
          exact L_X11_open_64 X Y ih _ _ _ _ _
        · refine v_iload_n X 50 1 dX11_open_49 rfl rfl ?_
          refine v_iconst X 51 dX11_open_50 ik_1 rfl ?_
          refine v_iload_n X 52 3 dX11_open_51 rfl rfl ?_
          refine v_ishl X 53 dX11_open_52 rfl ?_
          refine v_ior X 54 dX11_open_53 rfl ?_
          refine v_bnI (fun y12 => ?_)
          refine v_istore_n (lv' := [(0, .ref x0), (1, .int y12), (2, .int x2), (3, .int x3)]) X 55 dX11_open_54 (by decide) rfl rfl ?_
          refine v_goto X 64 dX11_open_55 rfl ?_
          exact L_X11_open_64 X Y ih _ _ _ _ _
      · refine v_goto X 64 dX11_open_35 rfl ?_
        exact L_X11_open_64 X Y ih _ _ _ _ _
set_option maxRecDepth 4000 in
theorem L_X11_open_0 {G : Gx} (X : Cb G cX11_open 4 RX11 (RM 7 0 0) false) (Y : Cr G (some .int) 0 0) (x0 : Nat) (M : MM) : V G trI 4 0 0 0 [(0, .ref x0)] [] M (f_X11_open_0 x0 M) := by
  unfold f_X11_open_0
  refine v_aload_n X 1 0 dX11_open_0 rfl rfl ?_
  refine v_getR X 4 fl_X11_45.r dX11_open_1 rfl (fun v1 => ?_)
  refine v_vV X 7 cv_X1_look ml_X11_162 (n1 := 3) rfl [] rfl rfl rfl dX11_open_4 rfl (fun M1 h => c_X1_look _ _ _ _ h) (fun M2 => ?_)
  refine v_iconst X 8 dX11_open_7 ik_0 rfl ?_
  refine v_istore_n (lv' := [(0, .ref x0), (1, .int (0 : Int32))]) X 9 dX11_open_8 (by decide) rfl rfl ?_
  refine v_iconst X 10 dX11_open_9 ik_0 rfl ?_
  refine v_istore_n (lv' := [(0, .ref x0), (1, .int (0 : Int32)), (2, .int (0 : Int32))]) X 11 dX11_open_10 (by decide) rfl rfl ?_
  refine v_iconst X 12 dX11_open_11 ik_0 rfl ?_
  refine v_istore_n (lv' := [(0, .ref x0), (1, .int (0 : Int32)), (2, .int (0 : Int32)), (3, .int (0 : Int32))]) X 13 dX11_open_12 (by decide) rfl rfl ?_
  exact L_X11_open_13 X Y 1024 _ _ _ _ _
theorem c_X11_open (l : Launch) (x0 : Nat) (M : MM) (r : Int32) (M1 : MM) (h : f_X11_open x0 M = some (r, M1)) : KV l yX11_open cX11_open 4 (some .int) (RM 7 0 0) false 11 x0 [] M (some (.int r)) M1 := by
  obtain ⟨hO, h2⟩ := iteO_some h
  exact ⟨hO, ct_of (tr := trI) (by decide) (Nat.le_of_ble_eq_true rfl) [(0, .ref x0)] rfl h2 (fun G X Y hn hl => L_X11_open_0 X Y x0 M)⟩

def f_X11_isSoundWithout_36 : Nat → Nat → Int32 → MM → Option (Int32 × MM)
  | 0, _, _, _ => none
  | n + 1, x0, x2, M =>
    b1 (gR 11 4 x0 M) fun v1 =>
    b1 (gI 5 1 v1 M) fun v2 =>
    if v2 ≤ x2 then
      rz (1 : Int32) M
    else
      b1 (gR 11 6 x0 M) fun v3 =>
      b2 (f_X1_brokenBy v3 x2 M) fun r5 M4 =>
      if r5 = 0 then
        bn (x2 + 1 : Int32) fun y6 =>
        f_X11_isSoundWithout_36 n x0 y6 M4
      else
        rz (0 : Int32) M4

def f_X11_isSoundWithout_0 (x0 : Nat) (x1 : Int32) (M : MM) : Option (Int32 × MM) :=
    b1 (gR 11 4 x0 M) fun v1 =>
    b1 (gR 11 3 x0 M) fun v2 =>
    b1 (f_X5_copyWithout v1 v2 x1 M) fun M3 =>
    b1 (gR 11 6 x0 M3) fun v4 =>
    b1 (f_X1_look v4 M3) fun M5 =>
    b1 (gR 11 6 x0 M5) fun v6 =>
    b1 (gR 1 5 v6 M5) fun v7 =>
    b2 (f_X2_isEmpty v7 M5) fun r9 M8 =>
    if r9 = 0 then
      rz (0 : Int32) M8
    else
      f_X11_isSoundWithout_36 1024 x0 (0 : Int32) M8

def f_X11_isSoundWithout (x0 : Nat) (x1 : Int32) (M : MM) : Option (Int32 × MM) := if isO 11 x0 M = true then f_X11_isSoundWithout_0 x0 x1 M else none
set_option maxRecDepth 4000 in
theorem L_X11_isSoundWithout_36 {G : Gx} (X : Cb G cX11_isSoundWithout 3 RX11 (RM 5 0 0) false) (Y : Cr G (some .boolean) 0 0) : ∀ (n : Nat) (x0 : Nat) (x2 : Int32) (M : MM), V G trI 3 0 0 36 [(0, .ref x0), (2, .int x2)] [] M (f_X11_isSoundWithout_36 n x0 x2 M) := by
  intro n
  induction n with
  | zero => intro x0 x2 M; rw [f_X11_isSoundWithout_36]; exact v_none
  | succ n ih =>
    intro x0 x2 M
    rw [f_X11_isSoundWithout_36]
    refine v_iload_n X 37 1 dX11_isSoundWithout_36 rfl rfl ?_
    refine v_aload_n X 38 0 dX11_isSoundWithout_37 rfl rfl ?_
    refine v_getR X 41 fl_X11_37.r dX11_isSoundWithout_38 rfl (fun v1 => ?_)
    refine v_getI X 44 fl_X11_143.r dX11_isSoundWithout_41 rfl (fun v2 => ?_)
    refine v_icge X 47 66 dX11_isSoundWithout_44 rfl rfl ?_ ?_
    · refine v_iconst X 67 dX11_isSoundWithout_66 ik_1 rfl ?_
      exact v_zret X Y (Nat.le_refl _) (Nat.le_refl _) dX11_isSoundWithout_67
    · refine v_aload_n X 48 0 dX11_isSoundWithout_47 rfl rfl ?_
      refine v_getR X 51 fl_X11_49.r dX11_isSoundWithout_48 rfl (fun v3 => ?_)
      refine v_iload_n X 52 1 dX11_isSoundWithout_51 rfl rfl ?_
      refine v_vI X 55 cv_X1_brokenBy ml_X11_226 (n1 := 4) rfl [.int x2] rfl rfl rfl dX11_isSoundWithout_52 rfl (fun r M1 h => c_X1_brokenBy _ _ _ _ _ _ h) (fun r5 M4 => ?_)
      refine v_ifeq X 58 60 dX11_isSoundWithout_55 rfl rfl ?_ ?_
      · refine v_iinc X 63 1 (fun z => [(0, .ref x0), (2, .int z)]) dX11_isSoundWithout_60 rfl ik_1 (by decide) (fun _ => rfl) rfl (fun y6 => ?_)
        refine v_goto X 36 dX11_isSoundWithout_63 rfl ?_
        exact ih _ _ _
      · refine v_iconst X 59 dX11_isSoundWithout_58 ik_0 rfl ?_
        exact v_zret X Y (Nat.le_refl _) (Nat.le_refl _) dX11_isSoundWithout_59
set_option maxRecDepth 4000 in
theorem L_X11_isSoundWithout_0 {G : Gx} (X : Cb G cX11_isSoundWithout 3 RX11 (RM 5 0 0) false) (Y : Cr G (some .boolean) 0 0) (x0 : Nat) (x1 : Int32) (M : MM) : V G trI 3 0 0 0 [(0, .ref x0), (1, .int x1)] [] M (f_X11_isSoundWithout_0 x0 x1 M) := by
  unfold f_X11_isSoundWithout_0
  refine v_aload_n X 1 0 dX11_isSoundWithout_0 rfl rfl ?_
  refine v_getR X 4 fl_X11_37.r dX11_isSoundWithout_1 rfl (fun v1 => ?_)
  refine v_aload_n X 5 0 dX11_isSoundWithout_4 rfl rfl ?_
  refine v_getR X 8 fl_X11_33.r dX11_isSoundWithout_5 rfl (fun v2 => ?_)
  refine v_iload_n X 9 1 dX11_isSoundWithout_8 rfl rfl ?_
  refine v_vV X 12 cv_X5_copyWithout ml_X11_496 (n1 := 1) rfl [.ref v2, .int x1] rfl rfl rfl dX11_isSoundWithout_9 rfl (fun M1 h => c_X5_copyWithout _ _ _ _ _ _ h) (fun M3 => ?_)
  refine v_aload_n X 13 0 dX11_isSoundWithout_12 rfl rfl ?_
  refine v_getR X 16 fl_X11_49.r dX11_isSoundWithout_13 rfl (fun v4 => ?_)
  refine v_vV X 19 cv_X1_look ml_X11_162 (n1 := 3) rfl [] rfl rfl rfl dX11_isSoundWithout_16 rfl (fun M1 h => c_X1_look _ _ _ _ h) (fun M5 => ?_)
  refine v_aload_n X 20 0 dX11_isSoundWithout_19 rfl rfl ?_
  refine v_getR X 23 fl_X11_49.r dX11_isSoundWithout_20 rfl (fun v6 => ?_)
  refine v_getR X 26 fl_X11_254 dX11_isSoundWithout_23 rfl (fun v7 => ?_)
  refine v_vI X 29 cv_X2_isEmpty ml_X11_500 (n1 := 1) rfl [] rfl rfl rfl dX11_isSoundWithout_26 rfl (fun r M1 h => c_X2_isEmpty _ _ _ _ _ h) (fun r9 M8 => ?_)
  refine v_ifne X 32 34 dX11_isSoundWithout_29 rfl rfl ?_ ?_
  · refine v_iconst X 35 dX11_isSoundWithout_34 ik_0 rfl ?_
    refine v_istore_n (lv' := [(0, .ref x0), (1, .int x1), (2, .int (0 : Int32))]) X 36 dX11_isSoundWithout_35 (by decide) rfl rfl ?_
    exact v_sb [0, 2] (L_X11_isSoundWithout_36 X Y 1024 _ _ _) rfl
  · refine v_iconst X 33 dX11_isSoundWithout_32 ik_0 rfl ?_
    exact v_zret X Y (Nat.le_refl _) (Nat.le_refl _) dX11_isSoundWithout_33
theorem c_X11_isSoundWithout (l : Launch) (x0 : Nat) (x1 : Int32) (M : MM) (r : Int32) (M1 : MM) (h : f_X11_isSoundWithout x0 x1 M = some (r, M1)) : KV l yX11_isSoundWithout cX11_isSoundWithout 3 (some .boolean) (RM 5 0 0) false 11 x0 [.int x1] M (some (.int r)) M1 := by
  obtain ⟨hO, h2⟩ := iteO_some h
  exact ⟨hO, ct_of (tr := trI) (by decide) (Nat.le_of_ble_eq_true rfl) [(0, .ref x0), (1, .int x1)] rfl h2 (fun G X Y hn hl => L_X11_isSoundWithout_0 X Y x0 x1 M)⟩

def f_X11_tellBits_32 (K9 : Nat → Int32 → Int32 → MM → Option (MM)) (x0 : Nat) (x1 : Int32) (x2 : Int32) (M : MM) : Option (MM) :=
    bn (x2 + 1 : Int32) fun y1 =>
    K9 x0 x1 y1 M

def f_X11_tellBits_9 : Nat → Nat → Int32 → Int32 → MM → Option (MM)
  | 0, _, _, _, _ => none
  | n + 1, x0, x1, x2, M =>
    if (12 : Int32) ≤ x2 then
      some M
    else
      if ((x1 >>> (x2 &&& 31)) &&& (1 : Int32)) = 0 then
        f_X11_tellBits_32 (f_X11_tellBits_9 n) x0 x1 x2 M
      else
        b1 (gR 11 1 x0 M) fun v1 =>
        b1 (f_X6_add v1 (Int32.toInt64 x2) M) fun M2 =>
        f_X11_tellBits_32 (f_X11_tellBits_9 n) x0 x1 x2 M2

def f_X11_tellBits_0 (x0 : Nat) (x1 : Int32) (M : MM) : Option (MM) :=
    b1 (gR 11 1 x0 M) fun v1 =>
    b1 (f_X6_clear v1 M) fun M2 =>
    f_X11_tellBits_9 1024 x0 x1 (0 : Int32) M2

def f_X11_tellBits (x0 : Nat) (x1 : Int32) (M : MM) : Option (MM) := if isO 11 x0 M = true then f_X11_tellBits_0 x0 x1 M else none
set_option maxRecDepth 4000 in
theorem L_X11_tellBits_32 {G : Gx} (X : Cb G cX11_tellBits 3 RX11 (RM 2 0 0) false) (Y : Cr G none 0 0) {K9 : Nat → Int32 → Int32 → MM → Option (MM)} (hK9 : ∀ (x0 : Nat) (x1 : Int32) (x2 : Int32) (M : MM), V G trV 3 0 0 9 [(0, .ref x0), (1, .int x1), (2, .int x2)] [] M (K9 x0 x1 x2 M)) (x0 : Nat) (x1 : Int32) (x2 : Int32) (M : MM) : V G trV 3 0 0 32 [(0, .ref x0), (1, .int x1), (2, .int x2)] [] M (f_X11_tellBits_32 K9 x0 x1 x2 M) := by
  unfold f_X11_tellBits_32
  refine v_iinc X 35 2 (fun z => [(0, .ref x0), (1, .int x1), (2, .int z)]) dX11_tellBits_32 rfl ik_1 (by decide) (fun _ => rfl) rfl (fun y1 => ?_)
  refine v_goto X 9 dX11_tellBits_35 rfl ?_
  exact hK9 _ _ _ _
set_option maxRecDepth 4000 in
theorem L_X11_tellBits_9 {G : Gx} (X : Cb G cX11_tellBits 3 RX11 (RM 2 0 0) false) (Y : Cr G none 0 0) : ∀ (n : Nat) (x0 : Nat) (x1 : Int32) (x2 : Int32) (M : MM), V G trV 3 0 0 9 [(0, .ref x0), (1, .int x1), (2, .int x2)] [] M (f_X11_tellBits_9 n x0 x1 x2 M) := by
  intro n
  induction n with
  | zero => intro x0 x1 x2 M; rw [f_X11_tellBits_9]; exact v_none
  | succ n ih =>
    intro x0 x1 x2 M
    rw [f_X11_tellBits_9]
    refine v_iload_n X 10 2 dX11_tellBits_9 rfl rfl ?_
    refine v_bipush X 12 dX11_tellBits_10 bk_12 rfl ?_
    refine v_icge X 15 38 dX11_tellBits_12 rfl rfl ?_ ?_
    · exact v_vret X Y (Nat.le_refl _) (Nat.le_refl _) dX11_tellBits_38
    · refine v_iload_n X 16 1 dX11_tellBits_15 rfl rfl ?_
      refine v_iload_n X 17 2 dX11_tellBits_16 rfl rfl ?_
      refine v_ishr X 18 dX11_tellBits_17 rfl ?_
      refine v_iconst X 19 dX11_tellBits_18 ik_1 rfl ?_
      refine v_iand X 20 dX11_tellBits_19 rfl ?_
      refine v_ifeq X 23 32 dX11_tellBits_20 rfl rfl ?_ ?_
      · exact L_X11_tellBits_32 X Y ih _ _ _ _
      · refine v_aload_n X 24 0 dX11_tellBits_23 rfl rfl ?_
        refine v_getR X 27 fl_X11_19.r dX11_tellBits_24 rfl (fun v1 => ?_)
        refine v_iload_n X 28 2 dX11_tellBits_27 rfl rfl ?_
        refine v_i2l X 29 dX11_tellBits_28 rfl ?_
        refine v_vV X 32 cv_X6_add ml_X11_353 (n1 := 1) rfl [.long (Int32.toInt64 x2)] rfl rfl rfl dX11_tellBits_29 rfl (fun M1 h => c_X6_add _ _ _ _ _ h) (fun M2 => ?_)
        exact L_X11_tellBits_32 X Y ih _ _ _ _
set_option maxRecDepth 4000 in
theorem L_X11_tellBits_0 {G : Gx} (X : Cb G cX11_tellBits 3 RX11 (RM 2 0 0) false) (Y : Cr G none 0 0) (x0 : Nat) (x1 : Int32) (M : MM) : V G trV 3 0 0 0 [(0, .ref x0), (1, .int x1)] [] M (f_X11_tellBits_0 x0 x1 M) := by
  unfold f_X11_tellBits_0
  refine v_aload_n X 1 0 dX11_tellBits_0 rfl rfl ?_
  refine v_getR X 4 fl_X11_19.r dX11_tellBits_1 rfl (fun v1 => ?_)
  refine v_vV X 7 cv_X6_clear ml_X11_344 (n1 := 1) rfl [] rfl rfl rfl dX11_tellBits_4 rfl (fun M1 h => c_X6_clear _ _ _ _ h) (fun M2 => ?_)
  refine v_iconst X 8 dX11_tellBits_7 ik_0 rfl ?_
  refine v_istore_n (lv' := [(0, .ref x0), (1, .int x1), (2, .int (0 : Int32))]) X 9 dX11_tellBits_8 (by decide) rfl rfl ?_
  exact L_X11_tellBits_9 X Y 1024 _ _ _ _
theorem c_X11_tellBits (l : Launch) (x0 : Nat) (x1 : Int32) (M : MM) (M1 : MM) (h : f_X11_tellBits x0 x1 M = some M1) : KV l yX11_tellBits cX11_tellBits 3 none (RM 2 0 0) false 11 x0 [.int x1] M none M1 := by
  obtain ⟨hO, h2⟩ := iteO_some h
  exact ⟨hO, ct_of (tr := trV) (by decide) (Nat.le_of_ble_eq_true rfl) [(0, .ref x0), (1, .int x1)] rfl h2 (fun G X Y hn hl => L_X11_tellBits_0 X Y x0 x1 M)⟩

def f_X11_mendsBy_122 (K17 : Nat → Int32 → Int32 → Int32 → MM → Option (Int32 × MM)) (K35 : Nat → Int32 → Int32 → Int32 → Int32 → MM → Option (Int32 × MM)) (K58 : Nat → Int32 → Int32 → Int32 → Int32 → Int32 → MM → Option (Int32 × MM)) (x0 : Nat) (x1 : Int32) (x2 : Int32) (x3 : Int32) (x4 : Int32) (x5 : Int32) (s0 : Int32) (s1 : Int32) (M : MM) : Option (Int32 × MM) :=
    bn (s1 ||| s0 : Int32) fun y1 =>
    b2 (f_X11_isSoundWithout x0 y1 M) fun r3 M2 =>
    if r3 = 0 then
      bn (x5 + 1 : Int32) fun y4 =>
      K58 x0 x1 x2 x3 x4 y4 M2
    else
      b1 (f_X11_tellBits x0 y1 M2) fun M5 =>
      rz (1 : Int32) M5

def f_X11_mendsBy_104 (K17 : Nat → Int32 → Int32 → Int32 → MM → Option (Int32 × MM)) (K35 : Nat → Int32 → Int32 → Int32 → Int32 → MM → Option (Int32 × MM)) (K58 : Nat → Int32 → Int32 → Int32 → Int32 → Int32 → MM → Option (Int32 × MM)) (x0 : Nat) (x1 : Int32) (x2 : Int32) (x3 : Int32) (x4 : Int32) (x5 : Int32) (s0 : Int32) (s1 : Int32) (M : MM) : Option (Int32 × MM) :=
    bn (s1 ||| s0 : Int32) fun y1 =>
    if x1 ≤ (2 : Int32) then
      f_X11_mendsBy_122 K17 K35 K58 x0 x1 x2 x3 x4 x5 (0 : Int32) y1 M
    else
      f_X11_mendsBy_122 K17 K35 K58 x0 x1 x2 x3 x4 x5 ((1 : Int32) <<< (x5 &&& 31)) y1 M

def f_X11_mendsBy_87 (K17 : Nat → Int32 → Int32 → Int32 → MM → Option (Int32 × MM)) (K35 : Nat → Int32 → Int32 → Int32 → Int32 → MM → Option (Int32 × MM)) (K58 : Nat → Int32 → Int32 → Int32 → Int32 → Int32 → MM → Option (Int32 × MM)) (x0 : Nat) (x1 : Int32) (x2 : Int32) (x3 : Int32) (x4 : Int32) (x5 : Int32) (s0 : Int32) (M : MM) : Option (Int32 × MM) :=
    if x1 ≤ (1 : Int32) then
      f_X11_mendsBy_104 K17 K35 K58 x0 x1 x2 x3 x4 x5 (0 : Int32) s0 M
    else
      f_X11_mendsBy_104 K17 K35 K58 x0 x1 x2 x3 x4 x5 ((1 : Int32) <<< (x4 &&& 31)) s0 M

def f_X11_mendsBy_73 (K17 : Nat → Int32 → Int32 → Int32 → MM → Option (Int32 × MM)) (K35 : Nat → Int32 → Int32 → Int32 → Int32 → MM → Option (Int32 × MM)) (K58 : Nat → Int32 → Int32 → Int32 → Int32 → Int32 → MM → Option (Int32 × MM)) (x0 : Nat) (x1 : Int32) (x2 : Int32) (x3 : Int32) (x4 : Int32) (x5 : Int32) (s0 : Int32) (s1 : Int32) (M : MM) : Option (Int32 × MM) :=
    if s0 ≤ s1 then
      bn (x4 + 1 : Int32) fun y1 =>
      K35 x0 x1 x2 x3 y1 M
    else
      if x1 ≤ 0 then
        f_X11_mendsBy_87 K17 K35 K58 x0 x1 x2 x3 x4 x5 (0 : Int32) M
      else
        f_X11_mendsBy_87 K17 K35 K58 x0 x1 x2 x3 x4 x5 ((1 : Int32) <<< (x3 &&& 31)) M

def f_X11_mendsBy_58 (K17 : Nat → Int32 → Int32 → Int32 → MM → Option (Int32 × MM)) (K35 : Nat → Int32 → Int32 → Int32 → Int32 → MM → Option (Int32 × MM)) : Nat → Nat → Int32 → Int32 → Int32 → Int32 → Int32 → MM → Option (Int32 × MM)
  | 0, _, _, _, _, _, _, _ => none
  | n + 1, x0, x1, x2, x3, x4, x5, M =>
    if x1 ≤ (2 : Int32) then
      f_X11_mendsBy_73 K17 K35 (f_X11_mendsBy_58 K17 K35 n) x0 x1 x2 x3 x4 x5 (x4 + (2 : Int32)) x5 M
    else
      f_X11_mendsBy_73 K17 K35 (f_X11_mendsBy_58 K17 K35 n) x0 x1 x2 x3 x4 x5 x2 x5 M

def f_X11_mendsBy_49 (K17 : Nat → Int32 → Int32 → Int32 → MM → Option (Int32 × MM)) (K35 : Nat → Int32 → Int32 → Int32 → Int32 → MM → Option (Int32 × MM)) (x0 : Nat) (x1 : Int32) (x2 : Int32) (x3 : Int32) (x4 : Int32) (s0 : Int32) (s1 : Int32) (M : MM) : Option (Int32 × MM) :=
    if s0 ≤ s1 then
      bn (x3 + 1 : Int32) fun y1 =>
      K17 x0 x1 x2 y1 M
    else
      bn (x4 + (1 : Int32) : Int32) fun y2 =>
      f_X11_mendsBy_58 K17 K35 1024 x0 x1 x2 x3 x4 y2 M

def f_X11_mendsBy_35 (K17 : Nat → Int32 → Int32 → Int32 → MM → Option (Int32 × MM)) : Nat → Nat → Int32 → Int32 → Int32 → Int32 → MM → Option (Int32 × MM)
  | 0, _, _, _, _, _, _ => none
  | n + 1, x0, x1, x2, x3, x4, M =>
    if x1 ≤ (1 : Int32) then
      f_X11_mendsBy_49 K17 (f_X11_mendsBy_35 K17 n) x0 x1 x2 x3 x4 (x3 + (2 : Int32)) x4 M
    else
      f_X11_mendsBy_49 K17 (f_X11_mendsBy_35 K17 n) x0 x1 x2 x3 x4 x2 x4 M

def f_X11_mendsBy_27 (K17 : Nat → Int32 → Int32 → Int32 → MM → Option (Int32 × MM)) (x0 : Nat) (x1 : Int32) (x2 : Int32) (x3 : Int32) (s0 : Int32) (s1 : Int32) (M : MM) : Option (Int32 × MM) :=
    if s0 ≤ s1 then
      rz (0 : Int32) M
    else
      bn (x3 + (1 : Int32) : Int32) fun y1 =>
      f_X11_mendsBy_35 K17 1024 x0 x1 x2 x3 y1 M

def f_X11_mendsBy_17 : Nat → Nat → Int32 → Int32 → Int32 → MM → Option (Int32 × MM)
  | 0, _, _, _, _, _ => none
  | n + 1, x0, x1, x2, x3, M =>
    if x1 ≤ 0 then
      f_X11_mendsBy_27 (f_X11_mendsBy_17 n) x0 x1 x2 x3 (1 : Int32) x3 M
    else
      f_X11_mendsBy_27 (f_X11_mendsBy_17 n) x0 x1 x2 x3 x2 x3 M

def f_X11_mendsBy_0 (x0 : Nat) (x1 : Int32) (M : MM) : Option (Int32 × MM) :=
    b1 (gR 11 3 x0 M) fun v1 =>
    b1 (gI 5 1 v1 M) fun v2 =>
    if x1 ≤ v2 then
      f_X11_mendsBy_17 1024 x0 x1 v2 (0 : Int32) M
    else
      rz (0 : Int32) M

def f_X11_mendsBy (x0 : Nat) (x1 : Int32) (M : MM) : Option (Int32 × MM) := if isO 11 x0 M = true then f_X11_mendsBy_0 x0 x1 M else none
set_option maxRecDepth 4000 in
theorem L_X11_mendsBy_122 {G : Gx} (X : Cb G cX11_mendsBy 7 RX11 (RM 6 0 0) false) (Y : Cr G (some .boolean) 0 0) {K17 : Nat → Int32 → Int32 → Int32 → MM → Option (Int32 × MM)} (hK17 : ∀ (x0 : Nat) (x1 : Int32) (x2 : Int32) (x3 : Int32) (M : MM), V G trI 7 0 0 17 [(0, .ref x0), (1, .int x1), (2, .int x2), (3, .int x3)] [] M (K17 x0 x1 x2 x3 M)) {K35 : Nat → Int32 → Int32 → Int32 → Int32 → MM → Option (Int32 × MM)} (hK35 : ∀ (x0 : Nat) (x1 : Int32) (x2 : Int32) (x3 : Int32) (x4 : Int32) (M : MM), V G trI 7 0 0 35 [(0, .ref x0), (1, .int x1), (2, .int x2), (3, .int x3), (4, .int x4)] [] M (K35 x0 x1 x2 x3 x4 M)) {K58 : Nat → Int32 → Int32 → Int32 → Int32 → Int32 → MM → Option (Int32 × MM)} (hK58 : ∀ (x0 : Nat) (x1 : Int32) (x2 : Int32) (x3 : Int32) (x4 : Int32) (x5 : Int32) (M : MM), V G trI 7 0 0 58 [(0, .ref x0), (1, .int x1), (2, .int x2), (3, .int x3), (4, .int x4), (5, .int x5)] [] M (K58 x0 x1 x2 x3 x4 x5 M)) (x0 : Nat) (x1 : Int32) (x2 : Int32) (x3 : Int32) (x4 : Int32) (x5 : Int32) (s0 : Int32) (s1 : Int32) (M : MM) : V G trI 7 0 0 122 [(0, .ref x0), (1, .int x1), (2, .int x2), (3, .int x3), (4, .int x4), (5, .int x5)] [.int s0, .int s1] M (f_X11_mendsBy_122 K17 K35 K58 x0 x1 x2 x3 x4 x5 s0 s1 M) := by
  unfold f_X11_mendsBy_122
  refine v_ior X 123 dX11_mendsBy_122 rfl ?_
  refine v_bnI (fun y1 => ?_)
  refine v_istore (lv' := [(0, .ref x0), (1, .int x1), (2, .int x2), (3, .int x3), (4, .int x4), (5, .int x5), (6, .int y1)]) X 125 dX11_mendsBy_123 (by decide) rfl rfl ?_
  refine v_aload_n X 126 0 dX11_mendsBy_125 rfl rfl ?_
  refine v_iload X 128 6 dX11_mendsBy_126 rfl rfl ?_
  refine v_vI X 131 cv_X11_isSoundWithout ml_X11_490 (n1 := 5) rfl [.int y1] rfl rfl rfl dX11_mendsBy_128 rfl (fun r M1 h => c_X11_isSoundWithout _ _ _ _ _ _ h) (fun r3 M2 => ?_)
  refine v_ifeq X 134 142 dX11_mendsBy_131 rfl rfl ?_ ?_
  · refine v_iinc X 145 5 (fun z => [(0, .ref x0), (1, .int x1), (2, .int x2), (3, .int x3), (4, .int x4), (5, .int z), (6, .int y1)]) dX11_mendsBy_142 rfl ik_1 (by decide) (fun _ => rfl) rfl (fun y4 => ?_)
    refine v_goto X 58 dX11_mendsBy_145 rfl ?_
    exact v_sb [0, 1, 2, 3, 4, 5] (hK58 _ _ _ _ _ _ _) rfl
  · refine v_aload_n X 135 0 dX11_mendsBy_134 rfl rfl ?_
    refine v_iload X 137 6 dX11_mendsBy_135 rfl rfl ?_
    refine v_vV X 140 cv_X11_tellBits ml_X11_493 (n1 := 2) rfl [.int y1] rfl rfl rfl dX11_mendsBy_137 rfl (fun M1 h => c_X11_tellBits _ _ _ _ _ h) (fun M5 => ?_)
    refine v_iconst X 141 dX11_mendsBy_140 ik_1 rfl ?_
    exact v_zret X Y (Nat.le_refl _) (Nat.le_refl _) dX11_mendsBy_141
set_option maxRecDepth 4000 in
theorem L_X11_mendsBy_104 {G : Gx} (X : Cb G cX11_mendsBy 7 RX11 (RM 6 0 0) false) (Y : Cr G (some .boolean) 0 0) {K17 : Nat → Int32 → Int32 → Int32 → MM → Option (Int32 × MM)} (hK17 : ∀ (x0 : Nat) (x1 : Int32) (x2 : Int32) (x3 : Int32) (M : MM), V G trI 7 0 0 17 [(0, .ref x0), (1, .int x1), (2, .int x2), (3, .int x3)] [] M (K17 x0 x1 x2 x3 M)) {K35 : Nat → Int32 → Int32 → Int32 → Int32 → MM → Option (Int32 × MM)} (hK35 : ∀ (x0 : Nat) (x1 : Int32) (x2 : Int32) (x3 : Int32) (x4 : Int32) (M : MM), V G trI 7 0 0 35 [(0, .ref x0), (1, .int x1), (2, .int x2), (3, .int x3), (4, .int x4)] [] M (K35 x0 x1 x2 x3 x4 M)) {K58 : Nat → Int32 → Int32 → Int32 → Int32 → Int32 → MM → Option (Int32 × MM)} (hK58 : ∀ (x0 : Nat) (x1 : Int32) (x2 : Int32) (x3 : Int32) (x4 : Int32) (x5 : Int32) (M : MM), V G trI 7 0 0 58 [(0, .ref x0), (1, .int x1), (2, .int x2), (3, .int x3), (4, .int x4), (5, .int x5)] [] M (K58 x0 x1 x2 x3 x4 x5 M)) (x0 : Nat) (x1 : Int32) (x2 : Int32) (x3 : Int32) (x4 : Int32) (x5 : Int32) (s0 : Int32) (s1 : Int32) (M : MM) : V G trI 7 0 0 104 [(0, .ref x0), (1, .int x1), (2, .int x2), (3, .int x3), (4, .int x4), (5, .int x5)] [.int s0, .int s1] M (f_X11_mendsBy_104 K17 K35 K58 x0 x1 x2 x3 x4 x5 s0 s1 M) := by
  unfold f_X11_mendsBy_104
  refine v_ior X 105 dX11_mendsBy_104 rfl ?_
  refine v_bnI (fun y1 => ?_)
  refine v_istore (lv' := [(0, .ref x0), (1, .int x1), (2, .int x2), (3, .int x3), (4, .int x4), (5, .int x5), (6, .int y1)]) X 107 dX11_mendsBy_105 (by decide) rfl rfl ?_
  refine v_iload X 109 6 dX11_mendsBy_107 rfl rfl ?_
  refine v_iload_n X 110 1 dX11_mendsBy_109 rfl rfl ?_
  refine v_iconst X 111 dX11_mendsBy_110 ik_2 rfl ?_
  refine v_icle X 114 121 dX11_mendsBy_111 rfl rfl ?_ ?_
  · refine v_iconst X 122 dX11_mendsBy_121 ik_0 rfl ?_
    exact v_sb [0, 1, 2, 3, 4, 5] (L_X11_mendsBy_122 X Y hK17 hK35 hK58 _ _ _ _ _ _ _ _ _) rfl
  · refine v_iconst X 115 dX11_mendsBy_114 ik_1 rfl ?_
    refine v_iload X 117 5 dX11_mendsBy_115 rfl rfl ?_
    refine v_ishl X 118 dX11_mendsBy_117 rfl ?_
    refine v_goto X 122 dX11_mendsBy_118 rfl ?_
    exact v_sb [0, 1, 2, 3, 4, 5] (L_X11_mendsBy_122 X Y hK17 hK35 hK58 _ _ _ _ _ _ _ _ _) rfl
set_option maxRecDepth 4000 in
theorem L_X11_mendsBy_87 {G : Gx} (X : Cb G cX11_mendsBy 7 RX11 (RM 6 0 0) false) (Y : Cr G (some .boolean) 0 0) {K17 : Nat → Int32 → Int32 → Int32 → MM → Option (Int32 × MM)} (hK17 : ∀ (x0 : Nat) (x1 : Int32) (x2 : Int32) (x3 : Int32) (M : MM), V G trI 7 0 0 17 [(0, .ref x0), (1, .int x1), (2, .int x2), (3, .int x3)] [] M (K17 x0 x1 x2 x3 M)) {K35 : Nat → Int32 → Int32 → Int32 → Int32 → MM → Option (Int32 × MM)} (hK35 : ∀ (x0 : Nat) (x1 : Int32) (x2 : Int32) (x3 : Int32) (x4 : Int32) (M : MM), V G trI 7 0 0 35 [(0, .ref x0), (1, .int x1), (2, .int x2), (3, .int x3), (4, .int x4)] [] M (K35 x0 x1 x2 x3 x4 M)) {K58 : Nat → Int32 → Int32 → Int32 → Int32 → Int32 → MM → Option (Int32 × MM)} (hK58 : ∀ (x0 : Nat) (x1 : Int32) (x2 : Int32) (x3 : Int32) (x4 : Int32) (x5 : Int32) (M : MM), V G trI 7 0 0 58 [(0, .ref x0), (1, .int x1), (2, .int x2), (3, .int x3), (4, .int x4), (5, .int x5)] [] M (K58 x0 x1 x2 x3 x4 x5 M)) (x0 : Nat) (x1 : Int32) (x2 : Int32) (x3 : Int32) (x4 : Int32) (x5 : Int32) (s0 : Int32) (M : MM) : V G trI 7 0 0 87 [(0, .ref x0), (1, .int x1), (2, .int x2), (3, .int x3), (4, .int x4), (5, .int x5)] [.int s0] M (f_X11_mendsBy_87 K17 K35 K58 x0 x1 x2 x3 x4 x5 s0 M) := by
  unfold f_X11_mendsBy_87
  refine v_istore (lv' := [(0, .ref x0), (1, .int x1), (2, .int x2), (3, .int x3), (4, .int x4), (5, .int x5), (6, .int s0)]) X 89 dX11_mendsBy_87 (by decide) rfl rfl ?_
  refine v_iload X 91 6 dX11_mendsBy_89 rfl rfl ?_
  refine v_iload_n X 92 1 dX11_mendsBy_91 rfl rfl ?_
  refine v_iconst X 93 dX11_mendsBy_92 ik_1 rfl ?_
  refine v_icle X 96 103 dX11_mendsBy_93 rfl rfl ?_ ?_
  · refine v_iconst X 104 dX11_mendsBy_103 ik_0 rfl ?_
    exact v_sb [0, 1, 2, 3, 4, 5] (L_X11_mendsBy_104 X Y hK17 hK35 hK58 _ _ _ _ _ _ _ _ _) rfl
  · refine v_iconst X 97 dX11_mendsBy_96 ik_1 rfl ?_
    refine v_iload X 99 4 dX11_mendsBy_97 rfl rfl ?_
    refine v_ishl X 100 dX11_mendsBy_99 rfl ?_
    refine v_goto X 104 dX11_mendsBy_100 rfl ?_
    exact v_sb [0, 1, 2, 3, 4, 5] (L_X11_mendsBy_104 X Y hK17 hK35 hK58 _ _ _ _ _ _ _ _ _) rfl
set_option maxRecDepth 4000 in
theorem L_X11_mendsBy_73 {G : Gx} (X : Cb G cX11_mendsBy 7 RX11 (RM 6 0 0) false) (Y : Cr G (some .boolean) 0 0) {K17 : Nat → Int32 → Int32 → Int32 → MM → Option (Int32 × MM)} (hK17 : ∀ (x0 : Nat) (x1 : Int32) (x2 : Int32) (x3 : Int32) (M : MM), V G trI 7 0 0 17 [(0, .ref x0), (1, .int x1), (2, .int x2), (3, .int x3)] [] M (K17 x0 x1 x2 x3 M)) {K35 : Nat → Int32 → Int32 → Int32 → Int32 → MM → Option (Int32 × MM)} (hK35 : ∀ (x0 : Nat) (x1 : Int32) (x2 : Int32) (x3 : Int32) (x4 : Int32) (M : MM), V G trI 7 0 0 35 [(0, .ref x0), (1, .int x1), (2, .int x2), (3, .int x3), (4, .int x4)] [] M (K35 x0 x1 x2 x3 x4 M)) {K58 : Nat → Int32 → Int32 → Int32 → Int32 → Int32 → MM → Option (Int32 × MM)} (hK58 : ∀ (x0 : Nat) (x1 : Int32) (x2 : Int32) (x3 : Int32) (x4 : Int32) (x5 : Int32) (M : MM), V G trI 7 0 0 58 [(0, .ref x0), (1, .int x1), (2, .int x2), (3, .int x3), (4, .int x4), (5, .int x5)] [] M (K58 x0 x1 x2 x3 x4 x5 M)) (x0 : Nat) (x1 : Int32) (x2 : Int32) (x3 : Int32) (x4 : Int32) (x5 : Int32) (s0 : Int32) (s1 : Int32) (M : MM) : V G trI 7 0 0 73 [(0, .ref x0), (1, .int x1), (2, .int x2), (3, .int x3), (4, .int x4), (5, .int x5)] [.int s0, .int s1] M (f_X11_mendsBy_73 K17 K35 K58 x0 x1 x2 x3 x4 x5 s0 s1 M) := by
  unfold f_X11_mendsBy_73
  refine v_icge X 76 148 dX11_mendsBy_73 rfl rfl ?_ ?_
  · refine v_iinc X 151 4 (fun z => [(0, .ref x0), (1, .int x1), (2, .int x2), (3, .int x3), (4, .int z), (5, .int x5)]) dX11_mendsBy_148 rfl ik_1 (by decide) (fun _ => rfl) rfl (fun y1 => ?_)
    refine v_goto X 35 dX11_mendsBy_151 rfl ?_
    exact v_sb [0, 1, 2, 3, 4] (hK35 _ _ _ _ _ _) rfl
  · refine v_iload_n X 77 1 dX11_mendsBy_76 rfl rfl ?_
    refine v_ifle X 80 86 dX11_mendsBy_77 rfl rfl ?_ ?_
    · refine v_iconst X 87 dX11_mendsBy_86 ik_0 rfl ?_
      exact L_X11_mendsBy_87 X Y hK17 hK35 hK58 _ _ _ _ _ _ _ _
    · refine v_iconst X 81 dX11_mendsBy_80 ik_1 rfl ?_
      refine v_iload_n X 82 3 dX11_mendsBy_81 rfl rfl ?_
      refine v_ishl X 83 dX11_mendsBy_82 rfl ?_
      refine v_goto X 87 dX11_mendsBy_83 rfl ?_
      exact L_X11_mendsBy_87 X Y hK17 hK35 hK58 _ _ _ _ _ _ _ _
set_option maxRecDepth 4000 in
theorem L_X11_mendsBy_58 {G : Gx} (X : Cb G cX11_mendsBy 7 RX11 (RM 6 0 0) false) (Y : Cr G (some .boolean) 0 0) {K17 : Nat → Int32 → Int32 → Int32 → MM → Option (Int32 × MM)} (hK17 : ∀ (x0 : Nat) (x1 : Int32) (x2 : Int32) (x3 : Int32) (M : MM), V G trI 7 0 0 17 [(0, .ref x0), (1, .int x1), (2, .int x2), (3, .int x3)] [] M (K17 x0 x1 x2 x3 M)) {K35 : Nat → Int32 → Int32 → Int32 → Int32 → MM → Option (Int32 × MM)} (hK35 : ∀ (x0 : Nat) (x1 : Int32) (x2 : Int32) (x3 : Int32) (x4 : Int32) (M : MM), V G trI 7 0 0 35 [(0, .ref x0), (1, .int x1), (2, .int x2), (3, .int x3), (4, .int x4)] [] M (K35 x0 x1 x2 x3 x4 M)) : ∀ (n : Nat) (x0 : Nat) (x1 : Int32) (x2 : Int32) (x3 : Int32) (x4 : Int32) (x5 : Int32) (M : MM), V G trI 7 0 0 58 [(0, .ref x0), (1, .int x1), (2, .int x2), (3, .int x3), (4, .int x4), (5, .int x5)] [] M (f_X11_mendsBy_58 K17 K35 n x0 x1 x2 x3 x4 x5 M) := by
  intro n
  induction n with
  | zero => intro x0 x1 x2 x3 x4 x5 M; rw [f_X11_mendsBy_58]; exact v_none
  | succ n ih =>
    intro x0 x1 x2 x3 x4 x5 M
    rw [f_X11_mendsBy_58]
    refine v_iload X 60 5 dX11_mendsBy_58 rfl rfl ?_
    refine v_iload_n X 61 1 dX11_mendsBy_60 rfl rfl ?_
    refine v_iconst X 62 dX11_mendsBy_61 ik_2 rfl ?_
    refine v_icle X 65 69 dX11_mendsBy_62 rfl rfl ?_ ?_
    · refine v_iload X 71 4 dX11_mendsBy_69 rfl rfl ?_
      refine v_iconst X 72 dX11_mendsBy_71 ik_2 rfl ?_
      refine v_iadd X 73 dX11_mendsBy_72 rfl ?_
      exact L_X11_mendsBy_73 X Y hK17 hK35 ih _ _ _ _ _ _ _ _ _
    · refine v_iload_n X 66 2 dX11_mendsBy_65 rfl rfl ?_
      refine v_goto X 73 dX11_mendsBy_66 rfl ?_
      exact L_X11_mendsBy_73 X Y hK17 hK35 ih _ _ _ _ _ _ _ _ _
set_option maxRecDepth 4000 in
theorem L_X11_mendsBy_49 {G : Gx} (X : Cb G cX11_mendsBy 7 RX11 (RM 6 0 0) false) (Y : Cr G (some .boolean) 0 0) {K17 : Nat → Int32 → Int32 → Int32 → MM → Option (Int32 × MM)} (hK17 : ∀ (x0 : Nat) (x1 : Int32) (x2 : Int32) (x3 : Int32) (M : MM), V G trI 7 0 0 17 [(0, .ref x0), (1, .int x1), (2, .int x2), (3, .int x3)] [] M (K17 x0 x1 x2 x3 M)) {K35 : Nat → Int32 → Int32 → Int32 → Int32 → MM → Option (Int32 × MM)} (hK35 : ∀ (x0 : Nat) (x1 : Int32) (x2 : Int32) (x3 : Int32) (x4 : Int32) (M : MM), V G trI 7 0 0 35 [(0, .ref x0), (1, .int x1), (2, .int x2), (3, .int x3), (4, .int x4)] [] M (K35 x0 x1 x2 x3 x4 M)) (x0 : Nat) (x1 : Int32) (x2 : Int32) (x3 : Int32) (x4 : Int32) (s0 : Int32) (s1 : Int32) (M : MM) : V G trI 7 0 0 49 [(0, .ref x0), (1, .int x1), (2, .int x2), (3, .int x3), (4, .int x4)] [.int s0, .int s1] M (f_X11_mendsBy_49 K17 K35 x0 x1 x2 x3 x4 s0 s1 M) := by
  unfold f_X11_mendsBy_49
  refine v_icge X 52 154 dX11_mendsBy_49 rfl rfl ?_ ?_
  · refine v_iinc X 157 3 (fun z => [(0, .ref x0), (1, .int x1), (2, .int x2), (3, .int z), (4, .int x4)]) dX11_mendsBy_154 rfl ik_1 (by decide) (fun _ => rfl) rfl (fun y1 => ?_)
    refine v_goto X 17 dX11_mendsBy_157 rfl ?_
    exact v_sb [0, 1, 2, 3] (hK17 _ _ _ _ _) rfl
  · refine v_iload X 54 4 dX11_mendsBy_52 rfl rfl ?_
    refine v_iconst X 55 dX11_mendsBy_54 ik_1 rfl ?_
    refine v_iadd X 56 dX11_mendsBy_55 rfl ?_
    refine v_bnI (fun y2 => ?_)
    refine v_istore (lv' := [(0, .ref x0), (1, .int x1), (2, .int x2), (3, .int x3), (4, .int x4), (5, .int y2)]) X 58 dX11_mendsBy_56 (by decide) rfl rfl ?_
    exact L_X11_mendsBy_58 X Y hK17 hK35 1024 _ _ _ _ _ _ _
set_option maxRecDepth 4000 in
theorem L_X11_mendsBy_35 {G : Gx} (X : Cb G cX11_mendsBy 7 RX11 (RM 6 0 0) false) (Y : Cr G (some .boolean) 0 0) {K17 : Nat → Int32 → Int32 → Int32 → MM → Option (Int32 × MM)} (hK17 : ∀ (x0 : Nat) (x1 : Int32) (x2 : Int32) (x3 : Int32) (M : MM), V G trI 7 0 0 17 [(0, .ref x0), (1, .int x1), (2, .int x2), (3, .int x3)] [] M (K17 x0 x1 x2 x3 M)) : ∀ (n : Nat) (x0 : Nat) (x1 : Int32) (x2 : Int32) (x3 : Int32) (x4 : Int32) (M : MM), V G trI 7 0 0 35 [(0, .ref x0), (1, .int x1), (2, .int x2), (3, .int x3), (4, .int x4)] [] M (f_X11_mendsBy_35 K17 n x0 x1 x2 x3 x4 M) := by
  intro n
  induction n with
  | zero => intro x0 x1 x2 x3 x4 M; rw [f_X11_mendsBy_35]; exact v_none
  | succ n ih =>
    intro x0 x1 x2 x3 x4 M
    rw [f_X11_mendsBy_35]
    refine v_iload X 37 4 dX11_mendsBy_35 rfl rfl ?_
    refine v_iload_n X 38 1 dX11_mendsBy_37 rfl rfl ?_
    refine v_iconst X 39 dX11_mendsBy_38 ik_1 rfl ?_
    refine v_icle X 42 46 dX11_mendsBy_39 rfl rfl ?_ ?_
    · refine v_iload_n X 47 3 dX11_mendsBy_46 rfl rfl ?_
      refine v_iconst X 48 dX11_mendsBy_47 ik_2 rfl ?_
      refine v_iadd X 49 dX11_mendsBy_48 rfl ?_
      exact L_X11_mendsBy_49 X Y hK17 ih _ _ _ _ _ _ _ _
    · refine v_iload_n X 43 2 dX11_mendsBy_42 rfl rfl ?_
      refine v_goto X 49 dX11_mendsBy_43 rfl ?_
      exact L_X11_mendsBy_49 X Y hK17 ih _ _ _ _ _ _ _ _
set_option maxRecDepth 4000 in
theorem L_X11_mendsBy_27 {G : Gx} (X : Cb G cX11_mendsBy 7 RX11 (RM 6 0 0) false) (Y : Cr G (some .boolean) 0 0) {K17 : Nat → Int32 → Int32 → Int32 → MM → Option (Int32 × MM)} (hK17 : ∀ (x0 : Nat) (x1 : Int32) (x2 : Int32) (x3 : Int32) (M : MM), V G trI 7 0 0 17 [(0, .ref x0), (1, .int x1), (2, .int x2), (3, .int x3)] [] M (K17 x0 x1 x2 x3 M)) (x0 : Nat) (x1 : Int32) (x2 : Int32) (x3 : Int32) (s0 : Int32) (s1 : Int32) (M : MM) : V G trI 7 0 0 27 [(0, .ref x0), (1, .int x1), (2, .int x2), (3, .int x3)] [.int s0, .int s1] M (f_X11_mendsBy_27 K17 x0 x1 x2 x3 s0 s1 M) := by
  unfold f_X11_mendsBy_27
  refine v_icge X 30 160 dX11_mendsBy_27 rfl rfl ?_ ?_
  · refine v_iconst X 161 dX11_mendsBy_160 ik_0 rfl ?_
    exact v_zret X Y (Nat.le_refl _) (Nat.le_refl _) dX11_mendsBy_161
  · refine v_iload_n X 31 3 dX11_mendsBy_30 rfl rfl ?_
    refine v_iconst X 32 dX11_mendsBy_31 ik_1 rfl ?_
    refine v_iadd X 33 dX11_mendsBy_32 rfl ?_
    refine v_bnI (fun y1 => ?_)
    refine v_istore (lv' := [(0, .ref x0), (1, .int x1), (2, .int x2), (3, .int x3), (4, .int y1)]) X 35 dX11_mendsBy_33 (by decide) rfl rfl ?_
    exact L_X11_mendsBy_35 X Y hK17 1024 _ _ _ _ _ _
set_option maxRecDepth 4000 in
theorem L_X11_mendsBy_17 {G : Gx} (X : Cb G cX11_mendsBy 7 RX11 (RM 6 0 0) false) (Y : Cr G (some .boolean) 0 0) : ∀ (n : Nat) (x0 : Nat) (x1 : Int32) (x2 : Int32) (x3 : Int32) (M : MM), V G trI 7 0 0 17 [(0, .ref x0), (1, .int x1), (2, .int x2), (3, .int x3)] [] M (f_X11_mendsBy_17 n x0 x1 x2 x3 M) := by
  intro n
  induction n with
  | zero => intro x0 x1 x2 x3 M; rw [f_X11_mendsBy_17]; exact v_none
  | succ n ih =>
    intro x0 x1 x2 x3 M
    rw [f_X11_mendsBy_17]
    refine v_iload_n X 18 3 dX11_mendsBy_17 rfl rfl ?_
    refine v_iload_n X 19 1 dX11_mendsBy_18 rfl rfl ?_
    refine v_ifle X 22 26 dX11_mendsBy_19 rfl rfl ?_ ?_
    · refine v_iconst X 27 dX11_mendsBy_26 ik_1 rfl ?_
      exact L_X11_mendsBy_27 X Y ih _ _ _ _ _ _ _
    · refine v_iload_n X 23 2 dX11_mendsBy_22 rfl rfl ?_
      refine v_goto X 27 dX11_mendsBy_23 rfl ?_
      exact L_X11_mendsBy_27 X Y ih _ _ _ _ _ _ _
set_option maxRecDepth 4000 in
theorem L_X11_mendsBy_0 {G : Gx} (X : Cb G cX11_mendsBy 7 RX11 (RM 6 0 0) false) (Y : Cr G (some .boolean) 0 0) (x0 : Nat) (x1 : Int32) (M : MM) : V G trI 7 0 0 0 [(0, .ref x0), (1, .int x1)] [] M (f_X11_mendsBy_0 x0 x1 M) := by
  unfold f_X11_mendsBy_0
  refine v_aload_n X 1 0 dX11_mendsBy_0 rfl rfl ?_
  refine v_getR X 4 fl_X11_33.r dX11_mendsBy_1 rfl (fun v1 => ?_)
  refine v_getI X 7 fl_X11_143.r dX11_mendsBy_4 rfl (fun v2 => ?_)
  refine v_istore_n (lv' := [(0, .ref x0), (1, .int x1), (2, .int v2)]) X 8 dX11_mendsBy_7 (by decide) rfl rfl ?_
  refine v_iload_n X 9 1 dX11_mendsBy_8 rfl rfl ?_
  refine v_iload_n X 10 2 dX11_mendsBy_9 rfl rfl ?_
  refine v_icle X 13 15 dX11_mendsBy_10 rfl rfl ?_ ?_
  · refine v_iconst X 16 dX11_mendsBy_15 ik_0 rfl ?_
    refine v_istore_n (lv' := [(0, .ref x0), (1, .int x1), (2, .int v2), (3, .int (0 : Int32))]) X 17 dX11_mendsBy_16 (by decide) rfl rfl ?_
    exact L_X11_mendsBy_17 X Y 1024 _ _ _ _ _
  · refine v_iconst X 14 dX11_mendsBy_13 ik_0 rfl ?_
    exact v_zret X Y (Nat.le_refl _) (Nat.le_refl _) dX11_mendsBy_14
theorem c_X11_mendsBy (l : Launch) (x0 : Nat) (x1 : Int32) (M : MM) (r : Int32) (M1 : MM) (h : f_X11_mendsBy x0 x1 M = some (r, M1)) : KV l yX11_mendsBy cX11_mendsBy 7 (some .boolean) (RM 6 0 0) false 11 x0 [.int x1] M (some (.int r)) M1 := by
  obtain ⟨hO, h2⟩ := iteO_some h
  exact ⟨hO, ct_of (tr := trI) (by decide) (Nat.le_of_ble_eq_true rfl) [(0, .ref x0), (1, .int x1)] rfl h2 (fun G X Y hn hl => L_X11_mendsBy_0 X Y x0 x1 M)⟩

def f_X11_mend_2 : Nat → Nat → Int32 → MM → Option (Int32 × MM)
  | 0, _, _, _ => none
  | n + 1, x0, x1, M =>
    if (3 : Int32) < x1 then
      some ((-2 : Int32), M)
    else
      b2 (f_X11_mendsBy x0 x1 M) fun r2 M1 =>
      if r2 = 0 then
        bn (x1 + 1 : Int32) fun y3 =>
        f_X11_mend_2 n x0 y3 M1
      else
        some (x1, M1)

def f_X11_mend_0 (x0 : Nat) (M : MM) : Option (Int32 × MM) :=
    f_X11_mend_2 1024 x0 (0 : Int32) M

def f_X11_mend (x0 : Nat) (M : MM) : Option (Int32 × MM) := if isO 11 x0 M = true then f_X11_mend_0 x0 M else none
set_option maxRecDepth 4000 in
theorem L_X11_mend_2 {G : Gx} (X : Cb G cX11_mend 2 RX11 (RM 7 0 0) false) (Y : Cr G (some .int) 0 0) : ∀ (n : Nat) (x0 : Nat) (x1 : Int32) (M : MM), V G trI 2 0 0 2 [(0, .ref x0), (1, .int x1)] [] M (f_X11_mend_2 n x0 x1 M) := by
  intro n
  induction n with
  | zero => intro x0 x1 M; rw [f_X11_mend_2]; exact v_none
  | succ n ih =>
    intro x0 x1 M
    rw [f_X11_mend_2]
    refine v_iload_n X 3 1 dX11_mend_2 rfl rfl ?_
    refine v_iconst X 4 dX11_mend_3 ik_3 rfl ?_
    refine v_icgt X 7 23 dX11_mend_4 rfl rfl ?_ ?_
    · refine v_bipush X 25 dX11_mend_23 bk_m2 rfl ?_
      exact v_iret X Y (Nat.le_refl _) (Nat.le_refl _) dX11_mend_25
    · refine v_aload_n X 8 0 dX11_mend_7 rfl rfl ?_
      refine v_iload_n X 9 1 dX11_mend_8 rfl rfl ?_
      refine v_vI X 12 cv_X11_mendsBy ml_X11_365 (n1 := 6) rfl [.int x1] rfl rfl rfl dX11_mend_9 rfl (fun r M1 h => c_X11_mendsBy _ _ _ _ _ _ h) (fun r2 M1 => ?_)
      refine v_ifeq X 15 17 dX11_mend_12 rfl rfl ?_ ?_
      · refine v_iinc X 20 1 (fun z => [(0, .ref x0), (1, .int z)]) dX11_mend_17 rfl ik_1 (by decide) (fun _ => rfl) rfl (fun y3 => ?_)
        refine v_goto X 2 dX11_mend_20 rfl ?_
        exact ih _ _ _
      · refine v_iload_n X 16 1 dX11_mend_15 rfl rfl ?_
        exact v_iret X Y (Nat.le_refl _) (Nat.le_refl _) dX11_mend_16
set_option maxRecDepth 4000 in
theorem L_X11_mend_0 {G : Gx} (X : Cb G cX11_mend 2 RX11 (RM 7 0 0) false) (Y : Cr G (some .int) 0 0) (x0 : Nat) (M : MM) : V G trI 2 0 0 0 [(0, .ref x0)] [] M (f_X11_mend_0 x0 M) := by
  unfold f_X11_mend_0
  refine v_iconst X 1 dX11_mend_0 ik_0 rfl ?_
  refine v_istore_n (lv' := [(0, .ref x0), (1, .int (0 : Int32))]) X 2 dX11_mend_1 (by decide) rfl rfl ?_
  exact L_X11_mend_2 X Y 1024 _ _ _
theorem c_X11_mend (l : Launch) (x0 : Nat) (M : MM) (r : Int32) (M1 : MM) (h : f_X11_mend x0 M = some (r, M1)) : KV l yX11_mend cX11_mend 2 (some .int) (RM 7 0 0) false 11 x0 [] M (some (.int r)) M1 := by
  obtain ⟨hO, h2⟩ := iteO_some h
  exact ⟨hO, ct_of (tr := trI) (by decide) (Nat.le_of_ble_eq_true rfl) [(0, .ref x0)] rfl h2 (fun G X Y hn hl => L_X11_mend_0 X Y x0 M)⟩

def f_X11_parts_15 : Nat → Nat → Int32 → Int32 → Int32 → MM → Option (Int32 × MM)
  | 0, _, _, _, _, _ => none
  | n + 1, x0, x1, x2, x3, M =>
    if (6 : Int32) < x3 then
      b1 (gR 11 0 x0 M) fun v1 =>
      b2 (f_X10_refusal v1 M) fun r3 M2 =>
      some (r3, M2)
    else
      b1 (gR 11 0 x0 M) fun v4 =>
      b2 (f_X10_number v4 (2 : Int32) M) fun r6 M5 =>
      if 0 ≤ r6 then
        b1 (gR 11 2 x0 M5) fun v7 =>
        b1 (gI 9 9 v7 M5) fun v8 =>
        bn (x1 + (maxI (0 : Int32) (r6 - v8)) : Int32) fun y9 =>
        b1 (gR 11 2 x0 M5) fun v10 =>
        b1 (gI 9 9 v10 M5) fun v11 =>
        bn (x2 + (minI r6 v11) : Int32) fun y12 =>
        b1 (gR 11 0 x0 M5) fun v13 =>
        b2 (f_X10_atEnd v13 M5) fun r15 M14 =>
        if r15 = 0 then
          b1 (gR 11 0 x0 M14) fun v16 =>
          b2 (f_X10_take v16 (44 : Int32) M14) fun r18 M17 =>
          if r18 = 0 then
            b1 (gR 11 0 x0 M17) fun v20 =>
            b2 (f_X10_refusal v20 M17) fun r22 M21 =>
            some (r22, M21)
          else
            bn (x3 + 1 : Int32) fun y19 =>
            f_X11_parts_15 n x0 y9 y12 y19 M17
        else
          b1 (gR 11 2 x0 M14) fun v23 =>
          b1 (gI 9 9 v23 M14) fun v24 =>
          bn (y9 + (maxI (0 : Int32) (y12 - (v24 * (x3 - (1 : Int32))))) : Int32) fun y25 =>
          b1 (gR 11 1 x0 M14) fun v26 =>
          b1 (f_X6_one v26 (Int32.toInt64 y25) M14) fun M27 =>
          if y25 = 0 then
            some ((1 : Int32), M27)
          else
            some ((0 : Int32), M27)
      else
        b1 (gR 11 0 x0 M5) fun v28 =>
        b2 (f_X10_refusal v28 M5) fun r30 M29 =>
        some (r30, M29)

def f_X11_parts_0 (x0 : Nat) (M : MM) : Option (Int32 × MM) :=
    b1 (gR 11 0 x0 M) fun v1 =>
    b1 (f_X10_begin v1 (80 : Int32) M) fun M2 =>
    f_X11_parts_15 1024 x0 (0 : Int32) (0 : Int32) (1 : Int32) M2

def f_X11_parts (x0 : Nat) (M : MM) : Option (Int32 × MM) := if isO 11 x0 M = true then f_X11_parts_0 x0 M else none
set_option maxRecDepth 4000 in
theorem L_X11_parts_15 {G : Gx} (X : Cb G cX11_parts 6 RX11 (RM 3 0 0) false) (Y : Cr G (some .int) 0 0) : ∀ (n : Nat) (x0 : Nat) (x1 : Int32) (x2 : Int32) (x3 : Int32) (M : MM), V G trI 6 0 0 15 [(0, .ref x0), (1, .int x1), (2, .int x2), (3, .int x3)] [] M (f_X11_parts_15 n x0 x1 x2 x3 M) := by
  intro n
  induction n with
  | zero => intro x0 x1 x2 x3 M; rw [f_X11_parts_15]; exact v_none
  | succ n ih =>
    intro x0 x1 x2 x3 M
    rw [f_X11_parts_15]
    refine v_iload_n X 16 3 dX11_parts_15 rfl rfl ?_
    refine v_bipush X 18 dX11_parts_16 bk_6 rfl ?_
    refine v_icgt X 21 154 dX11_parts_18 rfl rfl ?_ ?_
    · refine v_aload_n X 155 0 dX11_parts_154 rfl rfl ?_
      refine v_getR X 158 fl_X11_10.r dX11_parts_155 rfl (fun v1 => ?_)
      refine v_vI X 161 cv_X10_refusal ml_X11_127 (n1 := 1) rfl [] rfl rfl rfl dX11_parts_158 rfl (fun r M1 h => c_X10_refusal _ _ _ _ _ h) (fun r3 M2 => ?_)
      exact v_iret X Y (Nat.le_refl _) (Nat.le_refl _) dX11_parts_161
    · refine v_aload_n X 22 0 dX11_parts_21 rfl rfl ?_
      refine v_getR X 25 fl_X11_10.r dX11_parts_22 rfl (fun v4 => ?_)
      refine v_iconst X 26 dX11_parts_25 ik_2 rfl ?_
      refine v_vI X 29 cv_X10_number ml_X11_368 (n1 := 2) rfl [.int (2 : Int32)] rfl rfl rfl dX11_parts_26 rfl (fun r M1 h => c_X10_number _ _ _ _ _ _ h) (fun r6 M5 => ?_)
      refine v_istore (lv' := [(0, .ref x0), (1, .int x1), (2, .int x2), (3, .int x3), (4, .int r6)]) X 31 dX11_parts_29 (by decide) rfl rfl ?_
      refine v_iload X 33 4 dX11_parts_31 rfl rfl ?_
      refine v_ifge X 36 44 dX11_parts_33 rfl rfl ?_ ?_
      · refine v_iload_n X 45 1 dX11_parts_44 rfl rfl ?_
        refine v_iconst X 46 dX11_parts_45 ik_0 rfl ?_
        refine v_iload X 48 4 dX11_parts_46 rfl rfl ?_
        refine v_aload_n X 49 0 dX11_parts_48 rfl rfl ?_
        refine v_getR X 52 fl_X11_26.r dX11_parts_49 rfl (fun v7 => ?_)
        refine v_getI X 55 fl_X11_172.r dX11_parts_52 rfl (fun v8 => ?_)
        refine v_isub X 56 dX11_parts_55 rfl ?_
        refine v_max X 59 ml_X11_371 w_max (Nat.le_of_ble_eq_true rfl) (Nat.le_of_ble_eq_true rfl) (Nat.zero_le _) (Nat.zero_le _) dX11_parts_56 rfl ?_
        refine v_iadd X 60 dX11_parts_59 rfl ?_
        refine v_bnI (fun y9 => ?_)
        refine v_istore_n (lv' := [(0, .ref x0), (1, .int y9), (2, .int x2), (3, .int x3), (4, .int r6)]) X 61 dX11_parts_60 (by decide) rfl rfl ?_
        refine v_iload_n X 62 2 dX11_parts_61 rfl rfl ?_
        refine v_iload X 64 4 dX11_parts_62 rfl rfl ?_
        refine v_aload_n X 65 0 dX11_parts_64 rfl rfl ?_
        refine v_getR X 68 fl_X11_26.r dX11_parts_65 rfl (fun v10 => ?_)
        refine v_getI X 71 fl_X11_172.r dX11_parts_68 rfl (fun v11 => ?_)
        refine v_min X 74 ml_X11_376 w_min (Nat.le_of_ble_eq_true rfl) (Nat.le_of_ble_eq_true rfl) (Nat.zero_le _) (Nat.zero_le _) dX11_parts_71 rfl ?_
        refine v_iadd X 75 dX11_parts_74 rfl ?_
        refine v_bnI (fun y12 => ?_)
        refine v_istore_n (lv' := [(0, .ref x0), (1, .int y9), (2, .int y12), (3, .int x3), (4, .int r6)]) X 76 dX11_parts_75 (by decide) rfl rfl ?_
        refine v_aload_n X 77 0 dX11_parts_76 rfl rfl ?_
        refine v_getR X 80 fl_X11_10.r dX11_parts_77 rfl (fun v13 => ?_)
        refine v_vI X 83 cv_X10_atEnd ml_X11_131 (n1 := 1) rfl [] rfl rfl rfl dX11_parts_80 rfl (fun r M1 h => c_X10_atEnd _ _ _ _ _ h) (fun r15 M14 => ?_)
        refine v_ifeq X 86 128 dX11_parts_83 rfl rfl ?_ ?_
        · refine v_aload_n X 129 0 dX11_parts_128 rfl rfl ?_
          refine v_getR X 132 fl_X11_10.r dX11_parts_129 rfl (fun v16 => ?_)
          refine v_bipush X 134 dX11_parts_132 bk_44 rfl ?_
          refine v_vI X 137 cv_X10_take ml_X11_276 (n1 := 2) rfl [.int (44 : Int32)] rfl rfl rfl dX11_parts_134 rfl (fun r M1 h => c_X10_take _ _ _ _ _ _ h) (fun r18 M17 => ?_)
          refine v_ifne X 140 148 dX11_parts_137 rfl rfl ?_ ?_
          · refine v_iinc X 151 3 (fun z => [(0, .ref x0), (1, .int y9), (2, .int y12), (3, .int z), (4, .int r6)]) dX11_parts_148 rfl ik_1 (by decide) (fun _ => rfl) rfl (fun y19 => ?_)
            refine v_goto X 15 dX11_parts_151 rfl ?_
            exact v_sb [0, 1, 2, 3] (ih _ _ _ _ _) rfl
          · refine v_aload_n X 141 0 dX11_parts_140 rfl rfl ?_
            refine v_getR X 144 fl_X11_10.r dX11_parts_141 rfl (fun v20 => ?_)
            refine v_vI X 147 cv_X10_refusal ml_X11_127 (n1 := 1) rfl [] rfl rfl rfl dX11_parts_144 rfl (fun r M1 h => c_X10_refusal _ _ _ _ _ h) (fun r22 M21 => ?_)
            exact v_iret X Y (Nat.le_refl _) (Nat.le_refl _) dX11_parts_147
        · refine v_iload_n X 87 1 dX11_parts_86 rfl rfl ?_
          refine v_iconst X 88 dX11_parts_87 ik_0 rfl ?_
          refine v_iload_n X 89 2 dX11_parts_88 rfl rfl ?_
          refine v_aload_n X 90 0 dX11_parts_89 rfl rfl ?_
          refine v_getR X 93 fl_X11_26.r dX11_parts_90 rfl (fun v23 => ?_)
          refine v_getI X 96 fl_X11_172.r dX11_parts_93 rfl (fun v24 => ?_)
          refine v_iload_n X 97 3 dX11_parts_96 rfl rfl ?_
          refine v_iconst X 98 dX11_parts_97 ik_1 rfl ?_
          refine v_isub X 99 dX11_parts_98 rfl ?_
          refine v_imul X 100 dX11_parts_99 rfl ?_
          refine v_isub X 101 dX11_parts_100 rfl ?_
          refine v_max X 104 ml_X11_371 w_max (Nat.le_of_ble_eq_true rfl) (Nat.le_of_ble_eq_true rfl) (Nat.zero_le _) (Nat.zero_le _) dX11_parts_101 rfl ?_
          refine v_iadd X 105 dX11_parts_104 rfl ?_
          refine v_bnI (fun y25 => ?_)
          refine v_istore (lv' := [(0, .ref x0), (1, .int y9), (2, .int y12), (3, .int x3), (4, .int r6), (5, .int y25)]) X 107 dX11_parts_105 (by decide) rfl rfl ?_
          refine v_aload_n X 108 0 dX11_parts_107 rfl rfl ?_
          refine v_getR X 111 fl_X11_19.r dX11_parts_108 rfl (fun v26 => ?_)
          refine v_iload X 113 5 dX11_parts_111 rfl rfl ?_
          refine v_i2l X 114 dX11_parts_113 rfl ?_
          refine v_vV X 117 cv_X6_one ml_X11_362 (n1 := 2) rfl [.long (Int32.toInt64 y25)] rfl rfl rfl dX11_parts_114 rfl (fun M1 h => c_X6_one _ _ _ _ _ h) (fun M27 => ?_)
          refine v_iload X 119 5 dX11_parts_117 rfl rfl ?_
          refine v_ifne X 122 126 dX11_parts_119 rfl rfl ?_ ?_
          · refine v_iconst X 127 dX11_parts_126 ik_0 rfl ?_
            exact v_iret X Y (Nat.le_refl _) (Nat.le_refl _) dX11_parts_127
          · refine v_iconst X 123 dX11_parts_122 ik_1 rfl ?_
            refine v_goto X 127 dX11_parts_123 rfl ?_
            exact v_iret X Y (Nat.le_refl _) (Nat.le_refl _) dX11_parts_127
      · refine v_aload_n X 37 0 dX11_parts_36 rfl rfl ?_
        refine v_getR X 40 fl_X11_10.r dX11_parts_37 rfl (fun v28 => ?_)
        refine v_vI X 43 cv_X10_refusal ml_X11_127 (n1 := 1) rfl [] rfl rfl rfl dX11_parts_40 rfl (fun r M1 h => c_X10_refusal _ _ _ _ _ h) (fun r30 M29 => ?_)
        exact v_iret X Y (Nat.le_refl _) (Nat.le_refl _) dX11_parts_43
set_option maxRecDepth 4000 in
theorem L_X11_parts_0 {G : Gx} (X : Cb G cX11_parts 6 RX11 (RM 3 0 0) false) (Y : Cr G (some .int) 0 0) (x0 : Nat) (M : MM) : V G trI 6 0 0 0 [(0, .ref x0)] [] M (f_X11_parts_0 x0 M) := by
  unfold f_X11_parts_0
  refine v_aload_n X 1 0 dX11_parts_0 rfl rfl ?_
  refine v_getR X 4 fl_X11_10.r dX11_parts_1 rfl (fun v1 => ?_)
  refine v_bipush X 6 dX11_parts_4 bk_80 rfl ?_
  refine v_vV X 9 cv_X10_begin ml_X11_113 (n1 := 2) rfl [.int (80 : Int32)] rfl rfl rfl dX11_parts_6 rfl (fun M1 h => c_X10_begin _ _ _ _ _ h) (fun M2 => ?_)
  refine v_iconst X 10 dX11_parts_9 ik_0 rfl ?_
  refine v_istore_n (lv' := [(0, .ref x0), (1, .int (0 : Int32))]) X 11 dX11_parts_10 (by decide) rfl rfl ?_
  refine v_iconst X 12 dX11_parts_11 ik_0 rfl ?_
  refine v_istore_n (lv' := [(0, .ref x0), (1, .int (0 : Int32)), (2, .int (0 : Int32))]) X 13 dX11_parts_12 (by decide) rfl rfl ?_
  refine v_iconst X 14 dX11_parts_13 ik_1 rfl ?_
  refine v_istore_n (lv' := [(0, .ref x0), (1, .int (0 : Int32)), (2, .int (0 : Int32)), (3, .int (1 : Int32))]) X 15 dX11_parts_14 (by decide) rfl rfl ?_
  exact L_X11_parts_15 X Y 1024 _ _ _ _ _
theorem c_X11_parts (l : Launch) (x0 : Nat) (M : MM) (r : Int32) (M1 : MM) (h : f_X11_parts x0 M = some (r, M1)) : KV l yX11_parts cX11_parts 6 (some .int) (RM 3 0 0) false 11 x0 [] M (some (.int r)) M1 := by
  obtain ⟨hO, h2⟩ := iteO_some h
  exact ⟨hO, ct_of (tr := trI) (by decide) (Nat.le_of_ble_eq_true rfl) [(0, .ref x0)] rfl h2 (fun G X Y hn hl => L_X11_parts_0 X Y x0 M)⟩

def f_X11_readDays_53 (x0 : Nat) (M : MM) : Option (Int32 × MM) :=
    b1 (gR 11 0 x0 M) fun v1 =>
    b2 (f_X10_hasMore v1 M) fun r3 M2 =>
    if r3 = 0 then
      rz (1 : Int32) M2
    else
      rz (0 : Int32) M2

def f_X11_readDays_2 : Nat → Nat → Int32 → MM → Option (Int32 × MM)
  | 0, _, _, _ => none
  | n + 1, x0, x1, M =>
    if (40 : Int32) ≤ x1 then
      f_X11_readDays_53 x0 M
    else
      b1 (gR 11 0 x0 M) fun v1 =>
      b2 (f_X10_atEnd v1 M) fun r3 M2 =>
      if r3 = 0 then
        b1 (gR 11 2 x0 M2) fun v4 =>
        b1 (gR 11 0 x0 M2) fun v5 =>
        b2 (f_X10_peek v5 M2) fun r7 M6 =>
        b2 (f_X9_hasPerson v4 (r7 - (97 : Int32)) M6) fun r9 M8 =>
        if r9 = 0 then
          rz (0 : Int32) M8
        else
          b1 (gR 11 0 x0 M8) fun v10 =>
          b1 (f_X10_skip v10 M8) fun M11 =>
          bn (x1 + 1 : Int32) fun y12 =>
          f_X11_readDays_2 n x0 y12 M11
      else
        f_X11_readDays_53 x0 M2

def f_X11_readDays_0 (x0 : Nat) (M : MM) : Option (Int32 × MM) :=
    f_X11_readDays_2 1024 x0 (0 : Int32) M

def f_X11_readDays (x0 : Nat) (M : MM) : Option (Int32 × MM) := if isO 11 x0 M = true then f_X11_readDays_0 x0 M else none
set_option maxRecDepth 4000 in
theorem L_X11_readDays_53 {G : Gx} (X : Cb G cX11_readDays 2 RX11 (RM 2 0 0) false) (Y : Cr G (some .boolean) 0 0) (x0 : Nat) (M : MM) : V G trI 2 0 0 53 [(0, .ref x0)] [] M (f_X11_readDays_53 x0 M) := by
  unfold f_X11_readDays_53
  refine v_aload_n X 54 0 dX11_readDays_53 rfl rfl ?_
  refine v_getR X 57 fl_X11_10.r dX11_readDays_54 rfl (fun v1 => ?_)
  refine v_vI X 60 cv_X10_hasMore ml_X11_479 (n1 := 1) rfl [] rfl rfl rfl dX11_readDays_57 rfl (fun r M1 h => c_X10_hasMore _ _ _ _ _ h) (fun r3 M2 => ?_)
  refine v_ifne X 63 67 dX11_readDays_60 rfl rfl ?_ ?_
  · refine v_iconst X 68 dX11_readDays_67 ik_0 rfl ?_
    exact v_zret X Y (Nat.le_refl _) (Nat.le_refl _) dX11_readDays_68
  · refine v_iconst X 64 dX11_readDays_63 ik_1 rfl ?_
    refine v_goto X 68 dX11_readDays_64 rfl ?_
    exact v_zret X Y (Nat.le_refl _) (Nat.le_refl _) dX11_readDays_68
set_option maxRecDepth 4000 in
theorem L_X11_readDays_2 {G : Gx} (X : Cb G cX11_readDays 2 RX11 (RM 2 0 0) false) (Y : Cr G (some .boolean) 0 0) : ∀ (n : Nat) (x0 : Nat) (x1 : Int32) (M : MM), V G trI 2 0 0 2 [(0, .ref x0), (1, .int x1)] [] M (f_X11_readDays_2 n x0 x1 M) := by
  intro n
  induction n with
  | zero => intro x0 x1 M; rw [f_X11_readDays_2]; exact v_none
  | succ n ih =>
    intro x0 x1 M
    rw [f_X11_readDays_2]
    refine v_iload_n X 3 1 dX11_readDays_2 rfl rfl ?_
    refine v_bipush X 5 dX11_readDays_3 bk_40 rfl ?_
    refine v_icge X 8 53 dX11_readDays_5 rfl rfl ?_ ?_
    · exact v_sb [0] (L_X11_readDays_53 X Y _ _) rfl
    · refine v_aload_n X 9 0 dX11_readDays_8 rfl rfl ?_
      refine v_getR X 12 fl_X11_10.r dX11_readDays_9 rfl (fun v1 => ?_)
      refine v_vI X 15 cv_X10_atEnd ml_X11_131 (n1 := 1) rfl [] rfl rfl rfl dX11_readDays_12 rfl (fun r M1 h => c_X10_atEnd _ _ _ _ _ h) (fun r3 M2 => ?_)
      refine v_ifne X 18 53 dX11_readDays_15 rfl rfl ?_ ?_
      · exact v_sb [0] (L_X11_readDays_53 X Y _ _) rfl
      · refine v_aload_n X 19 0 dX11_readDays_18 rfl rfl ?_
        refine v_getR X 22 fl_X11_26.r dX11_readDays_19 rfl (fun v4 => ?_)
        refine v_aload_n X 23 0 dX11_readDays_22 rfl rfl ?_
        refine v_getR X 26 fl_X11_10.r dX11_readDays_23 rfl (fun v5 => ?_)
        refine v_vI X 29 cv_X10_peek ml_X11_473 (n1 := 1) rfl [] rfl rfl rfl dX11_readDays_26 rfl (fun r M1 h => c_X10_peek _ _ _ _ _ h) (fun r7 M6 => ?_)
        refine v_bipush X 31 dX11_readDays_29 bk_97 rfl ?_
        refine v_isub X 32 dX11_readDays_31 rfl ?_
        refine v_vI X 35 cv_X9_hasPerson ml_X11_117 (n1 := 1) rfl [.int (r7 - (97 : Int32))] rfl rfl rfl dX11_readDays_32 rfl (fun r M1 h => c_X9_hasPerson _ _ _ _ _ _ h) (fun r9 M8 => ?_)
        refine v_ifne X 38 40 dX11_readDays_35 rfl rfl ?_ ?_
        · refine v_aload_n X 41 0 dX11_readDays_40 rfl rfl ?_
          refine v_getR X 44 fl_X11_10.r dX11_readDays_41 rfl (fun v10 => ?_)
          refine v_vV X 47 cv_X10_skip ml_X11_476 (n1 := 1) rfl [] rfl rfl rfl dX11_readDays_44 rfl (fun M1 h => c_X10_skip _ _ _ _ h) (fun M11 => ?_)
          refine v_iinc X 50 1 (fun z => [(0, .ref x0), (1, .int z)]) dX11_readDays_47 rfl ik_1 (by decide) (fun _ => rfl) rfl (fun y12 => ?_)
          refine v_goto X 2 dX11_readDays_50 rfl ?_
          exact ih _ _ _
        · refine v_iconst X 39 dX11_readDays_38 ik_0 rfl ?_
          exact v_zret X Y (Nat.le_refl _) (Nat.le_refl _) dX11_readDays_39
set_option maxRecDepth 4000 in
theorem L_X11_readDays_0 {G : Gx} (X : Cb G cX11_readDays 2 RX11 (RM 2 0 0) false) (Y : Cr G (some .boolean) 0 0) (x0 : Nat) (M : MM) : V G trI 2 0 0 0 [(0, .ref x0)] [] M (f_X11_readDays_0 x0 M) := by
  unfold f_X11_readDays_0
  refine v_iconst X 1 dX11_readDays_0 ik_0 rfl ?_
  refine v_istore_n (lv' := [(0, .ref x0), (1, .int (0 : Int32))]) X 2 dX11_readDays_1 (by decide) rfl rfl ?_
  exact L_X11_readDays_2 X Y 1024 _ _ _
theorem c_X11_readDays (l : Launch) (x0 : Nat) (M : MM) (r : Int32) (M1 : MM) (h : f_X11_readDays x0 M = some (r, M1)) : KV l yX11_readDays cX11_readDays 2 (some .boolean) (RM 2 0 0) false 11 x0 [] M (some (.int r)) M1 := by
  obtain ⟨hO, h2⟩ := iteO_some h
  exact ⟨hO, ct_of (tr := trI) (by decide) (Nat.le_of_ble_eq_true rfl) [(0, .ref x0)] rfl h2 (fun G X Y hn hl => L_X11_readDays_0 X Y x0 M)⟩

def f_X11_turn_39 (x0 : Nat) (M : MM) : Option (Int32 × MM) :=
    b1 (gR 11 0 x0 M) fun v1 =>
    b2 (f_X10_refusal v1 M) fun r3 M2 =>
    some (r3, M2)

def f_X11_turn_154 (K61 : Nat → Int32 → Int32 → Int32 → MM → Option (Int32 × MM)) (x0 : Nat) (x2 : Int32) (x3 : Int32) (x4 : Int32) (s0 : Int32) (M : MM) : Option (Int32 × MM) :=
    bn (maxI x2 x4 : Int32) fun y1 =>
    bn (x3 + 1 : Int32) fun y2 =>
    K61 x0 s0 y1 y2 M

def f_X11_turn_149 (K61 : Nat → Int32 → Int32 → Int32 → MM → Option (Int32 × MM)) (x0 : Nat) (x2 : Int32) (x3 : Int32) (x4 : Int32) (M : MM) : Option (Int32 × MM) :=
    f_X11_turn_154 K61 x0 x2 x3 x4 x3 M

def f_X11_turn_153 (K61 : Nat → Int32 → Int32 → Int32 → MM → Option (Int32 × MM)) (x0 : Nat) (x1 : Int32) (x2 : Int32) (x3 : Int32) (x4 : Int32) (M : MM) : Option (Int32 × MM) :=
    f_X11_turn_154 K61 x0 x2 x3 x4 x1 M

def f_X11_turn_128 (K61 : Nat → Int32 → Int32 → Int32 → MM → Option (Int32 × MM)) (x0 : Nat) (x1 : Int32) (x2 : Int32) (x3 : Int32) (x4 : Int32) (x5 : Int32) (s0 : Int32) (M : MM) : Option (Int32 × MM) :=
    if x4 < x5 then
      f_X11_turn_149 K61 x0 x2 x3 x4 M
    else
      if x4 = x5 then
        if s0 = 0 then
          f_X11_turn_153 K61 x0 x1 x2 x3 x4 M
        else
          f_X11_turn_149 K61 x0 x2 x3 x4 M
      else
        f_X11_turn_153 K61 x0 x1 x2 x3 x4 M

def f_X11_turn_61 : Nat → Nat → Int32 → Int32 → Int32 → MM → Option (Int32 × MM)
  | 0, _, _, _, _, _ => none
  | n + 1, x0, x1, x2, x3, M =>
    b1 (gR 11 2 x0 M) fun v1 =>
    b1 (gI 9 7 v1 M) fun v2 =>
    if v2 ≤ x3 then
      b1 (gR 11 1 x0 M) fun v3 =>
      b1 (gR 11 0 x0 M) fun v4 =>
      b2 (f_X10_times v4 ((97 : Int32) + x1) M) fun r6 M5 =>
      b1 (f_X6_two v3 (Int32.toInt64 r6) (Int32.toInt64 x2) M5) fun M7 =>
      some (x1, M7)
    else
      b1 (gR 11 0 x0 M) fun v8 =>
      b2 (f_X10_times v8 ((97 : Int32) + x3) M) fun r10 M9 =>
      b1 (gR 11 0 x0 M9) fun v11 =>
      b2 (f_X10_times v11 ((97 : Int32) + x1) M9) fun r13 M12 =>
      b1 (gR 11 0 x0 M12) fun v14 =>
      b2 (f_X10_lastTime v14 ((97 : Int32) + x3) M12) fun r16 M15 =>
      b1 (gR 11 0 x0 M15) fun v17 =>
      b2 (f_X10_lastTime v17 ((97 : Int32) + x1) M15) fun r19 M18 =>
      if r19 ≤ r16 then
        f_X11_turn_128 (f_X11_turn_61 n) x0 x1 x2 x3 r10 r13 (0 : Int32) M18
      else
        f_X11_turn_128 (f_X11_turn_61 n) x0 x1 x2 x3 r10 r13 (1 : Int32) M18

def f_X11_turn_0 (x0 : Nat) (M : MM) : Option (Int32 × MM) :=
    b1 (gR 11 0 x0 M) fun v1 =>
    b1 (f_X10_begin v1 (40 : Int32) M) fun M2 =>
    b1 (gR 11 2 x0 M2) fun v3 =>
    b1 (gI 9 7 v3 M2) fun v4 =>
    if v4 = 0 then
      some ((-100 : Int32), M2)
    else
      b1 (gR 11 0 x0 M2) fun v5 =>
      b2 (f_X10_isEmpty v5 M2) fun r7 M6 =>
      if r7 = 0 then
        b2 (f_X11_readDays x0 M6) fun r9 M8 =>
        if r9 = 0 then
          f_X11_turn_39 x0 M8
        else
          b1 (gR 11 0 x0 M8) fun v10 =>
          b2 (f_X10_times v10 (97 : Int32) M8) fun r12 M11 =>
          f_X11_turn_61 1024 x0 (0 : Int32) r12 (1 : Int32) M11
      else
        f_X11_turn_39 x0 M6

def f_X11_turn (x0 : Nat) (M : MM) : Option (Int32 × MM) := if isO 11 x0 M = true then f_X11_turn_0 x0 M else none
set_option maxRecDepth 4000 in
theorem L_X11_turn_39 {G : Gx} (X : Cb G cX11_turn 7 RX11 (RM 4 0 0) false) (Y : Cr G (some .int) 0 0) (x0 : Nat) (M : MM) : V G trI 7 0 0 39 [(0, .ref x0)] [] M (f_X11_turn_39 x0 M) := by
  unfold f_X11_turn_39
  refine v_aload_n X 40 0 dX11_turn_39 rfl rfl ?_
  refine v_getR X 43 fl_X11_10.r dX11_turn_40 rfl (fun v1 => ?_)
  refine v_vI X 46 cv_X10_refusal ml_X11_127 (n1 := 1) rfl [] rfl rfl rfl dX11_turn_43 rfl (fun r M1 h => c_X10_refusal _ _ _ _ _ h) (fun r3 M2 => ?_)
  exact v_iret X Y (Nat.le_refl _) (Nat.le_refl _) dX11_turn_46
set_option maxRecDepth 4000 in
theorem L_X11_turn_154 {G : Gx} (X : Cb G cX11_turn 7 RX11 (RM 4 0 0) false) (Y : Cr G (some .int) 0 0) {K61 : Nat → Int32 → Int32 → Int32 → MM → Option (Int32 × MM)} (hK61 : ∀ (x0 : Nat) (x1 : Int32) (x2 : Int32) (x3 : Int32) (M : MM), V G trI 7 0 0 61 [(0, .ref x0), (1, .int x1), (2, .int x2), (3, .int x3)] [] M (K61 x0 x1 x2 x3 M)) (x0 : Nat) (x2 : Int32) (x3 : Int32) (x4 : Int32) (s0 : Int32) (M : MM) : V G trI 7 0 0 154 [(0, .ref x0), (2, .int x2), (3, .int x3), (4, .int x4)] [.int s0] M (f_X11_turn_154 K61 x0 x2 x3 x4 s0 M) := by
  unfold f_X11_turn_154
  refine v_istore_n (lv' := [(0, .ref x0), (1, .int s0), (2, .int x2), (3, .int x3), (4, .int x4)]) X 155 dX11_turn_154 (by decide) rfl rfl ?_
  refine v_iload_n X 156 2 dX11_turn_155 rfl rfl ?_
  refine v_iload X 158 4 dX11_turn_156 rfl rfl ?_
  refine v_max X 161 ml_X11_371 w_max (Nat.le_of_ble_eq_true rfl) (Nat.le_of_ble_eq_true rfl) (Nat.zero_le _) (Nat.zero_le _) dX11_turn_158 rfl ?_
  refine v_bnI (fun y1 => ?_)
  refine v_istore_n (lv' := [(0, .ref x0), (1, .int s0), (2, .int y1), (3, .int x3), (4, .int x4)]) X 162 dX11_turn_161 (by decide) rfl rfl ?_
  refine v_iinc X 165 3 (fun z => [(0, .ref x0), (1, .int s0), (2, .int y1), (3, .int z), (4, .int x4)]) dX11_turn_162 rfl ik_1 (by decide) (fun _ => rfl) rfl (fun y2 => ?_)
  refine v_goto X 61 dX11_turn_165 rfl ?_
  exact v_sb [0, 1, 2, 3] (hK61 _ _ _ _ _) rfl
set_option maxRecDepth 4000 in
theorem L_X11_turn_149 {G : Gx} (X : Cb G cX11_turn 7 RX11 (RM 4 0 0) false) (Y : Cr G (some .int) 0 0) {K61 : Nat → Int32 → Int32 → Int32 → MM → Option (Int32 × MM)} (hK61 : ∀ (x0 : Nat) (x1 : Int32) (x2 : Int32) (x3 : Int32) (M : MM), V G trI 7 0 0 61 [(0, .ref x0), (1, .int x1), (2, .int x2), (3, .int x3)] [] M (K61 x0 x1 x2 x3 M)) (x0 : Nat) (x2 : Int32) (x3 : Int32) (x4 : Int32) (M : MM) : V G trI 7 0 0 149 [(0, .ref x0), (2, .int x2), (3, .int x3), (4, .int x4)] [] M (f_X11_turn_149 K61 x0 x2 x3 x4 M) := by
  unfold f_X11_turn_149
  refine v_iload_n X 150 2 dX11_turn_149 rfl rfl ?_
  refine v_goto X 154 dX11_turn_150 rfl ?_
  exact L_X11_turn_154 X Y hK61 _ _ _ _ _ _
set_option maxRecDepth 4000 in
theorem L_X11_turn_153 {G : Gx} (X : Cb G cX11_turn 7 RX11 (RM 4 0 0) false) (Y : Cr G (some .int) 0 0) {K61 : Nat → Int32 → Int32 → Int32 → MM → Option (Int32 × MM)} (hK61 : ∀ (x0 : Nat) (x1 : Int32) (x2 : Int32) (x3 : Int32) (M : MM), V G trI 7 0 0 61 [(0, .ref x0), (1, .int x1), (2, .int x2), (3, .int x3)] [] M (K61 x0 x1 x2 x3 M)) (x0 : Nat) (x1 : Int32) (x2 : Int32) (x3 : Int32) (x4 : Int32) (M : MM) : V G trI 7 0 0 153 [(0, .ref x0), (1, .int x1), (2, .int x2), (3, .int x3), (4, .int x4)] [] M (f_X11_turn_153 K61 x0 x1 x2 x3 x4 M) := by
  unfold f_X11_turn_153
  refine v_iload_n X 154 1 dX11_turn_153 rfl rfl ?_
  exact v_sb [0, 2, 3, 4] (L_X11_turn_154 X Y hK61 _ _ _ _ _ _) rfl
set_option maxRecDepth 4000 in
theorem L_X11_turn_128 {G : Gx} (X : Cb G cX11_turn 7 RX11 (RM 4 0 0) false) (Y : Cr G (some .int) 0 0) {K61 : Nat → Int32 → Int32 → Int32 → MM → Option (Int32 × MM)} (hK61 : ∀ (x0 : Nat) (x1 : Int32) (x2 : Int32) (x3 : Int32) (M : MM), V G trI 7 0 0 61 [(0, .ref x0), (1, .int x1), (2, .int x2), (3, .int x3)] [] M (K61 x0 x1 x2 x3 M)) (x0 : Nat) (x1 : Int32) (x2 : Int32) (x3 : Int32) (x4 : Int32) (x5 : Int32) (s0 : Int32) (M : MM) : V G trI 7 0 0 128 [(0, .ref x0), (1, .int x1), (2, .int x2), (3, .int x3), (4, .int x4), (5, .int x5)] [.int s0] M (f_X11_turn_128 K61 x0 x1 x2 x3 x4 x5 s0 M) := by
  unfold f_X11_turn_128
  refine v_istore (lv' := [(0, .ref x0), (1, .int x1), (2, .int x2), (3, .int x3), (4, .int x4), (5, .int x5), (6, .int s0)]) X 130 dX11_turn_128 (by decide) rfl rfl ?_
  refine v_iload X 132 4 dX11_turn_130 rfl rfl ?_
  refine v_iload X 134 5 dX11_turn_132 rfl rfl ?_
  refine v_iclt X 137 149 dX11_turn_134 rfl rfl ?_ ?_
  · exact v_sb [0, 2, 3, 4] (L_X11_turn_149 X Y hK61 _ _ _ _ _) rfl
  · refine v_iload X 139 4 dX11_turn_137 rfl rfl ?_
    refine v_iload X 141 5 dX11_turn_139 rfl rfl ?_
    refine v_icne X 144 153 dX11_turn_141 rfl rfl ?_ ?_
    · exact v_sb [0, 1, 2, 3, 4] (L_X11_turn_153 X Y hK61 _ _ _ _ _ _) rfl
    · refine v_iload X 146 6 dX11_turn_144 rfl rfl ?_
      refine v_ifeq X 149 153 dX11_turn_146 rfl rfl ?_ ?_
      · exact v_sb [0, 1, 2, 3, 4] (L_X11_turn_153 X Y hK61 _ _ _ _ _ _) rfl
      · exact v_sb [0, 2, 3, 4] (L_X11_turn_149 X Y hK61 _ _ _ _ _) rfl
set_option maxRecDepth 4000 in
theorem L_X11_turn_61 {G : Gx} (X : Cb G cX11_turn 7 RX11 (RM 4 0 0) false) (Y : Cr G (some .int) 0 0) : ∀ (n : Nat) (x0 : Nat) (x1 : Int32) (x2 : Int32) (x3 : Int32) (M : MM), V G trI 7 0 0 61 [(0, .ref x0), (1, .int x1), (2, .int x2), (3, .int x3)] [] M (f_X11_turn_61 n x0 x1 x2 x3 M) := by
  intro n
  induction n with
  | zero => intro x0 x1 x2 x3 M; rw [f_X11_turn_61]; exact v_none
  | succ n ih =>
    intro x0 x1 x2 x3 M
    rw [f_X11_turn_61]
    refine v_iload_n X 62 3 dX11_turn_61 rfl rfl ?_
    refine v_aload_n X 63 0 dX11_turn_62 rfl rfl ?_
    refine v_getR X 66 fl_X11_26.r dX11_turn_63 rfl (fun v1 => ?_)
    refine v_getI X 69 fl_X11_299.r dX11_turn_66 rfl (fun v2 => ?_)
    refine v_icge X 72 168 dX11_turn_69 rfl rfl ?_ ?_
    · refine v_aload_n X 169 0 dX11_turn_168 rfl rfl ?_
      refine v_getR X 172 fl_X11_19.r dX11_turn_169 rfl (fun v3 => ?_)
      refine v_aload_n X 173 0 dX11_turn_172 rfl rfl ?_
      refine v_getR X 176 fl_X11_10.r dX11_turn_173 rfl (fun v4 => ?_)
      refine v_bipush X 178 dX11_turn_176 bk_97 rfl ?_
      refine v_iload_n X 179 1 dX11_turn_178 rfl rfl ?_
      refine v_iadd X 180 dX11_turn_179 rfl ?_
      refine v_vI X 183 cv_X10_times ml_X11_382 (n1 := 1) rfl [.int ((97 : Int32) + x1)] rfl rfl rfl dX11_turn_180 rfl (fun r M1 h => c_X10_times _ _ _ _ _ _ h) (fun r6 M5 => ?_)
      refine v_i2l X 184 dX11_turn_183 rfl ?_
      refine v_iload_n X 185 2 dX11_turn_184 rfl rfl ?_
      refine v_i2l X 186 dX11_turn_185 rfl ?_
      refine v_vV X 189 cv_X6_two ml_X11_285 (n1 := 3) rfl [.long (Int32.toInt64 r6), .long (Int32.toInt64 x2)] rfl rfl rfl dX11_turn_186 rfl (fun M1 h => c_X6_two _ _ _ _ _ _ h) (fun M7 => ?_)
      refine v_iload_n X 190 1 dX11_turn_189 rfl rfl ?_
      exact v_iret X Y (Nat.le_refl _) (Nat.le_refl _) dX11_turn_190
    · refine v_aload_n X 73 0 dX11_turn_72 rfl rfl ?_
      refine v_getR X 76 fl_X11_10.r dX11_turn_73 rfl (fun v8 => ?_)
      refine v_bipush X 78 dX11_turn_76 bk_97 rfl ?_
      refine v_iload_n X 79 3 dX11_turn_78 rfl rfl ?_
      refine v_iadd X 80 dX11_turn_79 rfl ?_
      refine v_vI X 83 cv_X10_times ml_X11_382 (n1 := 1) rfl [.int ((97 : Int32) + x3)] rfl rfl rfl dX11_turn_80 rfl (fun r M1 h => c_X10_times _ _ _ _ _ _ h) (fun r10 M9 => ?_)
      refine v_istore (lv' := [(0, .ref x0), (1, .int x1), (2, .int x2), (3, .int x3), (4, .int r10)]) X 85 dX11_turn_83 (by decide) rfl rfl ?_
      refine v_aload_n X 86 0 dX11_turn_85 rfl rfl ?_
      refine v_getR X 89 fl_X11_10.r dX11_turn_86 rfl (fun v11 => ?_)
      refine v_bipush X 91 dX11_turn_89 bk_97 rfl ?_
      refine v_iload_n X 92 1 dX11_turn_91 rfl rfl ?_
      refine v_iadd X 93 dX11_turn_92 rfl ?_
      refine v_vI X 96 cv_X10_times ml_X11_382 (n1 := 1) rfl [.int ((97 : Int32) + x1)] rfl rfl rfl dX11_turn_93 rfl (fun r M1 h => c_X10_times _ _ _ _ _ _ h) (fun r13 M12 => ?_)
      refine v_istore (lv' := [(0, .ref x0), (1, .int x1), (2, .int x2), (3, .int x3), (4, .int r10), (5, .int r13)]) X 98 dX11_turn_96 (by decide) rfl rfl ?_
      refine v_aload_n X 99 0 dX11_turn_98 rfl rfl ?_
      refine v_getR X 102 fl_X11_10.r dX11_turn_99 rfl (fun v14 => ?_)
      refine v_bipush X 104 dX11_turn_102 bk_97 rfl ?_
      refine v_iload_n X 105 3 dX11_turn_104 rfl rfl ?_
      refine v_iadd X 106 dX11_turn_105 rfl ?_
      refine v_vI X 109 cv_X10_lastTime ml_X11_385 (n1 := 1) rfl [.int ((97 : Int32) + x3)] rfl rfl rfl dX11_turn_106 rfl (fun r M1 h => c_X10_lastTime _ _ _ _ _ _ h) (fun r16 M15 => ?_)
      refine v_aload_n X 110 0 dX11_turn_109 rfl rfl ?_
      refine v_getR X 113 fl_X11_10.r dX11_turn_110 rfl (fun v17 => ?_)
      refine v_bipush X 115 dX11_turn_113 bk_97 rfl ?_
      refine v_iload_n X 116 1 dX11_turn_115 rfl rfl ?_
      refine v_iadd X 117 dX11_turn_116 rfl ?_
      refine v_vI X 120 cv_X10_lastTime ml_X11_385 (n1 := 1) rfl [.int ((97 : Int32) + x1)] rfl rfl rfl dX11_turn_117 rfl (fun r M1 h => c_X10_lastTime _ _ _ _ _ _ h) (fun r19 M18 => ?_)
      refine v_icge X 123 127 dX11_turn_120 rfl rfl ?_ ?_
      · refine v_iconst X 128 dX11_turn_127 ik_0 rfl ?_
        exact L_X11_turn_128 X Y ih _ _ _ _ _ _ _ _
      · refine v_iconst X 124 dX11_turn_123 ik_1 rfl ?_
        refine v_goto X 128 dX11_turn_124 rfl ?_
        exact L_X11_turn_128 X Y ih _ _ _ _ _ _ _ _
set_option maxRecDepth 4000 in
theorem L_X11_turn_0 {G : Gx} (X : Cb G cX11_turn 7 RX11 (RM 4 0 0) false) (Y : Cr G (some .int) 0 0) (x0 : Nat) (M : MM) : V G trI 7 0 0 0 [(0, .ref x0)] [] M (f_X11_turn_0 x0 M) := by
  unfold f_X11_turn_0
  refine v_aload_n X 1 0 dX11_turn_0 rfl rfl ?_
  refine v_getR X 4 fl_X11_10.r dX11_turn_1 rfl (fun v1 => ?_)
  refine v_bipush X 6 dX11_turn_4 bk_40 rfl ?_
  refine v_vV X 9 cv_X10_begin ml_X11_113 (n1 := 2) rfl [.int (40 : Int32)] rfl rfl rfl dX11_turn_6 rfl (fun M1 h => c_X10_begin _ _ _ _ _ h) (fun M2 => ?_)
  refine v_aload_n X 10 0 dX11_turn_9 rfl rfl ?_
  refine v_getR X 13 fl_X11_26.r dX11_turn_10 rfl (fun v3 => ?_)
  refine v_getI X 16 fl_X11_299.r dX11_turn_13 rfl (fun v4 => ?_)
  refine v_ifne X 19 22 dX11_turn_16 rfl rfl ?_ ?_
  · refine v_aload_n X 23 0 dX11_turn_22 rfl rfl ?_
    refine v_getR X 26 fl_X11_10.r dX11_turn_23 rfl (fun v5 => ?_)
    refine v_vI X 29 cv_X10_isEmpty ml_X11_146 (n1 := 1) rfl [] rfl rfl rfl dX11_turn_26 rfl (fun r M1 h => c_X10_isEmpty _ _ _ _ _ h) (fun r7 M6 => ?_)
    refine v_ifne X 32 39 dX11_turn_29 rfl rfl ?_ ?_
    · exact L_X11_turn_39 X Y _ _
    · refine v_aload_n X 33 0 dX11_turn_32 rfl rfl ?_
      refine v_vI X 36 cv_X11_readDays ml_X11_379 (n1 := 2) rfl [] rfl rfl rfl dX11_turn_33 rfl (fun r M1 h => c_X11_readDays _ _ _ _ _ h) (fun r9 M8 => ?_)
      refine v_ifne X 39 47 dX11_turn_36 rfl rfl ?_ ?_
      · refine v_iconst X 48 dX11_turn_47 ik_0 rfl ?_
        refine v_istore_n (lv' := [(0, .ref x0), (1, .int (0 : Int32))]) X 49 dX11_turn_48 (by decide) rfl rfl ?_
        refine v_aload_n X 50 0 dX11_turn_49 rfl rfl ?_
        refine v_getR X 53 fl_X11_10.r dX11_turn_50 rfl (fun v10 => ?_)
        refine v_bipush X 55 dX11_turn_53 bk_97 rfl ?_
        refine v_vI X 58 cv_X10_times ml_X11_382 (n1 := 1) rfl [.int (97 : Int32)] rfl rfl rfl dX11_turn_55 rfl (fun r M1 h => c_X10_times _ _ _ _ _ _ h) (fun r12 M11 => ?_)
        refine v_istore_n (lv' := [(0, .ref x0), (1, .int (0 : Int32)), (2, .int r12)]) X 59 dX11_turn_58 (by decide) rfl rfl ?_
        refine v_iconst X 60 dX11_turn_59 ik_1 rfl ?_
        refine v_istore_n (lv' := [(0, .ref x0), (1, .int (0 : Int32)), (2, .int r12), (3, .int (1 : Int32))]) X 61 dX11_turn_60 (by decide) rfl rfl ?_
        exact L_X11_turn_61 X Y 1024 _ _ _ _ _
      · exact L_X11_turn_39 X Y _ _
  · refine v_bipush X 21 dX11_turn_19 bk_m100 rfl ?_
    exact v_iret X Y (Nat.le_refl _) (Nat.le_refl _) dX11_turn_21
theorem c_X11_turn (l : Launch) (x0 : Nat) (M : MM) (r : Int32) (M1 : MM) (h : f_X11_turn x0 M = some (r, M1)) : KV l yX11_turn cX11_turn 7 (some .int) (RM 4 0 0) false 11 x0 [] M (some (.int r)) M1 := by
  obtain ⟨hO, h2⟩ := iteO_some h
  exact ⟨hO, ct_of (tr := trI) (by decide) (Nat.le_of_ble_eq_true rfl) [(0, .ref x0)] rfl h2 (fun G X Y hn hl => L_X11_turn_0 X Y x0 M)⟩

def f_X11_lockers_71 : Nat → Nat → Int32 → Int32 → MM → Option (Int32 × MM)
  | 0, _, _, _, _ => none
  | n + 1, x0, x2, x3, M =>
    b1 (gR 11 11 x0 M) fun v1 =>
    b1 (gI 0 1 v1 M) fun v2 =>
    if v2 ≤ x3 then
      some (x2, M)
    else
      b1 (gR 11 1 x0 M) fun v3 =>
      b1 (gR 11 11 x0 M) fun v4 =>
      b1 (gR 0 0 v4 M) fun v5 =>
      b1 (ldI v5 x3 M) fun v6 =>
      b1 (f_X6_add v3 (Int32.toInt64 v6) M) fun M7 =>
      bn (x3 + 1 : Int32) fun y8 =>
      f_X11_lockers_71 n x0 x2 y8 M7

def f_X11_lockers_0 (x0 : Nat) (x1 : Int32) (M : MM) : Option (Int32 × MM) :=
    b1 (gR 11 0 x0 M) fun v1 =>
    b1 (f_X10_begin v1 (80 : Int32) M) fun M2 =>
    if x1 < (1 : Int32) then
      some ((-100 : Int32), M2)
    else
      if x1 ≤ (20 : Int32) then
        b1 (gR 11 11 x0 M2) fun v3 =>
        b1 (gR 11 0 x0 M2) fun v4 =>
        b2 (f_X0_read v3 v4 M2) fun r6 M5 =>
        if r6 = 0 then
          b1 (gR 11 0 x0 M5) fun v12 =>
          b2 (f_X10_refusal v12 M5) fun r14 M13 =>
          some (r14, M13)
        else
          b1 (gR 11 11 x0 M5) fun v7 =>
          b2 (f_X0_fewest v7 x1 M5) fun r9 M8 =>
          if 0 ≤ r9 then
            b1 (gR 11 1 x0 M8) fun v10 =>
            b1 (f_X6_clear v10 M8) fun M11 =>
            f_X11_lockers_71 1024 x0 r9 (0 : Int32) M11
          else
            some ((-200 : Int32), M8)
      else
        some ((-100 : Int32), M2)

def f_X11_lockers (x0 : Nat) (x1 : Int32) (M : MM) : Option (Int32 × MM) := if isO 11 x0 M = true then f_X11_lockers_0 x0 x1 M else none
set_option maxRecDepth 4000 in
theorem L_X11_lockers_71 {G : Gx} (X : Cb G cX11_lockers 4 RX11 (RM 104 0 0) false) (Y : Cr G (some .int) 0 0) : ∀ (n : Nat) (x0 : Nat) (x2 : Int32) (x3 : Int32) (M : MM), V G trI 4 0 0 71 [(0, .ref x0), (2, .int x2), (3, .int x3)] [] M (f_X11_lockers_71 n x0 x2 x3 M) := by
  intro n
  induction n with
  | zero => intro x0 x2 x3 M; rw [f_X11_lockers_71]; exact v_none
  | succ n ih =>
    intro x0 x2 x3 M
    rw [f_X11_lockers_71]
    refine v_iload_n X 72 2 dX11_lockers_71 rfl rfl ?_
    refine v_aload_n X 73 0 dX11_lockers_72 rfl rfl ?_
    refine v_getR X 76 fl_X11_87.r dX11_lockers_73 rfl (fun v1 => ?_)
    refine v_getI X 79 fl_X11_394.r dX11_lockers_76 rfl (fun v2 => ?_)
    refine v_icge X 82 105 dX11_lockers_79 rfl rfl ?_ ?_
    · refine v_iload_n X 106 1 dX11_lockers_105 rfl rfl ?_
      exact v_iret X Y (Nat.le_refl _) (Nat.le_refl _) dX11_lockers_106
    · refine v_aload_n X 83 0 dX11_lockers_82 rfl rfl ?_
      refine v_getR X 86 fl_X11_19.r dX11_lockers_83 rfl (fun v3 => ?_)
      refine v_aload_n X 87 0 dX11_lockers_86 rfl rfl ?_
      refine v_getR X 90 fl_X11_87.r dX11_lockers_87 rfl (fun v4 => ?_)
      refine v_getR X 93 fl_X11_395 dX11_lockers_90 rfl (fun v5 => ?_)
      refine v_iload_n X 94 2 dX11_lockers_93 rfl rfl ?_
      refine v_iald X 95 dX11_lockers_94 rfl (fun v6 => ?_)
      refine v_i2l X 96 dX11_lockers_95 rfl ?_
      refine v_vV X 99 cv_X6_add ml_X11_353 (n1 := 1) rfl [.long (Int32.toInt64 v6)] rfl rfl rfl dX11_lockers_96 rfl (fun M1 h => c_X6_add _ _ _ _ _ h) (fun M7 => ?_)
      refine v_iinc X 102 2 (fun z => [(0, .ref x0), (2, .int x2), (3, .int z)]) dX11_lockers_99 rfl ik_1 (by decide) (fun _ => rfl) rfl (fun y8 => ?_)
      refine v_goto X 71 dX11_lockers_102 rfl ?_
      exact ih _ _ _ _
set_option maxRecDepth 4000 in
theorem L_X11_lockers_0 {G : Gx} (X : Cb G cX11_lockers 4 RX11 (RM 104 0 0) false) (Y : Cr G (some .int) 0 0) (x0 : Nat) (x1 : Int32) (M : MM) : V G trI 4 0 0 0 [(0, .ref x0), (1, .int x1)] [] M (f_X11_lockers_0 x0 x1 M) := by
  unfold f_X11_lockers_0
  refine v_aload_n X 1 0 dX11_lockers_0 rfl rfl ?_
  refine v_getR X 4 fl_X11_10.r dX11_lockers_1 rfl (fun v1 => ?_)
  refine v_bipush X 6 dX11_lockers_4 bk_80 rfl ?_
  refine v_vV X 9 cv_X10_begin ml_X11_113 (n1 := 2) rfl [.int (80 : Int32)] rfl rfl rfl dX11_lockers_6 rfl (fun M1 h => c_X10_begin _ _ _ _ _ h) (fun M2 => ?_)
  refine v_iload_n X 10 1 dX11_lockers_9 rfl rfl ?_
  refine v_iconst X 11 dX11_lockers_10 ik_1 rfl ?_
  refine v_iclt X 14 20 dX11_lockers_11 rfl rfl ?_ ?_
  · refine v_bipush X 22 dX11_lockers_20 bk_m100 rfl ?_
    exact v_iret X Y (Nat.le_refl _) (Nat.le_refl _) dX11_lockers_22
  · refine v_iload_n X 15 1 dX11_lockers_14 rfl rfl ?_
    refine v_bipush X 17 dX11_lockers_15 bk_20 rfl ?_
    refine v_icle X 20 23 dX11_lockers_17 rfl rfl ?_ ?_
    · refine v_aload_n X 24 0 dX11_lockers_23 rfl rfl ?_
      refine v_getR X 27 fl_X11_87.r dX11_lockers_24 rfl (fun v3 => ?_)
      refine v_aload_n X 28 0 dX11_lockers_27 rfl rfl ?_
      refine v_getR X 31 fl_X11_10.r dX11_lockers_28 rfl (fun v4 => ?_)
      refine v_vI X 34 cv_X0_read ml_X11_388 (n1 := 2) rfl [.ref v4] rfl rfl rfl dX11_lockers_31 rfl (fun r M1 h => c_X0_read _ _ _ _ _ _ h) (fun r6 M5 => ?_)
      refine v_ifne X 37 45 dX11_lockers_34 rfl rfl ?_ ?_
      · refine v_aload_n X 46 0 dX11_lockers_45 rfl rfl ?_
        refine v_getR X 49 fl_X11_87.r dX11_lockers_46 rfl (fun v7 => ?_)
        refine v_iload_n X 50 1 dX11_lockers_49 rfl rfl ?_
        refine v_vI X 53 cv_X0_fewest ml_X11_391 (n1 := 103) rfl [.int x1] rfl rfl rfl dX11_lockers_50 rfl (fun r M1 h => c_X0_fewest _ _ _ _ _ _ h) (fun r9 M8 => ?_)
        refine v_istore_n (lv' := [(0, .ref x0), (1, .int x1), (2, .int r9)]) X 54 dX11_lockers_53 (by decide) rfl rfl ?_
        refine v_iload_n X 55 2 dX11_lockers_54 rfl rfl ?_
        refine v_ifge X 58 62 dX11_lockers_55 rfl rfl ?_ ?_
        · refine v_aload_n X 63 0 dX11_lockers_62 rfl rfl ?_
          refine v_getR X 66 fl_X11_19.r dX11_lockers_63 rfl (fun v10 => ?_)
          refine v_vV X 69 cv_X6_clear ml_X11_344 (n1 := 1) rfl [] rfl rfl rfl dX11_lockers_66 rfl (fun M1 h => c_X6_clear _ _ _ _ h) (fun M11 => ?_)
          refine v_iconst X 70 dX11_lockers_69 ik_0 rfl ?_
          refine v_istore_n (lv' := [(0, .ref x0), (1, .int x1), (2, .int r9), (3, .int (0 : Int32))]) X 71 dX11_lockers_70 (by decide) rfl rfl ?_
          exact v_sb [0, 2, 3] (L_X11_lockers_71 X Y 1024 _ _ _ _) rfl
        · refine v_sipush X 61 dX11_lockers_58 sk_m200 rfl ?_
          exact v_iret X Y (Nat.le_refl _) (Nat.le_refl _) dX11_lockers_61
      · refine v_aload_n X 38 0 dX11_lockers_37 rfl rfl ?_
        refine v_getR X 41 fl_X11_10.r dX11_lockers_38 rfl (fun v12 => ?_)
        refine v_vI X 44 cv_X10_refusal ml_X11_127 (n1 := 1) rfl [] rfl rfl rfl dX11_lockers_41 rfl (fun r M1 h => c_X10_refusal _ _ _ _ _ h) (fun r14 M13 => ?_)
        exact v_iret X Y (Nat.le_refl _) (Nat.le_refl _) dX11_lockers_44
    · refine v_bipush X 22 dX11_lockers_20 bk_m100 rfl ?_
      exact v_iret X Y (Nat.le_refl _) (Nat.le_refl _) dX11_lockers_22
theorem c_X11_lockers (l : Launch) (x0 : Nat) (x1 : Int32) (M : MM) (r : Int32) (M1 : MM) (h : f_X11_lockers x0 x1 M = some (r, M1)) : KV l yX11_lockers cX11_lockers 4 (some .int) (RM 104 0 0) false 11 x0 [.int x1] M (some (.int r)) M1 := by
  obtain ⟨hO, h2⟩ := iteO_some h
  exact ⟨hO, ct_of (tr := trI) (by decide) (Nat.le_of_ble_eq_true rfl) [(0, .ref x0), (1, .int x1)] rfl h2 (fun G X Y hn hl => L_X11_lockers_0 X Y x0 x1 M)⟩

def f_X11_left_0 (x0 : Nat) (x1 : Int32) (x2 : Int32) (M : MM) : Option (Int32 × MM) :=
    b1 (gR 11 0 x0 M) fun v1 =>
    b1 (f_X10_begin v1 (80 : Int32) M) fun M2 =>
    if x1 < 0 then
      some ((-100 : Int32), M2)
    else
      if (4 : Int32) < x1 then
        some ((-100 : Int32), M2)
      else
        if x2 < (1 : Int32) then
          some ((-100 : Int32), M2)
        else
          if x2 ≤ (20 : Int32) then
            b1 (gR 11 11 x0 M2) fun v3 =>
            b1 (gR 11 0 x0 M2) fun v4 =>
            b2 (f_X0_read v3 v4 M2) fun r6 M5 =>
            if r6 = 0 then
              b1 (gR 11 0 x0 M5) fun v20 =>
              b2 (f_X10_refusal v20 M5) fun r22 M21 =>
              some (r22, M21)
            else
              b1 (gR 11 11 x0 M5) fun v7 =>
              b2 (f_X0_mostInto v7 x1 x2 M5) fun r9 M8 =>
              b1 (gR 11 1 x0 M8) fun v10 =>
              b1 (f_X6_one v10 (Int32.toInt64 r9) M8) fun M11 =>
              b1 (gR 11 11 x0 M11) fun v12 =>
              b1 (gR 11 11 x0 M11) fun v13 =>
              b1 (gI 0 1 v13 M11) fun v14 =>
              b2 (f_X0_sizeOf v12 (((1 : Int32) <<< (v14 &&& 31)) - (1 : Int32)) M11) fun r16 M15 =>
              b1 (gR 11 11 x0 M15) fun v17 =>
              b2 (f_X0_sizeOf v17 r9 M15) fun r19 M18 =>
              some (r16 - r19, M18)
          else
            some ((-100 : Int32), M2)

def f_X11_left (x0 : Nat) (x1 : Int32) (x2 : Int32) (M : MM) : Option (Int32 × MM) := if isO 11 x0 M = true then f_X11_left_0 x0 x1 x2 M else none
set_option maxRecDepth 4000 in
theorem L_X11_left_0 {G : Gx} (X : Cb G cX11_left 4 RX11 (RM 4 0 0) false) (Y : Cr G (some .int) 0 0) (x0 : Nat) (x1 : Int32) (x2 : Int32) (M : MM) : V G trI 4 0 0 0 [(0, .ref x0), (1, .int x1), (2, .int x2)] [] M (f_X11_left_0 x0 x1 x2 M) := by
  unfold f_X11_left_0
  refine v_aload_n X 1 0 dX11_left_0 rfl rfl ?_
  refine v_getR X 4 fl_X11_10.r dX11_left_1 rfl (fun v1 => ?_)
  refine v_bipush X 6 dX11_left_4 bk_80 rfl ?_
  refine v_vV X 9 cv_X10_begin ml_X11_113 (n1 := 2) rfl [.int (80 : Int32)] rfl rfl rfl dX11_left_6 rfl (fun M1 h => c_X10_begin _ _ _ _ _ h) (fun M2 => ?_)
  refine v_iload_n X 10 1 dX11_left_9 rfl rfl ?_
  refine v_iflt X 13 29 dX11_left_10 rfl rfl ?_ ?_
  · refine v_bipush X 31 dX11_left_29 bk_m100 rfl ?_
    exact v_iret X Y (Nat.le_refl _) (Nat.le_refl _) dX11_left_31
  · refine v_iload_n X 14 1 dX11_left_13 rfl rfl ?_
    refine v_iconst X 15 dX11_left_14 ik_4 rfl ?_
    refine v_icgt X 18 29 dX11_left_15 rfl rfl ?_ ?_
    · refine v_bipush X 31 dX11_left_29 bk_m100 rfl ?_
      exact v_iret X Y (Nat.le_refl _) (Nat.le_refl _) dX11_left_31
    · refine v_iload_n X 19 2 dX11_left_18 rfl rfl ?_
      refine v_iconst X 20 dX11_left_19 ik_1 rfl ?_
      refine v_iclt X 23 29 dX11_left_20 rfl rfl ?_ ?_
      · refine v_bipush X 31 dX11_left_29 bk_m100 rfl ?_
        exact v_iret X Y (Nat.le_refl _) (Nat.le_refl _) dX11_left_31
      · refine v_iload_n X 24 2 dX11_left_23 rfl rfl ?_
        refine v_bipush X 26 dX11_left_24 bk_20 rfl ?_
        refine v_icle X 29 32 dX11_left_26 rfl rfl ?_ ?_
        · refine v_aload_n X 33 0 dX11_left_32 rfl rfl ?_
          refine v_getR X 36 fl_X11_87.r dX11_left_33 rfl (fun v3 => ?_)
          refine v_aload_n X 37 0 dX11_left_36 rfl rfl ?_
          refine v_getR X 40 fl_X11_10.r dX11_left_37 rfl (fun v4 => ?_)
          refine v_vI X 43 cv_X0_read ml_X11_388 (n1 := 2) rfl [.ref v4] rfl rfl rfl dX11_left_40 rfl (fun r M1 h => c_X0_read _ _ _ _ _ _ h) (fun r6 M5 => ?_)
          refine v_ifne X 46 54 dX11_left_43 rfl rfl ?_ ?_
          · refine v_aload_n X 55 0 dX11_left_54 rfl rfl ?_
            refine v_getR X 58 fl_X11_87.r dX11_left_55 rfl (fun v7 => ?_)
            refine v_iload_n X 59 1 dX11_left_58 rfl rfl ?_
            refine v_iload_n X 60 2 dX11_left_59 rfl rfl ?_
            refine v_vI X 63 cv_X0_mostInto ml_X11_398 (n1 := 3) rfl [.int x1, .int x2] rfl rfl rfl dX11_left_60 rfl (fun r M1 h => c_X0_mostInto _ _ _ _ _ _ _ h) (fun r9 M8 => ?_)
            refine v_istore_n (lv' := [(0, .ref x0), (1, .int x1), (2, .int x2), (3, .int r9)]) X 64 dX11_left_63 (by decide) rfl rfl ?_
            refine v_aload_n X 65 0 dX11_left_64 rfl rfl ?_
            refine v_getR X 68 fl_X11_19.r dX11_left_65 rfl (fun v10 => ?_)
            refine v_iload_n X 69 3 dX11_left_68 rfl rfl ?_
            refine v_i2l X 70 dX11_left_69 rfl ?_
            refine v_vV X 73 cv_X6_one ml_X11_362 (n1 := 2) rfl [.long (Int32.toInt64 r9)] rfl rfl rfl dX11_left_70 rfl (fun M1 h => c_X6_one _ _ _ _ _ h) (fun M11 => ?_)
            refine v_aload_n X 74 0 dX11_left_73 rfl rfl ?_
            refine v_getR X 77 fl_X11_87.r dX11_left_74 rfl (fun v12 => ?_)
            refine v_iconst X 78 dX11_left_77 ik_1 rfl ?_
            refine v_aload_n X 79 0 dX11_left_78 rfl rfl ?_
            refine v_getR X 82 fl_X11_87.r dX11_left_79 rfl (fun v13 => ?_)
            refine v_getI X 85 fl_X11_394.r dX11_left_82 rfl (fun v14 => ?_)
            refine v_ishl X 86 dX11_left_85 rfl ?_
            refine v_iconst X 87 dX11_left_86 ik_1 rfl ?_
            refine v_isub X 88 dX11_left_87 rfl ?_
            refine v_vI X 91 cv_X0_sizeOf ml_X11_401 (n1 := 1) rfl [.int (((1 : Int32) <<< (v14 &&& 31)) - (1 : Int32))] rfl rfl rfl dX11_left_88 rfl (fun r M1 h => c_X0_sizeOf _ _ _ _ _ _ h) (fun r16 M15 => ?_)
            refine v_aload_n X 92 0 dX11_left_91 rfl rfl ?_
            refine v_getR X 95 fl_X11_87.r dX11_left_92 rfl (fun v17 => ?_)
            refine v_iload_n X 96 3 dX11_left_95 rfl rfl ?_
            refine v_vI X 99 cv_X0_sizeOf ml_X11_401 (n1 := 1) rfl [.int r9] rfl rfl rfl dX11_left_96 rfl (fun r M1 h => c_X0_sizeOf _ _ _ _ _ _ h) (fun r19 M18 => ?_)
            refine v_isub X 100 dX11_left_99 rfl ?_
            exact v_iret X Y (Nat.le_refl _) (Nat.le_refl _) dX11_left_100
          · refine v_aload_n X 47 0 dX11_left_46 rfl rfl ?_
            refine v_getR X 50 fl_X11_10.r dX11_left_47 rfl (fun v20 => ?_)
            refine v_vI X 53 cv_X10_refusal ml_X11_127 (n1 := 1) rfl [] rfl rfl rfl dX11_left_50 rfl (fun r M1 h => c_X10_refusal _ _ _ _ _ h) (fun r22 M21 => ?_)
            exact v_iret X Y (Nat.le_refl _) (Nat.le_refl _) dX11_left_53
        · refine v_bipush X 31 dX11_left_29 bk_m100 rfl ?_
          exact v_iret X Y (Nat.le_refl _) (Nat.le_refl _) dX11_left_31
theorem c_X11_left (l : Launch) (x0 : Nat) (x1 : Int32) (x2 : Int32) (M : MM) (r : Int32) (M1 : MM) (h : f_X11_left x0 x1 x2 M = some (r, M1)) : KV l yX11_left cX11_left 4 (some .int) (RM 4 0 0) false 11 x0 [.int x1, .int x2] M (some (.int r)) M1 := by
  obtain ⟨hO, h2⟩ := iteO_some h
  exact ⟨hO, ct_of (tr := trI) (by decide) (Nat.le_of_ble_eq_true rfl) [(0, .ref x0), (1, .int x1), (2, .int x2)] rfl h2 (fun G X Y hn hl => L_X11_left_0 X Y x0 x1 x2 M)⟩

def f_X11_slack_0 (x0 : Nat) (x1 : Int32) (M : MM) : Option (Int32 × MM) :=
    b1 (gR 11 3 x0 M) fun v1 =>
    b2 (f_X5_has v1 x1 M) fun r3 M2 =>
    if r3 = 0 then
      some ((-1 : Int32), M2)
    else
      b1 (gR 11 5 x0 M2) fun v4 =>
      b2 (f_X1_slackOf v4 x1 M2) fun r6 M5 =>
      some (r6, M5)

def f_X11_slack (x0 : Nat) (x1 : Int32) (M : MM) : Option (Int32 × MM) := if isO 11 x0 M = true then f_X11_slack_0 x0 x1 M else none
set_option maxRecDepth 4000 in
theorem L_X11_slack_0 {G : Gx} (X : Cb G cX11_slack 2 RX11 (RM 6 0 0) false) (Y : Cr G (some .int) 0 0) (x0 : Nat) (x1 : Int32) (M : MM) : V G trI 2 0 0 0 [(0, .ref x0), (1, .int x1)] [] M (f_X11_slack_0 x0 x1 M) := by
  unfold f_X11_slack_0
  refine v_aload_n X 1 0 dX11_slack_0 rfl rfl ?_
  refine v_getR X 4 fl_X11_33.r dX11_slack_1 rfl (fun v1 => ?_)
  refine v_iload_n X 5 1 dX11_slack_4 rfl rfl ?_
  refine v_vI X 8 cv_X5_has ml_X11_208 (n1 := 1) rfl [.int x1] rfl rfl rfl dX11_slack_5 rfl (fun r M1 h => c_X5_has _ _ _ _ _ _ h) (fun r3 M2 => ?_)
  refine v_ifeq X 11 22 dX11_slack_8 rfl rfl ?_ ?_
  · refine v_iconst X 23 dX11_slack_22 ik_m1 rfl ?_
    exact v_iret X Y (Nat.le_refl _) (Nat.le_refl _) dX11_slack_23
  · refine v_aload_n X 12 0 dX11_slack_11 rfl rfl ?_
    refine v_getR X 15 fl_X11_45.r dX11_slack_12 rfl (fun v4 => ?_)
    refine v_iload_n X 16 1 dX11_slack_15 rfl rfl ?_
    refine v_vI X 19 cv_X1_slackOf ml_X11_404 (n1 := 5) rfl [.int x1] rfl rfl rfl dX11_slack_16 rfl (fun r M1 h => c_X1_slackOf _ _ _ _ _ _ h) (fun r6 M5 => ?_)
    refine v_goto X 23 dX11_slack_19 rfl ?_
    exact v_iret X Y (Nat.le_refl _) (Nat.le_refl _) dX11_slack_23
theorem c_X11_slack (l : Launch) (x0 : Nat) (x1 : Int32) (M : MM) (r : Int32) (M1 : MM) (h : f_X11_slack x0 x1 M = some (r, M1)) : KV l yX11_slack cX11_slack 2 (some .int) (RM 6 0 0) false 11 x0 [.int x1] M (some (.int r)) M1 := by
  obtain ⟨hO, h2⟩ := iteO_some h
  exact ⟨hO, ct_of (tr := trI) (by decide) (Nat.le_of_ble_eq_true rfl) [(0, .ref x0), (1, .int x1)] rfl h2 (fun G X Y hn hl => L_X11_slack_0 X Y x0 x1 M)⟩

def f_X11_tight_90 (K13 : Nat → Int32 → Int32 → Int32 → MM → Option (Int32 × MM)) (x0 : Nat) (x1 : Int32) (x2 : Int32) (x3 : Int32) (M : MM) : Option (Int32 × MM) :=
    bn (x3 + 1 : Int32) fun y1 =>
    K13 x0 x1 x2 y1 M

def f_X11_tight_89 (K13 : Nat → Int32 → Int32 → Int32 → MM → Option (Int32 × MM)) (x0 : Nat) (x1 : Int32) (x3 : Int32) (s0 : Int32) (M : MM) : Option (Int32 × MM) :=
    f_X11_tight_90 K13 x0 x1 s0 x3 M

def f_X11_tight_84 (K13 : Nat → Int32 → Int32 → Int32 → MM → Option (Int32 × MM)) (x0 : Nat) (x1 : Int32) (x3 : Int32) (M : MM) : Option (Int32 × MM) :=
    f_X11_tight_89 K13 x0 x1 x3 x3 M

def f_X11_tight_64 (K13 : Nat → Int32 → Int32 → Int32 → MM → Option (Int32 × MM)) (x0 : Nat) (x2 : Int32) (x3 : Int32) (x4 : Int32) (s0 : Int32) (M : MM) : Option (Int32 × MM) :=
    if x2 = (-1 : Int32) then
      f_X11_tight_84 K13 x0 s0 x3 M
    else
      b1 (gR 11 5 x0 M) fun v1 =>
      b1 (gR 1 8 v1 M) fun v2 =>
      b1 (ldI v2 x2 M) fun v3 =>
      if x4 ≤ v3 then
        f_X11_tight_89 K13 x0 s0 x3 x2 M
      else
        f_X11_tight_84 K13 x0 s0 x3 M

def f_X11_tight_59 (K13 : Nat → Int32 → Int32 → Int32 → MM → Option (Int32 × MM)) (x0 : Nat) (x2 : Int32) (x3 : Int32) (x4 : Int32) (M : MM) : Option (Int32 × MM) :=
    f_X11_tight_64 K13 x0 x2 x3 x4 x3 M

def f_X11_tight_13 : Nat → Nat → Int32 → Int32 → Int32 → MM → Option (Int32 × MM)
  | 0, _, _, _, _, _ => none
  | n + 1, x0, x1, x2, x3, M =>
    b1 (gR 11 3 x0 M) fun v1 =>
    b1 (gI 5 1 v1 M) fun v2 =>
    if v2 ≤ x3 then
      if x1 = (-1 : Int32) then
        some ((-2 : Int32), M)
      else
        if x2 = (-1 : Int32) then
          some ((-2 : Int32), M)
        else
          b1 (gR 11 1 x0 M) fun v3 =>
          b1 (gR 11 5 x0 M) fun v4 =>
          b1 (gR 1 8 v4 M) fun v5 =>
          b1 (ldI v5 x1 M) fun v6 =>
          b1 (gR 11 5 x0 M) fun v7 =>
          b1 (gR 1 8 v7 M) fun v8 =>
          b1 (ldI v8 x2 M) fun v9 =>
          b1 (f_X6_three v3 (Int32.toInt64 v6) (Int32.toInt64 x2) (Int32.toInt64 v9) M) fun M10 =>
          some (x1, M10)
    else
      b1 (gR 11 5 x0 M) fun v11 =>
      b1 (gR 1 8 v11 M) fun v12 =>
      b1 (ldI v12 x3 M) fun v13 =>
      if v13 < 0 then
        f_X11_tight_90 (f_X11_tight_13 n) x0 x1 x2 x3 M
      else
        if x1 = (-1 : Int32) then
          f_X11_tight_59 (f_X11_tight_13 n) x0 x2 x3 v13 M
        else
          b1 (gR 11 5 x0 M) fun v14 =>
          b1 (gR 1 8 v14 M) fun v15 =>
          b1 (ldI v15 x1 M) fun v16 =>
          if v16 ≤ v13 then
            f_X11_tight_64 (f_X11_tight_13 n) x0 x2 x3 v13 x1 M
          else
            f_X11_tight_59 (f_X11_tight_13 n) x0 x2 x3 v13 M

def f_X11_tight_0 (x0 : Nat) (M : MM) : Option (Int32 × MM) :=
    b1 (gR 11 5 x0 M) fun v1 =>
    b1 (f_X1_lookForSlack v1 M) fun M2 =>
    f_X11_tight_13 1024 x0 (-1 : Int32) (-1 : Int32) (0 : Int32) M2

def f_X11_tight (x0 : Nat) (M : MM) : Option (Int32 × MM) := if isO 11 x0 M = true then f_X11_tight_0 x0 M else none
set_option maxRecDepth 4000 in
theorem L_X11_tight_90 {G : Gx} (X : Cb G cX11_tight 5 RX11 (RM 7 0 0) false) (Y : Cr G (some .int) 0 0) {K13 : Nat → Int32 → Int32 → Int32 → MM → Option (Int32 × MM)} (hK13 : ∀ (x0 : Nat) (x1 : Int32) (x2 : Int32) (x3 : Int32) (M : MM), V G trI 5 0 0 13 [(0, .ref x0), (1, .int x1), (2, .int x2), (3, .int x3)] [] M (K13 x0 x1 x2 x3 M)) (x0 : Nat) (x1 : Int32) (x2 : Int32) (x3 : Int32) (M : MM) : V G trI 5 0 0 90 [(0, .ref x0), (1, .int x1), (2, .int x2), (3, .int x3)] [] M (f_X11_tight_90 K13 x0 x1 x2 x3 M) := by
  unfold f_X11_tight_90
  refine v_iinc X 93 3 (fun z => [(0, .ref x0), (1, .int x1), (2, .int x2), (3, .int z)]) dX11_tight_90 rfl ik_1 (by decide) (fun _ => rfl) rfl (fun y1 => ?_)
  refine v_goto X 13 dX11_tight_93 rfl ?_
  exact hK13 _ _ _ _ _
set_option maxRecDepth 4000 in
theorem L_X11_tight_89 {G : Gx} (X : Cb G cX11_tight 5 RX11 (RM 7 0 0) false) (Y : Cr G (some .int) 0 0) {K13 : Nat → Int32 → Int32 → Int32 → MM → Option (Int32 × MM)} (hK13 : ∀ (x0 : Nat) (x1 : Int32) (x2 : Int32) (x3 : Int32) (M : MM), V G trI 5 0 0 13 [(0, .ref x0), (1, .int x1), (2, .int x2), (3, .int x3)] [] M (K13 x0 x1 x2 x3 M)) (x0 : Nat) (x1 : Int32) (x3 : Int32) (s0 : Int32) (M : MM) : V G trI 5 0 0 89 [(0, .ref x0), (1, .int x1), (3, .int x3)] [.int s0] M (f_X11_tight_89 K13 x0 x1 x3 s0 M) := by
  unfold f_X11_tight_89
  refine v_istore_n (lv' := [(0, .ref x0), (1, .int x1), (2, .int s0), (3, .int x3)]) X 90 dX11_tight_89 (by decide) rfl rfl ?_
  exact L_X11_tight_90 X Y hK13 _ _ _ _ _
set_option maxRecDepth 4000 in
theorem L_X11_tight_84 {G : Gx} (X : Cb G cX11_tight 5 RX11 (RM 7 0 0) false) (Y : Cr G (some .int) 0 0) {K13 : Nat → Int32 → Int32 → Int32 → MM → Option (Int32 × MM)} (hK13 : ∀ (x0 : Nat) (x1 : Int32) (x2 : Int32) (x3 : Int32) (M : MM), V G trI 5 0 0 13 [(0, .ref x0), (1, .int x1), (2, .int x2), (3, .int x3)] [] M (K13 x0 x1 x2 x3 M)) (x0 : Nat) (x1 : Int32) (x3 : Int32) (M : MM) : V G trI 5 0 0 84 [(0, .ref x0), (1, .int x1), (3, .int x3)] [] M (f_X11_tight_84 K13 x0 x1 x3 M) := by
  unfold f_X11_tight_84
  refine v_iload_n X 85 2 dX11_tight_84 rfl rfl ?_
  refine v_goto X 89 dX11_tight_85 rfl ?_
  exact L_X11_tight_89 X Y hK13 _ _ _ _ _
set_option maxRecDepth 4000 in
theorem L_X11_tight_64 {G : Gx} (X : Cb G cX11_tight 5 RX11 (RM 7 0 0) false) (Y : Cr G (some .int) 0 0) {K13 : Nat → Int32 → Int32 → Int32 → MM → Option (Int32 × MM)} (hK13 : ∀ (x0 : Nat) (x1 : Int32) (x2 : Int32) (x3 : Int32) (M : MM), V G trI 5 0 0 13 [(0, .ref x0), (1, .int x1), (2, .int x2), (3, .int x3)] [] M (K13 x0 x1 x2 x3 M)) (x0 : Nat) (x2 : Int32) (x3 : Int32) (x4 : Int32) (s0 : Int32) (M : MM) : V G trI 5 0 0 64 [(0, .ref x0), (2, .int x2), (3, .int x3), (4, .int x4)] [.int s0] M (f_X11_tight_64 K13 x0 x2 x3 x4 s0 M) := by
  unfold f_X11_tight_64
  refine v_istore_n (lv' := [(0, .ref x0), (1, .int s0), (2, .int x2), (3, .int x3), (4, .int x4)]) X 65 dX11_tight_64 (by decide) rfl rfl ?_
  refine v_iload_n X 66 2 dX11_tight_65 rfl rfl ?_
  refine v_iconst X 67 dX11_tight_66 ik_m1 rfl ?_
  refine v_iceq X 70 84 dX11_tight_67 rfl rfl ?_ ?_
  · exact v_sb [0, 1, 3] (L_X11_tight_84 X Y hK13 _ _ _ _) rfl
  · refine v_iload X 72 4 dX11_tight_70 rfl rfl ?_
    refine v_aload_n X 73 0 dX11_tight_72 rfl rfl ?_
    refine v_getR X 76 fl_X11_45.r dX11_tight_73 rfl (fun v1 => ?_)
    refine v_getR X 79 fl_X11_410 dX11_tight_76 rfl (fun v2 => ?_)
    refine v_iload_n X 80 2 dX11_tight_79 rfl rfl ?_
    refine v_iald X 81 dX11_tight_80 rfl (fun v3 => ?_)
    refine v_icle X 84 88 dX11_tight_81 rfl rfl ?_ ?_
    · refine v_iload_n X 89 2 dX11_tight_88 rfl rfl ?_
      exact v_sb [0, 1, 3] (L_X11_tight_89 X Y hK13 _ _ _ _ _) rfl
    · exact v_sb [0, 1, 3] (L_X11_tight_84 X Y hK13 _ _ _ _) rfl
set_option maxRecDepth 4000 in
theorem L_X11_tight_59 {G : Gx} (X : Cb G cX11_tight 5 RX11 (RM 7 0 0) false) (Y : Cr G (some .int) 0 0) {K13 : Nat → Int32 → Int32 → Int32 → MM → Option (Int32 × MM)} (hK13 : ∀ (x0 : Nat) (x1 : Int32) (x2 : Int32) (x3 : Int32) (M : MM), V G trI 5 0 0 13 [(0, .ref x0), (1, .int x1), (2, .int x2), (3, .int x3)] [] M (K13 x0 x1 x2 x3 M)) (x0 : Nat) (x2 : Int32) (x3 : Int32) (x4 : Int32) (M : MM) : V G trI 5 0 0 59 [(0, .ref x0), (2, .int x2), (3, .int x3), (4, .int x4)] [] M (f_X11_tight_59 K13 x0 x2 x3 x4 M) := by
  unfold f_X11_tight_59
  refine v_iload_n X 60 2 dX11_tight_59 rfl rfl ?_
  refine v_goto X 64 dX11_tight_60 rfl ?_
  exact L_X11_tight_64 X Y hK13 _ _ _ _ _ _
set_option maxRecDepth 4000 in
theorem L_X11_tight_13 {G : Gx} (X : Cb G cX11_tight 5 RX11 (RM 7 0 0) false) (Y : Cr G (some .int) 0 0) : ∀ (n : Nat) (x0 : Nat) (x1 : Int32) (x2 : Int32) (x3 : Int32) (M : MM), V G trI 5 0 0 13 [(0, .ref x0), (1, .int x1), (2, .int x2), (3, .int x3)] [] M (f_X11_tight_13 n x0 x1 x2 x3 M) := by
  intro n
  induction n with
  | zero => intro x0 x1 x2 x3 M; rw [f_X11_tight_13]; exact v_none
  | succ n ih =>
    intro x0 x1 x2 x3 M
    rw [f_X11_tight_13]
    refine v_iload_n X 14 3 dX11_tight_13 rfl rfl ?_
    refine v_aload_n X 15 0 dX11_tight_14 rfl rfl ?_
    refine v_getR X 18 fl_X11_33.r dX11_tight_15 rfl (fun v1 => ?_)
    refine v_getI X 21 fl_X11_143.r dX11_tight_18 rfl (fun v2 => ?_)
    refine v_icge X 24 96 dX11_tight_21 rfl rfl ?_ ?_
    · refine v_iload_n X 97 1 dX11_tight_96 rfl rfl ?_
      refine v_iconst X 98 dX11_tight_97 ik_m1 rfl ?_
      refine v_iceq X 101 106 dX11_tight_98 rfl rfl ?_ ?_
      · refine v_bipush X 108 dX11_tight_106 bk_m2 rfl ?_
        exact v_iret X Y (Nat.le_refl _) (Nat.le_refl _) dX11_tight_108
      · refine v_iload_n X 102 2 dX11_tight_101 rfl rfl ?_
        refine v_iconst X 103 dX11_tight_102 ik_m1 rfl ?_
        refine v_icne X 106 109 dX11_tight_103 rfl rfl ?_ ?_
        · refine v_aload_n X 110 0 dX11_tight_109 rfl rfl ?_
          refine v_getR X 113 fl_X11_19.r dX11_tight_110 rfl (fun v3 => ?_)
          refine v_aload_n X 114 0 dX11_tight_113 rfl rfl ?_
          refine v_getR X 117 fl_X11_45.r dX11_tight_114 rfl (fun v4 => ?_)
          refine v_getR X 120 fl_X11_410 dX11_tight_117 rfl (fun v5 => ?_)
          refine v_iload_n X 121 1 dX11_tight_120 rfl rfl ?_
          refine v_iald X 122 dX11_tight_121 rfl (fun v6 => ?_)
          refine v_i2l X 123 dX11_tight_122 rfl ?_
          refine v_iload_n X 124 2 dX11_tight_123 rfl rfl ?_
          refine v_i2l X 125 dX11_tight_124 rfl ?_
          refine v_aload_n X 126 0 dX11_tight_125 rfl rfl ?_
          refine v_getR X 129 fl_X11_45.r dX11_tight_126 rfl (fun v7 => ?_)
          refine v_getR X 132 fl_X11_410 dX11_tight_129 rfl (fun v8 => ?_)
          refine v_iload_n X 133 2 dX11_tight_132 rfl rfl ?_
          refine v_iald X 134 dX11_tight_133 rfl (fun v9 => ?_)
          refine v_i2l X 135 dX11_tight_134 rfl ?_
          refine v_vV X 138 cv_X6_three ml_X11_295 (n1 := 4) rfl [.long (Int32.toInt64 v6), .long (Int32.toInt64 x2), .long (Int32.toInt64 v9)] rfl rfl rfl dX11_tight_135 rfl (fun M1 h => c_X6_three _ _ _ _ _ _ _ h) (fun M10 => ?_)
          refine v_iload_n X 139 1 dX11_tight_138 rfl rfl ?_
          exact v_iret X Y (Nat.le_refl _) (Nat.le_refl _) dX11_tight_139
        · refine v_bipush X 108 dX11_tight_106 bk_m2 rfl ?_
          exact v_iret X Y (Nat.le_refl _) (Nat.le_refl _) dX11_tight_108
    · refine v_aload_n X 25 0 dX11_tight_24 rfl rfl ?_
      refine v_getR X 28 fl_X11_45.r dX11_tight_25 rfl (fun v11 => ?_)
      refine v_getR X 31 fl_X11_410 dX11_tight_28 rfl (fun v12 => ?_)
      refine v_iload_n X 32 3 dX11_tight_31 rfl rfl ?_
      refine v_iald X 33 dX11_tight_32 rfl (fun v13 => ?_)
      refine v_istore (lv' := [(0, .ref x0), (1, .int x1), (2, .int x2), (3, .int x3), (4, .int v13)]) X 35 dX11_tight_33 (by decide) rfl rfl ?_
      refine v_iload X 37 4 dX11_tight_35 rfl rfl ?_
      refine v_iflt X 40 90 dX11_tight_37 rfl rfl ?_ ?_
      · exact v_sb [0, 1, 2, 3] (L_X11_tight_90 X Y ih _ _ _ _ _) rfl
      · refine v_iload_n X 41 1 dX11_tight_40 rfl rfl ?_
        refine v_iconst X 42 dX11_tight_41 ik_m1 rfl ?_
        refine v_iceq X 45 59 dX11_tight_42 rfl rfl ?_ ?_
        · exact v_sb [0, 2, 3, 4] (L_X11_tight_59 X Y ih _ _ _ _ _) rfl
        · refine v_iload X 47 4 dX11_tight_45 rfl rfl ?_
          refine v_aload_n X 48 0 dX11_tight_47 rfl rfl ?_
          refine v_getR X 51 fl_X11_45.r dX11_tight_48 rfl (fun v14 => ?_)
          refine v_getR X 54 fl_X11_410 dX11_tight_51 rfl (fun v15 => ?_)
          refine v_iload_n X 55 1 dX11_tight_54 rfl rfl ?_
          refine v_iald X 56 dX11_tight_55 rfl (fun v16 => ?_)
          refine v_icge X 59 63 dX11_tight_56 rfl rfl ?_ ?_
          · refine v_iload_n X 64 1 dX11_tight_63 rfl rfl ?_
            exact v_sb [0, 2, 3, 4] (L_X11_tight_64 X Y ih _ _ _ _ _ _) rfl
          · exact v_sb [0, 2, 3, 4] (L_X11_tight_59 X Y ih _ _ _ _ _) rfl
set_option maxRecDepth 4000 in
theorem L_X11_tight_0 {G : Gx} (X : Cb G cX11_tight 5 RX11 (RM 7 0 0) false) (Y : Cr G (some .int) 0 0) (x0 : Nat) (M : MM) : V G trI 5 0 0 0 [(0, .ref x0)] [] M (f_X11_tight_0 x0 M) := by
  unfold f_X11_tight_0
  refine v_iconst X 1 dX11_tight_0 ik_m1 rfl ?_
  refine v_istore_n (lv' := [(0, .ref x0), (1, .int (-1 : Int32))]) X 2 dX11_tight_1 (by decide) rfl rfl ?_
  refine v_iconst X 3 dX11_tight_2 ik_m1 rfl ?_
  refine v_istore_n (lv' := [(0, .ref x0), (1, .int (-1 : Int32)), (2, .int (-1 : Int32))]) X 4 dX11_tight_3 (by decide) rfl rfl ?_
  refine v_aload_n X 5 0 dX11_tight_4 rfl rfl ?_
  refine v_getR X 8 fl_X11_45.r dX11_tight_5 rfl (fun v1 => ?_)
  refine v_vV X 11 cv_X1_lookForSlack ml_X11_407 (n1 := 6) rfl [] rfl rfl rfl dX11_tight_8 rfl (fun M1 h => c_X1_lookForSlack _ _ _ _ h) (fun M2 => ?_)
  refine v_iconst X 12 dX11_tight_11 ik_0 rfl ?_
  refine v_istore_n (lv' := [(0, .ref x0), (1, .int (-1 : Int32)), (2, .int (-1 : Int32)), (3, .int (0 : Int32))]) X 13 dX11_tight_12 (by decide) rfl rfl ?_
  exact L_X11_tight_13 X Y 1024 _ _ _ _ _
theorem c_X11_tight (l : Launch) (x0 : Nat) (M : MM) (r : Int32) (M1 : MM) (h : f_X11_tight x0 M = some (r, M1)) : KV l yX11_tight cX11_tight 5 (some .int) (RM 7 0 0) false 11 x0 [] M (some (.int r)) M1 := by
  obtain ⟨hO, h2⟩ := iteO_some h
  exact ⟨hO, ct_of (tr := trI) (by decide) (Nat.le_of_ble_eq_true rfl) [(0, .ref x0)] rfl h2 (fun G X Y hn hl => L_X11_tight_0 X Y x0 M)⟩

def f_X11_greatestCommon_45 (x4 : Int64) (M : MM) : Option (Int64 × MM) :=
    if (lg_cmp x4 (0 : Int64)) = 0 then
      some ((1 : Int64), M)
    else
      some (x4, M)

def f_X11_greatestCommon_9 : Nat → Int64 → Int64 → Int32 → MM → Option (Int64 × MM)
  | 0, _, _, _, _ => none
  | n + 1, x4, x6, x8, M =>
    if (200 : Int32) ≤ x8 then
      f_X11_greatestCommon_45 x4 M
    else
      if (lg_cmp x6 (0 : Int64)) = 0 then
        f_X11_greatestCommon_45 x4 M
      else
        b1 (remL x4 x6) fun v1 =>
        bn (x8 + 1 : Int32) fun y2 =>
        f_X11_greatestCommon_9 n x6 v1 y2 M

def f_X11_greatestCommon_0 (x0 : Int64) (x2 : Int64) (M : MM) : Option (Int64 × MM) :=
    f_X11_greatestCommon_9 1024 x0 x2 (0 : Int32) M

def f_X11_greatestCommon (x0 : Int64) (x2 : Int64) (M : MM) : Option (Int64 × MM) := f_X11_greatestCommon_0 x0 x2 M
set_option maxRecDepth 4000 in
theorem L_X11_greatestCommon_45 {G : Gx} (X : Cb G cX11_greatestCommon 11 RX11 (RM 1 0 0) false) (Y : Cr G (some .long) 0 0) (x4 : Int64) (M : MM) : V G trL 11 0 0 45 [(4, .long x4)] [] M (f_X11_greatestCommon_45 x4 M) := by
  unfold f_X11_greatestCommon_45
  refine v_lload X 47 0 dX11_greatestCommon_45 rfl rfl ?_
  refine v_lconst X 48 dX11_greatestCommon_47 lk_0 rfl ?_
  refine v_lcmp X 49 dX11_greatestCommon_48 rfl ?_
  refine v_ifne X 52 56 dX11_greatestCommon_49 rfl rfl ?_ ?_
  · refine v_lload X 58 0 dX11_greatestCommon_56 rfl rfl ?_
    exact v_lret X Y (Nat.le_refl _) (Nat.le_refl _) dX11_greatestCommon_58
  · refine v_lconst X 53 dX11_greatestCommon_52 lk_1 rfl ?_
    refine v_goto X 58 dX11_greatestCommon_53 rfl ?_
    exact v_lret X Y (Nat.le_refl _) (Nat.le_refl _) dX11_greatestCommon_58
set_option maxRecDepth 4000 in
theorem L_X11_greatestCommon_9 {G : Gx} (X : Cb G cX11_greatestCommon 11 RX11 (RM 1 0 0) false) (Y : Cr G (some .long) 0 0) : ∀ (n : Nat) (x4 : Int64) (x6 : Int64) (x8 : Int32) (M : MM), V G trL 11 0 0 9 [(4, .long x4), (6, .long x6), (8, .int x8)] [] M (f_X11_greatestCommon_9 n x4 x6 x8 M) := by
  intro n
  induction n with
  | zero => intro x4 x6 x8 M; rw [f_X11_greatestCommon_9]; exact v_none
  | succ n ih =>
    intro x4 x6 x8 M
    rw [f_X11_greatestCommon_9]
    refine v_iload X 11 2 dX11_greatestCommon_9 rfl rfl ?_
    refine v_sipush X 14 dX11_greatestCommon_11 sk_200 rfl ?_
    refine v_icge X 17 45 dX11_greatestCommon_14 rfl rfl ?_ ?_
    · exact v_sb [0] (L_X11_greatestCommon_45 X Y _ _) rfl
    · refine v_lload X 19 1 dX11_greatestCommon_17 rfl rfl ?_
      refine v_lconst X 20 dX11_greatestCommon_19 lk_0 rfl ?_
      refine v_lcmp X 21 dX11_greatestCommon_20 rfl ?_
      refine v_ifeq X 24 45 dX11_greatestCommon_21 rfl rfl ?_ ?_
      · exact v_sb [0] (L_X11_greatestCommon_45 X Y _ _) rfl
      · refine v_lload X 26 0 dX11_greatestCommon_24 rfl rfl ?_
        refine v_lload X 28 1 dX11_greatestCommon_26 rfl rfl ?_
        refine v_lrem X 29 dX11_greatestCommon_28 rfl (fun v1 => ?_)
        refine v_lstore (lv' := [(4, .long x4), (6, .long x6), (8, .int x8), (9, .long v1)]) X 31 dX11_greatestCommon_29 (by decide) rfl rfl ?_
        refine v_lload X 33 1 dX11_greatestCommon_31 rfl rfl ?_
        refine v_lstore (lv' := [(4, .long x6), (6, .long x6), (8, .int x8), (9, .long v1)]) X 35 dX11_greatestCommon_33 (by decide) rfl rfl ?_
        refine v_lload X 37 3 dX11_greatestCommon_35 rfl rfl ?_
        refine v_lstore (lv' := [(4, .long x6), (6, .long v1), (8, .int x8), (9, .long v1)]) X 39 dX11_greatestCommon_37 (by decide) rfl rfl ?_
        refine v_iinc X 42 2 (fun z => [(4, .long x6), (6, .long v1), (8, .int z), (9, .long v1)]) dX11_greatestCommon_39 rfl ik_1 (by decide) (fun _ => rfl) rfl (fun y2 => ?_)
        refine v_goto X 9 dX11_greatestCommon_42 rfl ?_
        exact v_sb [0, 1, 2] (ih _ _ _ _) rfl
set_option maxRecDepth 4000 in
theorem L_X11_greatestCommon_0 {G : Gx} (X : Cb G cX11_greatestCommon 11 RX11 (RM 1 0 0) false) (Y : Cr G (some .long) 0 0) (x0 : Int64) (x2 : Int64) (M : MM) : V G trL 11 0 0 0 [(0, .long x0), (2, .long x2)] [] M (f_X11_greatestCommon_0 x0 x2 M) := by
  unfold f_X11_greatestCommon_0
  refine v_lload_n X 1 0 dX11_greatestCommon_0 rfl rfl ?_
  refine v_lstore (lv' := [(0, .long x0), (2, .long x2), (4, .long x0)]) X 3 dX11_greatestCommon_1 (by decide) rfl rfl ?_
  refine v_lload_n X 4 1 dX11_greatestCommon_3 rfl rfl ?_
  refine v_lstore (lv' := [(0, .long x0), (2, .long x2), (4, .long x0), (6, .long x2)]) X 6 dX11_greatestCommon_4 (by decide) rfl rfl ?_
  refine v_iconst X 7 dX11_greatestCommon_6 ik_0 rfl ?_
  refine v_istore (lv' := [(0, .long x0), (2, .long x2), (4, .long x0), (6, .long x2), (8, .int (0 : Int32))]) X 9 dX11_greatestCommon_7 (by decide) rfl rfl ?_
  exact v_sb [2, 3, 4] (L_X11_greatestCommon_9 X Y 1024 _ _ _ _) rfl
theorem c_X11_greatestCommon (l : Launch) (x0 : Int64) (x2 : Int64) (M : MM) (r : Int64) (M1 : MM) (h : f_X11_greatestCommon x0 x2 M = some (r, M1)) : CtAt l yX11_greatestCommon cX11_greatestCommon 11 (some .long) (RM 1 0 0) false [.long x0, .long x2] M (some (.long r)) M1 :=
  ct_of (tr := trL) (by decide) (Nat.le_of_ble_eq_true rfl) [(0, .long x0), (2, .long x2)] rfl h (fun G X Y hn hl => L_X11_greatestCommon_0 X Y x0 x2 M)

def f_X11_chance_93 (K38 : Nat → Int32 → Int32 → Int64 → Int64 → Int32 → MM → Option (Int32 × MM)) (x0 : Nat) (x1 : Int32) (x2 : Int32) (x3 : Int64) (x5 : Int64) (x7 : Int32) (M : MM) : Option (Int32 × MM) :=
    bn (x7 + 1 : Int32) fun y1 =>
    K38 x0 x1 x2 x3 x5 y1 M

def f_X11_chance_38 : Nat → Nat → Int32 → Int32 → Int64 → Int64 → Int32 → MM → Option (Int32 × MM)
  | 0, _, _, _, _, _, _, _ => none
  | n + 1, x0, x1, x2, x3, x5, x7, M =>
    b1 (gR 11 3 x0 M) fun v1 =>
    b1 (gI 5 1 v1 M) fun v2 =>
    if v2 ≤ x7 then
      b2 (f_X11_greatestCommon x5 x3 M) fun r4 M3 =>
      b1 (gR 11 1 x0 M3) fun v5 =>
      b1 (divL x3 r4) fun v6 =>
      b1 (divL x5 r4) fun v7 =>
      b1 (f_X6_two v5 v6 v7 M3) fun M8 =>
      some ((0 : Int32), M8)
    else
      b1 (gR 11 5 x0 M) fun v9 =>
      b1 (gR 1 8 v9 M) fun v10 =>
      b1 (ldI v10 x7 M) fun v11 =>
      if v11 < 0 then
        f_X11_chance_93 (f_X11_chance_38 n) x0 x1 x2 x3 x5 x7 M
      else
        b1 (gR 11 5 x0 M) fun v12 =>
        b1 (gR 1 8 v12 M) fun v13 =>
        b1 (ldI v13 x7 M) fun v14 =>
        if x1 ≤ v14 then
          f_X11_chance_93 (f_X11_chance_38 n) x0 x1 x2 x3 x5 x7 M
        else
          bn (x3 * (Int32.toInt64 ((10 : Int32) - x2)) : Int64) fun y15 =>
          bn (x5 * (10 : Int64) : Int64) fun y16 =>
          f_X11_chance_93 (f_X11_chance_38 n) x0 x1 x2 y15 y16 x7 M

def f_X11_chance_0 (x0 : Nat) (x1 : Int32) (x2 : Int32) (M : MM) : Option (Int32 × MM) :=
    if x1 < (1 : Int32) then
      some ((-1 : Int32), M)
    else
      if (9 : Int32) < x1 then
        some ((-1 : Int32), M)
      else
        if x2 < 0 then
          some ((-1 : Int32), M)
        else
          if x2 ≤ (10 : Int32) then
            b1 (gR 11 5 x0 M) fun v1 =>
            b1 (f_X1_lookForSlack v1 M) fun M2 =>
            f_X11_chance_38 1024 x0 x1 x2 (1 : Int64) (1 : Int64) (0 : Int32) M2
          else
            some ((-1 : Int32), M)

def f_X11_chance (x0 : Nat) (x1 : Int32) (x2 : Int32) (M : MM) : Option (Int32 × MM) := if isO 11 x0 M = true then f_X11_chance_0 x0 x1 x2 M else none
set_option maxRecDepth 4000 in
theorem L_X11_chance_93 {G : Gx} (X : Cb G cX11_chance 9 RX11 (RM 7 0 0) false) (Y : Cr G (some .int) 0 0) {K38 : Nat → Int32 → Int32 → Int64 → Int64 → Int32 → MM → Option (Int32 × MM)} (hK38 : ∀ (x0 : Nat) (x1 : Int32) (x2 : Int32) (x3 : Int64) (x5 : Int64) (x7 : Int32) (M : MM), V G trI 9 0 0 38 [(0, .ref x0), (1, .int x1), (2, .int x2), (3, .long x3), (5, .long x5), (7, .int x7)] [] M (K38 x0 x1 x2 x3 x5 x7 M)) (x0 : Nat) (x1 : Int32) (x2 : Int32) (x3 : Int64) (x5 : Int64) (x7 : Int32) (M : MM) : V G trI 9 0 0 93 [(0, .ref x0), (1, .int x1), (2, .int x2), (3, .long x3), (5, .long x5), (7, .int x7)] [] M (f_X11_chance_93 K38 x0 x1 x2 x3 x5 x7 M) := by
  unfold f_X11_chance_93
  refine v_iinc X 96 5 (fun z => [(0, .ref x0), (1, .int x1), (2, .int x2), (3, .long x3), (5, .long x5), (7, .int z)]) dX11_chance_93 rfl ik_1 (by decide) (fun _ => rfl) rfl (fun y1 => ?_)
  refine v_goto X 38 dX11_chance_96 rfl ?_
  exact hK38 _ _ _ _ _ _ _
set_option maxRecDepth 4000 in
theorem L_X11_chance_38 {G : Gx} (X : Cb G cX11_chance 9 RX11 (RM 7 0 0) false) (Y : Cr G (some .int) 0 0) : ∀ (n : Nat) (x0 : Nat) (x1 : Int32) (x2 : Int32) (x3 : Int64) (x5 : Int64) (x7 : Int32) (M : MM), V G trI 9 0 0 38 [(0, .ref x0), (1, .int x1), (2, .int x2), (3, .long x3), (5, .long x5), (7, .int x7)] [] M (f_X11_chance_38 n x0 x1 x2 x3 x5 x7 M) := by
  intro n
  induction n with
  | zero => intro x0 x1 x2 x3 x5 x7 M; rw [f_X11_chance_38]; exact v_none
  | succ n ih =>
    intro x0 x1 x2 x3 x5 x7 M
    rw [f_X11_chance_38]
    refine v_iload X 40 5 dX11_chance_38 rfl rfl ?_
    refine v_aload_n X 41 0 dX11_chance_40 rfl rfl ?_
    refine v_getR X 44 fl_X11_33.r dX11_chance_41 rfl (fun v1 => ?_)
    refine v_getI X 47 fl_X11_143.r dX11_chance_44 rfl (fun v2 => ?_)
    refine v_icge X 50 99 dX11_chance_47 rfl rfl ?_ ?_
    · refine v_lload X 101 4 dX11_chance_99 rfl rfl ?_
      refine v_lload_n X 102 3 dX11_chance_101 rfl rfl ?_
      refine v_sL X 105 cs_X11_greatestCommon ml_X11_415 (n1 := 1) rfl [.long x5, .long x3] rfl rfl rfl dX11_chance_102 rfl (fun r M1 h => c_X11_greatestCommon _ _ _ _ _ _ h) (fun r4 M3 => ?_)
      refine v_lstore (lv' := [(0, .ref x0), (1, .int x1), (2, .int x2), (3, .long x3), (5, .long x5), (7, .long r4)]) X 107 dX11_chance_105 (by decide) rfl rfl ?_
      refine v_aload_n X 108 0 dX11_chance_107 rfl rfl ?_
      refine v_getR X 111 fl_X11_19.r dX11_chance_108 rfl (fun v5 => ?_)
      refine v_lload_n X 112 3 dX11_chance_111 rfl rfl ?_
      refine v_lload X 114 5 dX11_chance_112 rfl rfl ?_
      refine v_ldiv X 115 dX11_chance_114 rfl (fun v6 => ?_)
      refine v_lload X 117 4 dX11_chance_115 rfl rfl ?_
      refine v_lload X 119 5 dX11_chance_117 rfl rfl ?_
      refine v_ldiv X 120 dX11_chance_119 rfl (fun v7 => ?_)
      refine v_vV X 123 cv_X6_two ml_X11_285 (n1 := 3) rfl [.long v6, .long v7] rfl rfl rfl dX11_chance_120 rfl (fun M1 h => c_X6_two _ _ _ _ _ _ h) (fun M8 => ?_)
      refine v_iconst X 124 dX11_chance_123 ik_0 rfl ?_
      exact v_iret X Y (Nat.le_refl _) (Nat.le_refl _) dX11_chance_124
    · refine v_aload_n X 51 0 dX11_chance_50 rfl rfl ?_
      refine v_getR X 54 fl_X11_45.r dX11_chance_51 rfl (fun v9 => ?_)
      refine v_getR X 57 fl_X11_410 dX11_chance_54 rfl (fun v10 => ?_)
      refine v_iload X 59 5 dX11_chance_57 rfl rfl ?_
      refine v_iald X 60 dX11_chance_59 rfl (fun v11 => ?_)
      refine v_iflt X 63 93 dX11_chance_60 rfl rfl ?_ ?_
      · exact L_X11_chance_93 X Y ih _ _ _ _ _ _ _
      · refine v_aload_n X 64 0 dX11_chance_63 rfl rfl ?_
        refine v_getR X 67 fl_X11_45.r dX11_chance_64 rfl (fun v12 => ?_)
        refine v_getR X 70 fl_X11_410 dX11_chance_67 rfl (fun v13 => ?_)
        refine v_iload X 72 5 dX11_chance_70 rfl rfl ?_
        refine v_iald X 73 dX11_chance_72 rfl (fun v14 => ?_)
        refine v_iload_n X 74 1 dX11_chance_73 rfl rfl ?_
        refine v_icge X 77 93 dX11_chance_74 rfl rfl ?_ ?_
        · exact L_X11_chance_93 X Y ih _ _ _ _ _ _ _
        · refine v_lload_n X 78 3 dX11_chance_77 rfl rfl ?_
          refine v_bipush X 80 dX11_chance_78 bk_10 rfl ?_
          refine v_iload_n X 81 2 dX11_chance_80 rfl rfl ?_
          refine v_isub X 82 dX11_chance_81 rfl ?_
          refine v_i2l X 83 dX11_chance_82 rfl ?_
          refine v_lmul X 84 dX11_chance_83 rfl ?_
          refine v_bnJ (fun y15 => ?_)
          refine v_lstore_n (lv' := [(0, .ref x0), (1, .int x1), (2, .int x2), (3, .long y15), (5, .long x5), (7, .int x7)]) X 85 dX11_chance_84 (by decide) rfl rfl ?_
          refine v_lload X 87 4 dX11_chance_85 rfl rfl ?_
          refine v_ldc2 X 90 dX11_chance_87 kl_X11_413 rfl ?_
          refine v_lmul X 91 dX11_chance_90 rfl ?_
          refine v_bnJ (fun y16 => ?_)
          refine v_lstore (lv' := [(0, .ref x0), (1, .int x1), (2, .int x2), (3, .long y15), (5, .long y16), (7, .int x7)]) X 93 dX11_chance_91 (by decide) rfl rfl ?_
          exact L_X11_chance_93 X Y ih _ _ _ _ _ _ _
set_option maxRecDepth 4000 in
theorem L_X11_chance_0 {G : Gx} (X : Cb G cX11_chance 9 RX11 (RM 7 0 0) false) (Y : Cr G (some .int) 0 0) (x0 : Nat) (x1 : Int32) (x2 : Int32) (M : MM) : V G trI 9 0 0 0 [(0, .ref x0), (1, .int x1), (2, .int x2)] [] M (f_X11_chance_0 x0 x1 x2 M) := by
  unfold f_X11_chance_0
  refine v_iload_n X 1 1 dX11_chance_0 rfl rfl ?_
  refine v_iconst X 2 dX11_chance_1 ik_1 rfl ?_
  refine v_iclt X 5 21 dX11_chance_2 rfl rfl ?_ ?_
  · refine v_iconst X 22 dX11_chance_21 ik_m1 rfl ?_
    exact v_iret X Y (Nat.le_refl _) (Nat.le_refl _) dX11_chance_22
  · refine v_iload_n X 6 1 dX11_chance_5 rfl rfl ?_
    refine v_bipush X 8 dX11_chance_6 bk_9 rfl ?_
    refine v_icgt X 11 21 dX11_chance_8 rfl rfl ?_ ?_
    · refine v_iconst X 22 dX11_chance_21 ik_m1 rfl ?_
      exact v_iret X Y (Nat.le_refl _) (Nat.le_refl _) dX11_chance_22
    · refine v_iload_n X 12 2 dX11_chance_11 rfl rfl ?_
      refine v_iflt X 15 21 dX11_chance_12 rfl rfl ?_ ?_
      · refine v_iconst X 22 dX11_chance_21 ik_m1 rfl ?_
        exact v_iret X Y (Nat.le_refl _) (Nat.le_refl _) dX11_chance_22
      · refine v_iload_n X 16 2 dX11_chance_15 rfl rfl ?_
        refine v_bipush X 18 dX11_chance_16 bk_10 rfl ?_
        refine v_icle X 21 23 dX11_chance_18 rfl rfl ?_ ?_
        · refine v_aload_n X 24 0 dX11_chance_23 rfl rfl ?_
          refine v_getR X 27 fl_X11_45.r dX11_chance_24 rfl (fun v1 => ?_)
          refine v_vV X 30 cv_X1_lookForSlack ml_X11_407 (n1 := 6) rfl [] rfl rfl rfl dX11_chance_27 rfl (fun M1 h => c_X1_lookForSlack _ _ _ _ h) (fun M2 => ?_)
          refine v_lconst X 31 dX11_chance_30 lk_1 rfl ?_
          refine v_lstore_n (lv' := [(0, .ref x0), (1, .int x1), (2, .int x2), (3, .long (1 : Int64))]) X 32 dX11_chance_31 (by decide) rfl rfl ?_
          refine v_lconst X 33 dX11_chance_32 lk_1 rfl ?_
          refine v_lstore (lv' := [(0, .ref x0), (1, .int x1), (2, .int x2), (3, .long (1 : Int64)), (5, .long (1 : Int64))]) X 35 dX11_chance_33 (by decide) rfl rfl ?_
          refine v_iconst X 36 dX11_chance_35 ik_0 rfl ?_
          refine v_istore (lv' := [(0, .ref x0), (1, .int x1), (2, .int x2), (3, .long (1 : Int64)), (5, .long (1 : Int64)), (7, .int (0 : Int32))]) X 38 dX11_chance_36 (by decide) rfl rfl ?_
          exact L_X11_chance_38 X Y 1024 _ _ _ _ _ _ _
        · refine v_iconst X 22 dX11_chance_21 ik_m1 rfl ?_
          exact v_iret X Y (Nat.le_refl _) (Nat.le_refl _) dX11_chance_22
theorem c_X11_chance (l : Launch) (x0 : Nat) (x1 : Int32) (x2 : Int32) (M : MM) (r : Int32) (M1 : MM) (h : f_X11_chance x0 x1 x2 M = some (r, M1)) : KV l yX11_chance cX11_chance 9 (some .int) (RM 7 0 0) false 11 x0 [.int x1, .int x2] M (some (.int r)) M1 := by
  obtain ⟨hO, h2⟩ := iteO_some h
  exact ⟨hO, ct_of (tr := trI) (by decide) (Nat.le_of_ble_eq_true rfl) [(0, .ref x0), (1, .int x1), (2, .int x2)] rfl h2 (fun G X Y hn hl => L_X11_chance_0 X Y x0 x1 x2 M)⟩

def f_X11_seen_0 (x0 : Nat) (x1 : Int32) (x2 : Int32) (x3 : Int32) (M : MM) : Option (Int32 × MM) :=
    b2 (f_X11_canBeAsked x0 x1 x2 x3 M) fun r2 M1 =>
    if r2 = 0 then
      some ((-1 : Int32), M1)
    else
      b1 (gR 11 10 x0 M1) fun v3 =>
      b2 (f_X8_add v3 x1 x2 x3 M1) fun r5 M4 =>
      if r5 = 0 then
        some ((-1 : Int32), M4)
      else
        b1 (gR 11 10 x0 M4) fun v6 =>
        b1 (gI 8 4 v6 M4) fun v7 =>
        some (v7, M4)

def f_X11_seen (x0 : Nat) (x1 : Int32) (x2 : Int32) (x3 : Int32) (M : MM) : Option (Int32 × MM) := if isO 11 x0 M = true then f_X11_seen_0 x0 x1 x2 x3 M else none
set_option maxRecDepth 4000 in
theorem L_X11_seen_0 {G : Gx} (X : Cb G cX11_seen 4 RX11 (RM 3 0 0) false) (Y : Cr G (some .int) 0 0) (x0 : Nat) (x1 : Int32) (x2 : Int32) (x3 : Int32) (M : MM) : V G trI 4 0 0 0 [(0, .ref x0), (1, .int x1), (2, .int x2), (3, .int x3)] [] M (f_X11_seen_0 x0 x1 x2 x3 M) := by
  unfold f_X11_seen_0
  refine v_aload_n X 1 0 dX11_seen_0 rfl rfl ?_
  refine v_iload_n X 2 1 dX11_seen_1 rfl rfl ?_
  refine v_iload_n X 3 2 dX11_seen_2 rfl rfl ?_
  refine v_iload_n X 4 3 dX11_seen_3 rfl rfl ?_
  refine v_vI X 7 cv_X11_canBeAsked ml_X11_237 (n1 := 2) rfl [.int x1, .int x2, .int x3] rfl rfl rfl dX11_seen_4 rfl (fun r M1 h => c_X11_canBeAsked _ _ _ _ _ _ _ _ h) (fun r2 M1 => ?_)
  refine v_ifeq X 10 33 dX11_seen_7 rfl rfl ?_ ?_
  · refine v_iconst X 34 dX11_seen_33 ik_m1 rfl ?_
    exact v_iret X Y (Nat.le_refl _) (Nat.le_refl _) dX11_seen_34
  · refine v_aload_n X 11 0 dX11_seen_10 rfl rfl ?_
    refine v_getR X 14 fl_X11_80.r dX11_seen_11 rfl (fun v3 => ?_)
    refine v_iload_n X 15 1 dX11_seen_14 rfl rfl ?_
    refine v_iload_n X 16 2 dX11_seen_15 rfl rfl ?_
    refine v_iload_n X 17 3 dX11_seen_16 rfl rfl ?_
    refine v_vI X 20 cv_X8_add ml_X11_419 (n1 := 1) rfl [.int x1, .int x2, .int x3] rfl rfl rfl dX11_seen_17 rfl (fun r M1 h => c_X8_add _ _ _ _ _ _ _ _ h) (fun r5 M4 => ?_)
    refine v_ifeq X 23 33 dX11_seen_20 rfl rfl ?_ ?_
    · refine v_iconst X 34 dX11_seen_33 ik_m1 rfl ?_
      exact v_iret X Y (Nat.le_refl _) (Nat.le_refl _) dX11_seen_34
    · refine v_aload_n X 24 0 dX11_seen_23 rfl rfl ?_
      refine v_getR X 27 fl_X11_80.r dX11_seen_24 rfl (fun v6 => ?_)
      refine v_getI X 30 fl_X11_421.r dX11_seen_27 rfl (fun v7 => ?_)
      refine v_goto X 34 dX11_seen_30 rfl ?_
      exact v_iret X Y (Nat.le_refl _) (Nat.le_refl _) dX11_seen_34
theorem c_X11_seen (l : Launch) (x0 : Nat) (x1 : Int32) (x2 : Int32) (x3 : Int32) (M : MM) (r : Int32) (M1 : MM) (h : f_X11_seen x0 x1 x2 x3 M = some (r, M1)) : KV l yX11_seen cX11_seen 4 (some .int) (RM 3 0 0) false 11 x0 [.int x1, .int x2, .int x3] M (some (.int r)) M1 := by
  obtain ⟨hO, h2⟩ := iteO_some h
  exact ⟨hO, ct_of (tr := trI) (by decide) (Nat.le_of_ble_eq_true rfl) [(0, .ref x0), (1, .int x1), (2, .int x2), (3, .int x3)] rfl h2 (fun G X Y hn hl => L_X11_seen_0 X Y x0 x1 x2 x3 M)⟩

def f_X11_forget_0 (x0 : Nat) (M : MM) : Option (Int32 × MM) :=
    b1 (gR 11 10 x0 M) fun v1 =>
    b1 (gI 8 4 v1 M) fun v2 =>
    b1 (gR 11 10 x0 M) fun v3 =>
    b1 (pI 8 4 v3 (0 : Int32) M) fun M4 =>
    some (v2, M4)

def f_X11_forget (x0 : Nat) (M : MM) : Option (Int32 × MM) := if isO 11 x0 M = true then f_X11_forget_0 x0 M else none
set_option maxRecDepth 4000 in
theorem L_X11_forget_0 {G : Gx} (X : Cb G cX11_forget 2 RX11 (RM 1 0 0) false) (Y : Cr G (some .int) 0 0) (x0 : Nat) (M : MM) : V G trI 2 0 0 0 [(0, .ref x0)] [] M (f_X11_forget_0 x0 M) := by
  unfold f_X11_forget_0
  refine v_aload_n X 1 0 dX11_forget_0 rfl rfl ?_
  refine v_getR X 4 fl_X11_80.r dX11_forget_1 rfl (fun v1 => ?_)
  refine v_getI X 7 fl_X11_421.r dX11_forget_4 rfl (fun v2 => ?_)
  refine v_istore_n (lv' := [(0, .ref x0), (1, .int v2)]) X 8 dX11_forget_7 (by decide) rfl rfl ?_
  refine v_aload_n X 9 0 dX11_forget_8 rfl rfl ?_
  refine v_getR X 12 fl_X11_80.r dX11_forget_9 rfl (fun v3 => ?_)
  refine v_iconst X 13 dX11_forget_12 ik_0 rfl ?_
  refine v_putI X 16 fl_X11_421 nof dX11_forget_13 rfl (fun M4 => ?_)
  refine v_iload_n X 17 1 dX11_forget_16 rfl rfl ?_
  exact v_iret X Y (Nat.le_refl _) (Nat.le_refl _) dX11_forget_17
theorem c_X11_forget (l : Launch) (x0 : Nat) (M : MM) (r : Int32) (M1 : MM) (h : f_X11_forget x0 M = some (r, M1)) : KV l yX11_forget cX11_forget 2 (some .int) (RM 1 0 0) false 11 x0 [] M (some (.int r)) M1 := by
  obtain ⟨hO, h2⟩ := iteO_some h
  exact ⟨hO, ct_of (tr := trI) (by decide) (Nat.le_of_ble_eq_true rfl) [(0, .ref x0)] rfl h2 (fun G X Y hn hl => L_X11_forget_0 X Y x0 M)⟩

def f_X11_fits_38 (K4 : Nat → Int32 → Int32 → MM → Option (Int32 × MM)) (x0 : Nat) (x2 : Int32) (s0 : Int32) (s1 : Int32) (M : MM) : Option (Int32 × MM) :=
    bn (s1 ||| s0 : Int32) fun y1 =>
    bn (x2 + 1 : Int32) fun y2 =>
    K4 x0 y1 y2 M

def f_X11_fits_4 : Nat → Nat → Int32 → Int32 → MM → Option (Int32 × MM)
  | 0, _, _, _, _ => none
  | n + 1, x0, x1, x2, M =>
    b1 (gR 11 10 x0 M) fun v1 =>
    b1 (gI 8 4 v1 M) fun v2 =>
    if v2 ≤ x2 then
      b1 (gR 11 1 x0 M) fun v3 =>
      b1 (f_X6_one v3 (Int32.toInt64 x1) M) fun M4 =>
      b2 (f_J6_bitCount_0f7a4 x1 M4) fun r6 M5 =>
      some (r6, M5)
    else
      b1 (gR 11 10 x0 M) fun v7 =>
      b1 (gR 11 3 x0 M) fun v8 =>
      b2 (f_X8_fitsPlan v7 x2 v8 M) fun r10 M9 =>
      if r10 = 0 then
        f_X11_fits_38 (f_X11_fits_4 n) x0 x2 (0 : Int32) x1 M9
      else
        f_X11_fits_38 (f_X11_fits_4 n) x0 x2 ((1 : Int32) <<< (x2 &&& 31)) x1 M9

def f_X11_fits_0 (x0 : Nat) (M : MM) : Option (Int32 × MM) :=
    f_X11_fits_4 1024 x0 (0 : Int32) (0 : Int32) M

def f_X11_fits (x0 : Nat) (M : MM) : Option (Int32 × MM) := if isO 11 x0 M = true then f_X11_fits_0 x0 M else none
set_option maxRecDepth 4000 in
theorem L_X11_fits_38 {G : Gx} (X : Cb G cX11_fits 3 RX11 (RM 3 0 0) false) (Y : Cr G (some .int) 0 0) {K4 : Nat → Int32 → Int32 → MM → Option (Int32 × MM)} (hK4 : ∀ (x0 : Nat) (x1 : Int32) (x2 : Int32) (M : MM), V G trI 3 0 0 4 [(0, .ref x0), (1, .int x1), (2, .int x2)] [] M (K4 x0 x1 x2 M)) (x0 : Nat) (x2 : Int32) (s0 : Int32) (s1 : Int32) (M : MM) : V G trI 3 0 0 38 [(0, .ref x0), (2, .int x2)] [.int s0, .int s1] M (f_X11_fits_38 K4 x0 x2 s0 s1 M) := by
  unfold f_X11_fits_38
  refine v_ior X 39 dX11_fits_38 rfl ?_
  refine v_bnI (fun y1 => ?_)
  refine v_istore_n (lv' := [(0, .ref x0), (1, .int y1), (2, .int x2)]) X 40 dX11_fits_39 (by decide) rfl rfl ?_
  refine v_iinc X 43 2 (fun z => [(0, .ref x0), (1, .int y1), (2, .int z)]) dX11_fits_40 rfl ik_1 (by decide) (fun _ => rfl) rfl (fun y2 => ?_)
  refine v_goto X 4 dX11_fits_43 rfl ?_
  exact hK4 _ _ _ _
set_option maxRecDepth 4000 in
theorem L_X11_fits_4 {G : Gx} (X : Cb G cX11_fits 3 RX11 (RM 3 0 0) false) (Y : Cr G (some .int) 0 0) : ∀ (n : Nat) (x0 : Nat) (x1 : Int32) (x2 : Int32) (M : MM), V G trI 3 0 0 4 [(0, .ref x0), (1, .int x1), (2, .int x2)] [] M (f_X11_fits_4 n x0 x1 x2 M) := by
  intro n
  induction n with
  | zero => intro x0 x1 x2 M; rw [f_X11_fits_4]; exact v_none
  | succ n ih =>
    intro x0 x1 x2 M
    rw [f_X11_fits_4]
    refine v_iload_n X 5 2 dX11_fits_4 rfl rfl ?_
    refine v_aload_n X 6 0 dX11_fits_5 rfl rfl ?_
    refine v_getR X 9 fl_X11_80.r dX11_fits_6 rfl (fun v1 => ?_)
    refine v_getI X 12 fl_X11_421.r dX11_fits_9 rfl (fun v2 => ?_)
    refine v_icge X 15 46 dX11_fits_12 rfl rfl ?_ ?_
    · refine v_aload_n X 47 0 dX11_fits_46 rfl rfl ?_
      refine v_getR X 50 fl_X11_19.r dX11_fits_47 rfl (fun v3 => ?_)
      refine v_iload_n X 51 1 dX11_fits_50 rfl rfl ?_
      refine v_i2l X 52 dX11_fits_51 rfl ?_
      refine v_vV X 55 cv_X6_one ml_X11_362 (n1 := 2) rfl [.long (Int32.toInt64 x1)] rfl rfl rfl dX11_fits_52 rfl (fun M1 h => c_X6_one _ _ _ _ _ h) (fun M4 => ?_)
      refine v_iload_n X 56 1 dX11_fits_55 rfl rfl ?_
      refine v_sI X 59 cs_J6_bitCount_0f7a4 ml_X11_315 (n1 := 1) rfl [.int x1] rfl rfl rfl dX11_fits_56 rfl (fun r M1 h => c_J6_bitCount_0f7a4 _ _ _ _ _ h) (fun r6 M5 => ?_)
      exact v_iret X Y (Nat.le_refl _) (Nat.le_refl _) dX11_fits_59
    · refine v_iload_n X 16 1 dX11_fits_15 rfl rfl ?_
      refine v_aload_n X 17 0 dX11_fits_16 rfl rfl ?_
      refine v_getR X 20 fl_X11_80.r dX11_fits_17 rfl (fun v7 => ?_)
      refine v_iload_n X 21 2 dX11_fits_20 rfl rfl ?_
      refine v_aload_n X 22 0 dX11_fits_21 rfl rfl ?_
      refine v_getR X 25 fl_X11_33.r dX11_fits_22 rfl (fun v8 => ?_)
      refine v_vI X 28 cv_X8_fitsPlan ml_X11_422 (n1 := 2) rfl [.int x2, .ref v8] rfl rfl rfl dX11_fits_25 rfl (fun r M1 h => c_X8_fitsPlan _ _ _ _ _ _ _ h) (fun r10 M9 => ?_)
      refine v_ifeq X 31 37 dX11_fits_28 rfl rfl ?_ ?_
      · refine v_iconst X 38 dX11_fits_37 ik_0 rfl ?_
        exact v_sb [0, 2] (L_X11_fits_38 X Y ih _ _ _ _ _) rfl
      · refine v_iconst X 32 dX11_fits_31 ik_1 rfl ?_
        refine v_iload_n X 33 2 dX11_fits_32 rfl rfl ?_
        refine v_ishl X 34 dX11_fits_33 rfl ?_
        refine v_goto X 38 dX11_fits_34 rfl ?_
        exact v_sb [0, 2] (L_X11_fits_38 X Y ih _ _ _ _ _) rfl
set_option maxRecDepth 4000 in
theorem L_X11_fits_0 {G : Gx} (X : Cb G cX11_fits 3 RX11 (RM 3 0 0) false) (Y : Cr G (some .int) 0 0) (x0 : Nat) (M : MM) : V G trI 3 0 0 0 [(0, .ref x0)] [] M (f_X11_fits_0 x0 M) := by
  unfold f_X11_fits_0
  refine v_iconst X 1 dX11_fits_0 ik_0 rfl ?_
  refine v_istore_n (lv' := [(0, .ref x0), (1, .int (0 : Int32))]) X 2 dX11_fits_1 (by decide) rfl rfl ?_
  refine v_iconst X 3 dX11_fits_2 ik_0 rfl ?_
  refine v_istore_n (lv' := [(0, .ref x0), (1, .int (0 : Int32)), (2, .int (0 : Int32))]) X 4 dX11_fits_3 (by decide) rfl rfl ?_
  exact L_X11_fits_4 X Y 1024 _ _ _ _
theorem c_X11_fits (l : Launch) (x0 : Nat) (M : MM) (r : Int32) (M1 : MM) (h : f_X11_fits x0 M = some (r, M1)) : KV l yX11_fits cX11_fits 3 (some .int) (RM 3 0 0) false 11 x0 [] M (some (.int r)) M1 := by
  obtain ⟨hO, h2⟩ := iteO_some h
  exact ⟨hO, ct_of (tr := trI) (by decide) (Nat.le_of_ble_eq_true rfl) [(0, .ref x0)] rfl h2 (fun G X Y hn hl => L_X11_fits_0 X Y x0 M)⟩

def f_X11_since_116 (K35 : Nat → Int32 → Int32 → Int32 → Int32 → Int32 → Int32 → MM → Option (Int32 × MM)) (x0 : Nat) (x1 : Int32) (x2 : Int32) (x3 : Int32) (x4 : Int32) (x5 : Int32) (x6 : Int32) (M : MM) : Option (Int32 × MM) :=
    bn (x6 + 1 : Int32) fun y1 =>
    K35 x0 x1 x2 x3 x4 x5 y1 M

def f_X11_since_110 (K35 : Nat → Int32 → Int32 → Int32 → Int32 → Int32 → Int32 → MM → Option (Int32 × MM)) (x0 : Nat) (x1 : Int32) (x2 : Int32) (x3 : Int32) (x6 : Int32) (s0 : Int32) (M : MM) : Option (Int32 × MM) :=
    f_X11_since_116 K35 x0 x1 x2 x3 s0 x6 x6 M

def f_X11_since_73 (K35 : Nat → Int32 → Int32 → Int32 → Int32 → Int32 → Int32 → MM → Option (Int32 × MM)) (x0 : Nat) (x1 : Int32) (x2 : Int32) (x3 : Int32) (x4 : Int32) (x5 : Int32) (x6 : Int32) (s0 : Int32) (M : MM) : Option (Int32 × MM) :=
    if s0 = 0 then
      f_X11_since_116 K35 x0 x1 x2 x3 x4 x5 x6 M
    else
      b1 (gR 11 10 x0 M) fun v1 =>
      b2 (f_X8_allow v1 x1 x2 x6 M) fun r3 M2 =>
      if r3 = 0 then
        f_X11_since_116 K35 x0 x1 x2 x3 x4 x5 x6 M2
      else
        bn (x3 + 1 : Int32) fun y4 =>
        if x4 = (-1 : Int32) then
          f_X11_since_110 K35 x0 x1 x2 y4 x6 x6 M2
        else
          f_X11_since_110 K35 x0 x1 x2 y4 x6 x4 M2

def f_X11_since_72 (K35 : Nat → Int32 → Int32 → Int32 → Int32 → Int32 → Int32 → MM → Option (Int32 × MM)) (x0 : Nat) (x1 : Int32) (x2 : Int32) (x3 : Int32) (x4 : Int32) (x5 : Int32) (x6 : Int32) (M : MM) : Option (Int32 × MM) :=
    f_X11_since_73 K35 x0 x1 x2 x3 x4 x5 x6 (0 : Int32) M

def f_X11_since_35 : Nat → Nat → Int32 → Int32 → Int32 → Int32 → Int32 → Int32 → MM → Option (Int32 × MM)
  | 0, _, _, _, _, _, _, _, _ => none
  | n + 1, x0, x1, x2, x3, x4, x5, x6, M =>
    if (99 : Int32) < x6 then
      b1 (gR 11 1 x0 M) fun v1 =>
      b1 (f_X6_two v1 (Int32.toInt64 x4) (Int32.toInt64 x5) M) fun M2 =>
      some (x3, M2)
    else
      b1 (gR 11 2 x0 M) fun v3 =>
      b2 (f_X9_endsInTime v3 x2 x6 M) fun r5 M4 =>
      if r5 = 0 then
        f_X11_since_72 (f_X11_since_35 n) x0 x1 x2 x3 x4 x5 x6 M4
      else
        b1 (gR 11 2 x0 M4) fun v6 =>
        b2 (f_X9_isOpen v6 x2 x6 M4) fun r8 M7 =>
        if r8 = 0 then
          f_X11_since_72 (f_X11_since_35 n) x0 x1 x2 x3 x4 x5 x6 M7
        else
          f_X11_since_73 (f_X11_since_35 n) x0 x1 x2 x3 x4 x5 x6 (1 : Int32) M7

def f_X11_since_0 (x0 : Nat) (x1 : Int32) (x2 : Int32) (M : MM) : Option (Int32 × MM) :=
    b1 (gR 11 2 x0 M) fun v1 =>
    b2 (f_X9_hasPerson v1 x1 M) fun r3 M2 =>
    if r3 = 0 then
      some ((-1 : Int32), M2)
    else
      b1 (gR 11 2 x0 M2) fun v4 =>
      b2 (f_X9_hasErrand v4 x2 M2) fun r6 M5 =>
      if r6 = 0 then
        some ((-1 : Int32), M5)
      else
        f_X11_since_35 1024 x0 x1 x2 (0 : Int32) (-1 : Int32) (-1 : Int32) (0 : Int32) M5

def f_X11_since (x0 : Nat) (x1 : Int32) (x2 : Int32) (M : MM) : Option (Int32 × MM) := if isO 11 x0 M = true then f_X11_since_0 x0 x1 x2 M else none
set_option maxRecDepth 4000 in
theorem L_X11_since_116 {G : Gx} (X : Cb G cX11_since 8 RX11 (RM 4 0 0) false) (Y : Cr G (some .int) 0 0) {K35 : Nat → Int32 → Int32 → Int32 → Int32 → Int32 → Int32 → MM → Option (Int32 × MM)} (hK35 : ∀ (x0 : Nat) (x1 : Int32) (x2 : Int32) (x3 : Int32) (x4 : Int32) (x5 : Int32) (x6 : Int32) (M : MM), V G trI 8 0 0 35 [(0, .ref x0), (1, .int x1), (2, .int x2), (3, .int x3), (4, .int x4), (5, .int x5), (6, .int x6)] [] M (K35 x0 x1 x2 x3 x4 x5 x6 M)) (x0 : Nat) (x1 : Int32) (x2 : Int32) (x3 : Int32) (x4 : Int32) (x5 : Int32) (x6 : Int32) (M : MM) : V G trI 8 0 0 116 [(0, .ref x0), (1, .int x1), (2, .int x2), (3, .int x3), (4, .int x4), (5, .int x5), (6, .int x6)] [] M (f_X11_since_116 K35 x0 x1 x2 x3 x4 x5 x6 M) := by
  unfold f_X11_since_116
  refine v_iinc X 119 6 (fun z => [(0, .ref x0), (1, .int x1), (2, .int x2), (3, .int x3), (4, .int x4), (5, .int x5), (6, .int z)]) dX11_since_116 rfl ik_1 (by decide) (fun _ => rfl) rfl (fun y1 => ?_)
  refine v_goto X 35 dX11_since_119 rfl ?_
  exact hK35 _ _ _ _ _ _ _ _
set_option maxRecDepth 4000 in
theorem L_X11_since_110 {G : Gx} (X : Cb G cX11_since 8 RX11 (RM 4 0 0) false) (Y : Cr G (some .int) 0 0) {K35 : Nat → Int32 → Int32 → Int32 → Int32 → Int32 → Int32 → MM → Option (Int32 × MM)} (hK35 : ∀ (x0 : Nat) (x1 : Int32) (x2 : Int32) (x3 : Int32) (x4 : Int32) (x5 : Int32) (x6 : Int32) (M : MM), V G trI 8 0 0 35 [(0, .ref x0), (1, .int x1), (2, .int x2), (3, .int x3), (4, .int x4), (5, .int x5), (6, .int x6)] [] M (K35 x0 x1 x2 x3 x4 x5 x6 M)) (x0 : Nat) (x1 : Int32) (x2 : Int32) (x3 : Int32) (x6 : Int32) (s0 : Int32) (M : MM) : V G trI 8 0 0 110 [(0, .ref x0), (1, .int x1), (2, .int x2), (3, .int x3), (6, .int x6)] [.int s0] M (f_X11_since_110 K35 x0 x1 x2 x3 x6 s0 M) := by
  unfold f_X11_since_110
  refine v_istore (lv' := [(0, .ref x0), (1, .int x1), (2, .int x2), (3, .int x3), (4, .int s0), (6, .int x6)]) X 112 dX11_since_110 (by decide) rfl rfl ?_
  refine v_iload X 114 5 dX11_since_112 rfl rfl ?_
  refine v_istore (lv' := [(0, .ref x0), (1, .int x1), (2, .int x2), (3, .int x3), (4, .int s0), (5, .int x6), (6, .int x6)]) X 116 dX11_since_114 (by decide) rfl rfl ?_
  exact L_X11_since_116 X Y hK35 _ _ _ _ _ _ _ _
set_option maxRecDepth 4000 in
theorem L_X11_since_73 {G : Gx} (X : Cb G cX11_since 8 RX11 (RM 4 0 0) false) (Y : Cr G (some .int) 0 0) {K35 : Nat → Int32 → Int32 → Int32 → Int32 → Int32 → Int32 → MM → Option (Int32 × MM)} (hK35 : ∀ (x0 : Nat) (x1 : Int32) (x2 : Int32) (x3 : Int32) (x4 : Int32) (x5 : Int32) (x6 : Int32) (M : MM), V G trI 8 0 0 35 [(0, .ref x0), (1, .int x1), (2, .int x2), (3, .int x3), (4, .int x4), (5, .int x5), (6, .int x6)] [] M (K35 x0 x1 x2 x3 x4 x5 x6 M)) (x0 : Nat) (x1 : Int32) (x2 : Int32) (x3 : Int32) (x4 : Int32) (x5 : Int32) (x6 : Int32) (s0 : Int32) (M : MM) : V G trI 8 0 0 73 [(0, .ref x0), (1, .int x1), (2, .int x2), (3, .int x3), (4, .int x4), (5, .int x5), (6, .int x6)] [.int s0] M (f_X11_since_73 K35 x0 x1 x2 x3 x4 x5 x6 s0 M) := by
  unfold f_X11_since_73
  refine v_istore (lv' := [(0, .ref x0), (1, .int x1), (2, .int x2), (3, .int x3), (4, .int x4), (5, .int x5), (6, .int x6), (7, .int s0)]) X 75 dX11_since_73 (by decide) rfl rfl ?_
  refine v_iload X 77 7 dX11_since_75 rfl rfl ?_
  refine v_ifeq X 80 116 dX11_since_77 rfl rfl ?_ ?_
  · exact v_sb [0, 1, 2, 3, 4, 5, 6] (L_X11_since_116 X Y hK35 _ _ _ _ _ _ _ _) rfl
  · refine v_aload_n X 81 0 dX11_since_80 rfl rfl ?_
    refine v_getR X 84 fl_X11_80.r dX11_since_81 rfl (fun v1 => ?_)
    refine v_iload_n X 85 1 dX11_since_84 rfl rfl ?_
    refine v_iload_n X 86 2 dX11_since_85 rfl rfl ?_
    refine v_iload X 88 6 dX11_since_86 rfl rfl ?_
    refine v_vI X 91 cv_X8_allow ml_X11_433 (n1 := 2) rfl [.int x1, .int x2, .int x6] rfl rfl rfl dX11_since_88 rfl (fun r M1 h => c_X8_allow _ _ _ _ _ _ _ _ h) (fun r3 M2 => ?_)
    refine v_ifeq X 94 116 dX11_since_91 rfl rfl ?_ ?_
    · exact v_sb [0, 1, 2, 3, 4, 5, 6] (L_X11_since_116 X Y hK35 _ _ _ _ _ _ _ _) rfl
    · refine v_iinc X 97 3 (fun z => [(0, .ref x0), (1, .int x1), (2, .int x2), (3, .int z), (4, .int x4), (5, .int x5), (6, .int x6), (7, .int s0)]) dX11_since_94 rfl ik_1 (by decide) (fun _ => rfl) rfl (fun y4 => ?_)
      refine v_iload X 99 4 dX11_since_97 rfl rfl ?_
      refine v_iconst X 100 dX11_since_99 ik_m1 rfl ?_
      refine v_icne X 103 108 dX11_since_100 rfl rfl ?_ ?_
      · refine v_iload X 110 4 dX11_since_108 rfl rfl ?_
        exact v_sb [0, 1, 2, 3, 6] (L_X11_since_110 X Y hK35 _ _ _ _ _ _ _) rfl
      · refine v_iload X 105 6 dX11_since_103 rfl rfl ?_
        refine v_goto X 110 dX11_since_105 rfl ?_
        exact v_sb [0, 1, 2, 3, 6] (L_X11_since_110 X Y hK35 _ _ _ _ _ _ _) rfl
set_option maxRecDepth 4000 in
theorem L_X11_since_72 {G : Gx} (X : Cb G cX11_since 8 RX11 (RM 4 0 0) false) (Y : Cr G (some .int) 0 0) {K35 : Nat → Int32 → Int32 → Int32 → Int32 → Int32 → Int32 → MM → Option (Int32 × MM)} (hK35 : ∀ (x0 : Nat) (x1 : Int32) (x2 : Int32) (x3 : Int32) (x4 : Int32) (x5 : Int32) (x6 : Int32) (M : MM), V G trI 8 0 0 35 [(0, .ref x0), (1, .int x1), (2, .int x2), (3, .int x3), (4, .int x4), (5, .int x5), (6, .int x6)] [] M (K35 x0 x1 x2 x3 x4 x5 x6 M)) (x0 : Nat) (x1 : Int32) (x2 : Int32) (x3 : Int32) (x4 : Int32) (x5 : Int32) (x6 : Int32) (M : MM) : V G trI 8 0 0 72 [(0, .ref x0), (1, .int x1), (2, .int x2), (3, .int x3), (4, .int x4), (5, .int x5), (6, .int x6)] [] M (f_X11_since_72 K35 x0 x1 x2 x3 x4 x5 x6 M) := by
  unfold f_X11_since_72
  refine v_iconst X 73 dX11_since_72 ik_0 rfl ?_
  exact L_X11_since_73 X Y hK35 _ _ _ _ _ _ _ _ _
set_option maxRecDepth 4000 in
theorem L_X11_since_35 {G : Gx} (X : Cb G cX11_since 8 RX11 (RM 4 0 0) false) (Y : Cr G (some .int) 0 0) : ∀ (n : Nat) (x0 : Nat) (x1 : Int32) (x2 : Int32) (x3 : Int32) (x4 : Int32) (x5 : Int32) (x6 : Int32) (M : MM), V G trI 8 0 0 35 [(0, .ref x0), (1, .int x1), (2, .int x2), (3, .int x3), (4, .int x4), (5, .int x5), (6, .int x6)] [] M (f_X11_since_35 n x0 x1 x2 x3 x4 x5 x6 M) := by
  intro n
  induction n with
  | zero => intro x0 x1 x2 x3 x4 x5 x6 M; rw [f_X11_since_35]; exact v_none
  | succ n ih =>
    intro x0 x1 x2 x3 x4 x5 x6 M
    rw [f_X11_since_35]
    refine v_iload X 37 6 dX11_since_35 rfl rfl ?_
    refine v_bipush X 39 dX11_since_37 bk_99 rfl ?_
    refine v_icgt X 42 122 dX11_since_39 rfl rfl ?_ ?_
    · refine v_aload_n X 123 0 dX11_since_122 rfl rfl ?_
      refine v_getR X 126 fl_X11_19.r dX11_since_123 rfl (fun v1 => ?_)
      refine v_iload X 128 4 dX11_since_126 rfl rfl ?_
      refine v_i2l X 129 dX11_since_128 rfl ?_
      refine v_iload X 131 5 dX11_since_129 rfl rfl ?_
      refine v_i2l X 132 dX11_since_131 rfl ?_
      refine v_vV X 135 cv_X6_two ml_X11_285 (n1 := 3) rfl [.long (Int32.toInt64 x4), .long (Int32.toInt64 x5)] rfl rfl rfl dX11_since_132 rfl (fun M1 h => c_X6_two _ _ _ _ _ _ h) (fun M2 => ?_)
      refine v_iload_n X 136 3 dX11_since_135 rfl rfl ?_
      exact v_iret X Y (Nat.le_refl _) (Nat.le_refl _) dX11_since_136
    · refine v_aload_n X 43 0 dX11_since_42 rfl rfl ?_
      refine v_getR X 46 fl_X11_26.r dX11_since_43 rfl (fun v3 => ?_)
      refine v_iload_n X 47 2 dX11_since_46 rfl rfl ?_
      refine v_iload X 49 6 dX11_since_47 rfl rfl ?_
      refine v_vI X 52 cv_X9_endsInTime ml_X11_426 (n1 := 2) rfl [.int x2, .int x6] rfl rfl rfl dX11_since_49 rfl (fun r M1 h => c_X9_endsInTime _ _ _ _ _ _ _ h) (fun r5 M4 => ?_)
      refine v_ifeq X 55 72 dX11_since_52 rfl rfl ?_ ?_
      · exact L_X11_since_72 X Y ih _ _ _ _ _ _ _ _
      · refine v_aload_n X 56 0 dX11_since_55 rfl rfl ?_
        refine v_getR X 59 fl_X11_26.r dX11_since_56 rfl (fun v6 => ?_)
        refine v_iload_n X 60 2 dX11_since_59 rfl rfl ?_
        refine v_iload X 62 6 dX11_since_60 rfl rfl ?_
        refine v_vI X 65 cv_X9_isOpen ml_X11_430 (n1 := 1) rfl [.int x2, .int x6] rfl rfl rfl dX11_since_62 rfl (fun r M1 h => c_X9_isOpen _ _ _ _ _ _ _ h) (fun r8 M7 => ?_)
        refine v_ifeq X 68 72 dX11_since_65 rfl rfl ?_ ?_
        · exact L_X11_since_72 X Y ih _ _ _ _ _ _ _ _
        · refine v_iconst X 69 dX11_since_68 ik_1 rfl ?_
          refine v_goto X 73 dX11_since_69 rfl ?_
          exact L_X11_since_73 X Y ih _ _ _ _ _ _ _ _ _
set_option maxRecDepth 4000 in
theorem L_X11_since_0 {G : Gx} (X : Cb G cX11_since 8 RX11 (RM 4 0 0) false) (Y : Cr G (some .int) 0 0) (x0 : Nat) (x1 : Int32) (x2 : Int32) (M : MM) : V G trI 8 0 0 0 [(0, .ref x0), (1, .int x1), (2, .int x2)] [] M (f_X11_since_0 x0 x1 x2 M) := by
  unfold f_X11_since_0
  refine v_aload_n X 1 0 dX11_since_0 rfl rfl ?_
  refine v_getR X 4 fl_X11_26.r dX11_since_1 rfl (fun v1 => ?_)
  refine v_iload_n X 5 1 dX11_since_4 rfl rfl ?_
  refine v_vI X 8 cv_X9_hasPerson ml_X11_117 (n1 := 1) rfl [.int x1] rfl rfl rfl dX11_since_5 rfl (fun r M1 h => c_X9_hasPerson _ _ _ _ _ _ h) (fun r3 M2 => ?_)
  refine v_ifeq X 11 22 dX11_since_8 rfl rfl ?_ ?_
  · refine v_iconst X 23 dX11_since_22 ik_m1 rfl ?_
    exact v_iret X Y (Nat.le_refl _) (Nat.le_refl _) dX11_since_23
  · refine v_aload_n X 12 0 dX11_since_11 rfl rfl ?_
    refine v_getR X 15 fl_X11_26.r dX11_since_12 rfl (fun v4 => ?_)
    refine v_iload_n X 16 2 dX11_since_15 rfl rfl ?_
    refine v_vI X 19 cv_X9_hasErrand ml_X11_184 (n1 := 1) rfl [.int x2] rfl rfl rfl dX11_since_16 rfl (fun r M1 h => c_X9_hasErrand _ _ _ _ _ _ h) (fun r6 M5 => ?_)
    refine v_ifne X 22 24 dX11_since_19 rfl rfl ?_ ?_
    · refine v_iconst X 25 dX11_since_24 ik_0 rfl ?_
      refine v_istore_n (lv' := [(0, .ref x0), (1, .int x1), (2, .int x2), (3, .int (0 : Int32))]) X 26 dX11_since_25 (by decide) rfl rfl ?_
      refine v_iconst X 27 dX11_since_26 ik_m1 rfl ?_
      refine v_istore (lv' := [(0, .ref x0), (1, .int x1), (2, .int x2), (3, .int (0 : Int32)), (4, .int (-1 : Int32))]) X 29 dX11_since_27 (by decide) rfl rfl ?_
      refine v_iconst X 30 dX11_since_29 ik_m1 rfl ?_
      refine v_istore (lv' := [(0, .ref x0), (1, .int x1), (2, .int x2), (3, .int (0 : Int32)), (4, .int (-1 : Int32)), (5, .int (-1 : Int32))]) X 32 dX11_since_30 (by decide) rfl rfl ?_
      refine v_iconst X 33 dX11_since_32 ik_0 rfl ?_
      refine v_istore (lv' := [(0, .ref x0), (1, .int x1), (2, .int x2), (3, .int (0 : Int32)), (4, .int (-1 : Int32)), (5, .int (-1 : Int32)), (6, .int (0 : Int32))]) X 35 dX11_since_33 (by decide) rfl rfl ?_
      exact L_X11_since_35 X Y 1024 _ _ _ _ _ _ _ _
    · refine v_iconst X 23 dX11_since_22 ik_m1 rfl ?_
      exact v_iret X Y (Nat.le_refl _) (Nat.le_refl _) dX11_since_23
theorem c_X11_since (l : Launch) (x0 : Nat) (x1 : Int32) (x2 : Int32) (M : MM) (r : Int32) (M1 : MM) (h : f_X11_since x0 x1 x2 M = some (r, M1)) : KV l yX11_since cX11_since 8 (some .int) (RM 4 0 0) false 11 x0 [.int x1, .int x2] M (some (.int r)) M1 := by
  obtain ⟨hO, h2⟩ := iteO_some h
  exact ⟨hO, ct_of (tr := trI) (by decide) (Nat.le_of_ble_eq_true rfl) [(0, .ref x0), (1, .int x1), (2, .int x2)] rfl h2 (fun G X Y hn hl => L_X11_since_0 X Y x0 x1 x2 M)⟩

def f_X11_stayed_47 (K16 : Nat → Int32 → Int32 → Int32 → MM → Option (Int32 × MM)) (x0 : Nat) (x1 : Int32) (x3 : Int32) (s0 : Int32) (s1 : Int32) (M : MM) : Option (Int32 × MM) :=
    bn (s1 ||| s0 : Int32) fun y1 =>
    bn (x3 + 1 : Int32) fun y2 =>
    K16 x0 x1 y1 y2 M

def f_X11_stayed_16 : Nat → Nat → Int32 → Int32 → Int32 → MM → Option (Int32 × MM)
  | 0, _, _, _, _, _ => none
  | n + 1, x0, x1, x2, x3, M =>
    b1 (gR 11 2 x0 M) fun v1 =>
    b1 (gI 9 7 v1 M) fun v2 =>
    if v2 ≤ x3 then
      some (x2, M)
    else
      b1 (gR 11 10 x0 M) fun v3 =>
      b2 (f_X8_allowBench v3 x3 x1 M) fun r5 M4 =>
      if r5 = 0 then
        f_X11_stayed_47 (f_X11_stayed_16 n) x0 x1 x3 (0 : Int32) x2 M4
      else
        f_X11_stayed_47 (f_X11_stayed_16 n) x0 x1 x3 ((1 : Int32) <<< (x3 &&& 31)) x2 M4

def f_X11_stayed_0 (x0 : Nat) (x1 : Int32) (M : MM) : Option (Int32 × MM) :=
    if x1 < 0 then
      some ((-1 : Int32), M)
    else
      if x1 ≤ (99 : Int32) then
        f_X11_stayed_16 1024 x0 x1 (0 : Int32) (0 : Int32) M
      else
        some ((-1 : Int32), M)

def f_X11_stayed (x0 : Nat) (x1 : Int32) (M : MM) : Option (Int32 × MM) := if isO 11 x0 M = true then f_X11_stayed_0 x0 x1 M else none
set_option maxRecDepth 4000 in
theorem L_X11_stayed_47 {G : Gx} (X : Cb G cX11_stayed 4 RX11 (RM 3 0 0) false) (Y : Cr G (some .int) 0 0) {K16 : Nat → Int32 → Int32 → Int32 → MM → Option (Int32 × MM)} (hK16 : ∀ (x0 : Nat) (x1 : Int32) (x2 : Int32) (x3 : Int32) (M : MM), V G trI 4 0 0 16 [(0, .ref x0), (1, .int x1), (2, .int x2), (3, .int x3)] [] M (K16 x0 x1 x2 x3 M)) (x0 : Nat) (x1 : Int32) (x3 : Int32) (s0 : Int32) (s1 : Int32) (M : MM) : V G trI 4 0 0 47 [(0, .ref x0), (1, .int x1), (3, .int x3)] [.int s0, .int s1] M (f_X11_stayed_47 K16 x0 x1 x3 s0 s1 M) := by
  unfold f_X11_stayed_47
  refine v_ior X 48 dX11_stayed_47 rfl ?_
  refine v_bnI (fun y1 => ?_)
  refine v_istore_n (lv' := [(0, .ref x0), (1, .int x1), (2, .int y1), (3, .int x3)]) X 49 dX11_stayed_48 (by decide) rfl rfl ?_
  refine v_iinc X 52 3 (fun z => [(0, .ref x0), (1, .int x1), (2, .int y1), (3, .int z)]) dX11_stayed_49 rfl ik_1 (by decide) (fun _ => rfl) rfl (fun y2 => ?_)
  refine v_goto X 16 dX11_stayed_52 rfl ?_
  exact hK16 _ _ _ _ _
set_option maxRecDepth 4000 in
theorem L_X11_stayed_16 {G : Gx} (X : Cb G cX11_stayed 4 RX11 (RM 3 0 0) false) (Y : Cr G (some .int) 0 0) : ∀ (n : Nat) (x0 : Nat) (x1 : Int32) (x2 : Int32) (x3 : Int32) (M : MM), V G trI 4 0 0 16 [(0, .ref x0), (1, .int x1), (2, .int x2), (3, .int x3)] [] M (f_X11_stayed_16 n x0 x1 x2 x3 M) := by
  intro n
  induction n with
  | zero => intro x0 x1 x2 x3 M; rw [f_X11_stayed_16]; exact v_none
  | succ n ih =>
    intro x0 x1 x2 x3 M
    rw [f_X11_stayed_16]
    refine v_iload_n X 17 3 dX11_stayed_16 rfl rfl ?_
    refine v_aload_n X 18 0 dX11_stayed_17 rfl rfl ?_
    refine v_getR X 21 fl_X11_26.r dX11_stayed_18 rfl (fun v1 => ?_)
    refine v_getI X 24 fl_X11_299.r dX11_stayed_21 rfl (fun v2 => ?_)
    refine v_icge X 27 55 dX11_stayed_24 rfl rfl ?_ ?_
    · refine v_iload_n X 56 2 dX11_stayed_55 rfl rfl ?_
      exact v_iret X Y (Nat.le_refl _) (Nat.le_refl _) dX11_stayed_56
    · refine v_iload_n X 28 2 dX11_stayed_27 rfl rfl ?_
      refine v_aload_n X 29 0 dX11_stayed_28 rfl rfl ?_
      refine v_getR X 32 fl_X11_80.r dX11_stayed_29 rfl (fun v3 => ?_)
      refine v_iload_n X 33 3 dX11_stayed_32 rfl rfl ?_
      refine v_iload_n X 34 1 dX11_stayed_33 rfl rfl ?_
      refine v_vI X 37 cv_X8_allowBench ml_X11_436 (n1 := 2) rfl [.int x3, .int x1] rfl rfl rfl dX11_stayed_34 rfl (fun r M1 h => c_X8_allowBench _ _ _ _ _ _ _ h) (fun r5 M4 => ?_)
      refine v_ifeq X 40 46 dX11_stayed_37 rfl rfl ?_ ?_
      · refine v_iconst X 47 dX11_stayed_46 ik_0 rfl ?_
        exact v_sb [0, 1, 3] (L_X11_stayed_47 X Y ih _ _ _ _ _ _) rfl
      · refine v_iconst X 41 dX11_stayed_40 ik_1 rfl ?_
        refine v_iload_n X 42 3 dX11_stayed_41 rfl rfl ?_
        refine v_ishl X 43 dX11_stayed_42 rfl ?_
        refine v_goto X 47 dX11_stayed_43 rfl ?_
        exact v_sb [0, 1, 3] (L_X11_stayed_47 X Y ih _ _ _ _ _ _) rfl
set_option maxRecDepth 4000 in
theorem L_X11_stayed_0 {G : Gx} (X : Cb G cX11_stayed 4 RX11 (RM 3 0 0) false) (Y : Cr G (some .int) 0 0) (x0 : Nat) (x1 : Int32) (M : MM) : V G trI 4 0 0 0 [(0, .ref x0), (1, .int x1)] [] M (f_X11_stayed_0 x0 x1 M) := by
  unfold f_X11_stayed_0
  refine v_iload_n X 1 1 dX11_stayed_0 rfl rfl ?_
  refine v_iflt X 4 10 dX11_stayed_1 rfl rfl ?_ ?_
  · refine v_iconst X 11 dX11_stayed_10 ik_m1 rfl ?_
    exact v_iret X Y (Nat.le_refl _) (Nat.le_refl _) dX11_stayed_11
  · refine v_iload_n X 5 1 dX11_stayed_4 rfl rfl ?_
    refine v_bipush X 7 dX11_stayed_5 bk_99 rfl ?_
    refine v_icle X 10 12 dX11_stayed_7 rfl rfl ?_ ?_
    · refine v_iconst X 13 dX11_stayed_12 ik_0 rfl ?_
      refine v_istore_n (lv' := [(0, .ref x0), (1, .int x1), (2, .int (0 : Int32))]) X 14 dX11_stayed_13 (by decide) rfl rfl ?_
      refine v_iconst X 15 dX11_stayed_14 ik_0 rfl ?_
      refine v_istore_n (lv' := [(0, .ref x0), (1, .int x1), (2, .int (0 : Int32)), (3, .int (0 : Int32))]) X 16 dX11_stayed_15 (by decide) rfl rfl ?_
      exact L_X11_stayed_16 X Y 1024 _ _ _ _ _
    · refine v_iconst X 11 dX11_stayed_10 ik_m1 rfl ?_
      exact v_iret X Y (Nat.le_refl _) (Nat.le_refl _) dX11_stayed_11
theorem c_X11_stayed (l : Launch) (x0 : Nat) (x1 : Int32) (M : MM) (r : Int32) (M1 : MM) (h : f_X11_stayed x0 x1 M = some (r, M1)) : KV l yX11_stayed cX11_stayed 4 (some .int) (RM 3 0 0) false 11 x0 [.int x1] M (some (.int r)) M1 := by
  obtain ⟨hO, h2⟩ := iteO_some h
  exact ⟨hO, ct_of (tr := trI) (by decide) (Nat.le_of_ble_eq_true rfl) [(0, .ref x0), (1, .int x1)] rfl h2 (fun G X Y hn hl => L_X11_stayed_0 X Y x0 x1 M)⟩

def f_X11_tellMisses_42 (K6 : Nat → Int32 → Int32 → Int32 → MM → Option (MM)) (x0 : Nat) (x1 : Int32) (x2 : Int32) (x3 : Int32) (M : MM) : Option (MM) :=
    bn (x3 + 1 : Int32) fun y1 =>
    K6 x0 x1 x2 y1 M

def f_X11_tellMisses_6 : Nat → Nat → Int32 → Int32 → Int32 → MM → Option (MM)
  | 0, _, _, _, _, _ => none
  | n + 1, x0, x1, x2, x3, M =>
    b1 (gR 11 3 x0 M) fun v1 =>
    b1 (gI 5 1 v1 M) fun v2 =>
    if v2 ≤ x3 then
      b1 (gR 11 1 x0 M) fun v3 =>
      b1 (f_X6_two v3 (Int32.toInt64 x1) (Int32.toInt64 x2) M) fun M4 =>
      some M4
    else
      b1 (gR 11 5 x0 M) fun v5 =>
      b1 (gR 1 9 v5 M) fun v6 =>
      b1 (ldI v6 x3 M) fun v7 =>
      if v7 ≤ x2 then
        f_X11_tellMisses_42 (f_X11_tellMisses_6 n) x0 x1 x2 x3 M
      else
        b1 (gR 11 5 x0 M) fun v8 =>
        b1 (gR 1 9 v8 M) fun v9 =>
        b1 (ldI v9 x3 M) fun v10 =>
        f_X11_tellMisses_42 (f_X11_tellMisses_6 n) x0 x3 v10 x3 M

def f_X11_tellMisses_0 (x0 : Nat) (M : MM) : Option (MM) :=
    f_X11_tellMisses_6 1024 x0 (-1 : Int32) (0 : Int32) (0 : Int32) M

def f_X11_tellMisses (x0 : Nat) (M : MM) : Option (MM) := if isO 11 x0 M = true then f_X11_tellMisses_0 x0 M else none
set_option maxRecDepth 4000 in
theorem L_X11_tellMisses_42 {G : Gx} (X : Cb G cX11_tellMisses 4 RX11 (RM 4 0 0) false) (Y : Cr G none 0 0) {K6 : Nat → Int32 → Int32 → Int32 → MM → Option (MM)} (hK6 : ∀ (x0 : Nat) (x1 : Int32) (x2 : Int32) (x3 : Int32) (M : MM), V G trV 4 0 0 6 [(0, .ref x0), (1, .int x1), (2, .int x2), (3, .int x3)] [] M (K6 x0 x1 x2 x3 M)) (x0 : Nat) (x1 : Int32) (x2 : Int32) (x3 : Int32) (M : MM) : V G trV 4 0 0 42 [(0, .ref x0), (1, .int x1), (2, .int x2), (3, .int x3)] [] M (f_X11_tellMisses_42 K6 x0 x1 x2 x3 M) := by
  unfold f_X11_tellMisses_42
  refine v_iinc X 45 3 (fun z => [(0, .ref x0), (1, .int x1), (2, .int x2), (3, .int z)]) dX11_tellMisses_42 rfl ik_1 (by decide) (fun _ => rfl) rfl (fun y1 => ?_)
  refine v_goto X 6 dX11_tellMisses_45 rfl ?_
  exact hK6 _ _ _ _ _
set_option maxRecDepth 4000 in
theorem L_X11_tellMisses_6 {G : Gx} (X : Cb G cX11_tellMisses 4 RX11 (RM 4 0 0) false) (Y : Cr G none 0 0) : ∀ (n : Nat) (x0 : Nat) (x1 : Int32) (x2 : Int32) (x3 : Int32) (M : MM), V G trV 4 0 0 6 [(0, .ref x0), (1, .int x1), (2, .int x2), (3, .int x3)] [] M (f_X11_tellMisses_6 n x0 x1 x2 x3 M) := by
  intro n
  induction n with
  | zero => intro x0 x1 x2 x3 M; rw [f_X11_tellMisses_6]; exact v_none
  | succ n ih =>
    intro x0 x1 x2 x3 M
    rw [f_X11_tellMisses_6]
    refine v_iload_n X 7 3 dX11_tellMisses_6 rfl rfl ?_
    refine v_aload_n X 8 0 dX11_tellMisses_7 rfl rfl ?_
    refine v_getR X 11 fl_X11_33.r dX11_tellMisses_8 rfl (fun v1 => ?_)
    refine v_getI X 14 fl_X11_143.r dX11_tellMisses_11 rfl (fun v2 => ?_)
    refine v_icge X 17 48 dX11_tellMisses_14 rfl rfl ?_ ?_
    · refine v_aload_n X 49 0 dX11_tellMisses_48 rfl rfl ?_
      refine v_getR X 52 fl_X11_19.r dX11_tellMisses_49 rfl (fun v3 => ?_)
      refine v_iload_n X 53 1 dX11_tellMisses_52 rfl rfl ?_
      refine v_i2l X 54 dX11_tellMisses_53 rfl ?_
      refine v_iload_n X 55 2 dX11_tellMisses_54 rfl rfl ?_
      refine v_i2l X 56 dX11_tellMisses_55 rfl ?_
      refine v_vV X 59 cv_X6_two ml_X11_285 (n1 := 3) rfl [.long (Int32.toInt64 x1), .long (Int32.toInt64 x2)] rfl rfl rfl dX11_tellMisses_56 rfl (fun M1 h => c_X6_two _ _ _ _ _ _ h) (fun M4 => ?_)
      exact v_vret X Y (Nat.le_refl _) (Nat.le_refl _) dX11_tellMisses_59
    · refine v_aload_n X 18 0 dX11_tellMisses_17 rfl rfl ?_
      refine v_getR X 21 fl_X11_45.r dX11_tellMisses_18 rfl (fun v5 => ?_)
      refine v_getR X 24 fl_X11_439 dX11_tellMisses_21 rfl (fun v6 => ?_)
      refine v_iload_n X 25 3 dX11_tellMisses_24 rfl rfl ?_
      refine v_iald X 26 dX11_tellMisses_25 rfl (fun v7 => ?_)
      refine v_iload_n X 27 2 dX11_tellMisses_26 rfl rfl ?_
      refine v_icle X 30 42 dX11_tellMisses_27 rfl rfl ?_ ?_
      · exact L_X11_tellMisses_42 X Y ih _ _ _ _ _
      · refine v_iload_n X 31 3 dX11_tellMisses_30 rfl rfl ?_
        refine v_istore_n (lv' := [(0, .ref x0), (1, .int x3), (2, .int x2), (3, .int x3)]) X 32 dX11_tellMisses_31 (by decide) rfl rfl ?_
        refine v_aload_n X 33 0 dX11_tellMisses_32 rfl rfl ?_
        refine v_getR X 36 fl_X11_45.r dX11_tellMisses_33 rfl (fun v8 => ?_)
        refine v_getR X 39 fl_X11_439 dX11_tellMisses_36 rfl (fun v9 => ?_)
        refine v_iload_n X 40 3 dX11_tellMisses_39 rfl rfl ?_
        refine v_iald X 41 dX11_tellMisses_40 rfl (fun v10 => ?_)
        refine v_istore_n (lv' := [(0, .ref x0), (1, .int x3), (2, .int v10), (3, .int x3)]) X 42 dX11_tellMisses_41 (by decide) rfl rfl ?_
        exact L_X11_tellMisses_42 X Y ih _ _ _ _ _
set_option maxRecDepth 4000 in
theorem L_X11_tellMisses_0 {G : Gx} (X : Cb G cX11_tellMisses 4 RX11 (RM 4 0 0) false) (Y : Cr G none 0 0) (x0 : Nat) (M : MM) : V G trV 4 0 0 0 [(0, .ref x0)] [] M (f_X11_tellMisses_0 x0 M) := by
  unfold f_X11_tellMisses_0
  refine v_iconst X 1 dX11_tellMisses_0 ik_m1 rfl ?_
  refine v_istore_n (lv' := [(0, .ref x0), (1, .int (-1 : Int32))]) X 2 dX11_tellMisses_1 (by decide) rfl rfl ?_
  refine v_iconst X 3 dX11_tellMisses_2 ik_0 rfl ?_
  refine v_istore_n (lv' := [(0, .ref x0), (1, .int (-1 : Int32)), (2, .int (0 : Int32))]) X 4 dX11_tellMisses_3 (by decide) rfl rfl ?_
  refine v_iconst X 5 dX11_tellMisses_4 ik_0 rfl ?_
  refine v_istore_n (lv' := [(0, .ref x0), (1, .int (-1 : Int32)), (2, .int (0 : Int32)), (3, .int (0 : Int32))]) X 6 dX11_tellMisses_5 (by decide) rfl rfl ?_
  exact L_X11_tellMisses_6 X Y 1024 _ _ _ _ _
theorem c_X11_tellMisses (l : Launch) (x0 : Nat) (M : MM) (M1 : MM) (h : f_X11_tellMisses x0 M = some M1) : KV l yX11_tellMisses cX11_tellMisses 4 none (RM 4 0 0) false 11 x0 [] M none M1 := by
  obtain ⟨hO, h2⟩ := iteO_some h
  exact ⟨hO, ct_of (tr := trV) (by decide) (Nat.le_of_ble_eq_true rfl) [(0, .ref x0)] rfl h2 (fun G X Y hn hl => L_X11_tellMisses_0 X Y x0 M)⟩

def f_X11_journey_140 (K51 : Nat → Int32 → Int32 → Int32 → Int32 → Int32 → MM → Option (Int32 × MM)) (K63 : Nat → Int32 → Int32 → Int32 → Int32 → Int32 → Int32 → Int32 → MM → Option (Int32 × MM)) (x0 : Nat) (x2 : Int32) (x3 : Int32) (x4 : Int32) (x5 : Int32) (x6 : Int32) (x7 : Int32) (x8 : Int32) (M : MM) : Option (Int32 × MM) :=
    bn (x8 + 1 : Int32) fun y1 =>
    K63 x0 x2 x3 x4 x5 x6 x7 y1 M

def f_X11_journey_158 (K51 : Nat → Int32 → Int32 → Int32 → Int32 → Int32 → MM → Option (Int32 × MM)) (x0 : Nat) (x2 : Int32) (x3 : Int32) (x4 : Int32) (x6 : Int32) (s0 : Int32) (s1 : Int32) (M : MM) : Option (Int32 × MM) :=
    bn (s1 + s0 : Int32) fun y1 =>
    bn (x6 + 1 : Int32) fun y2 =>
    K51 x0 x2 x3 x4 y1 y2 M

def f_X11_journey_63 (K51 : Nat → Int32 → Int32 → Int32 → Int32 → Int32 → MM → Option (Int32 × MM)) : Nat → Nat → Int32 → Int32 → Int32 → Int32 → Int32 → Int32 → Int32 → MM → Option (Int32 × MM)
  | 0, _, _, _, _, _, _, _, _, _ => none
  | n + 1, x0, x2, x3, x4, x5, x6, x7, x8, M =>
    b1 (gR 11 3 x0 M) fun v1 =>
    b1 (gI 5 1 v1 M) fun v2 =>
    if v2 ≤ x8 then
      if x7 = 0 then
        f_X11_journey_158 K51 x0 x2 x3 x4 x6 (1 : Int32) x5 M
      else
        f_X11_journey_158 K51 x0 x2 x3 x4 x6 (0 : Int32) x5 M
    else
      b1 (gR 11 5 x0 M) fun v3 =>
      b1 (gR 1 8 v3 M) fun v4 =>
      b1 (ldI v4 x8 M) fun v5 =>
      if 0 ≤ v5 then
        bn ((x4 * (1103515245 : Int32)) + (12345 : Int32) : Int32) fun y6 =>
        b1 (remI (iush y6 (16 : Int32)) x3) fun v7 =>
        b1 (gR 11 5 x0 M) fun v8 =>
        b1 (gR 1 8 v8 M) fun v9 =>
        b1 (ldI v9 x8 M) fun v10 =>
        if v7 ≤ v10 then
          f_X11_journey_140 K51 (f_X11_journey_63 K51 n) x0 x2 x3 y6 x5 x6 x7 x8 M
        else
          b1 (gR 11 5 x0 M) fun v11 =>
          b1 (gR 1 9 v11 M) fun v12 =>
          b1 (ldI v12 x8 M) fun v13 =>
          b1 (stI v12 x8 (v13 + (1 : Int32)) M) fun M14 =>
          f_X11_journey_140 K51 (f_X11_journey_63 K51 n) x0 x2 x3 y6 x5 x6 (1 : Int32) x8 M14
      else
        f_X11_journey_140 K51 (f_X11_journey_63 K51 n) x0 x2 x3 x4 x5 x6 x7 x8 M

def f_X11_journey_51 : Nat → Nat → Int32 → Int32 → Int32 → Int32 → Int32 → MM → Option (Int32 × MM)
  | 0, _, _, _, _, _, _, _ => none
  | n + 1, x0, x2, x3, x4, x5, x6, M =>
    if x2 ≤ x6 then
      b1 (f_X11_tellMisses x0 M) fun M1 =>
      some (x5, M1)
    else
      f_X11_journey_63 (f_X11_journey_51 n) 1024 x0 x2 x3 x4 x5 x6 (0 : Int32) (0 : Int32) M

def f_X11_journey_0 (x0 : Nat) (x1 : Int32) (x2 : Int32) (x3 : Int32) (M : MM) : Option (Int32 × MM) :=
    if x2 < (1 : Int32) then
      some ((-1 : Int32), M)
    else
      if (50 : Int32) < x2 then
        some ((-1 : Int32), M)
      else
        if x3 < (1 : Int32) then
          some ((-1 : Int32), M)
        else
          if x3 ≤ (9 : Int32) then
            b1 (gR 11 5 x0 M) fun v1 =>
            b1 (f_X1_lookForSlack v1 M) fun M2 =>
            b1 (gR 11 5 x0 M2) fun v3 =>
            b1 (gR 1 9 v3 M2) fun v4 =>
            b1 (f_J7_fill_53178 v4 (0 : Int32) M2) fun M5 =>
            f_X11_journey_51 1024 x0 x2 x3 x1 (0 : Int32) (0 : Int32) M5
          else
            some ((-1 : Int32), M)

def f_X11_journey (x0 : Nat) (x1 : Int32) (x2 : Int32) (x3 : Int32) (M : MM) : Option (Int32 × MM) := if isO 11 x0 M = true then f_X11_journey_0 x0 x1 x2 x3 M else none
set_option maxRecDepth 4000 in
theorem L_X11_journey_140 {G : Gx} (X : Cb G cX11_journey 9 RX11 (RM 7 0 0) false) (Y : Cr G (some .int) 0 0) {K51 : Nat → Int32 → Int32 → Int32 → Int32 → Int32 → MM → Option (Int32 × MM)} (hK51 : ∀ (x0 : Nat) (x2 : Int32) (x3 : Int32) (x4 : Int32) (x5 : Int32) (x6 : Int32) (M : MM), V G trI 9 0 0 51 [(0, .ref x0), (2, .int x2), (3, .int x3), (4, .int x4), (5, .int x5), (6, .int x6)] [] M (K51 x0 x2 x3 x4 x5 x6 M)) {K63 : Nat → Int32 → Int32 → Int32 → Int32 → Int32 → Int32 → Int32 → MM → Option (Int32 × MM)} (hK63 : ∀ (x0 : Nat) (x2 : Int32) (x3 : Int32) (x4 : Int32) (x5 : Int32) (x6 : Int32) (x7 : Int32) (x8 : Int32) (M : MM), V G trI 9 0 0 63 [(0, .ref x0), (2, .int x2), (3, .int x3), (4, .int x4), (5, .int x5), (6, .int x6), (7, .int x7), (8, .int x8)] [] M (K63 x0 x2 x3 x4 x5 x6 x7 x8 M)) (x0 : Nat) (x2 : Int32) (x3 : Int32) (x4 : Int32) (x5 : Int32) (x6 : Int32) (x7 : Int32) (x8 : Int32) (M : MM) : V G trI 9 0 0 140 [(0, .ref x0), (2, .int x2), (3, .int x3), (4, .int x4), (5, .int x5), (6, .int x6), (7, .int x7), (8, .int x8)] [] M (f_X11_journey_140 K51 K63 x0 x2 x3 x4 x5 x6 x7 x8 M) := by
  unfold f_X11_journey_140
  refine v_iinc X 143 7 (fun z => [(0, .ref x0), (2, .int x2), (3, .int x3), (4, .int x4), (5, .int x5), (6, .int x6), (7, .int x7), (8, .int z)]) dX11_journey_140 rfl ik_1 (by decide) (fun _ => rfl) rfl (fun y1 => ?_)
  refine v_goto X 63 dX11_journey_143 rfl ?_
  exact hK63 _ _ _ _ _ _ _ _ _
set_option maxRecDepth 4000 in
theorem L_X11_journey_158 {G : Gx} (X : Cb G cX11_journey 9 RX11 (RM 7 0 0) false) (Y : Cr G (some .int) 0 0) {K51 : Nat → Int32 → Int32 → Int32 → Int32 → Int32 → MM → Option (Int32 × MM)} (hK51 : ∀ (x0 : Nat) (x2 : Int32) (x3 : Int32) (x4 : Int32) (x5 : Int32) (x6 : Int32) (M : MM), V G trI 9 0 0 51 [(0, .ref x0), (2, .int x2), (3, .int x3), (4, .int x4), (5, .int x5), (6, .int x6)] [] M (K51 x0 x2 x3 x4 x5 x6 M)) (x0 : Nat) (x2 : Int32) (x3 : Int32) (x4 : Int32) (x6 : Int32) (s0 : Int32) (s1 : Int32) (M : MM) : V G trI 9 0 0 158 [(0, .ref x0), (2, .int x2), (3, .int x3), (4, .int x4), (6, .int x6)] [.int s0, .int s1] M (f_X11_journey_158 K51 x0 x2 x3 x4 x6 s0 s1 M) := by
  unfold f_X11_journey_158
  refine v_iadd X 159 dX11_journey_158 rfl ?_
  refine v_bnI (fun y1 => ?_)
  refine v_istore (lv' := [(0, .ref x0), (2, .int x2), (3, .int x3), (4, .int x4), (5, .int y1), (6, .int x6)]) X 161 dX11_journey_159 (by decide) rfl rfl ?_
  refine v_iinc X 164 5 (fun z => [(0, .ref x0), (2, .int x2), (3, .int x3), (4, .int x4), (5, .int y1), (6, .int z)]) dX11_journey_161 rfl ik_1 (by decide) (fun _ => rfl) rfl (fun y2 => ?_)
  refine v_goto X 51 dX11_journey_164 rfl ?_
  exact hK51 _ _ _ _ _ _ _
set_option maxRecDepth 4000 in
theorem L_X11_journey_63 {G : Gx} (X : Cb G cX11_journey 9 RX11 (RM 7 0 0) false) (Y : Cr G (some .int) 0 0) {K51 : Nat → Int32 → Int32 → Int32 → Int32 → Int32 → MM → Option (Int32 × MM)} (hK51 : ∀ (x0 : Nat) (x2 : Int32) (x3 : Int32) (x4 : Int32) (x5 : Int32) (x6 : Int32) (M : MM), V G trI 9 0 0 51 [(0, .ref x0), (2, .int x2), (3, .int x3), (4, .int x4), (5, .int x5), (6, .int x6)] [] M (K51 x0 x2 x3 x4 x5 x6 M)) : ∀ (n : Nat) (x0 : Nat) (x2 : Int32) (x3 : Int32) (x4 : Int32) (x5 : Int32) (x6 : Int32) (x7 : Int32) (x8 : Int32) (M : MM), V G trI 9 0 0 63 [(0, .ref x0), (2, .int x2), (3, .int x3), (4, .int x4), (5, .int x5), (6, .int x6), (7, .int x7), (8, .int x8)] [] M (f_X11_journey_63 K51 n x0 x2 x3 x4 x5 x6 x7 x8 M) := by
  intro n
  induction n with
  | zero => intro x0 x2 x3 x4 x5 x6 x7 x8 M; rw [f_X11_journey_63]; exact v_none
  | succ n ih =>
    intro x0 x2 x3 x4 x5 x6 x7 x8 M
    rw [f_X11_journey_63]
    refine v_iload X 65 7 dX11_journey_63 rfl rfl ?_
    refine v_aload_n X 66 0 dX11_journey_65 rfl rfl ?_
    refine v_getR X 69 fl_X11_33.r dX11_journey_66 rfl (fun v1 => ?_)
    refine v_getI X 72 fl_X11_143.r dX11_journey_69 rfl (fun v2 => ?_)
    refine v_icge X 75 146 dX11_journey_72 rfl rfl ?_ ?_
    · refine v_iload X 148 4 dX11_journey_146 rfl rfl ?_
      refine v_iload X 150 6 dX11_journey_148 rfl rfl ?_
      refine v_ifeq X 153 157 dX11_journey_150 rfl rfl ?_ ?_
      · refine v_iconst X 158 dX11_journey_157 ik_1 rfl ?_
        exact v_sb [0, 1, 2, 3, 5] (L_X11_journey_158 X Y hK51 _ _ _ _ _ _ _ _) rfl
      · refine v_iconst X 154 dX11_journey_153 ik_0 rfl ?_
        refine v_goto X 158 dX11_journey_154 rfl ?_
        exact v_sb [0, 1, 2, 3, 5] (L_X11_journey_158 X Y hK51 _ _ _ _ _ _ _ _) rfl
    · refine v_aload_n X 76 0 dX11_journey_75 rfl rfl ?_
      refine v_getR X 79 fl_X11_45.r dX11_journey_76 rfl (fun v3 => ?_)
      refine v_getR X 82 fl_X11_410 dX11_journey_79 rfl (fun v4 => ?_)
      refine v_iload X 84 7 dX11_journey_82 rfl rfl ?_
      refine v_iald X 85 dX11_journey_84 rfl (fun v5 => ?_)
      refine v_ifge X 88 91 dX11_journey_85 rfl rfl ?_ ?_
      · refine v_iload X 93 3 dX11_journey_91 rfl rfl ?_
        refine v_ldcw X 96 dX11_journey_93 kc_X11_448 rfl ?_
        refine v_imul X 97 dX11_journey_96 rfl ?_
        refine v_sipush X 100 dX11_journey_97 sk_12345 rfl ?_
        refine v_iadd X 101 dX11_journey_100 rfl ?_
        refine v_bnI (fun y6 => ?_)
        refine v_istore (lv' := [(0, .ref x0), (2, .int x2), (3, .int x3), (4, .int y6), (5, .int x5), (6, .int x6), (7, .int x7), (8, .int x8)]) X 103 dX11_journey_101 (by decide) rfl rfl ?_
        refine v_iload X 105 3 dX11_journey_103 rfl rfl ?_
        refine v_bipush X 107 dX11_journey_105 bk_16 rfl ?_
        refine v_iushr X 108 dX11_journey_107 rfl ?_
        refine v_iload_n X 109 2 dX11_journey_108 rfl rfl ?_
        refine v_irem X 110 dX11_journey_109 rfl (fun v7 => ?_)
        refine v_aload_n X 111 0 dX11_journey_110 rfl rfl ?_
        refine v_getR X 114 fl_X11_45.r dX11_journey_111 rfl (fun v8 => ?_)
        refine v_getR X 117 fl_X11_410 dX11_journey_114 rfl (fun v9 => ?_)
        refine v_iload X 119 7 dX11_journey_117 rfl rfl ?_
        refine v_iald X 120 dX11_journey_119 rfl (fun v10 => ?_)
        refine v_icle X 123 140 dX11_journey_120 rfl rfl ?_ ?_
        · exact L_X11_journey_140 X Y hK51 ih _ _ _ _ _ _ _ _ _
        · refine v_aload_n X 124 0 dX11_journey_123 rfl rfl ?_
          refine v_getR X 127 fl_X11_45.r dX11_journey_124 rfl (fun v11 => ?_)
          refine v_getR X 130 fl_X11_439 dX11_journey_127 rfl (fun v12 => ?_)
          refine v_iload X 132 7 dX11_journey_130 rfl rfl ?_
          refine v_dup2 X 133 dX11_journey_132 rfl rfl rfl ?_
          refine v_iald X 134 dX11_journey_133 rfl (fun v13 => ?_)
          refine v_iconst X 135 dX11_journey_134 ik_1 rfl ?_
          refine v_iadd X 136 dX11_journey_135 rfl ?_
          refine v_iast X 137 dX11_journey_136 rfl (fun M14 => ?_)
          refine v_iconst X 138 dX11_journey_137 ik_1 rfl ?_
          refine v_istore (lv' := [(0, .ref x0), (2, .int x2), (3, .int x3), (4, .int y6), (5, .int x5), (6, .int x6), (7, .int (1 : Int32)), (8, .int x8)]) X 140 dX11_journey_138 (by decide) rfl rfl ?_
          exact L_X11_journey_140 X Y hK51 ih _ _ _ _ _ _ _ _ _
      · refine v_goto X 140 dX11_journey_88 rfl ?_
        exact L_X11_journey_140 X Y hK51 ih _ _ _ _ _ _ _ _ _
set_option maxRecDepth 4000 in
theorem L_X11_journey_51 {G : Gx} (X : Cb G cX11_journey 9 RX11 (RM 7 0 0) false) (Y : Cr G (some .int) 0 0) : ∀ (n : Nat) (x0 : Nat) (x2 : Int32) (x3 : Int32) (x4 : Int32) (x5 : Int32) (x6 : Int32) (M : MM), V G trI 9 0 0 51 [(0, .ref x0), (2, .int x2), (3, .int x3), (4, .int x4), (5, .int x5), (6, .int x6)] [] M (f_X11_journey_51 n x0 x2 x3 x4 x5 x6 M) := by
  intro n
  induction n with
  | zero => intro x0 x2 x3 x4 x5 x6 M; rw [f_X11_journey_51]; exact v_none
  | succ n ih =>
    intro x0 x2 x3 x4 x5 x6 M
    rw [f_X11_journey_51]
    refine v_iload X 53 5 dX11_journey_51 rfl rfl ?_
    refine v_iload_n X 54 1 dX11_journey_53 rfl rfl ?_
    refine v_icge X 57 167 dX11_journey_54 rfl rfl ?_ ?_
    · refine v_aload_n X 168 0 dX11_journey_167 rfl rfl ?_
      refine v_vV X 171 cv_X11_tellMisses ml_X11_449 (n1 := 4) rfl [] rfl rfl rfl dX11_journey_168 rfl (fun M1 h => c_X11_tellMisses _ _ _ _ h) (fun M1 => ?_)
      refine v_iload X 173 4 dX11_journey_171 rfl rfl ?_
      exact v_iret X Y (Nat.le_refl _) (Nat.le_refl _) dX11_journey_173
    · refine v_iconst X 58 dX11_journey_57 ik_0 rfl ?_
      refine v_istore (lv' := [(0, .ref x0), (2, .int x2), (3, .int x3), (4, .int x4), (5, .int x5), (6, .int x6), (7, .int (0 : Int32))]) X 60 dX11_journey_58 (by decide) rfl rfl ?_
      refine v_iconst X 61 dX11_journey_60 ik_0 rfl ?_
      refine v_istore (lv' := [(0, .ref x0), (2, .int x2), (3, .int x3), (4, .int x4), (5, .int x5), (6, .int x6), (7, .int (0 : Int32)), (8, .int (0 : Int32))]) X 63 dX11_journey_61 (by decide) rfl rfl ?_
      exact L_X11_journey_63 X Y ih 1024 _ _ _ _ _ _ _ _ _
set_option maxRecDepth 4000 in
theorem L_X11_journey_0 {G : Gx} (X : Cb G cX11_journey 9 RX11 (RM 7 0 0) false) (Y : Cr G (some .int) 0 0) (x0 : Nat) (x1 : Int32) (x2 : Int32) (x3 : Int32) (M : MM) : V G trI 9 0 0 0 [(0, .ref x0), (1, .int x1), (2, .int x2), (3, .int x3)] [] M (f_X11_journey_0 x0 x1 x2 x3 M) := by
  unfold f_X11_journey_0
  refine v_iload_n X 1 2 dX11_journey_0 rfl rfl ?_
  refine v_iconst X 2 dX11_journey_1 ik_1 rfl ?_
  refine v_iclt X 5 22 dX11_journey_2 rfl rfl ?_ ?_
  · refine v_iconst X 23 dX11_journey_22 ik_m1 rfl ?_
    exact v_iret X Y (Nat.le_refl _) (Nat.le_refl _) dX11_journey_23
  · refine v_iload_n X 6 2 dX11_journey_5 rfl rfl ?_
    refine v_bipush X 8 dX11_journey_6 bk_50 rfl ?_
    refine v_icgt X 11 22 dX11_journey_8 rfl rfl ?_ ?_
    · refine v_iconst X 23 dX11_journey_22 ik_m1 rfl ?_
      exact v_iret X Y (Nat.le_refl _) (Nat.le_refl _) dX11_journey_23
    · refine v_iload_n X 12 3 dX11_journey_11 rfl rfl ?_
      refine v_iconst X 13 dX11_journey_12 ik_1 rfl ?_
      refine v_iclt X 16 22 dX11_journey_13 rfl rfl ?_ ?_
      · refine v_iconst X 23 dX11_journey_22 ik_m1 rfl ?_
        exact v_iret X Y (Nat.le_refl _) (Nat.le_refl _) dX11_journey_23
      · refine v_iload_n X 17 3 dX11_journey_16 rfl rfl ?_
        refine v_bipush X 19 dX11_journey_17 bk_9 rfl ?_
        refine v_icle X 22 24 dX11_journey_19 rfl rfl ?_ ?_
        · refine v_aload_n X 25 0 dX11_journey_24 rfl rfl ?_
          refine v_getR X 28 fl_X11_45.r dX11_journey_25 rfl (fun v1 => ?_)
          refine v_vV X 31 cv_X1_lookForSlack ml_X11_407 (n1 := 6) rfl [] rfl rfl rfl dX11_journey_28 rfl (fun M1 h => c_X1_lookForSlack _ _ _ _ h) (fun M2 => ?_)
          refine v_aload_n X 32 0 dX11_journey_31 rfl rfl ?_
          refine v_getR X 35 fl_X11_45.r dX11_journey_32 rfl (fun v3 => ?_)
          refine v_getR X 38 fl_X11_439 dX11_journey_35 rfl (fun v4 => ?_)
          refine v_iconst X 39 dX11_journey_38 ik_0 rfl ?_
          refine v_sV X 42 cs_J7_fill_53178 ml_X11_442 (n1 := 1) rfl [.ref v4, .int (0 : Int32)] rfl rfl rfl dX11_journey_39 rfl (fun M1 h => c_J7_fill_53178 _ _ _ _ _ h) (fun M5 => ?_)
          refine v_iload_n X 43 1 dX11_journey_42 rfl rfl ?_
          refine v_istore (lv' := [(0, .ref x0), (1, .int x1), (2, .int x2), (3, .int x3), (4, .int x1)]) X 45 dX11_journey_43 (by decide) rfl rfl ?_
          refine v_iconst X 46 dX11_journey_45 ik_0 rfl ?_
          refine v_istore (lv' := [(0, .ref x0), (1, .int x1), (2, .int x2), (3, .int x3), (4, .int x1), (5, .int (0 : Int32))]) X 48 dX11_journey_46 (by decide) rfl rfl ?_
          refine v_iconst X 49 dX11_journey_48 ik_0 rfl ?_
          refine v_istore (lv' := [(0, .ref x0), (1, .int x1), (2, .int x2), (3, .int x3), (4, .int x1), (5, .int (0 : Int32)), (6, .int (0 : Int32))]) X 51 dX11_journey_49 (by decide) rfl rfl ?_
          exact v_sb [0, 2, 3, 4, 5, 6] (L_X11_journey_51 X Y 1024 _ _ _ _ _ _ _) rfl
        · refine v_iconst X 23 dX11_journey_22 ik_m1 rfl ?_
          exact v_iret X Y (Nat.le_refl _) (Nat.le_refl _) dX11_journey_23
theorem c_X11_journey (l : Launch) (x0 : Nat) (x1 : Int32) (x2 : Int32) (x3 : Int32) (M : MM) (r : Int32) (M1 : MM) (h : f_X11_journey x0 x1 x2 x3 M = some (r, M1)) : KV l yX11_journey cX11_journey 9 (some .int) (RM 7 0 0) false 11 x0 [.int x1, .int x2, .int x3] M (some (.int r)) M1 := by
  obtain ⟨hO, h2⟩ := iteO_some h
  exact ⟨hO, ct_of (tr := trI) (by decide) (Nat.le_of_ble_eq_true rfl) [(0, .ref x0), (1, .int x1), (2, .int x2), (3, .int x3)] rfl h2 (fun G X Y hn hl => L_X11_journey_0 X Y x0 x1 x2 x3 M)⟩

def f_X11_keep_0 (x0 : Nat) (x1 : Int32) (M : MM) : Option (Int32 × MM) :=
    b1 (gR 11 9 x0 M) fun v1 =>
    b1 (gR 11 3 x0 M) fun v2 =>
    b1 (gR 11 2 x0 M) fun v3 =>
    b2 (f_X4_store v1 x1 v2 v3 M) fun r5 M4 =>
    rz r5 M4

def f_X11_keep (x0 : Nat) (x1 : Int32) (M : MM) : Option (Int32 × MM) := if isO 11 x0 M = true then f_X11_keep_0 x0 x1 M else none
set_option maxRecDepth 4000 in
theorem L_X11_keep_0 {G : Gx} (X : Cb G cX11_keep 2 RX11 (RM 3 0 0) false) (Y : Cr G (some .boolean) 0 0) (x0 : Nat) (x1 : Int32) (M : MM) : V G trI 2 0 0 0 [(0, .ref x0), (1, .int x1)] [] M (f_X11_keep_0 x0 x1 M) := by
  unfold f_X11_keep_0
  refine v_aload_n X 1 0 dX11_keep_0 rfl rfl ?_
  refine v_getR X 4 fl_X11_71.r dX11_keep_1 rfl (fun v1 => ?_)
  refine v_iload_n X 5 1 dX11_keep_4 rfl rfl ?_
  refine v_aload_n X 6 0 dX11_keep_5 rfl rfl ?_
  refine v_getR X 9 fl_X11_33.r dX11_keep_6 rfl (fun v2 => ?_)
  refine v_aload_n X 10 0 dX11_keep_9 rfl rfl ?_
  refine v_getR X 13 fl_X11_26.r dX11_keep_10 rfl (fun v3 => ?_)
  refine v_vI X 16 cv_X4_store ml_X11_452 (n1 := 2) rfl [.int x1, .ref v2, .ref v3] rfl rfl rfl dX11_keep_13 rfl (fun r M1 h => c_X4_store _ _ _ _ _ _ _ _ h) (fun r5 M4 => ?_)
  exact v_zret X Y (Nat.le_refl _) (Nat.le_refl _) dX11_keep_16
theorem c_X11_keep (l : Launch) (x0 : Nat) (x1 : Int32) (M : MM) (r : Int32) (M1 : MM) (h : f_X11_keep x0 x1 M = some (r, M1)) : KV l yX11_keep cX11_keep 2 (some .boolean) (RM 3 0 0) false 11 x0 [.int x1] M (some (.int r)) M1 := by
  obtain ⟨hO, h2⟩ := iteO_some h
  exact ⟨hO, ct_of (tr := trI) (by decide) (Nat.le_of_ble_eq_true rfl) [(0, .ref x0), (1, .int x1)] rfl h2 (fun G X Y hn hl => L_X11_keep_0 X Y x0 x1 M)⟩

def f_X11_again_0 (x0 : Nat) (x1 : Int32) (M : MM) : Option (Int32 × MM) :=
    b1 (gR 11 9 x0 M) fun v1 =>
    b1 (gR 11 3 x0 M) fun v2 =>
    b1 (gR 11 2 x0 M) fun v3 =>
    b2 (f_X4_fetch v1 x1 v2 v3 M) fun r5 M4 =>
    if r5 = 0 then
      rz (0 : Int32) M4
    else
      b1 (gR 11 9 x0 M4) fun v6 =>
      b1 (f_X4_drop v6 M4) fun M7 =>
      rz (1 : Int32) M7

def f_X11_again (x0 : Nat) (x1 : Int32) (M : MM) : Option (Int32 × MM) := if isO 11 x0 M = true then f_X11_again_0 x0 x1 M else none
set_option maxRecDepth 4000 in
theorem L_X11_again_0 {G : Gx} (X : Cb G cX11_again 2 RX11 (RM 3 0 0) false) (Y : Cr G (some .boolean) 0 0) (x0 : Nat) (x1 : Int32) (M : MM) : V G trI 2 0 0 0 [(0, .ref x0), (1, .int x1)] [] M (f_X11_again_0 x0 x1 M) := by
  unfold f_X11_again_0
  refine v_aload_n X 1 0 dX11_again_0 rfl rfl ?_
  refine v_getR X 4 fl_X11_71.r dX11_again_1 rfl (fun v1 => ?_)
  refine v_iload_n X 5 1 dX11_again_4 rfl rfl ?_
  refine v_aload_n X 6 0 dX11_again_5 rfl rfl ?_
  refine v_getR X 9 fl_X11_33.r dX11_again_6 rfl (fun v2 => ?_)
  refine v_aload_n X 10 0 dX11_again_9 rfl rfl ?_
  refine v_getR X 13 fl_X11_26.r dX11_again_10 rfl (fun v3 => ?_)
  refine v_vI X 16 cv_X4_fetch ml_X11_456 (n1 := 2) rfl [.int x1, .ref v2, .ref v3] rfl rfl rfl dX11_again_13 rfl (fun r M1 h => c_X4_fetch _ _ _ _ _ _ _ _ h) (fun r5 M4 => ?_)
  refine v_ifne X 19 21 dX11_again_16 rfl rfl ?_ ?_
  · refine v_aload_n X 22 0 dX11_again_21 rfl rfl ?_
    refine v_getR X 25 fl_X11_71.r dX11_again_22 rfl (fun v6 => ?_)
    refine v_vV X 28 cv_X4_drop ml_X11_110 (n1 := 1) rfl [] rfl rfl rfl dX11_again_25 rfl (fun M1 h => c_X4_drop _ _ _ _ h) (fun M7 => ?_)
    refine v_iconst X 29 dX11_again_28 ik_1 rfl ?_
    exact v_zret X Y (Nat.le_refl _) (Nat.le_refl _) dX11_again_29
  · refine v_iconst X 20 dX11_again_19 ik_0 rfl ?_
    exact v_zret X Y (Nat.le_refl _) (Nat.le_refl _) dX11_again_20
theorem c_X11_again (l : Launch) (x0 : Nat) (x1 : Int32) (M : MM) (r : Int32) (M1 : MM) (h : f_X11_again x0 x1 M = some (r, M1)) : KV l yX11_again cX11_again 2 (some .boolean) (RM 3 0 0) false 11 x0 [.int x1] M (some (.int r)) M1 := by
  obtain ⟨hO, h2⟩ := iteO_some h
  exact ⟨hO, ct_of (tr := trI) (by decide) (Nat.le_of_ble_eq_true rfl) [(0, .ref x0), (1, .int x1)] rfl h2 (fun G X Y hn hl => L_X11_again_0 X Y x0 x1 M)⟩

def f_X11_count_0 (x0 : Nat) (x1 : Int32) (M : MM) : Option (Int32 × MM) :=
    if x1 = 0 then
      b1 (gR 11 2 x0 M) fun v1 =>
      b1 (gI 9 7 v1 M) fun v2 =>
      some (v2, M)
    else
    if x1 = 1 then
      b1 (gR 11 2 x0 M) fun v3 =>
      b1 (gI 9 8 v3 M) fun v4 =>
      some (v4, M)
    else
    if x1 = 2 then
      b1 (gR 11 2 x0 M) fun v5 =>
      b1 (gI 9 9 v5 M) fun v6 =>
      some (v6, M)
    else
    if x1 = 3 then
      b1 (gR 11 3 x0 M) fun v7 =>
      b1 (gI 5 1 v7 M) fun v8 =>
      some (v8, M)
    else
    if x1 = 4 then
      b1 (gR 11 2 x0 M) fun v9 =>
      b2 (f_X9_shyOnes v9 M) fun r11 M10 =>
      some (r11, M10)
    else
    if x1 = 5 then
      b1 (gR 11 9 x0 M) fun v12 =>
      b1 (gI 4 4 v12 M) fun v13 =>
      some (v13, M)
    else
    if x1 = 6 then
      b1 (gR 11 10 x0 M) fun v14 =>
      b1 (gI 8 4 v14 M) fun v15 =>
      some (v15, M)
    else
    if x1 = 7 then
      b1 (gR 11 1 x0 M) fun v16 =>
      b1 (gI 6 1 v16 M) fun v17 =>
      some (v17, M)
    else
    if x1 = 8 then
      b1 (gR 11 0 x0 M) fun v18 =>
      b1 (gI 10 1 v18 M) fun v19 =>
      some (v19, M)
    else
      some ((-100 : Int32), M)

def f_X11_count (x0 : Nat) (x1 : Int32) (M : MM) : Option (Int32 × MM) := if isO 11 x0 M = true then f_X11_count_0 x0 x1 M else none
set_option maxRecDepth 4000 in
theorem L_X11_count_0 {G : Gx} (X : Cb G cX11_count 2 RX11 (RM 2 0 0) false) (Y : Cr G (some .int) 0 0) (x0 : Nat) (x1 : Int32) (M : MM) : V G trI 2 0 0 0 [(0, .ref x0), (1, .int x1)] [] M (f_X11_count_0 x0 x1 M) := by
  unfold f_X11_count_0
  refine v_iload_n X 1 1 dX11_count_0 rfl rfl ?_
  refine v_ite (fun e => ?_) (fun e0 => ?_)
  · refine v_tabIn X 52 dX11_count_1 e rfl ?_
    refine v_aload_n X 53 0 dX11_count_52 rfl rfl ?_
    refine v_getR X 56 fl_X11_26.r dX11_count_53 rfl (fun v1 => ?_)
    refine v_getI X 59 fl_X11_299.r dX11_count_56 rfl (fun v2 => ?_)
    exact v_iret X Y (Nat.le_refl _) (Nat.le_refl _) dX11_count_59
  refine v_ite (fun e => ?_) (fun e1 => ?_)
  · refine v_tabIn X 60 dX11_count_1 e rfl ?_
    refine v_aload_n X 61 0 dX11_count_60 rfl rfl ?_
    refine v_getR X 64 fl_X11_26.r dX11_count_61 rfl (fun v3 => ?_)
    refine v_getI X 67 fl_X11_120.r dX11_count_64 rfl (fun v4 => ?_)
    exact v_iret X Y (Nat.le_refl _) (Nat.le_refl _) dX11_count_67
  refine v_ite (fun e => ?_) (fun e2 => ?_)
  · refine v_tabIn X 68 dX11_count_1 e rfl ?_
    refine v_aload_n X 69 0 dX11_count_68 rfl rfl ?_
    refine v_getR X 72 fl_X11_26.r dX11_count_69 rfl (fun v5 => ?_)
    refine v_getI X 75 fl_X11_172.r dX11_count_72 rfl (fun v6 => ?_)
    exact v_iret X Y (Nat.le_refl _) (Nat.le_refl _) dX11_count_75
  refine v_ite (fun e => ?_) (fun e3 => ?_)
  · refine v_tabIn X 76 dX11_count_1 e rfl ?_
    refine v_aload_n X 77 0 dX11_count_76 rfl rfl ?_
    refine v_getR X 80 fl_X11_33.r dX11_count_77 rfl (fun v7 => ?_)
    refine v_getI X 83 fl_X11_143.r dX11_count_80 rfl (fun v8 => ?_)
    exact v_iret X Y (Nat.le_refl _) (Nat.le_refl _) dX11_count_83
  refine v_ite (fun e => ?_) (fun e4 => ?_)
  · refine v_tabIn X 84 dX11_count_1 e rfl ?_
    refine v_aload_n X 85 0 dX11_count_84 rfl rfl ?_
    refine v_getR X 88 fl_X11_26.r dX11_count_85 rfl (fun v9 => ?_)
    refine v_vI X 91 cv_X9_shyOnes ml_X11_459 (n1 := 1) rfl [] rfl rfl rfl dX11_count_88 rfl (fun r M1 h => c_X9_shyOnes _ _ _ _ _ h) (fun r11 M10 => ?_)
    exact v_iret X Y (Nat.le_refl _) (Nat.le_refl _) dX11_count_91
  refine v_ite (fun e => ?_) (fun e5 => ?_)
  · refine v_tabIn X 92 dX11_count_1 e rfl ?_
    refine v_aload_n X 93 0 dX11_count_92 rfl rfl ?_
    refine v_getR X 96 fl_X11_71.r dX11_count_93 rfl (fun v12 => ?_)
    refine v_getI X 99 fl_X11_293.r dX11_count_96 rfl (fun v13 => ?_)
    exact v_iret X Y (Nat.le_refl _) (Nat.le_refl _) dX11_count_99
  refine v_ite (fun e => ?_) (fun e6 => ?_)
  · refine v_tabIn X 100 dX11_count_1 e rfl ?_
    refine v_aload_n X 101 0 dX11_count_100 rfl rfl ?_
    refine v_getR X 104 fl_X11_80.r dX11_count_101 rfl (fun v14 => ?_)
    refine v_getI X 107 fl_X11_421.r dX11_count_104 rfl (fun v15 => ?_)
    exact v_iret X Y (Nat.le_refl _) (Nat.le_refl _) dX11_count_107
  refine v_ite (fun e => ?_) (fun e7 => ?_)
  · refine v_tabIn X 108 dX11_count_1 e rfl ?_
    refine v_aload_n X 109 0 dX11_count_108 rfl rfl ?_
    refine v_getR X 112 fl_X11_19.r dX11_count_109 rfl (fun v16 => ?_)
    refine v_getI X 115 fl_X11_462.r dX11_count_112 rfl (fun v17 => ?_)
    exact v_iret X Y (Nat.le_refl _) (Nat.le_refl _) dX11_count_115
  refine v_ite (fun e => ?_) (fun e8 => ?_)
  · refine v_tabIn X 116 dX11_count_1 e rfl ?_
    refine v_aload_n X 117 0 dX11_count_116 rfl rfl ?_
    refine v_getR X 120 fl_X11_10.r dX11_count_117 rfl (fun v18 => ?_)
    refine v_getI X 123 fl_X11_99.r dX11_count_120 rfl (fun v19 => ?_)
    exact v_iret X Y (Nat.le_refl _) (Nat.le_refl _) dX11_count_123
  refine v_tabOut X 124 dX11_count_1 [0, 1, 2, 3, 4, 5, 6, 7, 8] ⟨e0, e1, e2, e3, e4, e5, e6, e7, e8, trivial⟩ rfl rfl ?_
  refine v_bipush X 126 dX11_count_124 bk_m100 rfl ?_
  exact v_iret X Y (Nat.le_refl _) (Nat.le_refl _) dX11_count_126
theorem c_X11_count (l : Launch) (x0 : Nat) (x1 : Int32) (M : MM) (r : Int32) (M1 : MM) (h : f_X11_count x0 x1 M = some (r, M1)) : KV l yX11_count cX11_count 2 (some .int) (RM 2 0 0) false 11 x0 [.int x1] M (some (.int r)) M1 := by
  obtain ⟨hO, h2⟩ := iteO_some h
  exact ⟨hO, ct_of (tr := trI) (by decide) (Nat.le_of_ble_eq_true rfl) [(0, .ref x0), (1, .int x1)] rfl h2 (fun G X Y hn hl => L_X11_count_0 X Y x0 x1 M)⟩

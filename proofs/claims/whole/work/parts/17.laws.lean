def f_X1_lookAtBags_100 (K27 : Nat → Int32 → MM → Option (MM)) (K69 : Nat → Int32 → Int32 → MM → Option (MM)) (x0 : Nat) (x1 : Int32) (x2 : Int32) (M : MM) : Option (MM) :=
    bn (x2 + 1 : Int32) fun y1 =>
    K69 x0 x1 y1 M

def f_X1_lookAtBags_69 (K27 : Nat → Int32 → MM → Option (MM)) : Nat → Nat → Int32 → Int32 → MM → Option (MM)
  | 0, _, _, _, _ => none
  | n + 1, x0, x1, x2, M =>
    b1 (gR 1 0 x0 M) fun v1 =>
    b1 (gI 9 7 v1 M) fun v2 =>
    if v2 ≤ x2 then
      b1 (gR 1 5 x0 M) fun v3 =>
      b1 (gR 1 2 x0 M) fun v4 =>
      b1 (ldR 23 v4 x1 M) fun v5 =>
      b1 (f_X2_keepOnly v3 v5 M) fun M6 =>
      bn (x1 + 1 : Int32) fun y7 =>
      K27 x0 y7 M6
    else
      if x2 = x1 then
        f_X1_lookAtBags_100 K27 (f_X1_lookAtBags_69 K27 n) x0 x1 x2 M
      else
        b1 (gR 1 6 x0 M) fun v8 =>
        b1 (ldR 23 v8 x1 M) fun v9 =>
        b1 (gR 1 2 x0 M) fun v10 =>
        b1 (ldR 23 v10 x2 M) fun v11 =>
        b1 (f_X2_keepOnly v9 v11 M) fun M12 =>
        f_X1_lookAtBags_100 K27 (f_X1_lookAtBags_69 K27 n) x0 x1 x2 M12

def f_X1_lookAtBags_27 : Nat → Nat → Int32 → MM → Option (MM)
  | 0, _, _, _ => none
  | n + 1, x0, x1, M =>
    b1 (gR 1 0 x0 M) fun v1 =>
    b1 (gI 9 7 v1 M) fun v2 =>
    if v2 ≤ x1 then
      some M
    else
      b1 (gR 1 6 x0 M) fun v3 =>
      b1 (ldR 23 v3 x1 M) fun v4 =>
      b1 (gR 1 0 x0 M) fun v5 =>
      b1 (gI 9 9 v5 M) fun v6 =>
      b1 (f_X2_fillTo v4 v6 M) fun M7 =>
      b1 (gR 1 6 x0 M7) fun v8 =>
      b1 (ldR 23 v8 x1 M7) fun v9 =>
      b1 (gR 1 7 x0 M7) fun v10 =>
      b1 (f_X2_without v9 v10 M7) fun M11 =>
      f_X1_lookAtBags_69 (f_X1_lookAtBags_27 n) 1024 x0 x1 (0 : Int32) M11

def f_X1_lookAtBags_0 (x0 : Nat) (M : MM) : Option (MM) :=
    b1 (gR 1 5 x0 M) fun v1 =>
    b1 (gR 1 0 x0 M) fun v2 =>
    b1 (gI 9 9 v2 M) fun v3 =>
    b1 (f_X2_fillTo v1 v3 M) fun M4 =>
    b1 (gR 1 5 x0 M4) fun v5 =>
    b1 (gR 1 7 x0 M4) fun v6 =>
    b1 (f_X2_without v5 v6 M4) fun M7 =>
    f_X1_lookAtBags_27 1024 x0 (0 : Int32) M7

def f_X1_lookAtBags (x0 : Nat) (M : MM) : Option (MM) := if isO 1 x0 M = true then f_X1_lookAtBags_0 x0 M else none
set_option maxRecDepth 4000 in
theorem L_X1_lookAtBags_100 {G : Gx} (X : Cb G cX1_lookAtBags 3 RX1 (RM 2 0 0) false) (Y : Cr G none 0 0) {K27 : Nat → Int32 → MM → Option (MM)} (hK27 : ∀ (x0 : Nat) (x1 : Int32) (M : MM), V G trV 3 0 0 27 [(0, .ref x0), (1, .int x1)] [] M (K27 x0 x1 M)) {K69 : Nat → Int32 → Int32 → MM → Option (MM)} (hK69 : ∀ (x0 : Nat) (x1 : Int32) (x2 : Int32) (M : MM), V G trV 3 0 0 69 [(0, .ref x0), (1, .int x1), (2, .int x2)] [] M (K69 x0 x1 x2 M)) (x0 : Nat) (x1 : Int32) (x2 : Int32) (M : MM) : V G trV 3 0 0 100 [(0, .ref x0), (1, .int x1), (2, .int x2)] [] M (f_X1_lookAtBags_100 K27 K69 x0 x1 x2 M) := by
  unfold f_X1_lookAtBags_100
  refine v_iinc X 103 2 (fun z => [(0, .ref x0), (1, .int x1), (2, .int z)]) dX1_lookAtBags_100 rfl ik_1 (by decide) (fun _ => rfl) rfl (fun y1 => ?_)
  refine v_goto X 69 dX1_lookAtBags_103 rfl ?_
  exact hK69 _ _ _ _
set_option maxRecDepth 4000 in
theorem L_X1_lookAtBags_69 {G : Gx} (X : Cb G cX1_lookAtBags 3 RX1 (RM 2 0 0) false) (Y : Cr G none 0 0) {K27 : Nat → Int32 → MM → Option (MM)} (hK27 : ∀ (x0 : Nat) (x1 : Int32) (M : MM), V G trV 3 0 0 27 [(0, .ref x0), (1, .int x1)] [] M (K27 x0 x1 M)) : ∀ (n : Nat) (x0 : Nat) (x1 : Int32) (x2 : Int32) (M : MM), V G trV 3 0 0 69 [(0, .ref x0), (1, .int x1), (2, .int x2)] [] M (f_X1_lookAtBags_69 K27 n x0 x1 x2 M) := by
  intro n
  induction n with
  | zero => intro x0 x1 x2 M; rw [f_X1_lookAtBags_69]; exact v_none
  | succ n ih =>
    intro x0 x1 x2 M
    rw [f_X1_lookAtBags_69]
    refine v_iload_n X 70 2 dX1_lookAtBags_69 rfl rfl ?_
    refine v_aload_n X 71 0 dX1_lookAtBags_70 rfl rfl ?_
    refine v_getR X 74 fl_X1_45.r dX1_lookAtBags_71 rfl (fun v1 => ?_)
    refine v_getI X 77 fl_X1_56.r dX1_lookAtBags_74 rfl (fun v2 => ?_)
    refine v_icge X 80 106 dX1_lookAtBags_77 rfl rfl ?_ ?_
    · refine v_aload_n X 107 0 dX1_lookAtBags_106 rfl rfl ?_
      refine v_getR X 110 fl_X1_26.r dX1_lookAtBags_107 rfl (fun v3 => ?_)
      refine v_aload_n X 111 0 dX1_lookAtBags_110 rfl rfl ?_
      refine v_getR X 114 fl_X1_13.r dX1_lookAtBags_111 rfl (fun v4 => ?_)
      refine v_iload_n X 115 1 dX1_lookAtBags_114 rfl rfl ?_
      refine v_aald23 X 116 dX1_lookAtBags_115 rfl (fun v5 => ?_)
      refine v_vV X 119 cv_X2_keepOnly ml_X1_107 (n1 := 1) rfl [.ref v5] rfl rfl rfl dX1_lookAtBags_116 rfl (fun M1 h => c_X2_keepOnly _ _ _ _ _ h) (fun M6 => ?_)
      refine v_iinc X 122 1 (fun z => [(0, .ref x0), (1, .int z), (2, .int x2)]) dX1_lookAtBags_119 rfl ik_1 (by decide) (fun _ => rfl) rfl (fun y7 => ?_)
      refine v_goto X 27 dX1_lookAtBags_122 rfl ?_
      exact v_sb [0, 1] (hK27 _ _ _) rfl
    · refine v_iload_n X 81 2 dX1_lookAtBags_80 rfl rfl ?_
      refine v_iload_n X 82 1 dX1_lookAtBags_81 rfl rfl ?_
      refine v_iceq X 85 100 dX1_lookAtBags_82 rfl rfl ?_ ?_
      · exact L_X1_lookAtBags_100 X Y hK27 ih _ _ _ _
      · refine v_aload_n X 86 0 dX1_lookAtBags_85 rfl rfl ?_
        refine v_getR X 89 fl_X1_30.r dX1_lookAtBags_86 rfl (fun v8 => ?_)
        refine v_iload_n X 90 1 dX1_lookAtBags_89 rfl rfl ?_
        refine v_aald23 X 91 dX1_lookAtBags_90 rfl (fun v9 => ?_)
        refine v_aload_n X 92 0 dX1_lookAtBags_91 rfl rfl ?_
        refine v_getR X 95 fl_X1_13.r dX1_lookAtBags_92 rfl (fun v10 => ?_)
        refine v_iload_n X 96 2 dX1_lookAtBags_95 rfl rfl ?_
        refine v_aald23 X 97 dX1_lookAtBags_96 rfl (fun v11 => ?_)
        refine v_vV X 100 cv_X2_keepOnly ml_X1_107 (n1 := 1) rfl [.ref v11] rfl rfl rfl dX1_lookAtBags_97 rfl (fun M1 h => c_X2_keepOnly _ _ _ _ _ h) (fun M12 => ?_)
        exact L_X1_lookAtBags_100 X Y hK27 ih _ _ _ _
set_option maxRecDepth 4000 in
theorem L_X1_lookAtBags_27 {G : Gx} (X : Cb G cX1_lookAtBags 3 RX1 (RM 2 0 0) false) (Y : Cr G none 0 0) : ∀ (n : Nat) (x0 : Nat) (x1 : Int32) (M : MM), V G trV 3 0 0 27 [(0, .ref x0), (1, .int x1)] [] M (f_X1_lookAtBags_27 n x0 x1 M) := by
  intro n
  induction n with
  | zero => intro x0 x1 M; rw [f_X1_lookAtBags_27]; exact v_none
  | succ n ih =>
    intro x0 x1 M
    rw [f_X1_lookAtBags_27]
    refine v_iload_n X 28 1 dX1_lookAtBags_27 rfl rfl ?_
    refine v_aload_n X 29 0 dX1_lookAtBags_28 rfl rfl ?_
    refine v_getR X 32 fl_X1_45.r dX1_lookAtBags_29 rfl (fun v1 => ?_)
    refine v_getI X 35 fl_X1_56.r dX1_lookAtBags_32 rfl (fun v2 => ?_)
    refine v_icge X 38 125 dX1_lookAtBags_35 rfl rfl ?_ ?_
    · exact v_vret X Y (Nat.le_refl _) (Nat.le_refl _) dX1_lookAtBags_125
    · refine v_aload_n X 39 0 dX1_lookAtBags_38 rfl rfl ?_
      refine v_getR X 42 fl_X1_30.r dX1_lookAtBags_39 rfl (fun v3 => ?_)
      refine v_iload_n X 43 1 dX1_lookAtBags_42 rfl rfl ?_
      refine v_aald23 X 44 dX1_lookAtBags_43 rfl (fun v4 => ?_)
      refine v_aload_n X 45 0 dX1_lookAtBags_44 rfl rfl ?_
      refine v_getR X 48 fl_X1_45.r dX1_lookAtBags_45 rfl (fun v5 => ?_)
      refine v_getI X 51 fl_X1_97.r dX1_lookAtBags_48 rfl (fun v6 => ?_)
      refine v_vV X 54 cv_X2_fillTo ml_X1_100 (n1 := 1) rfl [.int v6] rfl rfl rfl dX1_lookAtBags_51 rfl (fun M1 h => c_X2_fillTo _ _ _ _ _ h) (fun M7 => ?_)
      refine v_aload_n X 55 0 dX1_lookAtBags_54 rfl rfl ?_
      refine v_getR X 58 fl_X1_30.r dX1_lookAtBags_55 rfl (fun v8 => ?_)
      refine v_iload_n X 59 1 dX1_lookAtBags_58 rfl rfl ?_
      refine v_aald23 X 60 dX1_lookAtBags_59 rfl (fun v9 => ?_)
      refine v_aload_n X 61 0 dX1_lookAtBags_60 rfl rfl ?_
      refine v_getR X 64 fl_X1_33.r dX1_lookAtBags_61 rfl (fun v10 => ?_)
      refine v_vV X 67 cv_X2_without ml_X1_104 (n1 := 1) rfl [.ref v10] rfl rfl rfl dX1_lookAtBags_64 rfl (fun M1 h => c_X2_without _ _ _ _ _ h) (fun M11 => ?_)
      refine v_iconst X 68 dX1_lookAtBags_67 ik_0 rfl ?_
      refine v_istore_n (lv' := [(0, .ref x0), (1, .int x1), (2, .int (0 : Int32))]) X 69 dX1_lookAtBags_68 (by decide) rfl rfl ?_
      exact L_X1_lookAtBags_69 X Y ih 1024 _ _ _ _
set_option maxRecDepth 4000 in
theorem L_X1_lookAtBags_0 {G : Gx} (X : Cb G cX1_lookAtBags 3 RX1 (RM 2 0 0) false) (Y : Cr G none 0 0) (x0 : Nat) (M : MM) : V G trV 3 0 0 0 [(0, .ref x0)] [] M (f_X1_lookAtBags_0 x0 M) := by
  unfold f_X1_lookAtBags_0
  refine v_aload_n X 1 0 dX1_lookAtBags_0 rfl rfl ?_
  refine v_getR X 4 fl_X1_26.r dX1_lookAtBags_1 rfl (fun v1 => ?_)
  refine v_aload_n X 5 0 dX1_lookAtBags_4 rfl rfl ?_
  refine v_getR X 8 fl_X1_45.r dX1_lookAtBags_5 rfl (fun v2 => ?_)
  refine v_getI X 11 fl_X1_97.r dX1_lookAtBags_8 rfl (fun v3 => ?_)
  refine v_vV X 14 cv_X2_fillTo ml_X1_100 (n1 := 1) rfl [.int v3] rfl rfl rfl dX1_lookAtBags_11 rfl (fun M1 h => c_X2_fillTo _ _ _ _ _ h) (fun M4 => ?_)
  refine v_aload_n X 15 0 dX1_lookAtBags_14 rfl rfl ?_
  refine v_getR X 18 fl_X1_26.r dX1_lookAtBags_15 rfl (fun v5 => ?_)
  refine v_aload_n X 19 0 dX1_lookAtBags_18 rfl rfl ?_
  refine v_getR X 22 fl_X1_33.r dX1_lookAtBags_19 rfl (fun v6 => ?_)
  refine v_vV X 25 cv_X2_without ml_X1_104 (n1 := 1) rfl [.ref v6] rfl rfl rfl dX1_lookAtBags_22 rfl (fun M1 h => c_X2_without _ _ _ _ _ h) (fun M7 => ?_)
  refine v_iconst X 26 dX1_lookAtBags_25 ik_0 rfl ?_
  refine v_istore_n (lv' := [(0, .ref x0), (1, .int (0 : Int32))]) X 27 dX1_lookAtBags_26 (by decide) rfl rfl ?_
  exact L_X1_lookAtBags_27 X Y 1024 _ _ _
theorem c_X1_lookAtBags (l : Launch) (x0 : Nat) (M : MM) (M1 : MM) (h : f_X1_lookAtBags x0 M = some M1) : KV l yX1_lookAtBags cX1_lookAtBags 3 none (RM 2 0 0) false 1 x0 [] M none M1 := by
  obtain ⟨hO, h2⟩ := iteO_some h
  exact ⟨hO, ct_of (tr := trV) (by decide) (Nat.le_of_ble_eq_true rfl) [(0, .ref x0)] rfl h2 (fun G X Y hn hl => L_X1_lookAtBags_0 X Y x0 M)⟩

def f_X1_look_198 (K55 : Nat → Int32 → MM → Option (MM)) (x0 : Nat) (x1 : Int32) (M : MM) : Option (MM) :=
    bn (x1 + 1 : Int32) fun y1 =>
    K55 x0 y1 M

def f_X1_look_55 : Nat → Nat → Int32 → MM → Option (MM)
  | 0, _, _, _ => none
  | n + 1, x0, x1, M =>
    b1 (gR 1 1 x0 M) fun v1 =>
    b1 (gI 5 1 v1 M) fun v2 =>
    if v2 ≤ x1 then
      b1 (f_X1_lookAtBags x0 M) fun M3 =>
      some M3
    else
      b1 (gR 1 1 x0 M) fun v4 =>
      b2 (f_X5_who v4 x1 M) fun r6 M5 =>
      b1 (gR 1 1 x0 M5) fun v7 =>
      b2 (f_X5_what v7 x1 M5) fun r9 M8 =>
      b1 (gR 1 1 x0 M8) fun v10 =>
      b2 (f_X5_first v10 x1 M8) fun r12 M11 =>
      b1 (gR 1 2 x0 M11) fun v13 =>
      b1 (ldR 23 v13 r6 M11) fun v14 =>
      b1 (gR 1 0 x0 M11) fun v15 =>
      b2 (f_X9_length v15 r9 M11) fun r17 M16 =>
      b1 (f_X2_add v14 r12 r17 M16) fun M18 =>
      b1 (gR 1 3 x0 M18) fun v19 =>
      b1 (ldR 23 v19 r6 M18) fun v20 =>
      b1 (gR 1 0 x0 M18) fun v21 =>
      b1 (gR 9 1 v21 M18) fun v22 =>
      b1 (ldI v22 r9 M18) fun v23 =>
      b1 (gR 1 0 x0 M18) fun v24 =>
      b1 (gR 9 2 v24 M18) fun v25 =>
      b1 (ldI v25 r9 M18) fun v26 =>
      b1 (f_X2_add v20 (r12 + v23) v26 M18) fun M27 =>
      b1 (gR 1 0 x0 M27) fun v28 =>
      b1 (gR 9 6 v28 M27) fun v29 =>
      b1 (ldZ v29 r9 M27) fun v30 =>
      if v30 = 0 then
        f_X1_look_198 (f_X1_look_55 n) x0 x1 M27
      else
        b1 (gR 1 4 x0 M27) fun v31 =>
        b1 (ldR 23 v31 r6 M27) fun v32 =>
        b1 (gR 1 0 x0 M27) fun v33 =>
        b1 (gR 9 1 v33 M27) fun v34 =>
        b1 (ldI v34 r9 M27) fun v35 =>
        b1 (gR 1 0 x0 M27) fun v36 =>
        b1 (gR 9 2 v36 M27) fun v37 =>
        b1 (ldI v37 r9 M27) fun v38 =>
        b1 (f_X2_add v32 (r12 + v35) v38 M27) fun M39 =>
        b1 (gR 1 7 x0 M39) fun v40 =>
        b1 (gR 1 4 x0 M39) fun v41 =>
        b1 (ldR 23 v41 r6 M39) fun v42 =>
        b1 (f_X2_join v40 v42 M39) fun M43 =>
        f_X1_look_198 (f_X1_look_55 n) x0 x1 M43

def f_X1_look_9 : Nat → Nat → Int32 → MM → Option (MM)
  | 0, _, _, _ => none
  | n + 1, x0, x1, M =>
    b1 (gR 1 0 x0 M) fun v1 =>
    b1 (gI 9 7 v1 M) fun v2 =>
    if v2 ≤ x1 then
      f_X1_look_55 1024 x0 (0 : Int32) M
    else
      b1 (gR 1 2 x0 M) fun v3 =>
      b1 (ldR 23 v3 x1 M) fun v4 =>
      b1 (f_X2_clear v4 M) fun M5 =>
      b1 (gR 1 3 x0 M5) fun v6 =>
      b1 (ldR 23 v6 x1 M5) fun v7 =>
      b1 (f_X2_clear v7 M5) fun M8 =>
      b1 (gR 1 4 x0 M8) fun v9 =>
      b1 (ldR 23 v9 x1 M8) fun v10 =>
      b1 (f_X2_clear v10 M8) fun M11 =>
      bn (x1 + 1 : Int32) fun y12 =>
      f_X1_look_9 n x0 y12 M11

def f_X1_look_0 (x0 : Nat) (M : MM) : Option (MM) :=
    b1 (gR 1 7 x0 M) fun v1 =>
    b1 (f_X2_clear v1 M) fun M2 =>
    f_X1_look_9 1024 x0 (0 : Int32) M2

def f_X1_look (x0 : Nat) (M : MM) : Option (MM) := if isO 1 x0 M = true then f_X1_look_0 x0 M else none
set_option maxRecDepth 4000 in
theorem L_X1_look_198 {G : Gx} (X : Cb G cX1_look 5 RX1 (RM 3 0 0) false) (Y : Cr G none 0 0) {K55 : Nat → Int32 → MM → Option (MM)} (hK55 : ∀ (x0 : Nat) (x1 : Int32) (M : MM), V G trV 5 0 0 55 [(0, .ref x0), (1, .int x1)] [] M (K55 x0 x1 M)) (x0 : Nat) (x1 : Int32) (M : MM) : V G trV 5 0 0 198 [(0, .ref x0), (1, .int x1)] [] M (f_X1_look_198 K55 x0 x1 M) := by
  unfold f_X1_look_198
  refine v_iinc X 201 1 (fun z => [(0, .ref x0), (1, .int z)]) dX1_look_198 rfl ik_1 (by decide) (fun _ => rfl) rfl (fun y1 => ?_)
  refine v_goto X 55 dX1_look_201 rfl ?_
  exact hK55 _ _ _
set_option maxRecDepth 4000 in
theorem L_X1_look_55 {G : Gx} (X : Cb G cX1_look 5 RX1 (RM 3 0 0) false) (Y : Cr G none 0 0) : ∀ (n : Nat) (x0 : Nat) (x1 : Int32) (M : MM), V G trV 5 0 0 55 [(0, .ref x0), (1, .int x1)] [] M (f_X1_look_55 n x0 x1 M) := by
  intro n
  induction n with
  | zero => intro x0 x1 M; rw [f_X1_look_55]; exact v_none
  | succ n ih =>
    intro x0 x1 M
    rw [f_X1_look_55]
    refine v_iload_n X 56 1 dX1_look_55 rfl rfl ?_
    refine v_aload_n X 57 0 dX1_look_56 rfl rfl ?_
    refine v_getR X 60 fl_X1_49.r dX1_look_57 rfl (fun v1 => ?_)
    refine v_getI X 63 fl_X1_60.r dX1_look_60 rfl (fun v2 => ?_)
    refine v_icge X 66 204 dX1_look_63 rfl rfl ?_ ?_
    · refine v_aload_n X 205 0 dX1_look_204 rfl rfl ?_
      refine v_vV X 208 cv_X1_lookAtBags ml_X1_94 (n1 := 2) rfl [] rfl rfl rfl dX1_look_205 rfl (fun M1 h => c_X1_lookAtBags _ _ _ _ h) (fun M3 => ?_)
      exact v_vret X Y (Nat.le_refl _) (Nat.le_refl _) dX1_look_208
    · refine v_aload_n X 67 0 dX1_look_66 rfl rfl ?_
      refine v_getR X 70 fl_X1_49.r dX1_look_67 rfl (fun v4 => ?_)
      refine v_iload_n X 71 1 dX1_look_70 rfl rfl ?_
      refine v_vI X 74 cv_X5_who ml_X1_63 (n1 := 1) rfl [.int x1] rfl rfl rfl dX1_look_71 rfl (fun r M1 h => c_X5_who _ _ _ _ _ _ h) (fun r6 M5 => ?_)
      refine v_istore_n (lv' := [(0, .ref x0), (1, .int x1), (2, .int r6)]) X 75 dX1_look_74 (by decide) rfl rfl ?_
      refine v_aload_n X 76 0 dX1_look_75 rfl rfl ?_
      refine v_getR X 79 fl_X1_49.r dX1_look_76 rfl (fun v7 => ?_)
      refine v_iload_n X 80 1 dX1_look_79 rfl rfl ?_
      refine v_vI X 83 cv_X5_what ml_X1_67 (n1 := 1) rfl [.int x1] rfl rfl rfl dX1_look_80 rfl (fun r M1 h => c_X5_what _ _ _ _ _ _ h) (fun r9 M8 => ?_)
      refine v_istore_n (lv' := [(0, .ref x0), (1, .int x1), (2, .int r6), (3, .int r9)]) X 84 dX1_look_83 (by decide) rfl rfl ?_
      refine v_aload_n X 85 0 dX1_look_84 rfl rfl ?_
      refine v_getR X 88 fl_X1_49.r dX1_look_85 rfl (fun v10 => ?_)
      refine v_iload_n X 89 1 dX1_look_88 rfl rfl ?_
      refine v_vI X 92 cv_X5_first ml_X1_70 (n1 := 1) rfl [.int x1] rfl rfl rfl dX1_look_89 rfl (fun r M1 h => c_X5_first _ _ _ _ _ _ h) (fun r12 M11 => ?_)
      refine v_istore (lv' := [(0, .ref x0), (1, .int x1), (2, .int r6), (3, .int r9), (4, .int r12)]) X 94 dX1_look_92 (by decide) rfl rfl ?_
      refine v_aload_n X 95 0 dX1_look_94 rfl rfl ?_
      refine v_getR X 98 fl_X1_13.r dX1_look_95 rfl (fun v13 => ?_)
      refine v_iload_n X 99 2 dX1_look_98 rfl rfl ?_
      refine v_aald23 X 100 dX1_look_99 rfl (fun v14 => ?_)
      refine v_iload X 102 4 dX1_look_100 rfl rfl ?_
      refine v_aload_n X 103 0 dX1_look_102 rfl rfl ?_
      refine v_getR X 106 fl_X1_45.r dX1_look_103 rfl (fun v15 => ?_)
      refine v_iload_n X 107 3 dX1_look_106 rfl rfl ?_
      refine v_vI X 110 cv_X9_length ml_X1_73 (n1 := 1) rfl [.int r9] rfl rfl rfl dX1_look_107 rfl (fun r M1 h => c_X9_length _ _ _ _ _ _ h) (fun r17 M16 => ?_)
      refine v_vV X 113 cv_X2_add ml_X1_76 (n1 := 1) rfl [.int r12, .int r17] rfl rfl rfl dX1_look_110 rfl (fun M1 h => c_X2_add _ _ _ _ _ _ h) (fun M18 => ?_)
      refine v_aload_n X 114 0 dX1_look_113 rfl rfl ?_
      refine v_getR X 117 fl_X1_19.r dX1_look_114 rfl (fun v19 => ?_)
      refine v_iload_n X 118 2 dX1_look_117 rfl rfl ?_
      refine v_aald23 X 119 dX1_look_118 rfl (fun v20 => ?_)
      refine v_iload X 121 4 dX1_look_119 rfl rfl ?_
      refine v_aload_n X 122 0 dX1_look_121 rfl rfl ?_
      refine v_getR X 125 fl_X1_45.r dX1_look_122 rfl (fun v21 => ?_)
      refine v_getR X 128 fl_X1_80 dX1_look_125 rfl (fun v22 => ?_)
      refine v_iload_n X 129 3 dX1_look_128 rfl rfl ?_
      refine v_iald X 130 dX1_look_129 rfl (fun v23 => ?_)
      refine v_iadd X 131 dX1_look_130 rfl ?_
      refine v_aload_n X 132 0 dX1_look_131 rfl rfl ?_
      refine v_getR X 135 fl_X1_45.r dX1_look_132 rfl (fun v24 => ?_)
      refine v_getR X 138 fl_X1_83 dX1_look_135 rfl (fun v25 => ?_)
      refine v_iload_n X 139 3 dX1_look_138 rfl rfl ?_
      refine v_iald X 140 dX1_look_139 rfl (fun v26 => ?_)
      refine v_vV X 143 cv_X2_add ml_X1_76 (n1 := 1) rfl [.int (r12 + v23), .int v26] rfl rfl rfl dX1_look_140 rfl (fun M1 h => c_X2_add _ _ _ _ _ _ h) (fun M27 => ?_)
      refine v_aload_n X 144 0 dX1_look_143 rfl rfl ?_
      refine v_getR X 147 fl_X1_45.r dX1_look_144 rfl (fun v28 => ?_)
      refine v_getR X 150 fl_X1_86 dX1_look_147 rfl (fun v29 => ?_)
      refine v_iload_n X 151 3 dX1_look_150 rfl rfl ?_
      refine v_zald X 152 dX1_look_151 rfl (fun v30 => ?_)
      refine v_ifeq X 155 198 dX1_look_152 rfl rfl ?_ ?_
      · exact v_sb [0, 1] (L_X1_look_198 X Y ih _ _ _) rfl
      · refine v_aload_n X 156 0 dX1_look_155 rfl rfl ?_
        refine v_getR X 159 fl_X1_22.r dX1_look_156 rfl (fun v31 => ?_)
        refine v_iload_n X 160 2 dX1_look_159 rfl rfl ?_
        refine v_aald23 X 161 dX1_look_160 rfl (fun v32 => ?_)
        refine v_iload X 163 4 dX1_look_161 rfl rfl ?_
        refine v_aload_n X 164 0 dX1_look_163 rfl rfl ?_
        refine v_getR X 167 fl_X1_45.r dX1_look_164 rfl (fun v33 => ?_)
        refine v_getR X 170 fl_X1_80 dX1_look_167 rfl (fun v34 => ?_)
        refine v_iload_n X 171 3 dX1_look_170 rfl rfl ?_
        refine v_iald X 172 dX1_look_171 rfl (fun v35 => ?_)
        refine v_iadd X 173 dX1_look_172 rfl ?_
        refine v_aload_n X 174 0 dX1_look_173 rfl rfl ?_
        refine v_getR X 177 fl_X1_45.r dX1_look_174 rfl (fun v36 => ?_)
        refine v_getR X 180 fl_X1_83 dX1_look_177 rfl (fun v37 => ?_)
        refine v_iload_n X 181 3 dX1_look_180 rfl rfl ?_
        refine v_iald X 182 dX1_look_181 rfl (fun v38 => ?_)
        refine v_vV X 185 cv_X2_add ml_X1_76 (n1 := 1) rfl [.int (r12 + v35), .int v38] rfl rfl rfl dX1_look_182 rfl (fun M1 h => c_X2_add _ _ _ _ _ _ h) (fun M39 => ?_)
        refine v_aload_n X 186 0 dX1_look_185 rfl rfl ?_
        refine v_getR X 189 fl_X1_33.r dX1_look_186 rfl (fun v40 => ?_)
        refine v_aload_n X 190 0 dX1_look_189 rfl rfl ?_
        refine v_getR X 193 fl_X1_22.r dX1_look_190 rfl (fun v41 => ?_)
        refine v_iload_n X 194 2 dX1_look_193 rfl rfl ?_
        refine v_aald23 X 195 dX1_look_194 rfl (fun v42 => ?_)
        refine v_vV X 198 cv_X2_join ml_X1_90 (n1 := 1) rfl [.ref v42] rfl rfl rfl dX1_look_195 rfl (fun M1 h => c_X2_join _ _ _ _ _ h) (fun M43 => ?_)
        exact v_sb [0, 1] (L_X1_look_198 X Y ih _ _ _) rfl
set_option maxRecDepth 4000 in
theorem L_X1_look_9 {G : Gx} (X : Cb G cX1_look 5 RX1 (RM 3 0 0) false) (Y : Cr G none 0 0) : ∀ (n : Nat) (x0 : Nat) (x1 : Int32) (M : MM), V G trV 5 0 0 9 [(0, .ref x0), (1, .int x1)] [] M (f_X1_look_9 n x0 x1 M) := by
  intro n
  induction n with
  | zero => intro x0 x1 M; rw [f_X1_look_9]; exact v_none
  | succ n ih =>
    intro x0 x1 M
    rw [f_X1_look_9]
    refine v_iload_n X 10 1 dX1_look_9 rfl rfl ?_
    refine v_aload_n X 11 0 dX1_look_10 rfl rfl ?_
    refine v_getR X 14 fl_X1_45.r dX1_look_11 rfl (fun v1 => ?_)
    refine v_getI X 17 fl_X1_56.r dX1_look_14 rfl (fun v2 => ?_)
    refine v_icge X 20 53 dX1_look_17 rfl rfl ?_ ?_
    · refine v_iconst X 54 dX1_look_53 ik_0 rfl ?_
      refine v_istore_n (lv' := [(0, .ref x0), (1, .int (0 : Int32))]) X 55 dX1_look_54 (by decide) rfl rfl ?_
      exact L_X1_look_55 X Y 1024 _ _ _
    · refine v_aload_n X 21 0 dX1_look_20 rfl rfl ?_
      refine v_getR X 24 fl_X1_13.r dX1_look_21 rfl (fun v3 => ?_)
      refine v_iload_n X 25 1 dX1_look_24 rfl rfl ?_
      refine v_aald23 X 26 dX1_look_25 rfl (fun v4 => ?_)
      refine v_vV X 29 cv_X2_clear ml_X1_53 (n1 := 1) rfl [] rfl rfl rfl dX1_look_26 rfl (fun M1 h => c_X2_clear _ _ _ _ h) (fun M5 => ?_)
      refine v_aload_n X 30 0 dX1_look_29 rfl rfl ?_
      refine v_getR X 33 fl_X1_19.r dX1_look_30 rfl (fun v6 => ?_)
      refine v_iload_n X 34 1 dX1_look_33 rfl rfl ?_
      refine v_aald23 X 35 dX1_look_34 rfl (fun v7 => ?_)
      refine v_vV X 38 cv_X2_clear ml_X1_53 (n1 := 1) rfl [] rfl rfl rfl dX1_look_35 rfl (fun M1 h => c_X2_clear _ _ _ _ h) (fun M8 => ?_)
      refine v_aload_n X 39 0 dX1_look_38 rfl rfl ?_
      refine v_getR X 42 fl_X1_22.r dX1_look_39 rfl (fun v9 => ?_)
      refine v_iload_n X 43 1 dX1_look_42 rfl rfl ?_
      refine v_aald23 X 44 dX1_look_43 rfl (fun v10 => ?_)
      refine v_vV X 47 cv_X2_clear ml_X1_53 (n1 := 1) rfl [] rfl rfl rfl dX1_look_44 rfl (fun M1 h => c_X2_clear _ _ _ _ h) (fun M11 => ?_)
      refine v_iinc X 50 1 (fun z => [(0, .ref x0), (1, .int z)]) dX1_look_47 rfl ik_1 (by decide) (fun _ => rfl) rfl (fun y12 => ?_)
      refine v_goto X 9 dX1_look_50 rfl ?_
      exact ih _ _ _
set_option maxRecDepth 4000 in
theorem L_X1_look_0 {G : Gx} (X : Cb G cX1_look 5 RX1 (RM 3 0 0) false) (Y : Cr G none 0 0) (x0 : Nat) (M : MM) : V G trV 5 0 0 0 [(0, .ref x0)] [] M (f_X1_look_0 x0 M) := by
  unfold f_X1_look_0
  refine v_aload_n X 1 0 dX1_look_0 rfl rfl ?_
  refine v_getR X 4 fl_X1_33.r dX1_look_1 rfl (fun v1 => ?_)
  refine v_vV X 7 cv_X2_clear ml_X1_53 (n1 := 1) rfl [] rfl rfl rfl dX1_look_4 rfl (fun M1 h => c_X2_clear _ _ _ _ h) (fun M2 => ?_)
  refine v_iconst X 8 dX1_look_7 ik_0 rfl ?_
  refine v_istore_n (lv' := [(0, .ref x0), (1, .int (0 : Int32))]) X 9 dX1_look_8 (by decide) rfl rfl ?_
  exact L_X1_look_9 X Y 1024 _ _ _
theorem c_X1_look (l : Launch) (x0 : Nat) (M : MM) (M1 : MM) (h : f_X1_look x0 M = some M1) : KV l yX1_look cX1_look 5 none (RM 3 0 0) false 1 x0 [] M none M1 := by
  obtain ⟨hO, h2⟩ := iteO_some h
  exact ⟨hO, ct_of (tr := trV) (by decide) (Nat.le_of_ble_eq_true rfl) [(0, .ref x0)] rfl h2 (fun G X Y hn hl => L_X1_look_0 X Y x0 M)⟩

def f_X1_benchIn_36 (K4 : Nat → Int32 → Int32 → Int32 → MM → Option (Int32 × MM)) (x0 : Nat) (x1 : Int32) (x3 : Int32) (s0 : Int32) (s1 : Int32) (M : MM) : Option (Int32 × MM) :=
    bn (s1 ||| s0 : Int32) fun y1 =>
    bn (x3 + 1 : Int32) fun y2 =>
    K4 x0 x1 y1 y2 M

def f_X1_benchIn_4 : Nat → Nat → Int32 → Int32 → Int32 → MM → Option (Int32 × MM)
  | 0, _, _, _, _, _ => none
  | n + 1, x0, x1, x2, x3, M =>
    b1 (gR 1 0 x0 M) fun v1 =>
    b1 (gI 9 7 v1 M) fun v2 =>
    if v2 ≤ x3 then
      some (x2, M)
    else
      b1 (gR 1 2 x0 M) fun v3 =>
      b1 (ldR 23 v3 x3 M) fun v4 =>
      b2 (f_X2_has v4 x1 M) fun r6 M5 =>
      if r6 = 0 then
        f_X1_benchIn_36 (f_X1_benchIn_4 n) x0 x1 x3 ((1 : Int32) <<< (x3 &&& 31)) x2 M5
      else
        f_X1_benchIn_36 (f_X1_benchIn_4 n) x0 x1 x3 (0 : Int32) x2 M5

def f_X1_benchIn_0 (x0 : Nat) (x1 : Int32) (M : MM) : Option (Int32 × MM) :=
    f_X1_benchIn_4 1024 x0 x1 (0 : Int32) (0 : Int32) M

def f_X1_benchIn (x0 : Nat) (x1 : Int32) (M : MM) : Option (Int32 × MM) := if isO 1 x0 M = true then f_X1_benchIn_0 x0 x1 M else none
set_option maxRecDepth 4000 in
theorem L_X1_benchIn_36 {G : Gx} (X : Cb G cX1_benchIn 4 RX1 (RM 2 0 0) false) (Y : Cr G (some .int) 0 0) {K4 : Nat → Int32 → Int32 → Int32 → MM → Option (Int32 × MM)} (hK4 : ∀ (x0 : Nat) (x1 : Int32) (x2 : Int32) (x3 : Int32) (M : MM), V G trI 4 0 0 4 [(0, .ref x0), (1, .int x1), (2, .int x2), (3, .int x3)] [] M (K4 x0 x1 x2 x3 M)) (x0 : Nat) (x1 : Int32) (x3 : Int32) (s0 : Int32) (s1 : Int32) (M : MM) : V G trI 4 0 0 36 [(0, .ref x0), (1, .int x1), (3, .int x3)] [.int s0, .int s1] M (f_X1_benchIn_36 K4 x0 x1 x3 s0 s1 M) := by
  unfold f_X1_benchIn_36
  refine v_ior X 37 dX1_benchIn_36 rfl ?_
  refine v_bnI (fun y1 => ?_)
  refine v_istore_n (lv' := [(0, .ref x0), (1, .int x1), (2, .int y1), (3, .int x3)]) X 38 dX1_benchIn_37 (by decide) rfl rfl ?_
  refine v_iinc X 41 3 (fun z => [(0, .ref x0), (1, .int x1), (2, .int y1), (3, .int z)]) dX1_benchIn_38 rfl ik_1 (by decide) (fun _ => rfl) rfl (fun y2 => ?_)
  refine v_goto X 4 dX1_benchIn_41 rfl ?_
  exact hK4 _ _ _ _ _
set_option maxRecDepth 4000 in
theorem L_X1_benchIn_4 {G : Gx} (X : Cb G cX1_benchIn 4 RX1 (RM 2 0 0) false) (Y : Cr G (some .int) 0 0) : ∀ (n : Nat) (x0 : Nat) (x1 : Int32) (x2 : Int32) (x3 : Int32) (M : MM), V G trI 4 0 0 4 [(0, .ref x0), (1, .int x1), (2, .int x2), (3, .int x3)] [] M (f_X1_benchIn_4 n x0 x1 x2 x3 M) := by
  intro n
  induction n with
  | zero => intro x0 x1 x2 x3 M; rw [f_X1_benchIn_4]; exact v_none
  | succ n ih =>
    intro x0 x1 x2 x3 M
    rw [f_X1_benchIn_4]
    refine v_iload_n X 5 3 dX1_benchIn_4 rfl rfl ?_
    refine v_aload_n X 6 0 dX1_benchIn_5 rfl rfl ?_
    refine v_getR X 9 fl_X1_45.r dX1_benchIn_6 rfl (fun v1 => ?_)
    refine v_getI X 12 fl_X1_56.r dX1_benchIn_9 rfl (fun v2 => ?_)
    refine v_icge X 15 44 dX1_benchIn_12 rfl rfl ?_ ?_
    · refine v_iload_n X 45 2 dX1_benchIn_44 rfl rfl ?_
      exact v_iret X Y (Nat.le_refl _) (Nat.le_refl _) dX1_benchIn_45
    · refine v_iload_n X 16 2 dX1_benchIn_15 rfl rfl ?_
      refine v_aload_n X 17 0 dX1_benchIn_16 rfl rfl ?_
      refine v_getR X 20 fl_X1_13.r dX1_benchIn_17 rfl (fun v3 => ?_)
      refine v_iload_n X 21 3 dX1_benchIn_20 rfl rfl ?_
      refine v_aald23 X 22 dX1_benchIn_21 rfl (fun v4 => ?_)
      refine v_iload_n X 23 1 dX1_benchIn_22 rfl rfl ?_
      refine v_vI X 26 cv_X2_has ml_X1_110 (n1 := 1) rfl [.int x1] rfl rfl rfl dX1_benchIn_23 rfl (fun r M1 h => c_X2_has _ _ _ _ _ _ h) (fun r6 M5 => ?_)
      refine v_ifeq X 29 33 dX1_benchIn_26 rfl rfl ?_ ?_
      · refine v_iconst X 34 dX1_benchIn_33 ik_1 rfl ?_
        refine v_iload_n X 35 3 dX1_benchIn_34 rfl rfl ?_
        refine v_ishl X 36 dX1_benchIn_35 rfl ?_
        exact v_sb [0, 1, 3] (L_X1_benchIn_36 X Y ih _ _ _ _ _ _) rfl
      · refine v_iconst X 30 dX1_benchIn_29 ik_0 rfl ?_
        refine v_goto X 36 dX1_benchIn_30 rfl ?_
        exact v_sb [0, 1, 3] (L_X1_benchIn_36 X Y ih _ _ _ _ _ _) rfl
set_option maxRecDepth 4000 in
theorem L_X1_benchIn_0 {G : Gx} (X : Cb G cX1_benchIn 4 RX1 (RM 2 0 0) false) (Y : Cr G (some .int) 0 0) (x0 : Nat) (x1 : Int32) (M : MM) : V G trI 4 0 0 0 [(0, .ref x0), (1, .int x1)] [] M (f_X1_benchIn_0 x0 x1 M) := by
  unfold f_X1_benchIn_0
  refine v_iconst X 1 dX1_benchIn_0 ik_0 rfl ?_
  refine v_istore_n (lv' := [(0, .ref x0), (1, .int x1), (2, .int (0 : Int32))]) X 2 dX1_benchIn_1 (by decide) rfl rfl ?_
  refine v_iconst X 3 dX1_benchIn_2 ik_0 rfl ?_
  refine v_istore_n (lv' := [(0, .ref x0), (1, .int x1), (2, .int (0 : Int32)), (3, .int (0 : Int32))]) X 4 dX1_benchIn_3 (by decide) rfl rfl ?_
  exact L_X1_benchIn_4 X Y 1024 _ _ _ _ _
theorem c_X1_benchIn (l : Launch) (x0 : Nat) (x1 : Int32) (M : MM) (r : Int32) (M1 : MM) (h : f_X1_benchIn x0 x1 M = some (r, M1)) : KV l yX1_benchIn cX1_benchIn 4 (some .int) (RM 2 0 0) false 1 x0 [.int x1] M (some (.int r)) M1 := by
  obtain ⟨hO, h2⟩ := iteO_some h
  exact ⟨hO, ct_of (tr := trI) (by decide) (Nat.le_of_ble_eq_true rfl) [(0, .ref x0), (1, .int x1)] rfl h2 (fun G X Y hn hl => L_X1_benchIn_0 X Y x0 x1 M)⟩

def f_X1_atBench_34 (K4 : Nat → Int32 → Int32 → Int32 → MM → Option (Int32 × MM)) (x0 : Nat) (x1 : Int32) (x3 : Int32) (s0 : Int32) (s1 : Int32) (M : MM) : Option (Int32 × MM) :=
    bn (s1 + s0 : Int32) fun y1 =>
    bn (x3 + 1 : Int32) fun y2 =>
    K4 x0 x1 y1 y2 M

def f_X1_atBench_4 : Nat → Nat → Int32 → Int32 → Int32 → MM → Option (Int32 × MM)
  | 0, _, _, _, _, _ => none
  | n + 1, x0, x1, x2, x3, M =>
    b1 (gR 1 0 x0 M) fun v1 =>
    b1 (gI 9 9 v1 M) fun v2 =>
    if v2 ≤ x3 then
      some (x2, M)
    else
      b1 (gR 1 2 x0 M) fun v3 =>
      b1 (ldR 23 v3 x1 M) fun v4 =>
      b2 (f_X2_has v4 x3 M) fun r6 M5 =>
      if r6 = 0 then
        f_X1_atBench_34 (f_X1_atBench_4 n) x0 x1 x3 (1 : Int32) x2 M5
      else
        f_X1_atBench_34 (f_X1_atBench_4 n) x0 x1 x3 (0 : Int32) x2 M5

def f_X1_atBench_0 (x0 : Nat) (x1 : Int32) (M : MM) : Option (Int32 × MM) :=
    f_X1_atBench_4 1024 x0 x1 (0 : Int32) (0 : Int32) M

def f_X1_atBench (x0 : Nat) (x1 : Int32) (M : MM) : Option (Int32 × MM) := if isO 1 x0 M = true then f_X1_atBench_0 x0 x1 M else none
set_option maxRecDepth 4000 in
theorem L_X1_atBench_34 {G : Gx} (X : Cb G cX1_atBench 4 RX1 (RM 2 0 0) false) (Y : Cr G (some .int) 0 0) {K4 : Nat → Int32 → Int32 → Int32 → MM → Option (Int32 × MM)} (hK4 : ∀ (x0 : Nat) (x1 : Int32) (x2 : Int32) (x3 : Int32) (M : MM), V G trI 4 0 0 4 [(0, .ref x0), (1, .int x1), (2, .int x2), (3, .int x3)] [] M (K4 x0 x1 x2 x3 M)) (x0 : Nat) (x1 : Int32) (x3 : Int32) (s0 : Int32) (s1 : Int32) (M : MM) : V G trI 4 0 0 34 [(0, .ref x0), (1, .int x1), (3, .int x3)] [.int s0, .int s1] M (f_X1_atBench_34 K4 x0 x1 x3 s0 s1 M) := by
  unfold f_X1_atBench_34
  refine v_iadd X 35 dX1_atBench_34 rfl ?_
  refine v_bnI (fun y1 => ?_)
  refine v_istore_n (lv' := [(0, .ref x0), (1, .int x1), (2, .int y1), (3, .int x3)]) X 36 dX1_atBench_35 (by decide) rfl rfl ?_
  refine v_iinc X 39 3 (fun z => [(0, .ref x0), (1, .int x1), (2, .int y1), (3, .int z)]) dX1_atBench_36 rfl ik_1 (by decide) (fun _ => rfl) rfl (fun y2 => ?_)
  refine v_goto X 4 dX1_atBench_39 rfl ?_
  exact hK4 _ _ _ _ _
set_option maxRecDepth 4000 in
theorem L_X1_atBench_4 {G : Gx} (X : Cb G cX1_atBench 4 RX1 (RM 2 0 0) false) (Y : Cr G (some .int) 0 0) : ∀ (n : Nat) (x0 : Nat) (x1 : Int32) (x2 : Int32) (x3 : Int32) (M : MM), V G trI 4 0 0 4 [(0, .ref x0), (1, .int x1), (2, .int x2), (3, .int x3)] [] M (f_X1_atBench_4 n x0 x1 x2 x3 M) := by
  intro n
  induction n with
  | zero => intro x0 x1 x2 x3 M; rw [f_X1_atBench_4]; exact v_none
  | succ n ih =>
    intro x0 x1 x2 x3 M
    rw [f_X1_atBench_4]
    refine v_iload_n X 5 3 dX1_atBench_4 rfl rfl ?_
    refine v_aload_n X 6 0 dX1_atBench_5 rfl rfl ?_
    refine v_getR X 9 fl_X1_45.r dX1_atBench_6 rfl (fun v1 => ?_)
    refine v_getI X 12 fl_X1_97.r dX1_atBench_9 rfl (fun v2 => ?_)
    refine v_icge X 15 42 dX1_atBench_12 rfl rfl ?_ ?_
    · refine v_iload_n X 43 2 dX1_atBench_42 rfl rfl ?_
      exact v_iret X Y (Nat.le_refl _) (Nat.le_refl _) dX1_atBench_43
    · refine v_iload_n X 16 2 dX1_atBench_15 rfl rfl ?_
      refine v_aload_n X 17 0 dX1_atBench_16 rfl rfl ?_
      refine v_getR X 20 fl_X1_13.r dX1_atBench_17 rfl (fun v3 => ?_)
      refine v_iload_n X 21 1 dX1_atBench_20 rfl rfl ?_
      refine v_aald23 X 22 dX1_atBench_21 rfl (fun v4 => ?_)
      refine v_iload_n X 23 3 dX1_atBench_22 rfl rfl ?_
      refine v_vI X 26 cv_X2_has ml_X1_110 (n1 := 1) rfl [.int x3] rfl rfl rfl dX1_atBench_23 rfl (fun r M1 h => c_X2_has _ _ _ _ _ _ h) (fun r6 M5 => ?_)
      refine v_ifeq X 29 33 dX1_atBench_26 rfl rfl ?_ ?_
      · refine v_iconst X 34 dX1_atBench_33 ik_1 rfl ?_
        exact v_sb [0, 1, 3] (L_X1_atBench_34 X Y ih _ _ _ _ _ _) rfl
      · refine v_iconst X 30 dX1_atBench_29 ik_0 rfl ?_
        refine v_goto X 34 dX1_atBench_30 rfl ?_
        exact v_sb [0, 1, 3] (L_X1_atBench_34 X Y ih _ _ _ _ _ _) rfl
set_option maxRecDepth 4000 in
theorem L_X1_atBench_0 {G : Gx} (X : Cb G cX1_atBench 4 RX1 (RM 2 0 0) false) (Y : Cr G (some .int) 0 0) (x0 : Nat) (x1 : Int32) (M : MM) : V G trI 4 0 0 0 [(0, .ref x0), (1, .int x1)] [] M (f_X1_atBench_0 x0 x1 M) := by
  unfold f_X1_atBench_0
  refine v_iconst X 1 dX1_atBench_0 ik_0 rfl ?_
  refine v_istore_n (lv' := [(0, .ref x0), (1, .int x1), (2, .int (0 : Int32))]) X 2 dX1_atBench_1 (by decide) rfl rfl ?_
  refine v_iconst X 3 dX1_atBench_2 ik_0 rfl ?_
  refine v_istore_n (lv' := [(0, .ref x0), (1, .int x1), (2, .int (0 : Int32)), (3, .int (0 : Int32))]) X 4 dX1_atBench_3 (by decide) rfl rfl ?_
  exact L_X1_atBench_4 X Y 1024 _ _ _ _ _
theorem c_X1_atBench (l : Launch) (x0 : Nat) (x1 : Int32) (M : MM) (r : Int32) (M1 : MM) (h : f_X1_atBench x0 x1 M = some (r, M1)) : KV l yX1_atBench cX1_atBench 4 (some .int) (RM 2 0 0) false 1 x0 [.int x1] M (some (.int r)) M1 := by
  obtain ⟨hO, h2⟩ := iteO_some h
  exact ⟨hO, ct_of (tr := trI) (by decide) (Nat.le_of_ble_eq_true rfl) [(0, .ref x0), (1, .int x1)] rfl h2 (fun G X Y hn hl => L_X1_atBench_0 X Y x0 x1 M)⟩

def f_X1_longestAtBench_40 (K7 : Nat → Int32 → Int32 → Int32 → Int32 → MM → Option (Int32 × MM)) (x0 : Nat) (x1 : Int32) (x3 : Int32) (x4 : Int32) (s0 : Int32) (M : MM) : Option (Int32 × MM) :=
    bn (maxI x3 s0 : Int32) fun y1 =>
    bn (x4 + 1 : Int32) fun y2 =>
    K7 x0 x1 s0 y1 y2 M

def f_X1_longestAtBench_7 : Nat → Nat → Int32 → Int32 → Int32 → Int32 → MM → Option (Int32 × MM)
  | 0, _, _, _, _, _, _ => none
  | n + 1, x0, x1, x2, x3, x4, M =>
    b1 (gR 1 0 x0 M) fun v1 =>
    b1 (gI 9 9 v1 M) fun v2 =>
    if v2 ≤ x4 then
      some (x3, M)
    else
      b1 (gR 1 2 x0 M) fun v3 =>
      b1 (ldR 23 v3 x1 M) fun v4 =>
      b2 (f_X2_has v4 x4 M) fun r6 M5 =>
      if r6 = 0 then
        f_X1_longestAtBench_40 (f_X1_longestAtBench_7 n) x0 x1 x3 x4 (x2 + (1 : Int32)) M5
      else
        f_X1_longestAtBench_40 (f_X1_longestAtBench_7 n) x0 x1 x3 x4 (0 : Int32) M5

def f_X1_longestAtBench_0 (x0 : Nat) (x1 : Int32) (M : MM) : Option (Int32 × MM) :=
    f_X1_longestAtBench_7 1024 x0 x1 (0 : Int32) (0 : Int32) (0 : Int32) M

def f_X1_longestAtBench (x0 : Nat) (x1 : Int32) (M : MM) : Option (Int32 × MM) := if isO 1 x0 M = true then f_X1_longestAtBench_0 x0 x1 M else none
set_option maxRecDepth 4000 in
theorem L_X1_longestAtBench_40 {G : Gx} (X : Cb G cX1_longestAtBench 5 RX1 (RM 2 0 0) false) (Y : Cr G (some .int) 0 0) {K7 : Nat → Int32 → Int32 → Int32 → Int32 → MM → Option (Int32 × MM)} (hK7 : ∀ (x0 : Nat) (x1 : Int32) (x2 : Int32) (x3 : Int32) (x4 : Int32) (M : MM), V G trI 5 0 0 7 [(0, .ref x0), (1, .int x1), (2, .int x2), (3, .int x3), (4, .int x4)] [] M (K7 x0 x1 x2 x3 x4 M)) (x0 : Nat) (x1 : Int32) (x3 : Int32) (x4 : Int32) (s0 : Int32) (M : MM) : V G trI 5 0 0 40 [(0, .ref x0), (1, .int x1), (3, .int x3), (4, .int x4)] [.int s0] M (f_X1_longestAtBench_40 K7 x0 x1 x3 x4 s0 M) := by
  unfold f_X1_longestAtBench_40
  refine v_istore_n (lv' := [(0, .ref x0), (1, .int x1), (2, .int s0), (3, .int x3), (4, .int x4)]) X 41 dX1_longestAtBench_40 (by decide) rfl rfl ?_
  refine v_iload_n X 42 3 dX1_longestAtBench_41 rfl rfl ?_
  refine v_iload_n X 43 2 dX1_longestAtBench_42 rfl rfl ?_
  refine v_max X 46 ml_X1_114 w_max (Nat.le_of_ble_eq_true rfl) (Nat.le_of_ble_eq_true rfl) (Nat.zero_le _) (Nat.zero_le _) dX1_longestAtBench_43 rfl ?_
  refine v_bnI (fun y1 => ?_)
  refine v_istore_n (lv' := [(0, .ref x0), (1, .int x1), (2, .int s0), (3, .int y1), (4, .int x4)]) X 47 dX1_longestAtBench_46 (by decide) rfl rfl ?_
  refine v_iinc X 50 4 (fun z => [(0, .ref x0), (1, .int x1), (2, .int s0), (3, .int y1), (4, .int z)]) dX1_longestAtBench_47 rfl ik_1 (by decide) (fun _ => rfl) rfl (fun y2 => ?_)
  refine v_goto X 7 dX1_longestAtBench_50 rfl ?_
  exact hK7 _ _ _ _ _ _
set_option maxRecDepth 4000 in
theorem L_X1_longestAtBench_7 {G : Gx} (X : Cb G cX1_longestAtBench 5 RX1 (RM 2 0 0) false) (Y : Cr G (some .int) 0 0) : ∀ (n : Nat) (x0 : Nat) (x1 : Int32) (x2 : Int32) (x3 : Int32) (x4 : Int32) (M : MM), V G trI 5 0 0 7 [(0, .ref x0), (1, .int x1), (2, .int x2), (3, .int x3), (4, .int x4)] [] M (f_X1_longestAtBench_7 n x0 x1 x2 x3 x4 M) := by
  intro n
  induction n with
  | zero => intro x0 x1 x2 x3 x4 M; rw [f_X1_longestAtBench_7]; exact v_none
  | succ n ih =>
    intro x0 x1 x2 x3 x4 M
    rw [f_X1_longestAtBench_7]
    refine v_iload X 9 4 dX1_longestAtBench_7 rfl rfl ?_
    refine v_aload_n X 10 0 dX1_longestAtBench_9 rfl rfl ?_
    refine v_getR X 13 fl_X1_45.r dX1_longestAtBench_10 rfl (fun v1 => ?_)
    refine v_getI X 16 fl_X1_97.r dX1_longestAtBench_13 rfl (fun v2 => ?_)
    refine v_icge X 19 53 dX1_longestAtBench_16 rfl rfl ?_ ?_
    · refine v_iload_n X 54 3 dX1_longestAtBench_53 rfl rfl ?_
      exact v_iret X Y (Nat.le_refl _) (Nat.le_refl _) dX1_longestAtBench_54
    · refine v_aload_n X 20 0 dX1_longestAtBench_19 rfl rfl ?_
      refine v_getR X 23 fl_X1_13.r dX1_longestAtBench_20 rfl (fun v3 => ?_)
      refine v_iload_n X 24 1 dX1_longestAtBench_23 rfl rfl ?_
      refine v_aald23 X 25 dX1_longestAtBench_24 rfl (fun v4 => ?_)
      refine v_iload X 27 4 dX1_longestAtBench_25 rfl rfl ?_
      refine v_vI X 30 cv_X2_has ml_X1_110 (n1 := 1) rfl [.int x4] rfl rfl rfl dX1_longestAtBench_27 rfl (fun r M1 h => c_X2_has _ _ _ _ _ _ h) (fun r6 M5 => ?_)
      refine v_ifeq X 33 37 dX1_longestAtBench_30 rfl rfl ?_ ?_
      · refine v_iload_n X 38 2 dX1_longestAtBench_37 rfl rfl ?_
        refine v_iconst X 39 dX1_longestAtBench_38 ik_1 rfl ?_
        refine v_iadd X 40 dX1_longestAtBench_39 rfl ?_
        exact v_sb [0, 1, 3, 4] (L_X1_longestAtBench_40 X Y ih _ _ _ _ _ _) rfl
      · refine v_iconst X 34 dX1_longestAtBench_33 ik_0 rfl ?_
        refine v_goto X 40 dX1_longestAtBench_34 rfl ?_
        exact v_sb [0, 1, 3, 4] (L_X1_longestAtBench_40 X Y ih _ _ _ _ _ _) rfl
set_option maxRecDepth 4000 in
theorem L_X1_longestAtBench_0 {G : Gx} (X : Cb G cX1_longestAtBench 5 RX1 (RM 2 0 0) false) (Y : Cr G (some .int) 0 0) (x0 : Nat) (x1 : Int32) (M : MM) : V G trI 5 0 0 0 [(0, .ref x0), (1, .int x1)] [] M (f_X1_longestAtBench_0 x0 x1 M) := by
  unfold f_X1_longestAtBench_0
  refine v_iconst X 1 dX1_longestAtBench_0 ik_0 rfl ?_
  refine v_istore_n (lv' := [(0, .ref x0), (1, .int x1), (2, .int (0 : Int32))]) X 2 dX1_longestAtBench_1 (by decide) rfl rfl ?_
  refine v_iconst X 3 dX1_longestAtBench_2 ik_0 rfl ?_
  refine v_istore_n (lv' := [(0, .ref x0), (1, .int x1), (2, .int (0 : Int32)), (3, .int (0 : Int32))]) X 4 dX1_longestAtBench_3 (by decide) rfl rfl ?_
  refine v_iconst X 5 dX1_longestAtBench_4 ik_0 rfl ?_
  refine v_istore (lv' := [(0, .ref x0), (1, .int x1), (2, .int (0 : Int32)), (3, .int (0 : Int32)), (4, .int (0 : Int32))]) X 7 dX1_longestAtBench_5 (by decide) rfl rfl ?_
  exact L_X1_longestAtBench_7 X Y 1024 _ _ _ _ _ _
theorem c_X1_longestAtBench (l : Launch) (x0 : Nat) (x1 : Int32) (M : MM) (r : Int32) (M1 : MM) (h : f_X1_longestAtBench x0 x1 M = some (r, M1)) : KV l yX1_longestAtBench cX1_longestAtBench 5 (some .int) (RM 2 0 0) false 1 x0 [.int x1] M (some (.int r)) M1 := by
  obtain ⟨hO, h2⟩ := iteO_some h
  exact ⟨hO, ct_of (tr := trI) (by decide) (Nat.le_of_ble_eq_true rfl) [(0, .ref x0), (1, .int x1)] rfl h2 (fun G X Y hn hl => L_X1_longestAtBench_0 X Y x0 x1 M)⟩

def f_X1_back_0 (x0 : Nat) (x1 : Int32) (M : MM) : Option (Int32 × MM) :=
    b1 (gR 1 1 x0 M) fun v1 =>
    b2 (f_X5_first v1 x1 M) fun r3 M2 =>
    b1 (gR 1 0 x0 M2) fun v4 =>
    b1 (gR 1 1 x0 M2) fun v5 =>
    b2 (f_X5_what v5 x1 M2) fun r7 M6 =>
    b2 (f_X9_length v4 r7 M6) fun r9 M8 =>
    some (r3 + r9, M8)

def f_X1_back (x0 : Nat) (x1 : Int32) (M : MM) : Option (Int32 × MM) := if isO 1 x0 M = true then f_X1_back_0 x0 x1 M else none
set_option maxRecDepth 4000 in
theorem L_X1_back_0 {G : Gx} (X : Cb G cX1_back 2 RX1 (RM 2 0 0) false) (Y : Cr G (some .int) 0 0) (x0 : Nat) (x1 : Int32) (M : MM) : V G trI 2 0 0 0 [(0, .ref x0), (1, .int x1)] [] M (f_X1_back_0 x0 x1 M) := by
  unfold f_X1_back_0
  refine v_aload_n X 1 0 dX1_back_0 rfl rfl ?_
  refine v_getR X 4 fl_X1_49.r dX1_back_1 rfl (fun v1 => ?_)
  refine v_iload_n X 5 1 dX1_back_4 rfl rfl ?_
  refine v_vI X 8 cv_X5_first ml_X1_70 (n1 := 1) rfl [.int x1] rfl rfl rfl dX1_back_5 rfl (fun r M1 h => c_X5_first _ _ _ _ _ _ h) (fun r3 M2 => ?_)
  refine v_aload_n X 9 0 dX1_back_8 rfl rfl ?_
  refine v_getR X 12 fl_X1_45.r dX1_back_9 rfl (fun v4 => ?_)
  refine v_aload_n X 13 0 dX1_back_12 rfl rfl ?_
  refine v_getR X 16 fl_X1_49.r dX1_back_13 rfl (fun v5 => ?_)
  refine v_iload_n X 17 1 dX1_back_16 rfl rfl ?_
  refine v_vI X 20 cv_X5_what ml_X1_67 (n1 := 1) rfl [.int x1] rfl rfl rfl dX1_back_17 rfl (fun r M1 h => c_X5_what _ _ _ _ _ _ h) (fun r7 M6 => ?_)
  refine v_vI X 23 cv_X9_length ml_X1_73 (n1 := 1) rfl [.int r7] rfl rfl rfl dX1_back_20 rfl (fun r M1 h => c_X9_length _ _ _ _ _ _ h) (fun r9 M8 => ?_)
  refine v_iadd X 24 dX1_back_23 rfl ?_
  exact v_iret X Y (Nat.le_refl _) (Nat.le_refl _) dX1_back_24
theorem c_X1_back (l : Launch) (x0 : Nat) (x1 : Int32) (M : MM) (r : Int32) (M1 : MM) (h : f_X1_back x0 x1 M = some (r, M1)) : KV l yX1_back cX1_back 2 (some .int) (RM 2 0 0) false 1 x0 [.int x1] M (some (.int r)) M1 := by
  obtain ⟨hO, h2⟩ := iteO_some h
  exact ⟨hO, ct_of (tr := trI) (by decide) (Nat.le_of_ble_eq_true rfl) [(0, .ref x0), (1, .int x1)] rfl h2 (fun G X Y hn hl => L_X1_back_0 X Y x0 x1 M)⟩

def f_X1_hasCompany_44 (K3 : Nat → Int32 → Int32 → Int32 → Int32 → MM → Option (Int32 × MM)) (x0 : Nat) (x1 : Int32) (x2 : Int32) (x3 : Int32) (x4 : Int32) (M : MM) : Option (Int32 × MM) :=
    bn (x4 + 1 : Int32) fun y1 =>
    K3 x0 x1 x2 x3 y1 M

def f_X1_hasCompany_3 : Nat → Nat → Int32 → Int32 → Int32 → Int32 → MM → Option (Int32 × MM)
  | 0, _, _, _, _, _, _ => none
  | n + 1, x0, x1, x2, x3, x4, M =>
    b1 (gR 1 1 x0 M) fun v1 =>
    b1 (gI 5 1 v1 M) fun v2 =>
    if v2 ≤ x4 then
      rz (0 : Int32) M
    else
      b1 (gR 1 1 x0 M) fun v3 =>
      b2 (f_X5_who v3 x4 M) fun r5 M4 =>
      if r5 = x1 then
        f_X1_hasCompany_44 (f_X1_hasCompany_3 n) x0 x1 x2 x3 x4 M4
      else
        b1 (gR 1 1 x0 M4) fun v6 =>
        b2 (f_X5_goTogether v6 x4 x2 x3 M4) fun r8 M7 =>
        if r8 = 0 then
          f_X1_hasCompany_44 (f_X1_hasCompany_3 n) x0 x1 x2 x3 x4 M7
        else
          rz (1 : Int32) M7

def f_X1_hasCompany_0 (x0 : Nat) (x1 : Int32) (x2 : Int32) (x3 : Int32) (M : MM) : Option (Int32 × MM) :=
    f_X1_hasCompany_3 1024 x0 x1 x2 x3 (0 : Int32) M

def f_X1_hasCompany (x0 : Nat) (x1 : Int32) (x2 : Int32) (x3 : Int32) (M : MM) : Option (Int32 × MM) := if isO 1 x0 M = true then f_X1_hasCompany_0 x0 x1 x2 x3 M else none
set_option maxRecDepth 4000 in
theorem L_X1_hasCompany_44 {G : Gx} (X : Cb G cX1_hasCompany 5 RX1 (RM 3 0 0) false) (Y : Cr G (some .boolean) 0 0) {K3 : Nat → Int32 → Int32 → Int32 → Int32 → MM → Option (Int32 × MM)} (hK3 : ∀ (x0 : Nat) (x1 : Int32) (x2 : Int32) (x3 : Int32) (x4 : Int32) (M : MM), V G trI 5 0 0 3 [(0, .ref x0), (1, .int x1), (2, .int x2), (3, .int x3), (4, .int x4)] [] M (K3 x0 x1 x2 x3 x4 M)) (x0 : Nat) (x1 : Int32) (x2 : Int32) (x3 : Int32) (x4 : Int32) (M : MM) : V G trI 5 0 0 44 [(0, .ref x0), (1, .int x1), (2, .int x2), (3, .int x3), (4, .int x4)] [] M (f_X1_hasCompany_44 K3 x0 x1 x2 x3 x4 M) := by
  unfold f_X1_hasCompany_44
  refine v_iinc X 47 4 (fun z => [(0, .ref x0), (1, .int x1), (2, .int x2), (3, .int x3), (4, .int z)]) dX1_hasCompany_44 rfl ik_1 (by decide) (fun _ => rfl) rfl (fun y1 => ?_)
  refine v_goto X 3 dX1_hasCompany_47 rfl ?_
  exact hK3 _ _ _ _ _ _
set_option maxRecDepth 4000 in
theorem L_X1_hasCompany_3 {G : Gx} (X : Cb G cX1_hasCompany 5 RX1 (RM 3 0 0) false) (Y : Cr G (some .boolean) 0 0) : ∀ (n : Nat) (x0 : Nat) (x1 : Int32) (x2 : Int32) (x3 : Int32) (x4 : Int32) (M : MM), V G trI 5 0 0 3 [(0, .ref x0), (1, .int x1), (2, .int x2), (3, .int x3), (4, .int x4)] [] M (f_X1_hasCompany_3 n x0 x1 x2 x3 x4 M) := by
  intro n
  induction n with
  | zero => intro x0 x1 x2 x3 x4 M; rw [f_X1_hasCompany_3]; exact v_none
  | succ n ih =>
    intro x0 x1 x2 x3 x4 M
    rw [f_X1_hasCompany_3]
    refine v_iload X 5 4 dX1_hasCompany_3 rfl rfl ?_
    refine v_aload_n X 6 0 dX1_hasCompany_5 rfl rfl ?_
    refine v_getR X 9 fl_X1_49.r dX1_hasCompany_6 rfl (fun v1 => ?_)
    refine v_getI X 12 fl_X1_60.r dX1_hasCompany_9 rfl (fun v2 => ?_)
    refine v_icge X 15 50 dX1_hasCompany_12 rfl rfl ?_ ?_
    · refine v_iconst X 51 dX1_hasCompany_50 ik_0 rfl ?_
      exact v_zret X Y (Nat.le_refl _) (Nat.le_refl _) dX1_hasCompany_51
    · refine v_aload_n X 16 0 dX1_hasCompany_15 rfl rfl ?_
      refine v_getR X 19 fl_X1_49.r dX1_hasCompany_16 rfl (fun v3 => ?_)
      refine v_iload X 21 4 dX1_hasCompany_19 rfl rfl ?_
      refine v_vI X 24 cv_X5_who ml_X1_63 (n1 := 1) rfl [.int x4] rfl rfl rfl dX1_hasCompany_21 rfl (fun r M1 h => c_X5_who _ _ _ _ _ _ h) (fun r5 M4 => ?_)
      refine v_iload_n X 25 1 dX1_hasCompany_24 rfl rfl ?_
      refine v_iceq X 28 44 dX1_hasCompany_25 rfl rfl ?_ ?_
      · exact L_X1_hasCompany_44 X Y ih _ _ _ _ _ _
      · refine v_aload_n X 29 0 dX1_hasCompany_28 rfl rfl ?_
        refine v_getR X 32 fl_X1_49.r dX1_hasCompany_29 rfl (fun v6 => ?_)
        refine v_iload X 34 4 dX1_hasCompany_32 rfl rfl ?_
        refine v_iload_n X 35 2 dX1_hasCompany_34 rfl rfl ?_
        refine v_iload_n X 36 3 dX1_hasCompany_35 rfl rfl ?_
        refine v_vI X 39 cv_X5_goTogether ml_X1_155 (n1 := 2) rfl [.int x4, .int x2, .int x3] rfl rfl rfl dX1_hasCompany_36 rfl (fun r M1 h => c_X5_goTogether _ _ _ _ _ _ _ _ h) (fun r8 M7 => ?_)
        refine v_ifeq X 42 44 dX1_hasCompany_39 rfl rfl ?_ ?_
        · exact L_X1_hasCompany_44 X Y ih _ _ _ _ _ _
        · refine v_iconst X 43 dX1_hasCompany_42 ik_1 rfl ?_
          exact v_zret X Y (Nat.le_refl _) (Nat.le_refl _) dX1_hasCompany_43
set_option maxRecDepth 4000 in
theorem L_X1_hasCompany_0 {G : Gx} (X : Cb G cX1_hasCompany 5 RX1 (RM 3 0 0) false) (Y : Cr G (some .boolean) 0 0) (x0 : Nat) (x1 : Int32) (x2 : Int32) (x3 : Int32) (M : MM) : V G trI 5 0 0 0 [(0, .ref x0), (1, .int x1), (2, .int x2), (3, .int x3)] [] M (f_X1_hasCompany_0 x0 x1 x2 x3 M) := by
  unfold f_X1_hasCompany_0
  refine v_iconst X 1 dX1_hasCompany_0 ik_0 rfl ?_
  refine v_istore (lv' := [(0, .ref x0), (1, .int x1), (2, .int x2), (3, .int x3), (4, .int (0 : Int32))]) X 3 dX1_hasCompany_1 (by decide) rfl rfl ?_
  exact L_X1_hasCompany_3 X Y 1024 _ _ _ _ _ _
theorem c_X1_hasCompany (l : Launch) (x0 : Nat) (x1 : Int32) (x2 : Int32) (x3 : Int32) (M : MM) (r : Int32) (M1 : MM) (h : f_X1_hasCompany x0 x1 x2 x3 M = some (r, M1)) : KV l yX1_hasCompany cX1_hasCompany 5 (some .boolean) (RM 3 0 0) false 1 x0 [.int x1, .int x2, .int x3] M (some (.int r)) M1 := by
  obtain ⟨hO, h2⟩ := iteO_some h
  exact ⟨hO, ct_of (tr := trI) (by decide) (Nat.le_of_ble_eq_true rfl) [(0, .ref x0), (1, .int x1), (2, .int x2), (3, .int x3)] rfl h2 (fun G X Y hn hl => L_X1_hasCompany_0 X Y x0 x1 x2 x3 M)⟩

def f_X1_isAwayByAnother_81 (K2 : Nat → Int32 → Int32 → MM → Option (Int32 × MM)) (x0 : Nat) (x1 : Int32) (x2 : Int32) (M : MM) : Option (Int32 × MM) :=
    bn (x2 + 1 : Int32) fun y1 =>
    K2 x0 x1 y1 M

def f_X1_isAwayByAnother_42 (K2 : Nat → Int32 → Int32 → MM → Option (Int32 × MM)) (x0 : Nat) (x1 : Int32) (x2 : Int32) (s0 : Int32) (M : MM) : Option (Int32 × MM) :=
    if s0 = 0 then
      f_X1_isAwayByAnother_81 K2 x0 x1 x2 M
    else
      b1 (gR 1 1 x0 M) fun v1 =>
      b2 (f_X5_first v1 x2 M) fun r3 M2 =>
      b2 (f_X1_back x0 x1 M2) fun r5 M4 =>
      if r5 ≤ r3 then
        f_X1_isAwayByAnother_81 K2 x0 x1 x2 M4
      else
        b1 (gR 1 1 x0 M4) fun v6 =>
        b2 (f_X5_first v6 x1 M4) fun r8 M7 =>
        b2 (f_X1_back x0 x2 M7) fun r10 M9 =>
        if r10 ≤ r8 then
          f_X1_isAwayByAnother_81 K2 x0 x1 x2 M9
        else
          rz (1 : Int32) M9

def f_X1_isAwayByAnother_41 (K2 : Nat → Int32 → Int32 → MM → Option (Int32 × MM)) (x0 : Nat) (x1 : Int32) (x2 : Int32) (M : MM) : Option (Int32 × MM) :=
    f_X1_isAwayByAnother_42 K2 x0 x1 x2 (0 : Int32) M

def f_X1_isAwayByAnother_2 : Nat → Nat → Int32 → Int32 → MM → Option (Int32 × MM)
  | 0, _, _, _, _ => none
  | n + 1, x0, x1, x2, M =>
    b1 (gR 1 1 x0 M) fun v1 =>
    b1 (gI 5 1 v1 M) fun v2 =>
    if v2 ≤ x2 then
      rz (0 : Int32) M
    else
      if x2 = x1 then
        f_X1_isAwayByAnother_41 (f_X1_isAwayByAnother_2 n) x0 x1 x2 M
      else
        b1 (gR 1 1 x0 M) fun v3 =>
        b2 (f_X5_who v3 x2 M) fun r5 M4 =>
        b1 (gR 1 1 x0 M4) fun v6 =>
        b2 (f_X5_who v6 x1 M4) fun r8 M7 =>
        if r5 = r8 then
          f_X1_isAwayByAnother_42 (f_X1_isAwayByAnother_2 n) x0 x1 x2 (1 : Int32) M7
        else
          f_X1_isAwayByAnother_41 (f_X1_isAwayByAnother_2 n) x0 x1 x2 M7

def f_X1_isAwayByAnother_0 (x0 : Nat) (x1 : Int32) (M : MM) : Option (Int32 × MM) :=
    f_X1_isAwayByAnother_2 1024 x0 x1 (0 : Int32) M

def f_X1_isAwayByAnother (x0 : Nat) (x1 : Int32) (M : MM) : Option (Int32 × MM) := if isO 1 x0 M = true then f_X1_isAwayByAnother_0 x0 x1 M else none
set_option maxRecDepth 4000 in
theorem L_X1_isAwayByAnother_81 {G : Gx} (X : Cb G cX1_isAwayByAnother 4 RX1 (RM 3 0 0) false) (Y : Cr G (some .boolean) 0 0) {K2 : Nat → Int32 → Int32 → MM → Option (Int32 × MM)} (hK2 : ∀ (x0 : Nat) (x1 : Int32) (x2 : Int32) (M : MM), V G trI 4 0 0 2 [(0, .ref x0), (1, .int x1), (2, .int x2)] [] M (K2 x0 x1 x2 M)) (x0 : Nat) (x1 : Int32) (x2 : Int32) (M : MM) : V G trI 4 0 0 81 [(0, .ref x0), (1, .int x1), (2, .int x2)] [] M (f_X1_isAwayByAnother_81 K2 x0 x1 x2 M) := by
  unfold f_X1_isAwayByAnother_81
  refine v_iinc X 84 2 (fun z => [(0, .ref x0), (1, .int x1), (2, .int z)]) dX1_isAwayByAnother_81 rfl ik_1 (by decide) (fun _ => rfl) rfl (fun y1 => ?_)
  refine v_goto X 2 dX1_isAwayByAnother_84 rfl ?_
  exact hK2 _ _ _ _
set_option maxRecDepth 4000 in
theorem L_X1_isAwayByAnother_42 {G : Gx} (X : Cb G cX1_isAwayByAnother 4 RX1 (RM 3 0 0) false) (Y : Cr G (some .boolean) 0 0) {K2 : Nat → Int32 → Int32 → MM → Option (Int32 × MM)} (hK2 : ∀ (x0 : Nat) (x1 : Int32) (x2 : Int32) (M : MM), V G trI 4 0 0 2 [(0, .ref x0), (1, .int x1), (2, .int x2)] [] M (K2 x0 x1 x2 M)) (x0 : Nat) (x1 : Int32) (x2 : Int32) (s0 : Int32) (M : MM) : V G trI 4 0 0 42 [(0, .ref x0), (1, .int x1), (2, .int x2)] [.int s0] M (f_X1_isAwayByAnother_42 K2 x0 x1 x2 s0 M) := by
  unfold f_X1_isAwayByAnother_42
  refine v_istore_n (lv' := [(0, .ref x0), (1, .int x1), (2, .int x2), (3, .int s0)]) X 43 dX1_isAwayByAnother_42 (by decide) rfl rfl ?_
  refine v_iload_n X 44 3 dX1_isAwayByAnother_43 rfl rfl ?_
  refine v_ifeq X 47 81 dX1_isAwayByAnother_44 rfl rfl ?_ ?_
  · exact v_sb [0, 1, 2] (L_X1_isAwayByAnother_81 X Y hK2 _ _ _ _) rfl
  · refine v_aload_n X 48 0 dX1_isAwayByAnother_47 rfl rfl ?_
    refine v_getR X 51 fl_X1_49.r dX1_isAwayByAnother_48 rfl (fun v1 => ?_)
    refine v_iload_n X 52 2 dX1_isAwayByAnother_51 rfl rfl ?_
    refine v_vI X 55 cv_X5_first ml_X1_70 (n1 := 1) rfl [.int x2] rfl rfl rfl dX1_isAwayByAnother_52 rfl (fun r M1 h => c_X5_first _ _ _ _ _ _ h) (fun r3 M2 => ?_)
    refine v_aload_n X 56 0 dX1_isAwayByAnother_55 rfl rfl ?_
    refine v_iload_n X 57 1 dX1_isAwayByAnother_56 rfl rfl ?_
    refine v_vI X 60 cv_X1_back ml_X1_149 (n1 := 2) rfl [.int x1] rfl rfl rfl dX1_isAwayByAnother_57 rfl (fun r M1 h => c_X1_back _ _ _ _ _ _ h) (fun r5 M4 => ?_)
    refine v_icge X 63 81 dX1_isAwayByAnother_60 rfl rfl ?_ ?_
    · exact v_sb [0, 1, 2] (L_X1_isAwayByAnother_81 X Y hK2 _ _ _ _) rfl
    · refine v_aload_n X 64 0 dX1_isAwayByAnother_63 rfl rfl ?_
      refine v_getR X 67 fl_X1_49.r dX1_isAwayByAnother_64 rfl (fun v6 => ?_)
      refine v_iload_n X 68 1 dX1_isAwayByAnother_67 rfl rfl ?_
      refine v_vI X 71 cv_X5_first ml_X1_70 (n1 := 1) rfl [.int x1] rfl rfl rfl dX1_isAwayByAnother_68 rfl (fun r M1 h => c_X5_first _ _ _ _ _ _ h) (fun r8 M7 => ?_)
      refine v_aload_n X 72 0 dX1_isAwayByAnother_71 rfl rfl ?_
      refine v_iload_n X 73 2 dX1_isAwayByAnother_72 rfl rfl ?_
      refine v_vI X 76 cv_X1_back ml_X1_149 (n1 := 2) rfl [.int x2] rfl rfl rfl dX1_isAwayByAnother_73 rfl (fun r M1 h => c_X1_back _ _ _ _ _ _ h) (fun r10 M9 => ?_)
      refine v_icge X 79 81 dX1_isAwayByAnother_76 rfl rfl ?_ ?_
      · exact v_sb [0, 1, 2] (L_X1_isAwayByAnother_81 X Y hK2 _ _ _ _) rfl
      · refine v_iconst X 80 dX1_isAwayByAnother_79 ik_1 rfl ?_
        exact v_zret X Y (Nat.le_refl _) (Nat.le_refl _) dX1_isAwayByAnother_80
set_option maxRecDepth 4000 in
theorem L_X1_isAwayByAnother_41 {G : Gx} (X : Cb G cX1_isAwayByAnother 4 RX1 (RM 3 0 0) false) (Y : Cr G (some .boolean) 0 0) {K2 : Nat → Int32 → Int32 → MM → Option (Int32 × MM)} (hK2 : ∀ (x0 : Nat) (x1 : Int32) (x2 : Int32) (M : MM), V G trI 4 0 0 2 [(0, .ref x0), (1, .int x1), (2, .int x2)] [] M (K2 x0 x1 x2 M)) (x0 : Nat) (x1 : Int32) (x2 : Int32) (M : MM) : V G trI 4 0 0 41 [(0, .ref x0), (1, .int x1), (2, .int x2)] [] M (f_X1_isAwayByAnother_41 K2 x0 x1 x2 M) := by
  unfold f_X1_isAwayByAnother_41
  refine v_iconst X 42 dX1_isAwayByAnother_41 ik_0 rfl ?_
  exact L_X1_isAwayByAnother_42 X Y hK2 _ _ _ _ _
set_option maxRecDepth 4000 in
theorem L_X1_isAwayByAnother_2 {G : Gx} (X : Cb G cX1_isAwayByAnother 4 RX1 (RM 3 0 0) false) (Y : Cr G (some .boolean) 0 0) : ∀ (n : Nat) (x0 : Nat) (x1 : Int32) (x2 : Int32) (M : MM), V G trI 4 0 0 2 [(0, .ref x0), (1, .int x1), (2, .int x2)] [] M (f_X1_isAwayByAnother_2 n x0 x1 x2 M) := by
  intro n
  induction n with
  | zero => intro x0 x1 x2 M; rw [f_X1_isAwayByAnother_2]; exact v_none
  | succ n ih =>
    intro x0 x1 x2 M
    rw [f_X1_isAwayByAnother_2]
    refine v_iload_n X 3 2 dX1_isAwayByAnother_2 rfl rfl ?_
    refine v_aload_n X 4 0 dX1_isAwayByAnother_3 rfl rfl ?_
    refine v_getR X 7 fl_X1_49.r dX1_isAwayByAnother_4 rfl (fun v1 => ?_)
    refine v_getI X 10 fl_X1_60.r dX1_isAwayByAnother_7 rfl (fun v2 => ?_)
    refine v_icge X 13 87 dX1_isAwayByAnother_10 rfl rfl ?_ ?_
    · refine v_iconst X 88 dX1_isAwayByAnother_87 ik_0 rfl ?_
      exact v_zret X Y (Nat.le_refl _) (Nat.le_refl _) dX1_isAwayByAnother_88
    · refine v_iload_n X 14 2 dX1_isAwayByAnother_13 rfl rfl ?_
      refine v_iload_n X 15 1 dX1_isAwayByAnother_14 rfl rfl ?_
      refine v_iceq X 18 41 dX1_isAwayByAnother_15 rfl rfl ?_ ?_
      · exact L_X1_isAwayByAnother_41 X Y ih _ _ _ _
      · refine v_aload_n X 19 0 dX1_isAwayByAnother_18 rfl rfl ?_
        refine v_getR X 22 fl_X1_49.r dX1_isAwayByAnother_19 rfl (fun v3 => ?_)
        refine v_iload_n X 23 2 dX1_isAwayByAnother_22 rfl rfl ?_
        refine v_vI X 26 cv_X5_who ml_X1_63 (n1 := 1) rfl [.int x2] rfl rfl rfl dX1_isAwayByAnother_23 rfl (fun r M1 h => c_X5_who _ _ _ _ _ _ h) (fun r5 M4 => ?_)
        refine v_aload_n X 27 0 dX1_isAwayByAnother_26 rfl rfl ?_
        refine v_getR X 30 fl_X1_49.r dX1_isAwayByAnother_27 rfl (fun v6 => ?_)
        refine v_iload_n X 31 1 dX1_isAwayByAnother_30 rfl rfl ?_
        refine v_vI X 34 cv_X5_who ml_X1_63 (n1 := 1) rfl [.int x1] rfl rfl rfl dX1_isAwayByAnother_31 rfl (fun r M1 h => c_X5_who _ _ _ _ _ _ h) (fun r8 M7 => ?_)
        refine v_icne X 37 41 dX1_isAwayByAnother_34 rfl rfl ?_ ?_
        · exact L_X1_isAwayByAnother_41 X Y ih _ _ _ _
        · refine v_iconst X 38 dX1_isAwayByAnother_37 ik_1 rfl ?_
          refine v_goto X 42 dX1_isAwayByAnother_38 rfl ?_
          exact L_X1_isAwayByAnother_42 X Y ih _ _ _ _ _
set_option maxRecDepth 4000 in
theorem L_X1_isAwayByAnother_0 {G : Gx} (X : Cb G cX1_isAwayByAnother 4 RX1 (RM 3 0 0) false) (Y : Cr G (some .boolean) 0 0) (x0 : Nat) (x1 : Int32) (M : MM) : V G trI 4 0 0 0 [(0, .ref x0), (1, .int x1)] [] M (f_X1_isAwayByAnother_0 x0 x1 M) := by
  unfold f_X1_isAwayByAnother_0
  refine v_iconst X 1 dX1_isAwayByAnother_0 ik_0 rfl ?_
  refine v_istore_n (lv' := [(0, .ref x0), (1, .int x1), (2, .int (0 : Int32))]) X 2 dX1_isAwayByAnother_1 (by decide) rfl rfl ?_
  exact L_X1_isAwayByAnother_2 X Y 1024 _ _ _ _
theorem c_X1_isAwayByAnother (l : Launch) (x0 : Nat) (x1 : Int32) (M : MM) (r : Int32) (M1 : MM) (h : f_X1_isAwayByAnother x0 x1 M = some (r, M1)) : KV l yX1_isAwayByAnother cX1_isAwayByAnother 4 (some .boolean) (RM 3 0 0) false 1 x0 [.int x1] M (some (.int r)) M1 := by
  obtain ⟨hO, h2⟩ := iteO_some h
  exact ⟨hO, ct_of (tr := trI) (by decide) (Nat.le_of_ble_eq_true rfl) [(0, .ref x0), (1, .int x1)] rfl h2 (fun G X Y hn hl => L_X1_isAwayByAnother_0 X Y x0 x1 M)⟩

def f_X1_thingIsOut_132 (K28 : Nat → Int32 → Int32 → Int32 → Int32 → MM → Option (Int32 × MM)) (x0 : Nat) (x1 : Int32) (x2 : Int32) (x3 : Int32) (x4 : Int32) (M : MM) : Option (Int32 × MM) :=
    bn (x4 + 1 : Int32) fun y1 =>
    K28 x0 x1 x2 x3 y1 M

def f_X1_thingIsOut_104 (K28 : Nat → Int32 → Int32 → Int32 → Int32 → MM → Option (Int32 × MM)) (x0 : Nat) (x1 : Int32) (x2 : Int32) (x3 : Int32) (x4 : Int32) (x5 : Int32) (s0 : Int32) (M : MM) : Option (Int32 × MM) :=
    if x5 = 0 then
      f_X1_thingIsOut_132 K28 x0 x1 x2 x3 x4 M
    else
      if s0 = 0 then
        f_X1_thingIsOut_132 K28 x0 x1 x2 x3 x4 M
      else
        b1 (gR 1 1 x0 M) fun v1 =>
        b2 (f_X5_goTogether v1 x4 x1 x2 M) fun r3 M2 =>
        if r3 = 0 then
          rz (1 : Int32) M2
        else
          f_X1_thingIsOut_132 K28 x0 x1 x2 x3 x4 M2

def f_X1_thingIsOut_103 (K28 : Nat → Int32 → Int32 → Int32 → Int32 → MM → Option (Int32 × MM)) (x0 : Nat) (x1 : Int32) (x2 : Int32) (x3 : Int32) (x4 : Int32) (x5 : Int32) (M : MM) : Option (Int32 × MM) :=
    f_X1_thingIsOut_104 K28 x0 x1 x2 x3 x4 x5 (0 : Int32) M

def f_X1_thingIsOut_74 (K28 : Nat → Int32 → Int32 → Int32 → Int32 → MM → Option (Int32 × MM)) (x0 : Nat) (x1 : Int32) (x2 : Int32) (x3 : Int32) (x4 : Int32) (s0 : Int32) (M : MM) : Option (Int32 × MM) :=
    b1 (gR 1 1 x0 M) fun v1 =>
    b2 (f_X5_first v1 x4 M) fun r3 M2 =>
    if x3 ≤ r3 then
      f_X1_thingIsOut_103 K28 x0 x1 x2 x3 x4 s0 M2
    else
      b2 (f_X1_back x0 x4 M2) fun r5 M4 =>
      if r5 ≤ x2 then
        f_X1_thingIsOut_103 K28 x0 x1 x2 x3 x4 s0 M4
      else
        f_X1_thingIsOut_104 K28 x0 x1 x2 x3 x4 s0 (1 : Int32) M4

def f_X1_thingIsOut_28 : Nat → Nat → Int32 → Int32 → Int32 → Int32 → MM → Option (Int32 × MM)
  | 0, _, _, _, _, _, _ => none
  | n + 1, x0, x1, x2, x3, x4, M =>
    b1 (gR 1 1 x0 M) fun v1 =>
    b1 (gI 5 1 v1 M) fun v2 =>
    if v2 ≤ x4 then
      rz (0 : Int32) M
    else
      b1 (gR 1 0 x0 M) fun v3 =>
      b1 (gR 9 5 v3 M) fun v4 =>
      b1 (gR 1 1 x0 M) fun v5 =>
      b2 (f_X5_what v5 x4 M) fun r7 M6 =>
      b1 (ldI v4 r7 M6) fun v8 =>
      b1 (gR 1 0 x0 M6) fun v9 =>
      b1 (gR 9 5 v9 M6) fun v10 =>
      b1 (ldI v10 x1 M6) fun v11 =>
      if v8 = v11 then
        f_X1_thingIsOut_74 (f_X1_thingIsOut_28 n) x0 x1 x2 x3 x4 (1 : Int32) M6
      else
        f_X1_thingIsOut_74 (f_X1_thingIsOut_28 n) x0 x1 x2 x3 x4 (0 : Int32) M6

def f_X1_thingIsOut_0 (x0 : Nat) (x1 : Int32) (x2 : Int32) (M : MM) : Option (Int32 × MM) :=
    b1 (gR 1 0 x0 M) fun v1 =>
    b1 (gR 9 5 v1 M) fun v2 =>
    b1 (ldI v2 x1 M) fun v3 =>
    if v3 = 0 then
      rz (0 : Int32) M
    else
      b1 (gR 1 0 x0 M) fun v4 =>
      b2 (f_X9_length v4 x1 M) fun r6 M5 =>
      bn (x2 + r6 : Int32) fun y7 =>
      f_X1_thingIsOut_28 1024 x0 x1 x2 y7 (0 : Int32) M5

def f_X1_thingIsOut (x0 : Nat) (x1 : Int32) (x2 : Int32) (M : MM) : Option (Int32 × MM) := if isO 1 x0 M = true then f_X1_thingIsOut_0 x0 x1 x2 M else none
set_option maxRecDepth 4000 in
theorem L_X1_thingIsOut_132 {G : Gx} (X : Cb G cX1_thingIsOut 7 RX1 (RM 3 0 0) false) (Y : Cr G (some .boolean) 0 0) {K28 : Nat → Int32 → Int32 → Int32 → Int32 → MM → Option (Int32 × MM)} (hK28 : ∀ (x0 : Nat) (x1 : Int32) (x2 : Int32) (x3 : Int32) (x4 : Int32) (M : MM), V G trI 7 0 0 28 [(0, .ref x0), (1, .int x1), (2, .int x2), (3, .int x3), (4, .int x4)] [] M (K28 x0 x1 x2 x3 x4 M)) (x0 : Nat) (x1 : Int32) (x2 : Int32) (x3 : Int32) (x4 : Int32) (M : MM) : V G trI 7 0 0 132 [(0, .ref x0), (1, .int x1), (2, .int x2), (3, .int x3), (4, .int x4)] [] M (f_X1_thingIsOut_132 K28 x0 x1 x2 x3 x4 M) := by
  unfold f_X1_thingIsOut_132
  refine v_iinc X 135 4 (fun z => [(0, .ref x0), (1, .int x1), (2, .int x2), (3, .int x3), (4, .int z)]) dX1_thingIsOut_132 rfl ik_1 (by decide) (fun _ => rfl) rfl (fun y1 => ?_)
  refine v_goto X 28 dX1_thingIsOut_135 rfl ?_
  exact hK28 _ _ _ _ _ _
set_option maxRecDepth 4000 in
theorem L_X1_thingIsOut_104 {G : Gx} (X : Cb G cX1_thingIsOut 7 RX1 (RM 3 0 0) false) (Y : Cr G (some .boolean) 0 0) {K28 : Nat → Int32 → Int32 → Int32 → Int32 → MM → Option (Int32 × MM)} (hK28 : ∀ (x0 : Nat) (x1 : Int32) (x2 : Int32) (x3 : Int32) (x4 : Int32) (M : MM), V G trI 7 0 0 28 [(0, .ref x0), (1, .int x1), (2, .int x2), (3, .int x3), (4, .int x4)] [] M (K28 x0 x1 x2 x3 x4 M)) (x0 : Nat) (x1 : Int32) (x2 : Int32) (x3 : Int32) (x4 : Int32) (x5 : Int32) (s0 : Int32) (M : MM) : V G trI 7 0 0 104 [(0, .ref x0), (1, .int x1), (2, .int x2), (3, .int x3), (4, .int x4), (5, .int x5)] [.int s0] M (f_X1_thingIsOut_104 K28 x0 x1 x2 x3 x4 x5 s0 M) := by
  unfold f_X1_thingIsOut_104
  refine v_istore (lv' := [(0, .ref x0), (1, .int x1), (2, .int x2), (3, .int x3), (4, .int x4), (5, .int x5), (6, .int s0)]) X 106 dX1_thingIsOut_104 (by decide) rfl rfl ?_
  refine v_iload X 108 5 dX1_thingIsOut_106 rfl rfl ?_
  refine v_ifeq X 111 132 dX1_thingIsOut_108 rfl rfl ?_ ?_
  · exact v_sb [0, 1, 2, 3, 4] (L_X1_thingIsOut_132 X Y hK28 _ _ _ _ _ _) rfl
  · refine v_iload X 113 6 dX1_thingIsOut_111 rfl rfl ?_
    refine v_ifeq X 116 132 dX1_thingIsOut_113 rfl rfl ?_ ?_
    · exact v_sb [0, 1, 2, 3, 4] (L_X1_thingIsOut_132 X Y hK28 _ _ _ _ _ _) rfl
    · refine v_aload_n X 117 0 dX1_thingIsOut_116 rfl rfl ?_
      refine v_getR X 120 fl_X1_49.r dX1_thingIsOut_117 rfl (fun v1 => ?_)
      refine v_iload X 122 4 dX1_thingIsOut_120 rfl rfl ?_
      refine v_iload_n X 123 1 dX1_thingIsOut_122 rfl rfl ?_
      refine v_iload_n X 124 2 dX1_thingIsOut_123 rfl rfl ?_
      refine v_vI X 127 cv_X5_goTogether ml_X1_155 (n1 := 2) rfl [.int x4, .int x1, .int x2] rfl rfl rfl dX1_thingIsOut_124 rfl (fun r M1 h => c_X5_goTogether _ _ _ _ _ _ _ _ h) (fun r3 M2 => ?_)
      refine v_ifne X 130 132 dX1_thingIsOut_127 rfl rfl ?_ ?_
      · exact v_sb [0, 1, 2, 3, 4] (L_X1_thingIsOut_132 X Y hK28 _ _ _ _ _ _) rfl
      · refine v_iconst X 131 dX1_thingIsOut_130 ik_1 rfl ?_
        exact v_zret X Y (Nat.le_refl _) (Nat.le_refl _) dX1_thingIsOut_131
set_option maxRecDepth 4000 in
theorem L_X1_thingIsOut_103 {G : Gx} (X : Cb G cX1_thingIsOut 7 RX1 (RM 3 0 0) false) (Y : Cr G (some .boolean) 0 0) {K28 : Nat → Int32 → Int32 → Int32 → Int32 → MM → Option (Int32 × MM)} (hK28 : ∀ (x0 : Nat) (x1 : Int32) (x2 : Int32) (x3 : Int32) (x4 : Int32) (M : MM), V G trI 7 0 0 28 [(0, .ref x0), (1, .int x1), (2, .int x2), (3, .int x3), (4, .int x4)] [] M (K28 x0 x1 x2 x3 x4 M)) (x0 : Nat) (x1 : Int32) (x2 : Int32) (x3 : Int32) (x4 : Int32) (x5 : Int32) (M : MM) : V G trI 7 0 0 103 [(0, .ref x0), (1, .int x1), (2, .int x2), (3, .int x3), (4, .int x4), (5, .int x5)] [] M (f_X1_thingIsOut_103 K28 x0 x1 x2 x3 x4 x5 M) := by
  unfold f_X1_thingIsOut_103
  refine v_iconst X 104 dX1_thingIsOut_103 ik_0 rfl ?_
  exact L_X1_thingIsOut_104 X Y hK28 _ _ _ _ _ _ _ _
set_option maxRecDepth 4000 in
theorem L_X1_thingIsOut_74 {G : Gx} (X : Cb G cX1_thingIsOut 7 RX1 (RM 3 0 0) false) (Y : Cr G (some .boolean) 0 0) {K28 : Nat → Int32 → Int32 → Int32 → Int32 → MM → Option (Int32 × MM)} (hK28 : ∀ (x0 : Nat) (x1 : Int32) (x2 : Int32) (x3 : Int32) (x4 : Int32) (M : MM), V G trI 7 0 0 28 [(0, .ref x0), (1, .int x1), (2, .int x2), (3, .int x3), (4, .int x4)] [] M (K28 x0 x1 x2 x3 x4 M)) (x0 : Nat) (x1 : Int32) (x2 : Int32) (x3 : Int32) (x4 : Int32) (s0 : Int32) (M : MM) : V G trI 7 0 0 74 [(0, .ref x0), (1, .int x1), (2, .int x2), (3, .int x3), (4, .int x4)] [.int s0] M (f_X1_thingIsOut_74 K28 x0 x1 x2 x3 x4 s0 M) := by
  unfold f_X1_thingIsOut_74
  refine v_istore (lv' := [(0, .ref x0), (1, .int x1), (2, .int x2), (3, .int x3), (4, .int x4), (5, .int s0)]) X 76 dX1_thingIsOut_74 (by decide) rfl rfl ?_
  refine v_aload_n X 77 0 dX1_thingIsOut_76 rfl rfl ?_
  refine v_getR X 80 fl_X1_49.r dX1_thingIsOut_77 rfl (fun v1 => ?_)
  refine v_iload X 82 4 dX1_thingIsOut_80 rfl rfl ?_
  refine v_vI X 85 cv_X5_first ml_X1_70 (n1 := 1) rfl [.int x4] rfl rfl rfl dX1_thingIsOut_82 rfl (fun r M1 h => c_X5_first _ _ _ _ _ _ h) (fun r3 M2 => ?_)
  refine v_iload_n X 86 3 dX1_thingIsOut_85 rfl rfl ?_
  refine v_icge X 89 103 dX1_thingIsOut_86 rfl rfl ?_ ?_
  · exact L_X1_thingIsOut_103 X Y hK28 _ _ _ _ _ _ _
  · refine v_iload_n X 90 2 dX1_thingIsOut_89 rfl rfl ?_
    refine v_aload_n X 91 0 dX1_thingIsOut_90 rfl rfl ?_
    refine v_iload X 93 4 dX1_thingIsOut_91 rfl rfl ?_
    refine v_vI X 96 cv_X1_back ml_X1_149 (n1 := 2) rfl [.int x4] rfl rfl rfl dX1_thingIsOut_93 rfl (fun r M1 h => c_X1_back _ _ _ _ _ _ h) (fun r5 M4 => ?_)
    refine v_icge X 99 103 dX1_thingIsOut_96 rfl rfl ?_ ?_
    · exact L_X1_thingIsOut_103 X Y hK28 _ _ _ _ _ _ _
    · refine v_iconst X 100 dX1_thingIsOut_99 ik_1 rfl ?_
      refine v_goto X 104 dX1_thingIsOut_100 rfl ?_
      exact L_X1_thingIsOut_104 X Y hK28 _ _ _ _ _ _ _ _
set_option maxRecDepth 4000 in
theorem L_X1_thingIsOut_28 {G : Gx} (X : Cb G cX1_thingIsOut 7 RX1 (RM 3 0 0) false) (Y : Cr G (some .boolean) 0 0) : ∀ (n : Nat) (x0 : Nat) (x1 : Int32) (x2 : Int32) (x3 : Int32) (x4 : Int32) (M : MM), V G trI 7 0 0 28 [(0, .ref x0), (1, .int x1), (2, .int x2), (3, .int x3), (4, .int x4)] [] M (f_X1_thingIsOut_28 n x0 x1 x2 x3 x4 M) := by
  intro n
  induction n with
  | zero => intro x0 x1 x2 x3 x4 M; rw [f_X1_thingIsOut_28]; exact v_none
  | succ n ih =>
    intro x0 x1 x2 x3 x4 M
    rw [f_X1_thingIsOut_28]
    refine v_iload X 30 4 dX1_thingIsOut_28 rfl rfl ?_
    refine v_aload_n X 31 0 dX1_thingIsOut_30 rfl rfl ?_
    refine v_getR X 34 fl_X1_49.r dX1_thingIsOut_31 rfl (fun v1 => ?_)
    refine v_getI X 37 fl_X1_60.r dX1_thingIsOut_34 rfl (fun v2 => ?_)
    refine v_icge X 40 138 dX1_thingIsOut_37 rfl rfl ?_ ?_
    · refine v_iconst X 139 dX1_thingIsOut_138 ik_0 rfl ?_
      exact v_zret X Y (Nat.le_refl _) (Nat.le_refl _) dX1_thingIsOut_139
    · refine v_aload_n X 41 0 dX1_thingIsOut_40 rfl rfl ?_
      refine v_getR X 44 fl_X1_45.r dX1_thingIsOut_41 rfl (fun v3 => ?_)
      refine v_getR X 47 fl_X1_152 dX1_thingIsOut_44 rfl (fun v4 => ?_)
      refine v_aload_n X 48 0 dX1_thingIsOut_47 rfl rfl ?_
      refine v_getR X 51 fl_X1_49.r dX1_thingIsOut_48 rfl (fun v5 => ?_)
      refine v_iload X 53 4 dX1_thingIsOut_51 rfl rfl ?_
      refine v_vI X 56 cv_X5_what ml_X1_67 (n1 := 1) rfl [.int x4] rfl rfl rfl dX1_thingIsOut_53 rfl (fun r M1 h => c_X5_what _ _ _ _ _ _ h) (fun r7 M6 => ?_)
      refine v_iald X 57 dX1_thingIsOut_56 rfl (fun v8 => ?_)
      refine v_aload_n X 58 0 dX1_thingIsOut_57 rfl rfl ?_
      refine v_getR X 61 fl_X1_45.r dX1_thingIsOut_58 rfl (fun v9 => ?_)
      refine v_getR X 64 fl_X1_152 dX1_thingIsOut_61 rfl (fun v10 => ?_)
      refine v_iload_n X 65 1 dX1_thingIsOut_64 rfl rfl ?_
      refine v_iald X 66 dX1_thingIsOut_65 rfl (fun v11 => ?_)
      refine v_icne X 69 73 dX1_thingIsOut_66 rfl rfl ?_ ?_
      · refine v_iconst X 74 dX1_thingIsOut_73 ik_0 rfl ?_
        exact L_X1_thingIsOut_74 X Y ih _ _ _ _ _ _ _
      · refine v_iconst X 70 dX1_thingIsOut_69 ik_1 rfl ?_
        refine v_goto X 74 dX1_thingIsOut_70 rfl ?_
        exact L_X1_thingIsOut_74 X Y ih _ _ _ _ _ _ _
set_option maxRecDepth 4000 in
theorem L_X1_thingIsOut_0 {G : Gx} (X : Cb G cX1_thingIsOut 7 RX1 (RM 3 0 0) false) (Y : Cr G (some .boolean) 0 0) (x0 : Nat) (x1 : Int32) (x2 : Int32) (M : MM) : V G trI 7 0 0 0 [(0, .ref x0), (1, .int x1), (2, .int x2)] [] M (f_X1_thingIsOut_0 x0 x1 x2 M) := by
  unfold f_X1_thingIsOut_0
  refine v_aload_n X 1 0 dX1_thingIsOut_0 rfl rfl ?_
  refine v_getR X 4 fl_X1_45.r dX1_thingIsOut_1 rfl (fun v1 => ?_)
  refine v_getR X 7 fl_X1_152 dX1_thingIsOut_4 rfl (fun v2 => ?_)
  refine v_iload_n X 8 1 dX1_thingIsOut_7 rfl rfl ?_
  refine v_iald X 9 dX1_thingIsOut_8 rfl (fun v3 => ?_)
  refine v_ifne X 12 14 dX1_thingIsOut_9 rfl rfl ?_ ?_
  · refine v_iload_n X 15 2 dX1_thingIsOut_14 rfl rfl ?_
    refine v_aload_n X 16 0 dX1_thingIsOut_15 rfl rfl ?_
    refine v_getR X 19 fl_X1_45.r dX1_thingIsOut_16 rfl (fun v4 => ?_)
    refine v_iload_n X 20 1 dX1_thingIsOut_19 rfl rfl ?_
    refine v_vI X 23 cv_X9_length ml_X1_73 (n1 := 1) rfl [.int x1] rfl rfl rfl dX1_thingIsOut_20 rfl (fun r M1 h => c_X9_length _ _ _ _ _ _ h) (fun r6 M5 => ?_)
    refine v_iadd X 24 dX1_thingIsOut_23 rfl ?_
    refine v_bnI (fun y7 => ?_)
    refine v_istore_n (lv' := [(0, .ref x0), (1, .int x1), (2, .int x2), (3, .int y7)]) X 25 dX1_thingIsOut_24 (by decide) rfl rfl ?_
    refine v_iconst X 26 dX1_thingIsOut_25 ik_0 rfl ?_
    refine v_istore (lv' := [(0, .ref x0), (1, .int x1), (2, .int x2), (3, .int y7), (4, .int (0 : Int32))]) X 28 dX1_thingIsOut_26 (by decide) rfl rfl ?_
    exact L_X1_thingIsOut_28 X Y 1024 _ _ _ _ _ _
  · refine v_iconst X 13 dX1_thingIsOut_12 ik_0 rfl ?_
    exact v_zret X Y (Nat.le_refl _) (Nat.le_refl _) dX1_thingIsOut_13
theorem c_X1_thingIsOut (l : Launch) (x0 : Nat) (x1 : Int32) (x2 : Int32) (M : MM) (r : Int32) (M1 : MM) (h : f_X1_thingIsOut x0 x1 x2 M = some (r, M1)) : KV l yX1_thingIsOut cX1_thingIsOut 7 (some .boolean) (RM 3 0 0) false 1 x0 [.int x1, .int x2] M (some (.int r)) M1 := by
  obtain ⟨hO, h2⟩ := iteO_some h
  exact ⟨hO, ct_of (tr := trI) (by decide) (Nat.le_of_ble_eq_true rfl) [(0, .ref x0), (1, .int x1), (2, .int x2)] rfl h2 (fun G X Y hn hl => L_X1_thingIsOut_0 X Y x0 x1 x2 M)⟩

def f_X1_brokenBy_0 (x0 : Nat) (x1 : Int32) (M : MM) : Option (Int32 × MM) :=
    b1 (gR 1 1 x0 M) fun v1 =>
    b2 (f_X5_who v1 x1 M) fun r3 M2 =>
    b1 (gR 1 1 x0 M2) fun v4 =>
    b2 (f_X5_what v4 x1 M2) fun r6 M5 =>
    b1 (gR 1 1 x0 M5) fun v7 =>
    b2 (f_X5_first v7 x1 M5) fun r9 M8 =>
    b1 (gR 1 0 x0 M8) fun v10 =>
    b2 (f_X9_endsInTime v10 r6 r9 M8) fun r12 M11 =>
    if r12 = 0 then
      some ((1 : Int32), M11)
    else
      b1 (gR 1 0 x0 M11) fun v13 =>
      b2 (f_X9_isOpen v13 r6 r9 M11) fun r15 M14 =>
      if r15 = 0 then
        some ((2 : Int32), M14)
      else
        b2 (f_X1_isAwayByAnother x0 x1 M14) fun r17 M16 =>
        if r17 = 0 then
          b2 (f_X1_thingIsOut x0 r6 r9 M16) fun r19 M18 =>
          if r19 = 0 then
            b1 (gR 1 0 x0 M18) fun v20 =>
            b1 (gR 9 0 v20 M18) fun v21 =>
            b1 (ldZ v21 r3 M18) fun v22 =>
            if v22 = 0 then
              some ((0 : Int32), M18)
            else
              b2 (f_X1_hasCompany x0 r3 r6 r9 M18) fun r24 M23 =>
              if r24 = 0 then
                some ((5 : Int32), M23)
              else
                some ((0 : Int32), M23)
          else
            some ((4 : Int32), M18)
        else
          some ((3 : Int32), M16)

def f_X1_brokenBy (x0 : Nat) (x1 : Int32) (M : MM) : Option (Int32 × MM) := if isO 1 x0 M = true then f_X1_brokenBy_0 x0 x1 M else none
set_option maxRecDepth 4000 in
theorem L_X1_brokenBy_0 {G : Gx} (X : Cb G cX1_brokenBy 5 RX1 (RM 4 0 0) false) (Y : Cr G (some .int) 0 0) (x0 : Nat) (x1 : Int32) (M : MM) : V G trI 5 0 0 0 [(0, .ref x0), (1, .int x1)] [] M (f_X1_brokenBy_0 x0 x1 M) := by
  unfold f_X1_brokenBy_0
  refine v_aload_n X 1 0 dX1_brokenBy_0 rfl rfl ?_
  refine v_getR X 4 fl_X1_49.r dX1_brokenBy_1 rfl (fun v1 => ?_)
  refine v_iload_n X 5 1 dX1_brokenBy_4 rfl rfl ?_
  refine v_vI X 8 cv_X5_who ml_X1_63 (n1 := 1) rfl [.int x1] rfl rfl rfl dX1_brokenBy_5 rfl (fun r M1 h => c_X5_who _ _ _ _ _ _ h) (fun r3 M2 => ?_)
  refine v_istore_n (lv' := [(0, .ref x0), (1, .int x1), (2, .int r3)]) X 9 dX1_brokenBy_8 (by decide) rfl rfl ?_
  refine v_aload_n X 10 0 dX1_brokenBy_9 rfl rfl ?_
  refine v_getR X 13 fl_X1_49.r dX1_brokenBy_10 rfl (fun v4 => ?_)
  refine v_iload_n X 14 1 dX1_brokenBy_13 rfl rfl ?_
  refine v_vI X 17 cv_X5_what ml_X1_67 (n1 := 1) rfl [.int x1] rfl rfl rfl dX1_brokenBy_14 rfl (fun r M1 h => c_X5_what _ _ _ _ _ _ h) (fun r6 M5 => ?_)
  refine v_istore_n (lv' := [(0, .ref x0), (1, .int x1), (2, .int r3), (3, .int r6)]) X 18 dX1_brokenBy_17 (by decide) rfl rfl ?_
  refine v_aload_n X 19 0 dX1_brokenBy_18 rfl rfl ?_
  refine v_getR X 22 fl_X1_49.r dX1_brokenBy_19 rfl (fun v7 => ?_)
  refine v_iload_n X 23 1 dX1_brokenBy_22 rfl rfl ?_
  refine v_vI X 26 cv_X5_first ml_X1_70 (n1 := 1) rfl [.int x1] rfl rfl rfl dX1_brokenBy_23 rfl (fun r M1 h => c_X5_first _ _ _ _ _ _ h) (fun r9 M8 => ?_)
  refine v_istore (lv' := [(0, .ref x0), (1, .int x1), (2, .int r3), (3, .int r6), (4, .int r9)]) X 28 dX1_brokenBy_26 (by decide) rfl rfl ?_
  refine v_aload_n X 29 0 dX1_brokenBy_28 rfl rfl ?_
  refine v_getR X 32 fl_X1_45.r dX1_brokenBy_29 rfl (fun v10 => ?_)
  refine v_iload_n X 33 3 dX1_brokenBy_32 rfl rfl ?_
  refine v_iload X 35 4 dX1_brokenBy_33 rfl rfl ?_
  refine v_vI X 38 cv_X9_endsInTime ml_X1_120 (n1 := 2) rfl [.int r6, .int r9] rfl rfl rfl dX1_brokenBy_35 rfl (fun r M1 h => c_X9_endsInTime _ _ _ _ _ _ _ h) (fun r12 M11 => ?_)
  refine v_ifne X 41 43 dX1_brokenBy_38 rfl rfl ?_ ?_
  · refine v_aload_n X 44 0 dX1_brokenBy_43 rfl rfl ?_
    refine v_getR X 47 fl_X1_45.r dX1_brokenBy_44 rfl (fun v13 => ?_)
    refine v_iload_n X 48 3 dX1_brokenBy_47 rfl rfl ?_
    refine v_iload X 50 4 dX1_brokenBy_48 rfl rfl ?_
    refine v_vI X 53 cv_X9_isOpen ml_X1_124 (n1 := 1) rfl [.int r6, .int r9] rfl rfl rfl dX1_brokenBy_50 rfl (fun r M1 h => c_X9_isOpen _ _ _ _ _ _ _ h) (fun r15 M14 => ?_)
    refine v_ifne X 56 58 dX1_brokenBy_53 rfl rfl ?_ ?_
    · refine v_aload_n X 59 0 dX1_brokenBy_58 rfl rfl ?_
      refine v_iload_n X 60 1 dX1_brokenBy_59 rfl rfl ?_
      refine v_vI X 63 cv_X1_isAwayByAnother ml_X1_127 (n1 := 3) rfl [.int x1] rfl rfl rfl dX1_brokenBy_60 rfl (fun r M1 h => c_X1_isAwayByAnother _ _ _ _ _ _ h) (fun r17 M16 => ?_)
      refine v_ifeq X 66 68 dX1_brokenBy_63 rfl rfl ?_ ?_
      · refine v_aload_n X 69 0 dX1_brokenBy_68 rfl rfl ?_
        refine v_iload_n X 70 3 dX1_brokenBy_69 rfl rfl ?_
        refine v_iload X 72 4 dX1_brokenBy_70 rfl rfl ?_
        refine v_vI X 75 cv_X1_thingIsOut ml_X1_130 (n1 := 3) rfl [.int r6, .int r9] rfl rfl rfl dX1_brokenBy_72 rfl (fun r M1 h => c_X1_thingIsOut _ _ _ _ _ _ _ h) (fun r19 M18 => ?_)
        refine v_ifeq X 78 80 dX1_brokenBy_75 rfl rfl ?_ ?_
        · refine v_aload_n X 81 0 dX1_brokenBy_80 rfl rfl ?_
          refine v_getR X 84 fl_X1_45.r dX1_brokenBy_81 rfl (fun v20 => ?_)
          refine v_getR X 87 fl_X1_133 dX1_brokenBy_84 rfl (fun v21 => ?_)
          refine v_iload_n X 88 2 dX1_brokenBy_87 rfl rfl ?_
          refine v_zald X 89 dX1_brokenBy_88 rfl (fun v22 => ?_)
          refine v_ifeq X 92 107 dX1_brokenBy_89 rfl rfl ?_ ?_
          · refine v_iconst X 108 dX1_brokenBy_107 ik_0 rfl ?_
            exact v_iret X Y (Nat.le_refl _) (Nat.le_refl _) dX1_brokenBy_108
          · refine v_aload_n X 93 0 dX1_brokenBy_92 rfl rfl ?_
            refine v_iload_n X 94 2 dX1_brokenBy_93 rfl rfl ?_
            refine v_iload_n X 95 3 dX1_brokenBy_94 rfl rfl ?_
            refine v_iload X 97 4 dX1_brokenBy_95 rfl rfl ?_
            refine v_vI X 100 cv_X1_hasCompany ml_X1_136 (n1 := 3) rfl [.int r3, .int r6, .int r9] rfl rfl rfl dX1_brokenBy_97 rfl (fun r M1 h => c_X1_hasCompany _ _ _ _ _ _ _ _ h) (fun r24 M23 => ?_)
            refine v_ifne X 103 107 dX1_brokenBy_100 rfl rfl ?_ ?_
            · refine v_iconst X 108 dX1_brokenBy_107 ik_0 rfl ?_
              exact v_iret X Y (Nat.le_refl _) (Nat.le_refl _) dX1_brokenBy_108
            · refine v_iconst X 104 dX1_brokenBy_103 ik_5 rfl ?_
              refine v_goto X 108 dX1_brokenBy_104 rfl ?_
              exact v_iret X Y (Nat.le_refl _) (Nat.le_refl _) dX1_brokenBy_108
        · refine v_iconst X 79 dX1_brokenBy_78 ik_4 rfl ?_
          exact v_iret X Y (Nat.le_refl _) (Nat.le_refl _) dX1_brokenBy_79
      · refine v_iconst X 67 dX1_brokenBy_66 ik_3 rfl ?_
        exact v_iret X Y (Nat.le_refl _) (Nat.le_refl _) dX1_brokenBy_67
    · refine v_iconst X 57 dX1_brokenBy_56 ik_2 rfl ?_
      exact v_iret X Y (Nat.le_refl _) (Nat.le_refl _) dX1_brokenBy_57
  · refine v_iconst X 42 dX1_brokenBy_41 ik_1 rfl ?_
    exact v_iret X Y (Nat.le_refl _) (Nat.le_refl _) dX1_brokenBy_42
theorem c_X1_brokenBy (l : Launch) (x0 : Nat) (x1 : Int32) (M : MM) (r : Int32) (M1 : MM) (h : f_X1_brokenBy x0 x1 M = some (r, M1)) : KV l yX1_brokenBy cX1_brokenBy 5 (some .int) (RM 4 0 0) false 1 x0 [.int x1] M (some (.int r)) M1 := by
  obtain ⟨hO, h2⟩ := iteO_some h
  exact ⟨hO, ct_of (tr := trI) (by decide) (Nat.le_of_ble_eq_true rfl) [(0, .ref x0), (1, .int x1)] rfl h2 (fun G X Y hn hl => L_X1_brokenBy_0 X Y x0 x1 M)⟩

def f_X1_wouldBeMissed_64 (x4 : Int64) (M : MM) : Option (Int32 × MM) :=
    if (lg_cmp x4 (0 : Int64)) = 0 then
      rz (0 : Int32) M
    else
      rz (1 : Int32) M

def f_X1_wouldBeMissed_0 (x0 : Nat) (x1 : Int32) (x2 : Int32) (x3 : Int32) (M : MM) : Option (Int32 × MM) :=
    b1 (gR 1 6 x0 M) fun v1 =>
    b1 (ldR 23 v1 x1 M) fun v2 =>
    b1 (gR 1 0 x0 M) fun v3 =>
    b2 (f_X9_length v3 x2 M) fun r5 M4 =>
    b2 (f_X2_part v2 x3 r5 M4) fun r7 M6 =>
    b1 (gR 1 0 x0 M6) fun v8 =>
    b1 (gR 9 6 v8 M6) fun v9 =>
    b1 (ldZ v9 x2 M6) fun v10 =>
    if v10 = 0 then
      f_X1_wouldBeMissed_64 r7 M6
    else
      b1 (gR 1 0 x0 M6) fun v11 =>
      b1 (gR 9 2 v11 M6) fun v12 =>
      b1 (ldI v12 x2 M6) fun v13 =>
      b1 (gR 1 0 x0 M6) fun v14 =>
      b1 (gR 9 1 v14 M6) fun v15 =>
      b1 (ldI v15 x2 M6) fun v16 =>
      bn (r7 &&& ((lshlv ((lshlv (1 : Int64) v13) - (1 : Int64)) v16) ^^^ (-1 : Int64)) : Int64) fun y17 =>
      f_X1_wouldBeMissed_64 y17 M6

def f_X1_wouldBeMissed (x0 : Nat) (x1 : Int32) (x2 : Int32) (x3 : Int32) (M : MM) : Option (Int32 × MM) := if isO 1 x0 M = true then f_X1_wouldBeMissed_0 x0 x1 x2 x3 M else none
set_option maxRecDepth 4000 in
theorem L_X1_wouldBeMissed_64 {G : Gx} (X : Cb G cX1_wouldBeMissed 6 RX1 (RM 2 0 0) false) (Y : Cr G (some .boolean) 0 0) (x4 : Int64) (M : MM) : V G trI 6 0 0 64 [(4, .long x4)] [] M (f_X1_wouldBeMissed_64 x4 M) := by
  unfold f_X1_wouldBeMissed_64
  refine v_lload X 66 0 dX1_wouldBeMissed_64 rfl rfl ?_
  refine v_lconst X 67 dX1_wouldBeMissed_66 lk_0 rfl ?_
  refine v_lcmp X 68 dX1_wouldBeMissed_67 rfl ?_
  refine v_ifeq X 71 75 dX1_wouldBeMissed_68 rfl rfl ?_ ?_
  · refine v_iconst X 76 dX1_wouldBeMissed_75 ik_0 rfl ?_
    exact v_zret X Y (Nat.le_refl _) (Nat.le_refl _) dX1_wouldBeMissed_76
  · refine v_iconst X 72 dX1_wouldBeMissed_71 ik_1 rfl ?_
    refine v_goto X 76 dX1_wouldBeMissed_72 rfl ?_
    exact v_zret X Y (Nat.le_refl _) (Nat.le_refl _) dX1_wouldBeMissed_76
set_option maxRecDepth 4000 in
theorem L_X1_wouldBeMissed_0 {G : Gx} (X : Cb G cX1_wouldBeMissed 6 RX1 (RM 2 0 0) false) (Y : Cr G (some .boolean) 0 0) (x0 : Nat) (x1 : Int32) (x2 : Int32) (x3 : Int32) (M : MM) : V G trI 6 0 0 0 [(0, .ref x0), (1, .int x1), (2, .int x2), (3, .int x3)] [] M (f_X1_wouldBeMissed_0 x0 x1 x2 x3 M) := by
  unfold f_X1_wouldBeMissed_0
  refine v_aload_n X 1 0 dX1_wouldBeMissed_0 rfl rfl ?_
  refine v_getR X 4 fl_X1_30.r dX1_wouldBeMissed_1 rfl (fun v1 => ?_)
  refine v_iload_n X 5 1 dX1_wouldBeMissed_4 rfl rfl ?_
  refine v_aald23 X 6 dX1_wouldBeMissed_5 rfl (fun v2 => ?_)
  refine v_iload_n X 7 3 dX1_wouldBeMissed_6 rfl rfl ?_
  refine v_aload_n X 8 0 dX1_wouldBeMissed_7 rfl rfl ?_
  refine v_getR X 11 fl_X1_45.r dX1_wouldBeMissed_8 rfl (fun v3 => ?_)
  refine v_iload_n X 12 2 dX1_wouldBeMissed_11 rfl rfl ?_
  refine v_vI X 15 cv_X9_length ml_X1_73 (n1 := 1) rfl [.int x2] rfl rfl rfl dX1_wouldBeMissed_12 rfl (fun r M1 h => c_X9_length _ _ _ _ _ _ h) (fun r5 M4 => ?_)
  refine v_vL X 18 cv_X2_part ml_X1_140 (n1 := 1) rfl [.int x3, .int r5] rfl rfl rfl dX1_wouldBeMissed_15 rfl (fun r M1 h => c_X2_part _ _ _ _ _ _ _ h) (fun r7 M6 => ?_)
  refine v_lstore (lv' := [(0, .ref x0), (1, .int x1), (2, .int x2), (3, .int x3), (4, .long r7)]) X 20 dX1_wouldBeMissed_18 (by decide) rfl rfl ?_
  refine v_aload_n X 21 0 dX1_wouldBeMissed_20 rfl rfl ?_
  refine v_getR X 24 fl_X1_45.r dX1_wouldBeMissed_21 rfl (fun v8 => ?_)
  refine v_getR X 27 fl_X1_86 dX1_wouldBeMissed_24 rfl (fun v9 => ?_)
  refine v_iload_n X 28 2 dX1_wouldBeMissed_27 rfl rfl ?_
  refine v_zald X 29 dX1_wouldBeMissed_28 rfl (fun v10 => ?_)
  refine v_ifeq X 32 64 dX1_wouldBeMissed_29 rfl rfl ?_ ?_
  · exact v_sb [4] (L_X1_wouldBeMissed_64 X Y _ _) rfl
  · refine v_lload X 34 4 dX1_wouldBeMissed_32 rfl rfl ?_
    refine v_lconst X 35 dX1_wouldBeMissed_34 lk_1 rfl ?_
    refine v_aload_n X 36 0 dX1_wouldBeMissed_35 rfl rfl ?_
    refine v_getR X 39 fl_X1_45.r dX1_wouldBeMissed_36 rfl (fun v11 => ?_)
    refine v_getR X 42 fl_X1_83 dX1_wouldBeMissed_39 rfl (fun v12 => ?_)
    refine v_iload_n X 43 2 dX1_wouldBeMissed_42 rfl rfl ?_
    refine v_iald X 44 dX1_wouldBeMissed_43 rfl (fun v13 => ?_)
    refine v_lshl X 45 dX1_wouldBeMissed_44 rfl ?_
    refine v_lconst X 46 dX1_wouldBeMissed_45 lk_1 rfl ?_
    refine v_lsub X 47 dX1_wouldBeMissed_46 rfl ?_
    refine v_aload_n X 48 0 dX1_wouldBeMissed_47 rfl rfl ?_
    refine v_getR X 51 fl_X1_45.r dX1_wouldBeMissed_48 rfl (fun v14 => ?_)
    refine v_getR X 54 fl_X1_80 dX1_wouldBeMissed_51 rfl (fun v15 => ?_)
    refine v_iload_n X 55 2 dX1_wouldBeMissed_54 rfl rfl ?_
    refine v_iald X 56 dX1_wouldBeMissed_55 rfl (fun v16 => ?_)
    refine v_lshl X 57 dX1_wouldBeMissed_56 rfl ?_
    refine v_ldc2 X 60 dX1_wouldBeMissed_57 kl_X1_147 rfl ?_
    refine v_lxor X 61 dX1_wouldBeMissed_60 rfl ?_
    refine v_land X 62 dX1_wouldBeMissed_61 rfl ?_
    refine v_bnJ (fun y17 => ?_)
    refine v_lstore (lv' := [(0, .ref x0), (1, .int x1), (2, .int x2), (3, .int x3), (4, .long y17)]) X 64 dX1_wouldBeMissed_62 (by decide) rfl rfl ?_
    exact v_sb [4] (L_X1_wouldBeMissed_64 X Y _ _) rfl
theorem c_X1_wouldBeMissed (l : Launch) (x0 : Nat) (x1 : Int32) (x2 : Int32) (x3 : Int32) (M : MM) (r : Int32) (M1 : MM) (h : f_X1_wouldBeMissed x0 x1 x2 x3 M = some (r, M1)) : KV l yX1_wouldBeMissed cX1_wouldBeMissed 6 (some .boolean) (RM 2 0 0) false 1 x0 [.int x1, .int x2, .int x3] M (some (.int r)) M1 := by
  obtain ⟨hO, h2⟩ := iteO_some h
  exact ⟨hO, ct_of (tr := trI) (by decide) (Nat.le_of_ble_eq_true rfl) [(0, .ref x0), (1, .int x1), (2, .int x2), (3, .int x3)] rfl h2 (fun G X Y hn hl => L_X1_wouldBeMissed_0 X Y x0 x1 x2 x3 M)⟩

def f_X1_hindrance_88 (x0 : Nat) (x1 : Int32) (x2 : Int32) (x3 : Int32) (M : MM) : Option (Int32 × MM) :=
    b2 (f_X1_wouldBeMissed x0 x1 x2 x3 M) fun r2 M1 =>
    if r2 = 0 then
      b1 (gR 1 1 x0 M1) fun v3 =>
      b1 (gI 5 1 v3 M1) fun v4 =>
      if v4 < (12 : Int32) then
        some ((0 : Int32), M1)
      else
        some ((7 : Int32), M1)
    else
      some ((6 : Int32), M1)

def f_X1_hindrance_0 (x0 : Nat) (x1 : Int32) (x2 : Int32) (x3 : Int32) (M : MM) : Option (Int32 × MM) :=
    b1 (gR 1 0 x0 M) fun v1 =>
    b2 (f_X9_endsInTime v1 x2 x3 M) fun r3 M2 =>
    if r3 = 0 then
      some ((1 : Int32), M2)
    else
      b1 (gR 1 0 x0 M2) fun v4 =>
      b2 (f_X9_isOpen v4 x2 x3 M2) fun r6 M5 =>
      if r6 = 0 then
        some ((2 : Int32), M5)
      else
        b1 (gR 1 2 x0 M5) fun v7 =>
        b1 (ldR 23 v7 x1 M5) fun v8 =>
        b1 (gR 1 0 x0 M5) fun v9 =>
        b2 (f_X9_length v9 x2 M5) fun r11 M10 =>
        b2 (f_X2_part v8 x3 r11 M10) fun r13 M12 =>
        if (lg_cmp r13 (0 : Int64)) = 0 then
          b2 (f_X1_thingIsOut x0 x2 x3 M12) fun r15 M14 =>
          if r15 = 0 then
            b1 (gR 1 0 x0 M14) fun v16 =>
            b1 (gR 9 0 v16 M14) fun v17 =>
            b1 (ldZ v17 x1 M14) fun v18 =>
            if v18 = 0 then
              f_X1_hindrance_88 x0 x1 x2 x3 M14
            else
              b2 (f_X1_hasCompany x0 x1 x2 x3 M14) fun r20 M19 =>
              if r20 = 0 then
                some ((5 : Int32), M19)
              else
                f_X1_hindrance_88 x0 x1 x2 x3 M19
          else
            some ((4 : Int32), M14)
        else
          some ((3 : Int32), M12)

def f_X1_hindrance (x0 : Nat) (x1 : Int32) (x2 : Int32) (x3 : Int32) (M : MM) : Option (Int32 × MM) := if isO 1 x0 M = true then f_X1_hindrance_0 x0 x1 x2 x3 M else none
set_option maxRecDepth 4000 in
theorem L_X1_hindrance_88 {G : Gx} (X : Cb G cX1_hindrance 4 RX1 (RM 4 0 0) false) (Y : Cr G (some .int) 0 0) (x0 : Nat) (x1 : Int32) (x2 : Int32) (x3 : Int32) (M : MM) : V G trI 4 0 0 88 [(0, .ref x0), (1, .int x1), (2, .int x2), (3, .int x3)] [] M (f_X1_hindrance_88 x0 x1 x2 x3 M) := by
  unfold f_X1_hindrance_88
  refine v_aload_n X 89 0 dX1_hindrance_88 rfl rfl ?_
  refine v_iload_n X 90 1 dX1_hindrance_89 rfl rfl ?_
  refine v_iload_n X 91 2 dX1_hindrance_90 rfl rfl ?_
  refine v_iload_n X 92 3 dX1_hindrance_91 rfl rfl ?_
  refine v_vI X 95 cv_X1_wouldBeMissed ml_X1_144 (n1 := 2) rfl [.int x1, .int x2, .int x3] rfl rfl rfl dX1_hindrance_92 rfl (fun r M1 h => c_X1_wouldBeMissed _ _ _ _ _ _ _ _ h) (fun r2 M1 => ?_)
  refine v_ifeq X 98 101 dX1_hindrance_95 rfl rfl ?_ ?_
  · refine v_aload_n X 102 0 dX1_hindrance_101 rfl rfl ?_
    refine v_getR X 105 fl_X1_49.r dX1_hindrance_102 rfl (fun v3 => ?_)
    refine v_getI X 108 fl_X1_60.r dX1_hindrance_105 rfl (fun v4 => ?_)
    refine v_bipush X 110 dX1_hindrance_108 bk_12 rfl ?_
    refine v_iclt X 113 118 dX1_hindrance_110 rfl rfl ?_ ?_
    · refine v_iconst X 119 dX1_hindrance_118 ik_0 rfl ?_
      exact v_iret X Y (Nat.le_refl _) (Nat.le_refl _) dX1_hindrance_119
    · refine v_bipush X 115 dX1_hindrance_113 bk_7 rfl ?_
      refine v_goto X 119 dX1_hindrance_115 rfl ?_
      exact v_iret X Y (Nat.le_refl _) (Nat.le_refl _) dX1_hindrance_119
  · refine v_bipush X 100 dX1_hindrance_98 bk_6 rfl ?_
    exact v_iret X Y (Nat.le_refl _) (Nat.le_refl _) dX1_hindrance_100
set_option maxRecDepth 4000 in
theorem L_X1_hindrance_0 {G : Gx} (X : Cb G cX1_hindrance 4 RX1 (RM 4 0 0) false) (Y : Cr G (some .int) 0 0) (x0 : Nat) (x1 : Int32) (x2 : Int32) (x3 : Int32) (M : MM) : V G trI 4 0 0 0 [(0, .ref x0), (1, .int x1), (2, .int x2), (3, .int x3)] [] M (f_X1_hindrance_0 x0 x1 x2 x3 M) := by
  unfold f_X1_hindrance_0
  refine v_aload_n X 1 0 dX1_hindrance_0 rfl rfl ?_
  refine v_getR X 4 fl_X1_45.r dX1_hindrance_1 rfl (fun v1 => ?_)
  refine v_iload_n X 5 2 dX1_hindrance_4 rfl rfl ?_
  refine v_iload_n X 6 3 dX1_hindrance_5 rfl rfl ?_
  refine v_vI X 9 cv_X9_endsInTime ml_X1_120 (n1 := 2) rfl [.int x2, .int x3] rfl rfl rfl dX1_hindrance_6 rfl (fun r M1 h => c_X9_endsInTime _ _ _ _ _ _ _ h) (fun r3 M2 => ?_)
  refine v_ifne X 12 14 dX1_hindrance_9 rfl rfl ?_ ?_
  · refine v_aload_n X 15 0 dX1_hindrance_14 rfl rfl ?_
    refine v_getR X 18 fl_X1_45.r dX1_hindrance_15 rfl (fun v4 => ?_)
    refine v_iload_n X 19 2 dX1_hindrance_18 rfl rfl ?_
    refine v_iload_n X 20 3 dX1_hindrance_19 rfl rfl ?_
    refine v_vI X 23 cv_X9_isOpen ml_X1_124 (n1 := 1) rfl [.int x2, .int x3] rfl rfl rfl dX1_hindrance_20 rfl (fun r M1 h => c_X9_isOpen _ _ _ _ _ _ _ h) (fun r6 M5 => ?_)
    refine v_ifne X 26 28 dX1_hindrance_23 rfl rfl ?_ ?_
    · refine v_aload_n X 29 0 dX1_hindrance_28 rfl rfl ?_
      refine v_getR X 32 fl_X1_13.r dX1_hindrance_29 rfl (fun v7 => ?_)
      refine v_iload_n X 33 1 dX1_hindrance_32 rfl rfl ?_
      refine v_aald23 X 34 dX1_hindrance_33 rfl (fun v8 => ?_)
      refine v_iload_n X 35 3 dX1_hindrance_34 rfl rfl ?_
      refine v_aload_n X 36 0 dX1_hindrance_35 rfl rfl ?_
      refine v_getR X 39 fl_X1_45.r dX1_hindrance_36 rfl (fun v9 => ?_)
      refine v_iload_n X 40 2 dX1_hindrance_39 rfl rfl ?_
      refine v_vI X 43 cv_X9_length ml_X1_73 (n1 := 1) rfl [.int x2] rfl rfl rfl dX1_hindrance_40 rfl (fun r M1 h => c_X9_length _ _ _ _ _ _ h) (fun r11 M10 => ?_)
      refine v_vL X 46 cv_X2_part ml_X1_140 (n1 := 1) rfl [.int x3, .int r11] rfl rfl rfl dX1_hindrance_43 rfl (fun r M1 h => c_X2_part _ _ _ _ _ _ _ h) (fun r13 M12 => ?_)
      refine v_lconst X 47 dX1_hindrance_46 lk_0 rfl ?_
      refine v_lcmp X 48 dX1_hindrance_47 rfl ?_
      refine v_ifeq X 51 53 dX1_hindrance_48 rfl rfl ?_ ?_
      · refine v_aload_n X 54 0 dX1_hindrance_53 rfl rfl ?_
        refine v_iload_n X 55 2 dX1_hindrance_54 rfl rfl ?_
        refine v_iload_n X 56 3 dX1_hindrance_55 rfl rfl ?_
        refine v_vI X 59 cv_X1_thingIsOut ml_X1_130 (n1 := 3) rfl [.int x2, .int x3] rfl rfl rfl dX1_hindrance_56 rfl (fun r M1 h => c_X1_thingIsOut _ _ _ _ _ _ _ h) (fun r15 M14 => ?_)
        refine v_ifeq X 62 64 dX1_hindrance_59 rfl rfl ?_ ?_
        · refine v_aload_n X 65 0 dX1_hindrance_64 rfl rfl ?_
          refine v_getR X 68 fl_X1_45.r dX1_hindrance_65 rfl (fun v16 => ?_)
          refine v_getR X 71 fl_X1_133 dX1_hindrance_68 rfl (fun v17 => ?_)
          refine v_iload_n X 72 1 dX1_hindrance_71 rfl rfl ?_
          refine v_zald X 73 dX1_hindrance_72 rfl (fun v18 => ?_)
          refine v_ifeq X 76 88 dX1_hindrance_73 rfl rfl ?_ ?_
          · exact L_X1_hindrance_88 X Y _ _ _ _ _
          · refine v_aload_n X 77 0 dX1_hindrance_76 rfl rfl ?_
            refine v_iload_n X 78 1 dX1_hindrance_77 rfl rfl ?_
            refine v_iload_n X 79 2 dX1_hindrance_78 rfl rfl ?_
            refine v_iload_n X 80 3 dX1_hindrance_79 rfl rfl ?_
            refine v_vI X 83 cv_X1_hasCompany ml_X1_136 (n1 := 3) rfl [.int x1, .int x2, .int x3] rfl rfl rfl dX1_hindrance_80 rfl (fun r M1 h => c_X1_hasCompany _ _ _ _ _ _ _ _ h) (fun r20 M19 => ?_)
            refine v_ifne X 86 88 dX1_hindrance_83 rfl rfl ?_ ?_
            · exact L_X1_hindrance_88 X Y _ _ _ _ _
            · refine v_iconst X 87 dX1_hindrance_86 ik_5 rfl ?_
              exact v_iret X Y (Nat.le_refl _) (Nat.le_refl _) dX1_hindrance_87
        · refine v_iconst X 63 dX1_hindrance_62 ik_4 rfl ?_
          exact v_iret X Y (Nat.le_refl _) (Nat.le_refl _) dX1_hindrance_63
      · refine v_iconst X 52 dX1_hindrance_51 ik_3 rfl ?_
        exact v_iret X Y (Nat.le_refl _) (Nat.le_refl _) dX1_hindrance_52
    · refine v_iconst X 27 dX1_hindrance_26 ik_2 rfl ?_
      exact v_iret X Y (Nat.le_refl _) (Nat.le_refl _) dX1_hindrance_27
  · refine v_iconst X 13 dX1_hindrance_12 ik_1 rfl ?_
    exact v_iret X Y (Nat.le_refl _) (Nat.le_refl _) dX1_hindrance_13
theorem c_X1_hindrance (l : Launch) (x0 : Nat) (x1 : Int32) (x2 : Int32) (x3 : Int32) (M : MM) (r : Int32) (M1 : MM) (h : f_X1_hindrance x0 x1 x2 x3 M = some (r, M1)) : KV l yX1_hindrance cX1_hindrance 4 (some .int) (RM 4 0 0) false 1 x0 [.int x1, .int x2, .int x3] M (some (.int r)) M1 := by
  obtain ⟨hO, h2⟩ := iteO_some h
  exact ⟨hO, ct_of (tr := trI) (by decide) (Nat.le_of_ble_eq_true rfl) [(0, .ref x0), (1, .int x1), (2, .int x2), (3, .int x3)] rfl h2 (fun G X Y hn hl => L_X1_hindrance_0 X Y x0 x1 x2 x3 M)⟩

def f_X1_slackOf_107 (K27 : Nat → Int32 → Int32 → Int32 → Int32 → MM → Option (Int32 × MM)) (x0 : Nat) (x1 : Int32) (x2 : Int32) (x4 : Int32) (s0 : Int32) (M : MM) : Option (Int32 × MM) :=
    bn (x4 + 1 : Int32) fun y1 =>
    K27 x0 x1 x2 s0 y1 M

def f_X1_slackOf_83 (K27 : Nat → Int32 → Int32 → Int32 → Int32 → MM → Option (Int32 × MM)) (x0 : Nat) (x1 : Int32) (x2 : Int32) (x3 : Int32) (x4 : Int32) (s0 : Int32) (M : MM) : Option (Int32 × MM) :=
    if s0 = 0 then
      f_X1_slackOf_107 K27 x0 x1 x2 x4 x3 M
    else
      b1 (gR 1 1 x0 M) fun v1 =>
      b2 (f_X5_first v1 x4 M) fun r3 M2 =>
      f_X1_slackOf_107 K27 x0 x1 x2 x4 (minI x3 r3) M2

def f_X1_slackOf_82 (K27 : Nat → Int32 → Int32 → Int32 → Int32 → MM → Option (Int32 × MM)) (x0 : Nat) (x1 : Int32) (x2 : Int32) (x3 : Int32) (x4 : Int32) (M : MM) : Option (Int32 × MM) :=
    f_X1_slackOf_83 K27 x0 x1 x2 x3 x4 (0 : Int32) M

def f_X1_slackOf_27 : Nat → Nat → Int32 → Int32 → Int32 → Int32 → MM → Option (Int32 × MM)
  | 0, _, _, _, _, _, _ => none
  | n + 1, x0, x1, x2, x3, x4, M =>
    b1 (gR 1 1 x0 M) fun v1 =>
    b1 (gI 5 1 v1 M) fun v2 =>
    if v2 ≤ x4 then
      some (x3 - x2, M)
    else
      if x4 = x1 then
        f_X1_slackOf_82 (f_X1_slackOf_27 n) x0 x1 x2 x3 x4 M
      else
        b1 (gR 1 1 x0 M) fun v3 =>
        b2 (f_X5_who v3 x4 M) fun r5 M4 =>
        b1 (gR 1 1 x0 M4) fun v6 =>
        b2 (f_X5_who v6 x1 M4) fun r8 M7 =>
        if r5 = r8 then
          b1 (gR 1 1 x0 M7) fun v9 =>
          b2 (f_X5_first v9 x4 M7) fun r11 M10 =>
          if r11 < x2 then
            f_X1_slackOf_82 (f_X1_slackOf_27 n) x0 x1 x2 x3 x4 M10
          else
            f_X1_slackOf_83 (f_X1_slackOf_27 n) x0 x1 x2 x3 x4 (1 : Int32) M10
        else
          f_X1_slackOf_82 (f_X1_slackOf_27 n) x0 x1 x2 x3 x4 M7

def f_X1_slackOf_0 (x0 : Nat) (x1 : Int32) (M : MM) : Option (Int32 × MM) :=
    b2 (f_X1_brokenBy x0 x1 M) fun r2 M1 =>
    if r2 = 0 then
      b2 (f_X1_back x0 x1 M1) fun r4 M3 =>
      b1 (gR 1 0 x0 M3) fun v5 =>
      b1 (gI 9 9 v5 M3) fun v6 =>
      f_X1_slackOf_27 1024 x0 x1 r4 v6 (0 : Int32) M3
    else
      some ((-1 : Int32), M1)

def f_X1_slackOf (x0 : Nat) (x1 : Int32) (M : MM) : Option (Int32 × MM) := if isO 1 x0 M = true then f_X1_slackOf_0 x0 x1 M else none
set_option maxRecDepth 4000 in
theorem L_X1_slackOf_107 {G : Gx} (X : Cb G cX1_slackOf 6 RX1 (RM 5 0 0) false) (Y : Cr G (some .int) 0 0) {K27 : Nat → Int32 → Int32 → Int32 → Int32 → MM → Option (Int32 × MM)} (hK27 : ∀ (x0 : Nat) (x1 : Int32) (x2 : Int32) (x3 : Int32) (x4 : Int32) (M : MM), V G trI 6 0 0 27 [(0, .ref x0), (1, .int x1), (2, .int x2), (3, .int x3), (4, .int x4)] [] M (K27 x0 x1 x2 x3 x4 M)) (x0 : Nat) (x1 : Int32) (x2 : Int32) (x4 : Int32) (s0 : Int32) (M : MM) : V G trI 6 0 0 107 [(0, .ref x0), (1, .int x1), (2, .int x2), (4, .int x4)] [.int s0] M (f_X1_slackOf_107 K27 x0 x1 x2 x4 s0 M) := by
  unfold f_X1_slackOf_107
  refine v_istore_n (lv' := [(0, .ref x0), (1, .int x1), (2, .int x2), (3, .int s0), (4, .int x4)]) X 108 dX1_slackOf_107 (by decide) rfl rfl ?_
  refine v_iinc X 111 4 (fun z => [(0, .ref x0), (1, .int x1), (2, .int x2), (3, .int s0), (4, .int z)]) dX1_slackOf_108 rfl ik_1 (by decide) (fun _ => rfl) rfl (fun y1 => ?_)
  refine v_goto X 27 dX1_slackOf_111 rfl ?_
  exact hK27 _ _ _ _ _ _
set_option maxRecDepth 4000 in
theorem L_X1_slackOf_83 {G : Gx} (X : Cb G cX1_slackOf 6 RX1 (RM 5 0 0) false) (Y : Cr G (some .int) 0 0) {K27 : Nat → Int32 → Int32 → Int32 → Int32 → MM → Option (Int32 × MM)} (hK27 : ∀ (x0 : Nat) (x1 : Int32) (x2 : Int32) (x3 : Int32) (x4 : Int32) (M : MM), V G trI 6 0 0 27 [(0, .ref x0), (1, .int x1), (2, .int x2), (3, .int x3), (4, .int x4)] [] M (K27 x0 x1 x2 x3 x4 M)) (x0 : Nat) (x1 : Int32) (x2 : Int32) (x3 : Int32) (x4 : Int32) (s0 : Int32) (M : MM) : V G trI 6 0 0 83 [(0, .ref x0), (1, .int x1), (2, .int x2), (3, .int x3), (4, .int x4)] [.int s0] M (f_X1_slackOf_83 K27 x0 x1 x2 x3 x4 s0 M) := by
  unfold f_X1_slackOf_83
  refine v_istore (lv' := [(0, .ref x0), (1, .int x1), (2, .int x2), (3, .int x3), (4, .int x4), (5, .int s0)]) X 85 dX1_slackOf_83 (by decide) rfl rfl ?_
  refine v_iload X 87 5 dX1_slackOf_85 rfl rfl ?_
  refine v_ifeq X 90 106 dX1_slackOf_87 rfl rfl ?_ ?_
  · refine v_iload_n X 107 3 dX1_slackOf_106 rfl rfl ?_
    exact v_sb [0, 1, 2, 4] (L_X1_slackOf_107 X Y hK27 _ _ _ _ _ _) rfl
  · refine v_iload_n X 91 3 dX1_slackOf_90 rfl rfl ?_
    refine v_aload_n X 92 0 dX1_slackOf_91 rfl rfl ?_
    refine v_getR X 95 fl_X1_49.r dX1_slackOf_92 rfl (fun v1 => ?_)
    refine v_iload X 97 4 dX1_slackOf_95 rfl rfl ?_
    refine v_vI X 100 cv_X5_first ml_X1_70 (n1 := 1) rfl [.int x4] rfl rfl rfl dX1_slackOf_97 rfl (fun r M1 h => c_X5_first _ _ _ _ _ _ h) (fun r3 M2 => ?_)
    refine v_min X 103 ml_X1_161 w_min (Nat.le_of_ble_eq_true rfl) (Nat.le_of_ble_eq_true rfl) (Nat.zero_le _) (Nat.zero_le _) dX1_slackOf_100 rfl ?_
    refine v_goto X 107 dX1_slackOf_103 rfl ?_
    exact v_sb [0, 1, 2, 4] (L_X1_slackOf_107 X Y hK27 _ _ _ _ _ _) rfl
set_option maxRecDepth 4000 in
theorem L_X1_slackOf_82 {G : Gx} (X : Cb G cX1_slackOf 6 RX1 (RM 5 0 0) false) (Y : Cr G (some .int) 0 0) {K27 : Nat → Int32 → Int32 → Int32 → Int32 → MM → Option (Int32 × MM)} (hK27 : ∀ (x0 : Nat) (x1 : Int32) (x2 : Int32) (x3 : Int32) (x4 : Int32) (M : MM), V G trI 6 0 0 27 [(0, .ref x0), (1, .int x1), (2, .int x2), (3, .int x3), (4, .int x4)] [] M (K27 x0 x1 x2 x3 x4 M)) (x0 : Nat) (x1 : Int32) (x2 : Int32) (x3 : Int32) (x4 : Int32) (M : MM) : V G trI 6 0 0 82 [(0, .ref x0), (1, .int x1), (2, .int x2), (3, .int x3), (4, .int x4)] [] M (f_X1_slackOf_82 K27 x0 x1 x2 x3 x4 M) := by
  unfold f_X1_slackOf_82
  refine v_iconst X 83 dX1_slackOf_82 ik_0 rfl ?_
  exact L_X1_slackOf_83 X Y hK27 _ _ _ _ _ _ _
set_option maxRecDepth 4000 in
theorem L_X1_slackOf_27 {G : Gx} (X : Cb G cX1_slackOf 6 RX1 (RM 5 0 0) false) (Y : Cr G (some .int) 0 0) : ∀ (n : Nat) (x0 : Nat) (x1 : Int32) (x2 : Int32) (x3 : Int32) (x4 : Int32) (M : MM), V G trI 6 0 0 27 [(0, .ref x0), (1, .int x1), (2, .int x2), (3, .int x3), (4, .int x4)] [] M (f_X1_slackOf_27 n x0 x1 x2 x3 x4 M) := by
  intro n
  induction n with
  | zero => intro x0 x1 x2 x3 x4 M; rw [f_X1_slackOf_27]; exact v_none
  | succ n ih =>
    intro x0 x1 x2 x3 x4 M
    rw [f_X1_slackOf_27]
    refine v_iload X 29 4 dX1_slackOf_27 rfl rfl ?_
    refine v_aload_n X 30 0 dX1_slackOf_29 rfl rfl ?_
    refine v_getR X 33 fl_X1_49.r dX1_slackOf_30 rfl (fun v1 => ?_)
    refine v_getI X 36 fl_X1_60.r dX1_slackOf_33 rfl (fun v2 => ?_)
    refine v_icge X 39 114 dX1_slackOf_36 rfl rfl ?_ ?_
    · refine v_iload_n X 115 3 dX1_slackOf_114 rfl rfl ?_
      refine v_iload_n X 116 2 dX1_slackOf_115 rfl rfl ?_
      refine v_isub X 117 dX1_slackOf_116 rfl ?_
      exact v_iret X Y (Nat.le_refl _) (Nat.le_refl _) dX1_slackOf_117
    · refine v_iload X 41 4 dX1_slackOf_39 rfl rfl ?_
      refine v_iload_n X 42 1 dX1_slackOf_41 rfl rfl ?_
      refine v_iceq X 45 82 dX1_slackOf_42 rfl rfl ?_ ?_
      · exact L_X1_slackOf_82 X Y ih _ _ _ _ _ _
      · refine v_aload_n X 46 0 dX1_slackOf_45 rfl rfl ?_
        refine v_getR X 49 fl_X1_49.r dX1_slackOf_46 rfl (fun v3 => ?_)
        refine v_iload X 51 4 dX1_slackOf_49 rfl rfl ?_
        refine v_vI X 54 cv_X5_who ml_X1_63 (n1 := 1) rfl [.int x4] rfl rfl rfl dX1_slackOf_51 rfl (fun r M1 h => c_X5_who _ _ _ _ _ _ h) (fun r5 M4 => ?_)
        refine v_aload_n X 55 0 dX1_slackOf_54 rfl rfl ?_
        refine v_getR X 58 fl_X1_49.r dX1_slackOf_55 rfl (fun v6 => ?_)
        refine v_iload_n X 59 1 dX1_slackOf_58 rfl rfl ?_
        refine v_vI X 62 cv_X5_who ml_X1_63 (n1 := 1) rfl [.int x1] rfl rfl rfl dX1_slackOf_59 rfl (fun r M1 h => c_X5_who _ _ _ _ _ _ h) (fun r8 M7 => ?_)
        refine v_icne X 65 82 dX1_slackOf_62 rfl rfl ?_ ?_
        · exact L_X1_slackOf_82 X Y ih _ _ _ _ _ _
        · refine v_aload_n X 66 0 dX1_slackOf_65 rfl rfl ?_
          refine v_getR X 69 fl_X1_49.r dX1_slackOf_66 rfl (fun v9 => ?_)
          refine v_iload X 71 4 dX1_slackOf_69 rfl rfl ?_
          refine v_vI X 74 cv_X5_first ml_X1_70 (n1 := 1) rfl [.int x4] rfl rfl rfl dX1_slackOf_71 rfl (fun r M1 h => c_X5_first _ _ _ _ _ _ h) (fun r11 M10 => ?_)
          refine v_iload_n X 75 2 dX1_slackOf_74 rfl rfl ?_
          refine v_iclt X 78 82 dX1_slackOf_75 rfl rfl ?_ ?_
          · exact L_X1_slackOf_82 X Y ih _ _ _ _ _ _
          · refine v_iconst X 79 dX1_slackOf_78 ik_1 rfl ?_
            refine v_goto X 83 dX1_slackOf_79 rfl ?_
            exact L_X1_slackOf_83 X Y ih _ _ _ _ _ _ _
set_option maxRecDepth 4000 in
theorem L_X1_slackOf_0 {G : Gx} (X : Cb G cX1_slackOf 6 RX1 (RM 5 0 0) false) (Y : Cr G (some .int) 0 0) (x0 : Nat) (x1 : Int32) (M : MM) : V G trI 6 0 0 0 [(0, .ref x0), (1, .int x1)] [] M (f_X1_slackOf_0 x0 x1 M) := by
  unfold f_X1_slackOf_0
  refine v_aload_n X 1 0 dX1_slackOf_0 rfl rfl ?_
  refine v_iload_n X 2 1 dX1_slackOf_1 rfl rfl ?_
  refine v_vI X 5 cv_X1_brokenBy ml_X1_158 (n1 := 4) rfl [.int x1] rfl rfl rfl dX1_slackOf_2 rfl (fun r M1 h => c_X1_brokenBy _ _ _ _ _ _ h) (fun r2 M1 => ?_)
  refine v_ifeq X 8 10 dX1_slackOf_5 rfl rfl ?_ ?_
  · refine v_aload_n X 11 0 dX1_slackOf_10 rfl rfl ?_
    refine v_iload_n X 12 1 dX1_slackOf_11 rfl rfl ?_
    refine v_vI X 15 cv_X1_back ml_X1_149 (n1 := 2) rfl [.int x1] rfl rfl rfl dX1_slackOf_12 rfl (fun r M1 h => c_X1_back _ _ _ _ _ _ h) (fun r4 M3 => ?_)
    refine v_istore_n (lv' := [(0, .ref x0), (1, .int x1), (2, .int r4)]) X 16 dX1_slackOf_15 (by decide) rfl rfl ?_
    refine v_aload_n X 17 0 dX1_slackOf_16 rfl rfl ?_
    refine v_getR X 20 fl_X1_45.r dX1_slackOf_17 rfl (fun v5 => ?_)
    refine v_getI X 23 fl_X1_97.r dX1_slackOf_20 rfl (fun v6 => ?_)
    refine v_istore_n (lv' := [(0, .ref x0), (1, .int x1), (2, .int r4), (3, .int v6)]) X 24 dX1_slackOf_23 (by decide) rfl rfl ?_
    refine v_iconst X 25 dX1_slackOf_24 ik_0 rfl ?_
    refine v_istore (lv' := [(0, .ref x0), (1, .int x1), (2, .int r4), (3, .int v6), (4, .int (0 : Int32))]) X 27 dX1_slackOf_25 (by decide) rfl rfl ?_
    exact L_X1_slackOf_27 X Y 1024 _ _ _ _ _ _
  · refine v_iconst X 9 dX1_slackOf_8 ik_m1 rfl ?_
    exact v_iret X Y (Nat.le_refl _) (Nat.le_refl _) dX1_slackOf_9
theorem c_X1_slackOf (l : Launch) (x0 : Nat) (x1 : Int32) (M : MM) (r : Int32) (M1 : MM) (h : f_X1_slackOf x0 x1 M = some (r, M1)) : KV l yX1_slackOf cX1_slackOf 6 (some .int) (RM 5 0 0) false 1 x0 [.int x1] M (some (.int r)) M1 := by
  obtain ⟨hO, h2⟩ := iteO_some h
  exact ⟨hO, ct_of (tr := trI) (by decide) (Nat.le_of_ble_eq_true rfl) [(0, .ref x0), (1, .int x1)] rfl h2 (fun G X Y hn hl => L_X1_slackOf_0 X Y x0 x1 M)⟩

def f_X1_lookForSlack_2 : Nat → Nat → Int32 → MM → Option (MM)
  | 0, _, _, _ => none
  | n + 1, x0, x1, M =>
    b1 (gR 1 1 x0 M) fun v1 =>
    b1 (gI 5 1 v1 M) fun v2 =>
    if v2 ≤ x1 then
      some M
    else
      b1 (gR 1 8 x0 M) fun v3 =>
      b2 (f_X1_slackOf x0 x1 M) fun r5 M4 =>
      b1 (stI v3 x1 r5 M4) fun M6 =>
      bn (x1 + 1 : Int32) fun y7 =>
      f_X1_lookForSlack_2 n x0 y7 M6

def f_X1_lookForSlack_0 (x0 : Nat) (M : MM) : Option (MM) :=
    f_X1_lookForSlack_2 1024 x0 (0 : Int32) M

def f_X1_lookForSlack (x0 : Nat) (M : MM) : Option (MM) := if isO 1 x0 M = true then f_X1_lookForSlack_0 x0 M else none
set_option maxRecDepth 4000 in
theorem L_X1_lookForSlack_2 {G : Gx} (X : Cb G cX1_lookForSlack 2 RX1 (RM 6 0 0) false) (Y : Cr G none 0 0) : ∀ (n : Nat) (x0 : Nat) (x1 : Int32) (M : MM), V G trV 2 0 0 2 [(0, .ref x0), (1, .int x1)] [] M (f_X1_lookForSlack_2 n x0 x1 M) := by
  intro n
  induction n with
  | zero => intro x0 x1 M; rw [f_X1_lookForSlack_2]; exact v_none
  | succ n ih =>
    intro x0 x1 M
    rw [f_X1_lookForSlack_2]
    refine v_iload_n X 3 1 dX1_lookForSlack_2 rfl rfl ?_
    refine v_aload_n X 4 0 dX1_lookForSlack_3 rfl rfl ?_
    refine v_getR X 7 fl_X1_49.r dX1_lookForSlack_4 rfl (fun v1 => ?_)
    refine v_getI X 10 fl_X1_60.r dX1_lookForSlack_7 rfl (fun v2 => ?_)
    refine v_icge X 13 30 dX1_lookForSlack_10 rfl rfl ?_ ?_
    · exact v_vret X Y (Nat.le_refl _) (Nat.le_refl _) dX1_lookForSlack_30
    · refine v_aload_n X 14 0 dX1_lookForSlack_13 rfl rfl ?_
      refine v_getR X 17 fl_X1_38.r dX1_lookForSlack_14 rfl (fun v3 => ?_)
      refine v_iload_n X 18 1 dX1_lookForSlack_17 rfl rfl ?_
      refine v_aload_n X 19 0 dX1_lookForSlack_18 rfl rfl ?_
      refine v_iload_n X 20 1 dX1_lookForSlack_19 rfl rfl ?_
      refine v_vI X 23 cv_X1_slackOf ml_X1_164 (n1 := 5) rfl [.int x1] rfl rfl rfl dX1_lookForSlack_20 rfl (fun r M1 h => c_X1_slackOf _ _ _ _ _ _ h) (fun r5 M4 => ?_)
      refine v_iast X 24 dX1_lookForSlack_23 rfl (fun M6 => ?_)
      refine v_iinc X 27 1 (fun z => [(0, .ref x0), (1, .int z)]) dX1_lookForSlack_24 rfl ik_1 (by decide) (fun _ => rfl) rfl (fun y7 => ?_)
      refine v_goto X 2 dX1_lookForSlack_27 rfl ?_
      exact ih _ _ _
set_option maxRecDepth 4000 in
theorem L_X1_lookForSlack_0 {G : Gx} (X : Cb G cX1_lookForSlack 2 RX1 (RM 6 0 0) false) (Y : Cr G none 0 0) (x0 : Nat) (M : MM) : V G trV 2 0 0 0 [(0, .ref x0)] [] M (f_X1_lookForSlack_0 x0 M) := by
  unfold f_X1_lookForSlack_0
  refine v_iconst X 1 dX1_lookForSlack_0 ik_0 rfl ?_
  refine v_istore_n (lv' := [(0, .ref x0), (1, .int (0 : Int32))]) X 2 dX1_lookForSlack_1 (by decide) rfl rfl ?_
  exact L_X1_lookForSlack_2 X Y 1024 _ _ _
theorem c_X1_lookForSlack (l : Launch) (x0 : Nat) (M : MM) (M1 : MM) (h : f_X1_lookForSlack x0 M = some M1) : KV l yX1_lookForSlack cX1_lookForSlack 2 none (RM 6 0 0) false 1 x0 [] M none M1 := by
  obtain ⟨hO, h2⟩ := iteO_some h
  exact ⟨hO, ct_of (tr := trV) (by decide) (Nat.le_of_ble_eq_true rfl) [(0, .ref x0)] rfl h2 (fun G X Y hn hl => L_X1_lookForSlack_0 X Y x0 M)⟩

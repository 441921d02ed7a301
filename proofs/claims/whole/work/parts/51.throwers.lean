def f_X11_errand_21 (M : MM) : Option (Option Int32 × MM) :=
    some (none, M)

def f_X11_errand_0 (x0 : Nat) (x1 : Int32) (x2 : Int32) (M : MM) : Option (Option Int32 × MM) :=
    b1 (gR 11 2 x0 M) fun v1 =>
    b2 (f_X9_hasErrand v1 x1 M) fun r3 M2 =>
    if r3 = 0 then
      f_X11_errand_21 M2
    else
      if x2 < 0 then
        f_X11_errand_21 M2
      else
        if x2 ≤ (6 : Int32) then
          if x2 = 0 then
            b1 (gR 11 2 x0 M2) fun v4 =>
            b1 (gR 9 1 v4 M2) fun v5 =>
            b1 (ldI v5 x1 M2) fun v6 =>
            some (some v6, M2)
          else
          if x2 = 1 then
            b1 (gR 11 2 x0 M2) fun v7 =>
            b1 (gR 9 2 v7 M2) fun v8 =>
            b1 (ldI v8 x1 M2) fun v9 =>
            some (some v9, M2)
          else
          if x2 = 2 then
            b1 (gR 11 2 x0 M2) fun v10 =>
            b1 (gR 9 3 v10 M2) fun v11 =>
            b1 (ldI v11 x1 M2) fun v12 =>
            some (some v12, M2)
          else
          if x2 = 3 then
            b1 (gR 11 2 x0 M2) fun v13 =>
            b1 (gR 9 4 v13 M2) fun v14 =>
            b1 (ldI v14 x1 M2) fun v15 =>
            some (some v15, M2)
          else
          if x2 = 4 then
            b1 (gR 11 2 x0 M2) fun v16 =>
            b1 (gR 9 5 v16 M2) fun v17 =>
            b1 (ldI v17 x1 M2) fun v18 =>
            some (some v18, M2)
          else
          if x2 = 5 then
            b1 (gR 11 2 x0 M2) fun v19 =>
            b1 (gR 9 6 v19 M2) fun v20 =>
            b1 (ldZ v20 x1 M2) fun v21 =>
            if v21 = 0 then
              some (some (0 : Int32), M2)
            else
              some (some (1 : Int32), M2)
          else
            b1 (gR 11 3 x0 M2) fun v22 =>
            b2 (f_X5_ofErrand v22 x1 M2) fun r24 M23 =>
            some (some r24, M23)
        else
          f_X11_errand_21 M2

def f_X11_errand (x0 : Nat) (x1 : Int32) (x2 : Int32) (M : MM) : Option (Option Int32 × MM) := if isO 11 x0 M = true then f_X11_errand_0 x0 x1 x2 M else none
set_option maxRecDepth 4000 in
theorem L_X11_errand_21 {G : Gx} (X : Cb G cX11_errand 3 RX11 (RM 7 1 6) false) (Y : CrX G (some .int) 1 6) (M : MM) : V G trX 3 0 0 21 [] [] M (f_X11_errand_21  M) := by
  unfold f_X11_errand_21
  exact v_throw X Y (by decide) dX11_errand_21 dX11_errand_24 dX11_errand_25 dX11_errand_28
set_option maxRecDepth 4000 in
theorem L_X11_errand_0 {G : Gx} (X : Cb G cX11_errand 3 RX11 (RM 7 1 6) false) (Y : CrX G (some .int) 1 6) (x0 : Nat) (x1 : Int32) (x2 : Int32) (M : MM) : V G trX 3 0 0 0 [(0, .ref x0), (1, .int x1), (2, .int x2)] [] M (f_X11_errand_0 x0 x1 x2 M) := by
  unfold f_X11_errand_0
  refine v_aload_n X 1 0 dX11_errand_0 rfl rfl ?_
  refine v_getR X 4 fl_X11_26.r dX11_errand_1 rfl (fun v1 => ?_)
  refine v_iload_n X 5 1 dX11_errand_4 rfl rfl ?_
  refine v_vI X 8 cv_X9_hasErrand ml_X11_184 (n1 := 1) rfl [.int x1] rfl rfl rfl dX11_errand_5 rfl (fun r M1 h => c_X9_hasErrand _ _ _ _ _ _ h) (fun r3 M2 => ?_)
  refine v_ifeq X 11 21 dX11_errand_8 rfl rfl ?_ ?_
  · exact v_sb [] (L_X11_errand_21 X Y _) rfl
  · refine v_iload_n X 12 2 dX11_errand_11 rfl rfl ?_
    refine v_iflt X 15 21 dX11_errand_12 rfl rfl ?_ ?_
    · exact v_sb [] (L_X11_errand_21 X Y _) rfl
    · refine v_iload_n X 16 2 dX11_errand_15 rfl rfl ?_
      refine v_bipush X 18 dX11_errand_16 bk_6 rfl ?_
      refine v_icle X 21 29 dX11_errand_18 rfl rfl ?_ ?_
      · refine v_iload_n X 30 2 dX11_errand_29 rfl rfl ?_
        refine v_ite (fun e => ?_) (fun e0 => ?_)
        · refine v_tabIn X 68 dX11_errand_30 e rfl ?_
          refine v_aload_n X 69 0 dX11_errand_68 rfl rfl ?_
          refine v_getR X 72 fl_X11_26.r dX11_errand_69 rfl (fun v4 => ?_)
          refine v_getR X 75 fl_X11_187 dX11_errand_72 rfl (fun v5 => ?_)
          refine v_iload_n X 76 1 dX11_errand_75 rfl rfl ?_
          refine v_iald X 77 dX11_errand_76 rfl (fun v6 => ?_)
          exact v_iretX X Y (Nat.zero_le _) (Nat.zero_le _) dX11_errand_77
        refine v_ite (fun e => ?_) (fun e1 => ?_)
        · refine v_tabIn X 78 dX11_errand_30 e rfl ?_
          refine v_aload_n X 79 0 dX11_errand_78 rfl rfl ?_
          refine v_getR X 82 fl_X11_26.r dX11_errand_79 rfl (fun v7 => ?_)
          refine v_getR X 85 fl_X11_190 dX11_errand_82 rfl (fun v8 => ?_)
          refine v_iload_n X 86 1 dX11_errand_85 rfl rfl ?_
          refine v_iald X 87 dX11_errand_86 rfl (fun v9 => ?_)
          exact v_iretX X Y (Nat.zero_le _) (Nat.zero_le _) dX11_errand_87
        refine v_ite (fun e => ?_) (fun e2 => ?_)
        · refine v_tabIn X 88 dX11_errand_30 e rfl ?_
          refine v_aload_n X 89 0 dX11_errand_88 rfl rfl ?_
          refine v_getR X 92 fl_X11_26.r dX11_errand_89 rfl (fun v10 => ?_)
          refine v_getR X 95 fl_X11_193 dX11_errand_92 rfl (fun v11 => ?_)
          refine v_iload_n X 96 1 dX11_errand_95 rfl rfl ?_
          refine v_iald X 97 dX11_errand_96 rfl (fun v12 => ?_)
          exact v_iretX X Y (Nat.zero_le _) (Nat.zero_le _) dX11_errand_97
        refine v_ite (fun e => ?_) (fun e3 => ?_)
        · refine v_tabIn X 98 dX11_errand_30 e rfl ?_
          refine v_aload_n X 99 0 dX11_errand_98 rfl rfl ?_
          refine v_getR X 102 fl_X11_26.r dX11_errand_99 rfl (fun v13 => ?_)
          refine v_getR X 105 fl_X11_196 dX11_errand_102 rfl (fun v14 => ?_)
          refine v_iload_n X 106 1 dX11_errand_105 rfl rfl ?_
          refine v_iald X 107 dX11_errand_106 rfl (fun v15 => ?_)
          exact v_iretX X Y (Nat.zero_le _) (Nat.zero_le _) dX11_errand_107
        refine v_ite (fun e => ?_) (fun e4 => ?_)
        · refine v_tabIn X 108 dX11_errand_30 e rfl ?_
          refine v_aload_n X 109 0 dX11_errand_108 rfl rfl ?_
          refine v_getR X 112 fl_X11_26.r dX11_errand_109 rfl (fun v16 => ?_)
          refine v_getR X 115 fl_X11_199 dX11_errand_112 rfl (fun v17 => ?_)
          refine v_iload_n X 116 1 dX11_errand_115 rfl rfl ?_
          refine v_iald X 117 dX11_errand_116 rfl (fun v18 => ?_)
          exact v_iretX X Y (Nat.zero_le _) (Nat.zero_le _) dX11_errand_117
        refine v_ite (fun e => ?_) (fun e5 => ?_)
        · refine v_tabIn X 118 dX11_errand_30 e rfl ?_
          refine v_aload_n X 119 0 dX11_errand_118 rfl rfl ?_
          refine v_getR X 122 fl_X11_26.r dX11_errand_119 rfl (fun v19 => ?_)
          refine v_getR X 125 fl_X11_202 dX11_errand_122 rfl (fun v20 => ?_)
          refine v_iload_n X 126 1 dX11_errand_125 rfl rfl ?_
          refine v_zald X 127 dX11_errand_126 rfl (fun v21 => ?_)
          refine v_ifeq X 130 134 dX11_errand_127 rfl rfl ?_ ?_
          · refine v_iconst X 135 dX11_errand_134 ik_0 rfl ?_
            exact v_iretX X Y (Nat.zero_le _) (Nat.zero_le _) dX11_errand_135
          · refine v_iconst X 131 dX11_errand_130 ik_1 rfl ?_
            refine v_goto X 135 dX11_errand_131 rfl ?_
            exact v_iretX X Y (Nat.zero_le _) (Nat.zero_le _) dX11_errand_135
        refine v_tabOut X 136 dX11_errand_30 [0, 1, 2, 3, 4, 5] ⟨e0, e1, e2, e3, e4, e5, trivial⟩ rfl rfl ?_
        refine v_aload_n X 137 0 dX11_errand_136 rfl rfl ?_
        refine v_getR X 140 fl_X11_33.r dX11_errand_137 rfl (fun v22 => ?_)
        refine v_iload_n X 141 1 dX11_errand_140 rfl rfl ?_
        refine v_vI X 144 cv_X5_ofErrand ml_X11_205 (n1 := 2) rfl [.int x1] rfl rfl rfl dX11_errand_141 rfl (fun r M1 h => c_X5_ofErrand _ _ _ _ _ _ h) (fun r24 M23 => ?_)
        exact v_iretX X Y (Nat.zero_le _) (Nat.zero_le _) dX11_errand_144
      · exact v_sb [] (L_X11_errand_21 X Y _) rfl
theorem c_X11_errand (l : Launch) (hl0 : l.stackTraces = false) (x0 : Nat) (x1 : Int32) (x2 : Int32) (M : MM) (r : Option Int32) (M1 : MM) (h : f_X11_errand x0 x1 x2 M = some (r, M1)) : KX l yX11_errand cX11_errand 3 (some .int) (RM 7 1 6) 11 x0 [.int x1, .int x2] M (r.map .int) M1 := by
  obtain ⟨hO, h2⟩ := iteO_some h
  exact ⟨hO, ct_ofX (tr := trX) hl0 (by decide) (Nat.le_of_ble_eq_true rfl) [(0, .ref x0), (1, .int x1), (2, .int x2)] rfl h2 (fun G X Y hl => L_X11_errand_0 X Y x0 x1 x2 M)⟩

def f_X11_person_20 (M : MM) : Option (Option Int32 × MM) :=
    some (none, M)

def f_X11_person_0 (x0 : Nat) (x1 : Int32) (x2 : Int32) (M : MM) : Option (Option Int32 × MM) :=
    b1 (gR 11 2 x0 M) fun v1 =>
    b2 (f_X9_hasPerson v1 x1 M) fun r3 M2 =>
    if r3 = 0 then
      f_X11_person_20 M2
    else
      if x2 < 0 then
        f_X11_person_20 M2
      else
        if x2 ≤ (5 : Int32) then
          b1 (gR 11 5 x0 M2) fun v4 =>
          b1 (f_X1_look v4 M2) fun M5 =>
          if x2 = 0 then
            b1 (gR 11 2 x0 M5) fun v6 =>
            b1 (gR 9 0 v6 M5) fun v7 =>
            b1 (ldZ v7 x1 M5) fun v8 =>
            if v8 = 0 then
              some (some (0 : Int32), M5)
            else
              some (some (1 : Int32), M5)
          else
          if x2 = 1 then
            b1 (gR 11 3 x0 M5) fun v9 =>
            b2 (f_X5_ofPerson v9 x1 M5) fun r11 M10 =>
            some (some r11, M10)
          else
          if x2 = 2 then
            b1 (gR 11 2 x0 M5) fun v12 =>
            b1 (gI 9 9 v12 M5) fun v13 =>
            b1 (gR 11 5 x0 M5) fun v14 =>
            b2 (f_X1_atBench v14 x1 M5) fun r16 M15 =>
            some (some (v13 - r16), M15)
          else
          if x2 = 3 then
            b1 (gR 11 5 x0 M5) fun v17 =>
            b2 (f_X1_atBench v17 x1 M5) fun r19 M18 =>
            some (some r19, M18)
          else
          if x2 = 4 then
            b1 (gR 11 5 x0 M5) fun v20 =>
            b2 (f_X1_longestAtBench v20 x1 M5) fun r22 M21 =>
            some (some r22, M21)
          else
            b1 (gR 11 7 x0 M5) fun v23 =>
            b2 (f_X7_sumOf v23 x1 M5) fun r25 M24 =>
            some (some r25, M24)
        else
          f_X11_person_20 M2

def f_X11_person (x0 : Nat) (x1 : Int32) (x2 : Int32) (M : MM) : Option (Option Int32 × MM) := if isO 11 x0 M = true then f_X11_person_0 x0 x1 x2 M else none
set_option maxRecDepth 4000 in
theorem L_X11_person_20 {G : Gx} (X : Cb G cX11_person 3 RX11 (RM 7 1 6) false) (Y : CrX G (some .int) 1 6) (M : MM) : V G trX 3 0 0 20 [] [] M (f_X11_person_20  M) := by
  unfold f_X11_person_20
  exact v_throw X Y (by decide) dX11_person_20 dX11_person_23 dX11_person_24 dX11_person_27
set_option maxRecDepth 4000 in
theorem L_X11_person_0 {G : Gx} (X : Cb G cX11_person 3 RX11 (RM 7 1 6) false) (Y : CrX G (some .int) 1 6) (x0 : Nat) (x1 : Int32) (x2 : Int32) (M : MM) : V G trX 3 0 0 0 [(0, .ref x0), (1, .int x1), (2, .int x2)] [] M (f_X11_person_0 x0 x1 x2 M) := by
  unfold f_X11_person_0
  refine v_aload_n X 1 0 dX11_person_0 rfl rfl ?_
  refine v_getR X 4 fl_X11_26.r dX11_person_1 rfl (fun v1 => ?_)
  refine v_iload_n X 5 1 dX11_person_4 rfl rfl ?_
  refine v_vI X 8 cv_X9_hasPerson ml_X11_117 (n1 := 1) rfl [.int x1] rfl rfl rfl dX11_person_5 rfl (fun r M1 h => c_X9_hasPerson _ _ _ _ _ _ h) (fun r3 M2 => ?_)
  refine v_ifeq X 11 20 dX11_person_8 rfl rfl ?_ ?_
  · exact v_sb [] (L_X11_person_20 X Y _) rfl
  · refine v_iload_n X 12 2 dX11_person_11 rfl rfl ?_
    refine v_iflt X 15 20 dX11_person_12 rfl rfl ?_ ?_
    · exact v_sb [] (L_X11_person_20 X Y _) rfl
    · refine v_iload_n X 16 2 dX11_person_15 rfl rfl ?_
      refine v_iconst X 17 dX11_person_16 ik_5 rfl ?_
      refine v_icle X 20 28 dX11_person_17 rfl rfl ?_ ?_
      · refine v_aload_n X 29 0 dX11_person_28 rfl rfl ?_
        refine v_getR X 32 fl_X11_45.r dX11_person_29 rfl (fun v4 => ?_)
        refine v_vV X 35 cv_X1_look ml_X11_162 (n1 := 3) rfl [] rfl rfl rfl dX11_person_32 rfl (fun M1 h => c_X1_look _ _ _ _ h) (fun M5 => ?_)
        refine v_iload_n X 36 2 dX11_person_35 rfl rfl ?_
        refine v_ite (fun e => ?_) (fun e0 => ?_)
        · refine v_tabIn X 72 dX11_person_36 e rfl ?_
          refine v_aload_n X 73 0 dX11_person_72 rfl rfl ?_
          refine v_getR X 76 fl_X11_26.r dX11_person_73 rfl (fun v6 => ?_)
          refine v_getR X 79 fl_X11_165 dX11_person_76 rfl (fun v7 => ?_)
          refine v_iload_n X 80 1 dX11_person_79 rfl rfl ?_
          refine v_zald X 81 dX11_person_80 rfl (fun v8 => ?_)
          refine v_ifeq X 84 88 dX11_person_81 rfl rfl ?_ ?_
          · refine v_iconst X 89 dX11_person_88 ik_0 rfl ?_
            exact v_iretX X Y (Nat.zero_le _) (Nat.zero_le _) dX11_person_89
          · refine v_iconst X 85 dX11_person_84 ik_1 rfl ?_
            refine v_goto X 89 dX11_person_85 rfl ?_
            exact v_iretX X Y (Nat.zero_le _) (Nat.zero_le _) dX11_person_89
        refine v_ite (fun e => ?_) (fun e1 => ?_)
        · refine v_tabIn X 90 dX11_person_36 e rfl ?_
          refine v_aload_n X 91 0 dX11_person_90 rfl rfl ?_
          refine v_getR X 94 fl_X11_33.r dX11_person_91 rfl (fun v9 => ?_)
          refine v_iload_n X 95 1 dX11_person_94 rfl rfl ?_
          refine v_vI X 98 cv_X5_ofPerson ml_X11_169 (n1 := 2) rfl [.int x1] rfl rfl rfl dX11_person_95 rfl (fun r M1 h => c_X5_ofPerson _ _ _ _ _ _ h) (fun r11 M10 => ?_)
          exact v_iretX X Y (Nat.zero_le _) (Nat.zero_le _) dX11_person_98
        refine v_ite (fun e => ?_) (fun e2 => ?_)
        · refine v_tabIn X 99 dX11_person_36 e rfl ?_
          refine v_aload_n X 100 0 dX11_person_99 rfl rfl ?_
          refine v_getR X 103 fl_X11_26.r dX11_person_100 rfl (fun v12 => ?_)
          refine v_getI X 106 fl_X11_172.r dX11_person_103 rfl (fun v13 => ?_)
          refine v_aload_n X 107 0 dX11_person_106 rfl rfl ?_
          refine v_getR X 110 fl_X11_45.r dX11_person_107 rfl (fun v14 => ?_)
          refine v_iload_n X 111 1 dX11_person_110 rfl rfl ?_
          refine v_vI X 114 cv_X1_atBench ml_X11_175 (n1 := 2) rfl [.int x1] rfl rfl rfl dX11_person_111 rfl (fun r M1 h => c_X1_atBench _ _ _ _ _ _ h) (fun r16 M15 => ?_)
          refine v_isub X 115 dX11_person_114 rfl ?_
          exact v_iretX X Y (Nat.zero_le _) (Nat.zero_le _) dX11_person_115
        refine v_ite (fun e => ?_) (fun e3 => ?_)
        · refine v_tabIn X 116 dX11_person_36 e rfl ?_
          refine v_aload_n X 117 0 dX11_person_116 rfl rfl ?_
          refine v_getR X 120 fl_X11_45.r dX11_person_117 rfl (fun v17 => ?_)
          refine v_iload_n X 121 1 dX11_person_120 rfl rfl ?_
          refine v_vI X 124 cv_X1_atBench ml_X11_175 (n1 := 2) rfl [.int x1] rfl rfl rfl dX11_person_121 rfl (fun r M1 h => c_X1_atBench _ _ _ _ _ _ h) (fun r19 M18 => ?_)
          exact v_iretX X Y (Nat.zero_le _) (Nat.zero_le _) dX11_person_124
        refine v_ite (fun e => ?_) (fun e4 => ?_)
        · refine v_tabIn X 125 dX11_person_36 e rfl ?_
          refine v_aload_n X 126 0 dX11_person_125 rfl rfl ?_
          refine v_getR X 129 fl_X11_45.r dX11_person_126 rfl (fun v20 => ?_)
          refine v_iload_n X 130 1 dX11_person_129 rfl rfl ?_
          refine v_vI X 133 cv_X1_longestAtBench ml_X11_178 (n1 := 2) rfl [.int x1] rfl rfl rfl dX11_person_130 rfl (fun r M1 h => c_X1_longestAtBench _ _ _ _ _ _ h) (fun r22 M21 => ?_)
          exact v_iretX X Y (Nat.zero_le _) (Nat.zero_le _) dX11_person_133
        refine v_tabOut X 134 dX11_person_36 [0, 1, 2, 3, 4] ⟨e0, e1, e2, e3, e4, trivial⟩ rfl rfl ?_
        refine v_aload_n X 135 0 dX11_person_134 rfl rfl ?_
        refine v_getR X 138 fl_X11_55.r dX11_person_135 rfl (fun v23 => ?_)
        refine v_iload_n X 139 1 dX11_person_138 rfl rfl ?_
        refine v_vI X 142 cv_X7_sumOf ml_X11_181 (n1 := 4) rfl [.int x1] rfl rfl rfl dX11_person_139 rfl (fun r M1 h => c_X7_sumOf _ _ _ _ _ _ h) (fun r25 M24 => ?_)
        exact v_iretX X Y (Nat.zero_le _) (Nat.zero_le _) dX11_person_142
      · exact v_sb [] (L_X11_person_20 X Y _) rfl
theorem c_X11_person (l : Launch) (hl0 : l.stackTraces = false) (x0 : Nat) (x1 : Int32) (x2 : Int32) (M : MM) (r : Option Int32) (M1 : MM) (h : f_X11_person x0 x1 x2 M = some (r, M1)) : KX l yX11_person cX11_person 3 (some .int) (RM 7 1 6) 11 x0 [.int x1, .int x2] M (r.map .int) M1 := by
  obtain ⟨hO, h2⟩ := iteO_some h
  exact ⟨hO, ct_ofX (tr := trX) hl0 (by decide) (Nat.le_of_ble_eq_true rfl) [(0, .ref x0), (1, .int x1), (2, .int x2)] rfl h2 (fun G X Y hl => L_X11_person_0 X Y x0 x1 x2 M)⟩

def f_X11_row_15 (M : MM) : Option (Option Int64 × MM) :=
    some (none, M)

def f_X11_row_0 (x0 : Nat) (x1 : Int32) (M : MM) : Option (Option Int64 × MM) :=
    if x1 < 0 then
      f_X11_row_15 M
    else
      b1 (gR 11 1 x0 M) fun v1 =>
      b1 (gI 6 1 v1 M) fun v2 =>
      if x1 < v2 then
        b1 (gR 11 1 x0 M) fun v3 =>
        b1 (gR 6 0 v3 M) fun v4 =>
        b1 (ldL v4 x1 M) fun v5 =>
        some (some v5, M)
      else
        f_X11_row_15 M

def f_X11_row (x0 : Nat) (x1 : Int32) (M : MM) : Option (Option Int64 × MM) := if isO 11 x0 M = true then f_X11_row_0 x0 x1 M else none
set_option maxRecDepth 4000 in
theorem L_X11_row_15 {G : Gx} (X : Cb G cX11_row 2 RX11 (RM 7 1 6) false) (Y : CrX G (some .long) 1 6) (M : MM) : V G trXL 2 0 0 15 [] [] M (f_X11_row_15  M) := by
  unfold f_X11_row_15
  exact v_throwL X Y (by decide) dX11_row_15 dX11_row_18 dX11_row_19 dX11_row_22
set_option maxRecDepth 4000 in
theorem L_X11_row_0 {G : Gx} (X : Cb G cX11_row 2 RX11 (RM 7 1 6) false) (Y : CrX G (some .long) 1 6) (x0 : Nat) (x1 : Int32) (M : MM) : V G trXL 2 0 0 0 [(0, .ref x0), (1, .int x1)] [] M (f_X11_row_0 x0 x1 M) := by
  unfold f_X11_row_0
  refine v_iload_n X 1 1 dX11_row_0 rfl rfl ?_
  refine v_iflt X 4 15 dX11_row_1 rfl rfl ?_ ?_
  · exact v_sb [] (L_X11_row_15 X Y _) rfl
  · refine v_iload_n X 5 1 dX11_row_4 rfl rfl ?_
    refine v_aload_n X 6 0 dX11_row_5 rfl rfl ?_
    refine v_getR X 9 fl_X11_19.r dX11_row_6 rfl (fun v1 => ?_)
    refine v_getI X 12 fl_X11_462.r dX11_row_9 rfl (fun v2 => ?_)
    refine v_iclt X 15 23 dX11_row_12 rfl rfl ?_ ?_
    · refine v_aload_n X 24 0 dX11_row_23 rfl rfl ?_
      refine v_getR X 27 fl_X11_19.r dX11_row_24 rfl (fun v3 => ?_)
      refine v_getR X 30 fl_X11_463 dX11_row_27 rfl (fun v4 => ?_)
      refine v_iload_n X 31 1 dX11_row_30 rfl rfl ?_
      refine v_lald X 32 dX11_row_31 rfl (fun v5 => ?_)
      exact v_lretX X Y (Nat.zero_le _) (Nat.zero_le _) dX11_row_32
    · exact v_sb [] (L_X11_row_15 X Y _) rfl
theorem c_X11_row (l : Launch) (hl0 : l.stackTraces = false) (x0 : Nat) (x1 : Int32) (M : MM) (r : Option Int64) (M1 : MM) (h : f_X11_row x0 x1 M = some (r, M1)) : KX l yX11_row cX11_row 2 (some .long) (RM 7 1 6) 11 x0 [.int x1] M (r.map .long) M1 := by
  obtain ⟨hO, h2⟩ := iteO_some h
  exact ⟨hO, ct_ofX (tr := trXL) hl0 (by decide) (Nat.le_of_ble_eq_true rfl) [(0, .ref x0), (1, .int x1)] rfl h2 (fun G X Y hl => L_X11_row_0 X Y x0 x1 M)⟩

def f_X11_trip_20 (M : MM) : Option (Option Int32 × MM) :=
    some (none, M)

def f_X11_trip_0 (x0 : Nat) (x1 : Int32) (x2 : Int32) (M : MM) : Option (Option Int32 × MM) :=
    b1 (gR 11 3 x0 M) fun v1 =>
    b2 (f_X5_has v1 x1 M) fun r3 M2 =>
    if r3 = 0 then
      f_X11_trip_20 M2
    else
      if x2 < 0 then
        f_X11_trip_20 M2
      else
        if x2 ≤ (5 : Int32) then
          if x2 = 0 then
            b1 (gR 11 3 x0 M2) fun v4 =>
            b2 (f_X5_who v4 x1 M2) fun r6 M5 =>
            some (some r6, M5)
          else
          if x2 = 1 then
            b1 (gR 11 3 x0 M2) fun v7 =>
            b2 (f_X5_what v7 x1 M2) fun r9 M8 =>
            some (some r9, M8)
          else
          if x2 = 2 then
            b1 (gR 11 3 x0 M2) fun v10 =>
            b2 (f_X5_first v10 x1 M2) fun r12 M11 =>
            some (some r12, M11)
          else
          if x2 = 3 then
            b1 (gR 11 5 x0 M2) fun v13 =>
            b2 (f_X1_back v13 x1 M2) fun r15 M14 =>
            some (some r15, M14)
          else
          if x2 = 4 then
            b1 (gR 11 7 x0 M2) fun v16 =>
            b2 (f_X7_of v16 x1 M2) fun r18 M17 =>
            some (some r18, M17)
          else
            b1 (gR 11 5 x0 M2) fun v19 =>
            b2 (f_X1_brokenBy v19 x1 M2) fun r21 M20 =>
            some (some r21, M20)
        else
          f_X11_trip_20 M2

def f_X11_trip (x0 : Nat) (x1 : Int32) (x2 : Int32) (M : MM) : Option (Option Int32 × MM) := if isO 11 x0 M = true then f_X11_trip_0 x0 x1 x2 M else none
set_option maxRecDepth 4000 in
theorem L_X11_trip_20 {G : Gx} (X : Cb G cX11_trip 3 RX11 (RM 7 1 6) false) (Y : CrX G (some .int) 1 6) (M : MM) : V G trX 3 0 0 20 [] [] M (f_X11_trip_20  M) := by
  unfold f_X11_trip_20
  exact v_throw X Y (by decide) dX11_trip_20 dX11_trip_23 dX11_trip_24 dX11_trip_27
set_option maxRecDepth 4000 in
theorem L_X11_trip_0 {G : Gx} (X : Cb G cX11_trip 3 RX11 (RM 7 1 6) false) (Y : CrX G (some .int) 1 6) (x0 : Nat) (x1 : Int32) (x2 : Int32) (M : MM) : V G trX 3 0 0 0 [(0, .ref x0), (1, .int x1), (2, .int x2)] [] M (f_X11_trip_0 x0 x1 x2 M) := by
  unfold f_X11_trip_0
  refine v_aload_n X 1 0 dX11_trip_0 rfl rfl ?_
  refine v_getR X 4 fl_X11_33.r dX11_trip_1 rfl (fun v1 => ?_)
  refine v_iload_n X 5 1 dX11_trip_4 rfl rfl ?_
  refine v_vI X 8 cv_X5_has ml_X11_208 (n1 := 1) rfl [.int x1] rfl rfl rfl dX11_trip_5 rfl (fun r M1 h => c_X5_has _ _ _ _ _ _ h) (fun r3 M2 => ?_)
  refine v_ifeq X 11 20 dX11_trip_8 rfl rfl ?_ ?_
  · exact v_sb [] (L_X11_trip_20 X Y _) rfl
  · refine v_iload_n X 12 2 dX11_trip_11 rfl rfl ?_
    refine v_iflt X 15 20 dX11_trip_12 rfl rfl ?_ ?_
    · exact v_sb [] (L_X11_trip_20 X Y _) rfl
    · refine v_iload_n X 16 2 dX11_trip_15 rfl rfl ?_
      refine v_iconst X 17 dX11_trip_16 ik_5 rfl ?_
      refine v_icle X 20 28 dX11_trip_17 rfl rfl ?_ ?_
      · refine v_iload_n X 29 2 dX11_trip_28 rfl rfl ?_
        refine v_ite (fun e => ?_) (fun e0 => ?_)
        · refine v_tabIn X 64 dX11_trip_29 e rfl ?_
          refine v_aload_n X 65 0 dX11_trip_64 rfl rfl ?_
          refine v_getR X 68 fl_X11_33.r dX11_trip_65 rfl (fun v4 => ?_)
          refine v_iload_n X 69 1 dX11_trip_68 rfl rfl ?_
          refine v_vI X 72 cv_X5_who ml_X11_211 (n1 := 1) rfl [.int x1] rfl rfl rfl dX11_trip_69 rfl (fun r M1 h => c_X5_who _ _ _ _ _ _ h) (fun r6 M5 => ?_)
          exact v_iretX X Y (Nat.zero_le _) (Nat.zero_le _) dX11_trip_72
        refine v_ite (fun e => ?_) (fun e1 => ?_)
        · refine v_tabIn X 73 dX11_trip_29 e rfl ?_
          refine v_aload_n X 74 0 dX11_trip_73 rfl rfl ?_
          refine v_getR X 77 fl_X11_33.r dX11_trip_74 rfl (fun v7 => ?_)
          refine v_iload_n X 78 1 dX11_trip_77 rfl rfl ?_
          refine v_vI X 81 cv_X5_what ml_X11_214 (n1 := 1) rfl [.int x1] rfl rfl rfl dX11_trip_78 rfl (fun r M1 h => c_X5_what _ _ _ _ _ _ h) (fun r9 M8 => ?_)
          exact v_iretX X Y (Nat.zero_le _) (Nat.zero_le _) dX11_trip_81
        refine v_ite (fun e => ?_) (fun e2 => ?_)
        · refine v_tabIn X 82 dX11_trip_29 e rfl ?_
          refine v_aload_n X 83 0 dX11_trip_82 rfl rfl ?_
          refine v_getR X 86 fl_X11_33.r dX11_trip_83 rfl (fun v10 => ?_)
          refine v_iload_n X 87 1 dX11_trip_86 rfl rfl ?_
          refine v_vI X 90 cv_X5_first ml_X11_217 (n1 := 1) rfl [.int x1] rfl rfl rfl dX11_trip_87 rfl (fun r M1 h => c_X5_first _ _ _ _ _ _ h) (fun r12 M11 => ?_)
          exact v_iretX X Y (Nat.zero_le _) (Nat.zero_le _) dX11_trip_90
        refine v_ite (fun e => ?_) (fun e3 => ?_)
        · refine v_tabIn X 91 dX11_trip_29 e rfl ?_
          refine v_aload_n X 92 0 dX11_trip_91 rfl rfl ?_
          refine v_getR X 95 fl_X11_45.r dX11_trip_92 rfl (fun v13 => ?_)
          refine v_iload_n X 96 1 dX11_trip_95 rfl rfl ?_
          refine v_vI X 99 cv_X1_back ml_X11_220 (n1 := 2) rfl [.int x1] rfl rfl rfl dX11_trip_96 rfl (fun r M1 h => c_X1_back _ _ _ _ _ _ h) (fun r15 M14 => ?_)
          exact v_iretX X Y (Nat.zero_le _) (Nat.zero_le _) dX11_trip_99
        refine v_ite (fun e => ?_) (fun e4 => ?_)
        · refine v_tabIn X 100 dX11_trip_29 e rfl ?_
          refine v_aload_n X 101 0 dX11_trip_100 rfl rfl ?_
          refine v_getR X 104 fl_X11_55.r dX11_trip_101 rfl (fun v16 => ?_)
          refine v_iload_n X 105 1 dX11_trip_104 rfl rfl ?_
          refine v_vI X 108 cv_X7_of ml_X11_223 (n1 := 3) rfl [.int x1] rfl rfl rfl dX11_trip_105 rfl (fun r M1 h => c_X7_of _ _ _ _ _ _ h) (fun r18 M17 => ?_)
          exact v_iretX X Y (Nat.zero_le _) (Nat.zero_le _) dX11_trip_108
        refine v_tabOut X 109 dX11_trip_29 [0, 1, 2, 3, 4] ⟨e0, e1, e2, e3, e4, trivial⟩ rfl rfl ?_
        refine v_aload_n X 110 0 dX11_trip_109 rfl rfl ?_
        refine v_getR X 113 fl_X11_45.r dX11_trip_110 rfl (fun v19 => ?_)
        refine v_iload_n X 114 1 dX11_trip_113 rfl rfl ?_
        refine v_vI X 117 cv_X1_brokenBy ml_X11_226 (n1 := 4) rfl [.int x1] rfl rfl rfl dX11_trip_114 rfl (fun r M1 h => c_X1_brokenBy _ _ _ _ _ _ h) (fun r21 M20 => ?_)
        exact v_iretX X Y (Nat.zero_le _) (Nat.zero_le _) dX11_trip_117
      · exact v_sb [] (L_X11_trip_20 X Y _) rfl
theorem c_X11_trip (l : Launch) (hl0 : l.stackTraces = false) (x0 : Nat) (x1 : Int32) (x2 : Int32) (M : MM) (r : Option Int32) (M1 : MM) (h : f_X11_trip x0 x1 x2 M = some (r, M1)) : KX l yX11_trip cX11_trip 3 (some .int) (RM 7 1 6) 11 x0 [.int x1, .int x2] M (r.map .int) M1 := by
  obtain ⟨hO, h2⟩ := iteO_some h
  exact ⟨hO, ct_ofX (tr := trX) hl0 (by decide) (Nat.le_of_ble_eq_true rfl) [(0, .ref x0), (1, .int x1), (2, .int x2)] rfl h2 (fun G X Y hl => L_X11_trip_0 X Y x0 x1 x2 M)⟩

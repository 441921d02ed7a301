theorem sk_138 : (Int16.ofInt (138)).toInt32 = 138 := by decide
theorem sk_736 : (Int16.ofInt (736)).toInt32 = 736 := by decide
section CS
variable {α : Type} {tr : α → Option Value × MM} {G : Gx} {cc : ByteArray} {nL : Nat} {own : String} {tg : Bool} {cells slots pc idx n0 c0 s0 n1 : Nat} {lv : List (Nat × Value)} {st stk : List Value} {M : MM} {res : Option α} {n : Nat} {y : MethodName} {cc' : ByteArray} {nL' : Nat} {ret' : Option FieldType}
theorem v_cs (c s : Nat) (h1 : cells = c) (h2 : slots = s) (k : V G tr nL c s pc lv st M res) : V G tr nL cells slots pc lv st M res := by subst h1; subst h2; exact k
theorem v_sVc (X : Cb G cc nL own (RM n0 c0 s0) tg) (q : Nat) (K : CSt y cc' nL' ret' n) (hl : Cond.methodLink own idx y ∈ gtbl) (hr : rmB n0 c0 s0 n1 0 0 nL' cells slots = true) (As : List Value) (hst : stk = As.reverse ++ st) (hn : As.length = n) (hw : stW st = true) (d : decode cc pc = .ok (.invokestatic idx, 3)) {fc : Option MM} {f : MM → Option α} (hq : pc + 3 = q) (hc : ∀ M1, fc = some M1 → CtAt G.1.2.1 y cc' nL' ret' (RM n1 0 0) tg As M none M1) (k : ∀ M1, V G tr nL cells slots q lv st M1 (f M1)) : V G tr nL cells slots pc lv stk M (b1 fc f) := v_sV X q K hl hr As hst hn hw d hq hc k
end CS

def f_X0_init (x0 : Nat) (M : MM) : Option MM :=
    b2 (nO 20 8 M) fun a1 M2 =>
    b1 (pR 0 0 x0 a1 M2) fun M3 =>
    b2 (nO 20 8 M3) fun a4 M5 =>
    b1 (pR 0 2 x0 a4 M5) fun M6 =>
    b2 (nO 20 8 M6) fun a7 M8 =>
    b1 (pR 0 3 x0 a7 M8) fun M9 =>
    b2 (nO 20 256 M9) fun a10 M11 =>
    b1 (pR 0 4 x0 a10 M11) fun M12 =>
    some M12
set_option maxRecDepth 4000 in
set_option maxHeartbeats 4000000 in
theorem L_X0_init {G : Gx} (X : Cb G cX0_init 1 RX0 (RM 2 4 280) true) (Y : Cr G none 4 280) (hn : G.2.2.1.1.name = "<init>") (x0 : Nat) (M : MM) : V G trV 1 0 0 0 [(0, .ref x0)] [] M (f_X0_init x0 M) := by
  unfold f_X0_init
  refine v_aload_n X 1 0 dX0_init_0 rfl rfl ?_
  refine v_objInit X 4 ml_X0_3 wObj (Nat.le_of_ble_eq_true rfl) (Nat.le_of_ble_eq_true rfl) dX0_init_1 rfl ?_
  refine v_aload_n X 5 0 dX0_init_4 rfl rfl ?_
  refine v_bipush X 7 dX0_init_5 bk_8 rfl ?_
  refine v_newa (aty := .int) (ty := .int) X 9 20 0 8 rfl ka_int (Or.inl ⟨rfl, rfl, rfl⟩) (by decide) (by decide) (by decide) (Nat.le_of_ble_eq_true rfl) (Nat.le_of_ble_eq_true rfl) dX0_init_7 rfl (fun a1 M2 => ?_)
  refine v_cs 1 8 rfl rfl ?_
  refine v_putR X 12 fl_X0_11 (fun _ => hn) dX0_init_9 rfl (fun M3 => ?_)
  refine v_aload_n X 13 0 dX0_init_12 rfl rfl ?_
  refine v_bipush X 15 dX0_init_13 bk_8 rfl ?_
  refine v_newa (aty := .int) (ty := .int) X 17 20 0 8 rfl ka_int (Or.inl ⟨rfl, rfl, rfl⟩) (by decide) (by decide) (by decide) (Nat.le_of_ble_eq_true rfl) (Nat.le_of_ble_eq_true rfl) dX0_init_15 rfl (fun a4 M5 => ?_)
  refine v_cs 2 16 rfl rfl ?_
  refine v_putR X 20 fl_X0_15 (fun _ => hn) dX0_init_17 rfl (fun M6 => ?_)
  refine v_aload_n X 21 0 dX0_init_20 rfl rfl ?_
  refine v_bipush X 23 dX0_init_21 bk_8 rfl ?_
  refine v_newa (aty := .int) (ty := .int) X 25 20 0 8 rfl ka_int (Or.inl ⟨rfl, rfl, rfl⟩) (by decide) (by decide) (by decide) (Nat.le_of_ble_eq_true rfl) (Nat.le_of_ble_eq_true rfl) dX0_init_23 rfl (fun a7 M8 => ?_)
  refine v_cs 3 24 rfl rfl ?_
  refine v_putR X 28 fl_X0_18 (fun _ => hn) dX0_init_25 rfl (fun M9 => ?_)
  refine v_aload_n X 29 0 dX0_init_28 rfl rfl ?_
  refine v_sipush X 32 dX0_init_29 sk_256 rfl ?_
  refine v_newa (aty := .int) (ty := .int) X 34 20 0 256 rfl ka_int (Or.inl ⟨rfl, rfl, rfl⟩) (by decide) (by decide) (by decide) (Nat.le_of_ble_eq_true rfl) (Nat.le_of_ble_eq_true rfl) dX0_init_32 rfl (fun a10 M11 => ?_)
  refine v_cs 4 280 rfl rfl ?_
  refine v_putR X 37 fl_X0_21 (fun _ => hn) dX0_init_34 rfl (fun M12 => ?_)
  exact v_vret X Y (Nat.le_refl _) (Nat.le_refl _) dX0_init_37
theorem c_X0_init (l : Launch) (x0 : Nat) (M M1 : MM) (h : f_X0_init x0 M = some M1) : CtAt l yX0_init cX0_init 1 none (RM 2 4 280) true [.ref x0] M none M1 :=
  ct_of (tr := trV) (by decide) (Nat.le_of_ble_eq_true rfl) [(0, .ref x0)] rfl h (fun G X Y hn hl => L_X0_init X Y hn x0 M)

def f_X2_init (x0 : Nat) (M : MM) : Option MM :=
    some M
set_option maxRecDepth 4000 in
set_option maxHeartbeats 4000000 in
theorem L_X2_init {G : Gx} (X : Cb G cX2_init 1 RX2 (RM 2 0 0) true) (Y : Cr G none 0 0) (hn : G.2.2.1.1.name = "<init>") (x0 : Nat) (M : MM) : V G trV 1 0 0 0 [(0, .ref x0)] [] M (f_X2_init x0 M) := by
  unfold f_X2_init
  refine v_aload_n X 1 0 dX2_init_0 rfl rfl ?_
  refine v_objInit X 4 ml_X2_1 wObj (Nat.le_of_ble_eq_true rfl) (Nat.le_of_ble_eq_true rfl) dX2_init_1 rfl ?_
  exact v_vret X Y (Nat.le_refl _) (Nat.le_refl _) dX2_init_4
theorem c_X2_init (l : Launch) (x0 : Nat) (M M1 : MM) (h : f_X2_init x0 M = some M1) : CtAt l yX2_init cX2_init 1 none (RM 2 0 0) true [.ref x0] M none M1 :=
  ct_of (tr := trV) (by decide) (Nat.le_of_ble_eq_true rfl) [(0, .ref x0)] rfl h (fun G X Y hn hl => L_X2_init X Y hn x0 M)

def f_X1_init (x0 : Nat) (x1 : Nat) (x2 : Nat) (M : MM) : Option MM :=
    b2 (nO 23 6 M) fun a1 M2 =>
    b1 (pR 1 2 x0 a1 M2) fun M3 =>
    b2 (nO 23 6 M3) fun a4 M5 =>
    b1 (pR 1 3 x0 a4 M5) fun M6 =>
    b2 (nO 23 6 M6) fun a7 M8 =>
    b1 (pR 1 4 x0 a7 M8) fun M9 =>
    b2 (nO 2 0 M9) fun a10 M11 =>
    b1 (f_X2_init a10 M11) fun M12 =>
    b1 (pR 1 5 x0 a10 M12) fun M13 =>
    b2 (nO 23 6 M13) fun a14 M15 =>
    b1 (pR 1 6 x0 a14 M15) fun M16 =>
    b2 (nO 2 0 M16) fun a17 M18 =>
    b1 (f_X2_init a17 M18) fun M19 =>
    b1 (pR 1 7 x0 a17 M19) fun M20 =>
    b2 (nO 20 12 M20) fun a21 M22 =>
    b1 (pR 1 8 x0 a21 M22) fun M23 =>
    b2 (nO 20 12 M23) fun a24 M25 =>
    b1 (pR 1 9 x0 a24 M25) fun M26 =>
    b1 (pR 1 0 x0 x1 M26) fun M27 =>
    b1 (pR 1 1 x0 x2 M27) fun M28 =>
    b1 (gR 1 2 x0 M28) fun v29 =>
    b2 (nO 2 0 M28) fun a30 M31 =>
    b1 (f_X2_init a30 M31) fun M32 =>
    b1 (stR 23 2 v29 (0 : Int32) a30 M32) fun M33 =>
    b1 (gR 1 3 x0 M33) fun v34 =>
    b2 (nO 2 0 M33) fun a35 M36 =>
    b1 (f_X2_init a35 M36) fun M37 =>
    b1 (stR 23 2 v34 (0 : Int32) a35 M37) fun M38 =>
    b1 (gR 1 4 x0 M38) fun v39 =>
    b2 (nO 2 0 M38) fun a40 M41 =>
    b1 (f_X2_init a40 M41) fun M42 =>
    b1 (stR 23 2 v39 (0 : Int32) a40 M42) fun M43 =>
    b1 (gR 1 6 x0 M43) fun v44 =>
    b2 (nO 2 0 M43) fun a45 M46 =>
    b1 (f_X2_init a45 M46) fun M47 =>
    b1 (stR 23 2 v44 (0 : Int32) a45 M47) fun M48 =>
    b1 (gR 1 2 x0 M48) fun v49 =>
    b2 (nO 2 0 M48) fun a50 M51 =>
    b1 (f_X2_init a50 M51) fun M52 =>
    b1 (stR 23 2 v49 (1 : Int32) a50 M52) fun M53 =>
    b1 (gR 1 3 x0 M53) fun v54 =>
    b2 (nO 2 0 M53) fun a55 M56 =>
    b1 (f_X2_init a55 M56) fun M57 =>
    b1 (stR 23 2 v54 (1 : Int32) a55 M57) fun M58 =>
    b1 (gR 1 4 x0 M58) fun v59 =>
    b2 (nO 2 0 M58) fun a60 M61 =>
    b1 (f_X2_init a60 M61) fun M62 =>
    b1 (stR 23 2 v59 (1 : Int32) a60 M62) fun M63 =>
    b1 (gR 1 6 x0 M63) fun v64 =>
    b2 (nO 2 0 M63) fun a65 M66 =>
    b1 (f_X2_init a65 M66) fun M67 =>
    b1 (stR 23 2 v64 (1 : Int32) a65 M67) fun M68 =>
    b1 (gR 1 2 x0 M68) fun v69 =>
    b2 (nO 2 0 M68) fun a70 M71 =>
    b1 (f_X2_init a70 M71) fun M72 =>
    b1 (stR 23 2 v69 (2 : Int32) a70 M72) fun M73 =>
    b1 (gR 1 3 x0 M73) fun v74 =>
    b2 (nO 2 0 M73) fun a75 M76 =>
    b1 (f_X2_init a75 M76) fun M77 =>
    b1 (stR 23 2 v74 (2 : Int32) a75 M77) fun M78 =>
    b1 (gR 1 4 x0 M78) fun v79 =>
    b2 (nO 2 0 M78) fun a80 M81 =>
    b1 (f_X2_init a80 M81) fun M82 =>
    b1 (stR 23 2 v79 (2 : Int32) a80 M82) fun M83 =>
    b1 (gR 1 6 x0 M83) fun v84 =>
    b2 (nO 2 0 M83) fun a85 M86 =>
    b1 (f_X2_init a85 M86) fun M87 =>
    b1 (stR 23 2 v84 (2 : Int32) a85 M87) fun M88 =>
    b1 (gR 1 2 x0 M88) fun v89 =>
    b2 (nO 2 0 M88) fun a90 M91 =>
    b1 (f_X2_init a90 M91) fun M92 =>
    b1 (stR 23 2 v89 (3 : Int32) a90 M92) fun M93 =>
    b1 (gR 1 3 x0 M93) fun v94 =>
    b2 (nO 2 0 M93) fun a95 M96 =>
    b1 (f_X2_init a95 M96) fun M97 =>
    b1 (stR 23 2 v94 (3 : Int32) a95 M97) fun M98 =>
    b1 (gR 1 4 x0 M98) fun v99 =>
    b2 (nO 2 0 M98) fun a100 M101 =>
    b1 (f_X2_init a100 M101) fun M102 =>
    b1 (stR 23 2 v99 (3 : Int32) a100 M102) fun M103 =>
    b1 (gR 1 6 x0 M103) fun v104 =>
    b2 (nO 2 0 M103) fun a105 M106 =>
    b1 (f_X2_init a105 M106) fun M107 =>
    b1 (stR 23 2 v104 (3 : Int32) a105 M107) fun M108 =>
    b1 (gR 1 2 x0 M108) fun v109 =>
    b2 (nO 2 0 M108) fun a110 M111 =>
    b1 (f_X2_init a110 M111) fun M112 =>
    b1 (stR 23 2 v109 (4 : Int32) a110 M112) fun M113 =>
    b1 (gR 1 3 x0 M113) fun v114 =>
    b2 (nO 2 0 M113) fun a115 M116 =>
    b1 (f_X2_init a115 M116) fun M117 =>
    b1 (stR 23 2 v114 (4 : Int32) a115 M117) fun M118 =>
    b1 (gR 1 4 x0 M118) fun v119 =>
    b2 (nO 2 0 M118) fun a120 M121 =>
    b1 (f_X2_init a120 M121) fun M122 =>
    b1 (stR 23 2 v119 (4 : Int32) a120 M122) fun M123 =>
    b1 (gR 1 6 x0 M123) fun v124 =>
    b2 (nO 2 0 M123) fun a125 M126 =>
    b1 (f_X2_init a125 M126) fun M127 =>
    b1 (stR 23 2 v124 (4 : Int32) a125 M127) fun M128 =>
    b1 (gR 1 2 x0 M128) fun v129 =>
    b2 (nO 2 0 M128) fun a130 M131 =>
    b1 (f_X2_init a130 M131) fun M132 =>
    b1 (stR 23 2 v129 (5 : Int32) a130 M132) fun M133 =>
    b1 (gR 1 3 x0 M133) fun v134 =>
    b2 (nO 2 0 M133) fun a135 M136 =>
    b1 (f_X2_init a135 M136) fun M137 =>
    b1 (stR 23 2 v134 (5 : Int32) a135 M137) fun M138 =>
    b1 (gR 1 4 x0 M138) fun v139 =>
    b2 (nO 2 0 M138) fun a140 M141 =>
    b1 (f_X2_init a140 M141) fun M142 =>
    b1 (stR 23 2 v139 (5 : Int32) a140 M142) fun M143 =>
    b1 (gR 1 6 x0 M143) fun v144 =>
    b2 (nO 2 0 M143) fun a145 M146 =>
    b1 (f_X2_init a145 M146) fun M147 =>
    b1 (stR 23 2 v144 (5 : Int32) a145 M147) fun M148 =>
    some M148
set_option maxRecDepth 4000 in
set_option maxHeartbeats 4000000 in
theorem L_X1_init {G : Gx} (X : Cb G cX1_init 4 RX1 (RM 3 32 100) true) (Y : Cr G none 32 100) (hn : G.2.2.1.1.name = "<init>") (x0 : Nat) (x1 : Nat) (x2 : Nat) (M : MM) : V G trV 4 0 0 0 [(0, .ref x0), (1, .ref x1), (2, .ref x2)] [] M (f_X1_init x0 x1 x2 M) := by
  unfold f_X1_init
  refine v_aload_n X 1 0 dX1_init_0 rfl rfl ?_
  refine v_objInit X 4 ml_X1_3 wObj (Nat.le_of_ble_eq_true rfl) (Nat.le_of_ble_eq_true rfl) dX1_init_1 rfl ?_
  refine v_aload_n X 5 0 dX1_init_4 rfl rfl ?_
  refine v_bipush X 7 dX1_init_5 bk_6 rfl ?_
  refine v_newq23 X 10 6 kk_X1_11 (by decide) (by decide) (by decide) (Nat.le_of_ble_eq_true rfl) (Nat.le_of_ble_eq_true rfl) dX1_init_7 rfl (fun a1 M2 => ?_)
  refine v_cs 1 6 rfl rfl ?_
  refine v_putR X 13 fl_X1_13 (fun _ => hn) dX1_init_10 rfl (fun M3 => ?_)
  refine v_aload_n X 14 0 dX1_init_13 rfl rfl ?_
  refine v_bipush X 16 dX1_init_14 bk_6 rfl ?_
  refine v_newq23 X 19 6 kk_X1_11 (by decide) (by decide) (by decide) (Nat.le_of_ble_eq_true rfl) (Nat.le_of_ble_eq_true rfl) dX1_init_16 rfl (fun a4 M5 => ?_)
  refine v_cs 2 12 rfl rfl ?_
  refine v_putR X 22 fl_X1_19 (fun _ => hn) dX1_init_19 rfl (fun M6 => ?_)
  refine v_aload_n X 23 0 dX1_init_22 rfl rfl ?_
  refine v_bipush X 25 dX1_init_23 bk_6 rfl ?_
  refine v_newq23 X 28 6 kk_X1_11 (by decide) (by decide) (by decide) (Nat.le_of_ble_eq_true rfl) (Nat.le_of_ble_eq_true rfl) dX1_init_25 rfl (fun a7 M8 => ?_)
  refine v_cs 3 18 rfl rfl ?_
  refine v_putR X 31 fl_X1_22 (fun _ => hn) dX1_init_28 rfl (fun M9 => ?_)
  refine v_aload_n X 32 0 dX1_init_31 rfl rfl ?_
  refine v_new X 35 cl2 kk_X1_11 ki_X2 in_X2 (Nat.le_of_ble_eq_true rfl) (Nat.le_of_ble_eq_true rfl) (by decide) dX1_init_32 rfl (fun a10 M11 => ?_)
  refine v_cs 4 20 rfl rfl ?_
  refine v_dup X 36 dX1_init_35 rfl rfl ?_
  refine v_iniN X 39 ci_X2_init (host := RX11) (by decide +kernel) (n1 := 2) (c1 := 0) (s1 := 0) rfl [] rfl rfl rfl dX1_init_36 rfl (fun M1 h => c_X2_init _ _ _ _ h) (fun M12 => ?_)
  refine v_putR X 42 fl_X1_26 (fun _ => hn) dX1_init_39 rfl (fun M13 => ?_)
  refine v_aload_n X 43 0 dX1_init_42 rfl rfl ?_
  refine v_bipush X 45 dX1_init_43 bk_6 rfl ?_
  refine v_newq23 X 48 6 kk_X1_11 (by decide) (by decide) (by decide) (Nat.le_of_ble_eq_true rfl) (Nat.le_of_ble_eq_true rfl) dX1_init_45 rfl (fun a14 M15 => ?_)
  refine v_cs 5 26 rfl rfl ?_
  refine v_putR X 51 fl_X1_30 (fun _ => hn) dX1_init_48 rfl (fun M16 => ?_)
  refine v_aload_n X 52 0 dX1_init_51 rfl rfl ?_
  refine v_new X 55 cl2 kk_X1_11 ki_X2 in_X2 (Nat.le_of_ble_eq_true rfl) (Nat.le_of_ble_eq_true rfl) (by decide) dX1_init_52 rfl (fun a17 M18 => ?_)
  refine v_cs 6 28 rfl rfl ?_
  refine v_dup X 56 dX1_init_55 rfl rfl ?_
  refine v_iniN X 59 ci_X2_init (host := RX11) (by decide +kernel) (n1 := 2) (c1 := 0) (s1 := 0) rfl [] rfl rfl rfl dX1_init_56 rfl (fun M1 h => c_X2_init _ _ _ _ h) (fun M19 => ?_)
  refine v_putR X 62 fl_X1_33 (fun _ => hn) dX1_init_59 rfl (fun M20 => ?_)
  refine v_aload_n X 63 0 dX1_init_62 rfl rfl ?_
  refine v_bipush X 65 dX1_init_63 bk_12 rfl ?_
  refine v_newa (aty := .int) (ty := .int) X 67 20 0 12 rfl ka_int (Or.inl ⟨rfl, rfl, rfl⟩) (by decide) (by decide) (by decide) (Nat.le_of_ble_eq_true rfl) (Nat.le_of_ble_eq_true rfl) dX1_init_65 rfl (fun a21 M22 => ?_)
  refine v_cs 7 40 rfl rfl ?_
  refine v_putR X 70 fl_X1_38 (fun _ => hn) dX1_init_67 rfl (fun M23 => ?_)
  refine v_aload_n X 71 0 dX1_init_70 rfl rfl ?_
  refine v_bipush X 73 dX1_init_71 bk_12 rfl ?_
  refine v_newa (aty := .int) (ty := .int) X 75 20 0 12 rfl ka_int (Or.inl ⟨rfl, rfl, rfl⟩) (by decide) (by decide) (by decide) (Nat.le_of_ble_eq_true rfl) (Nat.le_of_ble_eq_true rfl) dX1_init_73 rfl (fun a24 M25 => ?_)
  refine v_cs 8 52 rfl rfl ?_
  refine v_putR X 78 fl_X1_42 (fun _ => hn) dX1_init_75 rfl (fun M26 => ?_)
  refine v_aload_n X 79 0 dX1_init_78 rfl rfl ?_
  refine v_aload_n X 80 1 dX1_init_79 rfl rfl ?_
  refine v_putR X 83 fl_X1_45 (fun _ => hn) dX1_init_80 rfl (fun M27 => ?_)
  refine v_aload_n X 84 0 dX1_init_83 rfl rfl ?_
  refine v_aload_n X 85 2 dX1_init_84 rfl rfl ?_
  refine v_putR X 88 fl_X1_49 (fun _ => hn) dX1_init_85 rfl (fun M28 => ?_)
  refine v_iconst X 89 dX1_init_88 ik_0 rfl ?_
  refine v_istore_n (lv' := [(0, .ref x0), (1, .ref x1), (2, .ref x2), (3, .int (0 : Int32))]) X 90 dX1_init_89 (by decide) rfl rfl ?_
  refine v_iload_n X 91 3 dX1_init_90 rfl rfl ?_
  refine v_bipush X 93 dX1_init_91 bk_6 rfl ?_
  refine v_geF X 96 154 dX1_init_93 rfl (by decide) rfl ?_
  refine v_aload_n X 97 0 dX1_init_96 rfl rfl ?_
  refine v_getR X 100 fl_X1_13.r dX1_init_97 rfl (fun v29 => ?_)
  refine v_iload_n X 101 3 dX1_init_100 rfl rfl ?_
  refine v_new X 104 cl2 kk_X1_11 ki_X2 in_X2 (Nat.le_of_ble_eq_true rfl) (Nat.le_of_ble_eq_true rfl) (by decide) dX1_init_101 rfl (fun a30 M31 => ?_)
  refine v_cs 9 54 rfl rfl ?_
  refine v_dup X 105 dX1_init_104 rfl rfl ?_
  refine v_iniN X 108 ci_X2_init (host := RX11) (by decide +kernel) (n1 := 2) (c1 := 0) (s1 := 0) rfl [] rfl rfl rfl dX1_init_105 rfl (fun M1 h => c_X2_init _ _ _ _ h) (fun M32 => ?_)
  refine v_aast23 X 109 dX1_init_108 rfl (fun M33 => ?_)
  refine v_aload_n X 110 0 dX1_init_109 rfl rfl ?_
  refine v_getR X 113 fl_X1_19.r dX1_init_110 rfl (fun v34 => ?_)
  refine v_iload_n X 114 3 dX1_init_113 rfl rfl ?_
  refine v_new X 117 cl2 kk_X1_11 ki_X2 in_X2 (Nat.le_of_ble_eq_true rfl) (Nat.le_of_ble_eq_true rfl) (by decide) dX1_init_114 rfl (fun a35 M36 => ?_)
  refine v_cs 10 56 rfl rfl ?_
  refine v_dup X 118 dX1_init_117 rfl rfl ?_
  refine v_iniN X 121 ci_X2_init (host := RX11) (by decide +kernel) (n1 := 2) (c1 := 0) (s1 := 0) rfl [] rfl rfl rfl dX1_init_118 rfl (fun M1 h => c_X2_init _ _ _ _ h) (fun M37 => ?_)
  refine v_aast23 X 122 dX1_init_121 rfl (fun M38 => ?_)
  refine v_aload_n X 123 0 dX1_init_122 rfl rfl ?_
  refine v_getR X 126 fl_X1_22.r dX1_init_123 rfl (fun v39 => ?_)
  refine v_iload_n X 127 3 dX1_init_126 rfl rfl ?_
  refine v_new X 130 cl2 kk_X1_11 ki_X2 in_X2 (Nat.le_of_ble_eq_true rfl) (Nat.le_of_ble_eq_true rfl) (by decide) dX1_init_127 rfl (fun a40 M41 => ?_)
  refine v_cs 11 58 rfl rfl ?_
  refine v_dup X 131 dX1_init_130 rfl rfl ?_
  refine v_iniN X 134 ci_X2_init (host := RX11) (by decide +kernel) (n1 := 2) (c1 := 0) (s1 := 0) rfl [] rfl rfl rfl dX1_init_131 rfl (fun M1 h => c_X2_init _ _ _ _ h) (fun M42 => ?_)
  refine v_aast23 X 135 dX1_init_134 rfl (fun M43 => ?_)
  refine v_aload_n X 136 0 dX1_init_135 rfl rfl ?_
  refine v_getR X 139 fl_X1_30.r dX1_init_136 rfl (fun v44 => ?_)
  refine v_iload_n X 140 3 dX1_init_139 rfl rfl ?_
  refine v_new X 143 cl2 kk_X1_11 ki_X2 in_X2 (Nat.le_of_ble_eq_true rfl) (Nat.le_of_ble_eq_true rfl) (by decide) dX1_init_140 rfl (fun a45 M46 => ?_)
  refine v_cs 12 60 rfl rfl ?_
  refine v_dup X 144 dX1_init_143 rfl rfl ?_
  refine v_iniN X 147 ci_X2_init (host := RX11) (by decide +kernel) (n1 := 2) (c1 := 0) (s1 := 0) rfl [] rfl rfl rfl dX1_init_144 rfl (fun M1 h => c_X2_init _ _ _ _ h) (fun M47 => ?_)
  refine v_aast23 X 148 dX1_init_147 rfl (fun M48 => ?_)
  refine v_iincC (lv' := [(0, .ref x0), (1, .ref x1), (2, .ref x2), (3, .int (1 : Int32))]) (w := 1) X 151 3 dX1_init_148 rfl ik_1 (by decide) (by decide) rfl rfl ?_
  refine v_goto X 90 dX1_init_151 rfl ?_
  refine v_iload_n X 91 3 dX1_init_90 rfl rfl ?_
  refine v_bipush X 93 dX1_init_91 bk_6 rfl ?_
  refine v_geF X 96 154 dX1_init_93 rfl (by decide) rfl ?_
  refine v_aload_n X 97 0 dX1_init_96 rfl rfl ?_
  refine v_getR X 100 fl_X1_13.r dX1_init_97 rfl (fun v49 => ?_)
  refine v_iload_n X 101 3 dX1_init_100 rfl rfl ?_
  refine v_new X 104 cl2 kk_X1_11 ki_X2 in_X2 (Nat.le_of_ble_eq_true rfl) (Nat.le_of_ble_eq_true rfl) (by decide) dX1_init_101 rfl (fun a50 M51 => ?_)
  refine v_cs 13 62 rfl rfl ?_
  refine v_dup X 105 dX1_init_104 rfl rfl ?_
  refine v_iniN X 108 ci_X2_init (host := RX11) (by decide +kernel) (n1 := 2) (c1 := 0) (s1 := 0) rfl [] rfl rfl rfl dX1_init_105 rfl (fun M1 h => c_X2_init _ _ _ _ h) (fun M52 => ?_)
  refine v_aast23 X 109 dX1_init_108 rfl (fun M53 => ?_)
  refine v_aload_n X 110 0 dX1_init_109 rfl rfl ?_
  refine v_getR X 113 fl_X1_19.r dX1_init_110 rfl (fun v54 => ?_)
  refine v_iload_n X 114 3 dX1_init_113 rfl rfl ?_
  refine v_new X 117 cl2 kk_X1_11 ki_X2 in_X2 (Nat.le_of_ble_eq_true rfl) (Nat.le_of_ble_eq_true rfl) (by decide) dX1_init_114 rfl (fun a55 M56 => ?_)
  refine v_cs 14 64 rfl rfl ?_
  refine v_dup X 118 dX1_init_117 rfl rfl ?_
  refine v_iniN X 121 ci_X2_init (host := RX11) (by decide +kernel) (n1 := 2) (c1 := 0) (s1 := 0) rfl [] rfl rfl rfl dX1_init_118 rfl (fun M1 h => c_X2_init _ _ _ _ h) (fun M57 => ?_)
  refine v_aast23 X 122 dX1_init_121 rfl (fun M58 => ?_)
  refine v_aload_n X 123 0 dX1_init_122 rfl rfl ?_
  refine v_getR X 126 fl_X1_22.r dX1_init_123 rfl (fun v59 => ?_)
  refine v_iload_n X 127 3 dX1_init_126 rfl rfl ?_
  refine v_new X 130 cl2 kk_X1_11 ki_X2 in_X2 (Nat.le_of_ble_eq_true rfl) (Nat.le_of_ble_eq_true rfl) (by decide) dX1_init_127 rfl (fun a60 M61 => ?_)
  refine v_cs 15 66 rfl rfl ?_
  refine v_dup X 131 dX1_init_130 rfl rfl ?_
  refine v_iniN X 134 ci_X2_init (host := RX11) (by decide +kernel) (n1 := 2) (c1 := 0) (s1 := 0) rfl [] rfl rfl rfl dX1_init_131 rfl (fun M1 h => c_X2_init _ _ _ _ h) (fun M62 => ?_)
  refine v_aast23 X 135 dX1_init_134 rfl (fun M63 => ?_)
  refine v_aload_n X 136 0 dX1_init_135 rfl rfl ?_
  refine v_getR X 139 fl_X1_30.r dX1_init_136 rfl (fun v64 => ?_)
  refine v_iload_n X 140 3 dX1_init_139 rfl rfl ?_
  refine v_new X 143 cl2 kk_X1_11 ki_X2 in_X2 (Nat.le_of_ble_eq_true rfl) (Nat.le_of_ble_eq_true rfl) (by decide) dX1_init_140 rfl (fun a65 M66 => ?_)
  refine v_cs 16 68 rfl rfl ?_
  refine v_dup X 144 dX1_init_143 rfl rfl ?_
  refine v_iniN X 147 ci_X2_init (host := RX11) (by decide +kernel) (n1 := 2) (c1 := 0) (s1 := 0) rfl [] rfl rfl rfl dX1_init_144 rfl (fun M1 h => c_X2_init _ _ _ _ h) (fun M67 => ?_)
  refine v_aast23 X 148 dX1_init_147 rfl (fun M68 => ?_)
  refine v_iincC (lv' := [(0, .ref x0), (1, .ref x1), (2, .ref x2), (3, .int (2 : Int32))]) (w := 2) X 151 3 dX1_init_148 rfl ik_1 (by decide) (by decide) rfl rfl ?_
  refine v_goto X 90 dX1_init_151 rfl ?_
  refine v_iload_n X 91 3 dX1_init_90 rfl rfl ?_
  refine v_bipush X 93 dX1_init_91 bk_6 rfl ?_
  refine v_geF X 96 154 dX1_init_93 rfl (by decide) rfl ?_
  refine v_aload_n X 97 0 dX1_init_96 rfl rfl ?_
  refine v_getR X 100 fl_X1_13.r dX1_init_97 rfl (fun v69 => ?_)
  refine v_iload_n X 101 3 dX1_init_100 rfl rfl ?_
  refine v_new X 104 cl2 kk_X1_11 ki_X2 in_X2 (Nat.le_of_ble_eq_true rfl) (Nat.le_of_ble_eq_true rfl) (by decide) dX1_init_101 rfl (fun a70 M71 => ?_)
  refine v_cs 17 70 rfl rfl ?_
  refine v_dup X 105 dX1_init_104 rfl rfl ?_
  refine v_iniN X 108 ci_X2_init (host := RX11) (by decide +kernel) (n1 := 2) (c1 := 0) (s1 := 0) rfl [] rfl rfl rfl dX1_init_105 rfl (fun M1 h => c_X2_init _ _ _ _ h) (fun M72 => ?_)
  refine v_aast23 X 109 dX1_init_108 rfl (fun M73 => ?_)
  refine v_aload_n X 110 0 dX1_init_109 rfl rfl ?_
  refine v_getR X 113 fl_X1_19.r dX1_init_110 rfl (fun v74 => ?_)
  refine v_iload_n X 114 3 dX1_init_113 rfl rfl ?_
  refine v_new X 117 cl2 kk_X1_11 ki_X2 in_X2 (Nat.le_of_ble_eq_true rfl) (Nat.le_of_ble_eq_true rfl) (by decide) dX1_init_114 rfl (fun a75 M76 => ?_)
  refine v_cs 18 72 rfl rfl ?_
  refine v_dup X 118 dX1_init_117 rfl rfl ?_
  refine v_iniN X 121 ci_X2_init (host := RX11) (by decide +kernel) (n1 := 2) (c1 := 0) (s1 := 0) rfl [] rfl rfl rfl dX1_init_118 rfl (fun M1 h => c_X2_init _ _ _ _ h) (fun M77 => ?_)
  refine v_aast23 X 122 dX1_init_121 rfl (fun M78 => ?_)
  refine v_aload_n X 123 0 dX1_init_122 rfl rfl ?_
  refine v_getR X 126 fl_X1_22.r dX1_init_123 rfl (fun v79 => ?_)
  refine v_iload_n X 127 3 dX1_init_126 rfl rfl ?_
  refine v_new X 130 cl2 kk_X1_11 ki_X2 in_X2 (Nat.le_of_ble_eq_true rfl) (Nat.le_of_ble_eq_true rfl) (by decide) dX1_init_127 rfl (fun a80 M81 => ?_)
  refine v_cs 19 74 rfl rfl ?_
  refine v_dup X 131 dX1_init_130 rfl rfl ?_
  refine v_iniN X 134 ci_X2_init (host := RX11) (by decide +kernel) (n1 := 2) (c1 := 0) (s1 := 0) rfl [] rfl rfl rfl dX1_init_131 rfl (fun M1 h => c_X2_init _ _ _ _ h) (fun M82 => ?_)
  refine v_aast23 X 135 dX1_init_134 rfl (fun M83 => ?_)
  refine v_aload_n X 136 0 dX1_init_135 rfl rfl ?_
  refine v_getR X 139 fl_X1_30.r dX1_init_136 rfl (fun v84 => ?_)
  refine v_iload_n X 140 3 dX1_init_139 rfl rfl ?_
  refine v_new X 143 cl2 kk_X1_11 ki_X2 in_X2 (Nat.le_of_ble_eq_true rfl) (Nat.le_of_ble_eq_true rfl) (by decide) dX1_init_140 rfl (fun a85 M86 => ?_)
  refine v_cs 20 76 rfl rfl ?_
  refine v_dup X 144 dX1_init_143 rfl rfl ?_
  refine v_iniN X 147 ci_X2_init (host := RX11) (by decide +kernel) (n1 := 2) (c1 := 0) (s1 := 0) rfl [] rfl rfl rfl dX1_init_144 rfl (fun M1 h => c_X2_init _ _ _ _ h) (fun M87 => ?_)
  refine v_aast23 X 148 dX1_init_147 rfl (fun M88 => ?_)
  refine v_iincC (lv' := [(0, .ref x0), (1, .ref x1), (2, .ref x2), (3, .int (3 : Int32))]) (w := 3) X 151 3 dX1_init_148 rfl ik_1 (by decide) (by decide) rfl rfl ?_
  refine v_goto X 90 dX1_init_151 rfl ?_
  refine v_iload_n X 91 3 dX1_init_90 rfl rfl ?_
  refine v_bipush X 93 dX1_init_91 bk_6 rfl ?_
  refine v_geF X 96 154 dX1_init_93 rfl (by decide) rfl ?_
  refine v_aload_n X 97 0 dX1_init_96 rfl rfl ?_
  refine v_getR X 100 fl_X1_13.r dX1_init_97 rfl (fun v89 => ?_)
  refine v_iload_n X 101 3 dX1_init_100 rfl rfl ?_
  refine v_new X 104 cl2 kk_X1_11 ki_X2 in_X2 (Nat.le_of_ble_eq_true rfl) (Nat.le_of_ble_eq_true rfl) (by decide) dX1_init_101 rfl (fun a90 M91 => ?_)
  refine v_cs 21 78 rfl rfl ?_
  refine v_dup X 105 dX1_init_104 rfl rfl ?_
  refine v_iniN X 108 ci_X2_init (host := RX11) (by decide +kernel) (n1 := 2) (c1 := 0) (s1 := 0) rfl [] rfl rfl rfl dX1_init_105 rfl (fun M1 h => c_X2_init _ _ _ _ h) (fun M92 => ?_)
  refine v_aast23 X 109 dX1_init_108 rfl (fun M93 => ?_)
  refine v_aload_n X 110 0 dX1_init_109 rfl rfl ?_
  refine v_getR X 113 fl_X1_19.r dX1_init_110 rfl (fun v94 => ?_)
  refine v_iload_n X 114 3 dX1_init_113 rfl rfl ?_
  refine v_new X 117 cl2 kk_X1_11 ki_X2 in_X2 (Nat.le_of_ble_eq_true rfl) (Nat.le_of_ble_eq_true rfl) (by decide) dX1_init_114 rfl (fun a95 M96 => ?_)
  refine v_cs 22 80 rfl rfl ?_
  refine v_dup X 118 dX1_init_117 rfl rfl ?_
  refine v_iniN X 121 ci_X2_init (host := RX11) (by decide +kernel) (n1 := 2) (c1 := 0) (s1 := 0) rfl [] rfl rfl rfl dX1_init_118 rfl (fun M1 h => c_X2_init _ _ _ _ h) (fun M97 => ?_)
  refine v_aast23 X 122 dX1_init_121 rfl (fun M98 => ?_)
  refine v_aload_n X 123 0 dX1_init_122 rfl rfl ?_
  refine v_getR X 126 fl_X1_22.r dX1_init_123 rfl (fun v99 => ?_)
  refine v_iload_n X 127 3 dX1_init_126 rfl rfl ?_
  refine v_new X 130 cl2 kk_X1_11 ki_X2 in_X2 (Nat.le_of_ble_eq_true rfl) (Nat.le_of_ble_eq_true rfl) (by decide) dX1_init_127 rfl (fun a100 M101 => ?_)
  refine v_cs 23 82 rfl rfl ?_
  refine v_dup X 131 dX1_init_130 rfl rfl ?_
  refine v_iniN X 134 ci_X2_init (host := RX11) (by decide +kernel) (n1 := 2) (c1 := 0) (s1 := 0) rfl [] rfl rfl rfl dX1_init_131 rfl (fun M1 h => c_X2_init _ _ _ _ h) (fun M102 => ?_)
  refine v_aast23 X 135 dX1_init_134 rfl (fun M103 => ?_)
  refine v_aload_n X 136 0 dX1_init_135 rfl rfl ?_
  refine v_getR X 139 fl_X1_30.r dX1_init_136 rfl (fun v104 => ?_)
  refine v_iload_n X 140 3 dX1_init_139 rfl rfl ?_
  refine v_new X 143 cl2 kk_X1_11 ki_X2 in_X2 (Nat.le_of_ble_eq_true rfl) (Nat.le_of_ble_eq_true rfl) (by decide) dX1_init_140 rfl (fun a105 M106 => ?_)
  refine v_cs 24 84 rfl rfl ?_
  refine v_dup X 144 dX1_init_143 rfl rfl ?_
  refine v_iniN X 147 ci_X2_init (host := RX11) (by decide +kernel) (n1 := 2) (c1 := 0) (s1 := 0) rfl [] rfl rfl rfl dX1_init_144 rfl (fun M1 h => c_X2_init _ _ _ _ h) (fun M107 => ?_)
  refine v_aast23 X 148 dX1_init_147 rfl (fun M108 => ?_)
  refine v_iincC (lv' := [(0, .ref x0), (1, .ref x1), (2, .ref x2), (3, .int (4 : Int32))]) (w := 4) X 151 3 dX1_init_148 rfl ik_1 (by decide) (by decide) rfl rfl ?_
  refine v_goto X 90 dX1_init_151 rfl ?_
  refine v_iload_n X 91 3 dX1_init_90 rfl rfl ?_
  refine v_bipush X 93 dX1_init_91 bk_6 rfl ?_
  refine v_geF X 96 154 dX1_init_93 rfl (by decide) rfl ?_
  refine v_aload_n X 97 0 dX1_init_96 rfl rfl ?_
  refine v_getR X 100 fl_X1_13.r dX1_init_97 rfl (fun v109 => ?_)
  refine v_iload_n X 101 3 dX1_init_100 rfl rfl ?_
  refine v_new X 104 cl2 kk_X1_11 ki_X2 in_X2 (Nat.le_of_ble_eq_true rfl) (Nat.le_of_ble_eq_true rfl) (by decide) dX1_init_101 rfl (fun a110 M111 => ?_)
  refine v_cs 25 86 rfl rfl ?_
  refine v_dup X 105 dX1_init_104 rfl rfl ?_
  refine v_iniN X 108 ci_X2_init (host := RX11) (by decide +kernel) (n1 := 2) (c1 := 0) (s1 := 0) rfl [] rfl rfl rfl dX1_init_105 rfl (fun M1 h => c_X2_init _ _ _ _ h) (fun M112 => ?_)
  refine v_aast23 X 109 dX1_init_108 rfl (fun M113 => ?_)
  refine v_aload_n X 110 0 dX1_init_109 rfl rfl ?_
  refine v_getR X 113 fl_X1_19.r dX1_init_110 rfl (fun v114 => ?_)
  refine v_iload_n X 114 3 dX1_init_113 rfl rfl ?_
  refine v_new X 117 cl2 kk_X1_11 ki_X2 in_X2 (Nat.le_of_ble_eq_true rfl) (Nat.le_of_ble_eq_true rfl) (by decide) dX1_init_114 rfl (fun a115 M116 => ?_)
  refine v_cs 26 88 rfl rfl ?_
  refine v_dup X 118 dX1_init_117 rfl rfl ?_
  refine v_iniN X 121 ci_X2_init (host := RX11) (by decide +kernel) (n1 := 2) (c1 := 0) (s1 := 0) rfl [] rfl rfl rfl dX1_init_118 rfl (fun M1 h => c_X2_init _ _ _ _ h) (fun M117 => ?_)
  refine v_aast23 X 122 dX1_init_121 rfl (fun M118 => ?_)
  refine v_aload_n X 123 0 dX1_init_122 rfl rfl ?_
  refine v_getR X 126 fl_X1_22.r dX1_init_123 rfl (fun v119 => ?_)
  refine v_iload_n X 127 3 dX1_init_126 rfl rfl ?_
  refine v_new X 130 cl2 kk_X1_11 ki_X2 in_X2 (Nat.le_of_ble_eq_true rfl) (Nat.le_of_ble_eq_true rfl) (by decide) dX1_init_127 rfl (fun a120 M121 => ?_)
  refine v_cs 27 90 rfl rfl ?_
  refine v_dup X 131 dX1_init_130 rfl rfl ?_
  refine v_iniN X 134 ci_X2_init (host := RX11) (by decide +kernel) (n1 := 2) (c1 := 0) (s1 := 0) rfl [] rfl rfl rfl dX1_init_131 rfl (fun M1 h => c_X2_init _ _ _ _ h) (fun M122 => ?_)
  refine v_aast23 X 135 dX1_init_134 rfl (fun M123 => ?_)
  refine v_aload_n X 136 0 dX1_init_135 rfl rfl ?_
  refine v_getR X 139 fl_X1_30.r dX1_init_136 rfl (fun v124 => ?_)
  refine v_iload_n X 140 3 dX1_init_139 rfl rfl ?_
  refine v_new X 143 cl2 kk_X1_11 ki_X2 in_X2 (Nat.le_of_ble_eq_true rfl) (Nat.le_of_ble_eq_true rfl) (by decide) dX1_init_140 rfl (fun a125 M126 => ?_)
  refine v_cs 28 92 rfl rfl ?_
  refine v_dup X 144 dX1_init_143 rfl rfl ?_
  refine v_iniN X 147 ci_X2_init (host := RX11) (by decide +kernel) (n1 := 2) (c1 := 0) (s1 := 0) rfl [] rfl rfl rfl dX1_init_144 rfl (fun M1 h => c_X2_init _ _ _ _ h) (fun M127 => ?_)
  refine v_aast23 X 148 dX1_init_147 rfl (fun M128 => ?_)
  refine v_iincC (lv' := [(0, .ref x0), (1, .ref x1), (2, .ref x2), (3, .int (5 : Int32))]) (w := 5) X 151 3 dX1_init_148 rfl ik_1 (by decide) (by decide) rfl rfl ?_
  refine v_goto X 90 dX1_init_151 rfl ?_
  refine v_iload_n X 91 3 dX1_init_90 rfl rfl ?_
  refine v_bipush X 93 dX1_init_91 bk_6 rfl ?_
  refine v_geF X 96 154 dX1_init_93 rfl (by decide) rfl ?_
  refine v_aload_n X 97 0 dX1_init_96 rfl rfl ?_
  refine v_getR X 100 fl_X1_13.r dX1_init_97 rfl (fun v129 => ?_)
  refine v_iload_n X 101 3 dX1_init_100 rfl rfl ?_
  refine v_new X 104 cl2 kk_X1_11 ki_X2 in_X2 (Nat.le_of_ble_eq_true rfl) (Nat.le_of_ble_eq_true rfl) (by decide) dX1_init_101 rfl (fun a130 M131 => ?_)
  refine v_cs 29 94 rfl rfl ?_
  refine v_dup X 105 dX1_init_104 rfl rfl ?_
  refine v_iniN X 108 ci_X2_init (host := RX11) (by decide +kernel) (n1 := 2) (c1 := 0) (s1 := 0) rfl [] rfl rfl rfl dX1_init_105 rfl (fun M1 h => c_X2_init _ _ _ _ h) (fun M132 => ?_)
  refine v_aast23 X 109 dX1_init_108 rfl (fun M133 => ?_)
  refine v_aload_n X 110 0 dX1_init_109 rfl rfl ?_
  refine v_getR X 113 fl_X1_19.r dX1_init_110 rfl (fun v134 => ?_)
  refine v_iload_n X 114 3 dX1_init_113 rfl rfl ?_
  refine v_new X 117 cl2 kk_X1_11 ki_X2 in_X2 (Nat.le_of_ble_eq_true rfl) (Nat.le_of_ble_eq_true rfl) (by decide) dX1_init_114 rfl (fun a135 M136 => ?_)
  refine v_cs 30 96 rfl rfl ?_
  refine v_dup X 118 dX1_init_117 rfl rfl ?_
  refine v_iniN X 121 ci_X2_init (host := RX11) (by decide +kernel) (n1 := 2) (c1 := 0) (s1 := 0) rfl [] rfl rfl rfl dX1_init_118 rfl (fun M1 h => c_X2_init _ _ _ _ h) (fun M137 => ?_)
  refine v_aast23 X 122 dX1_init_121 rfl (fun M138 => ?_)
  refine v_aload_n X 123 0 dX1_init_122 rfl rfl ?_
  refine v_getR X 126 fl_X1_22.r dX1_init_123 rfl (fun v139 => ?_)
  refine v_iload_n X 127 3 dX1_init_126 rfl rfl ?_
  refine v_new X 130 cl2 kk_X1_11 ki_X2 in_X2 (Nat.le_of_ble_eq_true rfl) (Nat.le_of_ble_eq_true rfl) (by decide) dX1_init_127 rfl (fun a140 M141 => ?_)
  refine v_cs 31 98 rfl rfl ?_
  refine v_dup X 131 dX1_init_130 rfl rfl ?_
  refine v_iniN X 134 ci_X2_init (host := RX11) (by decide +kernel) (n1 := 2) (c1 := 0) (s1 := 0) rfl [] rfl rfl rfl dX1_init_131 rfl (fun M1 h => c_X2_init _ _ _ _ h) (fun M142 => ?_)
  refine v_aast23 X 135 dX1_init_134 rfl (fun M143 => ?_)
  refine v_aload_n X 136 0 dX1_init_135 rfl rfl ?_
  refine v_getR X 139 fl_X1_30.r dX1_init_136 rfl (fun v144 => ?_)
  refine v_iload_n X 140 3 dX1_init_139 rfl rfl ?_
  refine v_new X 143 cl2 kk_X1_11 ki_X2 in_X2 (Nat.le_of_ble_eq_true rfl) (Nat.le_of_ble_eq_true rfl) (by decide) dX1_init_140 rfl (fun a145 M146 => ?_)
  refine v_cs 32 100 rfl rfl ?_
  refine v_dup X 144 dX1_init_143 rfl rfl ?_
  refine v_iniN X 147 ci_X2_init (host := RX11) (by decide +kernel) (n1 := 2) (c1 := 0) (s1 := 0) rfl [] rfl rfl rfl dX1_init_144 rfl (fun M1 h => c_X2_init _ _ _ _ h) (fun M147 => ?_)
  refine v_aast23 X 148 dX1_init_147 rfl (fun M148 => ?_)
  refine v_iincC (lv' := [(0, .ref x0), (1, .ref x1), (2, .ref x2), (3, .int (6 : Int32))]) (w := 6) X 151 3 dX1_init_148 rfl ik_1 (by decide) (by decide) rfl rfl ?_
  refine v_goto X 90 dX1_init_151 rfl ?_
  refine v_iload_n X 91 3 dX1_init_90 rfl rfl ?_
  refine v_bipush X 93 dX1_init_91 bk_6 rfl ?_
  refine v_geT X 154 dX1_init_93 rfl (by decide) ?_
  exact v_vret X Y (Nat.le_refl _) (Nat.le_refl _) dX1_init_154
theorem c_X1_init (l : Launch) (x0 : Nat) (x1 : Nat) (x2 : Nat) (M M1 : MM) (h : f_X1_init x0 x1 x2 M = some M1) : CtAt l yX1_init cX1_init 4 none (RM 3 32 100) true [.ref x0, .ref x1, .ref x2] M none M1 :=
  ct_of (tr := trV) (by decide) (Nat.le_of_ble_eq_true rfl) [(0, .ref x0), (1, .ref x1), (2, .ref x2)] rfl h (fun G X Y hn hl => L_X1_init X Y hn x0 x1 x2 M)

def f_X3_init (x0 : Nat) (x1 : Nat) (x2 : Nat) (x3 : Nat) (x4 : Nat) (M : MM) : Option MM :=
    b2 (nO 20 6 M) fun a1 M2 =>
    b1 (pR 3 4 x0 a1 M2) fun M3 =>
    b2 (nO 20 6 M3) fun a4 M5 =>
    b1 (pR 3 5 x0 a4 M5) fun M6 =>
    b1 (pR 3 0 x0 x1 M6) fun M7 =>
    b1 (pR 3 1 x0 x2 M7) fun M8 =>
    b1 (pR 3 2 x0 x3 M8) fun M9 =>
    b1 (pR 3 3 x0 x4 M9) fun M10 =>
    some M10
set_option maxRecDepth 4000 in
set_option maxHeartbeats 4000000 in
theorem L_X3_init {G : Gx} (X : Cb G cX3_init 5 RX3 (RM 2 2 12) true) (Y : Cr G none 2 12) (hn : G.2.2.1.1.name = "<init>") (x0 : Nat) (x1 : Nat) (x2 : Nat) (x3 : Nat) (x4 : Nat) (M : MM) : V G trV 5 0 0 0 [(0, .ref x0), (1, .ref x1), (2, .ref x2), (3, .ref x3), (4, .ref x4)] [] M (f_X3_init x0 x1 x2 x3 x4 M) := by
  unfold f_X3_init
  refine v_aload_n X 1 0 dX3_init_0 rfl rfl ?_
  refine v_objInit X 4 ml_X3_3 wObj (Nat.le_of_ble_eq_true rfl) (Nat.le_of_ble_eq_true rfl) dX3_init_1 rfl ?_
  refine v_aload_n X 5 0 dX3_init_4 rfl rfl ?_
  refine v_bipush X 7 dX3_init_5 bk_6 rfl ?_
  refine v_newa (aty := .int) (ty := .int) X 9 20 0 6 rfl ka_int (Or.inl ⟨rfl, rfl, rfl⟩) (by decide) (by decide) (by decide) (Nat.le_of_ble_eq_true rfl) (Nat.le_of_ble_eq_true rfl) dX3_init_7 rfl (fun a1 M2 => ?_)
  refine v_cs 1 6 rfl rfl ?_
  refine v_putR X 12 fl_X3_9 (fun _ => hn) dX3_init_9 rfl (fun M3 => ?_)
  refine v_aload_n X 13 0 dX3_init_12 rfl rfl ?_
  refine v_bipush X 15 dX3_init_13 bk_6 rfl ?_
  refine v_newa (aty := .int) (ty := .int) X 17 20 0 6 rfl ka_int (Or.inl ⟨rfl, rfl, rfl⟩) (by decide) (by decide) (by decide) (Nat.le_of_ble_eq_true rfl) (Nat.le_of_ble_eq_true rfl) dX3_init_15 rfl (fun a4 M5 => ?_)
  refine v_cs 2 12 rfl rfl ?_
  refine v_putR X 20 fl_X3_15 (fun _ => hn) dX3_init_17 rfl (fun M6 => ?_)
  refine v_aload_n X 21 0 dX3_init_20 rfl rfl ?_
  refine v_aload_n X 22 1 dX3_init_21 rfl rfl ?_
  refine v_putR X 25 fl_X3_18 (fun _ => hn) dX3_init_22 rfl (fun M7 => ?_)
  refine v_aload_n X 26 0 dX3_init_25 rfl rfl ?_
  refine v_aload_n X 27 2 dX3_init_26 rfl rfl ?_
  refine v_putR X 30 fl_X3_22 (fun _ => hn) dX3_init_27 rfl (fun M8 => ?_)
  refine v_aload_n X 31 0 dX3_init_30 rfl rfl ?_
  refine v_aload_n X 32 3 dX3_init_31 rfl rfl ?_
  refine v_putR X 35 fl_X3_26 (fun _ => hn) dX3_init_32 rfl (fun M9 => ?_)
  refine v_aload_n X 36 0 dX3_init_35 rfl rfl ?_
  refine v_aload X 38 4 dX3_init_36 rfl rfl ?_
  refine v_putR X 41 fl_X3_30 (fun _ => hn) dX3_init_38 rfl (fun M10 => ?_)
  exact v_vret X Y (Nat.le_refl _) (Nat.le_refl _) dX3_init_41
theorem c_X3_init (l : Launch) (x0 : Nat) (x1 : Nat) (x2 : Nat) (x3 : Nat) (x4 : Nat) (M M1 : MM) (h : f_X3_init x0 x1 x2 x3 x4 M = some M1) : CtAt l yX3_init cX3_init 5 none (RM 2 2 12) true [.ref x0, .ref x1, .ref x2, .ref x3, .ref x4] M none M1 :=
  ct_of (tr := trV) (by decide) (Nat.le_of_ble_eq_true rfl) [(0, .ref x0), (1, .ref x1), (2, .ref x2), (3, .ref x3), (4, .ref x4)] rfl h (fun G X Y hn hl => L_X3_init X Y hn x0 x1 x2 x3 x4 M)

def f_X5_init (x0 : Nat) (M : MM) : Option MM :=
    b2 (nO 20 12 M) fun a1 M2 =>
    b1 (pR 5 0 x0 a1 M2) fun M3 =>
    some M3
set_option maxRecDepth 4000 in
set_option maxHeartbeats 4000000 in
theorem L_X5_init {G : Gx} (X : Cb G cX5_init 1 RX5 (RM 2 1 12) true) (Y : Cr G none 1 12) (hn : G.2.2.1.1.name = "<init>") (x0 : Nat) (M : MM) : V G trV 1 0 0 0 [(0, .ref x0)] [] M (f_X5_init x0 M) := by
  unfold f_X5_init
  refine v_aload_n X 1 0 dX5_init_0 rfl rfl ?_
  refine v_objInit X 4 ml_X5_1 wObj (Nat.le_of_ble_eq_true rfl) (Nat.le_of_ble_eq_true rfl) dX5_init_1 rfl ?_
  refine v_aload_n X 5 0 dX5_init_4 rfl rfl ?_
  refine v_bipush X 7 dX5_init_5 bk_12 rfl ?_
  refine v_newa (aty := .int) (ty := .int) X 9 20 0 12 rfl ka_int (Or.inl ⟨rfl, rfl, rfl⟩) (by decide) (by decide) (by decide) (Nat.le_of_ble_eq_true rfl) (Nat.le_of_ble_eq_true rfl) dX5_init_7 rfl (fun a1 M2 => ?_)
  refine v_cs 1 12 rfl rfl ?_
  refine v_putR X 12 fl_X5_9 (fun _ => hn) dX5_init_9 rfl (fun M3 => ?_)
  exact v_vret X Y (Nat.le_refl _) (Nat.le_refl _) dX5_init_12
theorem c_X5_init (l : Launch) (x0 : Nat) (M M1 : MM) (h : f_X5_init x0 M = some M1) : CtAt l yX5_init cX5_init 1 none (RM 2 1 12) true [.ref x0] M none M1 :=
  ct_of (tr := trV) (by decide) (Nat.le_of_ble_eq_true rfl) [(0, .ref x0)] rfl h (fun G X Y hn hl => L_X5_init X Y hn x0 M)

def f_X4_init (x0 : Nat) (M : MM) : Option MM :=
    b2 (nO 24 15 M) fun a1 M2 =>
    b1 (pR 4 0 x0 a1 M2) fun M3 =>
    b2 (nO 24 3 M3) fun a4 M5 =>
    b1 (pR 4 1 x0 a4 M5) fun M6 =>
    b2 (nO 20 3 M6) fun a7 M8 =>
    b1 (pR 4 2 x0 a7 M8) fun M9 =>
    b2 (nO 20 3 M9) fun a10 M11 =>
    b1 (pR 4 3 x0 a10 M11) fun M12 =>
    b1 (gR 4 0 x0 M12) fun v13 =>
    b2 (nO 5 0 M12) fun a14 M15 =>
    b1 (f_X5_init a14 M15) fun M16 =>
    b1 (stR 24 5 v13 (0 : Int32) a14 M16) fun M17 =>
    b1 (gR 4 0 x0 M17) fun v18 =>
    b2 (nO 5 0 M17) fun a19 M20 =>
    b1 (f_X5_init a19 M20) fun M21 =>
    b1 (stR 24 5 v18 (1 : Int32) a19 M21) fun M22 =>
    b1 (gR 4 0 x0 M22) fun v23 =>
    b2 (nO 5 0 M22) fun a24 M25 =>
    b1 (f_X5_init a24 M25) fun M26 =>
    b1 (stR 24 5 v23 (2 : Int32) a24 M26) fun M27 =>
    b1 (gR 4 0 x0 M27) fun v28 =>
    b2 (nO 5 0 M27) fun a29 M30 =>
    b1 (f_X5_init a29 M30) fun M31 =>
    b1 (stR 24 5 v28 (3 : Int32) a29 M31) fun M32 =>
    b1 (gR 4 0 x0 M32) fun v33 =>
    b2 (nO 5 0 M32) fun a34 M35 =>
    b1 (f_X5_init a34 M35) fun M36 =>
    b1 (stR 24 5 v33 (4 : Int32) a34 M36) fun M37 =>
    b1 (gR 4 0 x0 M37) fun v38 =>
    b2 (nO 5 0 M37) fun a39 M40 =>
    b1 (f_X5_init a39 M40) fun M41 =>
    b1 (stR 24 5 v38 (5 : Int32) a39 M41) fun M42 =>
    b1 (gR 4 0 x0 M42) fun v43 =>
    b2 (nO 5 0 M42) fun a44 M45 =>
    b1 (f_X5_init a44 M45) fun M46 =>
    b1 (stR 24 5 v43 (6 : Int32) a44 M46) fun M47 =>
    b1 (gR 4 0 x0 M47) fun v48 =>
    b2 (nO 5 0 M47) fun a49 M50 =>
    b1 (f_X5_init a49 M50) fun M51 =>
    b1 (stR 24 5 v48 (7 : Int32) a49 M51) fun M52 =>
    b1 (gR 4 0 x0 M52) fun v53 =>
    b2 (nO 5 0 M52) fun a54 M55 =>
    b1 (f_X5_init a54 M55) fun M56 =>
    b1 (stR 24 5 v53 (8 : Int32) a54 M56) fun M57 =>
    b1 (gR 4 0 x0 M57) fun v58 =>
    b2 (nO 5 0 M57) fun a59 M60 =>
    b1 (f_X5_init a59 M60) fun M61 =>
    b1 (stR 24 5 v58 (9 : Int32) a59 M61) fun M62 =>
    b1 (gR 4 0 x0 M62) fun v63 =>
    b2 (nO 5 0 M62) fun a64 M65 =>
    b1 (f_X5_init a64 M65) fun M66 =>
    b1 (stR 24 5 v63 (10 : Int32) a64 M66) fun M67 =>
    b1 (gR 4 0 x0 M67) fun v68 =>
    b2 (nO 5 0 M67) fun a69 M70 =>
    b1 (f_X5_init a69 M70) fun M71 =>
    b1 (stR 24 5 v68 (11 : Int32) a69 M71) fun M72 =>
    b1 (gR 4 0 x0 M72) fun v73 =>
    b2 (nO 5 0 M72) fun a74 M75 =>
    b1 (f_X5_init a74 M75) fun M76 =>
    b1 (stR 24 5 v73 (12 : Int32) a74 M76) fun M77 =>
    b1 (gR 4 0 x0 M77) fun v78 =>
    b2 (nO 5 0 M77) fun a79 M80 =>
    b1 (f_X5_init a79 M80) fun M81 =>
    b1 (stR 24 5 v78 (13 : Int32) a79 M81) fun M82 =>
    b1 (gR 4 0 x0 M82) fun v83 =>
    b2 (nO 5 0 M82) fun a84 M85 =>
    b1 (f_X5_init a84 M85) fun M86 =>
    b1 (stR 24 5 v83 (14 : Int32) a84 M86) fun M87 =>
    b1 (gR 4 1 x0 M87) fun v88 =>
    b2 (nO 5 0 M87) fun a89 M90 =>
    b1 (f_X5_init a89 M90) fun M91 =>
    b1 (stR 24 5 v88 (0 : Int32) a89 M91) fun M92 =>
    b1 (gR 4 2 x0 M92) fun v93 =>
    b1 (stI v93 (0 : Int32) (-1 : Int32) M92) fun M94 =>
    b1 (gR 4 1 x0 M94) fun v95 =>
    b2 (nO 5 0 M94) fun a96 M97 =>
    b1 (f_X5_init a96 M97) fun M98 =>
    b1 (stR 24 5 v95 (1 : Int32) a96 M98) fun M99 =>
    b1 (gR 4 2 x0 M99) fun v100 =>
    b1 (stI v100 (1 : Int32) (-1 : Int32) M99) fun M101 =>
    b1 (gR 4 1 x0 M101) fun v102 =>
    b2 (nO 5 0 M101) fun a103 M104 =>
    b1 (f_X5_init a103 M104) fun M105 =>
    b1 (stR 24 5 v102 (2 : Int32) a103 M105) fun M106 =>
    b1 (gR 4 2 x0 M106) fun v107 =>
    b1 (stI v107 (2 : Int32) (-1 : Int32) M106) fun M108 =>
    some M108
set_option maxRecDepth 4000 in
set_option maxHeartbeats 4000000 in
theorem L_X4_init {G : Gx} (X : Cb G cX4_init 2 RX4 (RM 3 40 276) true) (Y : Cr G none 40 276) (hn : G.2.2.1.1.name = "<init>") (x0 : Nat) (M : MM) : V G trV 2 0 0 0 [(0, .ref x0)] [] M (f_X4_init x0 M) := by
  unfold f_X4_init
  refine v_aload_n X 1 0 dX4_init_0 rfl rfl ?_
  refine v_objInit X 4 ml_X4_3 wObj (Nat.le_of_ble_eq_true rfl) (Nat.le_of_ble_eq_true rfl) dX4_init_1 rfl ?_
  refine v_aload_n X 5 0 dX4_init_4 rfl rfl ?_
  refine v_bipush X 7 dX4_init_5 bk_15 rfl ?_
  refine v_newq24 X 10 15 kk_X4_11 (by decide) (by decide) (by decide) (Nat.le_of_ble_eq_true rfl) (Nat.le_of_ble_eq_true rfl) dX4_init_7 rfl (fun a1 M2 => ?_)
  refine v_cs 1 15 rfl rfl ?_
  refine v_putR X 13 fl_X4_13 (fun _ => hn) dX4_init_10 rfl (fun M3 => ?_)
  refine v_aload_n X 14 0 dX4_init_13 rfl rfl ?_
  refine v_iconst X 15 dX4_init_14 ik_3 rfl ?_
  refine v_newq24 X 18 3 kk_X4_11 (by decide) (by decide) (by decide) (Nat.le_of_ble_eq_true rfl) (Nat.le_of_ble_eq_true rfl) dX4_init_15 rfl (fun a4 M5 => ?_)
  refine v_cs 2 18 rfl rfl ?_
  refine v_putR X 21 fl_X4_17 (fun _ => hn) dX4_init_18 rfl (fun M6 => ?_)
  refine v_aload_n X 22 0 dX4_init_21 rfl rfl ?_
  refine v_iconst X 23 dX4_init_22 ik_3 rfl ?_
  refine v_newa (aty := .int) (ty := .int) X 25 20 0 3 rfl ka_int (Or.inl ⟨rfl, rfl, rfl⟩) (by decide) (by decide) (by decide) (Nat.le_of_ble_eq_true rfl) (Nat.le_of_ble_eq_true rfl) dX4_init_23 rfl (fun a7 M8 => ?_)
  refine v_cs 3 21 rfl rfl ?_
  refine v_putR X 28 fl_X4_20 (fun _ => hn) dX4_init_25 rfl (fun M9 => ?_)
  refine v_aload_n X 29 0 dX4_init_28 rfl rfl ?_
  refine v_iconst X 30 dX4_init_29 ik_3 rfl ?_
  refine v_newa (aty := .int) (ty := .int) X 32 20 0 3 rfl ka_int (Or.inl ⟨rfl, rfl, rfl⟩) (by decide) (by decide) (by decide) (Nat.le_of_ble_eq_true rfl) (Nat.le_of_ble_eq_true rfl) dX4_init_30 rfl (fun a10 M11 => ?_)
  refine v_cs 4 24 rfl rfl ?_
  refine v_putR X 35 fl_X4_24 (fun _ => hn) dX4_init_32 rfl (fun M12 => ?_)
  refine v_iconst X 36 dX4_init_35 ik_0 rfl ?_
  refine v_istore_n (lv' := [(0, .ref x0), (1, .int (0 : Int32))]) X 37 dX4_init_36 (by decide) rfl rfl ?_
  refine v_iload_n X 38 1 dX4_init_37 rfl rfl ?_
  refine v_bipush X 40 dX4_init_38 bk_15 rfl ?_
  refine v_geF X 43 62 dX4_init_40 rfl (by decide) rfl ?_
  refine v_aload_n X 44 0 dX4_init_43 rfl rfl ?_
  refine v_getR X 47 fl_X4_13.r dX4_init_44 rfl (fun v13 => ?_)
  refine v_iload_n X 48 1 dX4_init_47 rfl rfl ?_
  refine v_new X 51 cl5 kk_X4_11 ki_X5 in_X5 (Nat.le_of_ble_eq_true rfl) (Nat.le_of_ble_eq_true rfl) (by decide) dX4_init_48 rfl (fun a14 M15 => ?_)
  refine v_cs 5 26 rfl rfl ?_
  refine v_dup X 52 dX4_init_51 rfl rfl ?_
  refine v_iniN X 55 ci_X5_init (host := RX11) (by decide +kernel) (n1 := 2) (c1 := 1) (s1 := 12) rfl [] rfl rfl rfl dX4_init_52 rfl (fun M1 h => c_X5_init _ _ _ _ h) (fun M16 => ?_)
  refine v_cs 6 38 rfl rfl ?_
  refine v_aast24 X 56 dX4_init_55 rfl (fun M17 => ?_)
  refine v_iincC (lv' := [(0, .ref x0), (1, .int (1 : Int32))]) (w := 1) X 59 1 dX4_init_56 rfl ik_1 (by decide) (by decide) rfl rfl ?_
  refine v_goto X 37 dX4_init_59 rfl ?_
  refine v_iload_n X 38 1 dX4_init_37 rfl rfl ?_
  refine v_bipush X 40 dX4_init_38 bk_15 rfl ?_
  refine v_geF X 43 62 dX4_init_40 rfl (by decide) rfl ?_
  refine v_aload_n X 44 0 dX4_init_43 rfl rfl ?_
  refine v_getR X 47 fl_X4_13.r dX4_init_44 rfl (fun v18 => ?_)
  refine v_iload_n X 48 1 dX4_init_47 rfl rfl ?_
  refine v_new X 51 cl5 kk_X4_11 ki_X5 in_X5 (Nat.le_of_ble_eq_true rfl) (Nat.le_of_ble_eq_true rfl) (by decide) dX4_init_48 rfl (fun a19 M20 => ?_)
  refine v_cs 7 40 rfl rfl ?_
  refine v_dup X 52 dX4_init_51 rfl rfl ?_
  refine v_iniN X 55 ci_X5_init (host := RX11) (by decide +kernel) (n1 := 2) (c1 := 1) (s1 := 12) rfl [] rfl rfl rfl dX4_init_52 rfl (fun M1 h => c_X5_init _ _ _ _ h) (fun M21 => ?_)
  refine v_cs 8 52 rfl rfl ?_
  refine v_aast24 X 56 dX4_init_55 rfl (fun M22 => ?_)
  refine v_iincC (lv' := [(0, .ref x0), (1, .int (2 : Int32))]) (w := 2) X 59 1 dX4_init_56 rfl ik_1 (by decide) (by decide) rfl rfl ?_
  refine v_goto X 37 dX4_init_59 rfl ?_
  refine v_iload_n X 38 1 dX4_init_37 rfl rfl ?_
  refine v_bipush X 40 dX4_init_38 bk_15 rfl ?_
  refine v_geF X 43 62 dX4_init_40 rfl (by decide) rfl ?_
  refine v_aload_n X 44 0 dX4_init_43 rfl rfl ?_
  refine v_getR X 47 fl_X4_13.r dX4_init_44 rfl (fun v23 => ?_)
  refine v_iload_n X 48 1 dX4_init_47 rfl rfl ?_
  refine v_new X 51 cl5 kk_X4_11 ki_X5 in_X5 (Nat.le_of_ble_eq_true rfl) (Nat.le_of_ble_eq_true rfl) (by decide) dX4_init_48 rfl (fun a24 M25 => ?_)
  refine v_cs 9 54 rfl rfl ?_
  refine v_dup X 52 dX4_init_51 rfl rfl ?_
  refine v_iniN X 55 ci_X5_init (host := RX11) (by decide +kernel) (n1 := 2) (c1 := 1) (s1 := 12) rfl [] rfl rfl rfl dX4_init_52 rfl (fun M1 h => c_X5_init _ _ _ _ h) (fun M26 => ?_)
  refine v_cs 10 66 rfl rfl ?_
  refine v_aast24 X 56 dX4_init_55 rfl (fun M27 => ?_)
  refine v_iincC (lv' := [(0, .ref x0), (1, .int (3 : Int32))]) (w := 3) X 59 1 dX4_init_56 rfl ik_1 (by decide) (by decide) rfl rfl ?_
  refine v_goto X 37 dX4_init_59 rfl ?_
  refine v_iload_n X 38 1 dX4_init_37 rfl rfl ?_
  refine v_bipush X 40 dX4_init_38 bk_15 rfl ?_
  refine v_geF X 43 62 dX4_init_40 rfl (by decide) rfl ?_
  refine v_aload_n X 44 0 dX4_init_43 rfl rfl ?_
  refine v_getR X 47 fl_X4_13.r dX4_init_44 rfl (fun v28 => ?_)
  refine v_iload_n X 48 1 dX4_init_47 rfl rfl ?_
  refine v_new X 51 cl5 kk_X4_11 ki_X5 in_X5 (Nat.le_of_ble_eq_true rfl) (Nat.le_of_ble_eq_true rfl) (by decide) dX4_init_48 rfl (fun a29 M30 => ?_)
  refine v_cs 11 68 rfl rfl ?_
  refine v_dup X 52 dX4_init_51 rfl rfl ?_
  refine v_iniN X 55 ci_X5_init (host := RX11) (by decide +kernel) (n1 := 2) (c1 := 1) (s1 := 12) rfl [] rfl rfl rfl dX4_init_52 rfl (fun M1 h => c_X5_init _ _ _ _ h) (fun M31 => ?_)
  refine v_cs 12 80 rfl rfl ?_
  refine v_aast24 X 56 dX4_init_55 rfl (fun M32 => ?_)
  refine v_iincC (lv' := [(0, .ref x0), (1, .int (4 : Int32))]) (w := 4) X 59 1 dX4_init_56 rfl ik_1 (by decide) (by decide) rfl rfl ?_
  refine v_goto X 37 dX4_init_59 rfl ?_
  refine v_iload_n X 38 1 dX4_init_37 rfl rfl ?_
  refine v_bipush X 40 dX4_init_38 bk_15 rfl ?_
  refine v_geF X 43 62 dX4_init_40 rfl (by decide) rfl ?_
  refine v_aload_n X 44 0 dX4_init_43 rfl rfl ?_
  refine v_getR X 47 fl_X4_13.r dX4_init_44 rfl (fun v33 => ?_)
  refine v_iload_n X 48 1 dX4_init_47 rfl rfl ?_
  refine v_new X 51 cl5 kk_X4_11 ki_X5 in_X5 (Nat.le_of_ble_eq_true rfl) (Nat.le_of_ble_eq_true rfl) (by decide) dX4_init_48 rfl (fun a34 M35 => ?_)
  refine v_cs 13 82 rfl rfl ?_
  refine v_dup X 52 dX4_init_51 rfl rfl ?_
  refine v_iniN X 55 ci_X5_init (host := RX11) (by decide +kernel) (n1 := 2) (c1 := 1) (s1 := 12) rfl [] rfl rfl rfl dX4_init_52 rfl (fun M1 h => c_X5_init _ _ _ _ h) (fun M36 => ?_)
  refine v_cs 14 94 rfl rfl ?_
  refine v_aast24 X 56 dX4_init_55 rfl (fun M37 => ?_)
  refine v_iincC (lv' := [(0, .ref x0), (1, .int (5 : Int32))]) (w := 5) X 59 1 dX4_init_56 rfl ik_1 (by decide) (by decide) rfl rfl ?_
  refine v_goto X 37 dX4_init_59 rfl ?_
  refine v_iload_n X 38 1 dX4_init_37 rfl rfl ?_
  refine v_bipush X 40 dX4_init_38 bk_15 rfl ?_
  refine v_geF X 43 62 dX4_init_40 rfl (by decide) rfl ?_
  refine v_aload_n X 44 0 dX4_init_43 rfl rfl ?_
  refine v_getR X 47 fl_X4_13.r dX4_init_44 rfl (fun v38 => ?_)
  refine v_iload_n X 48 1 dX4_init_47 rfl rfl ?_
  refine v_new X 51 cl5 kk_X4_11 ki_X5 in_X5 (Nat.le_of_ble_eq_true rfl) (Nat.le_of_ble_eq_true rfl) (by decide) dX4_init_48 rfl (fun a39 M40 => ?_)
  refine v_cs 15 96 rfl rfl ?_
  refine v_dup X 52 dX4_init_51 rfl rfl ?_
  refine v_iniN X 55 ci_X5_init (host := RX11) (by decide +kernel) (n1 := 2) (c1 := 1) (s1 := 12) rfl [] rfl rfl rfl dX4_init_52 rfl (fun M1 h => c_X5_init _ _ _ _ h) (fun M41 => ?_)
  refine v_cs 16 108 rfl rfl ?_
  refine v_aast24 X 56 dX4_init_55 rfl (fun M42 => ?_)
  refine v_iincC (lv' := [(0, .ref x0), (1, .int (6 : Int32))]) (w := 6) X 59 1 dX4_init_56 rfl ik_1 (by decide) (by decide) rfl rfl ?_
  refine v_goto X 37 dX4_init_59 rfl ?_
  refine v_iload_n X 38 1 dX4_init_37 rfl rfl ?_
  refine v_bipush X 40 dX4_init_38 bk_15 rfl ?_
  refine v_geF X 43 62 dX4_init_40 rfl (by decide) rfl ?_
  refine v_aload_n X 44 0 dX4_init_43 rfl rfl ?_
  refine v_getR X 47 fl_X4_13.r dX4_init_44 rfl (fun v43 => ?_)
  refine v_iload_n X 48 1 dX4_init_47 rfl rfl ?_
  refine v_new X 51 cl5 kk_X4_11 ki_X5 in_X5 (Nat.le_of_ble_eq_true rfl) (Nat.le_of_ble_eq_true rfl) (by decide) dX4_init_48 rfl (fun a44 M45 => ?_)
  refine v_cs 17 110 rfl rfl ?_
  refine v_dup X 52 dX4_init_51 rfl rfl ?_
  refine v_iniN X 55 ci_X5_init (host := RX11) (by decide +kernel) (n1 := 2) (c1 := 1) (s1 := 12) rfl [] rfl rfl rfl dX4_init_52 rfl (fun M1 h => c_X5_init _ _ _ _ h) (fun M46 => ?_)
  refine v_cs 18 122 rfl rfl ?_
  refine v_aast24 X 56 dX4_init_55 rfl (fun M47 => ?_)
  refine v_iincC (lv' := [(0, .ref x0), (1, .int (7 : Int32))]) (w := 7) X 59 1 dX4_init_56 rfl ik_1 (by decide) (by decide) rfl rfl ?_
  refine v_goto X 37 dX4_init_59 rfl ?_
  refine v_iload_n X 38 1 dX4_init_37 rfl rfl ?_
  refine v_bipush X 40 dX4_init_38 bk_15 rfl ?_
  refine v_geF X 43 62 dX4_init_40 rfl (by decide) rfl ?_
  refine v_aload_n X 44 0 dX4_init_43 rfl rfl ?_
  refine v_getR X 47 fl_X4_13.r dX4_init_44 rfl (fun v48 => ?_)
  refine v_iload_n X 48 1 dX4_init_47 rfl rfl ?_
  refine v_new X 51 cl5 kk_X4_11 ki_X5 in_X5 (Nat.le_of_ble_eq_true rfl) (Nat.le_of_ble_eq_true rfl) (by decide) dX4_init_48 rfl (fun a49 M50 => ?_)
  refine v_cs 19 124 rfl rfl ?_
  refine v_dup X 52 dX4_init_51 rfl rfl ?_
  refine v_iniN X 55 ci_X5_init (host := RX11) (by decide +kernel) (n1 := 2) (c1 := 1) (s1 := 12) rfl [] rfl rfl rfl dX4_init_52 rfl (fun M1 h => c_X5_init _ _ _ _ h) (fun M51 => ?_)
  refine v_cs 20 136 rfl rfl ?_
  refine v_aast24 X 56 dX4_init_55 rfl (fun M52 => ?_)
  refine v_iincC (lv' := [(0, .ref x0), (1, .int (8 : Int32))]) (w := 8) X 59 1 dX4_init_56 rfl ik_1 (by decide) (by decide) rfl rfl ?_
  refine v_goto X 37 dX4_init_59 rfl ?_
  refine v_iload_n X 38 1 dX4_init_37 rfl rfl ?_
  refine v_bipush X 40 dX4_init_38 bk_15 rfl ?_
  refine v_geF X 43 62 dX4_init_40 rfl (by decide) rfl ?_
  refine v_aload_n X 44 0 dX4_init_43 rfl rfl ?_
  refine v_getR X 47 fl_X4_13.r dX4_init_44 rfl (fun v53 => ?_)
  refine v_iload_n X 48 1 dX4_init_47 rfl rfl ?_
  refine v_new X 51 cl5 kk_X4_11 ki_X5 in_X5 (Nat.le_of_ble_eq_true rfl) (Nat.le_of_ble_eq_true rfl) (by decide) dX4_init_48 rfl (fun a54 M55 => ?_)
  refine v_cs 21 138 rfl rfl ?_
  refine v_dup X 52 dX4_init_51 rfl rfl ?_
  refine v_iniN X 55 ci_X5_init (host := RX11) (by decide +kernel) (n1 := 2) (c1 := 1) (s1 := 12) rfl [] rfl rfl rfl dX4_init_52 rfl (fun M1 h => c_X5_init _ _ _ _ h) (fun M56 => ?_)
  refine v_cs 22 150 rfl rfl ?_
  refine v_aast24 X 56 dX4_init_55 rfl (fun M57 => ?_)
  refine v_iincC (lv' := [(0, .ref x0), (1, .int (9 : Int32))]) (w := 9) X 59 1 dX4_init_56 rfl ik_1 (by decide) (by decide) rfl rfl ?_
  refine v_goto X 37 dX4_init_59 rfl ?_
  refine v_iload_n X 38 1 dX4_init_37 rfl rfl ?_
  refine v_bipush X 40 dX4_init_38 bk_15 rfl ?_
  refine v_geF X 43 62 dX4_init_40 rfl (by decide) rfl ?_
  refine v_aload_n X 44 0 dX4_init_43 rfl rfl ?_
  refine v_getR X 47 fl_X4_13.r dX4_init_44 rfl (fun v58 => ?_)
  refine v_iload_n X 48 1 dX4_init_47 rfl rfl ?_
  refine v_new X 51 cl5 kk_X4_11 ki_X5 in_X5 (Nat.le_of_ble_eq_true rfl) (Nat.le_of_ble_eq_true rfl) (by decide) dX4_init_48 rfl (fun a59 M60 => ?_)
  refine v_cs 23 152 rfl rfl ?_
  refine v_dup X 52 dX4_init_51 rfl rfl ?_
  refine v_iniN X 55 ci_X5_init (host := RX11) (by decide +kernel) (n1 := 2) (c1 := 1) (s1 := 12) rfl [] rfl rfl rfl dX4_init_52 rfl (fun M1 h => c_X5_init _ _ _ _ h) (fun M61 => ?_)
  refine v_cs 24 164 rfl rfl ?_
  refine v_aast24 X 56 dX4_init_55 rfl (fun M62 => ?_)
  refine v_iincC (lv' := [(0, .ref x0), (1, .int (10 : Int32))]) (w := 10) X 59 1 dX4_init_56 rfl ik_1 (by decide) (by decide) rfl rfl ?_
  refine v_goto X 37 dX4_init_59 rfl ?_
  refine v_iload_n X 38 1 dX4_init_37 rfl rfl ?_
  refine v_bipush X 40 dX4_init_38 bk_15 rfl ?_
  refine v_geF X 43 62 dX4_init_40 rfl (by decide) rfl ?_
  refine v_aload_n X 44 0 dX4_init_43 rfl rfl ?_
  refine v_getR X 47 fl_X4_13.r dX4_init_44 rfl (fun v63 => ?_)
  refine v_iload_n X 48 1 dX4_init_47 rfl rfl ?_
  refine v_new X 51 cl5 kk_X4_11 ki_X5 in_X5 (Nat.le_of_ble_eq_true rfl) (Nat.le_of_ble_eq_true rfl) (by decide) dX4_init_48 rfl (fun a64 M65 => ?_)
  refine v_cs 25 166 rfl rfl ?_
  refine v_dup X 52 dX4_init_51 rfl rfl ?_
  refine v_iniN X 55 ci_X5_init (host := RX11) (by decide +kernel) (n1 := 2) (c1 := 1) (s1 := 12) rfl [] rfl rfl rfl dX4_init_52 rfl (fun M1 h => c_X5_init _ _ _ _ h) (fun M66 => ?_)
  refine v_cs 26 178 rfl rfl ?_
  refine v_aast24 X 56 dX4_init_55 rfl (fun M67 => ?_)
  refine v_iincC (lv' := [(0, .ref x0), (1, .int (11 : Int32))]) (w := 11) X 59 1 dX4_init_56 rfl ik_1 (by decide) (by decide) rfl rfl ?_
  refine v_goto X 37 dX4_init_59 rfl ?_
  refine v_iload_n X 38 1 dX4_init_37 rfl rfl ?_
  refine v_bipush X 40 dX4_init_38 bk_15 rfl ?_
  refine v_geF X 43 62 dX4_init_40 rfl (by decide) rfl ?_
  refine v_aload_n X 44 0 dX4_init_43 rfl rfl ?_
  refine v_getR X 47 fl_X4_13.r dX4_init_44 rfl (fun v68 => ?_)
  refine v_iload_n X 48 1 dX4_init_47 rfl rfl ?_
  refine v_new X 51 cl5 kk_X4_11 ki_X5 in_X5 (Nat.le_of_ble_eq_true rfl) (Nat.le_of_ble_eq_true rfl) (by decide) dX4_init_48 rfl (fun a69 M70 => ?_)
  refine v_cs 27 180 rfl rfl ?_
  refine v_dup X 52 dX4_init_51 rfl rfl ?_
  refine v_iniN X 55 ci_X5_init (host := RX11) (by decide +kernel) (n1 := 2) (c1 := 1) (s1 := 12) rfl [] rfl rfl rfl dX4_init_52 rfl (fun M1 h => c_X5_init _ _ _ _ h) (fun M71 => ?_)
  refine v_cs 28 192 rfl rfl ?_
  refine v_aast24 X 56 dX4_init_55 rfl (fun M72 => ?_)
  refine v_iincC (lv' := [(0, .ref x0), (1, .int (12 : Int32))]) (w := 12) X 59 1 dX4_init_56 rfl ik_1 (by decide) (by decide) rfl rfl ?_
  refine v_goto X 37 dX4_init_59 rfl ?_
  refine v_iload_n X 38 1 dX4_init_37 rfl rfl ?_
  refine v_bipush X 40 dX4_init_38 bk_15 rfl ?_
  refine v_geF X 43 62 dX4_init_40 rfl (by decide) rfl ?_
  refine v_aload_n X 44 0 dX4_init_43 rfl rfl ?_
  refine v_getR X 47 fl_X4_13.r dX4_init_44 rfl (fun v73 => ?_)
  refine v_iload_n X 48 1 dX4_init_47 rfl rfl ?_
  refine v_new X 51 cl5 kk_X4_11 ki_X5 in_X5 (Nat.le_of_ble_eq_true rfl) (Nat.le_of_ble_eq_true rfl) (by decide) dX4_init_48 rfl (fun a74 M75 => ?_)
  refine v_cs 29 194 rfl rfl ?_
  refine v_dup X 52 dX4_init_51 rfl rfl ?_
  refine v_iniN X 55 ci_X5_init (host := RX11) (by decide +kernel) (n1 := 2) (c1 := 1) (s1 := 12) rfl [] rfl rfl rfl dX4_init_52 rfl (fun M1 h => c_X5_init _ _ _ _ h) (fun M76 => ?_)
  refine v_cs 30 206 rfl rfl ?_
  refine v_aast24 X 56 dX4_init_55 rfl (fun M77 => ?_)
  refine v_iincC (lv' := [(0, .ref x0), (1, .int (13 : Int32))]) (w := 13) X 59 1 dX4_init_56 rfl ik_1 (by decide) (by decide) rfl rfl ?_
  refine v_goto X 37 dX4_init_59 rfl ?_
  refine v_iload_n X 38 1 dX4_init_37 rfl rfl ?_
  refine v_bipush X 40 dX4_init_38 bk_15 rfl ?_
  refine v_geF X 43 62 dX4_init_40 rfl (by decide) rfl ?_
  refine v_aload_n X 44 0 dX4_init_43 rfl rfl ?_
  refine v_getR X 47 fl_X4_13.r dX4_init_44 rfl (fun v78 => ?_)
  refine v_iload_n X 48 1 dX4_init_47 rfl rfl ?_
  refine v_new X 51 cl5 kk_X4_11 ki_X5 in_X5 (Nat.le_of_ble_eq_true rfl) (Nat.le_of_ble_eq_true rfl) (by decide) dX4_init_48 rfl (fun a79 M80 => ?_)
  refine v_cs 31 208 rfl rfl ?_
  refine v_dup X 52 dX4_init_51 rfl rfl ?_
  refine v_iniN X 55 ci_X5_init (host := RX11) (by decide +kernel) (n1 := 2) (c1 := 1) (s1 := 12) rfl [] rfl rfl rfl dX4_init_52 rfl (fun M1 h => c_X5_init _ _ _ _ h) (fun M81 => ?_)
  refine v_cs 32 220 rfl rfl ?_
  refine v_aast24 X 56 dX4_init_55 rfl (fun M82 => ?_)
  refine v_iincC (lv' := [(0, .ref x0), (1, .int (14 : Int32))]) (w := 14) X 59 1 dX4_init_56 rfl ik_1 (by decide) (by decide) rfl rfl ?_
  refine v_goto X 37 dX4_init_59 rfl ?_
  refine v_iload_n X 38 1 dX4_init_37 rfl rfl ?_
  refine v_bipush X 40 dX4_init_38 bk_15 rfl ?_
  refine v_geF X 43 62 dX4_init_40 rfl (by decide) rfl ?_
  refine v_aload_n X 44 0 dX4_init_43 rfl rfl ?_
  refine v_getR X 47 fl_X4_13.r dX4_init_44 rfl (fun v83 => ?_)
  refine v_iload_n X 48 1 dX4_init_47 rfl rfl ?_
  refine v_new X 51 cl5 kk_X4_11 ki_X5 in_X5 (Nat.le_of_ble_eq_true rfl) (Nat.le_of_ble_eq_true rfl) (by decide) dX4_init_48 rfl (fun a84 M85 => ?_)
  refine v_cs 33 222 rfl rfl ?_
  refine v_dup X 52 dX4_init_51 rfl rfl ?_
  refine v_iniN X 55 ci_X5_init (host := RX11) (by decide +kernel) (n1 := 2) (c1 := 1) (s1 := 12) rfl [] rfl rfl rfl dX4_init_52 rfl (fun M1 h => c_X5_init _ _ _ _ h) (fun M86 => ?_)
  refine v_cs 34 234 rfl rfl ?_
  refine v_aast24 X 56 dX4_init_55 rfl (fun M87 => ?_)
  refine v_iincC (lv' := [(0, .ref x0), (1, .int (15 : Int32))]) (w := 15) X 59 1 dX4_init_56 rfl ik_1 (by decide) (by decide) rfl rfl ?_
  refine v_goto X 37 dX4_init_59 rfl ?_
  refine v_iload_n X 38 1 dX4_init_37 rfl rfl ?_
  refine v_bipush X 40 dX4_init_38 bk_15 rfl ?_
  refine v_geT X 62 dX4_init_40 rfl (by decide) ?_
  refine v_iconst X 63 dX4_init_62 ik_0 rfl ?_
  refine v_istore_n (lv' := [(0, .ref x0), (1, .int (0 : Int32))]) X 64 dX4_init_63 (by decide) rfl rfl ?_
  refine v_iload_n X 65 1 dX4_init_64 rfl rfl ?_
  refine v_iconst X 66 dX4_init_65 ik_3 rfl ?_
  refine v_geF X 69 95 dX4_init_66 rfl (by decide) rfl ?_
  refine v_aload_n X 70 0 dX4_init_69 rfl rfl ?_
  refine v_getR X 73 fl_X4_17.r dX4_init_70 rfl (fun v88 => ?_)
  refine v_iload_n X 74 1 dX4_init_73 rfl rfl ?_
  refine v_new X 77 cl5 kk_X4_11 ki_X5 in_X5 (Nat.le_of_ble_eq_true rfl) (Nat.le_of_ble_eq_true rfl) (by decide) dX4_init_74 rfl (fun a89 M90 => ?_)
  refine v_cs 35 236 rfl rfl ?_
  refine v_dup X 78 dX4_init_77 rfl rfl ?_
  refine v_iniN X 81 ci_X5_init (host := RX11) (by decide +kernel) (n1 := 2) (c1 := 1) (s1 := 12) rfl [] rfl rfl rfl dX4_init_78 rfl (fun M1 h => c_X5_init _ _ _ _ h) (fun M91 => ?_)
  refine v_cs 36 248 rfl rfl ?_
  refine v_aast24 X 82 dX4_init_81 rfl (fun M92 => ?_)
  refine v_aload_n X 83 0 dX4_init_82 rfl rfl ?_
  refine v_getR X 86 fl_X4_20.r dX4_init_83 rfl (fun v93 => ?_)
  refine v_iload_n X 87 1 dX4_init_86 rfl rfl ?_
  refine v_iconst X 88 dX4_init_87 ik_m1 rfl ?_
  refine v_iast X 89 dX4_init_88 rfl (fun M94 => ?_)
  refine v_iincC (lv' := [(0, .ref x0), (1, .int (1 : Int32))]) (w := 1) X 92 1 dX4_init_89 rfl ik_1 (by decide) (by decide) rfl rfl ?_
  refine v_goto X 64 dX4_init_92 rfl ?_
  refine v_iload_n X 65 1 dX4_init_64 rfl rfl ?_
  refine v_iconst X 66 dX4_init_65 ik_3 rfl ?_
  refine v_geF X 69 95 dX4_init_66 rfl (by decide) rfl ?_
  refine v_aload_n X 70 0 dX4_init_69 rfl rfl ?_
  refine v_getR X 73 fl_X4_17.r dX4_init_70 rfl (fun v95 => ?_)
  refine v_iload_n X 74 1 dX4_init_73 rfl rfl ?_
  refine v_new X 77 cl5 kk_X4_11 ki_X5 in_X5 (Nat.le_of_ble_eq_true rfl) (Nat.le_of_ble_eq_true rfl) (by decide) dX4_init_74 rfl (fun a96 M97 => ?_)
  refine v_cs 37 250 rfl rfl ?_
  refine v_dup X 78 dX4_init_77 rfl rfl ?_
  refine v_iniN X 81 ci_X5_init (host := RX11) (by decide +kernel) (n1 := 2) (c1 := 1) (s1 := 12) rfl [] rfl rfl rfl dX4_init_78 rfl (fun M1 h => c_X5_init _ _ _ _ h) (fun M98 => ?_)
  refine v_cs 38 262 rfl rfl ?_
  refine v_aast24 X 82 dX4_init_81 rfl (fun M99 => ?_)
  refine v_aload_n X 83 0 dX4_init_82 rfl rfl ?_
  refine v_getR X 86 fl_X4_20.r dX4_init_83 rfl (fun v100 => ?_)
  refine v_iload_n X 87 1 dX4_init_86 rfl rfl ?_
  refine v_iconst X 88 dX4_init_87 ik_m1 rfl ?_
  refine v_iast X 89 dX4_init_88 rfl (fun M101 => ?_)
  refine v_iincC (lv' := [(0, .ref x0), (1, .int (2 : Int32))]) (w := 2) X 92 1 dX4_init_89 rfl ik_1 (by decide) (by decide) rfl rfl ?_
  refine v_goto X 64 dX4_init_92 rfl ?_
  refine v_iload_n X 65 1 dX4_init_64 rfl rfl ?_
  refine v_iconst X 66 dX4_init_65 ik_3 rfl ?_
  refine v_geF X 69 95 dX4_init_66 rfl (by decide) rfl ?_
  refine v_aload_n X 70 0 dX4_init_69 rfl rfl ?_
  refine v_getR X 73 fl_X4_17.r dX4_init_70 rfl (fun v102 => ?_)
  refine v_iload_n X 74 1 dX4_init_73 rfl rfl ?_
  refine v_new X 77 cl5 kk_X4_11 ki_X5 in_X5 (Nat.le_of_ble_eq_true rfl) (Nat.le_of_ble_eq_true rfl) (by decide) dX4_init_74 rfl (fun a103 M104 => ?_)
  refine v_cs 39 264 rfl rfl ?_
  refine v_dup X 78 dX4_init_77 rfl rfl ?_
  refine v_iniN X 81 ci_X5_init (host := RX11) (by decide +kernel) (n1 := 2) (c1 := 1) (s1 := 12) rfl [] rfl rfl rfl dX4_init_78 rfl (fun M1 h => c_X5_init _ _ _ _ h) (fun M105 => ?_)
  refine v_cs 40 276 rfl rfl ?_
  refine v_aast24 X 82 dX4_init_81 rfl (fun M106 => ?_)
  refine v_aload_n X 83 0 dX4_init_82 rfl rfl ?_
  refine v_getR X 86 fl_X4_20.r dX4_init_83 rfl (fun v107 => ?_)
  refine v_iload_n X 87 1 dX4_init_86 rfl rfl ?_
  refine v_iconst X 88 dX4_init_87 ik_m1 rfl ?_
  refine v_iast X 89 dX4_init_88 rfl (fun M108 => ?_)
  refine v_iincC (lv' := [(0, .ref x0), (1, .int (3 : Int32))]) (w := 3) X 92 1 dX4_init_89 rfl ik_1 (by decide) (by decide) rfl rfl ?_
  refine v_goto X 64 dX4_init_92 rfl ?_
  refine v_iload_n X 65 1 dX4_init_64 rfl rfl ?_
  refine v_iconst X 66 dX4_init_65 ik_3 rfl ?_
  refine v_geT X 95 dX4_init_66 rfl (by decide) ?_
  exact v_vret X Y (Nat.le_refl _) (Nat.le_refl _) dX4_init_95
theorem c_X4_init (l : Launch) (x0 : Nat) (M M1 : MM) (h : f_X4_init x0 M = some M1) : CtAt l yX4_init cX4_init 2 none (RM 3 40 276) true [.ref x0] M none M1 :=
  ct_of (tr := trV) (by decide) (Nat.le_of_ble_eq_true rfl) [(0, .ref x0)] rfl h (fun G X Y hn hl => L_X4_init X Y hn x0 M)

def f_X6_init (x0 : Nat) (M : MM) : Option MM :=
    b2 (nO 21 8 M) fun a1 M2 =>
    b1 (pR 6 0 x0 a1 M2) fun M3 =>
    some M3
set_option maxRecDepth 4000 in
set_option maxHeartbeats 4000000 in
theorem L_X6_init {G : Gx} (X : Cb G cX6_init 1 RX6 (RM 2 1 8) true) (Y : Cr G none 1 8) (hn : G.2.2.1.1.name = "<init>") (x0 : Nat) (M : MM) : V G trV 1 0 0 0 [(0, .ref x0)] [] M (f_X6_init x0 M) := by
  unfold f_X6_init
  refine v_aload_n X 1 0 dX6_init_0 rfl rfl ?_
  refine v_objInit X 4 ml_X6_1 wObj (Nat.le_of_ble_eq_true rfl) (Nat.le_of_ble_eq_true rfl) dX6_init_1 rfl ?_
  refine v_aload_n X 5 0 dX6_init_4 rfl rfl ?_
  refine v_bipush X 7 dX6_init_5 bk_8 rfl ?_
  refine v_newa (aty := .long) (ty := .long) X 9 21 1 8 rfl ka_long (Or.inr (Or.inl ⟨rfl, rfl, rfl⟩)) (by decide) (by decide) (by decide) (Nat.le_of_ble_eq_true rfl) (Nat.le_of_ble_eq_true rfl) dX6_init_7 rfl (fun a1 M2 => ?_)
  refine v_cs 1 8 rfl rfl ?_
  refine v_putR X 12 fl_X6_9 (fun _ => hn) dX6_init_9 rfl (fun M3 => ?_)
  exact v_vret X Y (Nat.le_refl _) (Nat.le_refl _) dX6_init_12
theorem c_X6_init (l : Launch) (x0 : Nat) (M M1 : MM) (h : f_X6_init x0 M = some M1) : CtAt l yX6_init cX6_init 1 none (RM 2 1 8) true [.ref x0] M none M1 :=
  ct_of (tr := trV) (by decide) (Nat.le_of_ble_eq_true rfl) [(0, .ref x0)] rfl h (fun G X Y hn hl => L_X6_init X Y hn x0 M)

def f_X7_init (x0 : Nat) (x1 : Nat) (x2 : Nat) (M : MM) : Option MM :=
    b2 (nO 20 40 M) fun a1 M2 =>
    b1 (pR 7 2 x0 a1 M2) fun M3 =>
    b2 (nO 20 40 M3) fun a4 M5 =>
    b1 (pR 7 3 x0 a4 M5) fun M6 =>
    b2 (nO 20 41 M6) fun a7 M8 =>
    b1 (pR 7 4 x0 a7 M8) fun M9 =>
    b2 (nO 20 8 M9) fun a10 M11 =>
    b1 (pR 7 5 x0 a10 M11) fun M12 =>
    b1 (pR 7 0 x0 x1 M12) fun M13 =>
    b1 (pR 7 1 x0 x2 M13) fun M14 =>
    some M14
set_option maxRecDepth 4000 in
set_option maxHeartbeats 4000000 in
theorem L_X7_init {G : Gx} (X : Cb G cX7_init 3 RX7 (RM 2 4 129) true) (Y : Cr G none 4 129) (hn : G.2.2.1.1.name = "<init>") (x0 : Nat) (x1 : Nat) (x2 : Nat) (M : MM) : V G trV 3 0 0 0 [(0, .ref x0), (1, .ref x1), (2, .ref x2)] [] M (f_X7_init x0 x1 x2 M) := by
  unfold f_X7_init
  refine v_aload_n X 1 0 dX7_init_0 rfl rfl ?_
  refine v_objInit X 4 ml_X7_3 wObj (Nat.le_of_ble_eq_true rfl) (Nat.le_of_ble_eq_true rfl) dX7_init_1 rfl ?_
  refine v_aload_n X 5 0 dX7_init_4 rfl rfl ?_
  refine v_bipush X 7 dX7_init_5 bk_40 rfl ?_
  refine v_newa (aty := .int) (ty := .int) X 9 20 0 40 rfl ka_int (Or.inl ⟨rfl, rfl, rfl⟩) (by decide) (by decide) (by decide) (Nat.le_of_ble_eq_true rfl) (Nat.le_of_ble_eq_true rfl) dX7_init_7 rfl (fun a1 M2 => ?_)
  refine v_cs 1 40 rfl rfl ?_
  refine v_putR X 12 fl_X7_11 (fun _ => hn) dX7_init_9 rfl (fun M3 => ?_)
  refine v_aload_n X 13 0 dX7_init_12 rfl rfl ?_
  refine v_bipush X 15 dX7_init_13 bk_40 rfl ?_
  refine v_newa (aty := .int) (ty := .int) X 17 20 0 40 rfl ka_int (Or.inl ⟨rfl, rfl, rfl⟩) (by decide) (by decide) (by decide) (Nat.le_of_ble_eq_true rfl) (Nat.le_of_ble_eq_true rfl) dX7_init_15 rfl (fun a4 M5 => ?_)
  refine v_cs 2 80 rfl rfl ?_
  refine v_putR X 20 fl_X7_15 (fun _ => hn) dX7_init_17 rfl (fun M6 => ?_)
  refine v_aload_n X 21 0 dX7_init_20 rfl rfl ?_
  refine v_bipush X 23 dX7_init_21 bk_41 rfl ?_
  refine v_newa (aty := .int) (ty := .int) X 25 20 0 41 rfl ka_int (Or.inl ⟨rfl, rfl, rfl⟩) (by decide) (by decide) (by decide) (Nat.le_of_ble_eq_true rfl) (Nat.le_of_ble_eq_true rfl) dX7_init_23 rfl (fun a7 M8 => ?_)
  refine v_cs 3 121 rfl rfl ?_
  refine v_putR X 28 fl_X7_18 (fun _ => hn) dX7_init_25 rfl (fun M9 => ?_)
  refine v_aload_n X 29 0 dX7_init_28 rfl rfl ?_
  refine v_bipush X 31 dX7_init_29 bk_8 rfl ?_
  refine v_newa (aty := .int) (ty := .int) X 33 20 0 8 rfl ka_int (Or.inl ⟨rfl, rfl, rfl⟩) (by decide) (by decide) (by decide) (Nat.le_of_ble_eq_true rfl) (Nat.le_of_ble_eq_true rfl) dX7_init_31 rfl (fun a10 M11 => ?_)
  refine v_cs 4 129 rfl rfl ?_
  refine v_putR X 36 fl_X7_21 (fun _ => hn) dX7_init_33 rfl (fun M12 => ?_)
  refine v_aload_n X 37 0 dX7_init_36 rfl rfl ?_
  refine v_aload_n X 38 1 dX7_init_37 rfl rfl ?_
  refine v_putR X 41 fl_X7_24 (fun _ => hn) dX7_init_38 rfl (fun M13 => ?_)
  refine v_aload_n X 42 0 dX7_init_41 rfl rfl ?_
  refine v_aload_n X 43 2 dX7_init_42 rfl rfl ?_
  refine v_putR X 46 fl_X7_28 (fun _ => hn) dX7_init_43 rfl (fun M14 => ?_)
  exact v_vret X Y (Nat.le_refl _) (Nat.le_refl _) dX7_init_46
theorem c_X7_init (l : Launch) (x0 : Nat) (x1 : Nat) (x2 : Nat) (M M1 : MM) (h : f_X7_init x0 x1 x2 M = some M1) : CtAt l yX7_init cX7_init 3 none (RM 2 4 129) true [.ref x0, .ref x1, .ref x2] M none M1 :=
  ct_of (tr := trV) (by decide) (Nat.le_of_ble_eq_true rfl) [(0, .ref x0), (1, .ref x1), (2, .ref x2)] rfl h (fun G X Y hn hl => L_X7_init X Y hn x0 x1 x2 M)

def f_X8_init (x0 : Nat) (x1 : Nat) (M : MM) : Option MM :=
    b2 (nO 20 12 M) fun a1 M2 =>
    b1 (pR 8 1 x0 a1 M2) fun M3 =>
    b2 (nO 20 12 M3) fun a4 M5 =>
    b1 (pR 8 2 x0 a4 M5) fun M6 =>
    b2 (nO 20 12 M6) fun a7 M8 =>
    b1 (pR 8 3 x0 a7 M8) fun M9 =>
    b1 (pR 8 0 x0 x1 M9) fun M10 =>
    some M10
set_option maxRecDepth 4000 in
set_option maxHeartbeats 4000000 in
theorem L_X8_init {G : Gx} (X : Cb G cX8_init 2 RX8 (RM 2 3 36) true) (Y : Cr G none 3 36) (hn : G.2.2.1.1.name = "<init>") (x0 : Nat) (x1 : Nat) (M : MM) : V G trV 2 0 0 0 [(0, .ref x0), (1, .ref x1)] [] M (f_X8_init x0 x1 M) := by
  unfold f_X8_init
  refine v_aload_n X 1 0 dX8_init_0 rfl rfl ?_
  refine v_objInit X 4 ml_X8_1 wObj (Nat.le_of_ble_eq_true rfl) (Nat.le_of_ble_eq_true rfl) dX8_init_1 rfl ?_
  refine v_aload_n X 5 0 dX8_init_4 rfl rfl ?_
  refine v_bipush X 7 dX8_init_5 bk_12 rfl ?_
  refine v_newa (aty := .int) (ty := .int) X 9 20 0 12 rfl ka_int (Or.inl ⟨rfl, rfl, rfl⟩) (by decide) (by decide) (by decide) (Nat.le_of_ble_eq_true rfl) (Nat.le_of_ble_eq_true rfl) dX8_init_7 rfl (fun a1 M2 => ?_)
  refine v_cs 1 12 rfl rfl ?_
  refine v_putR X 12 fl_X8_9 (fun _ => hn) dX8_init_9 rfl (fun M3 => ?_)
  refine v_aload_n X 13 0 dX8_init_12 rfl rfl ?_
  refine v_bipush X 15 dX8_init_13 bk_12 rfl ?_
  refine v_newa (aty := .int) (ty := .int) X 17 20 0 12 rfl ka_int (Or.inl ⟨rfl, rfl, rfl⟩) (by decide) (by decide) (by decide) (Nat.le_of_ble_eq_true rfl) (Nat.le_of_ble_eq_true rfl) dX8_init_15 rfl (fun a4 M5 => ?_)
  refine v_cs 2 24 rfl rfl ?_
  refine v_putR X 20 fl_X8_13 (fun _ => hn) dX8_init_17 rfl (fun M6 => ?_)
  refine v_aload_n X 21 0 dX8_init_20 rfl rfl ?_
  refine v_bipush X 23 dX8_init_21 bk_12 rfl ?_
  refine v_newa (aty := .int) (ty := .int) X 25 20 0 12 rfl ka_int (Or.inl ⟨rfl, rfl, rfl⟩) (by decide) (by decide) (by decide) (Nat.le_of_ble_eq_true rfl) (Nat.le_of_ble_eq_true rfl) dX8_init_23 rfl (fun a7 M8 => ?_)
  refine v_cs 3 36 rfl rfl ?_
  refine v_putR X 28 fl_X8_16 (fun _ => hn) dX8_init_25 rfl (fun M9 => ?_)
  refine v_aload_n X 29 0 dX8_init_28 rfl rfl ?_
  refine v_aload_n X 30 1 dX8_init_29 rfl rfl ?_
  refine v_putR X 33 fl_X8_19 (fun _ => hn) dX8_init_30 rfl (fun M10 => ?_)
  exact v_vret X Y (Nat.le_refl _) (Nat.le_refl _) dX8_init_33
theorem c_X8_init (l : Launch) (x0 : Nat) (x1 : Nat) (M M1 : MM) (h : f_X8_init x0 x1 M = some M1) : CtAt l yX8_init cX8_init 2 none (RM 2 3 36) true [.ref x0, .ref x1] M none M1 :=
  ct_of (tr := trV) (by decide) (Nat.le_of_ble_eq_true rfl) [(0, .ref x0), (1, .ref x1)] rfl h (fun G X Y hn hl => L_X8_init X Y hn x0 x1 M)

def f_X9_init (x0 : Nat) (M : MM) : Option MM :=
    b2 (nO 22 6 M) fun a1 M2 =>
    b1 (pR 9 0 x0 a1 M2) fun M3 =>
    b2 (nO 20 8 M3) fun a4 M5 =>
    b1 (pR 9 1 x0 a4 M5) fun M6 =>
    b2 (nO 20 8 M6) fun a7 M8 =>
    b1 (pR 9 2 x0 a7 M8) fun M9 =>
    b2 (nO 20 8 M9) fun a10 M11 =>
    b1 (pR 9 3 x0 a10 M11) fun M12 =>
    b2 (nO 20 8 M12) fun a13 M14 =>
    b1 (pR 9 4 x0 a13 M14) fun M15 =>
    b2 (nO 20 8 M15) fun a16 M17 =>
    b1 (pR 9 5 x0 a16 M17) fun M18 =>
    b2 (nO 22 8 M18) fun a19 M20 =>
    b1 (pR 9 6 x0 a19 M20) fun M21 =>
    b1 (pI 9 9 x0 (60 : Int32) M21) fun M22 =>
    b2 (nO 20 48 M22) fun a23 M24 =>
    b1 (pR 9 10 x0 a23 M24) fun M25 =>
    b1 (gR 9 10 x0 M25) fun v26 =>
    b1 (f_J7_fill_53178 v26 (1 : Int32) M25) fun M27 =>
    some M27
set_option maxRecDepth 4000 in
set_option maxHeartbeats 4000000 in
theorem L_X9_init {G : Gx} (X : Cb G cX9_init 1 RX9 (RM 2 8 102) true) (Y : Cr G none 8 102) (hn : G.2.2.1.1.name = "<init>") (x0 : Nat) (M : MM) : V G trV 1 0 0 0 [(0, .ref x0)] [] M (f_X9_init x0 M) := by
  unfold f_X9_init
  refine v_aload_n X 1 0 dX9_init_0 rfl rfl ?_
  refine v_objInit X 4 ml_X9_3 wObj (Nat.le_of_ble_eq_true rfl) (Nat.le_of_ble_eq_true rfl) dX9_init_1 rfl ?_
  refine v_aload_n X 5 0 dX9_init_4 rfl rfl ?_
  refine v_bipush X 7 dX9_init_5 bk_6 rfl ?_
  refine v_newa (aty := .boolean) (ty := .boolean) X 9 22 2 6 rfl ka_boolean (Or.inr (Or.inr ⟨rfl, rfl, rfl⟩)) (by decide) (by decide) (by decide) (Nat.le_of_ble_eq_true rfl) (Nat.le_of_ble_eq_true rfl) dX9_init_7 rfl (fun a1 M2 => ?_)
  refine v_cs 1 6 rfl rfl ?_
  refine v_putR X 12 fl_X9_11 (fun _ => hn) dX9_init_9 rfl (fun M3 => ?_)
  refine v_aload_n X 13 0 dX9_init_12 rfl rfl ?_
  refine v_bipush X 15 dX9_init_13 bk_8 rfl ?_
  refine v_newa (aty := .int) (ty := .int) X 17 20 0 8 rfl ka_int (Or.inl ⟨rfl, rfl, rfl⟩) (by decide) (by decide) (by decide) (Nat.le_of_ble_eq_true rfl) (Nat.le_of_ble_eq_true rfl) dX9_init_15 rfl (fun a4 M5 => ?_)
  refine v_cs 2 14 rfl rfl ?_
  refine v_putR X 20 fl_X9_15 (fun _ => hn) dX9_init_17 rfl (fun M6 => ?_)
  refine v_aload_n X 21 0 dX9_init_20 rfl rfl ?_
  refine v_bipush X 23 dX9_init_21 bk_8 rfl ?_
  refine v_newa (aty := .int) (ty := .int) X 25 20 0 8 rfl ka_int (Or.inl ⟨rfl, rfl, rfl⟩) (by decide) (by decide) (by decide) (Nat.le_of_ble_eq_true rfl) (Nat.le_of_ble_eq_true rfl) dX9_init_23 rfl (fun a7 M8 => ?_)
  refine v_cs 3 22 rfl rfl ?_
  refine v_putR X 28 fl_X9_19 (fun _ => hn) dX9_init_25 rfl (fun M9 => ?_)
  refine v_aload_n X 29 0 dX9_init_28 rfl rfl ?_
  refine v_bipush X 31 dX9_init_29 bk_8 rfl ?_
  refine v_newa (aty := .int) (ty := .int) X 33 20 0 8 rfl ka_int (Or.inl ⟨rfl, rfl, rfl⟩) (by decide) (by decide) (by decide) (Nat.le_of_ble_eq_true rfl) (Nat.le_of_ble_eq_true rfl) dX9_init_31 rfl (fun a10 M11 => ?_)
  refine v_cs 4 30 rfl rfl ?_
  refine v_putR X 36 fl_X9_22 (fun _ => hn) dX9_init_33 rfl (fun M12 => ?_)
  refine v_aload_n X 37 0 dX9_init_36 rfl rfl ?_
  refine v_bipush X 39 dX9_init_37 bk_8 rfl ?_
  refine v_newa (aty := .int) (ty := .int) X 41 20 0 8 rfl ka_int (Or.inl ⟨rfl, rfl, rfl⟩) (by decide) (by decide) (by decide) (Nat.le_of_ble_eq_true rfl) (Nat.le_of_ble_eq_true rfl) dX9_init_39 rfl (fun a13 M14 => ?_)
  refine v_cs 5 38 rfl rfl ?_
  refine v_putR X 44 fl_X9_25 (fun _ => hn) dX9_init_41 rfl (fun M15 => ?_)
  refine v_aload_n X 45 0 dX9_init_44 rfl rfl ?_
  refine v_bipush X 47 dX9_init_45 bk_8 rfl ?_
  refine v_newa (aty := .int) (ty := .int) X 49 20 0 8 rfl ka_int (Or.inl ⟨rfl, rfl, rfl⟩) (by decide) (by decide) (by decide) (Nat.le_of_ble_eq_true rfl) (Nat.le_of_ble_eq_true rfl) dX9_init_47 rfl (fun a16 M17 => ?_)
  refine v_cs 6 46 rfl rfl ?_
  refine v_putR X 52 fl_X9_28 (fun _ => hn) dX9_init_49 rfl (fun M18 => ?_)
  refine v_aload_n X 53 0 dX9_init_52 rfl rfl ?_
  refine v_bipush X 55 dX9_init_53 bk_8 rfl ?_
  refine v_newa (aty := .boolean) (ty := .boolean) X 57 22 2 8 rfl ka_boolean (Or.inr (Or.inr ⟨rfl, rfl, rfl⟩)) (by decide) (by decide) (by decide) (Nat.le_of_ble_eq_true rfl) (Nat.le_of_ble_eq_true rfl) dX9_init_55 rfl (fun a19 M20 => ?_)
  refine v_cs 7 54 rfl rfl ?_
  refine v_putR X 60 fl_X9_31 (fun _ => hn) dX9_init_57 rfl (fun M21 => ?_)
  refine v_aload_n X 61 0 dX9_init_60 rfl rfl ?_
  refine v_bipush X 63 dX9_init_61 bk_60 rfl ?_
  refine v_putI X 66 fl_X9_34 nof dX9_init_63 rfl (fun M22 => ?_)
  refine v_aload_n X 67 0 dX9_init_66 rfl rfl ?_
  refine v_bipush X 69 dX9_init_67 bk_48 rfl ?_
  refine v_newa (aty := .int) (ty := .int) X 71 20 0 48 rfl ka_int (Or.inl ⟨rfl, rfl, rfl⟩) (by decide) (by decide) (by decide) (Nat.le_of_ble_eq_true rfl) (Nat.le_of_ble_eq_true rfl) dX9_init_69 rfl (fun a23 M24 => ?_)
  refine v_cs 8 102 rfl rfl ?_
  refine v_putR X 74 fl_X9_38 (fun _ => hn) dX9_init_71 rfl (fun M25 => ?_)
  refine v_aload_n X 75 0 dX9_init_74 rfl rfl ?_
  refine v_getR X 78 fl_X9_38.r dX9_init_75 rfl (fun v26 => ?_)
  refine v_iconst X 79 dX9_init_78 ik_1 rfl ?_
  refine v_sVc X 82 cs_J7_fill_53178 ml_X9_41 (n1 := 1) rfl [.ref v26, .int (1 : Int32)] rfl rfl rfl dX9_init_79 rfl (fun M1 h => c_J7_fill_53178 _ _ _ _ _ h) (fun M27 => ?_)
  exact v_vret X Y (Nat.le_refl _) (Nat.le_refl _) dX9_init_82
theorem c_X9_init (l : Launch) (x0 : Nat) (M M1 : MM) (h : f_X9_init x0 M = some M1) : CtAt l yX9_init cX9_init 1 none (RM 2 8 102) true [.ref x0] M none M1 :=
  ct_of (tr := trV) (by decide) (Nat.le_of_ble_eq_true rfl) [(0, .ref x0)] rfl h (fun G X Y hn hl => L_X9_init X Y hn x0 M)

def f_X10_init (x0 : Nat) (M : MM) : Option MM :=
    b2 (nO 20 80 M) fun a1 M2 =>
    b1 (pR 10 0 x0 a1 M2) fun M3 =>
    some M3
set_option maxRecDepth 4000 in
set_option maxHeartbeats 4000000 in
theorem L_X10_init {G : Gx} (X : Cb G cX10_init 1 RX10 (RM 2 1 80) true) (Y : Cr G none 1 80) (hn : G.2.2.1.1.name = "<init>") (x0 : Nat) (M : MM) : V G trV 1 0 0 0 [(0, .ref x0)] [] M (f_X10_init x0 M) := by
  unfold f_X10_init
  refine v_aload_n X 1 0 dX10_init_0 rfl rfl ?_
  refine v_objInit X 4 ml_X10_3 wObj (Nat.le_of_ble_eq_true rfl) (Nat.le_of_ble_eq_true rfl) dX10_init_1 rfl ?_
  refine v_aload_n X 5 0 dX10_init_4 rfl rfl ?_
  refine v_bipush X 7 dX10_init_5 bk_80 rfl ?_
  refine v_newa (aty := .int) (ty := .int) X 9 20 0 80 rfl ka_int (Or.inl ⟨rfl, rfl, rfl⟩) (by decide) (by decide) (by decide) (Nat.le_of_ble_eq_true rfl) (Nat.le_of_ble_eq_true rfl) dX10_init_7 rfl (fun a1 M2 => ?_)
  refine v_cs 1 80 rfl rfl ?_
  refine v_putR X 12 fl_X10_11 (fun _ => hn) dX10_init_9 rfl (fun M3 => ?_)
  exact v_vret X Y (Nat.le_refl _) (Nat.le_refl _) dX10_init_12
theorem c_X10_init (l : Launch) (x0 : Nat) (M M1 : MM) (h : f_X10_init x0 M = some M1) : CtAt l yX10_init cX10_init 1 none (RM 2 1 80) true [.ref x0] M none M1 :=
  ct_of (tr := trV) (by decide) (Nat.le_of_ble_eq_true rfl) [(0, .ref x0)] rfl h (fun G X Y hn hl => L_X10_init X Y hn x0 M)

def f_X11_init (x0 : Nat) (M : MM) : Option MM :=
    b2 (nO 10 0 M) fun a1 M2 =>
    b1 (f_X10_init a1 M2) fun M3 =>
    b1 (pR 11 0 x0 a1 M3) fun M4 =>
    b2 (nO 6 0 M4) fun a5 M6 =>
    b1 (f_X6_init a5 M6) fun M7 =>
    b1 (pR 11 1 x0 a5 M7) fun M8 =>
    b2 (nO 9 0 M8) fun a9 M10 =>
    b1 (f_X9_init a9 M10) fun M11 =>
    b1 (pR 11 2 x0 a9 M11) fun M12 =>
    b2 (nO 5 0 M12) fun a13 M14 =>
    b1 (f_X5_init a13 M14) fun M15 =>
    b1 (pR 11 3 x0 a13 M15) fun M16 =>
    b2 (nO 5 0 M16) fun a17 M18 =>
    b1 (f_X5_init a17 M18) fun M19 =>
    b1 (pR 11 4 x0 a17 M19) fun M20 =>
    b2 (nO 1 0 M20) fun a21 M22 =>
    b1 (gR 11 2 x0 M22) fun v23 =>
    b1 (gR 11 3 x0 M22) fun v24 =>
    b1 (f_X1_init a21 v23 v24 M22) fun M25 =>
    b1 (pR 11 5 x0 a21 M25) fun M26 =>
    b2 (nO 1 0 M26) fun a27 M28 =>
    b1 (gR 11 2 x0 M28) fun v29 =>
    b1 (gR 11 4 x0 M28) fun v30 =>
    b1 (f_X1_init a27 v29 v30 M28) fun M31 =>
    b1 (pR 11 6 x0 a27 M31) fun M32 =>
    b2 (nO 7 0 M32) fun a33 M34 =>
    b1 (gR 11 2 x0 M34) fun v35 =>
    b1 (gR 11 3 x0 M34) fun v36 =>
    b1 (f_X7_init a33 v35 v36 M34) fun M37 =>
    b1 (pR 11 7 x0 a33 M37) fun M38 =>
    b2 (nO 3 0 M38) fun a39 M40 =>
    b1 (gR 11 2 x0 M40) fun v41 =>
    b1 (gR 11 3 x0 M40) fun v42 =>
    b1 (gR 11 5 x0 M40) fun v43 =>
    b1 (gR 11 7 x0 M40) fun v44 =>
    b1 (f_X3_init a39 v41 v42 v43 v44 M40) fun M45 =>
    b1 (pR 11 8 x0 a39 M45) fun M46 =>
    b2 (nO 4 0 M46) fun a47 M48 =>
    b1 (f_X4_init a47 M48) fun M49 =>
    b1 (pR 11 9 x0 a47 M49) fun M50 =>
    b2 (nO 8 0 M50) fun a51 M52 =>
    b1 (gR 11 2 x0 M52) fun v53 =>
    b1 (f_X8_init a51 v53 M52) fun M54 =>
    b1 (pR 11 10 x0 a51 M54) fun M55 =>
    b2 (nO 0 0 M55) fun a56 M57 =>
    b1 (f_X0_init a56 M57) fun M58 =>
    b1 (pR 11 11 x0 a56 M58) fun M59 =>
    b2 (nO 20 4 M59) fun a60 M61 =>
    b1 (pR 11 12 x0 a60 M61) fun M62 =>
    some M62
set_option maxRecDepth 4000 in
set_option maxHeartbeats 4000000 in
theorem L_X11_init {G : Gx} (X : Cb G cX11_init 1 RX11 (RM 4 142 1228) true) (Y : Cr G none 142 1228) (hn : G.2.2.1.1.name = "<init>") (x0 : Nat) (M : MM) : V G trV 1 0 0 0 [(0, .ref x0)] [] M (f_X11_init x0 M) := by
  unfold f_X11_init
  refine v_aload_n X 1 0 dX11_init_0 rfl rfl ?_
  refine v_objInit X 4 ml_X11_1 wObj (Nat.le_of_ble_eq_true rfl) (Nat.le_of_ble_eq_true rfl) dX11_init_1 rfl ?_
  refine v_aload_n X 5 0 dX11_init_4 rfl rfl ?_
  refine v_new X 8 cl10 kk_X11_7 ki_X10 in_X10 (Nat.le_of_ble_eq_true rfl) (Nat.le_of_ble_eq_true rfl) (by decide) dX11_init_5 rfl (fun a1 M2 => ?_)
  refine v_cs 1 5 rfl rfl ?_
  refine v_dup X 9 dX11_init_8 rfl rfl ?_
  refine v_iniN X 12 ci_X10_init (host := RX11) (by decide +kernel) (n1 := 2) (c1 := 1) (s1 := 80) rfl [] rfl rfl rfl dX11_init_9 rfl (fun M1 h => c_X10_init _ _ _ _ h) (fun M3 => ?_)
  refine v_cs 2 85 rfl rfl ?_
  refine v_putR X 15 fl_X11_10 (fun _ => hn) dX11_init_12 rfl (fun M4 => ?_)
  refine v_aload_n X 16 0 dX11_init_15 rfl rfl ?_
  refine v_new X 19 cl6 kk_X11_16 ki_X6 in_X6 (Nat.le_of_ble_eq_true rfl) (Nat.le_of_ble_eq_true rfl) (by decide) dX11_init_16 rfl (fun a5 M6 => ?_)
  refine v_cs 3 87 rfl rfl ?_
  refine v_dup X 20 dX11_init_19 rfl rfl ?_
  refine v_iniN X 23 ci_X6_init (host := RX11) (by decide +kernel) (n1 := 2) (c1 := 1) (s1 := 8) rfl [] rfl rfl rfl dX11_init_20 rfl (fun M1 h => c_X6_init _ _ _ _ h) (fun M7 => ?_)
  refine v_cs 4 95 rfl rfl ?_
  refine v_putR X 26 fl_X11_19 (fun _ => hn) dX11_init_23 rfl (fun M8 => ?_)
  refine v_aload_n X 27 0 dX11_init_26 rfl rfl ?_
  refine v_new X 30 cl9 kk_X11_23 ki_X9 in_X9 (Nat.le_of_ble_eq_true rfl) (Nat.le_of_ble_eq_true rfl) (by decide) dX11_init_27 rfl (fun a9 M10 => ?_)
  refine v_cs 5 108 rfl rfl ?_
  refine v_dup X 31 dX11_init_30 rfl rfl ?_
  refine v_ini X 34 ci_X9_init ml_X11_25 (n1 := 2) (c1 := 8) (s1 := 102) rfl [] rfl rfl rfl dX11_init_31 rfl (fun M1 h => c_X9_init _ _ _ _ h) (fun M11 => ?_)
  refine v_cs 13 210 rfl rfl ?_
  refine v_putR X 37 fl_X11_26 (fun _ => hn) dX11_init_34 rfl (fun M12 => ?_)
  refine v_aload_n X 38 0 dX11_init_37 rfl rfl ?_
  refine v_new X 41 cl5 kk_X11_30 ki_X5 in_X5 (Nat.le_of_ble_eq_true rfl) (Nat.le_of_ble_eq_true rfl) (by decide) dX11_init_38 rfl (fun a13 M14 => ?_)
  refine v_cs 14 212 rfl rfl ?_
  refine v_dup X 42 dX11_init_41 rfl rfl ?_
  refine v_iniN X 45 ci_X5_init (host := RX11) (by decide +kernel) (n1 := 2) (c1 := 1) (s1 := 12) rfl [] rfl rfl rfl dX11_init_42 rfl (fun M1 h => c_X5_init _ _ _ _ h) (fun M15 => ?_)
  refine v_cs 15 224 rfl rfl ?_
  refine v_putR X 48 fl_X11_33 (fun _ => hn) dX11_init_45 rfl (fun M16 => ?_)
  refine v_aload_n X 49 0 dX11_init_48 rfl rfl ?_
  refine v_new X 52 cl5 kk_X11_30 ki_X5 in_X5 (Nat.le_of_ble_eq_true rfl) (Nat.le_of_ble_eq_true rfl) (by decide) dX11_init_49 rfl (fun a17 M18 => ?_)
  refine v_cs 16 226 rfl rfl ?_
  refine v_dup X 53 dX11_init_52 rfl rfl ?_
  refine v_iniN X 56 ci_X5_init (host := RX11) (by decide +kernel) (n1 := 2) (c1 := 1) (s1 := 12) rfl [] rfl rfl rfl dX11_init_53 rfl (fun M1 h => c_X5_init _ _ _ _ h) (fun M19 => ?_)
  refine v_cs 17 238 rfl rfl ?_
  refine v_putR X 59 fl_X11_37 (fun _ => hn) dX11_init_56 rfl (fun M20 => ?_)
  refine v_aload_n X 60 0 dX11_init_59 rfl rfl ?_
  refine v_new X 63 cl1 kk_X11_40 ki_X1 in_X1 (Nat.le_of_ble_eq_true rfl) (Nat.le_of_ble_eq_true rfl) (by decide) dX11_init_60 rfl (fun a21 M22 => ?_)
  refine v_cs 18 248 rfl rfl ?_
  refine v_dup X 64 dX11_init_63 rfl rfl ?_
  refine v_aload_n X 65 0 dX11_init_64 rfl rfl ?_
  refine v_getR X 68 fl_X11_26.r dX11_init_65 rfl (fun v23 => ?_)
  refine v_aload_n X 69 0 dX11_init_68 rfl rfl ?_
  refine v_getR X 72 fl_X11_33.r dX11_init_69 rfl (fun v24 => ?_)
  refine v_ini X 75 ci_X1_init ml_X11_42 (n1 := 3) (c1 := 32) (s1 := 100) rfl [.ref v23, .ref v24] rfl rfl rfl dX11_init_72 rfl (fun M1 h => c_X1_init _ _ _ _ _ _ h) (fun M25 => ?_)
  refine v_cs 50 348 rfl rfl ?_
  refine v_putR X 78 fl_X11_45 (fun _ => hn) dX11_init_75 rfl (fun M26 => ?_)
  refine v_aload_n X 79 0 dX11_init_78 rfl rfl ?_
  refine v_new X 82 cl1 kk_X11_40 ki_X1 in_X1 (Nat.le_of_ble_eq_true rfl) (Nat.le_of_ble_eq_true rfl) (by decide) dX11_init_79 rfl (fun a27 M28 => ?_)
  refine v_cs 51 358 rfl rfl ?_
  refine v_dup X 83 dX11_init_82 rfl rfl ?_
  refine v_aload_n X 84 0 dX11_init_83 rfl rfl ?_
  refine v_getR X 87 fl_X11_26.r dX11_init_84 rfl (fun v29 => ?_)
  refine v_aload_n X 88 0 dX11_init_87 rfl rfl ?_
  refine v_getR X 91 fl_X11_37.r dX11_init_88 rfl (fun v30 => ?_)
  refine v_ini X 94 ci_X1_init ml_X11_42 (n1 := 3) (c1 := 32) (s1 := 100) rfl [.ref v29, .ref v30] rfl rfl rfl dX11_init_91 rfl (fun M1 h => c_X1_init _ _ _ _ _ _ h) (fun M31 => ?_)
  refine v_cs 83 458 rfl rfl ?_
  refine v_putR X 97 fl_X11_49 (fun _ => hn) dX11_init_94 rfl (fun M32 => ?_)
  refine v_aload_n X 98 0 dX11_init_97 rfl rfl ?_
  refine v_new X 101 cl7 kk_X11_52 ki_X7 in_X7 (Nat.le_of_ble_eq_true rfl) (Nat.le_of_ble_eq_true rfl) (by decide) dX11_init_98 rfl (fun a33 M34 => ?_)
  refine v_cs 84 466 rfl rfl ?_
  refine v_dup X 102 dX11_init_101 rfl rfl ?_
  refine v_aload_n X 103 0 dX11_init_102 rfl rfl ?_
  refine v_getR X 106 fl_X11_26.r dX11_init_103 rfl (fun v35 => ?_)
  refine v_aload_n X 107 0 dX11_init_106 rfl rfl ?_
  refine v_getR X 110 fl_X11_33.r dX11_init_107 rfl (fun v36 => ?_)
  refine v_ini X 113 ci_X7_init ml_X11_54 (n1 := 2) (c1 := 4) (s1 := 129) rfl [.ref v35, .ref v36] rfl rfl rfl dX11_init_110 rfl (fun M1 h => c_X7_init _ _ _ _ _ _ h) (fun M37 => ?_)
  refine v_cs 88 595 rfl rfl ?_
  refine v_putR X 116 fl_X11_55 (fun _ => hn) dX11_init_113 rfl (fun M38 => ?_)
  refine v_aload_n X 117 0 dX11_init_116 rfl rfl ?_
  refine v_new X 120 cl3 kk_X11_59 ki_X3 in_X3 (Nat.le_of_ble_eq_true rfl) (Nat.le_of_ble_eq_true rfl) (by decide) dX11_init_117 rfl (fun a39 M40 => ?_)
  refine v_cs 89 605 rfl rfl ?_
  refine v_dup X 121 dX11_init_120 rfl rfl ?_
  refine v_aload_n X 122 0 dX11_init_121 rfl rfl ?_
  refine v_getR X 125 fl_X11_26.r dX11_init_122 rfl (fun v41 => ?_)
  refine v_aload_n X 126 0 dX11_init_125 rfl rfl ?_
  refine v_getR X 129 fl_X11_33.r dX11_init_126 rfl (fun v42 => ?_)
  refine v_aload_n X 130 0 dX11_init_129 rfl rfl ?_
  refine v_getR X 133 fl_X11_45.r dX11_init_130 rfl (fun v43 => ?_)
  refine v_aload_n X 134 0 dX11_init_133 rfl rfl ?_
  refine v_getR X 137 fl_X11_55.r dX11_init_134 rfl (fun v44 => ?_)
  refine v_ini X 140 ci_X3_init ml_X11_61 (n1 := 2) (c1 := 2) (s1 := 12) rfl [.ref v41, .ref v42, .ref v43, .ref v44] rfl rfl rfl dX11_init_137 rfl (fun M1 h => c_X3_init _ _ _ _ _ _ _ _ h) (fun M45 => ?_)
  refine v_cs 91 617 rfl rfl ?_
  refine v_putR X 143 fl_X11_64 (fun _ => hn) dX11_init_140 rfl (fun M46 => ?_)
  refine v_aload_n X 144 0 dX11_init_143 rfl rfl ?_
  refine v_new X 147 cl4 kk_X11_68 ki_X4 in_X4 (Nat.le_of_ble_eq_true rfl) (Nat.le_of_ble_eq_true rfl) (by decide) dX11_init_144 rfl (fun a47 M48 => ?_)
  refine v_cs 92 622 rfl rfl ?_
  refine v_dup X 148 dX11_init_147 rfl rfl ?_
  refine v_ini X 151 ci_X4_init ml_X11_70 (n1 := 3) (c1 := 40) (s1 := 276) rfl [] rfl rfl rfl dX11_init_148 rfl (fun M1 h => c_X4_init _ _ _ _ h) (fun M49 => ?_)
  refine v_cs 132 898 rfl rfl ?_
  refine v_putR X 154 fl_X11_71 (fun _ => hn) dX11_init_151 rfl (fun M50 => ?_)
  refine v_aload_n X 155 0 dX11_init_154 rfl rfl ?_
  refine v_new X 158 cl8 kk_X11_75 ki_X8 in_X8 (Nat.le_of_ble_eq_true rfl) (Nat.le_of_ble_eq_true rfl) (by decide) dX11_init_155 rfl (fun a51 M52 => ?_)
  refine v_cs 133 903 rfl rfl ?_
  refine v_dup X 159 dX11_init_158 rfl rfl ?_
  refine v_aload_n X 160 0 dX11_init_159 rfl rfl ?_
  refine v_getR X 163 fl_X11_26.r dX11_init_160 rfl (fun v53 => ?_)
  refine v_ini X 166 ci_X8_init ml_X11_77 (n1 := 2) (c1 := 3) (s1 := 36) rfl [.ref v53] rfl rfl rfl dX11_init_163 rfl (fun M1 h => c_X8_init _ _ _ _ _ h) (fun M54 => ?_)
  refine v_cs 136 939 rfl rfl ?_
  refine v_putR X 169 fl_X11_80 (fun _ => hn) dX11_init_166 rfl (fun M55 => ?_)
  refine v_aload_n X 170 0 dX11_init_169 rfl rfl ?_
  refine v_new X 173 cl0 kk_X11_84 ki_X0 in_X0 (Nat.le_of_ble_eq_true rfl) (Nat.le_of_ble_eq_true rfl) (by decide) dX11_init_170 rfl (fun a56 M57 => ?_)
  refine v_cs 137 944 rfl rfl ?_
  refine v_dup X 174 dX11_init_173 rfl rfl ?_
  refine v_iniN X 177 ci_X0_init (host := RX11) (by decide +kernel) (n1 := 2) (c1 := 4) (s1 := 280) rfl [] rfl rfl rfl dX11_init_174 rfl (fun M1 h => c_X0_init _ _ _ _ h) (fun M58 => ?_)
  refine v_cs 141 1224 rfl rfl ?_
  refine v_putR X 180 fl_X11_87 (fun _ => hn) dX11_init_177 rfl (fun M59 => ?_)
  refine v_aload_n X 181 0 dX11_init_180 rfl rfl ?_
  refine v_iconst X 182 dX11_init_181 ik_4 rfl ?_
  refine v_newa (aty := .int) (ty := .int) X 184 20 0 4 rfl ka_int (Or.inl ⟨rfl, rfl, rfl⟩) (by decide) (by decide) (by decide) (Nat.le_of_ble_eq_true rfl) (Nat.le_of_ble_eq_true rfl) dX11_init_182 rfl (fun a60 M61 => ?_)
  refine v_cs 142 1228 rfl rfl ?_
  refine v_putR X 187 fl_X11_91 (fun _ => hn) dX11_init_184 rfl (fun M62 => ?_)
  exact v_vret X Y (Nat.le_refl _) (Nat.le_refl _) dX11_init_187
theorem c_X11_init (l : Launch) (x0 : Nat) (M M1 : MM) (h : f_X11_init x0 M = some M1) : CtAt l yX11_init cX11_init 1 none (RM 4 142 1228) true [.ref x0] M none M1 :=
  ct_of (tr := trV) (by decide) (Nat.le_of_ble_eq_true rfl) [(0, .ref x0)] rfl h (fun G X Y hn hl => L_X11_init X Y hn x0 M)

def f_X12_init (x0 : Nat) (M : MM) : Option MM :=
    b2 (nO 21 24 M) fun a1 M2 =>
    b1 (pR 12 2 x0 a1 M2) fun M3 =>
    b1 (pI 12 6 x0 (60 : Int32) M3) fun M4 =>
    b2 (nO 22 6 M4) fun a5 M6 =>
    b1 (pR 12 7 x0 a5 M6) fun M7 =>
    b2 (nO 20 48 M7) fun a8 M9 =>
    b1 (pR 12 8 x0 a8 M9) fun M10 =>
    b2 (nO 20 8 M10) fun a11 M12 =>
    b1 (pR 12 9 x0 a11 M12) fun M13 =>
    b2 (nO 20 8 M13) fun a14 M15 =>
    b1 (pR 12 10 x0 a14 M15) fun M16 =>
    b2 (nO 20 8 M16) fun a17 M18 =>
    b1 (pR 12 11 x0 a17 M18) fun M19 =>
    b2 (nO 20 8 M19) fun a20 M21 =>
    b1 (pR 12 12 x0 a20 M21) fun M22 =>
    b2 (nO 20 8 M22) fun a23 M24 =>
    b1 (pR 12 13 x0 a23 M24) fun M25 =>
    b2 (nO 22 8 M25) fun a26 M27 =>
    b1 (pR 12 14 x0 a26 M27) fun M28 =>
    b2 (nO 20 46 M28) fun a29 M30 =>
    b1 (pR 12 15 x0 a29 M30) fun M31 =>
    b2 (nO 20 46 M31) fun a32 M33 =>
    b1 (pR 12 16 x0 a32 M33) fun M34 =>
    b2 (nO 20 80 M34) fun a35 M36 =>
    b1 (pR 12 17 x0 a35 M36) fun M37 =>
    b2 (nO 22 6 M37) fun a38 M39 =>
    b1 (pR 12 22 x0 a38 M39) fun M40 =>
    b2 (nO 20 48 M40) fun a41 M42 =>
    b1 (pR 12 23 x0 a41 M42) fun M43 =>
    b2 (nO 20 8 M43) fun a44 M45 =>
    b1 (pR 12 26 x0 a44 M45) fun M46 =>
    b2 (nO 20 80 M46) fun a47 M48 =>
    b1 (pR 12 27 x0 a47 M48) fun M49 =>
    b2 (nO 20 80 M49) fun a50 M51 =>
    b1 (pR 12 28 x0 a50 M51) fun M52 =>
    b2 (nO 20 80 M52) fun a53 M54 =>
    b1 (pR 12 31 x0 a53 M54) fun M55 =>
    b2 (nO 20 46 M55) fun a56 M57 =>
    b1 (pR 12 32 x0 a56 M57) fun M58 =>
    b2 (nO 20 736 M58) fun a59 M60 =>
    b1 (pR 12 34 x0 a59 M60) fun M61 =>
    b2 (nO 20 60 M61) fun a62 M63 =>
    b1 (pR 12 35 x0 a62 M63) fun M64 =>
    b2 (nO 20 60 M64) fun a65 M66 =>
    b1 (pR 12 36 x0 a65 M66) fun M67 =>
    b2 (nO 20 60 M67) fun a68 M69 =>
    b1 (pR 12 37 x0 a68 M69) fun M70 =>
    b2 (nO 20 60 M70) fun a71 M72 =>
    b1 (pR 12 38 x0 a71 M72) fun M73 =>
    b2 (nO 20 6 M73) fun a74 M75 =>
    b1 (pR 12 42 x0 a74 M75) fun M76 =>
    b2 (nO 20 6 M76) fun a77 M78 =>
    b1 (pR 12 43 x0 a77 M78) fun M79 =>
    b2 (nO 20 3 M79) fun a80 M81 =>
    b1 (pR 12 44 x0 a80 M81) fun M82 =>
    b2 (nO 20 6 M82) fun a83 M84 =>
    b1 (pR 12 45 x0 a83 M84) fun M85 =>
    b2 (nO 20 6 M85) fun a86 M87 =>
    b1 (pR 12 46 x0 a86 M87) fun M88 =>
    b2 (nO 20 8 M88) fun a89 M90 =>
    b1 (pR 12 47 x0 a89 M90) fun M91 =>
    b2 (nO 20 8 M91) fun a92 M93 =>
    b1 (pR 12 49 x0 a92 M93) fun M94 =>
    b2 (nO 20 8 M94) fun a95 M96 =>
    b1 (pR 12 50 x0 a95 M96) fun M97 =>
    b2 (nO 20 12 M97) fun a98 M99 =>
    b1 (pR 12 52 x0 a98 M99) fun M100 =>
    b2 (nO 20 12 M100) fun a101 M102 =>
    b1 (pR 12 53 x0 a101 M102) fun M103 =>
    b2 (nO 20 12 M103) fun a104 M105 =>
    b1 (pR 12 54 x0 a104 M105) fun M106 =>
    b2 (nO 20 12 M106) fun a107 M108 =>
    b1 (pR 12 55 x0 a107 M108) fun M109 =>
    b2 (nO 22 3 M109) fun a110 M111 =>
    b1 (pR 12 56 x0 a110 M111) fun M112 =>
    b2 (nO 20 3 M112) fun a113 M114 =>
    b1 (pR 12 57 x0 a113 M114) fun M115 =>
    b2 (nO 20 138 M115) fun a116 M117 =>
    b1 (pR 12 58 x0 a116 M117) fun M118 =>
    some M118
set_option maxRecDepth 4000 in
set_option maxHeartbeats 4000000 in
theorem L_X12_init {G : Gx} (X : Cb G cX12_init 1 RX12 (RM 2 39 1865) true) (Y : Cr G none 39 1865) (hn : G.2.2.1.1.name = "<init>") (x0 : Nat) (M : MM) : V G trV 1 0 0 0 [(0, .ref x0)] [] M (f_X12_init x0 M) := by
  unfold f_X12_init
  refine v_aload_n X 1 0 dX12_init_0 rfl rfl ?_
  refine v_objInit X 4 ml_X12_3 wObj (Nat.le_of_ble_eq_true rfl) (Nat.le_of_ble_eq_true rfl) dX12_init_1 rfl ?_
  refine v_aload_n X 5 0 dX12_init_4 rfl rfl ?_
  refine v_bipush X 7 dX12_init_5 bk_24 rfl ?_
  refine v_newa (aty := .long) (ty := .long) X 9 21 1 24 rfl ka_long (Or.inr (Or.inl ⟨rfl, rfl, rfl⟩)) (by decide) (by decide) (by decide) (Nat.le_of_ble_eq_true rfl) (Nat.le_of_ble_eq_true rfl) dX12_init_7 rfl (fun a1 M2 => ?_)
  refine v_cs 1 24 rfl rfl ?_
  refine v_putR X 12 fl_X12_9 (fun _ => hn) dX12_init_9 rfl (fun M3 => ?_)
  refine v_aload_n X 13 0 dX12_init_12 rfl rfl ?_
  refine v_bipush X 15 dX12_init_13 bk_60 rfl ?_
  refine v_putI X 18 fl_X12_13 nof dX12_init_15 rfl (fun M4 => ?_)
  refine v_aload_n X 19 0 dX12_init_18 rfl rfl ?_
  refine v_bipush X 21 dX12_init_19 bk_6 rfl ?_
  refine v_newa (aty := .boolean) (ty := .boolean) X 23 22 2 6 rfl ka_boolean (Or.inr (Or.inr ⟨rfl, rfl, rfl⟩)) (by decide) (by decide) (by decide) (Nat.le_of_ble_eq_true rfl) (Nat.le_of_ble_eq_true rfl) dX12_init_21 rfl (fun a5 M6 => ?_)
  refine v_cs 2 30 rfl rfl ?_
  refine v_putR X 26 fl_X12_17 (fun _ => hn) dX12_init_23 rfl (fun M7 => ?_)
  refine v_aload_n X 27 0 dX12_init_26 rfl rfl ?_
  refine v_bipush X 29 dX12_init_27 bk_48 rfl ?_
  refine v_newa (aty := .int) (ty := .int) X 31 20 0 48 rfl ka_int (Or.inl ⟨rfl, rfl, rfl⟩) (by decide) (by decide) (by decide) (Nat.le_of_ble_eq_true rfl) (Nat.le_of_ble_eq_true rfl) dX12_init_29 rfl (fun a8 M9 => ?_)
  refine v_cs 3 78 rfl rfl ?_
  refine v_putR X 34 fl_X12_21 (fun _ => hn) dX12_init_31 rfl (fun M10 => ?_)
  refine v_aload_n X 35 0 dX12_init_34 rfl rfl ?_
  refine v_bipush X 37 dX12_init_35 bk_8 rfl ?_
  refine v_newa (aty := .int) (ty := .int) X 39 20 0 8 rfl ka_int (Or.inl ⟨rfl, rfl, rfl⟩) (by decide) (by decide) (by decide) (Nat.le_of_ble_eq_true rfl) (Nat.le_of_ble_eq_true rfl) dX12_init_37 rfl (fun a11 M12 => ?_)
  refine v_cs 4 86 rfl rfl ?_
  refine v_putR X 42 fl_X12_25 (fun _ => hn) dX12_init_39 rfl (fun M13 => ?_)
  refine v_aload_n X 43 0 dX12_init_42 rfl rfl ?_
  refine v_bipush X 45 dX12_init_43 bk_8 rfl ?_
  refine v_newa (aty := .int) (ty := .int) X 47 20 0 8 rfl ka_int (Or.inl ⟨rfl, rfl, rfl⟩) (by decide) (by decide) (by decide) (Nat.le_of_ble_eq_true rfl) (Nat.le_of_ble_eq_true rfl) dX12_init_45 rfl (fun a14 M15 => ?_)
  refine v_cs 5 94 rfl rfl ?_
  refine v_putR X 50 fl_X12_28 (fun _ => hn) dX12_init_47 rfl (fun M16 => ?_)
  refine v_aload_n X 51 0 dX12_init_50 rfl rfl ?_
  refine v_bipush X 53 dX12_init_51 bk_8 rfl ?_
  refine v_newa (aty := .int) (ty := .int) X 55 20 0 8 rfl ka_int (Or.inl ⟨rfl, rfl, rfl⟩) (by decide) (by decide) (by decide) (Nat.le_of_ble_eq_true rfl) (Nat.le_of_ble_eq_true rfl) dX12_init_53 rfl (fun a17 M18 => ?_)
  refine v_cs 6 102 rfl rfl ?_
  refine v_putR X 58 fl_X12_31 (fun _ => hn) dX12_init_55 rfl (fun M19 => ?_)
  refine v_aload_n X 59 0 dX12_init_58 rfl rfl ?_
  refine v_bipush X 61 dX12_init_59 bk_8 rfl ?_
  refine v_newa (aty := .int) (ty := .int) X 63 20 0 8 rfl ka_int (Or.inl ⟨rfl, rfl, rfl⟩) (by decide) (by decide) (by decide) (Nat.le_of_ble_eq_true rfl) (Nat.le_of_ble_eq_true rfl) dX12_init_61 rfl (fun a20 M21 => ?_)
  refine v_cs 7 110 rfl rfl ?_
  refine v_putR X 66 fl_X12_34 (fun _ => hn) dX12_init_63 rfl (fun M22 => ?_)
  refine v_aload_n X 67 0 dX12_init_66 rfl rfl ?_
  refine v_bipush X 69 dX12_init_67 bk_8 rfl ?_
  refine v_newa (aty := .int) (ty := .int) X 71 20 0 8 rfl ka_int (Or.inl ⟨rfl, rfl, rfl⟩) (by decide) (by decide) (by decide) (Nat.le_of_ble_eq_true rfl) (Nat.le_of_ble_eq_true rfl) dX12_init_69 rfl (fun a23 M24 => ?_)
  refine v_cs 8 118 rfl rfl ?_
  refine v_putR X 74 fl_X12_37 (fun _ => hn) dX12_init_71 rfl (fun M25 => ?_)
  refine v_aload_n X 75 0 dX12_init_74 rfl rfl ?_
  refine v_bipush X 77 dX12_init_75 bk_8 rfl ?_
  refine v_newa (aty := .boolean) (ty := .boolean) X 79 22 2 8 rfl ka_boolean (Or.inr (Or.inr ⟨rfl, rfl, rfl⟩)) (by decide) (by decide) (by decide) (Nat.le_of_ble_eq_true rfl) (Nat.le_of_ble_eq_true rfl) dX12_init_77 rfl (fun a26 M27 => ?_)
  refine v_cs 9 126 rfl rfl ?_
  refine v_putR X 82 fl_X12_40 (fun _ => hn) dX12_init_79 rfl (fun M28 => ?_)
  refine v_aload_n X 83 0 dX12_init_82 rfl rfl ?_
  refine v_bipush X 85 dX12_init_83 bk_46 rfl ?_
  refine v_newa (aty := .int) (ty := .int) X 87 20 0 46 rfl ka_int (Or.inl ⟨rfl, rfl, rfl⟩) (by decide) (by decide) (by decide) (Nat.le_of_ble_eq_true rfl) (Nat.le_of_ble_eq_true rfl) dX12_init_85 rfl (fun a29 M30 => ?_)
  refine v_cs 10 172 rfl rfl ?_
  refine v_putR X 90 fl_X12_43 (fun _ => hn) dX12_init_87 rfl (fun M31 => ?_)
  refine v_aload_n X 91 0 dX12_init_90 rfl rfl ?_
  refine v_bipush X 93 dX12_init_91 bk_46 rfl ?_
  refine v_newa (aty := .int) (ty := .int) X 95 20 0 46 rfl ka_int (Or.inl ⟨rfl, rfl, rfl⟩) (by decide) (by decide) (by decide) (Nat.le_of_ble_eq_true rfl) (Nat.le_of_ble_eq_true rfl) dX12_init_93 rfl (fun a32 M33 => ?_)
  refine v_cs 11 218 rfl rfl ?_
  refine v_putR X 98 fl_X12_46 (fun _ => hn) dX12_init_95 rfl (fun M34 => ?_)
  refine v_aload_n X 99 0 dX12_init_98 rfl rfl ?_
  refine v_bipush X 101 dX12_init_99 bk_80 rfl ?_
  refine v_newa (aty := .int) (ty := .int) X 103 20 0 80 rfl ka_int (Or.inl ⟨rfl, rfl, rfl⟩) (by decide) (by decide) (by decide) (Nat.le_of_ble_eq_true rfl) (Nat.le_of_ble_eq_true rfl) dX12_init_101 rfl (fun a35 M36 => ?_)
  refine v_cs 12 298 rfl rfl ?_
  refine v_putR X 106 fl_X12_49 (fun _ => hn) dX12_init_103 rfl (fun M37 => ?_)
  refine v_aload_n X 107 0 dX12_init_106 rfl rfl ?_
  refine v_bipush X 109 dX12_init_107 bk_6 rfl ?_
  refine v_newa (aty := .boolean) (ty := .boolean) X 111 22 2 6 rfl ka_boolean (Or.inr (Or.inr ⟨rfl, rfl, rfl⟩)) (by decide) (by decide) (by decide) (Nat.le_of_ble_eq_true rfl) (Nat.le_of_ble_eq_true rfl) dX12_init_109 rfl (fun a38 M39 => ?_)
  refine v_cs 13 304 rfl rfl ?_
  refine v_putR X 114 fl_X12_52 (fun _ => hn) dX12_init_111 rfl (fun M40 => ?_)
  refine v_aload_n X 115 0 dX12_init_114 rfl rfl ?_
  refine v_bipush X 117 dX12_init_115 bk_48 rfl ?_
  refine v_newa (aty := .int) (ty := .int) X 119 20 0 48 rfl ka_int (Or.inl ⟨rfl, rfl, rfl⟩) (by decide) (by decide) (by decide) (Nat.le_of_ble_eq_true rfl) (Nat.le_of_ble_eq_true rfl) dX12_init_117 rfl (fun a41 M42 => ?_)
  refine v_cs 14 352 rfl rfl ?_
  refine v_putR X 122 fl_X12_55 (fun _ => hn) dX12_init_119 rfl (fun M43 => ?_)
  refine v_aload_n X 123 0 dX12_init_122 rfl rfl ?_
  refine v_bipush X 125 dX12_init_123 bk_8 rfl ?_
  refine v_newa (aty := .int) (ty := .int) X 127 20 0 8 rfl ka_int (Or.inl ⟨rfl, rfl, rfl⟩) (by decide) (by decide) (by decide) (Nat.le_of_ble_eq_true rfl) (Nat.le_of_ble_eq_true rfl) dX12_init_125 rfl (fun a44 M45 => ?_)
  refine v_cs 15 360 rfl rfl ?_
  refine v_putR X 130 fl_X12_58 (fun _ => hn) dX12_init_127 rfl (fun M46 => ?_)
  refine v_aload_n X 131 0 dX12_init_130 rfl rfl ?_
  refine v_bipush X 133 dX12_init_131 bk_80 rfl ?_
  refine v_newa (aty := .int) (ty := .int) X 135 20 0 80 rfl ka_int (Or.inl ⟨rfl, rfl, rfl⟩) (by decide) (by decide) (by decide) (Nat.le_of_ble_eq_true rfl) (Nat.le_of_ble_eq_true rfl) dX12_init_133 rfl (fun a47 M48 => ?_)
  refine v_cs 16 440 rfl rfl ?_
  refine v_putR X 138 fl_X12_61 (fun _ => hn) dX12_init_135 rfl (fun M49 => ?_)
  refine v_aload_n X 139 0 dX12_init_138 rfl rfl ?_
  refine v_bipush X 141 dX12_init_139 bk_80 rfl ?_
  refine v_newa (aty := .int) (ty := .int) X 143 20 0 80 rfl ka_int (Or.inl ⟨rfl, rfl, rfl⟩) (by decide) (by decide) (by decide) (Nat.le_of_ble_eq_true rfl) (Nat.le_of_ble_eq_true rfl) dX12_init_141 rfl (fun a50 M51 => ?_)
  refine v_cs 17 520 rfl rfl ?_
  refine v_putR X 146 fl_X12_64 (fun _ => hn) dX12_init_143 rfl (fun M52 => ?_)
  refine v_aload_n X 147 0 dX12_init_146 rfl rfl ?_
  refine v_bipush X 149 dX12_init_147 bk_80 rfl ?_
  refine v_newa (aty := .int) (ty := .int) X 151 20 0 80 rfl ka_int (Or.inl ⟨rfl, rfl, rfl⟩) (by decide) (by decide) (by decide) (Nat.le_of_ble_eq_true rfl) (Nat.le_of_ble_eq_true rfl) dX12_init_149 rfl (fun a53 M54 => ?_)
  refine v_cs 18 600 rfl rfl ?_
  refine v_putR X 154 fl_X12_67 (fun _ => hn) dX12_init_151 rfl (fun M55 => ?_)
  refine v_aload_n X 155 0 dX12_init_154 rfl rfl ?_
  refine v_bipush X 157 dX12_init_155 bk_46 rfl ?_
  refine v_newa (aty := .int) (ty := .int) X 159 20 0 46 rfl ka_int (Or.inl ⟨rfl, rfl, rfl⟩) (by decide) (by decide) (by decide) (Nat.le_of_ble_eq_true rfl) (Nat.le_of_ble_eq_true rfl) dX12_init_157 rfl (fun a56 M57 => ?_)
  refine v_cs 19 646 rfl rfl ?_
  refine v_putR X 162 fl_X12_70 (fun _ => hn) dX12_init_159 rfl (fun M58 => ?_)
  refine v_aload_n X 163 0 dX12_init_162 rfl rfl ?_
  refine v_sipush X 166 dX12_init_163 sk_736 rfl ?_
  refine v_newa (aty := .int) (ty := .int) X 168 20 0 736 rfl ka_int (Or.inl ⟨rfl, rfl, rfl⟩) (by decide) (by decide) (by decide) (Nat.le_of_ble_eq_true rfl) (Nat.le_of_ble_eq_true rfl) dX12_init_166 rfl (fun a59 M60 => ?_)
  refine v_cs 20 1382 rfl rfl ?_
  refine v_putR X 171 fl_X12_73 (fun _ => hn) dX12_init_168 rfl (fun M61 => ?_)
  refine v_aload_n X 172 0 dX12_init_171 rfl rfl ?_
  refine v_bipush X 174 dX12_init_172 bk_60 rfl ?_
  refine v_newa (aty := .int) (ty := .int) X 176 20 0 60 rfl ka_int (Or.inl ⟨rfl, rfl, rfl⟩) (by decide) (by decide) (by decide) (Nat.le_of_ble_eq_true rfl) (Nat.le_of_ble_eq_true rfl) dX12_init_174 rfl (fun a62 M63 => ?_)
  refine v_cs 21 1442 rfl rfl ?_
  refine v_putR X 179 fl_X12_76 (fun _ => hn) dX12_init_176 rfl (fun M64 => ?_)
  refine v_aload_n X 180 0 dX12_init_179 rfl rfl ?_
  refine v_bipush X 182 dX12_init_180 bk_60 rfl ?_
  refine v_newa (aty := .int) (ty := .int) X 184 20 0 60 rfl ka_int (Or.inl ⟨rfl, rfl, rfl⟩) (by decide) (by decide) (by decide) (Nat.le_of_ble_eq_true rfl) (Nat.le_of_ble_eq_true rfl) dX12_init_182 rfl (fun a65 M66 => ?_)
  refine v_cs 22 1502 rfl rfl ?_
  refine v_putR X 187 fl_X12_79 (fun _ => hn) dX12_init_184 rfl (fun M67 => ?_)
  refine v_aload_n X 188 0 dX12_init_187 rfl rfl ?_
  refine v_bipush X 190 dX12_init_188 bk_60 rfl ?_
  refine v_newa (aty := .int) (ty := .int) X 192 20 0 60 rfl ka_int (Or.inl ⟨rfl, rfl, rfl⟩) (by decide) (by decide) (by decide) (Nat.le_of_ble_eq_true rfl) (Nat.le_of_ble_eq_true rfl) dX12_init_190 rfl (fun a68 M69 => ?_)
  refine v_cs 23 1562 rfl rfl ?_
  refine v_putR X 195 fl_X12_82 (fun _ => hn) dX12_init_192 rfl (fun M70 => ?_)
  refine v_aload_n X 196 0 dX12_init_195 rfl rfl ?_
  refine v_bipush X 198 dX12_init_196 bk_60 rfl ?_
  refine v_newa (aty := .int) (ty := .int) X 200 20 0 60 rfl ka_int (Or.inl ⟨rfl, rfl, rfl⟩) (by decide) (by decide) (by decide) (Nat.le_of_ble_eq_true rfl) (Nat.le_of_ble_eq_true rfl) dX12_init_198 rfl (fun a71 M72 => ?_)
  refine v_cs 24 1622 rfl rfl ?_
  refine v_putR X 203 fl_X12_85 (fun _ => hn) dX12_init_200 rfl (fun M73 => ?_)
  refine v_aload_n X 204 0 dX12_init_203 rfl rfl ?_
  refine v_bipush X 206 dX12_init_204 bk_6 rfl ?_
  refine v_newa (aty := .int) (ty := .int) X 208 20 0 6 rfl ka_int (Or.inl ⟨rfl, rfl, rfl⟩) (by decide) (by decide) (by decide) (Nat.le_of_ble_eq_true rfl) (Nat.le_of_ble_eq_true rfl) dX12_init_206 rfl (fun a74 M75 => ?_)
  refine v_cs 25 1628 rfl rfl ?_
  refine v_putR X 211 fl_X12_88 (fun _ => hn) dX12_init_208 rfl (fun M76 => ?_)
  refine v_aload_n X 212 0 dX12_init_211 rfl rfl ?_
  refine v_bipush X 214 dX12_init_212 bk_6 rfl ?_
  refine v_newa (aty := .int) (ty := .int) X 216 20 0 6 rfl ka_int (Or.inl ⟨rfl, rfl, rfl⟩) (by decide) (by decide) (by decide) (Nat.le_of_ble_eq_true rfl) (Nat.le_of_ble_eq_true rfl) dX12_init_214 rfl (fun a77 M78 => ?_)
  refine v_cs 26 1634 rfl rfl ?_
  refine v_putR X 219 fl_X12_91 (fun _ => hn) dX12_init_216 rfl (fun M79 => ?_)
  refine v_aload_n X 220 0 dX12_init_219 rfl rfl ?_
  refine v_iconst X 221 dX12_init_220 ik_3 rfl ?_
  refine v_newa (aty := .int) (ty := .int) X 223 20 0 3 rfl ka_int (Or.inl ⟨rfl, rfl, rfl⟩) (by decide) (by decide) (by decide) (Nat.le_of_ble_eq_true rfl) (Nat.le_of_ble_eq_true rfl) dX12_init_221 rfl (fun a80 M81 => ?_)
  refine v_cs 27 1637 rfl rfl ?_
  refine v_putR X 226 fl_X12_94 (fun _ => hn) dX12_init_223 rfl (fun M82 => ?_)
  refine v_aload_n X 227 0 dX12_init_226 rfl rfl ?_
  refine v_bipush X 229 dX12_init_227 bk_6 rfl ?_
  refine v_newa (aty := .int) (ty := .int) X 231 20 0 6 rfl ka_int (Or.inl ⟨rfl, rfl, rfl⟩) (by decide) (by decide) (by decide) (Nat.le_of_ble_eq_true rfl) (Nat.le_of_ble_eq_true rfl) dX12_init_229 rfl (fun a83 M84 => ?_)
  refine v_cs 28 1643 rfl rfl ?_
  refine v_putR X 234 fl_X12_97 (fun _ => hn) dX12_init_231 rfl (fun M85 => ?_)
  refine v_aload_n X 235 0 dX12_init_234 rfl rfl ?_
  refine v_bipush X 237 dX12_init_235 bk_6 rfl ?_
  refine v_newa (aty := .int) (ty := .int) X 239 20 0 6 rfl ka_int (Or.inl ⟨rfl, rfl, rfl⟩) (by decide) (by decide) (by decide) (Nat.le_of_ble_eq_true rfl) (Nat.le_of_ble_eq_true rfl) dX12_init_237 rfl (fun a86 M87 => ?_)
  refine v_cs 29 1649 rfl rfl ?_
  refine v_putR X 242 fl_X12_100 (fun _ => hn) dX12_init_239 rfl (fun M88 => ?_)
  refine v_aload_n X 243 0 dX12_init_242 rfl rfl ?_
  refine v_bipush X 245 dX12_init_243 bk_8 rfl ?_
  refine v_newa (aty := .int) (ty := .int) X 247 20 0 8 rfl ka_int (Or.inl ⟨rfl, rfl, rfl⟩) (by decide) (by decide) (by decide) (Nat.le_of_ble_eq_true rfl) (Nat.le_of_ble_eq_true rfl) dX12_init_245 rfl (fun a89 M90 => ?_)
  refine v_cs 30 1657 rfl rfl ?_
  refine v_putR X 250 fl_X12_103 (fun _ => hn) dX12_init_247 rfl (fun M91 => ?_)
  refine v_aload_n X 251 0 dX12_init_250 rfl rfl ?_
  refine v_bipush X 253 dX12_init_251 bk_8 rfl ?_
  refine v_newa (aty := .int) (ty := .int) X 255 20 0 8 rfl ka_int (Or.inl ⟨rfl, rfl, rfl⟩) (by decide) (by decide) (by decide) (Nat.le_of_ble_eq_true rfl) (Nat.le_of_ble_eq_true rfl) dX12_init_253 rfl (fun a92 M93 => ?_)
  refine v_cs 31 1665 rfl rfl ?_
  refine v_putR X 258 fl_X12_106 (fun _ => hn) dX12_init_255 rfl (fun M94 => ?_)
  refine v_aload_n X 259 0 dX12_init_258 rfl rfl ?_
  refine v_bipush X 261 dX12_init_259 bk_8 rfl ?_
  refine v_newa (aty := .int) (ty := .int) X 263 20 0 8 rfl ka_int (Or.inl ⟨rfl, rfl, rfl⟩) (by decide) (by decide) (by decide) (Nat.le_of_ble_eq_true rfl) (Nat.le_of_ble_eq_true rfl) dX12_init_261 rfl (fun a95 M96 => ?_)
  refine v_cs 32 1673 rfl rfl ?_
  refine v_putR X 266 fl_X12_109 (fun _ => hn) dX12_init_263 rfl (fun M97 => ?_)
  refine v_aload_n X 267 0 dX12_init_266 rfl rfl ?_
  refine v_bipush X 269 dX12_init_267 bk_12 rfl ?_
  refine v_newa (aty := .int) (ty := .int) X 271 20 0 12 rfl ka_int (Or.inl ⟨rfl, rfl, rfl⟩) (by decide) (by decide) (by decide) (Nat.le_of_ble_eq_true rfl) (Nat.le_of_ble_eq_true rfl) dX12_init_269 rfl (fun a98 M99 => ?_)
  refine v_cs 33 1685 rfl rfl ?_
  refine v_putR X 274 fl_X12_112 (fun _ => hn) dX12_init_271 rfl (fun M100 => ?_)
  refine v_aload_n X 275 0 dX12_init_274 rfl rfl ?_
  refine v_bipush X 277 dX12_init_275 bk_12 rfl ?_
  refine v_newa (aty := .int) (ty := .int) X 279 20 0 12 rfl ka_int (Or.inl ⟨rfl, rfl, rfl⟩) (by decide) (by decide) (by decide) (Nat.le_of_ble_eq_true rfl) (Nat.le_of_ble_eq_true rfl) dX12_init_277 rfl (fun a101 M102 => ?_)
  refine v_cs 34 1697 rfl rfl ?_
  refine v_putR X 282 fl_X12_115 (fun _ => hn) dX12_init_279 rfl (fun M103 => ?_)
  refine v_aload_n X 283 0 dX12_init_282 rfl rfl ?_
  refine v_bipush X 285 dX12_init_283 bk_12 rfl ?_
  refine v_newa (aty := .int) (ty := .int) X 287 20 0 12 rfl ka_int (Or.inl ⟨rfl, rfl, rfl⟩) (by decide) (by decide) (by decide) (Nat.le_of_ble_eq_true rfl) (Nat.le_of_ble_eq_true rfl) dX12_init_285 rfl (fun a104 M105 => ?_)
  refine v_cs 35 1709 rfl rfl ?_
  refine v_putR X 290 fl_X12_118 (fun _ => hn) dX12_init_287 rfl (fun M106 => ?_)
  refine v_aload_n X 291 0 dX12_init_290 rfl rfl ?_
  refine v_bipush X 293 dX12_init_291 bk_12 rfl ?_
  refine v_newa (aty := .int) (ty := .int) X 295 20 0 12 rfl ka_int (Or.inl ⟨rfl, rfl, rfl⟩) (by decide) (by decide) (by decide) (Nat.le_of_ble_eq_true rfl) (Nat.le_of_ble_eq_true rfl) dX12_init_293 rfl (fun a107 M108 => ?_)
  refine v_cs 36 1721 rfl rfl ?_
  refine v_putR X 298 fl_X12_121 (fun _ => hn) dX12_init_295 rfl (fun M109 => ?_)
  refine v_aload_n X 299 0 dX12_init_298 rfl rfl ?_
  refine v_iconst X 300 dX12_init_299 ik_3 rfl ?_
  refine v_newa (aty := .boolean) (ty := .boolean) X 302 22 2 3 rfl ka_boolean (Or.inr (Or.inr ⟨rfl, rfl, rfl⟩)) (by decide) (by decide) (by decide) (Nat.le_of_ble_eq_true rfl) (Nat.le_of_ble_eq_true rfl) dX12_init_300 rfl (fun a110 M111 => ?_)
  refine v_cs 37 1724 rfl rfl ?_
  refine v_putR X 305 fl_X12_124 (fun _ => hn) dX12_init_302 rfl (fun M112 => ?_)
  refine v_aload_n X 306 0 dX12_init_305 rfl rfl ?_
  refine v_iconst X 307 dX12_init_306 ik_3 rfl ?_
  refine v_newa (aty := .int) (ty := .int) X 309 20 0 3 rfl ka_int (Or.inl ⟨rfl, rfl, rfl⟩) (by decide) (by decide) (by decide) (Nat.le_of_ble_eq_true rfl) (Nat.le_of_ble_eq_true rfl) dX12_init_307 rfl (fun a113 M114 => ?_)
  refine v_cs 38 1727 rfl rfl ?_
  refine v_putR X 312 fl_X12_127 (fun _ => hn) dX12_init_309 rfl (fun M115 => ?_)
  refine v_aload_n X 313 0 dX12_init_312 rfl rfl ?_
  refine v_sipush X 316 dX12_init_313 sk_138 rfl ?_
  refine v_newa (aty := .int) (ty := .int) X 318 20 0 138 rfl ka_int (Or.inl ⟨rfl, rfl, rfl⟩) (by decide) (by decide) (by decide) (Nat.le_of_ble_eq_true rfl) (Nat.le_of_ble_eq_true rfl) dX12_init_316 rfl (fun a116 M117 => ?_)
  refine v_cs 39 1865 rfl rfl ?_
  refine v_putR X 321 fl_X12_130 (fun _ => hn) dX12_init_318 rfl (fun M118 => ?_)
  exact v_vret X Y (Nat.le_refl _) (Nat.le_refl _) dX12_init_321
theorem c_X12_init (l : Launch) (x0 : Nat) (M M1 : MM) (h : f_X12_init x0 M = some M1) : CtAt l yX12_init cX12_init 1 none (RM 2 39 1865) true [.ref x0] M none M1 :=
  ct_of (tr := trV) (by decide) (Nat.le_of_ble_eq_true rfl) [(0, .ref x0)] rfl h (fun G X Y hn hl => L_X12_init X Y hn x0 M)

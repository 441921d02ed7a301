/-! THE LAW'S LOOP -/
def g_sw (L : Nat) (xs : Nat → Int32) (x1 x2 x3 : Nat) (x4 w : Int32) (K : MM → Option (Int32 × MM)) (M : MM) : Option (Int32 × MM) :=
  if w = 0 then g_L_0 L xs x1 x2 x3 x4 K M else
  if w = 1 then g_L_1 L xs x1 x2 x3 x4 K M else
  if w = 2 then g_L_2 L xs x1 x2 x3 x4 K M else
  if w = 3 then g_L_3 L xs x1 x2 x3 x4 K M else
  if w = 4 then g_L_4 L xs x1 x2 x3 x4 K M else
  if w = 5 then g_L_5 L xs x1 x2 x3 x4 K M else
  if w = 6 then g_L_6 L xs x1 x2 x3 x4 K M else
  if w = 7 then g_L_7 L xs x1 x2 x3 x4 K M else
  if w = 8 then g_L_8 L xs x1 x2 x3 x4 K M else
  if w = 9 then g_L_9 L xs x1 x2 x3 x4 K M else
  if w = 10 then g_L_10 L xs x1 x2 x3 x4 K M else
  if w = 11 then g_L_11 L xs x1 x2 x3 x4 K M else
  if w = 12 then g_L_12 L xs x1 x2 x3 x4 K M else
  if w = 13 then g_L_13 L xs x1 x2 x3 x4 K M else
  if w = 14 then g_L_14 L xs x1 x2 x3 x4 K M else
  if w = 15 then g_L_15 L xs x1 x2 x3 x4 K M else
  if w = 16 then g_L_16 L xs x1 x2 x3 x4 K M else
  if w = 17 then g_L_17 L xs x1 x2 x3 x4 K M else
  if w = 18 then g_L_18 L xs x1 x2 x3 x4 K M else
  if w = 19 then g_L_19 L xs x1 x2 x3 x4 K M else
  if w = 20 then g_L_20 L xs x1 x2 x3 x4 K M else
  if w = 21 then g_L_21 L xs x1 x2 x3 x4 K M else
  if w = 22 then g_L_22 L xs x1 x2 x3 x4 K M else
  if w = 23 then g_L_23 L xs x1 x2 x3 x4 K M else
  if w = 24 then g_L_24 L xs x1 x2 x3 x4 K M else
  if w = 25 then g_L_25 L xs x1 x2 x3 x4 K M else
  if w = 26 then g_L_26 L xs x1 x2 x3 x4 K M else
  if w = 27 then g_L_27 L xs x1 x2 x3 x4 K M else
  if w = 28 then g_L_28 L xs x1 x2 x3 x4 K M else
  if w = 29 then g_L_29 L xs x1 x2 x3 x4 K M else
  if w = 30 then g_L_30 L xs x1 x2 x3 x4 K M else
  if w = 31 then g_L_31 L xs x1 x2 x3 x4 K M else
  if w = 32 then g_L_32 L xs x1 x2 x3 x4 K M else
  if w = 33 then g_L_33 L xs x1 x2 x3 x4 K M else
  if w = 34 then g_L_34 L xs x1 x2 x3 x4 K M else
  if w = 35 then g_L_35 L xs x1 x2 x3 x4 K M else
  if w = 36 then g_L_36 L xs x1 x2 x3 x4 K M else
  if w = 37 then g_L_37 L xs x1 x2 x3 x4 K M else
  if w = 38 then g_L_38 L xs x1 x2 x3 x4 K M else
  if w = 39 then g_L_39 L xs x1 x2 x3 x4 K M else
  if w = 40 then g_L_40 L xs x1 x2 x3 x4 K M else
  if w = 41 then g_L_41 L xs x1 x2 x3 x4 K M else
  if w = 42 then g_L_42 L xs x1 x2 x3 x4 K M else
  if w = 43 then g_L_43 L xs x1 x2 x3 x4 K M else
  if w = 44 then g_L_44 L xs x1 x2 x3 x4 K M else
  if w = 45 then g_L_45 L xs x1 x2 x3 x4 K M else
  if w = 46 then g_L_46 L xs x1 x2 x3 x4 K M else
  if w = 47 then g_L_47 L xs x1 x2 x3 x4 K M else
  K M
set_option maxRecDepth 8000 in
theorem L_sw {G : Gx} (X : Cb G cL_law 8 RL room_1 false) {L : Nat} {xs : Nat → Int32} (S : SX G L xs) (hl0 : G.1.2.1.stackTraces = false) {c s : Nat} (hcs9 : csL (c + 1) (s + 6)) (x1 x2 x3 : Nat) (x4 w : Int32) {K : MM → Option (Int32 × MM)} (hK : ∀ M, V G trI 8 (c + 1) (s + 6) 1687 [(0, .ref (sB + 300)), (1, .ref x1), (2, .ref x2), (3, .ref x3), (4, .int x4)] [] M (K M)) (M : MM) : V G trI 8 c s 39 [(0, .ref (sB + 300)), (1, .ref x1), (2, .ref x2), (3, .ref x3), (4, .int x4)] [.int w] M (g_sw L xs x1 x2 x3 x4 w K M) := by
  unfold g_sw
  refine v_ite (fun e => v_tabIn X 244 dL_law_39 e (by decide +kernel) (L_L_0 X S hl0 hcs9 x1 x2 x3 x4 hK M)) (fun e0 => ?_)
  refine v_ite (fun e => v_tabIn X 269 dL_law_39 e (by decide +kernel) (L_L_1 X S hl0 hcs9 x1 x2 x3 x4 hK M)) (fun e1 => ?_)
  refine v_ite (fun e => v_tabIn X 294 dL_law_39 e (by decide +kernel) (L_L_2 X S hl0 hcs9 x1 x2 x3 x4 hK M)) (fun e2 => ?_)
  refine v_ite (fun e => v_tabIn X 307 dL_law_39 e (by decide +kernel) (L_L_3 X S hl0 hcs9 x1 x2 x3 x4 hK M)) (fun e3 => ?_)
  refine v_ite (fun e => v_tabIn X 332 dL_law_39 e (by decide +kernel) (L_L_4 X S hl0 hcs9 x1 x2 x3 x4 hK M)) (fun e4 => ?_)
  refine v_ite (fun e => v_tabIn X 345 dL_law_39 e (by decide +kernel) (L_L_5 X S hl0 hcs9 x1 x2 x3 x4 hK M)) (fun e5 => ?_)
  refine v_ite (fun e => v_tabIn X 358 dL_law_39 e (by decide +kernel) (L_L_6 X S hl0 hcs9 x1 x2 x3 x4 hK M)) (fun e6 => ?_)
  refine v_ite (fun e => v_tabIn X 426 dL_law_39 e (by decide +kernel) (L_L_7 X S hl0 hcs9 x1 x2 x3 x4 hK M)) (fun e7 => ?_)
  refine v_ite (fun e => v_tabIn X 494 dL_law_39 e (by decide +kernel) (L_L_8 X S hl0 hcs9 x1 x2 x3 x4 hK M)) (fun e8 => ?_)
  refine v_ite (fun e => v_tabIn X 562 dL_law_39 e (by decide +kernel) (L_L_9 X S hl0 hcs9 x1 x2 x3 x4 hK M)) (fun e9 => ?_)
  refine v_ite (fun e => v_tabIn X 611 dL_law_39 e (by decide +kernel) (L_L_10 X S hl0 hcs9 x1 x2 x3 x4 hK M)) (fun e10 => ?_)
  refine v_ite (fun e => v_tabIn X 636 dL_law_39 e (by decide +kernel) (L_L_11 X S hl0 hcs9 x1 x2 x3 x4 hK M)) (fun e11 => ?_)
  refine v_ite (fun e => v_tabIn X 697 dL_law_39 e (by decide +kernel) (L_L_12 X S hl0 hcs9 x1 x2 x3 x4 hK M)) (fun e12 => ?_)
  refine v_ite (fun e => v_tabIn X 746 dL_law_39 e (by decide +kernel) (L_L_13 X S hl0 hcs9 x1 x2 x3 x4 hK M)) (fun e13 => ?_)
  refine v_ite (fun e => v_tabIn X 795 dL_law_39 e (by decide +kernel) (L_L_14 X S hl0 hcs9 x1 x2 x3 x4 hK M)) (fun e14 => ?_)
  refine v_ite (fun e => v_tabIn X 856 dL_law_39 e (by decide +kernel) (L_L_15 X S hl0 hcs9 x1 x2 x3 x4 hK M)) (fun e15 => ?_)
  refine v_ite (fun e => v_tabIn X 881 dL_law_39 e (by decide +kernel) (L_L_16 X S hl0 hcs9 x1 x2 x3 x4 hK M)) (fun e16 => ?_)
  refine v_ite (fun e => v_tabIn X 918 dL_law_39 e (by decide +kernel) (L_L_17 X S hl0 hcs9 x1 x2 x3 x4 hK M)) (fun e17 => ?_)
  refine v_ite (fun e => v_tabIn X 931 dL_law_39 e (by decide +kernel) (L_L_18 X S hl0 hcs9 x1 x2 x3 x4 hK M)) (fun e18 => ?_)
  refine v_ite (fun e => v_tabIn X 944 dL_law_39 e (by decide +kernel) (L_L_19 X S hl0 hcs9 x1 x2 x3 x4 hK M)) (fun e19 => ?_)
  refine v_ite (fun e => v_tabIn X 957 dL_law_39 e (by decide +kernel) (L_L_20 X S hl0 hcs9 x1 x2 x3 x4 hK M)) (fun e20 => ?_)
  refine v_ite (fun e => v_tabIn X 982 dL_law_39 e (by decide +kernel) (L_L_21 X S hl0 hcs9 x1 x2 x3 x4 hK M)) (fun e21 => ?_)
  refine v_ite (fun e => v_tabIn X 995 dL_law_39 e (by decide +kernel) (L_L_22 X S hl0 hcs9 x1 x2 x3 x4 hK M)) (fun e22 => ?_)
  refine v_ite (fun e => v_tabIn X 1008 dL_law_39 e (by decide +kernel) (L_L_23 X S hl0 hcs9 x1 x2 x3 x4 hK M)) (fun e23 => ?_)
  refine v_ite (fun e => v_tabIn X 1021 dL_law_39 e (by decide +kernel) (L_L_24 X S hl0 hcs9 x1 x2 x3 x4 hK M)) (fun e24 => ?_)
  refine v_ite (fun e => v_tabIn X 1058 dL_law_39 e (by decide +kernel) (L_L_25 X S hl0 hcs9 x1 x2 x3 x4 hK M)) (fun e25 => ?_)
  refine v_ite (fun e => v_tabIn X 1095 dL_law_39 e (by decide +kernel) (L_L_26 X S hl0 hcs9 x1 x2 x3 x4 hK M)) (fun e26 => ?_)
  refine v_ite (fun e => v_tabIn X 1132 dL_law_39 e (by decide +kernel) (L_L_27 X S hl0 hcs9 x1 x2 x3 x4 hK M)) (fun e27 => ?_)
  refine v_ite (fun e => v_tabIn X 1157 dL_law_39 e (by decide +kernel) (L_L_28 X S hl0 hcs9 x1 x2 x3 x4 hK M)) (fun e28 => ?_)
  refine v_ite (fun e => v_tabIn X 1182 dL_law_39 e (by decide +kernel) (L_L_29 X S hl0 hcs9 x1 x2 x3 x4 hK M)) (fun e29 => ?_)
  refine v_ite (fun e => v_tabIn X 1195 dL_law_39 e (by decide +kernel) (L_L_30 X S hl0 hcs9 x1 x2 x3 x4 hK M)) (fun e30 => ?_)
  refine v_ite (fun e => v_tabIn X 1208 dL_law_39 e (by decide +kernel) (L_L_31 X S hl0 hcs9 x1 x2 x3 x4 hK M)) (fun e31 => ?_)
  refine v_ite (fun e => v_tabIn X 1221 dL_law_39 e (by decide +kernel) (L_L_32 X S hl0 hcs9 x1 x2 x3 x4 hK M)) (fun e32 => ?_)
  refine v_ite (fun e => v_tabIn X 1234 dL_law_39 e (by decide +kernel) (L_L_33 X S hl0 hcs9 x1 x2 x3 x4 hK M)) (fun e33 => ?_)
  refine v_ite (fun e => v_tabIn X 1259 dL_law_39 e (by decide +kernel) (L_L_34 X S hl0 hcs9 x1 x2 x3 x4 hK M)) (fun e34 => ?_)
  refine v_ite (fun e => v_tabIn X 1296 dL_law_39 e (by decide +kernel) (L_L_35 X S hl0 hcs9 x1 x2 x3 x4 hK M)) (fun e35 => ?_)
  refine v_ite (fun e => v_tabIn X 1321 dL_law_39 e (by decide +kernel) (L_L_36 X S hl0 hcs9 x1 x2 x3 x4 hK M)) (fun e36 => ?_)
  refine v_ite (fun e => v_tabIn X 1334 dL_law_39 e (by decide +kernel) (L_L_37 X S hl0 hcs9 x1 x2 x3 x4 hK M)) (fun e37 => ?_)
  refine v_ite (fun e => v_tabIn X 1371 dL_law_39 e (by decide +kernel) (L_L_38 X S hl0 hcs9 x1 x2 x3 x4 hK M)) (fun e38 => ?_)
  refine v_ite (fun e => v_tabIn X 1420 dL_law_39 e (by decide +kernel) (L_L_39 X S hl0 hcs9 x1 x2 x3 x4 hK M)) (fun e39 => ?_)
  refine v_ite (fun e => v_tabIn X 1433 dL_law_39 e (by decide +kernel) (L_L_40 X S hl0 hcs9 x1 x2 x3 x4 hK M)) (fun e40 => ?_)
  refine v_ite (fun e => v_tabIn X 1446 dL_law_39 e (by decide +kernel) (L_L_41 X S hl0 hcs9 x1 x2 x3 x4 hK M)) (fun e41 => ?_)
  refine v_ite (fun e => v_tabIn X 1483 dL_law_39 e (by decide +kernel) (L_L_42 X S hl0 hcs9 x1 x2 x3 x4 hK M)) (fun e42 => ?_)
  refine v_ite (fun e => v_tabIn X 1508 dL_law_39 e (by decide +kernel) (L_L_43 X S hl0 hcs9 x1 x2 x3 x4 hK M)) (fun e43 => ?_)
  refine v_ite (fun e => v_tabIn X 1557 dL_law_39 e (by decide +kernel) (L_L_44 X S hl0 hcs9 x1 x2 x3 x4 hK M)) (fun e44 => ?_)
  refine v_ite (fun e => v_tabIn X 1582 dL_law_39 e (by decide +kernel) (L_L_45 X S hl0 hcs9 x1 x2 x3 x4 hK M)) (fun e45 => ?_)
  refine v_ite (fun e => v_tabIn X 1607 dL_law_39 e (by decide +kernel) (L_L_46 X S hl0 hcs9 x1 x2 x3 x4 hK M)) (fun e46 => ?_)
  refine v_ite (fun e => v_tabIn X 1632 dL_law_39 e (by decide +kernel) (L_L_47 X S hl0 hcs9 x1 x2 x3 x4 hK M)) (fun e47 => ?_)
  refine v_tabOut X 1687 dL_law_39 [0, 1, 2, 3, 4, 5, 6, 7, 8, 9, 10, 11, 12, 13, 14, 15, 16, 17, 18, 19, 20, 21, 22, 23, 24, 25, 26, 27, 28, 29, 30, 31, 32, 33, 34, 35, 36, 37, 38, 39, 40, 41, 42, 43, 44, 45, 46, 47] ⟨e0, e1, e2, e3, e4, e5, e6, e7, e8, e9, e10, e11, e12, e13, e14, e15, e16, e17, e18, e19, e20, e21, e22, e23, e24, e25, e26, e27, e28, e29, e30, e31, e32, e33, e34, e35, e36, e37, e38, e39, e40, e41, e42, e43, e44, e45, e46, e47, trivial⟩ (by decide +kernel) rfl ?_
  exact v_wd (c + 1) (s + 6) (Nat.le_add_right _ _) (Nat.le_add_right _ _) (hK _)

def g_loop (L : Nat) (xs : Nat → Int32) (x1 x2 x3 : Nat) : Nat → Int32 → MM → Option (Int32 × MM)
  | 0, _, _ => none
  | n + 1, x4, M =>
    if nI L - (5 : Int32) < x4 then some ((1 : Int32), M)
    else b1 (scr L xs x4) fun v => bn (v &&& (63 : Int32)) fun w => g_sw L xs x1 x2 x3 x4 w (fun M' => bn (x4 + 5) fun y => g_loop L xs x1 x2 x3 n y M') M
set_option maxRecDepth 8000 in
theorem L_loop {G : Gx} (X : Cb G cL_law 8 RL room_1 false) {L : Nat} {xs : Nat → Int32} (S : SX G L xs) (hl0 : G.1.2.1.stackTraces = false) (hret : ∀ (c s : Nat) (lv : List (Nat × Value)) (M : MM), csL c s → V G trI 8 c s 1694 lv [.int 1] M (some ((1 : Int32), M))) (x1 x2 x3 : Nat) : ∀ (n c s : Nat) (x4 : Int32) (M : MM), csL (c + n) (s + 6 * n) → V G trI 8 c s 23 [(0, .ref (sB + 300)), (1, .ref x1), (2, .ref x2), (3, .ref x3), (4, .int x4)] [] M (g_loop L xs x1 x2 x3 n x4 M) := by
  intro n
  induction n with
  | zero => intro c s x4 M _; rw [g_loop]; exact v_none
  | succ n ih =>
    intro c s x4 M hcs
    have hcs9 : csL (c + 1) (s + 6) := ⟨Nat.le_trans (by omega) hcs.1, Nat.le_trans (by omega) hcs.2⟩
    have hcs0 : csL c s := csL_dn hcs9
    rw [g_loop]
    refine v_iload X 25 4 dL_law_23 rfl rfl ?_
    refine v_aload_n X 26 0 dL_law_25 rfl rfl ?_
    refine v_slen X 27 S dL_law_26 rfl ?_
    refine v_iconst X 28 dL_law_27 ik_5 rfl ?_
    refine v_isub X 29 dL_law_28 rfl ?_
    refine v_icgt X 32 1693 dL_law_29 rfl rfl ?_ ?_
    · refine v_iconst X 1694 dL_law_1693 ik_1 rfl ?_
      exact hret _ _ _ _ hcs0
    · refine v_aload_n X 33 0 dL_law_32 rfl rfl ?_
      refine v_iload X 35 4 dL_law_33 rfl rfl ?_
      refine v_sld X 36 S dL_law_35 rfl (fun v => ?_)
      refine v_bipush X 38 dL_law_36 bk_63 rfl ?_
      refine v_iand X 39 dL_law_38 rfl ?_
      refine v_bnI (fun w => ?_)
      refine L_sw X S hl0 hcs9 x1 x2 x3 x4 w (fun M' => ?_) M
      refine v_iinc X 1690 4 (fun z => [(0, .ref (sB + 300)), (1, .ref x1), (2, .ref x2), (3, .ref x3), (4, .int z)]) dL_law_1687 rfl ik_5 (by decide) (fun _ => rfl) rfl (fun y => ?_)
      refine v_goto X 23 dL_law_1690 rfl ?_
      refine ih (c + 1) (s + 6) y M' ?_
      exact ⟨Nat.le_trans (by omega) hcs.1, Nat.le_trans (by omega) hcs.2⟩
/-- the empty memory -/
def M00 : MM := (0, (fun _ => (0, 0)), (fun _ _ => 0), (fun _ _ => 0), (fun _ _ => none))
def g_law (L : Nat) (xs : Nat → Int32) : Option (Int32 × MM) :=
  b2 (nO 11 0 M00) fun a1 M1 => b1 (f_X11_init a1 M1) fun M2 => b2 (nO 12 0 M2) fun a3 M3 => b1 (f_X12_init a3 M3) fun M4 => b2 (nO 21 1 M4) fun a5 M5 => g_loop L xs a1 a3 a5 600 0 M5
/-- what is not tight is enough for the loop -/
theorem v_loose {α : Type} {tr : α → Option Value × MM} {p : Program} {l : Launch} {e : Env} {R : Room} {s : State} {m : MethodId} {args : Array Value} {below : List Frame} {meth : Method} {c : Code} {D : va_G} {cy : Nat → ClassId} {sz : Nat} {ad : Nat → Nat} {QQ : (Option Value × MM) → State → Prop} {nL cells slots pc : Nat} {lv : List (Nat × Value)} {st : List Value} {M : MM} {res : Option α} (k : V ((p, l, e, R), (s, m, args, below), (meth, c), (D, cy, sz, ad, false), QQ) tr nL cells slots pc lv st M res) : V ((p, l, e, R), (s, m, args, below), (meth, c), (D, cy, sz, ad, true), QQ) tr nL cells slots pc lv st M res :=
  fun o ho H locs ls hR hS hl => k o ho H locs ls ⟨hR.1, hR.2.1, (fun h => by cases h), hR.2.2.2⟩ hS hl

theorem csL_dn {c s : Nat} (h : csL (c + 1) (s + 6)) : csL c s := ⟨Nat.le_trans (Nat.le_add_right _ _) h.1, Nat.le_trans (Nat.le_add_right _ _) h.2⟩
theorem csw_person : CSW yL_person cL_person 5 (some .int) [(0, 10, 13, 13)] 4 := ⟨gt6 78 rfl rfl, gt1 0 rfl rfl, gt6 77 rfl rfl, by decide +kernel⟩
theorem csw_errand : CSW yL_errand cL_errand 5 (some .int) [(0, 10, 13, 13)] 4 := ⟨gt6 161 rfl rfl, gt1 0 rfl rfl, gt6 160 rfl rfl, by decide +kernel⟩
theorem csw_trip : CSW yL_trip cL_trip 5 (some .int) [(0, 10, 13, 13)] 4 := ⟨gt6 168 rfl rfl, gt1 0 rfl rfl, gt6 167 rfl rfl, by decide +kernel⟩
theorem csw_row : CSW yL_row cL_row 4 (some .int) [(0, 8, 11, 13)] 3 := ⟨gt6 176 rfl rfl, gt1 0 rfl rfl, gt6 175 rfl rfl, by decide +kernel⟩
def g_L_0 (L : Nat) (xs : Nat → Int32) (x1 x2 x3 : Nat) (x4 : Int32) (K : MM → Option (Int32 × MM)) (M : MM) : Option (Int32 × MM) :=
    b1 (scr L xs (x4 + (1 : Int32))) fun v1 =>
    b2 (f_X11_sign x1 v1 M) fun r2 M3 =>
    b1 (scr L xs (x4 + (1 : Int32))) fun v4 =>
    b2 (f_X12_sign x2 v4 M3) fun r5 M6 =>
    if r2 = r5 then
      K M6
    else
      none
set_option maxRecDepth 4000 in
theorem L_L_0 {G : Gx} (X : Cb G cL_law 8 RL room_1 false) {L : Nat} {xs : Nat → Int32} (S : SX G L xs) (hl0 : G.1.2.1.stackTraces = false) {c s : Nat} (hcs9 : csL (c + 1) (s + 6)) (x1 x2 x3 : Nat) (x4 : Int32) {K : MM → Option (Int32 × MM)} (hK : ∀ M, V G trI 8 (c + 1) (s + 6) 1687 [(0, .ref (sB + 300)), (1, .ref x1), (2, .ref x2), (3, .ref x3), (4, .int x4)] [] M (K M)) (M : MM) : V G trI 8 c s 244 [(0, .ref (sB + 300)), (1, .ref x1), (2, .ref x2), (3, .ref x3), (4, .int x4)] [] M (g_L_0 L xs x1 x2 x3 x4 K M) := by
  unfold g_L_0
  have hcs := csL_dn hcs9
  refine v_aload_n X 245 1 dL_law_244 rfl rfl ?_
  refine v_aload_n X 246 0 dL_law_245 rfl rfl ?_
  refine v_iload X 248 4 dL_law_246 rfl rfl ?_
  refine v_iconst X 249 dL_law_248 ik_1 rfl ?_
  refine v_iadd X 250 dL_law_249 rfl ?_
  refine v_sld X 251 S dL_law_250 rfl (fun v1 => ?_)
  refine v_wI X 254 cv_X11_sign ml_L_29 hcs (n1 := 2) rfl [.int v1] rfl rfl rfl dL_law_251 rfl (fun r M1 h => c_X11_sign _ _ _ _ _ _ h) (fun r2 M3 => ?_)
  refine v_aload_n X 255 2 dL_law_254 rfl rfl ?_
  refine v_aload_n X 256 0 dL_law_255 rfl rfl ?_
  refine v_iload X 258 4 dL_law_256 rfl rfl ?_
  refine v_iconst X 259 dL_law_258 ik_1 rfl ?_
  refine v_iadd X 260 dL_law_259 rfl ?_
  refine v_sld X 261 S dL_law_260 rfl (fun v4 => ?_)
  refine v_wI X 264 cv_X12_sign ml_L_33 hcs (n1 := 1) rfl [.int v4] rfl rfl rfl dL_law_261 rfl (fun r M1 h => c_X12_sign _ _ _ _ _ _ h) (fun r5 M6 => ?_)
  refine v_iceq X 267 1687 dL_law_264 rfl rfl ?_ ?_
  · exact v_wd (c + 1) (s + 6) (Nat.le_add_right _ _) (Nat.le_add_right _ _) (hK _)
  · exact v_none

def g_L_1 (L : Nat) (xs : Nat → Int32) (x1 x2 x3 : Nat) (x4 : Int32) (K : MM → Option (Int32 × MM)) (M : MM) : Option (Int32 × MM) :=
    b1 (scr L xs (x4 + (1 : Int32))) fun v1 =>
    b2 (f_X11_end x1 v1 M) fun r2 M3 =>
    b1 (scr L xs (x4 + (1 : Int32))) fun v4 =>
    b2 (f_X12_end x2 v4 M3) fun r5 M6 =>
    if r2 = r5 then
      K M6
    else
      none
set_option maxRecDepth 4000 in
theorem L_L_1 {G : Gx} (X : Cb G cL_law 8 RL room_1 false) {L : Nat} {xs : Nat → Int32} (S : SX G L xs) (hl0 : G.1.2.1.stackTraces = false) {c s : Nat} (hcs9 : csL (c + 1) (s + 6)) (x1 x2 x3 : Nat) (x4 : Int32) {K : MM → Option (Int32 × MM)} (hK : ∀ M, V G trI 8 (c + 1) (s + 6) 1687 [(0, .ref (sB + 300)), (1, .ref x1), (2, .ref x2), (3, .ref x3), (4, .int x4)] [] M (K M)) (M : MM) : V G trI 8 c s 269 [(0, .ref (sB + 300)), (1, .ref x1), (2, .ref x2), (3, .ref x3), (4, .int x4)] [] M (g_L_1 L xs x1 x2 x3 x4 K M) := by
  unfold g_L_1
  have hcs := csL_dn hcs9
  refine v_aload_n X 270 1 dL_law_269 rfl rfl ?_
  refine v_aload_n X 271 0 dL_law_270 rfl rfl ?_
  refine v_iload X 273 4 dL_law_271 rfl rfl ?_
  refine v_iconst X 274 dL_law_273 ik_1 rfl ?_
  refine v_iadd X 275 dL_law_274 rfl ?_
  refine v_sld X 276 S dL_law_275 rfl (fun v1 => ?_)
  refine v_wI X 279 cv_X11_end ml_L_34 hcs (n1 := 2) rfl [.int v1] rfl rfl rfl dL_law_276 rfl (fun r M1 h => c_X11_end _ _ _ _ _ _ h) (fun r2 M3 => ?_)
  refine v_aload_n X 280 2 dL_law_279 rfl rfl ?_
  refine v_aload_n X 281 0 dL_law_280 rfl rfl ?_
  refine v_iload X 283 4 dL_law_281 rfl rfl ?_
  refine v_iconst X 284 dL_law_283 ik_1 rfl ?_
  refine v_iadd X 285 dL_law_284 rfl ?_
  refine v_sld X 286 S dL_law_285 rfl (fun v4 => ?_)
  refine v_wI X 289 cv_X12_end ml_L_38 hcs (n1 := 2) rfl [.int v4] rfl rfl rfl dL_law_286 rfl (fun r M1 h => c_X12_end _ _ _ _ _ _ h) (fun r5 M6 => ?_)
  refine v_iceq X 292 1687 dL_law_289 rfl rfl ?_ ?_
  · exact v_wd (c + 1) (s + 6) (Nat.le_add_right _ _) (Nat.le_add_right _ _) (hK _)
  · exact v_none

def g_L_2 (L : Nat) (xs : Nat → Int32) (x1 x2 x3 : Nat) (x4 : Int32) (K : MM → Option (Int32 × MM)) (M : MM) : Option (Int32 × MM) :=
    b2 (f_X11_station x1 M) fun r1 M2 =>
    b2 (f_X12_station x2 M2) fun r3 M4 =>
    if r1 = r3 then
      K M4
    else
      none
set_option maxRecDepth 4000 in
theorem L_L_2 {G : Gx} (X : Cb G cL_law 8 RL room_1 false) {L : Nat} {xs : Nat → Int32} (S : SX G L xs) (hl0 : G.1.2.1.stackTraces = false) {c s : Nat} (hcs9 : csL (c + 1) (s + 6)) (x1 x2 x3 : Nat) (x4 : Int32) {K : MM → Option (Int32 × MM)} (hK : ∀ M, V G trI 8 (c + 1) (s + 6) 1687 [(0, .ref (sB + 300)), (1, .ref x1), (2, .ref x2), (3, .ref x3), (4, .int x4)] [] M (K M)) (M : MM) : V G trI 8 c s 294 [(0, .ref (sB + 300)), (1, .ref x1), (2, .ref x2), (3, .ref x3), (4, .int x4)] [] M (g_L_2 L xs x1 x2 x3 x4 K M) := by
  unfold g_L_2
  have hcs := csL_dn hcs9
  refine v_aload_n X 295 1 dL_law_294 rfl rfl ?_
  refine v_wI X 298 cv_X11_station ml_L_39 hcs (n1 := 6) rfl [] rfl rfl rfl dL_law_295 rfl (fun r M1 h => c_X11_station _ _ _ _ _ h) (fun r1 M2 => ?_)
  refine v_aload_n X 299 2 dL_law_298 rfl rfl ?_
  refine v_wI X 302 cv_X12_station ml_L_43 hcs (n1 := 17) rfl [] rfl rfl rfl dL_law_299 rfl (fun r M1 h => c_X12_station _ _ _ _ _ h) (fun r3 M4 => ?_)
  refine v_iceq X 305 1687 dL_law_302 rfl rfl ?_ ?_
  · exact v_wd (c + 1) (s + 6) (Nat.le_add_right _ _) (Nat.le_add_right _ _) (hK _)
  · exact v_none

def g_L_3 (L : Nat) (xs : Nat → Int32) (x1 x2 x3 : Nat) (x4 : Int32) (K : MM → Option (Int32 × MM)) (M : MM) : Option (Int32 × MM) :=
    b1 (scr L xs (x4 + (1 : Int32))) fun v1 =>
    b2 (f_X11_wishes x1 v1 M) fun r2 M3 =>
    b1 (scr L xs (x4 + (1 : Int32))) fun v4 =>
    b2 (f_X12_wishes x2 v4 M3) fun r5 M6 =>
    if r2 = r5 then
      K M6
    else
      none
set_option maxRecDepth 4000 in
theorem L_L_3 {G : Gx} (X : Cb G cL_law 8 RL room_1 false) {L : Nat} {xs : Nat → Int32} (S : SX G L xs) (hl0 : G.1.2.1.stackTraces = false) {c s : Nat} (hcs9 : csL (c + 1) (s + 6)) (x1 x2 x3 : Nat) (x4 : Int32) {K : MM → Option (Int32 × MM)} (hK : ∀ M, V G trI 8 (c + 1) (s + 6) 1687 [(0, .ref (sB + 300)), (1, .ref x1), (2, .ref x2), (3, .ref x3), (4, .int x4)] [] M (K M)) (M : MM) : V G trI 8 c s 307 [(0, .ref (sB + 300)), (1, .ref x1), (2, .ref x2), (3, .ref x3), (4, .int x4)] [] M (g_L_3 L xs x1 x2 x3 x4 K M) := by
  unfold g_L_3
  have hcs := csL_dn hcs9
  refine v_aload_n X 308 1 dL_law_307 rfl rfl ?_
  refine v_aload_n X 309 0 dL_law_308 rfl rfl ?_
  refine v_iload X 311 4 dL_law_309 rfl rfl ?_
  refine v_iconst X 312 dL_law_311 ik_1 rfl ?_
  refine v_iadd X 313 dL_law_312 rfl ?_
  refine v_sld X 314 S dL_law_313 rfl (fun v1 => ?_)
  refine v_wI X 317 cv_X11_wishes ml_L_44 hcs (n1 := 3) rfl [.int v1] rfl rfl rfl dL_law_314 rfl (fun r M1 h => c_X11_wishes _ _ _ _ _ _ h) (fun r2 M3 => ?_)
  refine v_aload_n X 318 2 dL_law_317 rfl rfl ?_
  refine v_aload_n X 319 0 dL_law_318 rfl rfl ?_
  refine v_iload X 321 4 dL_law_319 rfl rfl ?_
  refine v_iconst X 322 dL_law_321 ik_1 rfl ?_
  refine v_iadd X 323 dL_law_322 rfl ?_
  refine v_sld X 324 S dL_law_323 rfl (fun v4 => ?_)
  refine v_wI X 327 cv_X12_wishes ml_L_47 hcs (n1 := 4) rfl [.int v4] rfl rfl rfl dL_law_324 rfl (fun r M1 h => c_X12_wishes _ _ _ _ _ _ h) (fun r5 M6 => ?_)
  refine v_iceq X 330 1687 dL_law_327 rfl rfl ?_ ?_
  · exact v_wd (c + 1) (s + 6) (Nat.le_add_right _ _) (Nat.le_add_right _ _) (hK _)
  · exact v_none

def g_L_4 (L : Nat) (xs : Nat → Int32) (x1 x2 x3 : Nat) (x4 : Int32) (K : MM → Option (Int32 × MM)) (M : MM) : Option (Int32 × MM) :=
    b2 (f_X11_rule x1 M) fun r1 M2 =>
    b2 (f_X12_rule x2 M2) fun r3 M4 =>
    if r1 = r3 then
      K M4
    else
      none
set_option maxRecDepth 4000 in
theorem L_L_4 {G : Gx} (X : Cb G cL_law 8 RL room_1 false) {L : Nat} {xs : Nat → Int32} (S : SX G L xs) (hl0 : G.1.2.1.stackTraces = false) {c s : Nat} (hcs9 : csL (c + 1) (s + 6)) (x1 x2 x3 : Nat) (x4 : Int32) {K : MM → Option (Int32 × MM)} (hK : ∀ M, V G trI 8 (c + 1) (s + 6) 1687 [(0, .ref (sB + 300)), (1, .ref x1), (2, .ref x2), (3, .ref x3), (4, .int x4)] [] M (K M)) (M : MM) : V G trI 8 c s 332 [(0, .ref (sB + 300)), (1, .ref x1), (2, .ref x2), (3, .ref x3), (4, .int x4)] [] M (g_L_4 L xs x1 x2 x3 x4 K M) := by
  unfold g_L_4
  have hcs := csL_dn hcs9
  refine v_aload_n X 333 1 dL_law_332 rfl rfl ?_
  refine v_wI X 336 cv_X11_rule ml_L_48 hcs (n1 := 415) rfl [] rfl rfl rfl dL_law_333 rfl (fun r M1 h => c_X11_rule _ _ _ _ _ h) (fun r1 M2 => ?_)
  refine v_aload_n X 337 2 dL_law_336 rfl rfl ?_
  refine v_wI X 340 cv_X12_rule ml_L_51 hcs (n1 := 116) rfl [] rfl rfl rfl dL_law_337 rfl (fun r M1 h => c_X12_rule _ _ _ _ _ h) (fun r3 M4 => ?_)
  refine v_iceq X 343 1687 dL_law_340 rfl rfl ?_ ?_
  · exact v_wd (c + 1) (s + 6) (Nat.le_add_right _ _) (Nat.le_add_right _ _) (hK _)
  · exact v_none

def g_L_5 (L : Nat) (xs : Nat → Int32) (x1 x2 x3 : Nat) (x4 : Int32) (K : MM → Option (Int32 × MM)) (M : MM) : Option (Int32 × MM) :=
    b2 (f_X11_plan x1 M) fun r1 M2 =>
    b2 (f_X12_plan x2 M2) fun r3 M4 =>
    if r1 = r3 then
      K M4
    else
      none
set_option maxRecDepth 4000 in
theorem L_L_5 {G : Gx} (X : Cb G cL_law 8 RL room_1 false) {L : Nat} {xs : Nat → Int32} (S : SX G L xs) (hl0 : G.1.2.1.stackTraces = false) {c s : Nat} (hcs9 : csL (c + 1) (s + 6)) (x1 x2 x3 : Nat) (x4 : Int32) {K : MM → Option (Int32 × MM)} (hK : ∀ M, V G trI 8 (c + 1) (s + 6) 1687 [(0, .ref (sB + 300)), (1, .ref x1), (2, .ref x2), (3, .ref x3), (4, .int x4)] [] M (K M)) (M : MM) : V G trI 8 c s 345 [(0, .ref (sB + 300)), (1, .ref x1), (2, .ref x2), (3, .ref x3), (4, .int x4)] [] M (g_L_5 L xs x1 x2 x3 x4 K M) := by
  unfold g_L_5
  have hcs := csL_dn hcs9
  refine v_aload_n X 346 1 dL_law_345 rfl rfl ?_
  refine v_wI X 349 cv_X11_plan ml_L_52 hcs (n1 := 4) rfl [] rfl rfl rfl dL_law_346 rfl (fun r M1 h => c_X11_plan _ _ _ _ _ h) (fun r1 M2 => ?_)
  refine v_aload_n X 350 2 dL_law_349 rfl rfl ?_
  refine v_wI X 353 cv_X12_plan ml_L_55 hcs (n1 := 5) rfl [] rfl rfl rfl dL_law_350 rfl (fun r M1 h => c_X12_plan _ _ _ _ _ h) (fun r3 M4 => ?_)
  refine v_iceq X 356 1687 dL_law_353 rfl rfl ?_ ?_
  · exact v_wd (c + 1) (s + 6) (Nat.le_add_right _ _) (Nat.le_add_right _ _) (hK _)
  · exact v_none

def g_L_6 (L : Nat) (xs : Nat → Int32) (x1 x2 x3 : Nat) (x4 : Int32) (K : MM → Option (Int32 × MM)) (M : MM) : Option (Int32 × MM) :=
    b1 (scr L xs (x4 + (1 : Int32))) fun v1 =>
    b1 (scr L xs (x4 + (2 : Int32))) fun v2 =>
    b2 (f_L_person x1 v1 v2 x3 M) fun r3 M4 =>
    b1 (scr L xs (x4 + (1 : Int32))) fun v5 =>
    b1 (scr L xs (x4 + (2 : Int32))) fun v6 =>
    b2 (f_X12_person x2 v5 v6 M4) fun r7 M8 =>
    b2 (f_X12_thrown x2 M8) fun r9 M10 =>
    if r9 = r3 then
      if r3 = 0 then
        b1 (ldL x3 (0 : Int32) M10) fun v11 =>
        if (lg_cmp v11 (Int32.toInt64 r7)) = 0 then
          K M10
        else
          none
      else
        K M10
    else
      none
set_option maxRecDepth 4000 in
theorem L_L_6 {G : Gx} (X : Cb G cL_law 8 RL room_1 false) {L : Nat} {xs : Nat → Int32} (S : SX G L xs) (hl0 : G.1.2.1.stackTraces = false) {c s : Nat} (hcs9 : csL (c + 1) (s + 6)) (x1 x2 x3 : Nat) (x4 : Int32) {K : MM → Option (Int32 × MM)} (hK : ∀ M, V G trI 8 (c + 1) (s + 6) 1687 [(0, .ref (sB + 300)), (1, .ref x1), (2, .ref x2), (3, .ref x3), (4, .int x4)] [] M (K M)) (M : MM) : V G trI 8 c s 358 [(0, .ref (sB + 300)), (1, .ref x1), (2, .ref x2), (3, .ref x3), (4, .int x4)] [] M (g_L_6 L xs x1 x2 x3 x4 K M) := by
  unfold g_L_6
  have hcs := csL_dn hcs9
  refine v_aload_n X 359 1 dL_law_358 rfl rfl ?_
  refine v_aload_n X 360 0 dL_law_359 rfl rfl ?_
  refine v_iload X 362 4 dL_law_360 rfl rfl ?_
  refine v_iconst X 363 dL_law_362 ik_1 rfl ?_
  refine v_iadd X 364 dL_law_363 rfl ?_
  refine v_sld X 365 S dL_law_364 rfl (fun v1 => ?_)
  refine v_aload_n X 366 0 dL_law_365 rfl rfl ?_
  refine v_iload X 368 4 dL_law_366 rfl rfl ?_
  refine v_iconst X 369 dL_law_368 ik_2 rfl ?_
  refine v_iadd X 370 dL_law_369 rfl ?_
  refine v_sld X 371 S dL_law_370 rfl (fun v2 => ?_)
  refine v_aload_n X 372 3 dL_law_371 rfl rfl ?_
  refine v_sIW X 375 csw_person ml_L_56 hcs (n1 := 8) rfl [.ref x1, .int v1, .int v2, .ref x3] rfl rfl rfl dL_law_372 rfl (fun r M1 h => c_L_person _ hl0 _ _ _ _ _ _ _ h) (fun r3 M4 => ?_)
  have hcs := hcs9
  refine v_istore (lv' := [(0, .ref (sB + 300)), (1, .ref x1), (2, .ref x2), (3, .ref x3), (4, .int x4), (5, .int r3)]) X 377 dL_law_375 (by decide) rfl rfl ?_
  refine v_aload_n X 378 2 dL_law_377 rfl rfl ?_
  refine v_aload_n X 379 0 dL_law_378 rfl rfl ?_
  refine v_iload X 381 4 dL_law_379 rfl rfl ?_
  refine v_iconst X 382 dL_law_381 ik_1 rfl ?_
  refine v_iadd X 383 dL_law_382 rfl ?_
  refine v_sld X 384 S dL_law_383 rfl (fun v5 => ?_)
  refine v_aload_n X 385 0 dL_law_384 rfl rfl ?_
  refine v_iload X 387 4 dL_law_385 rfl rfl ?_
  refine v_iconst X 388 dL_law_387 ik_2 rfl ?_
  refine v_iadd X 389 dL_law_388 rfl ?_
  refine v_sld X 390 S dL_law_389 rfl (fun v6 => ?_)
  refine v_wI X 393 cv_X12_person ml_L_61 hcs (n1 := 5) rfl [.int v5, .int v6] rfl rfl rfl dL_law_390 rfl (fun r M1 h => c_X12_person _ _ _ _ _ _ _ h) (fun r7 M8 => ?_)
  refine v_istore (lv' := [(0, .ref (sB + 300)), (1, .ref x1), (2, .ref x2), (3, .ref x3), (4, .int x4), (5, .int r3), (6, .int r7)]) X 395 dL_law_393 (by decide) rfl rfl ?_
  refine v_aload_n X 396 2 dL_law_395 rfl rfl ?_
  refine v_wI X 399 cv_X12_thrown ml_L_62 hcs (n1 := 1) rfl [] rfl rfl rfl dL_law_396 rfl (fun r M1 h => c_X12_thrown _ _ _ _ _ h) (fun r9 M10 => ?_)
  refine v_iload X 401 5 dL_law_399 rfl rfl ?_
  refine v_iceq X 404 406 dL_law_401 rfl rfl ?_ ?_
  · refine v_iload X 408 5 dL_law_406 rfl rfl ?_
    refine v_ifne X 411 423 dL_law_408 rfl rfl ?_ ?_
    · refine v_goto X 1687 dL_law_423 rfl ?_
      exact v_sb [0, 1, 2, 3, 4] (hK _) rfl
    · refine v_aload_n X 412 3 dL_law_411 rfl rfl ?_
      refine v_iconst X 413 dL_law_412 ik_0 rfl ?_
      refine v_lald X 414 dL_law_413 rfl (fun v11 => ?_)
      refine v_iload X 416 6 dL_law_414 rfl rfl ?_
      refine v_i2l X 417 dL_law_416 rfl ?_
      refine v_lcmp X 418 dL_law_417 rfl ?_
      refine v_ifeq X 421 423 dL_law_418 rfl rfl ?_ ?_
      · refine v_goto X 1687 dL_law_423 rfl ?_
        exact v_sb [0, 1, 2, 3, 4] (hK _) rfl
      · exact v_none
  · exact v_none

def g_L_7 (L : Nat) (xs : Nat → Int32) (x1 x2 x3 : Nat) (x4 : Int32) (K : MM → Option (Int32 × MM)) (M : MM) : Option (Int32 × MM) :=
    b1 (scr L xs (x4 + (1 : Int32))) fun v1 =>
    b1 (scr L xs (x4 + (2 : Int32))) fun v2 =>
    b2 (f_L_errand x1 v1 v2 x3 M) fun r3 M4 =>
    b1 (scr L xs (x4 + (1 : Int32))) fun v5 =>
    b1 (scr L xs (x4 + (2 : Int32))) fun v6 =>
    b2 (f_X12_errand x2 v5 v6 M4) fun r7 M8 =>
    b2 (f_X12_thrown x2 M8) fun r9 M10 =>
    if r9 = r3 then
      if r3 = 0 then
        b1 (ldL x3 (0 : Int32) M10) fun v11 =>
        if (lg_cmp v11 (Int32.toInt64 r7)) = 0 then
          K M10
        else
          none
      else
        K M10
    else
      none
set_option maxRecDepth 4000 in
theorem L_L_7 {G : Gx} (X : Cb G cL_law 8 RL room_1 false) {L : Nat} {xs : Nat → Int32} (S : SX G L xs) (hl0 : G.1.2.1.stackTraces = false) {c s : Nat} (hcs9 : csL (c + 1) (s + 6)) (x1 x2 x3 : Nat) (x4 : Int32) {K : MM → Option (Int32 × MM)} (hK : ∀ M, V G trI 8 (c + 1) (s + 6) 1687 [(0, .ref (sB + 300)), (1, .ref x1), (2, .ref x2), (3, .ref x3), (4, .int x4)] [] M (K M)) (M : MM) : V G trI 8 c s 426 [(0, .ref (sB + 300)), (1, .ref x1), (2, .ref x2), (3, .ref x3), (4, .int x4)] [] M (g_L_7 L xs x1 x2 x3 x4 K M) := by
  unfold g_L_7
  have hcs := csL_dn hcs9
  refine v_aload_n X 427 1 dL_law_426 rfl rfl ?_
  refine v_aload_n X 428 0 dL_law_427 rfl rfl ?_
  refine v_iload X 430 4 dL_law_428 rfl rfl ?_
  refine v_iconst X 431 dL_law_430 ik_1 rfl ?_
  refine v_iadd X 432 dL_law_431 rfl ?_
  refine v_sld X 433 S dL_law_432 rfl (fun v1 => ?_)
  refine v_aload_n X 434 0 dL_law_433 rfl rfl ?_
  refine v_iload X 436 4 dL_law_434 rfl rfl ?_
  refine v_iconst X 437 dL_law_436 ik_2 rfl ?_
  refine v_iadd X 438 dL_law_437 rfl ?_
  refine v_sld X 439 S dL_law_438 rfl (fun v2 => ?_)
  refine v_aload_n X 440 3 dL_law_439 rfl rfl ?_
  refine v_sIW X 443 csw_errand ml_L_65 hcs (n1 := 8) rfl [.ref x1, .int v1, .int v2, .ref x3] rfl rfl rfl dL_law_440 rfl (fun r M1 h => c_L_errand _ hl0 _ _ _ _ _ _ _ h) (fun r3 M4 => ?_)
  have hcs := hcs9
  refine v_istore (lv' := [(0, .ref (sB + 300)), (1, .ref x1), (2, .ref x2), (3, .ref x3), (4, .int x4), (5, .int r3)]) X 445 dL_law_443 (by decide) rfl rfl ?_
  refine v_aload_n X 446 2 dL_law_445 rfl rfl ?_
  refine v_aload_n X 447 0 dL_law_446 rfl rfl ?_
  refine v_iload X 449 4 dL_law_447 rfl rfl ?_
  refine v_iconst X 450 dL_law_449 ik_1 rfl ?_
  refine v_iadd X 451 dL_law_450 rfl ?_
  refine v_sld X 452 S dL_law_451 rfl (fun v5 => ?_)
  refine v_aload_n X 453 0 dL_law_452 rfl rfl ?_
  refine v_iload X 455 4 dL_law_453 rfl rfl ?_
  refine v_iconst X 456 dL_law_455 ik_2 rfl ?_
  refine v_iadd X 457 dL_law_456 rfl ?_
  refine v_sld X 458 S dL_law_457 rfl (fun v6 => ?_)
  refine v_wI X 461 cv_X12_errand ml_L_67 hcs (n1 := 3) rfl [.int v5, .int v6] rfl rfl rfl dL_law_458 rfl (fun r M1 h => c_X12_errand _ _ _ _ _ _ _ h) (fun r7 M8 => ?_)
  refine v_istore (lv' := [(0, .ref (sB + 300)), (1, .ref x1), (2, .ref x2), (3, .ref x3), (4, .int x4), (5, .int r3), (6, .int r7)]) X 463 dL_law_461 (by decide) rfl rfl ?_
  refine v_aload_n X 464 2 dL_law_463 rfl rfl ?_
  refine v_wI X 467 cv_X12_thrown ml_L_62 hcs (n1 := 1) rfl [] rfl rfl rfl dL_law_464 rfl (fun r M1 h => c_X12_thrown _ _ _ _ _ h) (fun r9 M10 => ?_)
  refine v_iload X 469 5 dL_law_467 rfl rfl ?_
  refine v_iceq X 472 474 dL_law_469 rfl rfl ?_ ?_
  · refine v_iload X 476 5 dL_law_474 rfl rfl ?_
    refine v_ifne X 479 491 dL_law_476 rfl rfl ?_ ?_
    · refine v_goto X 1687 dL_law_491 rfl ?_
      exact v_sb [0, 1, 2, 3, 4] (hK _) rfl
    · refine v_aload_n X 480 3 dL_law_479 rfl rfl ?_
      refine v_iconst X 481 dL_law_480 ik_0 rfl ?_
      refine v_lald X 482 dL_law_481 rfl (fun v11 => ?_)
      refine v_iload X 484 6 dL_law_482 rfl rfl ?_
      refine v_i2l X 485 dL_law_484 rfl ?_
      refine v_lcmp X 486 dL_law_485 rfl ?_
      refine v_ifeq X 489 491 dL_law_486 rfl rfl ?_ ?_
      · refine v_goto X 1687 dL_law_491 rfl ?_
        exact v_sb [0, 1, 2, 3, 4] (hK _) rfl
      · exact v_none
  · exact v_none

def g_L_8 (L : Nat) (xs : Nat → Int32) (x1 x2 x3 : Nat) (x4 : Int32) (K : MM → Option (Int32 × MM)) (M : MM) : Option (Int32 × MM) :=
    b1 (scr L xs (x4 + (1 : Int32))) fun v1 =>
    b1 (scr L xs (x4 + (2 : Int32))) fun v2 =>
    b2 (f_L_trip x1 v1 v2 x3 M) fun r3 M4 =>
    b1 (scr L xs (x4 + (1 : Int32))) fun v5 =>
    b1 (scr L xs (x4 + (2 : Int32))) fun v6 =>
    b2 (f_X12_trip x2 v5 v6 M4) fun r7 M8 =>
    b2 (f_X12_thrown x2 M8) fun r9 M10 =>
    if r9 = r3 then
      if r3 = 0 then
        b1 (ldL x3 (0 : Int32) M10) fun v11 =>
        if (lg_cmp v11 (Int32.toInt64 r7)) = 0 then
          K M10
        else
          none
      else
        K M10
    else
      none
set_option maxRecDepth 4000 in
theorem L_L_8 {G : Gx} (X : Cb G cL_law 8 RL room_1 false) {L : Nat} {xs : Nat → Int32} (S : SX G L xs) (hl0 : G.1.2.1.stackTraces = false) {c s : Nat} (hcs9 : csL (c + 1) (s + 6)) (x1 x2 x3 : Nat) (x4 : Int32) {K : MM → Option (Int32 × MM)} (hK : ∀ M, V G trI 8 (c + 1) (s + 6) 1687 [(0, .ref (sB + 300)), (1, .ref x1), (2, .ref x2), (3, .ref x3), (4, .int x4)] [] M (K M)) (M : MM) : V G trI 8 c s 494 [(0, .ref (sB + 300)), (1, .ref x1), (2, .ref x2), (3, .ref x3), (4, .int x4)] [] M (g_L_8 L xs x1 x2 x3 x4 K M) := by
  unfold g_L_8
  have hcs := csL_dn hcs9
  refine v_aload_n X 495 1 dL_law_494 rfl rfl ?_
  refine v_aload_n X 496 0 dL_law_495 rfl rfl ?_
  refine v_iload X 498 4 dL_law_496 rfl rfl ?_
  refine v_iconst X 499 dL_law_498 ik_1 rfl ?_
  refine v_iadd X 500 dL_law_499 rfl ?_
  refine v_sld X 501 S dL_law_500 rfl (fun v1 => ?_)
  refine v_aload_n X 502 0 dL_law_501 rfl rfl ?_
  refine v_iload X 504 4 dL_law_502 rfl rfl ?_
  refine v_iconst X 505 dL_law_504 ik_2 rfl ?_
  refine v_iadd X 506 dL_law_505 rfl ?_
  refine v_sld X 507 S dL_law_506 rfl (fun v2 => ?_)
  refine v_aload_n X 508 3 dL_law_507 rfl rfl ?_
  refine v_sIW X 511 csw_trip ml_L_68 hcs (n1 := 8) rfl [.ref x1, .int v1, .int v2, .ref x3] rfl rfl rfl dL_law_508 rfl (fun r M1 h => c_L_trip _ hl0 _ _ _ _ _ _ _ h) (fun r3 M4 => ?_)
  have hcs := hcs9
  refine v_istore (lv' := [(0, .ref (sB + 300)), (1, .ref x1), (2, .ref x2), (3, .ref x3), (4, .int x4), (5, .int r3)]) X 513 dL_law_511 (by decide) rfl rfl ?_
  refine v_aload_n X 514 2 dL_law_513 rfl rfl ?_
  refine v_aload_n X 515 0 dL_law_514 rfl rfl ?_
  refine v_iload X 517 4 dL_law_515 rfl rfl ?_
  refine v_iconst X 518 dL_law_517 ik_1 rfl ?_
  refine v_iadd X 519 dL_law_518 rfl ?_
  refine v_sld X 520 S dL_law_519 rfl (fun v5 => ?_)
  refine v_aload_n X 521 0 dL_law_520 rfl rfl ?_
  refine v_iload X 523 4 dL_law_521 rfl rfl ?_
  refine v_iconst X 524 dL_law_523 ik_2 rfl ?_
  refine v_iadd X 525 dL_law_524 rfl ?_
  refine v_sld X 526 S dL_law_525 rfl (fun v6 => ?_)
  refine v_wI X 529 cv_X12_trip ml_L_70 hcs (n1 := 5) rfl [.int v5, .int v6] rfl rfl rfl dL_law_526 rfl (fun r M1 h => c_X12_trip _ _ _ _ _ _ _ h) (fun r7 M8 => ?_)
  refine v_istore (lv' := [(0, .ref (sB + 300)), (1, .ref x1), (2, .ref x2), (3, .ref x3), (4, .int x4), (5, .int r3), (6, .int r7)]) X 531 dL_law_529 (by decide) rfl rfl ?_
  refine v_aload_n X 532 2 dL_law_531 rfl rfl ?_
  refine v_wI X 535 cv_X12_thrown ml_L_62 hcs (n1 := 1) rfl [] rfl rfl rfl dL_law_532 rfl (fun r M1 h => c_X12_thrown _ _ _ _ _ h) (fun r9 M10 => ?_)
  refine v_iload X 537 5 dL_law_535 rfl rfl ?_
  refine v_iceq X 540 542 dL_law_537 rfl rfl ?_ ?_
  · refine v_iload X 544 5 dL_law_542 rfl rfl ?_
    refine v_ifne X 547 559 dL_law_544 rfl rfl ?_ ?_
    · refine v_goto X 1687 dL_law_559 rfl ?_
      exact v_sb [0, 1, 2, 3, 4] (hK _) rfl
    · refine v_aload_n X 548 3 dL_law_547 rfl rfl ?_
      refine v_iconst X 549 dL_law_548 ik_0 rfl ?_
      refine v_lald X 550 dL_law_549 rfl (fun v11 => ?_)
      refine v_iload X 552 6 dL_law_550 rfl rfl ?_
      refine v_i2l X 553 dL_law_552 rfl ?_
      refine v_lcmp X 554 dL_law_553 rfl ?_
      refine v_ifeq X 557 559 dL_law_554 rfl rfl ?_ ?_
      · refine v_goto X 1687 dL_law_559 rfl ?_
        exact v_sb [0, 1, 2, 3, 4] (hK _) rfl
      · exact v_none
  · exact v_none

def g_L_9 (L : Nat) (xs : Nat → Int32) (x1 x2 x3 : Nat) (x4 : Int32) (K : MM → Option (Int32 × MM)) (M : MM) : Option (Int32 × MM) :=
    b1 (scr L xs (x4 + (1 : Int32))) fun v1 =>
    b1 (scr L xs (x4 + (2 : Int32))) fun v2 =>
    b1 (scr L xs (x4 + (3 : Int32))) fun v3 =>
    b2 (f_X11_wish x1 v1 v2 v3 M) fun r4 M5 =>
    b1 (scr L xs (x4 + (1 : Int32))) fun v6 =>
    b1 (scr L xs (x4 + (2 : Int32))) fun v7 =>
    b1 (scr L xs (x4 + (3 : Int32))) fun v8 =>
    b2 (f_X12_wish x2 v6 v7 v8 M5) fun r9 M10 =>
    if r4 = r9 then
      K M10
    else
      none
set_option maxRecDepth 4000 in
theorem L_L_9 {G : Gx} (X : Cb G cL_law 8 RL room_1 false) {L : Nat} {xs : Nat → Int32} (S : SX G L xs) (hl0 : G.1.2.1.stackTraces = false) {c s : Nat} (hcs9 : csL (c + 1) (s + 6)) (x1 x2 x3 : Nat) (x4 : Int32) {K : MM → Option (Int32 × MM)} (hK : ∀ M, V G trI 8 (c + 1) (s + 6) 1687 [(0, .ref (sB + 300)), (1, .ref x1), (2, .ref x2), (3, .ref x3), (4, .int x4)] [] M (K M)) (M : MM) : V G trI 8 c s 562 [(0, .ref (sB + 300)), (1, .ref x1), (2, .ref x2), (3, .ref x3), (4, .int x4)] [] M (g_L_9 L xs x1 x2 x3 x4 K M) := by
  unfold g_L_9
  have hcs := csL_dn hcs9
  refine v_aload_n X 563 1 dL_law_562 rfl rfl ?_
  refine v_aload_n X 564 0 dL_law_563 rfl rfl ?_
  refine v_iload X 566 4 dL_law_564 rfl rfl ?_
  refine v_iconst X 567 dL_law_566 ik_1 rfl ?_
  refine v_iadd X 568 dL_law_567 rfl ?_
  refine v_sld X 569 S dL_law_568 rfl (fun v1 => ?_)
  refine v_aload_n X 570 0 dL_law_569 rfl rfl ?_
  refine v_iload X 572 4 dL_law_570 rfl rfl ?_
  refine v_iconst X 573 dL_law_572 ik_2 rfl ?_
  refine v_iadd X 574 dL_law_573 rfl ?_
  refine v_sld X 575 S dL_law_574 rfl (fun v2 => ?_)
  refine v_aload_n X 576 0 dL_law_575 rfl rfl ?_
  refine v_iload X 578 4 dL_law_576 rfl rfl ?_
  refine v_iconst X 579 dL_law_578 ik_3 rfl ?_
  refine v_iadd X 580 dL_law_579 rfl ?_
  refine v_sld X 581 S dL_law_580 rfl (fun v3 => ?_)
  refine v_wI X 584 cv_X11_wish ml_L_71 hcs (n1 := 3) rfl [.int v1, .int v2, .int v3] rfl rfl rfl dL_law_581 rfl (fun r M1 h => c_X11_wish _ _ _ _ _ _ _ _ h) (fun r4 M5 => ?_)
  refine v_aload_n X 585 2 dL_law_584 rfl rfl ?_
  refine v_aload_n X 586 0 dL_law_585 rfl rfl ?_
  refine v_iload X 588 4 dL_law_586 rfl rfl ?_
  refine v_iconst X 589 dL_law_588 ik_1 rfl ?_
  refine v_iadd X 590 dL_law_589 rfl ?_
  refine v_sld X 591 S dL_law_590 rfl (fun v6 => ?_)
  refine v_aload_n X 592 0 dL_law_591 rfl rfl ?_
  refine v_iload X 594 4 dL_law_592 rfl rfl ?_
  refine v_iconst X 595 dL_law_594 ik_2 rfl ?_
  refine v_iadd X 596 dL_law_595 rfl ?_
  refine v_sld X 597 S dL_law_596 rfl (fun v7 => ?_)
  refine v_aload_n X 598 0 dL_law_597 rfl rfl ?_
  refine v_iload X 600 4 dL_law_598 rfl rfl ?_
  refine v_iconst X 601 dL_law_600 ik_3 rfl ?_
  refine v_iadd X 602 dL_law_601 rfl ?_
  refine v_sld X 603 S dL_law_602 rfl (fun v8 => ?_)
  refine v_wI X 606 cv_X12_wish ml_L_75 hcs (n1 := 3) rfl [.int v6, .int v7, .int v8] rfl rfl rfl dL_law_603 rfl (fun r M1 h => c_X12_wish _ _ _ _ _ _ _ _ h) (fun r9 M10 => ?_)
  refine v_iceq X 609 1687 dL_law_606 rfl rfl ?_ ?_
  · exact v_wd (c + 1) (s + 6) (Nat.le_add_right _ _) (Nat.le_add_right _ _) (hK _)
  · exact v_none

def g_L_10 (L : Nat) (xs : Nat → Int32) (x1 x2 x3 : Nat) (x4 : Int32) (K : MM → Option (Int32 × MM)) (M : MM) : Option (Int32 × MM) :=
    b1 (scr L xs (x4 + (1 : Int32))) fun v1 =>
    b2 (f_X11_train x1 v1 M) fun r2 M3 =>
    b1 (scr L xs (x4 + (1 : Int32))) fun v4 =>
    b2 (f_X12_train x2 v4 M3) fun r5 M6 =>
    if r2 = r5 then
      K M6
    else
      none
set_option maxRecDepth 4000 in
theorem L_L_10 {G : Gx} (X : Cb G cL_law 8 RL room_1 false) {L : Nat} {xs : Nat → Int32} (S : SX G L xs) (hl0 : G.1.2.1.stackTraces = false) {c s : Nat} (hcs9 : csL (c + 1) (s + 6)) (x1 x2 x3 : Nat) (x4 : Int32) {K : MM → Option (Int32 × MM)} (hK : ∀ M, V G trI 8 (c + 1) (s + 6) 1687 [(0, .ref (sB + 300)), (1, .ref x1), (2, .ref x2), (3, .ref x3), (4, .int x4)] [] M (K M)) (M : MM) : V G trI 8 c s 611 [(0, .ref (sB + 300)), (1, .ref x1), (2, .ref x2), (3, .ref x3), (4, .int x4)] [] M (g_L_10 L xs x1 x2 x3 x4 K M) := by
  unfold g_L_10
  have hcs := csL_dn hcs9
  refine v_aload_n X 612 1 dL_law_611 rfl rfl ?_
  refine v_aload_n X 613 0 dL_law_612 rfl rfl ?_
  refine v_iload X 615 4 dL_law_613 rfl rfl ?_
  refine v_iconst X 616 dL_law_615 ik_1 rfl ?_
  refine v_iadd X 617 dL_law_616 rfl ?_
  refine v_sld X 618 S dL_law_617 rfl (fun v1 => ?_)
  refine v_wI X 621 cv_X11_train ml_L_76 hcs (n1 := 1) rfl [.int v1] rfl rfl rfl dL_law_618 rfl (fun r M1 h => c_X11_train _ _ _ _ _ _ h) (fun r2 M3 => ?_)
  refine v_aload_n X 622 2 dL_law_621 rfl rfl ?_
  refine v_aload_n X 623 0 dL_law_622 rfl rfl ?_
  refine v_iload X 625 4 dL_law_623 rfl rfl ?_
  refine v_iconst X 626 dL_law_625 ik_1 rfl ?_
  refine v_iadd X 627 dL_law_626 rfl ?_
  refine v_sld X 628 S dL_law_627 rfl (fun v4 => ?_)
  refine v_wI X 631 cv_X12_train ml_L_79 hcs (n1 := 2) rfl [.int v4] rfl rfl rfl dL_law_628 rfl (fun r M1 h => c_X12_train _ _ _ _ _ _ h) (fun r5 M6 => ?_)
  refine v_iceq X 634 1687 dL_law_631 rfl rfl ?_ ?_
  · exact v_wd (c + 1) (s + 6) (Nat.le_add_right _ _) (Nat.le_add_right _ _) (hK _)
  · exact v_none

def g_L_11 (L : Nat) (xs : Nat → Int32) (x1 x2 x3 : Nat) (x4 : Int32) (K : MM → Option (Int32 × MM)) (M : MM) : Option (Int32 × MM) :=
    b1 (scr L xs (x4 + (1 : Int32))) fun v1 =>
    b1 (scr L xs (x4 + (2 : Int32))) fun v2 =>
    b1 (scr L xs (x4 + (3 : Int32))) fun v3 =>
    b1 (scr L xs (x4 + (4 : Int32))) fun v4 =>
    b2 (f_X11_sheet x1 v1 v2 v3 v4 M) fun r5 M6 =>
    b1 (scr L xs (x4 + (1 : Int32))) fun v7 =>
    b1 (scr L xs (x4 + (2 : Int32))) fun v8 =>
    b1 (scr L xs (x4 + (3 : Int32))) fun v9 =>
    b1 (scr L xs (x4 + (4 : Int32))) fun v10 =>
    b2 (f_X12_sheet x2 v7 v8 v9 v10 M6) fun r11 M12 =>
    if r5 = r11 then
      K M12
    else
      none
set_option maxRecDepth 4000 in
theorem L_L_11 {G : Gx} (X : Cb G cL_law 8 RL room_1 false) {L : Nat} {xs : Nat → Int32} (S : SX G L xs) (hl0 : G.1.2.1.stackTraces = false) {c s : Nat} (hcs9 : csL (c + 1) (s + 6)) (x1 x2 x3 : Nat) (x4 : Int32) {K : MM → Option (Int32 × MM)} (hK : ∀ M, V G trI 8 (c + 1) (s + 6) 1687 [(0, .ref (sB + 300)), (1, .ref x1), (2, .ref x2), (3, .ref x3), (4, .int x4)] [] M (K M)) (M : MM) : V G trI 8 c s 636 [(0, .ref (sB + 300)), (1, .ref x1), (2, .ref x2), (3, .ref x3), (4, .int x4)] [] M (g_L_11 L xs x1 x2 x3 x4 K M) := by
  unfold g_L_11
  have hcs := csL_dn hcs9
  refine v_aload_n X 637 1 dL_law_636 rfl rfl ?_
  refine v_aload_n X 638 0 dL_law_637 rfl rfl ?_
  refine v_iload X 640 4 dL_law_638 rfl rfl ?_
  refine v_iconst X 641 dL_law_640 ik_1 rfl ?_
  refine v_iadd X 642 dL_law_641 rfl ?_
  refine v_sld X 643 S dL_law_642 rfl (fun v1 => ?_)
  refine v_aload_n X 644 0 dL_law_643 rfl rfl ?_
  refine v_iload X 646 4 dL_law_644 rfl rfl ?_
  refine v_iconst X 647 dL_law_646 ik_2 rfl ?_
  refine v_iadd X 648 dL_law_647 rfl ?_
  refine v_sld X 649 S dL_law_648 rfl (fun v2 => ?_)
  refine v_aload_n X 650 0 dL_law_649 rfl rfl ?_
  refine v_iload X 652 4 dL_law_650 rfl rfl ?_
  refine v_iconst X 653 dL_law_652 ik_3 rfl ?_
  refine v_iadd X 654 dL_law_653 rfl ?_
  refine v_sld X 655 S dL_law_654 rfl (fun v3 => ?_)
  refine v_aload_n X 656 0 dL_law_655 rfl rfl ?_
  refine v_iload X 658 4 dL_law_656 rfl rfl ?_
  refine v_iconst X 659 dL_law_658 ik_4 rfl ?_
  refine v_iadd X 660 dL_law_659 rfl ?_
  refine v_sld X 661 S dL_law_660 rfl (fun v4 => ?_)
  refine v_wI X 664 cv_X11_sheet ml_L_80 hcs (n1 := 3) rfl [.int v1, .int v2, .int v3, .int v4] rfl rfl rfl dL_law_661 rfl (fun r M1 h => c_X11_sheet _ _ _ _ _ _ _ _ _ h) (fun r5 M6 => ?_)
  refine v_aload_n X 665 2 dL_law_664 rfl rfl ?_
  refine v_aload_n X 666 0 dL_law_665 rfl rfl ?_
  refine v_iload X 668 4 dL_law_666 rfl rfl ?_
  refine v_iconst X 669 dL_law_668 ik_1 rfl ?_
  refine v_iadd X 670 dL_law_669 rfl ?_
  refine v_sld X 671 S dL_law_670 rfl (fun v7 => ?_)
  refine v_aload_n X 672 0 dL_law_671 rfl rfl ?_
  refine v_iload X 674 4 dL_law_672 rfl rfl ?_
  refine v_iconst X 675 dL_law_674 ik_2 rfl ?_
  refine v_iadd X 676 dL_law_675 rfl ?_
  refine v_sld X 677 S dL_law_676 rfl (fun v8 => ?_)
  refine v_aload_n X 678 0 dL_law_677 rfl rfl ?_
  refine v_iload X 680 4 dL_law_678 rfl rfl ?_
  refine v_iconst X 681 dL_law_680 ik_3 rfl ?_
  refine v_iadd X 682 dL_law_681 rfl ?_
  refine v_sld X 683 S dL_law_682 rfl (fun v9 => ?_)
  refine v_aload_n X 684 0 dL_law_683 rfl rfl ?_
  refine v_iload X 686 4 dL_law_684 rfl rfl ?_
  refine v_iconst X 687 dL_law_686 ik_4 rfl ?_
  refine v_iadd X 688 dL_law_687 rfl ?_
  refine v_sld X 689 S dL_law_688 rfl (fun v10 => ?_)
  refine v_wI X 692 cv_X12_sheet ml_L_84 hcs (n1 := 2) rfl [.int v7, .int v8, .int v9, .int v10] rfl rfl rfl dL_law_689 rfl (fun r M1 h => c_X12_sheet _ _ _ _ _ _ _ _ _ h) (fun r11 M12 => ?_)
  refine v_iceq X 695 1687 dL_law_692 rfl rfl ?_ ?_
  · exact v_wd (c + 1) (s + 6) (Nat.le_add_right _ _) (Nat.le_add_right _ _) (hK _)
  · exact v_none

def g_L_12 (L : Nat) (xs : Nat → Int32) (x1 x2 x3 : Nat) (x4 : Int32) (K : MM → Option (Int32 × MM)) (M : MM) : Option (Int32 × MM) :=
    b1 (scr L xs (x4 + (1 : Int32))) fun v1 =>
    b1 (scr L xs (x4 + (2 : Int32))) fun v2 =>
    b1 (scr L xs (x4 + (3 : Int32))) fun v3 =>
    b2 (f_X11_may x1 v1 v2 v3 M) fun r4 M5 =>
    b1 (scr L xs (x4 + (1 : Int32))) fun v6 =>
    b1 (scr L xs (x4 + (2 : Int32))) fun v7 =>
    b1 (scr L xs (x4 + (3 : Int32))) fun v8 =>
    b2 (f_X12_may x2 v6 v7 v8 M5) fun r9 M10 =>
    if r4 = r9 then
      K M10
    else
      none
set_option maxRecDepth 4000 in
theorem L_L_12 {G : Gx} (X : Cb G cL_law 8 RL room_1 false) {L : Nat} {xs : Nat → Int32} (S : SX G L xs) (hl0 : G.1.2.1.stackTraces = false) {c s : Nat} (hcs9 : csL (c + 1) (s + 6)) (x1 x2 x3 : Nat) (x4 : Int32) {K : MM → Option (Int32 × MM)} (hK : ∀ M, V G trI 8 (c + 1) (s + 6) 1687 [(0, .ref (sB + 300)), (1, .ref x1), (2, .ref x2), (3, .ref x3), (4, .int x4)] [] M (K M)) (M : MM) : V G trI 8 c s 697 [(0, .ref (sB + 300)), (1, .ref x1), (2, .ref x2), (3, .ref x3), (4, .int x4)] [] M (g_L_12 L xs x1 x2 x3 x4 K M) := by
  unfold g_L_12
  have hcs := csL_dn hcs9
  refine v_aload_n X 698 1 dL_law_697 rfl rfl ?_
  refine v_aload_n X 699 0 dL_law_698 rfl rfl ?_
  refine v_iload X 701 4 dL_law_699 rfl rfl ?_
  refine v_iconst X 702 dL_law_701 ik_1 rfl ?_
  refine v_iadd X 703 dL_law_702 rfl ?_
  refine v_sld X 704 S dL_law_703 rfl (fun v1 => ?_)
  refine v_aload_n X 705 0 dL_law_704 rfl rfl ?_
  refine v_iload X 707 4 dL_law_705 rfl rfl ?_
  refine v_iconst X 708 dL_law_707 ik_2 rfl ?_
  refine v_iadd X 709 dL_law_708 rfl ?_
  refine v_sld X 710 S dL_law_709 rfl (fun v2 => ?_)
  refine v_aload_n X 711 0 dL_law_710 rfl rfl ?_
  refine v_iload X 713 4 dL_law_711 rfl rfl ?_
  refine v_iconst X 714 dL_law_713 ik_3 rfl ?_
  refine v_iadd X 715 dL_law_714 rfl ?_
  refine v_sld X 716 S dL_law_715 rfl (fun v3 => ?_)
  refine v_wI X 719 cv_X11_may ml_L_85 hcs (n1 := 5) rfl [.int v1, .int v2, .int v3] rfl rfl rfl dL_law_716 rfl (fun r M1 h => c_X11_may _ _ _ _ _ _ _ _ h) (fun r4 M5 => ?_)
  refine v_aload_n X 720 2 dL_law_719 rfl rfl ?_
  refine v_aload_n X 721 0 dL_law_720 rfl rfl ?_
  refine v_iload X 723 4 dL_law_721 rfl rfl ?_
  refine v_iconst X 724 dL_law_723 ik_1 rfl ?_
  refine v_iadd X 725 dL_law_724 rfl ?_
  refine v_sld X 726 S dL_law_725 rfl (fun v6 => ?_)
  refine v_aload_n X 727 0 dL_law_726 rfl rfl ?_
  refine v_iload X 729 4 dL_law_727 rfl rfl ?_
  refine v_iconst X 730 dL_law_729 ik_2 rfl ?_
  refine v_iadd X 731 dL_law_730 rfl ?_
  refine v_sld X 732 S dL_law_731 rfl (fun v7 => ?_)
  refine v_aload_n X 733 0 dL_law_732 rfl rfl ?_
  refine v_iload X 735 4 dL_law_733 rfl rfl ?_
  refine v_iconst X 736 dL_law_735 ik_3 rfl ?_
  refine v_iadd X 737 dL_law_736 rfl ?_
  refine v_sld X 738 S dL_law_737 rfl (fun v8 => ?_)
  refine v_wI X 741 cv_X12_may ml_L_88 hcs (n1 := 8) rfl [.int v6, .int v7, .int v8] rfl rfl rfl dL_law_738 rfl (fun r M1 h => c_X12_may _ _ _ _ _ _ _ _ h) (fun r9 M10 => ?_)
  refine v_iceq X 744 1687 dL_law_741 rfl rfl ?_ ?_
  · exact v_wd (c + 1) (s + 6) (Nat.le_add_right _ _) (Nat.le_add_right _ _) (hK _)
  · exact v_none

def g_L_13 (L : Nat) (xs : Nat → Int32) (x1 x2 x3 : Nat) (x4 : Int32) (K : MM → Option (Int32 × MM)) (M : MM) : Option (Int32 × MM) :=
    b1 (scr L xs (x4 + (1 : Int32))) fun v1 =>
    b1 (scr L xs (x4 + (2 : Int32))) fun v2 =>
    b1 (scr L xs (x4 + (3 : Int32))) fun v3 =>
    b2 (f_X11_go x1 v1 v2 v3 M) fun r4 M5 =>
    b1 (scr L xs (x4 + (1 : Int32))) fun v6 =>
    b1 (scr L xs (x4 + (2 : Int32))) fun v7 =>
    b1 (scr L xs (x4 + (3 : Int32))) fun v8 =>
    b2 (f_X12_go x2 v6 v7 v8 M5) fun r9 M10 =>
    if r4 = r9 then
      K M10
    else
      none
set_option maxRecDepth 4000 in
theorem L_L_13 {G : Gx} (X : Cb G cL_law 8 RL room_1 false) {L : Nat} {xs : Nat → Int32} (S : SX G L xs) (hl0 : G.1.2.1.stackTraces = false) {c s : Nat} (hcs9 : csL (c + 1) (s + 6)) (x1 x2 x3 : Nat) (x4 : Int32) {K : MM → Option (Int32 × MM)} (hK : ∀ M, V G trI 8 (c + 1) (s + 6) 1687 [(0, .ref (sB + 300)), (1, .ref x1), (2, .ref x2), (3, .ref x3), (4, .int x4)] [] M (K M)) (M : MM) : V G trI 8 c s 746 [(0, .ref (sB + 300)), (1, .ref x1), (2, .ref x2), (3, .ref x3), (4, .int x4)] [] M (g_L_13 L xs x1 x2 x3 x4 K M) := by
  unfold g_L_13
  have hcs := csL_dn hcs9
  refine v_aload_n X 747 1 dL_law_746 rfl rfl ?_
  refine v_aload_n X 748 0 dL_law_747 rfl rfl ?_
  refine v_iload X 750 4 dL_law_748 rfl rfl ?_
  refine v_iconst X 751 dL_law_750 ik_1 rfl ?_
  refine v_iadd X 752 dL_law_751 rfl ?_
  refine v_sld X 753 S dL_law_752 rfl (fun v1 => ?_)
  refine v_aload_n X 754 0 dL_law_753 rfl rfl ?_
  refine v_iload X 756 4 dL_law_754 rfl rfl ?_
  refine v_iconst X 757 dL_law_756 ik_2 rfl ?_
  refine v_iadd X 758 dL_law_757 rfl ?_
  refine v_sld X 759 S dL_law_758 rfl (fun v2 => ?_)
  refine v_aload_n X 760 0 dL_law_759 rfl rfl ?_
  refine v_iload X 762 4 dL_law_760 rfl rfl ?_
  refine v_iconst X 763 dL_law_762 ik_3 rfl ?_
  refine v_iadd X 764 dL_law_763 rfl ?_
  refine v_sld X 765 S dL_law_764 rfl (fun v3 => ?_)
  refine v_wI X 768 cv_X11_go ml_L_89 hcs (n1 := 6) rfl [.int v1, .int v2, .int v3] rfl rfl rfl dL_law_765 rfl (fun r M1 h => c_X11_go _ _ _ _ _ _ _ _ h) (fun r4 M5 => ?_)
  refine v_aload_n X 769 2 dL_law_768 rfl rfl ?_
  refine v_aload_n X 770 0 dL_law_769 rfl rfl ?_
  refine v_iload X 772 4 dL_law_770 rfl rfl ?_
  refine v_iconst X 773 dL_law_772 ik_1 rfl ?_
  refine v_iadd X 774 dL_law_773 rfl ?_
  refine v_sld X 775 S dL_law_774 rfl (fun v6 => ?_)
  refine v_aload_n X 776 0 dL_law_775 rfl rfl ?_
  refine v_iload X 778 4 dL_law_776 rfl rfl ?_
  refine v_iconst X 779 dL_law_778 ik_2 rfl ?_
  refine v_iadd X 780 dL_law_779 rfl ?_
  refine v_sld X 781 S dL_law_780 rfl (fun v7 => ?_)
  refine v_aload_n X 782 0 dL_law_781 rfl rfl ?_
  refine v_iload X 784 4 dL_law_782 rfl rfl ?_
  refine v_iconst X 785 dL_law_784 ik_3 rfl ?_
  refine v_iadd X 786 dL_law_785 rfl ?_
  refine v_sld X 787 S dL_law_786 rfl (fun v8 => ?_)
  refine v_wI X 790 cv_X12_go ml_L_92 hcs (n1 := 9) rfl [.int v6, .int v7, .int v8] rfl rfl rfl dL_law_787 rfl (fun r M1 h => c_X12_go _ _ _ _ _ _ _ _ h) (fun r9 M10 => ?_)
  refine v_iceq X 793 1687 dL_law_790 rfl rfl ?_ ?_
  · exact v_wd (c + 1) (s + 6) (Nat.le_add_right _ _) (Nat.le_add_right _ _) (hK _)
  · exact v_none

def g_L_14 (L : Nat) (xs : Nat → Int32) (x1 x2 x3 : Nat) (x4 : Int32) (K : MM → Option (Int32 × MM)) (M : MM) : Option (Int32 × MM) :=
    b1 (scr L xs (x4 + (1 : Int32))) fun v1 =>
    b1 (scr L xs (x4 + (2 : Int32))) fun v2 =>
    b1 (scr L xs (x4 + (3 : Int32))) fun v3 =>
    b1 (scr L xs (x4 + (4 : Int32))) fun v4 =>
    b2 (f_X11_pair x1 v1 v2 v3 v4 M) fun r5 M6 =>
    b1 (scr L xs (x4 + (1 : Int32))) fun v7 =>
    b1 (scr L xs (x4 + (2 : Int32))) fun v8 =>
    b1 (scr L xs (x4 + (3 : Int32))) fun v9 =>
    b1 (scr L xs (x4 + (4 : Int32))) fun v10 =>
    b2 (f_X12_pair x2 v7 v8 v9 v10 M6) fun r11 M12 =>
    if r5 = r11 then
      K M12
    else
      none
set_option maxRecDepth 4000 in
theorem L_L_14 {G : Gx} (X : Cb G cL_law 8 RL room_1 false) {L : Nat} {xs : Nat → Int32} (S : SX G L xs) (hl0 : G.1.2.1.stackTraces = false) {c s : Nat} (hcs9 : csL (c + 1) (s + 6)) (x1 x2 x3 : Nat) (x4 : Int32) {K : MM → Option (Int32 × MM)} (hK : ∀ M, V G trI 8 (c + 1) (s + 6) 1687 [(0, .ref (sB + 300)), (1, .ref x1), (2, .ref x2), (3, .ref x3), (4, .int x4)] [] M (K M)) (M : MM) : V G trI 8 c s 795 [(0, .ref (sB + 300)), (1, .ref x1), (2, .ref x2), (3, .ref x3), (4, .int x4)] [] M (g_L_14 L xs x1 x2 x3 x4 K M) := by
  unfold g_L_14
  have hcs := csL_dn hcs9
  refine v_aload_n X 796 1 dL_law_795 rfl rfl ?_
  refine v_aload_n X 797 0 dL_law_796 rfl rfl ?_
  refine v_iload X 799 4 dL_law_797 rfl rfl ?_
  refine v_iconst X 800 dL_law_799 ik_1 rfl ?_
  refine v_iadd X 801 dL_law_800 rfl ?_
  refine v_sld X 802 S dL_law_801 rfl (fun v1 => ?_)
  refine v_aload_n X 803 0 dL_law_802 rfl rfl ?_
  refine v_iload X 805 4 dL_law_803 rfl rfl ?_
  refine v_iconst X 806 dL_law_805 ik_2 rfl ?_
  refine v_iadd X 807 dL_law_806 rfl ?_
  refine v_sld X 808 S dL_law_807 rfl (fun v2 => ?_)
  refine v_aload_n X 809 0 dL_law_808 rfl rfl ?_
  refine v_iload X 811 4 dL_law_809 rfl rfl ?_
  refine v_iconst X 812 dL_law_811 ik_3 rfl ?_
  refine v_iadd X 813 dL_law_812 rfl ?_
  refine v_sld X 814 S dL_law_813 rfl (fun v3 => ?_)
  refine v_aload_n X 815 0 dL_law_814 rfl rfl ?_
  refine v_iload X 817 4 dL_law_815 rfl rfl ?_
  refine v_iconst X 818 dL_law_817 ik_4 rfl ?_
  refine v_iadd X 819 dL_law_818 rfl ?_
  refine v_sld X 820 S dL_law_819 rfl (fun v4 => ?_)
  refine v_wI X 823 cv_X11_pair ml_L_93 hcs (n1 := 5) rfl [.int v1, .int v2, .int v3, .int v4] rfl rfl rfl dL_law_820 rfl (fun r M1 h => c_X11_pair _ _ _ _ _ _ _ _ _ h) (fun r5 M6 => ?_)
  refine v_aload_n X 824 2 dL_law_823 rfl rfl ?_
  refine v_aload_n X 825 0 dL_law_824 rfl rfl ?_
  refine v_iload X 827 4 dL_law_825 rfl rfl ?_
  refine v_iconst X 828 dL_law_827 ik_1 rfl ?_
  refine v_iadd X 829 dL_law_828 rfl ?_
  refine v_sld X 830 S dL_law_829 rfl (fun v7 => ?_)
  refine v_aload_n X 831 0 dL_law_830 rfl rfl ?_
  refine v_iload X 833 4 dL_law_831 rfl rfl ?_
  refine v_iconst X 834 dL_law_833 ik_2 rfl ?_
  refine v_iadd X 835 dL_law_834 rfl ?_
  refine v_sld X 836 S dL_law_835 rfl (fun v8 => ?_)
  refine v_aload_n X 837 0 dL_law_836 rfl rfl ?_
  refine v_iload X 839 4 dL_law_837 rfl rfl ?_
  refine v_iconst X 840 dL_law_839 ik_3 rfl ?_
  refine v_iadd X 841 dL_law_840 rfl ?_
  refine v_sld X 842 S dL_law_841 rfl (fun v9 => ?_)
  refine v_aload_n X 843 0 dL_law_842 rfl rfl ?_
  refine v_iload X 845 4 dL_law_843 rfl rfl ?_
  refine v_iconst X 846 dL_law_845 ik_4 rfl ?_
  refine v_iadd X 847 dL_law_846 rfl ?_
  refine v_sld X 848 S dL_law_847 rfl (fun v10 => ?_)
  refine v_wI X 851 cv_X12_pair ml_L_96 hcs (n1 := 7) rfl [.int v7, .int v8, .int v9, .int v10] rfl rfl rfl dL_law_848 rfl (fun r M1 h => c_X12_pair _ _ _ _ _ _ _ _ _ h) (fun r11 M12 => ?_)
  refine v_iceq X 854 1687 dL_law_851 rfl rfl ?_ ?_
  · exact v_wd (c + 1) (s + 6) (Nat.le_add_right _ _) (Nat.le_add_right _ _) (hK _)
  · exact v_none

def g_L_15 (L : Nat) (xs : Nat → Int32) (x1 x2 x3 : Nat) (x4 : Int32) (K : MM → Option (Int32 × MM)) (M : MM) : Option (Int32 × MM) :=
    b1 (scr L xs (x4 + (1 : Int32))) fun v1 =>
    b2 (f_X11_strike x1 v1 M) fun r2 M3 =>
    b1 (scr L xs (x4 + (1 : Int32))) fun v4 =>
    b2 (f_X12_strike x2 v4 M3) fun r5 M6 =>
    if r2 = r5 then
      K M6
    else
      none
set_option maxRecDepth 4000 in
theorem L_L_15 {G : Gx} (X : Cb G cL_law 8 RL room_1 false) {L : Nat} {xs : Nat → Int32} (S : SX G L xs) (hl0 : G.1.2.1.stackTraces = false) {c s : Nat} (hcs9 : csL (c + 1) (s + 6)) (x1 x2 x3 : Nat) (x4 : Int32) {K : MM → Option (Int32 × MM)} (hK : ∀ M, V G trI 8 (c + 1) (s + 6) 1687 [(0, .ref (sB + 300)), (1, .ref x1), (2, .ref x2), (3, .ref x3), (4, .int x4)] [] M (K M)) (M : MM) : V G trI 8 c s 856 [(0, .ref (sB + 300)), (1, .ref x1), (2, .ref x2), (3, .ref x3), (4, .int x4)] [] M (g_L_15 L xs x1 x2 x3 x4 K M) := by
  unfold g_L_15
  have hcs := csL_dn hcs9
  refine v_aload_n X 857 1 dL_law_856 rfl rfl ?_
  refine v_aload_n X 858 0 dL_law_857 rfl rfl ?_
  refine v_iload X 860 4 dL_law_858 rfl rfl ?_
  refine v_iconst X 861 dL_law_860 ik_1 rfl ?_
  refine v_iadd X 862 dL_law_861 rfl ?_
  refine v_sld X 863 S dL_law_862 rfl (fun v1 => ?_)
  refine v_wI X 866 cv_X11_strike ml_L_97 hcs (n1 := 4) rfl [.int v1] rfl rfl rfl dL_law_863 rfl (fun r M1 h => c_X11_strike _ _ _ _ _ _ h) (fun r2 M3 => ?_)
  refine v_aload_n X 867 2 dL_law_866 rfl rfl ?_
  refine v_aload_n X 868 0 dL_law_867 rfl rfl ?_
  refine v_iload X 870 4 dL_law_868 rfl rfl ?_
  refine v_iconst X 871 dL_law_870 ik_1 rfl ?_
  refine v_iadd X 872 dL_law_871 rfl ?_
  refine v_sld X 873 S dL_law_872 rfl (fun v4 => ?_)
  refine v_wI X 876 cv_X12_strike ml_L_100 hcs (n1 := 4) rfl [.int v4] rfl rfl rfl dL_law_873 rfl (fun r M1 h => c_X12_strike _ _ _ _ _ _ h) (fun r5 M6 => ?_)
  refine v_iceq X 879 1687 dL_law_876 rfl rfl ?_ ?_
  · exact v_wd (c + 1) (s + 6) (Nat.le_add_right _ _) (Nat.le_add_right _ _) (hK _)
  · exact v_none

def g_L_16 (L : Nat) (xs : Nat → Int32) (x1 x2 x3 : Nat) (x4 : Int32) (K : MM → Option (Int32 × MM)) (M : MM) : Option (Int32 × MM) :=
    b1 (scr L xs (x4 + (1 : Int32))) fun v1 =>
    b1 (scr L xs (x4 + (2 : Int32))) fun v2 =>
    b2 (f_X11_shift x1 v1 v2 M) fun r3 M4 =>
    b1 (scr L xs (x4 + (1 : Int32))) fun v5 =>
    b1 (scr L xs (x4 + (2 : Int32))) fun v6 =>
    b2 (f_X12_shift x2 v5 v6 M4) fun r7 M8 =>
    if r3 = r7 then
      K M8
    else
      none
set_option maxRecDepth 4000 in
theorem L_L_16 {G : Gx} (X : Cb G cL_law 8 RL room_1 false) {L : Nat} {xs : Nat → Int32} (S : SX G L xs) (hl0 : G.1.2.1.stackTraces = false) {c s : Nat} (hcs9 : csL (c + 1) (s + 6)) (x1 x2 x3 : Nat) (x4 : Int32) {K : MM → Option (Int32 × MM)} (hK : ∀ M, V G trI 8 (c + 1) (s + 6) 1687 [(0, .ref (sB + 300)), (1, .ref x1), (2, .ref x2), (3, .ref x3), (4, .int x4)] [] M (K M)) (M : MM) : V G trI 8 c s 881 [(0, .ref (sB + 300)), (1, .ref x1), (2, .ref x2), (3, .ref x3), (4, .int x4)] [] M (g_L_16 L xs x1 x2 x3 x4 K M) := by
  unfold g_L_16
  have hcs := csL_dn hcs9
  refine v_aload_n X 882 1 dL_law_881 rfl rfl ?_
  refine v_aload_n X 883 0 dL_law_882 rfl rfl ?_
  refine v_iload X 885 4 dL_law_883 rfl rfl ?_
  refine v_iconst X 886 dL_law_885 ik_1 rfl ?_
  refine v_iadd X 887 dL_law_886 rfl ?_
  refine v_sld X 888 S dL_law_887 rfl (fun v1 => ?_)
  refine v_aload_n X 889 0 dL_law_888 rfl rfl ?_
  refine v_iload X 891 4 dL_law_889 rfl rfl ?_
  refine v_iconst X 892 dL_law_891 ik_2 rfl ?_
  refine v_iadd X 893 dL_law_892 rfl ?_
  refine v_sld X 894 S dL_law_893 rfl (fun v2 => ?_)
  refine v_wI X 897 cv_X11_shift ml_L_101 hcs (n1 := 6) rfl [.int v1, .int v2] rfl rfl rfl dL_law_894 rfl (fun r M1 h => c_X11_shift _ _ _ _ _ _ _ h) (fun r3 M4 => ?_)
  refine v_aload_n X 898 2 dL_law_897 rfl rfl ?_
  refine v_aload_n X 899 0 dL_law_898 rfl rfl ?_
  refine v_iload X 901 4 dL_law_899 rfl rfl ?_
  refine v_iconst X 902 dL_law_901 ik_1 rfl ?_
  refine v_iadd X 903 dL_law_902 rfl ?_
  refine v_sld X 904 S dL_law_903 rfl (fun v5 => ?_)
  refine v_aload_n X 905 0 dL_law_904 rfl rfl ?_
  refine v_iload X 907 4 dL_law_905 rfl rfl ?_
  refine v_iconst X 908 dL_law_907 ik_2 rfl ?_
  refine v_iadd X 909 dL_law_908 rfl ?_
  refine v_sld X 910 S dL_law_909 rfl (fun v6 => ?_)
  refine v_wI X 913 cv_X12_shift ml_L_104 hcs (n1 := 6) rfl [.int v5, .int v6] rfl rfl rfl dL_law_910 rfl (fun r M1 h => c_X12_shift _ _ _ _ _ _ _ h) (fun r7 M8 => ?_)
  refine v_iceq X 916 1687 dL_law_913 rfl rfl ?_ ?_
  · exact v_wd (c + 1) (s + 6) (Nat.le_add_right _ _) (Nat.le_add_right _ _) (hK _)
  · exact v_none

def g_L_17 (L : Nat) (xs : Nat → Int32) (x1 x2 x3 : Nat) (x4 : Int32) (K : MM → Option (Int32 × MM)) (M : MM) : Option (Int32 × MM) :=
    b2 (f_X11_afternoon x1 M) fun r1 M2 =>
    b2 (f_X12_afternoon x2 M2) fun r3 M4 =>
    if r1 = r3 then
      K M4
    else
      none
set_option maxRecDepth 4000 in
theorem L_L_17 {G : Gx} (X : Cb G cL_law 8 RL room_1 false) {L : Nat} {xs : Nat → Int32} (S : SX G L xs) (hl0 : G.1.2.1.stackTraces = false) {c s : Nat} (hcs9 : csL (c + 1) (s + 6)) (x1 x2 x3 : Nat) (x4 : Int32) {K : MM → Option (Int32 × MM)} (hK : ∀ M, V G trI 8 (c + 1) (s + 6) 1687 [(0, .ref (sB + 300)), (1, .ref x1), (2, .ref x2), (3, .ref x3), (4, .int x4)] [] M (K M)) (M : MM) : V G trI 8 c s 918 [(0, .ref (sB + 300)), (1, .ref x1), (2, .ref x2), (3, .ref x3), (4, .int x4)] [] M (g_L_17 L xs x1 x2 x3 x4 K M) := by
  unfold g_L_17
  have hcs := csL_dn hcs9
  refine v_aload_n X 919 1 dL_law_918 rfl rfl ?_
  refine v_wI X 922 cv_X11_afternoon ml_L_105 hcs (n1 := 7) rfl [] rfl rfl rfl dL_law_919 rfl (fun r M1 h => c_X11_afternoon _ _ _ _ _ h) (fun r1 M2 => ?_)
  refine v_aload_n X 923 2 dL_law_922 rfl rfl ?_
  refine v_wI X 926 cv_X12_afternoon ml_L_108 hcs (n1 := 16) rfl [] rfl rfl rfl dL_law_923 rfl (fun r M1 h => c_X12_afternoon _ _ _ _ _ h) (fun r3 M4 => ?_)
  refine v_iceq X 929 1687 dL_law_926 rfl rfl ?_ ?_
  · exact v_wd (c + 1) (s + 6) (Nat.le_add_right _ _) (Nat.le_add_right _ _) (hK _)
  · exact v_none

def g_L_18 (L : Nat) (xs : Nat → Int32) (x1 x2 x3 : Nat) (x4 : Int32) (K : MM → Option (Int32 × MM)) (M : MM) : Option (Int32 × MM) :=
    b2 (f_X11_undo x1 M) fun r1 M2 =>
    b2 (f_X12_undo x2 M2) fun r3 M4 =>
    if r1 = r3 then
      K M4
    else
      none
set_option maxRecDepth 4000 in
theorem L_L_18 {G : Gx} (X : Cb G cL_law 8 RL room_1 false) {L : Nat} {xs : Nat → Int32} (S : SX G L xs) (hl0 : G.1.2.1.stackTraces = false) {c s : Nat} (hcs9 : csL (c + 1) (s + 6)) (x1 x2 x3 : Nat) (x4 : Int32) {K : MM → Option (Int32 × MM)} (hK : ∀ M, V G trI 8 (c + 1) (s + 6) 1687 [(0, .ref (sB + 300)), (1, .ref x1), (2, .ref x2), (3, .ref x3), (4, .int x4)] [] M (K M)) (M : MM) : V G trI 8 c s 931 [(0, .ref (sB + 300)), (1, .ref x1), (2, .ref x2), (3, .ref x3), (4, .int x4)] [] M (g_L_18 L xs x1 x2 x3 x4 K M) := by
  unfold g_L_18
  have hcs := csL_dn hcs9
  refine v_aload_n X 932 1 dL_law_931 rfl rfl ?_
  refine v_wI X 935 cv_X11_undo ml_L_109 hcs (n1 := 3) rfl [] rfl rfl rfl dL_law_932 rfl (fun r M1 h => c_X11_undo _ _ _ _ _ h) (fun r1 M2 => ?_)
  refine v_aload_n X 936 2 dL_law_935 rfl rfl ?_
  refine v_wI X 939 cv_X12_undo ml_L_112 hcs (n1 := 1) rfl [] rfl rfl rfl dL_law_936 rfl (fun r M1 h => c_X12_undo _ _ _ _ _ h) (fun r3 M4 => ?_)
  refine v_iceq X 942 1687 dL_law_939 rfl rfl ?_ ?_
  · exact v_wd (c + 1) (s + 6) (Nat.le_add_right _ _) (Nat.le_add_right _ _) (hK _)
  · exact v_none

def g_L_19 (L : Nat) (xs : Nat → Int32) (x1 x2 x3 : Nat) (x4 : Int32) (K : MM → Option (Int32 × MM)) (M : MM) : Option (Int32 × MM) :=
    b2 (f_X11_alone x1 M) fun r1 M2 =>
    b2 (f_X12_alone x2 M2) fun r3 M4 =>
    if r1 = r3 then
      K M4
    else
      none
set_option maxRecDepth 4000 in
theorem L_L_19 {G : Gx} (X : Cb G cL_law 8 RL room_1 false) {L : Nat} {xs : Nat → Int32} (S : SX G L xs) (hl0 : G.1.2.1.stackTraces = false) {c s : Nat} (hcs9 : csL (c + 1) (s + 6)) (x1 x2 x3 : Nat) (x4 : Int32) {K : MM → Option (Int32 × MM)} (hK : ∀ M, V G trI 8 (c + 1) (s + 6) 1687 [(0, .ref (sB + 300)), (1, .ref x1), (2, .ref x2), (3, .ref x3), (4, .int x4)] [] M (K M)) (M : MM) : V G trI 8 c s 944 [(0, .ref (sB + 300)), (1, .ref x1), (2, .ref x2), (3, .ref x3), (4, .int x4)] [] M (g_L_19 L xs x1 x2 x3 x4 K M) := by
  unfold g_L_19
  have hcs := csL_dn hcs9
  refine v_aload_n X 945 1 dL_law_944 rfl rfl ?_
  refine v_wI X 948 cv_X11_alone ml_L_113 hcs (n1 := 5) rfl [] rfl rfl rfl dL_law_945 rfl (fun r M1 h => c_X11_alone _ _ _ _ _ h) (fun r1 M2 => ?_)
  refine v_aload_n X 949 2 dL_law_948 rfl rfl ?_
  refine v_wI X 952 cv_X12_alone ml_L_116 hcs (n1 := 6) rfl [] rfl rfl rfl dL_law_949 rfl (fun r M1 h => c_X12_alone _ _ _ _ _ h) (fun r3 M4 => ?_)
  refine v_iceq X 955 1687 dL_law_952 rfl rfl ?_ ?_
  · exact v_wd (c + 1) (s + 6) (Nat.le_add_right _ _) (Nat.le_add_right _ _) (hK _)
  · exact v_none

def g_L_20 (L : Nat) (xs : Nat → Int32) (x1 x2 x3 : Nat) (x4 : Int32) (K : MM → Option (Int32 × MM)) (M : MM) : Option (Int32 × MM) :=
    b1 (scr L xs (x4 + (1 : Int32))) fun v1 =>
    b2 (f_X11_bench x1 v1 M) fun r2 M3 =>
    b1 (scr L xs (x4 + (1 : Int32))) fun v4 =>
    b2 (f_X12_bench x2 v4 M3) fun r5 M6 =>
    if r2 = r5 then
      K M6
    else
      none
set_option maxRecDepth 4000 in
theorem L_L_20 {G : Gx} (X : Cb G cL_law 8 RL room_1 false) {L : Nat} {xs : Nat → Int32} (S : SX G L xs) (hl0 : G.1.2.1.stackTraces = false) {c s : Nat} (hcs9 : csL (c + 1) (s + 6)) (x1 x2 x3 : Nat) (x4 : Int32) {K : MM → Option (Int32 × MM)} (hK : ∀ M, V G trI 8 (c + 1) (s + 6) 1687 [(0, .ref (sB + 300)), (1, .ref x1), (2, .ref x2), (3, .ref x3), (4, .int x4)] [] M (K M)) (M : MM) : V G trI 8 c s 957 [(0, .ref (sB + 300)), (1, .ref x1), (2, .ref x2), (3, .ref x3), (4, .int x4)] [] M (g_L_20 L xs x1 x2 x3 x4 K M) := by
  unfold g_L_20
  have hcs := csL_dn hcs9
  refine v_aload_n X 958 1 dL_law_957 rfl rfl ?_
  refine v_aload_n X 959 0 dL_law_958 rfl rfl ?_
  refine v_iload X 961 4 dL_law_959 rfl rfl ?_
  refine v_iconst X 962 dL_law_961 ik_1 rfl ?_
  refine v_iadd X 963 dL_law_962 rfl ?_
  refine v_sld X 964 S dL_law_963 rfl (fun v1 => ?_)
  refine v_wI X 967 cv_X11_bench ml_L_117 hcs (n1 := 4) rfl [.int v1] rfl rfl rfl dL_law_964 rfl (fun r M1 h => c_X11_bench _ _ _ _ _ _ h) (fun r2 M3 => ?_)
  refine v_aload_n X 968 2 dL_law_967 rfl rfl ?_
  refine v_aload_n X 969 0 dL_law_968 rfl rfl ?_
  refine v_iload X 971 4 dL_law_969 rfl rfl ?_
  refine v_iconst X 972 dL_law_971 ik_1 rfl ?_
  refine v_iadd X 973 dL_law_972 rfl ?_
  refine v_sld X 974 S dL_law_973 rfl (fun v4 => ?_)
  refine v_wI X 977 cv_X12_bench ml_L_120 hcs (n1 := 5) rfl [.int v4] rfl rfl rfl dL_law_974 rfl (fun r M1 h => c_X12_bench _ _ _ _ _ _ h) (fun r5 M6 => ?_)
  refine v_iceq X 980 1687 dL_law_977 rfl rfl ?_ ?_
  · exact v_wd (c + 1) (s + 6) (Nat.le_add_right _ _) (Nat.le_add_right _ _) (hK _)
  · exact v_none

def g_L_21 (L : Nat) (xs : Nat → Int32) (x1 x2 x3 : Nat) (x4 : Int32) (K : MM → Option (Int32 × MM)) (M : MM) : Option (Int32 × MM) :=
    b2 (f_X11_worth x1 M) fun r1 M2 =>
    b2 (f_X12_worth x2 M2) fun r3 M4 =>
    if r1 = r3 then
      K M4
    else
      none
set_option maxRecDepth 4000 in
theorem L_L_21 {G : Gx} (X : Cb G cL_law 8 RL room_1 false) {L : Nat} {xs : Nat → Int32} (S : SX G L xs) (hl0 : G.1.2.1.stackTraces = false) {c s : Nat} (hcs9 : csL (c + 1) (s + 6)) (x1 x2 x3 : Nat) (x4 : Int32) {K : MM → Option (Int32 × MM)} (hK : ∀ M, V G trI 8 (c + 1) (s + 6) 1687 [(0, .ref (sB + 300)), (1, .ref x1), (2, .ref x2), (3, .ref x3), (4, .int x4)] [] M (K M)) (M : MM) : V G trI 8 c s 982 [(0, .ref (sB + 300)), (1, .ref x1), (2, .ref x2), (3, .ref x3), (4, .int x4)] [] M (g_L_21 L xs x1 x2 x3 x4 K M) := by
  unfold g_L_21
  have hcs := csL_dn hcs9
  refine v_aload_n X 983 1 dL_law_982 rfl rfl ?_
  refine v_wI X 986 cv_X11_worth ml_L_121 hcs (n1 := 5) rfl [] rfl rfl rfl dL_law_983 rfl (fun r M1 h => c_X11_worth _ _ _ _ _ h) (fun r1 M2 => ?_)
  refine v_aload_n X 987 2 dL_law_986 rfl rfl ?_
  refine v_wI X 990 cv_X12_worth ml_L_124 hcs (n1 := 6) rfl [] rfl rfl rfl dL_law_987 rfl (fun r M1 h => c_X12_worth _ _ _ _ _ h) (fun r3 M4 => ?_)
  refine v_iceq X 993 1687 dL_law_990 rfl rfl ?_ ?_
  · exact v_wd (c + 1) (s + 6) (Nat.le_add_right _ _) (Nat.le_add_right _ _) (hK _)
  · exact v_none

def g_L_22 (L : Nat) (xs : Nat → Int32) (x1 x2 x3 : Nat) (x4 : Int32) (K : MM → Option (Int32 × MM)) (M : MM) : Option (Int32 × MM) :=
    b2 (f_X11_stays x1 M) fun r1 M2 =>
    b2 (f_X12_stays x2 M2) fun r3 M4 =>
    if r1 = r3 then
      K M4
    else
      none
set_option maxRecDepth 4000 in
theorem L_L_22 {G : Gx} (X : Cb G cL_law 8 RL room_1 false) {L : Nat} {xs : Nat → Int32} (S : SX G L xs) (hl0 : G.1.2.1.stackTraces = false) {c s : Nat} (hcs9 : csL (c + 1) (s + 6)) (x1 x2 x3 : Nat) (x4 : Int32) {K : MM → Option (Int32 × MM)} (hK : ∀ M, V G trI 8 (c + 1) (s + 6) 1687 [(0, .ref (sB + 300)), (1, .ref x1), (2, .ref x2), (3, .ref x3), (4, .int x4)] [] M (K M)) (M : MM) : V G trI 8 c s 995 [(0, .ref (sB + 300)), (1, .ref x1), (2, .ref x2), (3, .ref x3), (4, .int x4)] [] M (g_L_22 L xs x1 x2 x3 x4 K M) := by
  unfold g_L_22
  have hcs := csL_dn hcs9
  refine v_aload_n X 996 1 dL_law_995 rfl rfl ?_
  refine v_wI X 999 cv_X11_stays ml_L_125 hcs (n1 := 5) rfl [] rfl rfl rfl dL_law_996 rfl (fun r M1 h => c_X11_stays _ _ _ _ _ h) (fun r1 M2 => ?_)
  refine v_aload_n X 1000 2 dL_law_999 rfl rfl ?_
  refine v_wI X 1003 cv_X12_stays ml_L_128 hcs (n1 := 6) rfl [] rfl rfl rfl dL_law_1000 rfl (fun r M1 h => c_X12_stays _ _ _ _ _ h) (fun r3 M4 => ?_)
  refine v_iceq X 1006 1687 dL_law_1003 rfl rfl ?_ ?_
  · exact v_wd (c + 1) (s + 6) (Nat.le_add_right _ _) (Nat.le_add_right _ _) (hK _)
  · exact v_none

def g_L_23 (L : Nat) (xs : Nat → Int32) (x1 x2 x3 : Nat) (x4 : Int32) (K : MM → Option (Int32 × MM)) (M : MM) : Option (Int32 × MM) :=
    b2 (f_X11_stuck x1 M) fun r1 M2 =>
    b2 (f_X12_stuck x2 M2) fun r3 M4 =>
    if r1 = r3 then
      K M4
    else
      none
set_option maxRecDepth 4000 in
theorem L_L_23 {G : Gx} (X : Cb G cL_law 8 RL room_1 false) {L : Nat} {xs : Nat → Int32} (S : SX G L xs) (hl0 : G.1.2.1.stackTraces = false) {c s : Nat} (hcs9 : csL (c + 1) (s + 6)) (x1 x2 x3 : Nat) (x4 : Int32) {K : MM → Option (Int32 × MM)} (hK : ∀ M, V G trI 8 (c + 1) (s + 6) 1687 [(0, .ref (sB + 300)), (1, .ref x1), (2, .ref x2), (3, .ref x3), (4, .int x4)] [] M (K M)) (M : MM) : V G trI 8 c s 1008 [(0, .ref (sB + 300)), (1, .ref x1), (2, .ref x2), (3, .ref x3), (4, .int x4)] [] M (g_L_23 L xs x1 x2 x3 x4 K M) := by
  unfold g_L_23
  have hcs := csL_dn hcs9
  refine v_aload_n X 1009 1 dL_law_1008 rfl rfl ?_
  refine v_wI X 1012 cv_X11_stuck ml_L_129 hcs (n1 := 4) rfl [] rfl rfl rfl dL_law_1009 rfl (fun r M1 h => c_X11_stuck _ _ _ _ _ h) (fun r1 M2 => ?_)
  refine v_aload_n X 1013 2 dL_law_1012 rfl rfl ?_
  refine v_wI X 1016 cv_X12_stuck ml_L_132 hcs (n1 := 5) rfl [] rfl rfl rfl dL_law_1013 rfl (fun r M1 h => c_X12_stuck _ _ _ _ _ h) (fun r3 M4 => ?_)
  refine v_iceq X 1019 1687 dL_law_1016 rfl rfl ?_ ?_
  · exact v_wd (c + 1) (s + 6) (Nat.le_add_right _ _) (Nat.le_add_right _ _) (hK _)
  · exact v_none

def g_L_24 (L : Nat) (xs : Nat → Int32) (x1 x2 x3 : Nat) (x4 : Int32) (K : MM → Option (Int32 × MM)) (M : MM) : Option (Int32 × MM) :=
    b1 (scr L xs (x4 + (1 : Int32))) fun v1 =>
    b1 (scr L xs (x4 + (2 : Int32))) fun v2 =>
    b2 (f_X11_hands x1 v1 v2 M) fun r3 M4 =>
    b1 (scr L xs (x4 + (1 : Int32))) fun v5 =>
    b1 (scr L xs (x4 + (2 : Int32))) fun v6 =>
    b2 (f_X12_hands x2 v5 v6 M4) fun r7 M8 =>
    if r3 = r7 then
      K M8
    else
      none
set_option maxRecDepth 4000 in
theorem L_L_24 {G : Gx} (X : Cb G cL_law 8 RL room_1 false) {L : Nat} {xs : Nat → Int32} (S : SX G L xs) (hl0 : G.1.2.1.stackTraces = false) {c s : Nat} (hcs9 : csL (c + 1) (s + 6)) (x1 x2 x3 : Nat) (x4 : Int32) {K : MM → Option (Int32 × MM)} (hK : ∀ M, V G trI 8 (c + 1) (s + 6) 1687 [(0, .ref (sB + 300)), (1, .ref x1), (2, .ref x2), (3, .ref x3), (4, .int x4)] [] M (K M)) (M : MM) : V G trI 8 c s 1021 [(0, .ref (sB + 300)), (1, .ref x1), (2, .ref x2), (3, .ref x3), (4, .int x4)] [] M (g_L_24 L xs x1 x2 x3 x4 K M) := by
  unfold g_L_24
  have hcs := csL_dn hcs9
  refine v_aload_n X 1022 1 dL_law_1021 rfl rfl ?_
  refine v_aload_n X 1023 0 dL_law_1022 rfl rfl ?_
  refine v_iload X 1025 4 dL_law_1023 rfl rfl ?_
  refine v_iconst X 1026 dL_law_1025 ik_1 rfl ?_
  refine v_iadd X 1027 dL_law_1026 rfl ?_
  refine v_sld X 1028 S dL_law_1027 rfl (fun v1 => ?_)
  refine v_aload_n X 1029 0 dL_law_1028 rfl rfl ?_
  refine v_iload X 1031 4 dL_law_1029 rfl rfl ?_
  refine v_iconst X 1032 dL_law_1031 ik_2 rfl ?_
  refine v_iadd X 1033 dL_law_1032 rfl ?_
  refine v_sld X 1034 S dL_law_1033 rfl (fun v2 => ?_)
  refine v_wI X 1037 cv_X11_hands ml_L_133 hcs (n1 := 3) rfl [.int v1, .int v2] rfl rfl rfl dL_law_1034 rfl (fun r M1 h => c_X11_hands _ _ _ _ _ _ _ h) (fun r3 M4 => ?_)
  refine v_aload_n X 1038 2 dL_law_1037 rfl rfl ?_
  refine v_aload_n X 1039 0 dL_law_1038 rfl rfl ?_
  refine v_iload X 1041 4 dL_law_1039 rfl rfl ?_
  refine v_iconst X 1042 dL_law_1041 ik_1 rfl ?_
  refine v_iadd X 1043 dL_law_1042 rfl ?_
  refine v_sld X 1044 S dL_law_1043 rfl (fun v5 => ?_)
  refine v_aload_n X 1045 0 dL_law_1044 rfl rfl ?_
  refine v_iload X 1047 4 dL_law_1045 rfl rfl ?_
  refine v_iconst X 1048 dL_law_1047 ik_2 rfl ?_
  refine v_iadd X 1049 dL_law_1048 rfl ?_
  refine v_sld X 1050 S dL_law_1049 rfl (fun v6 => ?_)
  refine v_wI X 1053 cv_X12_hands ml_L_136 hcs (n1 := 4) rfl [.int v5, .int v6] rfl rfl rfl dL_law_1050 rfl (fun r M1 h => c_X12_hands _ _ _ _ _ _ _ h) (fun r7 M8 => ?_)
  refine v_iceq X 1056 1687 dL_law_1053 rfl rfl ?_ ?_
  · exact v_wd (c + 1) (s + 6) (Nat.le_add_right _ _) (Nat.le_add_right _ _) (hK _)
  · exact v_none

def g_L_25 (L : Nat) (xs : Nat → Int32) (x1 x2 x3 : Nat) (x4 : Int32) (K : MM → Option (Int32 × MM)) (M : MM) : Option (Int32 × MM) :=
    b1 (scr L xs (x4 + (1 : Int32))) fun v1 =>
    b1 (scr L xs (x4 + (2 : Int32))) fun v2 =>
    b2 (f_X11_earliest x1 v1 v2 M) fun r3 M4 =>
    b1 (scr L xs (x4 + (1 : Int32))) fun v5 =>
    b1 (scr L xs (x4 + (2 : Int32))) fun v6 =>
    b2 (f_X12_earliest x2 v5 v6 M4) fun r7 M8 =>
    if r3 = r7 then
      K M8
    else
      none
set_option maxRecDepth 4000 in
theorem L_L_25 {G : Gx} (X : Cb G cL_law 8 RL room_1 false) {L : Nat} {xs : Nat → Int32} (S : SX G L xs) (hl0 : G.1.2.1.stackTraces = false) {c s : Nat} (hcs9 : csL (c + 1) (s + 6)) (x1 x2 x3 : Nat) (x4 : Int32) {K : MM → Option (Int32 × MM)} (hK : ∀ M, V G trI 8 (c + 1) (s + 6) 1687 [(0, .ref (sB + 300)), (1, .ref x1), (2, .ref x2), (3, .ref x3), (4, .int x4)] [] M (K M)) (M : MM) : V G trI 8 c s 1058 [(0, .ref (sB + 300)), (1, .ref x1), (2, .ref x2), (3, .ref x3), (4, .int x4)] [] M (g_L_25 L xs x1 x2 x3 x4 K M) := by
  unfold g_L_25
  have hcs := csL_dn hcs9
  refine v_aload_n X 1059 1 dL_law_1058 rfl rfl ?_
  refine v_aload_n X 1060 0 dL_law_1059 rfl rfl ?_
  refine v_iload X 1062 4 dL_law_1060 rfl rfl ?_
  refine v_iconst X 1063 dL_law_1062 ik_1 rfl ?_
  refine v_iadd X 1064 dL_law_1063 rfl ?_
  refine v_sld X 1065 S dL_law_1064 rfl (fun v1 => ?_)
  refine v_aload_n X 1066 0 dL_law_1065 rfl rfl ?_
  refine v_iload X 1068 4 dL_law_1066 rfl rfl ?_
  refine v_iconst X 1069 dL_law_1068 ik_2 rfl ?_
  refine v_iadd X 1070 dL_law_1069 rfl ?_
  refine v_sld X 1071 S dL_law_1070 rfl (fun v2 => ?_)
  refine v_wI X 1074 cv_X11_earliest ml_L_137 hcs (n1 := 6) rfl [.int v1, .int v2] rfl rfl rfl dL_law_1071 rfl (fun r M1 h => c_X11_earliest _ _ _ _ _ _ _ h) (fun r3 M4 => ?_)
  refine v_aload_n X 1075 2 dL_law_1074 rfl rfl ?_
  refine v_aload_n X 1076 0 dL_law_1075 rfl rfl ?_
  refine v_iload X 1078 4 dL_law_1076 rfl rfl ?_
  refine v_iconst X 1079 dL_law_1078 ik_1 rfl ?_
  refine v_iadd X 1080 dL_law_1079 rfl ?_
  refine v_sld X 1081 S dL_law_1080 rfl (fun v5 => ?_)
  refine v_aload_n X 1082 0 dL_law_1081 rfl rfl ?_
  refine v_iload X 1084 4 dL_law_1082 rfl rfl ?_
  refine v_iconst X 1085 dL_law_1084 ik_2 rfl ?_
  refine v_iadd X 1086 dL_law_1085 rfl ?_
  refine v_sld X 1087 S dL_law_1086 rfl (fun v6 => ?_)
  refine v_wI X 1090 cv_X12_earliest ml_L_140 hcs (n1 := 9) rfl [.int v5, .int v6] rfl rfl rfl dL_law_1087 rfl (fun r M1 h => c_X12_earliest _ _ _ _ _ _ _ h) (fun r7 M8 => ?_)
  refine v_iceq X 1093 1687 dL_law_1090 rfl rfl ?_ ?_
  · exact v_wd (c + 1) (s + 6) (Nat.le_add_right _ _) (Nat.le_add_right _ _) (hK _)
  · exact v_none

def g_L_26 (L : Nat) (xs : Nat → Int32) (x1 x2 x3 : Nat) (x4 : Int32) (K : MM → Option (Int32 × MM)) (M : MM) : Option (Int32 × MM) :=
    b1 (scr L xs (x4 + (1 : Int32))) fun v1 =>
    b1 (scr L xs (x4 + (2 : Int32))) fun v2 =>
    b2 (f_X11_latest x1 v1 v2 M) fun r3 M4 =>
    b1 (scr L xs (x4 + (1 : Int32))) fun v5 =>
    b1 (scr L xs (x4 + (2 : Int32))) fun v6 =>
    b2 (f_X12_latest x2 v5 v6 M4) fun r7 M8 =>
    if r3 = r7 then
      K M8
    else
      none
set_option maxRecDepth 4000 in
theorem L_L_26 {G : Gx} (X : Cb G cL_law 8 RL room_1 false) {L : Nat} {xs : Nat → Int32} (S : SX G L xs) (hl0 : G.1.2.1.stackTraces = false) {c s : Nat} (hcs9 : csL (c + 1) (s + 6)) (x1 x2 x3 : Nat) (x4 : Int32) {K : MM → Option (Int32 × MM)} (hK : ∀ M, V G trI 8 (c + 1) (s + 6) 1687 [(0, .ref (sB + 300)), (1, .ref x1), (2, .ref x2), (3, .ref x3), (4, .int x4)] [] M (K M)) (M : MM) : V G trI 8 c s 1095 [(0, .ref (sB + 300)), (1, .ref x1), (2, .ref x2), (3, .ref x3), (4, .int x4)] [] M (g_L_26 L xs x1 x2 x3 x4 K M) := by
  unfold g_L_26
  have hcs := csL_dn hcs9
  refine v_aload_n X 1096 1 dL_law_1095 rfl rfl ?_
  refine v_aload_n X 1097 0 dL_law_1096 rfl rfl ?_
  refine v_iload X 1099 4 dL_law_1097 rfl rfl ?_
  refine v_iconst X 1100 dL_law_1099 ik_1 rfl ?_
  refine v_iadd X 1101 dL_law_1100 rfl ?_
  refine v_sld X 1102 S dL_law_1101 rfl (fun v1 => ?_)
  refine v_aload_n X 1103 0 dL_law_1102 rfl rfl ?_
  refine v_iload X 1105 4 dL_law_1103 rfl rfl ?_
  refine v_iconst X 1106 dL_law_1105 ik_2 rfl ?_
  refine v_iadd X 1107 dL_law_1106 rfl ?_
  refine v_sld X 1108 S dL_law_1107 rfl (fun v2 => ?_)
  refine v_wI X 1111 cv_X11_latest ml_L_141 hcs (n1 := 6) rfl [.int v1, .int v2] rfl rfl rfl dL_law_1108 rfl (fun r M1 h => c_X11_latest _ _ _ _ _ _ _ h) (fun r3 M4 => ?_)
  refine v_aload_n X 1112 2 dL_law_1111 rfl rfl ?_
  refine v_aload_n X 1113 0 dL_law_1112 rfl rfl ?_
  refine v_iload X 1115 4 dL_law_1113 rfl rfl ?_
  refine v_iconst X 1116 dL_law_1115 ik_1 rfl ?_
  refine v_iadd X 1117 dL_law_1116 rfl ?_
  refine v_sld X 1118 S dL_law_1117 rfl (fun v5 => ?_)
  refine v_aload_n X 1119 0 dL_law_1118 rfl rfl ?_
  refine v_iload X 1121 4 dL_law_1119 rfl rfl ?_
  refine v_iconst X 1122 dL_law_1121 ik_2 rfl ?_
  refine v_iadd X 1123 dL_law_1122 rfl ?_
  refine v_sld X 1124 S dL_law_1123 rfl (fun v6 => ?_)
  refine v_wI X 1127 cv_X12_latest ml_L_144 hcs (n1 := 9) rfl [.int v5, .int v6] rfl rfl rfl dL_law_1124 rfl (fun r M1 h => c_X12_latest _ _ _ _ _ _ _ h) (fun r7 M8 => ?_)
  refine v_iceq X 1130 1687 dL_law_1127 rfl rfl ?_ ?_
  · exact v_wd (c + 1) (s + 6) (Nat.le_add_right _ _) (Nat.le_add_right _ _) (hK _)
  · exact v_none

def g_L_27 (L : Nat) (xs : Nat → Int32) (x1 x2 x3 : Nat) (x4 : Int32) (K : MM → Option (Int32 × MM)) (M : MM) : Option (Int32 × MM) :=
    b1 (scr L xs (x4 + (1 : Int32))) fun v1 =>
    b2 (f_X11_best x1 v1 M) fun r2 M3 =>
    b1 (scr L xs (x4 + (1 : Int32))) fun v4 =>
    b2 (f_X12_best x2 v4 M3) fun r5 M6 =>
    if r2 = r5 then
      K M6
    else
      none
set_option maxRecDepth 4000 in
theorem L_L_27 {G : Gx} (X : Cb G cL_law 8 RL room_1 false) {L : Nat} {xs : Nat → Int32} (S : SX G L xs) (hl0 : G.1.2.1.stackTraces = false) {c s : Nat} (hcs9 : csL (c + 1) (s + 6)) (x1 x2 x3 : Nat) (x4 : Int32) {K : MM → Option (Int32 × MM)} (hK : ∀ M, V G trI 8 (c + 1) (s + 6) 1687 [(0, .ref (sB + 300)), (1, .ref x1), (2, .ref x2), (3, .ref x3), (4, .int x4)] [] M (K M)) (M : MM) : V G trI 8 c s 1132 [(0, .ref (sB + 300)), (1, .ref x1), (2, .ref x2), (3, .ref x3), (4, .int x4)] [] M (g_L_27 L xs x1 x2 x3 x4 K M) := by
  unfold g_L_27
  have hcs := csL_dn hcs9
  refine v_aload_n X 1133 1 dL_law_1132 rfl rfl ?_
  refine v_aload_n X 1134 0 dL_law_1133 rfl rfl ?_
  refine v_iload X 1136 4 dL_law_1134 rfl rfl ?_
  refine v_iconst X 1137 dL_law_1136 ik_1 rfl ?_
  refine v_iadd X 1138 dL_law_1137 rfl ?_
  refine v_sld X 1139 S dL_law_1138 rfl (fun v1 => ?_)
  refine v_wI X 1142 cv_X11_best ml_L_145 hcs (n1 := 7) rfl [.int v1] rfl rfl rfl dL_law_1139 rfl (fun r M1 h => c_X11_best _ _ _ _ _ _ h) (fun r2 M3 => ?_)
  refine v_aload_n X 1143 2 dL_law_1142 rfl rfl ?_
  refine v_aload_n X 1144 0 dL_law_1143 rfl rfl ?_
  refine v_iload X 1146 4 dL_law_1144 rfl rfl ?_
  refine v_iconst X 1147 dL_law_1146 ik_1 rfl ?_
  refine v_iadd X 1148 dL_law_1147 rfl ?_
  refine v_sld X 1149 S dL_law_1148 rfl (fun v4 => ?_)
  refine v_wI X 1152 cv_X12_best ml_L_148 hcs (n1 := 9) rfl [.int v4] rfl rfl rfl dL_law_1149 rfl (fun r M1 h => c_X12_best _ _ _ _ _ _ h) (fun r5 M6 => ?_)
  refine v_iceq X 1155 1687 dL_law_1152 rfl rfl ?_ ?_
  · exact v_wd (c + 1) (s + 6) (Nat.le_add_right _ _) (Nat.le_add_right _ _) (hK _)
  · exact v_none

def g_L_28 (L : Nat) (xs : Nat → Int32) (x1 x2 x3 : Nat) (x4 : Int32) (K : MM → Option (Int32 × MM)) (M : MM) : Option (Int32 × MM) :=
    b1 (scr L xs (x4 + (1 : Int32))) fun v1 =>
    b2 (f_X11_most x1 v1 M) fun r2 M3 =>
    b1 (scr L xs (x4 + (1 : Int32))) fun v4 =>
    b2 (f_X12_most x2 v4 M3) fun r5 M6 =>
    if r2 = r5 then
      K M6
    else
      none
set_option maxRecDepth 4000 in
theorem L_L_28 {G : Gx} (X : Cb G cL_law 8 RL room_1 false) {L : Nat} {xs : Nat → Int32} (S : SX G L xs) (hl0 : G.1.2.1.stackTraces = false) {c s : Nat} (hcs9 : csL (c + 1) (s + 6)) (x1 x2 x3 : Nat) (x4 : Int32) {K : MM → Option (Int32 × MM)} (hK : ∀ M, V G trI 8 (c + 1) (s + 6) 1687 [(0, .ref (sB + 300)), (1, .ref x1), (2, .ref x2), (3, .ref x3), (4, .int x4)] [] M (K M)) (M : MM) : V G trI 8 c s 1157 [(0, .ref (sB + 300)), (1, .ref x1), (2, .ref x2), (3, .ref x3), (4, .int x4)] [] M (g_L_28 L xs x1 x2 x3 x4 K M) := by
  unfold g_L_28
  have hcs := csL_dn hcs9
  refine v_aload_n X 1158 1 dL_law_1157 rfl rfl ?_
  refine v_aload_n X 1159 0 dL_law_1158 rfl rfl ?_
  refine v_iload X 1161 4 dL_law_1159 rfl rfl ?_
  refine v_iconst X 1162 dL_law_1161 ik_1 rfl ?_
  refine v_iadd X 1163 dL_law_1162 rfl ?_
  refine v_sld X 1164 S dL_law_1163 rfl (fun v1 => ?_)
  refine v_wI X 1167 cv_X11_most ml_L_149 hcs (n1 := 8) rfl [.int v1] rfl rfl rfl dL_law_1164 rfl (fun r M1 h => c_X11_most _ _ _ _ _ _ h) (fun r2 M3 => ?_)
  refine v_aload_n X 1168 2 dL_law_1167 rfl rfl ?_
  refine v_aload_n X 1169 0 dL_law_1168 rfl rfl ?_
  refine v_iload X 1171 4 dL_law_1169 rfl rfl ?_
  refine v_iconst X 1172 dL_law_1171 ik_1 rfl ?_
  refine v_iadd X 1173 dL_law_1172 rfl ?_
  refine v_sld X 1174 S dL_law_1173 rfl (fun v4 => ?_)
  refine v_wI X 1177 cv_X12_most ml_L_152 hcs (n1 := 110) rfl [.int v4] rfl rfl rfl dL_law_1174 rfl (fun r M1 h => c_X12_most _ _ _ _ _ _ h) (fun r5 M6 => ?_)
  refine v_iceq X 1180 1687 dL_law_1177 rfl rfl ?_ ?_
  · exact v_wd (c + 1) (s + 6) (Nat.le_add_right _ _) (Nat.le_add_right _ _) (hK _)
  · exact v_none

def g_L_29 (L : Nat) (xs : Nat → Int32) (x1 x2 x3 : Nat) (x4 : Int32) (K : MM → Option (Int32 × MM)) (M : MM) : Option (Int32 × MM) :=
    b2 (f_X11_open x1 M) fun r1 M2 =>
    b2 (f_X12_open x2 M2) fun r3 M4 =>
    if r1 = r3 then
      K M4
    else
      none
set_option maxRecDepth 4000 in
theorem L_L_29 {G : Gx} (X : Cb G cL_law 8 RL room_1 false) {L : Nat} {xs : Nat → Int32} (S : SX G L xs) (hl0 : G.1.2.1.stackTraces = false) {c s : Nat} (hcs9 : csL (c + 1) (s + 6)) (x1 x2 x3 : Nat) (x4 : Int32) {K : MM → Option (Int32 × MM)} (hK : ∀ M, V G trI 8 (c + 1) (s + 6) 1687 [(0, .ref (sB + 300)), (1, .ref x1), (2, .ref x2), (3, .ref x3), (4, .int x4)] [] M (K M)) (M : MM) : V G trI 8 c s 1182 [(0, .ref (sB + 300)), (1, .ref x1), (2, .ref x2), (3, .ref x3), (4, .int x4)] [] M (g_L_29 L xs x1 x2 x3 x4 K M) := by
  unfold g_L_29
  have hcs := csL_dn hcs9
  refine v_aload_n X 1183 1 dL_law_1182 rfl rfl ?_
  refine v_wI X 1186 cv_X11_open ml_L_153 hcs (n1 := 7) rfl [] rfl rfl rfl dL_law_1183 rfl (fun r M1 h => c_X11_open _ _ _ _ _ h) (fun r1 M2 => ?_)
  refine v_aload_n X 1187 2 dL_law_1186 rfl rfl ?_
  refine v_wI X 1190 cv_X12_open ml_L_156 hcs (n1 := 9) rfl [] rfl rfl rfl dL_law_1187 rfl (fun r M1 h => c_X12_open _ _ _ _ _ h) (fun r3 M4 => ?_)
  refine v_iceq X 1193 1687 dL_law_1190 rfl rfl ?_ ?_
  · exact v_wd (c + 1) (s + 6) (Nat.le_add_right _ _) (Nat.le_add_right _ _) (hK _)
  · exact v_none

def g_L_30 (L : Nat) (xs : Nat → Int32) (x1 x2 x3 : Nat) (x4 : Int32) (K : MM → Option (Int32 × MM)) (M : MM) : Option (Int32 × MM) :=
    b2 (f_X11_mend x1 M) fun r1 M2 =>
    b2 (f_X12_mend x2 M2) fun r3 M4 =>
    if r1 = r3 then
      K M4
    else
      none
set_option maxRecDepth 4000 in
theorem L_L_30 {G : Gx} (X : Cb G cL_law 8 RL room_1 false) {L : Nat} {xs : Nat → Int32} (S : SX G L xs) (hl0 : G.1.2.1.stackTraces = false) {c s : Nat} (hcs9 : csL (c + 1) (s + 6)) (x1 x2 x3 : Nat) (x4 : Int32) {K : MM → Option (Int32 × MM)} (hK : ∀ M, V G trI 8 (c + 1) (s + 6) 1687 [(0, .ref (sB + 300)), (1, .ref x1), (2, .ref x2), (3, .ref x3), (4, .int x4)] [] M (K M)) (M : MM) : V G trI 8 c s 1195 [(0, .ref (sB + 300)), (1, .ref x1), (2, .ref x2), (3, .ref x3), (4, .int x4)] [] M (g_L_30 L xs x1 x2 x3 x4 K M) := by
  unfold g_L_30
  have hcs := csL_dn hcs9
  refine v_aload_n X 1196 1 dL_law_1195 rfl rfl ?_
  refine v_wI X 1199 cv_X11_mend ml_L_157 hcs (n1 := 7) rfl [] rfl rfl rfl dL_law_1196 rfl (fun r M1 h => c_X11_mend _ _ _ _ _ h) (fun r1 M2 => ?_)
  refine v_aload_n X 1200 2 dL_law_1199 rfl rfl ?_
  refine v_wI X 1203 cv_X12_mend ml_L_160 hcs (n1 := 108) rfl [] rfl rfl rfl dL_law_1200 rfl (fun r M1 h => c_X12_mend _ _ _ _ _ h) (fun r3 M4 => ?_)
  refine v_iceq X 1206 1687 dL_law_1203 rfl rfl ?_ ?_
  · exact v_wd (c + 1) (s + 6) (Nat.le_add_right _ _) (Nat.le_add_right _ _) (hK _)
  · exact v_none

def g_L_31 (L : Nat) (xs : Nat → Int32) (x1 x2 x3 : Nat) (x4 : Int32) (K : MM → Option (Int32 × MM)) (M : MM) : Option (Int32 × MM) :=
    b2 (f_X11_parts x1 M) fun r1 M2 =>
    b2 (f_X12_parts x2 M2) fun r3 M4 =>
    if r1 = r3 then
      K M4
    else
      none
set_option maxRecDepth 4000 in
theorem L_L_31 {G : Gx} (X : Cb G cL_law 8 RL room_1 false) {L : Nat} {xs : Nat → Int32} (S : SX G L xs) (hl0 : G.1.2.1.stackTraces = false) {c s : Nat} (hcs9 : csL (c + 1) (s + 6)) (x1 x2 x3 : Nat) (x4 : Int32) {K : MM → Option (Int32 × MM)} (hK : ∀ M, V G trI 8 (c + 1) (s + 6) 1687 [(0, .ref (sB + 300)), (1, .ref x1), (2, .ref x2), (3, .ref x3), (4, .int x4)] [] M (K M)) (M : MM) : V G trI 8 c s 1208 [(0, .ref (sB + 300)), (1, .ref x1), (2, .ref x2), (3, .ref x3), (4, .int x4)] [] M (g_L_31 L xs x1 x2 x3 x4 K M) := by
  unfold g_L_31
  have hcs := csL_dn hcs9
  refine v_aload_n X 1209 1 dL_law_1208 rfl rfl ?_
  refine v_wI X 1212 cv_X11_parts ml_L_161 hcs (n1 := 3) rfl [] rfl rfl rfl dL_law_1209 rfl (fun r M1 h => c_X11_parts _ _ _ _ _ h) (fun r1 M2 => ?_)
  refine v_aload_n X 1213 2 dL_law_1212 rfl rfl ?_
  refine v_wI X 1216 cv_X12_parts ml_L_164 hcs (n1 := 4) rfl [] rfl rfl rfl dL_law_1213 rfl (fun r M1 h => c_X12_parts _ _ _ _ _ h) (fun r3 M4 => ?_)
  refine v_iceq X 1219 1687 dL_law_1216 rfl rfl ?_ ?_
  · exact v_wd (c + 1) (s + 6) (Nat.le_add_right _ _) (Nat.le_add_right _ _) (hK _)
  · exact v_none

def g_L_32 (L : Nat) (xs : Nat → Int32) (x1 x2 x3 : Nat) (x4 : Int32) (K : MM → Option (Int32 × MM)) (M : MM) : Option (Int32 × MM) :=
    b2 (f_X11_turn x1 M) fun r1 M2 =>
    b2 (f_X12_turn x2 M2) fun r3 M4 =>
    if r1 = r3 then
      K M4
    else
      none
set_option maxRecDepth 4000 in
theorem L_L_32 {G : Gx} (X : Cb G cL_law 8 RL room_1 false) {L : Nat} {xs : Nat → Int32} (S : SX G L xs) (hl0 : G.1.2.1.stackTraces = false) {c s : Nat} (hcs9 : csL (c + 1) (s + 6)) (x1 x2 x3 : Nat) (x4 : Int32) {K : MM → Option (Int32 × MM)} (hK : ∀ M, V G trI 8 (c + 1) (s + 6) 1687 [(0, .ref (sB + 300)), (1, .ref x1), (2, .ref x2), (3, .ref x3), (4, .int x4)] [] M (K M)) (M : MM) : V G trI 8 c s 1221 [(0, .ref (sB + 300)), (1, .ref x1), (2, .ref x2), (3, .ref x3), (4, .int x4)] [] M (g_L_32 L xs x1 x2 x3 x4 K M) := by
  unfold g_L_32
  have hcs := csL_dn hcs9
  refine v_aload_n X 1222 1 dL_law_1221 rfl rfl ?_
  refine v_wI X 1225 cv_X11_turn ml_L_165 hcs (n1 := 4) rfl [] rfl rfl rfl dL_law_1222 rfl (fun r M1 h => c_X11_turn _ _ _ _ _ h) (fun r1 M2 => ?_)
  refine v_aload_n X 1226 2 dL_law_1225 rfl rfl ?_
  refine v_wI X 1229 cv_X12_turn ml_L_168 hcs (n1 := 3) rfl [] rfl rfl rfl dL_law_1226 rfl (fun r M1 h => c_X12_turn _ _ _ _ _ h) (fun r3 M4 => ?_)
  refine v_iceq X 1232 1687 dL_law_1229 rfl rfl ?_ ?_
  · exact v_wd (c + 1) (s + 6) (Nat.le_add_right _ _) (Nat.le_add_right _ _) (hK _)
  · exact v_none

def g_L_33 (L : Nat) (xs : Nat → Int32) (x1 x2 x3 : Nat) (x4 : Int32) (K : MM → Option (Int32 × MM)) (M : MM) : Option (Int32 × MM) :=
    b1 (scr L xs (x4 + (1 : Int32))) fun v1 =>
    b2 (f_X11_lockers x1 v1 M) fun r2 M3 =>
    b1 (scr L xs (x4 + (1 : Int32))) fun v4 =>
    b2 (f_X12_lockers x2 v4 M3) fun r5 M6 =>
    if r2 = r5 then
      K M6
    else
      none
set_option maxRecDepth 4000 in
theorem L_L_33 {G : Gx} (X : Cb G cL_law 8 RL room_1 false) {L : Nat} {xs : Nat → Int32} (S : SX G L xs) (hl0 : G.1.2.1.stackTraces = false) {c s : Nat} (hcs9 : csL (c + 1) (s + 6)) (x1 x2 x3 : Nat) (x4 : Int32) {K : MM → Option (Int32 × MM)} (hK : ∀ M, V G trI 8 (c + 1) (s + 6) 1687 [(0, .ref (sB + 300)), (1, .ref x1), (2, .ref x2), (3, .ref x3), (4, .int x4)] [] M (K M)) (M : MM) : V G trI 8 c s 1234 [(0, .ref (sB + 300)), (1, .ref x1), (2, .ref x2), (3, .ref x3), (4, .int x4)] [] M (g_L_33 L xs x1 x2 x3 x4 K M) := by
  unfold g_L_33
  have hcs := csL_dn hcs9
  refine v_aload_n X 1235 1 dL_law_1234 rfl rfl ?_
  refine v_aload_n X 1236 0 dL_law_1235 rfl rfl ?_
  refine v_iload X 1238 4 dL_law_1236 rfl rfl ?_
  refine v_iconst X 1239 dL_law_1238 ik_1 rfl ?_
  refine v_iadd X 1240 dL_law_1239 rfl ?_
  refine v_sld X 1241 S dL_law_1240 rfl (fun v1 => ?_)
  refine v_wI X 1244 cv_X11_lockers ml_L_169 hcs (n1 := 104) rfl [.int v1] rfl rfl rfl dL_law_1241 rfl (fun r M1 h => c_X11_lockers _ _ _ _ _ _ h) (fun r2 M3 => ?_)
  refine v_aload_n X 1245 2 dL_law_1244 rfl rfl ?_
  refine v_aload_n X 1246 0 dL_law_1245 rfl rfl ?_
  refine v_iload X 1248 4 dL_law_1246 rfl rfl ?_
  refine v_iconst X 1249 dL_law_1248 ik_1 rfl ?_
  refine v_iadd X 1250 dL_law_1249 rfl ?_
  refine v_sld X 1251 S dL_law_1250 rfl (fun v4 => ?_)
  refine v_wI X 1254 cv_X12_lockers ml_L_172 hcs (n1 := 104) rfl [.int v4] rfl rfl rfl dL_law_1251 rfl (fun r M1 h => c_X12_lockers _ _ _ _ _ _ h) (fun r5 M6 => ?_)
  refine v_iceq X 1257 1687 dL_law_1254 rfl rfl ?_ ?_
  · exact v_wd (c + 1) (s + 6) (Nat.le_add_right _ _) (Nat.le_add_right _ _) (hK _)
  · exact v_none

def g_L_34 (L : Nat) (xs : Nat → Int32) (x1 x2 x3 : Nat) (x4 : Int32) (K : MM → Option (Int32 × MM)) (M : MM) : Option (Int32 × MM) :=
    b1 (scr L xs (x4 + (1 : Int32))) fun v1 =>
    b1 (scr L xs (x4 + (2 : Int32))) fun v2 =>
    b2 (f_X11_left x1 v1 v2 M) fun r3 M4 =>
    b1 (scr L xs (x4 + (1 : Int32))) fun v5 =>
    b1 (scr L xs (x4 + (2 : Int32))) fun v6 =>
    b2 (f_X12_left x2 v5 v6 M4) fun r7 M8 =>
    if r3 = r7 then
      K M8
    else
      none
set_option maxRecDepth 4000 in
theorem L_L_34 {G : Gx} (X : Cb G cL_law 8 RL room_1 false) {L : Nat} {xs : Nat → Int32} (S : SX G L xs) (hl0 : G.1.2.1.stackTraces = false) {c s : Nat} (hcs9 : csL (c + 1) (s + 6)) (x1 x2 x3 : Nat) (x4 : Int32) {K : MM → Option (Int32 × MM)} (hK : ∀ M, V G trI 8 (c + 1) (s + 6) 1687 [(0, .ref (sB + 300)), (1, .ref x1), (2, .ref x2), (3, .ref x3), (4, .int x4)] [] M (K M)) (M : MM) : V G trI 8 c s 1259 [(0, .ref (sB + 300)), (1, .ref x1), (2, .ref x2), (3, .ref x3), (4, .int x4)] [] M (g_L_34 L xs x1 x2 x3 x4 K M) := by
  unfold g_L_34
  have hcs := csL_dn hcs9
  refine v_aload_n X 1260 1 dL_law_1259 rfl rfl ?_
  refine v_aload_n X 1261 0 dL_law_1260 rfl rfl ?_
  refine v_iload X 1263 4 dL_law_1261 rfl rfl ?_
  refine v_iconst X 1264 dL_law_1263 ik_1 rfl ?_
  refine v_iadd X 1265 dL_law_1264 rfl ?_
  refine v_sld X 1266 S dL_law_1265 rfl (fun v1 => ?_)
  refine v_aload_n X 1267 0 dL_law_1266 rfl rfl ?_
  refine v_iload X 1269 4 dL_law_1267 rfl rfl ?_
  refine v_iconst X 1270 dL_law_1269 ik_2 rfl ?_
  refine v_iadd X 1271 dL_law_1270 rfl ?_
  refine v_sld X 1272 S dL_law_1271 rfl (fun v2 => ?_)
  refine v_wI X 1275 cv_X11_left ml_L_173 hcs (n1 := 4) rfl [.int v1, .int v2] rfl rfl rfl dL_law_1272 rfl (fun r M1 h => c_X11_left _ _ _ _ _ _ _ h) (fun r3 M4 => ?_)
  refine v_aload_n X 1276 2 dL_law_1275 rfl rfl ?_
  refine v_aload_n X 1277 0 dL_law_1276 rfl rfl ?_
  refine v_iload X 1279 4 dL_law_1277 rfl rfl ?_
  refine v_iconst X 1280 dL_law_1279 ik_1 rfl ?_
  refine v_iadd X 1281 dL_law_1280 rfl ?_
  refine v_sld X 1282 S dL_law_1281 rfl (fun v5 => ?_)
  refine v_aload_n X 1283 0 dL_law_1282 rfl rfl ?_
  refine v_iload X 1285 4 dL_law_1283 rfl rfl ?_
  refine v_iconst X 1286 dL_law_1285 ik_2 rfl ?_
  refine v_iadd X 1287 dL_law_1286 rfl ?_
  refine v_sld X 1288 S dL_law_1287 rfl (fun v6 => ?_)
  refine v_wI X 1291 cv_X12_left ml_L_176 hcs (n1 := 104) rfl [.int v5, .int v6] rfl rfl rfl dL_law_1288 rfl (fun r M1 h => c_X12_left _ _ _ _ _ _ _ h) (fun r7 M8 => ?_)
  refine v_iceq X 1294 1687 dL_law_1291 rfl rfl ?_ ?_
  · exact v_wd (c + 1) (s + 6) (Nat.le_add_right _ _) (Nat.le_add_right _ _) (hK _)
  · exact v_none

def g_L_35 (L : Nat) (xs : Nat → Int32) (x1 x2 x3 : Nat) (x4 : Int32) (K : MM → Option (Int32 × MM)) (M : MM) : Option (Int32 × MM) :=
    b1 (scr L xs (x4 + (1 : Int32))) fun v1 =>
    b2 (f_X11_slack x1 v1 M) fun r2 M3 =>
    b1 (scr L xs (x4 + (1 : Int32))) fun v4 =>
    b2 (f_X12_slack x2 v4 M3) fun r5 M6 =>
    if r2 = r5 then
      K M6
    else
      none
set_option maxRecDepth 4000 in
theorem L_L_35 {G : Gx} (X : Cb G cL_law 8 RL room_1 false) {L : Nat} {xs : Nat → Int32} (S : SX G L xs) (hl0 : G.1.2.1.stackTraces = false) {c s : Nat} (hcs9 : csL (c + 1) (s + 6)) (x1 x2 x3 : Nat) (x4 : Int32) {K : MM → Option (Int32 × MM)} (hK : ∀ M, V G trI 8 (c + 1) (s + 6) 1687 [(0, .ref (sB + 300)), (1, .ref x1), (2, .ref x2), (3, .ref x3), (4, .int x4)] [] M (K M)) (M : MM) : V G trI 8 c s 1296 [(0, .ref (sB + 300)), (1, .ref x1), (2, .ref x2), (3, .ref x3), (4, .int x4)] [] M (g_L_35 L xs x1 x2 x3 x4 K M) := by
  unfold g_L_35
  have hcs := csL_dn hcs9
  refine v_aload_n X 1297 1 dL_law_1296 rfl rfl ?_
  refine v_aload_n X 1298 0 dL_law_1297 rfl rfl ?_
  refine v_iload X 1300 4 dL_law_1298 rfl rfl ?_
  refine v_iconst X 1301 dL_law_1300 ik_1 rfl ?_
  refine v_iadd X 1302 dL_law_1301 rfl ?_
  refine v_sld X 1303 S dL_law_1302 rfl (fun v1 => ?_)
  refine v_wI X 1306 cv_X11_slack ml_L_177 hcs (n1 := 6) rfl [.int v1] rfl rfl rfl dL_law_1303 rfl (fun r M1 h => c_X11_slack _ _ _ _ _ _ h) (fun r2 M3 => ?_)
  refine v_aload_n X 1307 2 dL_law_1306 rfl rfl ?_
  refine v_aload_n X 1308 0 dL_law_1307 rfl rfl ?_
  refine v_iload X 1310 4 dL_law_1308 rfl rfl ?_
  refine v_iconst X 1311 dL_law_1310 ik_1 rfl ?_
  refine v_iadd X 1312 dL_law_1311 rfl ?_
  refine v_sld X 1313 S dL_law_1312 rfl (fun v4 => ?_)
  refine v_wI X 1316 cv_X12_slack ml_L_180 hcs (n1 := 6) rfl [.int v4] rfl rfl rfl dL_law_1313 rfl (fun r M1 h => c_X12_slack _ _ _ _ _ _ h) (fun r5 M6 => ?_)
  refine v_iceq X 1319 1687 dL_law_1316 rfl rfl ?_ ?_
  · exact v_wd (c + 1) (s + 6) (Nat.le_add_right _ _) (Nat.le_add_right _ _) (hK _)
  · exact v_none

def g_L_36 (L : Nat) (xs : Nat → Int32) (x1 x2 x3 : Nat) (x4 : Int32) (K : MM → Option (Int32 × MM)) (M : MM) : Option (Int32 × MM) :=
    b2 (f_X11_tight x1 M) fun r1 M2 =>
    b2 (f_X12_tight x2 M2) fun r3 M4 =>
    if r1 = r3 then
      K M4
    else
      none
set_option maxRecDepth 4000 in
theorem L_L_36 {G : Gx} (X : Cb G cL_law 8 RL room_1 false) {L : Nat} {xs : Nat → Int32} (S : SX G L xs) (hl0 : G.1.2.1.stackTraces = false) {c s : Nat} (hcs9 : csL (c + 1) (s + 6)) (x1 x2 x3 : Nat) (x4 : Int32) {K : MM → Option (Int32 × MM)} (hK : ∀ M, V G trI 8 (c + 1) (s + 6) 1687 [(0, .ref (sB + 300)), (1, .ref x1), (2, .ref x2), (3, .ref x3), (4, .int x4)] [] M (K M)) (M : MM) : V G trI 8 c s 1321 [(0, .ref (sB + 300)), (1, .ref x1), (2, .ref x2), (3, .ref x3), (4, .int x4)] [] M (g_L_36 L xs x1 x2 x3 x4 K M) := by
  unfold g_L_36
  have hcs := csL_dn hcs9
  refine v_aload_n X 1322 1 dL_law_1321 rfl rfl ?_
  refine v_wI X 1325 cv_X11_tight ml_L_181 hcs (n1 := 7) rfl [] rfl rfl rfl dL_law_1322 rfl (fun r M1 h => c_X11_tight _ _ _ _ _ h) (fun r1 M2 => ?_)
  refine v_aload_n X 1326 2 dL_law_1325 rfl rfl ?_
  refine v_wI X 1329 cv_X12_tight ml_L_184 hcs (n1 := 6) rfl [] rfl rfl rfl dL_law_1326 rfl (fun r M1 h => c_X12_tight _ _ _ _ _ h) (fun r3 M4 => ?_)
  refine v_iceq X 1332 1687 dL_law_1329 rfl rfl ?_ ?_
  · exact v_wd (c + 1) (s + 6) (Nat.le_add_right _ _) (Nat.le_add_right _ _) (hK _)
  · exact v_none

def g_L_37 (L : Nat) (xs : Nat → Int32) (x1 x2 x3 : Nat) (x4 : Int32) (K : MM → Option (Int32 × MM)) (M : MM) : Option (Int32 × MM) :=
    b1 (scr L xs (x4 + (1 : Int32))) fun v1 =>
    b1 (scr L xs (x4 + (2 : Int32))) fun v2 =>
    b2 (f_X11_chance x1 v1 v2 M) fun r3 M4 =>
    b1 (scr L xs (x4 + (1 : Int32))) fun v5 =>
    b1 (scr L xs (x4 + (2 : Int32))) fun v6 =>
    b2 (f_X12_chance x2 v5 v6 M4) fun r7 M8 =>
    if r3 = r7 then
      K M8
    else
      none
set_option maxRecDepth 4000 in
theorem L_L_37 {G : Gx} (X : Cb G cL_law 8 RL room_1 false) {L : Nat} {xs : Nat → Int32} (S : SX G L xs) (hl0 : G.1.2.1.stackTraces = false) {c s : Nat} (hcs9 : csL (c + 1) (s + 6)) (x1 x2 x3 : Nat) (x4 : Int32) {K : MM → Option (Int32 × MM)} (hK : ∀ M, V G trI 8 (c + 1) (s + 6) 1687 [(0, .ref (sB + 300)), (1, .ref x1), (2, .ref x2), (3, .ref x3), (4, .int x4)] [] M (K M)) (M : MM) : V G trI 8 c s 1334 [(0, .ref (sB + 300)), (1, .ref x1), (2, .ref x2), (3, .ref x3), (4, .int x4)] [] M (g_L_37 L xs x1 x2 x3 x4 K M) := by
  unfold g_L_37
  have hcs := csL_dn hcs9
  refine v_aload_n X 1335 1 dL_law_1334 rfl rfl ?_
  refine v_aload_n X 1336 0 dL_law_1335 rfl rfl ?_
  refine v_iload X 1338 4 dL_law_1336 rfl rfl ?_
  refine v_iconst X 1339 dL_law_1338 ik_1 rfl ?_
  refine v_iadd X 1340 dL_law_1339 rfl ?_
  refine v_sld X 1341 S dL_law_1340 rfl (fun v1 => ?_)
  refine v_aload_n X 1342 0 dL_law_1341 rfl rfl ?_
  refine v_iload X 1344 4 dL_law_1342 rfl rfl ?_
  refine v_iconst X 1345 dL_law_1344 ik_2 rfl ?_
  refine v_iadd X 1346 dL_law_1345 rfl ?_
  refine v_sld X 1347 S dL_law_1346 rfl (fun v2 => ?_)
  refine v_wI X 1350 cv_X11_chance ml_L_185 hcs (n1 := 7) rfl [.int v1, .int v2] rfl rfl rfl dL_law_1347 rfl (fun r M1 h => c_X11_chance _ _ _ _ _ _ _ h) (fun r3 M4 => ?_)
  refine v_aload_n X 1351 2 dL_law_1350 rfl rfl ?_
  refine v_aload_n X 1352 0 dL_law_1351 rfl rfl ?_
  refine v_iload X 1354 4 dL_law_1352 rfl rfl ?_
  refine v_iconst X 1355 dL_law_1354 ik_1 rfl ?_
  refine v_iadd X 1356 dL_law_1355 rfl ?_
  refine v_sld X 1357 S dL_law_1356 rfl (fun v5 => ?_)
  refine v_aload_n X 1358 0 dL_law_1357 rfl rfl ?_
  refine v_iload X 1360 4 dL_law_1358 rfl rfl ?_
  refine v_iconst X 1361 dL_law_1360 ik_2 rfl ?_
  refine v_iadd X 1362 dL_law_1361 rfl ?_
  refine v_sld X 1363 S dL_law_1362 rfl (fun v6 => ?_)
  refine v_wI X 1366 cv_X12_chance ml_L_188 hcs (n1 := 102) rfl [.int v5, .int v6] rfl rfl rfl dL_law_1363 rfl (fun r M1 h => c_X12_chance _ _ _ _ _ _ _ h) (fun r7 M8 => ?_)
  refine v_iceq X 1369 1687 dL_law_1366 rfl rfl ?_ ?_
  · exact v_wd (c + 1) (s + 6) (Nat.le_add_right _ _) (Nat.le_add_right _ _) (hK _)
  · exact v_none

def g_L_38 (L : Nat) (xs : Nat → Int32) (x1 x2 x3 : Nat) (x4 : Int32) (K : MM → Option (Int32 × MM)) (M : MM) : Option (Int32 × MM) :=
    b1 (scr L xs (x4 + (1 : Int32))) fun v1 =>
    b1 (scr L xs (x4 + (2 : Int32))) fun v2 =>
    b1 (scr L xs (x4 + (3 : Int32))) fun v3 =>
    b2 (f_X11_seen x1 v1 v2 v3 M) fun r4 M5 =>
    b1 (scr L xs (x4 + (1 : Int32))) fun v6 =>
    b1 (scr L xs (x4 + (2 : Int32))) fun v7 =>
    b1 (scr L xs (x4 + (3 : Int32))) fun v8 =>
    b2 (f_X12_seen x2 v6 v7 v8 M5) fun r9 M10 =>
    if r4 = r9 then
      K M10
    else
      none
set_option maxRecDepth 4000 in
theorem L_L_38 {G : Gx} (X : Cb G cL_law 8 RL room_1 false) {L : Nat} {xs : Nat → Int32} (S : SX G L xs) (hl0 : G.1.2.1.stackTraces = false) {c s : Nat} (hcs9 : csL (c + 1) (s + 6)) (x1 x2 x3 : Nat) (x4 : Int32) {K : MM → Option (Int32 × MM)} (hK : ∀ M, V G trI 8 (c + 1) (s + 6) 1687 [(0, .ref (sB + 300)), (1, .ref x1), (2, .ref x2), (3, .ref x3), (4, .int x4)] [] M (K M)) (M : MM) : V G trI 8 c s 1371 [(0, .ref (sB + 300)), (1, .ref x1), (2, .ref x2), (3, .ref x3), (4, .int x4)] [] M (g_L_38 L xs x1 x2 x3 x4 K M) := by
  unfold g_L_38
  have hcs := csL_dn hcs9
  refine v_aload_n X 1372 1 dL_law_1371 rfl rfl ?_
  refine v_aload_n X 1373 0 dL_law_1372 rfl rfl ?_
  refine v_iload X 1375 4 dL_law_1373 rfl rfl ?_
  refine v_iconst X 1376 dL_law_1375 ik_1 rfl ?_
  refine v_iadd X 1377 dL_law_1376 rfl ?_
  refine v_sld X 1378 S dL_law_1377 rfl (fun v1 => ?_)
  refine v_aload_n X 1379 0 dL_law_1378 rfl rfl ?_
  refine v_iload X 1381 4 dL_law_1379 rfl rfl ?_
  refine v_iconst X 1382 dL_law_1381 ik_2 rfl ?_
  refine v_iadd X 1383 dL_law_1382 rfl ?_
  refine v_sld X 1384 S dL_law_1383 rfl (fun v2 => ?_)
  refine v_aload_n X 1385 0 dL_law_1384 rfl rfl ?_
  refine v_iload X 1387 4 dL_law_1385 rfl rfl ?_
  refine v_iconst X 1388 dL_law_1387 ik_3 rfl ?_
  refine v_iadd X 1389 dL_law_1388 rfl ?_
  refine v_sld X 1390 S dL_law_1389 rfl (fun v3 => ?_)
  refine v_wI X 1393 cv_X11_seen ml_L_189 hcs (n1 := 3) rfl [.int v1, .int v2, .int v3] rfl rfl rfl dL_law_1390 rfl (fun r M1 h => c_X11_seen _ _ _ _ _ _ _ _ h) (fun r4 M5 => ?_)
  refine v_aload_n X 1394 2 dL_law_1393 rfl rfl ?_
  refine v_aload_n X 1395 0 dL_law_1394 rfl rfl ?_
  refine v_iload X 1397 4 dL_law_1395 rfl rfl ?_
  refine v_iconst X 1398 dL_law_1397 ik_1 rfl ?_
  refine v_iadd X 1399 dL_law_1398 rfl ?_
  refine v_sld X 1400 S dL_law_1399 rfl (fun v6 => ?_)
  refine v_aload_n X 1401 0 dL_law_1400 rfl rfl ?_
  refine v_iload X 1403 4 dL_law_1401 rfl rfl ?_
  refine v_iconst X 1404 dL_law_1403 ik_2 rfl ?_
  refine v_iadd X 1405 dL_law_1404 rfl ?_
  refine v_sld X 1406 S dL_law_1405 rfl (fun v7 => ?_)
  refine v_aload_n X 1407 0 dL_law_1406 rfl rfl ?_
  refine v_iload X 1409 4 dL_law_1407 rfl rfl ?_
  refine v_iconst X 1410 dL_law_1409 ik_3 rfl ?_
  refine v_iadd X 1411 dL_law_1410 rfl ?_
  refine v_sld X 1412 S dL_law_1411 rfl (fun v8 => ?_)
  refine v_wI X 1415 cv_X12_seen ml_L_192 hcs (n1 := 4) rfl [.int v6, .int v7, .int v8] rfl rfl rfl dL_law_1412 rfl (fun r M1 h => c_X12_seen _ _ _ _ _ _ _ _ h) (fun r9 M10 => ?_)
  refine v_iceq X 1418 1687 dL_law_1415 rfl rfl ?_ ?_
  · exact v_wd (c + 1) (s + 6) (Nat.le_add_right _ _) (Nat.le_add_right _ _) (hK _)
  · exact v_none

def g_L_39 (L : Nat) (xs : Nat → Int32) (x1 x2 x3 : Nat) (x4 : Int32) (K : MM → Option (Int32 × MM)) (M : MM) : Option (Int32 × MM) :=
    b2 (f_X11_forget x1 M) fun r1 M2 =>
    b2 (f_X12_forget x2 M2) fun r3 M4 =>
    if r1 = r3 then
      K M4
    else
      none
set_option maxRecDepth 4000 in
theorem L_L_39 {G : Gx} (X : Cb G cL_law 8 RL room_1 false) {L : Nat} {xs : Nat → Int32} (S : SX G L xs) (hl0 : G.1.2.1.stackTraces = false) {c s : Nat} (hcs9 : csL (c + 1) (s + 6)) (x1 x2 x3 : Nat) (x4 : Int32) {K : MM → Option (Int32 × MM)} (hK : ∀ M, V G trI 8 (c + 1) (s + 6) 1687 [(0, .ref (sB + 300)), (1, .ref x1), (2, .ref x2), (3, .ref x3), (4, .int x4)] [] M (K M)) (M : MM) : V G trI 8 c s 1420 [(0, .ref (sB + 300)), (1, .ref x1), (2, .ref x2), (3, .ref x3), (4, .int x4)] [] M (g_L_39 L xs x1 x2 x3 x4 K M) := by
  unfold g_L_39
  have hcs := csL_dn hcs9
  refine v_aload_n X 1421 1 dL_law_1420 rfl rfl ?_
  refine v_wI X 1424 cv_X11_forget ml_L_193 hcs (n1 := 1) rfl [] rfl rfl rfl dL_law_1421 rfl (fun r M1 h => c_X11_forget _ _ _ _ _ h) (fun r1 M2 => ?_)
  refine v_aload_n X 1425 2 dL_law_1424 rfl rfl ?_
  refine v_wI X 1428 cv_X12_forget ml_L_196 hcs (n1 := 1) rfl [] rfl rfl rfl dL_law_1425 rfl (fun r M1 h => c_X12_forget _ _ _ _ _ h) (fun r3 M4 => ?_)
  refine v_iceq X 1431 1687 dL_law_1428 rfl rfl ?_ ?_
  · exact v_wd (c + 1) (s + 6) (Nat.le_add_right _ _) (Nat.le_add_right _ _) (hK _)
  · exact v_none

def g_L_40 (L : Nat) (xs : Nat → Int32) (x1 x2 x3 : Nat) (x4 : Int32) (K : MM → Option (Int32 × MM)) (M : MM) : Option (Int32 × MM) :=
    b2 (f_X11_fits x1 M) fun r1 M2 =>
    b2 (f_X12_fits x2 M2) fun r3 M4 =>
    if r1 = r3 then
      K M4
    else
      none
set_option maxRecDepth 4000 in
theorem L_L_40 {G : Gx} (X : Cb G cL_law 8 RL room_1 false) {L : Nat} {xs : Nat → Int32} (S : SX G L xs) (hl0 : G.1.2.1.stackTraces = false) {c s : Nat} (hcs9 : csL (c + 1) (s + 6)) (x1 x2 x3 : Nat) (x4 : Int32) {K : MM → Option (Int32 × MM)} (hK : ∀ M, V G trI 8 (c + 1) (s + 6) 1687 [(0, .ref (sB + 300)), (1, .ref x1), (2, .ref x2), (3, .ref x3), (4, .int x4)] [] M (K M)) (M : MM) : V G trI 8 c s 1433 [(0, .ref (sB + 300)), (1, .ref x1), (2, .ref x2), (3, .ref x3), (4, .int x4)] [] M (g_L_40 L xs x1 x2 x3 x4 K M) := by
  unfold g_L_40
  have hcs := csL_dn hcs9
  refine v_aload_n X 1434 1 dL_law_1433 rfl rfl ?_
  refine v_wI X 1437 cv_X11_fits ml_L_197 hcs (n1 := 3) rfl [] rfl rfl rfl dL_law_1434 rfl (fun r M1 h => c_X11_fits _ _ _ _ _ h) (fun r1 M2 => ?_)
  refine v_aload_n X 1438 2 dL_law_1437 rfl rfl ?_
  refine v_wI X 1441 cv_X12_fits ml_L_200 hcs (n1 := 3) rfl [] rfl rfl rfl dL_law_1438 rfl (fun r M1 h => c_X12_fits _ _ _ _ _ h) (fun r3 M4 => ?_)
  refine v_iceq X 1444 1687 dL_law_1441 rfl rfl ?_ ?_
  · exact v_wd (c + 1) (s + 6) (Nat.le_add_right _ _) (Nat.le_add_right _ _) (hK _)
  · exact v_none

def g_L_41 (L : Nat) (xs : Nat → Int32) (x1 x2 x3 : Nat) (x4 : Int32) (K : MM → Option (Int32 × MM)) (M : MM) : Option (Int32 × MM) :=
    b1 (scr L xs (x4 + (1 : Int32))) fun v1 =>
    b1 (scr L xs (x4 + (2 : Int32))) fun v2 =>
    b2 (f_X11_since x1 v1 v2 M) fun r3 M4 =>
    b1 (scr L xs (x4 + (1 : Int32))) fun v5 =>
    b1 (scr L xs (x4 + (2 : Int32))) fun v6 =>
    b2 (f_X12_since x2 v5 v6 M4) fun r7 M8 =>
    if r3 = r7 then
      K M8
    else
      none
set_option maxRecDepth 4000 in
theorem L_L_41 {G : Gx} (X : Cb G cL_law 8 RL room_1 false) {L : Nat} {xs : Nat → Int32} (S : SX G L xs) (hl0 : G.1.2.1.stackTraces = false) {c s : Nat} (hcs9 : csL (c + 1) (s + 6)) (x1 x2 x3 : Nat) (x4 : Int32) {K : MM → Option (Int32 × MM)} (hK : ∀ M, V G trI 8 (c + 1) (s + 6) 1687 [(0, .ref (sB + 300)), (1, .ref x1), (2, .ref x2), (3, .ref x3), (4, .int x4)] [] M (K M)) (M : MM) : V G trI 8 c s 1446 [(0, .ref (sB + 300)), (1, .ref x1), (2, .ref x2), (3, .ref x3), (4, .int x4)] [] M (g_L_41 L xs x1 x2 x3 x4 K M) := by
  unfold g_L_41
  have hcs := csL_dn hcs9
  refine v_aload_n X 1447 1 dL_law_1446 rfl rfl ?_
  refine v_aload_n X 1448 0 dL_law_1447 rfl rfl ?_
  refine v_iload X 1450 4 dL_law_1448 rfl rfl ?_
  refine v_iconst X 1451 dL_law_1450 ik_1 rfl ?_
  refine v_iadd X 1452 dL_law_1451 rfl ?_
  refine v_sld X 1453 S dL_law_1452 rfl (fun v1 => ?_)
  refine v_aload_n X 1454 0 dL_law_1453 rfl rfl ?_
  refine v_iload X 1456 4 dL_law_1454 rfl rfl ?_
  refine v_iconst X 1457 dL_law_1456 ik_2 rfl ?_
  refine v_iadd X 1458 dL_law_1457 rfl ?_
  refine v_sld X 1459 S dL_law_1458 rfl (fun v2 => ?_)
  refine v_wI X 1462 cv_X11_since ml_L_201 hcs (n1 := 4) rfl [.int v1, .int v2] rfl rfl rfl dL_law_1459 rfl (fun r M1 h => c_X11_since _ _ _ _ _ _ _ h) (fun r3 M4 => ?_)
  refine v_aload_n X 1463 2 dL_law_1462 rfl rfl ?_
  refine v_aload_n X 1464 0 dL_law_1463 rfl rfl ?_
  refine v_iload X 1466 4 dL_law_1464 rfl rfl ?_
  refine v_iconst X 1467 dL_law_1466 ik_1 rfl ?_
  refine v_iadd X 1468 dL_law_1467 rfl ?_
  refine v_sld X 1469 S dL_law_1468 rfl (fun v5 => ?_)
  refine v_aload_n X 1470 0 dL_law_1469 rfl rfl ?_
  refine v_iload X 1472 4 dL_law_1470 rfl rfl ?_
  refine v_iconst X 1473 dL_law_1472 ik_2 rfl ?_
  refine v_iadd X 1474 dL_law_1473 rfl ?_
  refine v_sld X 1475 S dL_law_1474 rfl (fun v6 => ?_)
  refine v_wI X 1478 cv_X12_since ml_L_204 hcs (n1 := 5) rfl [.int v5, .int v6] rfl rfl rfl dL_law_1475 rfl (fun r M1 h => c_X12_since _ _ _ _ _ _ _ h) (fun r7 M8 => ?_)
  refine v_iceq X 1481 1687 dL_law_1478 rfl rfl ?_ ?_
  · exact v_wd (c + 1) (s + 6) (Nat.le_add_right _ _) (Nat.le_add_right _ _) (hK _)
  · exact v_none

def g_L_42 (L : Nat) (xs : Nat → Int32) (x1 x2 x3 : Nat) (x4 : Int32) (K : MM → Option (Int32 × MM)) (M : MM) : Option (Int32 × MM) :=
    b1 (scr L xs (x4 + (1 : Int32))) fun v1 =>
    b2 (f_X11_stayed x1 v1 M) fun r2 M3 =>
    b1 (scr L xs (x4 + (1 : Int32))) fun v4 =>
    b2 (f_X12_stayed x2 v4 M3) fun r5 M6 =>
    if r2 = r5 then
      K M6
    else
      none
set_option maxRecDepth 4000 in
theorem L_L_42 {G : Gx} (X : Cb G cL_law 8 RL room_1 false) {L : Nat} {xs : Nat → Int32} (S : SX G L xs) (hl0 : G.1.2.1.stackTraces = false) {c s : Nat} (hcs9 : csL (c + 1) (s + 6)) (x1 x2 x3 : Nat) (x4 : Int32) {K : MM → Option (Int32 × MM)} (hK : ∀ M, V G trI 8 (c + 1) (s + 6) 1687 [(0, .ref (sB + 300)), (1, .ref x1), (2, .ref x2), (3, .ref x3), (4, .int x4)] [] M (K M)) (M : MM) : V G trI 8 c s 1483 [(0, .ref (sB + 300)), (1, .ref x1), (2, .ref x2), (3, .ref x3), (4, .int x4)] [] M (g_L_42 L xs x1 x2 x3 x4 K M) := by
  unfold g_L_42
  have hcs := csL_dn hcs9
  refine v_aload_n X 1484 1 dL_law_1483 rfl rfl ?_
  refine v_aload_n X 1485 0 dL_law_1484 rfl rfl ?_
  refine v_iload X 1487 4 dL_law_1485 rfl rfl ?_
  refine v_iconst X 1488 dL_law_1487 ik_1 rfl ?_
  refine v_iadd X 1489 dL_law_1488 rfl ?_
  refine v_sld X 1490 S dL_law_1489 rfl (fun v1 => ?_)
  refine v_wI X 1493 cv_X11_stayed ml_L_205 hcs (n1 := 3) rfl [.int v1] rfl rfl rfl dL_law_1490 rfl (fun r M1 h => c_X11_stayed _ _ _ _ _ _ h) (fun r2 M3 => ?_)
  refine v_aload_n X 1494 2 dL_law_1493 rfl rfl ?_
  refine v_aload_n X 1495 0 dL_law_1494 rfl rfl ?_
  refine v_iload X 1497 4 dL_law_1495 rfl rfl ?_
  refine v_iconst X 1498 dL_law_1497 ik_1 rfl ?_
  refine v_iadd X 1499 dL_law_1498 rfl ?_
  refine v_sld X 1500 S dL_law_1499 rfl (fun v4 => ?_)
  refine v_wI X 1503 cv_X12_stayed ml_L_208 hcs (n1 := 2) rfl [.int v4] rfl rfl rfl dL_law_1500 rfl (fun r M1 h => c_X12_stayed _ _ _ _ _ _ h) (fun r5 M6 => ?_)
  refine v_iceq X 1506 1687 dL_law_1503 rfl rfl ?_ ?_
  · exact v_wd (c + 1) (s + 6) (Nat.le_add_right _ _) (Nat.le_add_right _ _) (hK _)
  · exact v_none

def g_L_43 (L : Nat) (xs : Nat → Int32) (x1 x2 x3 : Nat) (x4 : Int32) (K : MM → Option (Int32 × MM)) (M : MM) : Option (Int32 × MM) :=
    b1 (scr L xs (x4 + (1 : Int32))) fun v1 =>
    b1 (scr L xs (x4 + (2 : Int32))) fun v2 =>
    b1 (scr L xs (x4 + (3 : Int32))) fun v3 =>
    b2 (f_X11_journey x1 v1 v2 v3 M) fun r4 M5 =>
    b1 (scr L xs (x4 + (1 : Int32))) fun v6 =>
    b1 (scr L xs (x4 + (2 : Int32))) fun v7 =>
    b1 (scr L xs (x4 + (3 : Int32))) fun v8 =>
    b2 (f_X12_journey x2 v6 v7 v8 M5) fun r9 M10 =>
    if r4 = r9 then
      K M10
    else
      none
set_option maxRecDepth 4000 in
theorem L_L_43 {G : Gx} (X : Cb G cL_law 8 RL room_1 false) {L : Nat} {xs : Nat → Int32} (S : SX G L xs) (hl0 : G.1.2.1.stackTraces = false) {c s : Nat} (hcs9 : csL (c + 1) (s + 6)) (x1 x2 x3 : Nat) (x4 : Int32) {K : MM → Option (Int32 × MM)} (hK : ∀ M, V G trI 8 (c + 1) (s + 6) 1687 [(0, .ref (sB + 300)), (1, .ref x1), (2, .ref x2), (3, .ref x3), (4, .int x4)] [] M (K M)) (M : MM) : V G trI 8 c s 1508 [(0, .ref (sB + 300)), (1, .ref x1), (2, .ref x2), (3, .ref x3), (4, .int x4)] [] M (g_L_43 L xs x1 x2 x3 x4 K M) := by
  unfold g_L_43
  have hcs := csL_dn hcs9
  refine v_aload_n X 1509 1 dL_law_1508 rfl rfl ?_
  refine v_aload_n X 1510 0 dL_law_1509 rfl rfl ?_
  refine v_iload X 1512 4 dL_law_1510 rfl rfl ?_
  refine v_iconst X 1513 dL_law_1512 ik_1 rfl ?_
  refine v_iadd X 1514 dL_law_1513 rfl ?_
  refine v_sld X 1515 S dL_law_1514 rfl (fun v1 => ?_)
  refine v_aload_n X 1516 0 dL_law_1515 rfl rfl ?_
  refine v_iload X 1518 4 dL_law_1516 rfl rfl ?_
  refine v_iconst X 1519 dL_law_1518 ik_2 rfl ?_
  refine v_iadd X 1520 dL_law_1519 rfl ?_
  refine v_sld X 1521 S dL_law_1520 rfl (fun v2 => ?_)
  refine v_aload_n X 1522 0 dL_law_1521 rfl rfl ?_
  refine v_iload X 1524 4 dL_law_1522 rfl rfl ?_
  refine v_iconst X 1525 dL_law_1524 ik_3 rfl ?_
  refine v_iadd X 1526 dL_law_1525 rfl ?_
  refine v_sld X 1527 S dL_law_1526 rfl (fun v3 => ?_)
  refine v_wI X 1530 cv_X11_journey ml_L_209 hcs (n1 := 7) rfl [.int v1, .int v2, .int v3] rfl rfl rfl dL_law_1527 rfl (fun r M1 h => c_X11_journey _ _ _ _ _ _ _ _ h) (fun r4 M5 => ?_)
  refine v_aload_n X 1531 2 dL_law_1530 rfl rfl ?_
  refine v_aload_n X 1532 0 dL_law_1531 rfl rfl ?_
  refine v_iload X 1534 4 dL_law_1532 rfl rfl ?_
  refine v_iconst X 1535 dL_law_1534 ik_1 rfl ?_
  refine v_iadd X 1536 dL_law_1535 rfl ?_
  refine v_sld X 1537 S dL_law_1536 rfl (fun v6 => ?_)
  refine v_aload_n X 1538 0 dL_law_1537 rfl rfl ?_
  refine v_iload X 1540 4 dL_law_1538 rfl rfl ?_
  refine v_iconst X 1541 dL_law_1540 ik_2 rfl ?_
  refine v_iadd X 1542 dL_law_1541 rfl ?_
  refine v_sld X 1543 S dL_law_1542 rfl (fun v7 => ?_)
  refine v_aload_n X 1544 0 dL_law_1543 rfl rfl ?_
  refine v_iload X 1546 4 dL_law_1544 rfl rfl ?_
  refine v_iconst X 1547 dL_law_1546 ik_3 rfl ?_
  refine v_iadd X 1548 dL_law_1547 rfl ?_
  refine v_sld X 1549 S dL_law_1548 rfl (fun v8 => ?_)
  refine v_wI X 1552 cv_X12_journey ml_L_212 hcs (n1 := 6) rfl [.int v6, .int v7, .int v8] rfl rfl rfl dL_law_1549 rfl (fun r M1 h => c_X12_journey _ _ _ _ _ _ _ _ h) (fun r9 M10 => ?_)
  refine v_iceq X 1555 1687 dL_law_1552 rfl rfl ?_ ?_
  · exact v_wd (c + 1) (s + 6) (Nat.le_add_right _ _) (Nat.le_add_right _ _) (hK _)
  · exact v_none

def g_L_44 (L : Nat) (xs : Nat → Int32) (x1 x2 x3 : Nat) (x4 : Int32) (K : MM → Option (Int32 × MM)) (M : MM) : Option (Int32 × MM) :=
    b1 (scr L xs (x4 + (1 : Int32))) fun v1 =>
    b2 (f_X11_keep x1 v1 M) fun r2 M3 =>
    b1 (scr L xs (x4 + (1 : Int32))) fun v4 =>
    b2 (f_X12_keep x2 v4 M3) fun r5 M6 =>
    if r2 = r5 then
      K M6
    else
      none
set_option maxRecDepth 4000 in
theorem L_L_44 {G : Gx} (X : Cb G cL_law 8 RL room_1 false) {L : Nat} {xs : Nat → Int32} (S : SX G L xs) (hl0 : G.1.2.1.stackTraces = false) {c s : Nat} (hcs9 : csL (c + 1) (s + 6)) (x1 x2 x3 : Nat) (x4 : Int32) {K : MM → Option (Int32 × MM)} (hK : ∀ M, V G trI 8 (c + 1) (s + 6) 1687 [(0, .ref (sB + 300)), (1, .ref x1), (2, .ref x2), (3, .ref x3), (4, .int x4)] [] M (K M)) (M : MM) : V G trI 8 c s 1557 [(0, .ref (sB + 300)), (1, .ref x1), (2, .ref x2), (3, .ref x3), (4, .int x4)] [] M (g_L_44 L xs x1 x2 x3 x4 K M) := by
  unfold g_L_44
  have hcs := csL_dn hcs9
  refine v_aload_n X 1558 1 dL_law_1557 rfl rfl ?_
  refine v_aload_n X 1559 0 dL_law_1558 rfl rfl ?_
  refine v_iload X 1561 4 dL_law_1559 rfl rfl ?_
  refine v_iconst X 1562 dL_law_1561 ik_1 rfl ?_
  refine v_iadd X 1563 dL_law_1562 rfl ?_
  refine v_sld X 1564 S dL_law_1563 rfl (fun v1 => ?_)
  refine v_wI X 1567 cv_X11_keep ml_L_213 hcs (n1 := 3) rfl [.int v1] rfl rfl rfl dL_law_1564 rfl (fun r M1 h => c_X11_keep _ _ _ _ _ _ h) (fun r2 M3 => ?_)
  refine v_aload_n X 1568 2 dL_law_1567 rfl rfl ?_
  refine v_aload_n X 1569 0 dL_law_1568 rfl rfl ?_
  refine v_iload X 1571 4 dL_law_1569 rfl rfl ?_
  refine v_iconst X 1572 dL_law_1571 ik_1 rfl ?_
  refine v_iadd X 1573 dL_law_1572 rfl ?_
  refine v_sld X 1574 S dL_law_1573 rfl (fun v4 => ?_)
  refine v_wI X 1577 cv_X12_keep ml_L_216 hcs (n1 := 2) rfl [.int v4] rfl rfl rfl dL_law_1574 rfl (fun r M1 h => c_X12_keep _ _ _ _ _ _ h) (fun r5 M6 => ?_)
  refine v_iceq X 1580 1687 dL_law_1577 rfl rfl ?_ ?_
  · exact v_wd (c + 1) (s + 6) (Nat.le_add_right _ _) (Nat.le_add_right _ _) (hK _)
  · exact v_none

def g_L_45 (L : Nat) (xs : Nat → Int32) (x1 x2 x3 : Nat) (x4 : Int32) (K : MM → Option (Int32 × MM)) (M : MM) : Option (Int32 × MM) :=
    b1 (scr L xs (x4 + (1 : Int32))) fun v1 =>
    b2 (f_X11_again x1 v1 M) fun r2 M3 =>
    b1 (scr L xs (x4 + (1 : Int32))) fun v4 =>
    b2 (f_X12_again x2 v4 M3) fun r5 M6 =>
    if r2 = r5 then
      K M6
    else
      none
set_option maxRecDepth 4000 in
theorem L_L_45 {G : Gx} (X : Cb G cL_law 8 RL room_1 false) {L : Nat} {xs : Nat → Int32} (S : SX G L xs) (hl0 : G.1.2.1.stackTraces = false) {c s : Nat} (hcs9 : csL (c + 1) (s + 6)) (x1 x2 x3 : Nat) (x4 : Int32) {K : MM → Option (Int32 × MM)} (hK : ∀ M, V G trI 8 (c + 1) (s + 6) 1687 [(0, .ref (sB + 300)), (1, .ref x1), (2, .ref x2), (3, .ref x3), (4, .int x4)] [] M (K M)) (M : MM) : V G trI 8 c s 1582 [(0, .ref (sB + 300)), (1, .ref x1), (2, .ref x2), (3, .ref x3), (4, .int x4)] [] M (g_L_45 L xs x1 x2 x3 x4 K M) := by
  unfold g_L_45
  have hcs := csL_dn hcs9
  refine v_aload_n X 1583 1 dL_law_1582 rfl rfl ?_
  refine v_aload_n X 1584 0 dL_law_1583 rfl rfl ?_
  refine v_iload X 1586 4 dL_law_1584 rfl rfl ?_
  refine v_iconst X 1587 dL_law_1586 ik_1 rfl ?_
  refine v_iadd X 1588 dL_law_1587 rfl ?_
  refine v_sld X 1589 S dL_law_1588 rfl (fun v1 => ?_)
  refine v_wI X 1592 cv_X11_again ml_L_217 hcs (n1 := 3) rfl [.int v1] rfl rfl rfl dL_law_1589 rfl (fun r M1 h => c_X11_again _ _ _ _ _ _ h) (fun r2 M3 => ?_)
  refine v_aload_n X 1593 2 dL_law_1592 rfl rfl ?_
  refine v_aload_n X 1594 0 dL_law_1593 rfl rfl ?_
  refine v_iload X 1596 4 dL_law_1594 rfl rfl ?_
  refine v_iconst X 1597 dL_law_1596 ik_1 rfl ?_
  refine v_iadd X 1598 dL_law_1597 rfl ?_
  refine v_sld X 1599 S dL_law_1598 rfl (fun v4 => ?_)
  refine v_wI X 1602 cv_X12_again ml_L_220 hcs (n1 := 2) rfl [.int v4] rfl rfl rfl dL_law_1599 rfl (fun r M1 h => c_X12_again _ _ _ _ _ _ h) (fun r5 M6 => ?_)
  refine v_iceq X 1605 1687 dL_law_1602 rfl rfl ?_ ?_
  · exact v_wd (c + 1) (s + 6) (Nat.le_add_right _ _) (Nat.le_add_right _ _) (hK _)
  · exact v_none

def g_L_46 (L : Nat) (xs : Nat → Int32) (x1 x2 x3 : Nat) (x4 : Int32) (K : MM → Option (Int32 × MM)) (M : MM) : Option (Int32 × MM) :=
    b1 (scr L xs (x4 + (1 : Int32))) fun v1 =>
    b2 (f_X11_count x1 v1 M) fun r2 M3 =>
    b1 (scr L xs (x4 + (1 : Int32))) fun v4 =>
    b2 (f_X12_count x2 v4 M3) fun r5 M6 =>
    if r2 = r5 then
      K M6
    else
      none
set_option maxRecDepth 4000 in
theorem L_L_46 {G : Gx} (X : Cb G cL_law 8 RL room_1 false) {L : Nat} {xs : Nat → Int32} (S : SX G L xs) (hl0 : G.1.2.1.stackTraces = false) {c s : Nat} (hcs9 : csL (c + 1) (s + 6)) (x1 x2 x3 : Nat) (x4 : Int32) {K : MM → Option (Int32 × MM)} (hK : ∀ M, V G trI 8 (c + 1) (s + 6) 1687 [(0, .ref (sB + 300)), (1, .ref x1), (2, .ref x2), (3, .ref x3), (4, .int x4)] [] M (K M)) (M : MM) : V G trI 8 c s 1607 [(0, .ref (sB + 300)), (1, .ref x1), (2, .ref x2), (3, .ref x3), (4, .int x4)] [] M (g_L_46 L xs x1 x2 x3 x4 K M) := by
  unfold g_L_46
  have hcs := csL_dn hcs9
  refine v_aload_n X 1608 1 dL_law_1607 rfl rfl ?_
  refine v_aload_n X 1609 0 dL_law_1608 rfl rfl ?_
  refine v_iload X 1611 4 dL_law_1609 rfl rfl ?_
  refine v_iconst X 1612 dL_law_1611 ik_1 rfl ?_
  refine v_iadd X 1613 dL_law_1612 rfl ?_
  refine v_sld X 1614 S dL_law_1613 rfl (fun v1 => ?_)
  refine v_wI X 1617 cv_X11_count ml_L_221 hcs (n1 := 2) rfl [.int v1] rfl rfl rfl dL_law_1614 rfl (fun r M1 h => c_X11_count _ _ _ _ _ _ h) (fun r2 M3 => ?_)
  refine v_aload_n X 1618 2 dL_law_1617 rfl rfl ?_
  refine v_aload_n X 1619 0 dL_law_1618 rfl rfl ?_
  refine v_iload X 1621 4 dL_law_1619 rfl rfl ?_
  refine v_iconst X 1622 dL_law_1621 ik_1 rfl ?_
  refine v_iadd X 1623 dL_law_1622 rfl ?_
  refine v_sld X 1624 S dL_law_1623 rfl (fun v4 => ?_)
  refine v_wI X 1627 cv_X12_count ml_L_224 hcs (n1 := 2) rfl [.int v4] rfl rfl rfl dL_law_1624 rfl (fun r M1 h => c_X12_count _ _ _ _ _ _ h) (fun r5 M6 => ?_)
  refine v_iceq X 1630 1687 dL_law_1627 rfl rfl ?_ ?_
  · exact v_wd (c + 1) (s + 6) (Nat.le_add_right _ _) (Nat.le_add_right _ _) (hK _)
  · exact v_none

def g_L_47 (L : Nat) (xs : Nat → Int32) (x1 x2 x3 : Nat) (x4 : Int32) (K : MM → Option (Int32 × MM)) (M : MM) : Option (Int32 × MM) :=
    b1 (scr L xs (x4 + (1 : Int32))) fun v1 =>
    b2 (f_L_row x1 v1 x3 M) fun r2 M3 =>
    b1 (scr L xs (x4 + (1 : Int32))) fun v4 =>
    b2 (f_X12_row x2 v4 M3) fun r5 M6 =>
    b2 (f_X12_thrown x2 M6) fun r7 M8 =>
    if r7 = r2 then
      if r2 = 0 then
        b1 (ldL x3 (0 : Int32) M8) fun v9 =>
        if (lg_cmp v9 r5) = 0 then
          K M8
        else
          none
      else
        K M8
    else
      none
set_option maxRecDepth 4000 in
theorem L_L_47 {G : Gx} (X : Cb G cL_law 8 RL room_1 false) {L : Nat} {xs : Nat → Int32} (S : SX G L xs) (hl0 : G.1.2.1.stackTraces = false) {c s : Nat} (hcs9 : csL (c + 1) (s + 6)) (x1 x2 x3 : Nat) (x4 : Int32) {K : MM → Option (Int32 × MM)} (hK : ∀ M, V G trI 8 (c + 1) (s + 6) 1687 [(0, .ref (sB + 300)), (1, .ref x1), (2, .ref x2), (3, .ref x3), (4, .int x4)] [] M (K M)) (M : MM) : V G trI 8 c s 1632 [(0, .ref (sB + 300)), (1, .ref x1), (2, .ref x2), (3, .ref x3), (4, .int x4)] [] M (g_L_47 L xs x1 x2 x3 x4 K M) := by
  unfold g_L_47
  have hcs := csL_dn hcs9
  refine v_aload_n X 1633 1 dL_law_1632 rfl rfl ?_
  refine v_aload_n X 1634 0 dL_law_1633 rfl rfl ?_
  refine v_iload X 1636 4 dL_law_1634 rfl rfl ?_
  refine v_iconst X 1637 dL_law_1636 ik_1 rfl ?_
  refine v_iadd X 1638 dL_law_1637 rfl ?_
  refine v_sld X 1639 S dL_law_1638 rfl (fun v1 => ?_)
  refine v_aload_n X 1640 3 dL_law_1639 rfl rfl ?_
  refine v_sIW X 1643 csw_row ml_L_225 hcs (n1 := 8) rfl [.ref x1, .int v1, .ref x3] rfl rfl rfl dL_law_1640 rfl (fun r M1 h => c_L_row _ hl0 _ _ _ _ _ _ h) (fun r2 M3 => ?_)
  have hcs := hcs9
  refine v_istore (lv' := [(0, .ref (sB + 300)), (1, .ref x1), (2, .ref x2), (3, .ref x3), (4, .int x4), (5, .int r2)]) X 1645 dL_law_1643 (by decide) rfl rfl ?_
  refine v_aload_n X 1646 2 dL_law_1645 rfl rfl ?_
  refine v_aload_n X 1647 0 dL_law_1646 rfl rfl ?_
  refine v_iload X 1649 4 dL_law_1647 rfl rfl ?_
  refine v_iconst X 1650 dL_law_1649 ik_1 rfl ?_
  refine v_iadd X 1651 dL_law_1650 rfl ?_
  refine v_sld X 1652 S dL_law_1651 rfl (fun v4 => ?_)
  refine v_wL X 1655 cv_X12_row ml_L_228 hcs (n1 := 2) rfl [.int v4] rfl rfl rfl dL_law_1652 rfl (fun r M1 h => c_X12_row _ _ _ _ _ _ h) (fun r5 M6 => ?_)
  refine v_lstore (lv' := [(0, .ref (sB + 300)), (1, .ref x1), (2, .ref x2), (3, .ref x3), (4, .int x4), (5, .int r2), (6, .long r5)]) X 1657 dL_law_1655 (by decide) rfl rfl ?_
  refine v_aload_n X 1658 2 dL_law_1657 rfl rfl ?_
  refine v_wI X 1661 cv_X12_thrown ml_L_62 hcs (n1 := 1) rfl [] rfl rfl rfl dL_law_1658 rfl (fun r M1 h => c_X12_thrown _ _ _ _ _ h) (fun r7 M8 => ?_)
  refine v_iload X 1663 5 dL_law_1661 rfl rfl ?_
  refine v_iceq X 1666 1668 dL_law_1663 rfl rfl ?_ ?_
  · refine v_iload X 1670 5 dL_law_1668 rfl rfl ?_
    refine v_ifne X 1673 1684 dL_law_1670 rfl rfl ?_ ?_
    · refine v_goto X 1687 dL_law_1684 rfl ?_
      exact v_sb [0, 1, 2, 3, 4] (hK _) rfl
    · refine v_aload_n X 1674 3 dL_law_1673 rfl rfl ?_
      refine v_iconst X 1675 dL_law_1674 ik_0 rfl ?_
      refine v_lald X 1676 dL_law_1675 rfl (fun v9 => ?_)
      refine v_lload X 1678 6 dL_law_1676 rfl rfl ?_
      refine v_lcmp X 1679 dL_law_1678 rfl ?_
      refine v_ifeq X 1682 1684 dL_law_1679 rfl rfl ?_ ?_
      · refine v_goto X 1687 dL_law_1684 rfl ?_
        exact v_sb [0, 1, 2, 3, 4] (hK _) rfl
      · exact v_none
  · exact v_none

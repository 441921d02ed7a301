/-! an index that is in its bounds -/
def f_J3_checkIndex_8e157 (x0 x1 : Int32) (M : MM) : Option (Int32 × MM) := if x0 < 0 then none else if x0 < x1 then some (x0, M) else none
theorem c_J3_checkIndex_8e157 {tg : Bool} (l : Launch) (x0 x1 : Int32) (fz : Value) (hf : fz.category = 1) (M : MM) (r : Int32) (M1 : MM) (h : f_J3_checkIndex_8e157 x0 x1 M = some (r, M1)) : CtAt l yJ3_checkIndex_8e157 cJ3_checkIndex_8e157 3 (some .int) (RM 1 0 0) tg [.int x0, .int x1, fz] M (some (.int r)) M1 := by
  refine ct_of (tr := trI) (o := (r, M1)) (by decide) ?_ [(0, .int x0), (1, .int x1), (2, fz)] rfl h (fun G X Y hn hl => ?_)
  · have : (if fz.category = 2 then [Slot.val fz, Slot.second] else [Slot.val fz]) = [Slot.val fz] := if_neg (by rw [hf]; decide)
    show ([Slot.val (.int x0)] ++ ([Slot.val (.int x1)] ++ ((if fz.category = 2 then [Slot.val fz, Slot.second] else [Slot.val fz]) ++ []))).length ≤ 3
    rw [this]
    exact Nat.le_refl 3
  · unfold f_J3_checkIndex_8e157
    refine v_iload_n X 1 0 dJ3_checkIndex_8e157_0 rfl rfl ?_
    refine v_iflt X 4 9 dJ3_checkIndex_8e157_1 rfl rfl v_none ?_
    refine v_iload_n X 5 0 dJ3_checkIndex_8e157_4 rfl rfl ?_
    refine v_iload_n X 6 1 dJ3_checkIndex_8e157_5 rfl rfl ?_
    refine v_iclt X 9 16 dJ3_checkIndex_8e157_6 rfl rfl ?_ v_none
    refine v_iload_n X 17 0 dJ3_checkIndex_8e157_16 rfl rfl ?_
    exact v_iret X Y (Nat.le_refl _) (Nat.le_refl _) dJ3_checkIndex_8e157_17
def f_J0_checkIndex_df160 (x0 x1 : Int32) (M : MM) : Option MM := b2 (f_J3_checkIndex_8e157 x0 x1 M) fun _ M2 => some M2
theorem c_J0_checkIndex_df160 {tg : Bool} (l : Launch) (x0 x1 : Int32) (M : MM) (M1 : MM) (h : f_J0_checkIndex_df160 x0 x1 M = some M1) : CtAt l yJ0_checkIndex_df160 cJ0_checkIndex_df160 2 none (RM 2 0 0) tg [.int x0, .int x1] M none M1 := by
  refine ct_of (tr := trV) (o := M1) (by decide) (Nat.le_of_ble_eq_true rfl) [(0, .int x0), (1, .int x1)] rfl h (fun G X Y hn hl => ?_)
  unfold f_J0_checkIndex_df160
  refine v_iload_n X 1 0 dJ0_checkIndex_df160_0 rfl rfl ?_
  refine v_iload_n X 2 1 dJ0_checkIndex_df160_1 rfl rfl ?_
  refine v_getsF X 5 sf_1053 dJ0_checkIndex_df160_2 rfl (fun fz hf => ?_)
  refine v_sI X 8 cs_J3_checkIndex_8e157 ml_J0_1059 (n1 := 1) rfl [.int x0, .int x1, fz] rfl rfl rfl dJ0_checkIndex_df160_5 rfl (fun r M1 h => c_J3_checkIndex_8e157 _ _ _ fz hf _ _ _ h) (fun r M2 => ?_)
  refine v_pop X 9 dJ0_checkIndex_df160_8 rfl rfl ?_
  exact v_vret X Y (Nat.le_refl _) (Nat.le_refl _) dJ0_checkIndex_df160_9

/-! texts of the programs: what they hold, whatever the memory -/
def UM (g : MM → Option (Int32 × MM)) : Prop := ∀ M, g M = (g M00).map (fun r => (r.1, M))
theorem um_v {g : MM → Option (Int32 × MM)} (h : UM g) {v : Int32} (e : (g M00).map (fun r => r.1) = some v) (M : MM) : g M = some (v, M) := by
  rw [h M]
  cases hg : g M00 with
  | none => rw [hg] at e; cases e
  | some r =>
    rw [hg] at e
    cases e
    rfl
theorem um_some (v : Int32) : UM (fun M => some (v, M)) := fun _ => rfl
theorem um_none : UM (fun _ => none) := fun _ => rfl
theorem um_if {c : Prop} [Decidable c] {g h : MM → Option (Int32 × MM)} (hg : UM g) (hh : UM h) : UM (fun M => if c then g M else h M) := by
  intro M
  show (if c then g M else h M) = (if c then g M00 else h M00).map _
  by_cases hc : c
  · rw [if_pos hc, if_pos hc]; exact hg M
  · rw [if_neg hc, if_neg hc]; exact hh M
theorem um_b1 {α : Type} (o : Option α) {F : α → MM → Option (Int32 × MM)} (h : ∀ v, UM (F v)) : UM (fun M => b1 o (fun v => F v M)) := by
  intro M
  cases o with
  | none => rfl
  | some v => exact h v M
theorem um_bn {α : Type} (v : α) {F : α → MM → Option (Int32 × MM)} (h : UM (F v)) : UM (fun M => bn v (fun v => F v M)) := fun M => h M
theorem um_b2 {g : MM → Option (Int32 × MM)} (hg : UM g) {F : Int32 → MM → Option (Int32 × MM)} (h : ∀ v, UM (F v)) : UM (fun M => b2 (g M) (fun r M1 => F r M1)) := by
  intro M
  show b2 (g M) (fun r M1 => F r M1) = (b2 (g M00) (fun r M1 => F r M1)).map _
  cases e : g M00 with
  | none => rw [hg M, e]; rfl
  | some r =>
    have e1 : g M = some (r.1, M) := by rw [hg M, e]; rfl
    have e2 : g M00 = some (r.1, M00) := by have := hg M00; rw [e] at this; rw [e]; exact this
    rw [e] at e2
    rw [e1, e2, b2_s, b2_s]
    exact h r.1 M
theorem um_rz (v : Int32) : UM (fun M => rz v M) := by unfold rz; exact um_if (um_some _) um_none
theorem um_rB (v : Int32) : UM (fun M => rB v M) := by unfold rB; exact um_if (um_some _) um_none
theorem um_rC (v : Int32) : UM (fun M => rC v M) := by unfold rC; exact um_if (um_some _) um_none
theorem um_cod (x : Nat) : UM (fun M => f_J0_coder_7d493 x M) := by
  unfold f_J0_coder_7d493 f_J0_coder_7d493_0
  exact um_if (um_if (um_rB _) (um_b1 _ (fun v => um_rB v))) um_none
theorem um_len (x : Nat) : UM (fun M => f_J0_length_8abf5 x M) := by
  unfold f_J0_length_8abf5 f_J0_length_8abf5_0
  exact um_if (um_b1 _ (fun v1 => um_b1 _ (fun v2 => um_b2 (um_cod x) (fun v => um_some _)))) um_none
theorem um_lat (x : Nat) : UM (fun M => f_J0_isLatin1_aae02 x M) := by
  unfold f_J0_isLatin1_aae02 f_J0_isLatin1_aae02_0
  exact um_if (um_if (um_rz _) (um_b1 _ (fun v => um_if (um_rz _) (um_rz _)))) um_none
theorem um_chk (x y : Int32) {F : MM → Option (Int32 × MM)} (h : UM F) : UM (fun M => b1 (f_J0_checkIndex_df160 x y M) F) := by
  intro M
  show b1 (f_J0_checkIndex_df160 x y M) F = (b1 (f_J0_checkIndex_df160 x y M00) F).map _
  unfold f_J0_checkIndex_df160 f_J3_checkIndex_8e157
  by_cases h1 : x < 0
  · rw [if_pos h1, if_pos h1]; rfl
  · rw [if_neg h1, if_neg h1]
    by_cases h2 : x < y
    · rw [if_pos h2, if_pos h2, b2_s, b2_s, b1_s, b1_s]; exact h M
    · rw [if_neg h2, if_neg h2]; rfl
theorem um_ch1 (x : Nat) (i : Int32) : UM (fun M => f_J1_charAt_3b067 x i M) := by
  unfold f_J1_charAt_3b067 f_J1_charAt_3b067_0
  exact um_b1 _ (fun v1 => um_chk _ _ (um_b1 _ (fun v3 => um_rC _)))
theorem um_ch (x : Nat) (i : Int32) : UM (fun M => f_J0_charAt_5068e x i M) := by
  unfold f_J0_charAt_5068e f_J0_charAt_5068e_0
  exact um_if (um_b2 (um_lat x) (fun r => um_if (um_b1 _ (fun v => um_none)) (um_b1 _ (fun v => um_b2 (um_ch1 v i) (fun r => um_rC r))))) um_none
theorem um_enc (x : Int32) : UM (fun M => f_J1_canEncode_9a6ad x M) := by
  unfold f_J1_canEncode_9a6ad f_J1_canEncode_9a6ad_0
  exact um_if (um_rz _) (um_if (um_rz _) (um_rz _))
theorem um_ic7 : ∀ (n : Nat) (x0 : Nat) (x3 x4 x5 : Int32), UM (fun M => f_J1_indexOfChar_4cfef_7 n x0 x3 x4 x5 M)
  | 0, _, _, _, _ => um_none
  | n + 1, x0, x3, x4, x5 => um_if (um_some _) (um_b1 _ (fun v => um_if (um_some _) (um_bn _ (um_ic7 n x0 x3 x4 _))))
theorem um_ic (x0 : Nat) (x1 x2 x3 : Int32) : UM (fun M => f_J1_indexOfChar_4cfef x0 x1 x2 x3 M) := by
  unfold f_J1_indexOfChar_4cfef f_J1_indexOfChar_4cfef_0
  exact um_bn (F := fun y M => f_J1_indexOfChar_4cfef_7 1024 x0 x3 y x2 M) _ (um_ic7 1024 _ _ _ _)
theorem um_ix1 (x0 : Nat) (x1 x2 x3 : Int32) : UM (fun M => f_J1_indexOf_4cfef x0 x1 x2 x3 M) := by
  unfold f_J1_indexOf_4cfef f_J1_indexOf_4cfef_0
  exact um_b2 (um_enc x1) (fun r => um_if (um_some _) (um_bn _ (um_b1 _ (fun v => um_bn _ (um_if (um_b2 (um_ic _ _ _ _) (fun r => um_some r)) (um_some _))))))
theorem um_ix0 (x0 : Nat) (x1 x2 : Int32) : UM (fun M => f_J0_indexOf_7cf53 x0 x1 x2 M) := by
  unfold f_J0_indexOf_7cf53 f_J0_indexOf_7cf53_0
  exact um_if (um_b2 (um_lat x0) (fun r => um_if (um_b1 _ (fun v => um_b2 (um_len x0) (fun r => um_none))) (um_b1 _ (fun v => um_b2 (um_len x0) (fun r => um_b2 (um_ix1 v x1 x2 r) (fun q => um_some q)))))) um_none
theorem um_ix (x0 : Nat) (x1 : Int32) : UM (fun M => f_J0_indexOf_0f7a4 x0 x1 M) := by
  unfold f_J0_indexOf_0f7a4 f_J0_indexOf_0f7a4_0
  exact um_if (um_b2 (um_ix0 x0 x1 0) (fun r => um_some r)) um_none
def cs0 : List Nat := [119, 97, 115, 110, 105, 101, 121, 122]
def csT : List (List Nat) := [cs0, [112], [101], [43, 42], [60, 62, 61], [43, 45], [42, 47], [103, 120, 115]]
def csK (k : Nat) : List Nat := csT.getD k []
/-- the first place of a sign -/
def ixO (cs : List Nat) (c : Nat) : Nat → Nat → Option Nat
  | 0, _ => none
  | j + 1, i => if cs.getD i 0 = c then some i else ixO cs c j (i + 1)
def ixS (k c : Nat) : Option Nat := ixO (csK k) c (csK k).length 0
theorem st_len0 : ∀ k, k < 8 → (f_J0_length_8abf5 (sB + k) M00).map (fun r => r.1) = some (nI (csK k).length) := by decide +kernel
theorem st_ch0 : ∀ k, k < 8 → ∀ i, i < (csK k).length → (f_J0_charAt_5068e (sB + k) (nI i) M00).map (fun r => r.1) = some (nI ((csK k).getD i 0)) := by decide +kernel
theorem st_l8 : ∀ k, k < 8 → (csK k).length ≤ 8 := by decide +kernel
theorem st_c8 : ∀ k, k < 8 → ∀ i, i < (csK k).length → (csK k).getD i 0 < 256 := by decide +kernel
theorem st_ix0 : ∀ c, c < 256 → (f_J0_indexOf_0f7a4 (sB + 0) (i2cv (nI c)) M00).map (fun r => r.1) = some (enO (-1) (ixS 0 c)) := by decide +kernel
theorem st_lng {k : Nat} (hk : k < 8) (M : MM) : f_J0_length_8abf5 (sB + k) M = some (nI (csK k).length, M) := um_v (um_len _) (st_len0 k hk) M
theorem st_ch {k i : Nat} (hk : k < 8) (hi : i < (csK k).length) (M : MM) : f_J0_charAt_5068e (sB + k) (nI i) M = some (nI ((csK k).getD i 0), M) := um_v (um_ch _ _) (st_ch0 k hk i hi) M
theorem st_ix {c : Nat} (hc : c < 256) (M : MM) : f_J0_indexOf_0f7a4 (sB + 0) (i2cv (nI c)) M = some (enO (-1) (ixS 0 c), M) := um_v (um_ix _ _) (st_ix0 c hc) M
def ixP1 (T : Nat → Nat) (l a k : Nat) : Option Nat := if a < l then ixS k (T a) else none
theorem ixO_b {cs : List Nat} {c : Nat} : ∀ {j i v : Nat}, ixO cs c j i = some v → v < i + j
  | 0, i, v, h => by cases h
  | j + 1, i, v, h => by
    have h : (if cs.getD i 0 = c then some i else ixO cs c j (i + 1)) = some v := h
    by_cases e : cs.getD i 0 = c
    · rw [if_pos e] at h; cases h; omega
    · rw [if_neg e] at h
      have := ixO_b h
      omega
theorem ixP_b {T : Nat → Nat} {l a k v : Nat} (hk : k < 8) (h : ixP1 T l a k = some v) : a < l ∧ v < 8 := by
  unfold ixP1 at h
  by_cases hl : a < l
  · rw [if_pos hl] at h
    have := ixO_b h
    have := st_l8 k hk
    omega
  · rw [if_neg hl] at h; cases h
section AMO
variable {s : St} {T : Nat → Nat} {n l a : Nat} {M : MM}
theorem r_among (h : TR s T n l a M) {k : Nat} (hk : k < 8) : f_X12_among 143 (sB + k) M = some (enO (-1) (ixP1 T l a k), M) := by
  obtain ⟨b1', b2', b3', b4'⟩ := h.2.2.2.2
  have h8 := st_l8 k hk
  have loop : ∀ (j i f : Nat), i + j = (csK k).length → j < f → f_X12_among_2 f 143 (sB + k) (nI i) M = some (enO (-1) (if a < l then ixO (csK k) (T a) j i else none), M) := by
    intro j
    induction j with
    | zero =>
      intro i f hi hf
      cases f with
      | zero => omega
      | succ f =>
        rw [f_X12_among_2, st_lng hk, b2_s, if_pos (nI_le (by omega) (by omega))]
        have : (if a < l then ixO (csK k) (T a) 0 i else none) = none := by split <;> rfl
        rw [this]; rfl
    | succ j ih =>
      intro i f hi hf
      cases f with
      | zero => omega
      | succ f =>
        rw [f_X12_among_2, st_lng hk, b2_s, if_neg (nI_ge (by omega) (by omega)), gI_k 19 (tr_O h), b1_s, gI_k 20 (tr_O h), b1_s, h.2.1, h.2.2.1]
        by_cases hl : a < l
        · have hT := b4' a hl
          have hc := st_c8 k hk i (by omega)
          rw [if_neg (nI_ge hl (by omega)), st_ch hk (by omega), b2_s, sh_R h.1.1 (a := 143) (k := 17) (b := 155) 12 (by decide) rfl (by decide), b1_s, gI_k 19 (tr_O h), b1_s, h.2.2.1, ld_155 h.1.1 (by omega), b1_s, h.2.2.2.1 a hl, if_pos hl]
          show _ = some (enO (-1) (if (csK k).getD i 0 = T a then some i else ixO (csK k) (T a) j (i + 1)), M)
          by_cases e : (csK k).getD i 0 = T a
          · rw [if_pos (by rw [e]), if_pos e]; rfl
          · rw [if_neg (by rw [nI_eq (by omega) (by omega)]; exact e), bn_s, nI_1, if_neg e]
            have := ih (i + 1) f (by omega) (by omega)
            rw [if_pos hl] at this
            exact this
        · rw [if_pos (nI_le (by omega) (by omega)), if_neg hl]; rfl
  unfold f_X12_among f_X12_among_0
  rw [if_pos (tr_O h), ← nI_0]
  exact loop (csK k).length 0 1024 (by omega) (by omega)
theorem r_tkOf (h : TR s T n l a M) {k : Nat} (hk : k < 8) : ∃ M', f_X12_takesOf 143 (sB + k) M = some (enO (-1) (ixP1 T l a k), M') ∧ TR s T n l (adO (ixP1 T l a k) a) M' ∧ Fr w19 M M' ∧ mR M' = mR M := by
  unfold f_X12_takesOf f_X12_takesOf_0 f_X12_takesOf_20
  rw [if_pos (tr_O h), r_among h hk, b2_s, gI_k 19 (tr_O h), b1_s, h.2.2.1]
  cases hx : ixP1 T l a k with
  | none =>
    refine ⟨sI M 143 19 (nI a), ?_, h.mv h.2.2.2.2.2.2.1, frmr M _, rfl⟩
    show (if (-1 : Int32) < 0 then _ else _) = _
    rw [if_pos (by decide), show f_X12_flag 0 M = some (0, M) from e_flag false M, b2_s, Int32.add_zero, pI_k 19 _ (tr_O h), b1_s]
  | some v =>
    have hb := ixP_b hk hx
    refine ⟨sI M 143 19 (nI (a + 1)), ?_, h.mv (a' := a + 1) (by omega), frmr M _, rfl⟩
    show (if nI v < 0 then _ else _) = _
    rw [if_neg (nI_pos (by omega)), show f_X12_flag 1 M = some (1, M) from e_flag true M, b2_s, nI_1, pI_k 19 _ (tr_O h), b1_s]
end AMO

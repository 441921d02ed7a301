/-! bags placed -/
def wPk (a k : Nat) : Prop := a = 138 ∨ a = 140
def wPq (a k : Nat) : Prop := a = 174 ∨ a = 175
theorem rmU_b {room : Nat → Nat} {l x : Nat} (h : ∀ l, l < 8 → room l ≤ 20) : ∀ i, i < 8 → rmU room l x i ≤ 20 := by
  intro i hi
  have := h i hi
  unfold rmU
  split <;> omega
theorem c_place {w : Nat → Nat} {S : Nat → Bool} {m c : Nat} (hm : m ≤ 8) (hc : c ≤ 8) (hw9 : ∀ i, i < m → w i ≤ 9) (hS : ∀ i, i < m → S i = true) : ∀ (j k f u : Nat) (room : Nat → Nat) (M : MM), k + j = m → j < f → u ≤ k → (∀ l, l < 8 → room l ≤ 20) → Sh M → BgC M m w → (∀ l, l < 8 → mI M 140 l = nI (room l)) → ∃ M', f_X0_place f 137 (nI k) (nI u) (nI c) M = some (bI (dfs w S c j k room u).isSome, M') ∧ (∀ t, dfs w S c j k room u = some t → ∀ i, i < j → mI M' 138 (k + i) = nI (t.getD i 0)) ∧ (dfs w S c j k room u = none → ∀ l, l < 8 → mI M' 140 l = nI (room l)) ∧ (∀ i, i < k → mI M' 138 i = mI M 138 i) ∧ Fr wPk M M' ∧ mR M' = mR M
  | 0, k, f, u, room, M, hk, hf, hu, hr, h0, hb, hro => by
    cases f with
    | zero => omega
    | succ f =>
      refine ⟨M, ?_, fun t _ i hi => absurd hi (Nat.not_lt_zero i), fun _ => hro, fun i _ => rfl, Fr.rf M, rfl⟩
      rw [f_X0_place, if_pos (O137 h0)]
      unfold f_X0_place_0
      rw [gI_k 1 (O137 h0), b1_s, hb.1, if_neg (nI_nlt (by omega) (by omega)), rz1]
      rfl
  | j + 1, k, f, u, room, M, hk, hf, hu, hr, h0, hb, hro => by
    cases f with
    | zero => omega
    | succ f =>
      have e : dfs w S c (j + 1) k room u = fzO (fun l => if w k ≤ room l then (dfs w S c j (k + 1) (rmU room l (w k)) (max u (l + 1))).map (fun t => l :: t) else none) (min (u + 1) c) 0 := if_pos (hS k (by omega))
      rw [e, f_X0_place, if_pos (O137 h0)]
      unfold f_X0_place_0
      rw [gI_k 1 (O137 h0), b1_s, hb.1, if_pos (nI_lt (by omega) (by omega)), ← nI_0]
      have h9 := hw9 k (by omega)
      refine lpS (fun f' l N => f_X0_place_13 (f_X0_place f) f' 137 (nI k) (nI u) (nI c) (nI l) N) (fun N => (∀ l, l < 8 → mI N 140 l = nI (room l)) ∧ (∀ i, i < k → mI N 138 i = mI M 138 i) ∧ Fr wPk M N ∧ mR N = mR M) (fun l => if w k ≤ room l then (dfs w S c j (k + 1) (rmU room l (w k)) (max u (l + 1))).map (fun t => l :: t) else none) (fun o R => ∃ M', R = some (bI o.isSome, M') ∧ (∀ t, o = some t → ∀ i, i < j + 1 → mI M' 138 (k + i) = nI (t.getD i 0)) ∧ (o = none → ∀ l, l < 8 → mI M' 140 l = nI (room l)) ∧ (∀ i, i < k → mI M' 138 i = mI M 138 i) ∧ Fr wPk M M' ∧ mR M' = mR M) (min (u + 1) c) 0 (fun fu l N _ hl hi => ?_) (fun fu N hi => ?_) (min (u + 1) c) 1024 0 M (Nat.le_refl 0) (by omega) (by omega) ⟨hro, fun _ _ => rfl, Fr.rf M, rfl⟩
      · obtain ⟨i1, i2, i3, i4⟩ := hi
        have sN := i3.sh' i4 h0
        have bN : BgC N m w := hb.fr i3 (fun a k q => by unfold wPk; omega)
        have hl8 : l < 8 := by omega
        have hr8 := hr l hl8
        by_cases hwk : w k ≤ room l
        · have sP : Sh (sI (sI N 140 l (nI (room l - w k))) 138 k (nI l)) := sN
          have fP : Fr wPk N (sI (sI N 140 l (nI (room l - w k))) 138 k (nI l)) := ((Fr.rf (W := wPk) N).sI (Or.inr rfl)).sI (Or.inl rfl)
          obtain ⟨M2, e2, t2, n2, k2, f2, r2⟩ := c_place hm hc hw9 hS j (k + 1) f (max u (l + 1)) (rmU room l (w k)) (sI (sI N 140 l (nI (room l - w k))) 138 k (nI l)) (by omega) (by omega) (by omega) (rmU_b hr) sP (bN.fr fP (fun a k q => by unfold wPk; omega)) (fun l' hl' => by
            rw [mI_w, if_neg (by omega), mI_w]
            unfold rmU
            by_cases el : l' = l
            · rw [if_pos ⟨rfl, el⟩, if_pos el, el]
            · rw [if_neg (fun q => el q.2), if_neg el]; exact i1 l' hl')
          have s2 : Sh M2 := f2.sh' r2 sP
          have b2' : BgC M2 m w := (bN.fr fP (fun a k q => by unfold wPk; omega)).fr f2 (fun a k q => by unfold wPk; omega)
          have s1 : Sh (sI N 140 l (nI (room l - w k))) := sN
          have k138 : ∀ i, i < k → mI M2 138 i = mI M 138 i := fun i hi => by
            rw [k2 i (by omega), mI_w, if_neg (by omega), mI_w, if_neg (by omega)]
            exact i2 i hi
          cases hdf : dfs w S c j (k + 1) (rmU room l (w k)) (max u (l + 1)) with
          | some t =>
            left
            refine ⟨l :: t, by rw [if_pos hwk]; rfl, M2, ?_, fun t' ht' i hi => ?_, (fun g => by cases g), k138, (i3.tr fP).tr f2, r2.trans i4⟩
            · show f_X0_place_13 (f_X0_place f) (fu + 1) 137 (nI k) (nI u) (nI c) (nI l) N = _
              rw [f_X0_place_13, if_neg (show ¬ (8 : Int32) ≤ nI l from nI_ge (b := 8) hl8 (by decide)), if_neg (nI_nlt (by omega) (by omega)), if_neg (nI_ge (by omega) (by omega)), (R137 sN).2.2.1, b1_s, ld_140 sN hl8, b1_s, (R137 sN).2.1, b1_s, ld_139 sN (by omega), b1_s, bN.2 k (by omega), i1 l hl8, if_pos (nI_le hwk (by omega)), b1_s, ld_140 sN hl8, b1_s, b1_s, ld_139 sN (by omega), b1_s, bN.2 k (by omega), i1 l hl8, pk_sub hwk, st_140 sN _ hl8, b1_s, (R137 s1).1, b1_s, st_138 s1 _ (by omega), b1_s, nI_1, nI_1, maxI_n (by omega) (by omega), e2, b2_s, hdf, if_neg (show ¬ bI (some t).isSome = 0 from by show ¬ bI true = 0; decide), rz1]
              rfl
            · cases ht'
              cases i with
              | zero =>
                rw [Nat.add_zero, k2 k (by omega), mI_w, if_pos ⟨rfl, rfl⟩]
                rfl
              | succ i =>
                have := t2 t hdf i (by omega)
                rw [show k + 1 + i = k + (i + 1) by omega] at this
                rw [this]
                rfl
          | none =>
            right
            have n2' := n2 hdf
            refine ⟨by rw [if_pos hwk]; rfl, sI M2 140 l (nI (room l)), ?_, fun l' hl' => ?_, fun i hi => ?_, ((i3.tr fP).tr f2).sI (Or.inr rfl), r2.trans i4⟩
            · show f_X0_place_13 (f_X0_place f) (fu + 1) 137 (nI k) (nI u) (nI c) (nI l) N = _
              have er : nI (rmU room l (w k) l) + nI (w k) = nI (room l) := by
                unfold rmU
                rw [if_pos rfl, nI_add]
                congr 1
                omega
              rw [f_X0_place_13, if_neg (show ¬ (8 : Int32) ≤ nI l from nI_ge (b := 8) hl8 (by decide)), if_neg (nI_nlt (by omega) (by omega)), if_neg (nI_ge (by omega) (by omega)), (R137 sN).2.2.1, b1_s, ld_140 sN hl8, b1_s, (R137 sN).2.1, b1_s, ld_139 sN (by omega), b1_s, bN.2 k (by omega), i1 l hl8, if_pos (nI_le hwk (by omega)), b1_s, ld_140 sN hl8, b1_s, b1_s, ld_139 sN (by omega), b1_s, bN.2 k (by omega), i1 l hl8, pk_sub hwk, st_140 sN _ hl8, b1_s, (R137 s1).1, b1_s, st_138 s1 _ (by omega), b1_s, nI_1, nI_1, maxI_n (by omega) (by omega), e2, b2_s, hdf, if_pos (show bI (none : Option (List Nat)).isSome = 0 from rfl), (R137 s2).2.2.1, b1_s, ld_140 s2 hl8, b1_s, (R137 s2).2.1, b1_s, ld_139 s2 (by omega), b1_s, b2'.2 k (by omega), n2' l hl8, er, st_140 s2 _ hl8, b1_s]
              unfold f_X0_place_112
              rw [bn_s, nI_1]
            · rw [mI_w]
              by_cases el : l' = l
              · rw [if_pos ⟨rfl, el⟩, el]
              · rw [if_neg (fun q => el q.2), n2' l' hl']
                unfold rmU
                rw [if_neg el]
            · rw [mI_w, if_neg (by omega)]; exact k138 i hi
        · right
          refine ⟨if_neg hwk, N, ?_, i1, i2, i3, i4⟩
          show f_X0_place_13 (f_X0_place f) (fu + 1) 137 (nI k) (nI u) (nI c) (nI l) N = _
          rw [f_X0_place_13, if_neg (show ¬ (8 : Int32) ≤ nI l from nI_ge (b := 8) hl8 (by decide)), if_neg (nI_nlt (by omega) (by omega)), if_neg (nI_ge (by omega) (by omega)), (R137 sN).2.2.1, b1_s, ld_140 sN hl8, b1_s, (R137 sN).2.1, b1_s, ld_139 sN (by omega), b1_s, bN.2 k (by omega), i1 l hl8, if_neg (nI_ge (by omega) (by omega))]
          unfold f_X0_place_112
          rw [bn_s, nI_1]
      · obtain ⟨i1, i2, i3, i4⟩ := hi
        refine ⟨N, ?_, (fun t g => by cases g), fun _ => i1, i2, i3, i4⟩
        show f_X0_place_13 (f_X0_place f) (fu + 1) 137 (nI k) (nI u) (nI c) (nI (min (u + 1) c)) N = some (0, N)
        rw [f_X0_place_13]
        by_cases h8 : 8 ≤ min (u + 1) c
        · rw [if_pos (show (8 : Int32) ≤ nI (min (u + 1) c) from nI_le (a := 8) h8 (by omega)), rz0]
        · rw [if_neg (show ¬ (8 : Int32) ≤ nI (min (u + 1) c) from nI_ge (b := 8) (by omega) (by decide))]
          by_cases hu2 : u < min (u + 1) c
          · rw [if_pos (nI_lt hu2 (by omega)), rz0]
          · rw [if_neg (nI_nlt (by omega) (by omega)), if_pos (nI_le (by omega) (by omega)), rz0]
/-! the reference packs -/
theorem r_packs {w : Nat → Nat} {m c st : Nat} (hm : m ≤ 8) (hc : c ≤ 8) (hst : st < 256) (hw9 : ∀ i, i < m → w i ≤ 9) : ∀ (j k f u : Nat) (room : Nat → Nat) (M : MM), k + j = m → j < f → u ≤ k → (∀ l, l < 8 → room l ≤ 20) → Sh M → BgR M m w → (∀ l, l < 8 → mI M 175 l = nI (room l)) → ∃ M', f_X12_packs f 143 (nI k) (nI u) (nI c) (nI st) M = some (bI (dfs w st.testBit c j k room u).isSome, M') ∧ (∀ t, dfs w st.testBit c j k room u = some t → ∀ i, i < j → st.testBit (k + i) = true → mI M' 174 (k + i) = nI (t.getD i 0)) ∧ (∀ l, l < 8 → mI M' 175 l = nI (room l)) ∧ (∀ i, i < k → mI M' 174 i = mI M 174 i) ∧ Fr wPq M M' ∧ mR M' = mR M
  | 0, k, f, u, room, M, hk, hf, hu, hr, h0, hb, hro => by
    cases f with
    | zero => omega
    | succ f =>
      refine ⟨M, ?_, fun t _ i hi => absurd hi (Nat.not_lt_zero i), hro, fun i _ => rfl, Fr.rf M, rfl⟩
      rw [f_X12_packs, if_pos (O143 h0)]
      unfold f_X12_packs_0
      rw [gI_k 48 (O143 h0), b1_s, hb.1, if_pos (by rw [show k = m by omega]), rz1]
      rfl
  | j + 1, k, f, u, room, M, hk, hf, hu, hr, h0, hb, hro => by
    cases f with
    | zero => omega
    | succ f =>
      have h9 := hw9 k (by omega)
      rw [f_X12_packs, if_pos (O143 h0)]
      unfold f_X12_packs_0
      rw [gI_k 48 (O143 h0), b1_s, hb.1, if_neg (by rw [nI_eq (by omega) (by omega)]; omega), e_hasB hst (by omega), b2_s]
      by_cases hs : st.testBit k = true
      · have e : dfs w st.testBit c (j + 1) k room u = fzO (fun l => if w k ≤ room l then (dfs w st.testBit c j (k + 1) (rmU room l (w k)) (max u (l + 1))).map (fun t => l :: t) else none) (min (u + 1) c) 0 := if_pos hs
        rw [e, hs, if_neg (show ¬ bI true = 0 by decide), ← nI_0]
        refine lpS (fun f' l N => f_X12_packs_34 (f_X12_packs f) f' 143 (nI k) (nI u) (nI c) (nI st) (nI l) N) (fun N => (∀ l, l < 8 → mI N 175 l = nI (room l)) ∧ (∀ i, i < k → mI N 174 i = mI M 174 i) ∧ Fr wPq M N ∧ mR N = mR M) (fun l => if w k ≤ room l then (dfs w st.testBit c j (k + 1) (rmU room l (w k)) (max u (l + 1))).map (fun t => l :: t) else none) (fun o R => ∃ M', R = some (bI o.isSome, M') ∧ (∀ t, o = some t → ∀ i, i < j + 1 → st.testBit (k + i) = true → mI M' 174 (k + i) = nI (t.getD i 0)) ∧ (∀ l, l < 8 → mI M' 175 l = nI (room l)) ∧ (∀ i, i < k → mI M' 174 i = mI M 174 i) ∧ Fr wPq M M' ∧ mR M' = mR M) (min (u + 1) c) 0 (fun fu l N _ hl hi => ?_) (fun fu N hi => ?_) (min (u + 1) c) 1024 0 M (Nat.le_refl 0) (by omega) (by omega) ⟨hro, fun _ _ => rfl, Fr.rf M, rfl⟩
        · obtain ⟨i1, i2, i3, i4⟩ := hi
          have sN := i3.sh' i4 h0
          have bN : BgR N m w := hb.fr i3 (fun a k q => by unfold wPq; omega)
          have hl8 : l < 8 := by omega
          have hr8 := hr l hl8
          by_cases hwk : w k ≤ room l
          · have sP : Sh (sI (sI N 175 l (nI (room l - w k))) 174 k (nI l)) := sN
            have fP : Fr wPq N (sI (sI N 175 l (nI (room l - w k))) 174 k (nI l)) := ((Fr.rf (W := wPq) N).sI (Or.inr rfl)).sI (Or.inl rfl)
            obtain ⟨M2, e2, t2, n2, k2, f2, r2⟩ := r_packs hm hc hst hw9 j (k + 1) f (max u (l + 1)) (rmU room l (w k)) (sI (sI N 175 l (nI (room l - w k))) 174 k (nI l)) (by omega) (by omega) (by omega) (rmU_b hr) sP (bN.fr fP (fun a k q => by unfold wPq; omega)) (fun l' hl' => by
              rw [mI_w, if_neg (by omega), mI_w]
              unfold rmU
              by_cases el : l' = l
              · rw [if_pos ⟨rfl, el⟩, if_pos el, el]
              · rw [if_neg (fun q => el q.2), if_neg el]; exact i1 l' hl')
            have s2 : Sh M2 := f2.sh' r2 sP
            have b2' : BgR M2 m w := (bN.fr fP (fun a k q => by unfold wPq; omega)).fr f2 (fun a k q => by unfold wPq; omega)
            have s1 : Sh (sI N 175 l (nI (room l - w k))) := sN
            have er : nI (rmU room l (w k) l) + nI (w k) = nI (room l) := by
              unfold rmU
              rw [if_pos rfl, nI_add]
              congr 1
              omega
            have hd : f_X12_packs_34 (f_X12_packs f) (fu + 1) 143 (nI k) (nI u) (nI c) (nI st) (nI l) N = if bI (dfs w st.testBit c j (k + 1) (rmU room l (w k)) (max u (l + 1))).isSome = 0 then f_X12_packs_129 (f_X12_packs f) (f_X12_packs_34 (f_X12_packs f) fu) 143 (nI k) (nI u) (nI c) (nI st) (nI l) (sI M2 175 l (nI (room l))) else rz 1 (sI M2 175 l (nI (room l))) := by
              rw [f_X12_packs_34, if_neg (nI_nlt (by omega) (by omega)), if_neg (nI_ge (by omega) (by omega)), (R173 sN).2.2, b1_s, ld_175 sN hl8, b1_s, (R173 sN).1, b1_s, ld_173 sN (by omega), b1_s, bN.2 k (by omega), i1 l hl8, if_neg (nI_nlt hwk (by omega)), b1_s, ld_175 sN hl8, b1_s, b1_s, ld_173 sN (by omega), b1_s, bN.2 k (by omega), i1 l hl8, pk_sub hwk, st_175 sN _ hl8, b1_s, (R173 s1).2.1, b1_s, st_174 s1 _ (by omega), b1_s, nI_1, nI_1, maxI_n (by omega) (by omega), e2, b2_s, (R173 s2).2.2, b1_s, ld_175 s2 hl8, b1_s, (R173 s2).1, b1_s, ld_173 s2 (by omega), b1_s, b2'.2 k (by omega), n2 l hl8, er, st_175 s2 _ hl8, b1_s]
            have k174 : ∀ i, i < k → mI (sI M2 175 l (nI (room l))) 174 i = mI M 174 i := fun i hi => by
              rw [mI_w, if_neg (by omega), k2 i (by omega), mI_w, if_neg (by omega), mI_w, if_neg (by omega)]
              exact i2 i hi
            have r175 : ∀ l', l' < 8 → mI (sI M2 175 l (nI (room l))) 175 l' = nI (room l') := fun l' hl' => by
              rw [mI_w]
              by_cases el : l' = l
              · rw [if_pos ⟨rfl, el⟩, el]
              · rw [if_neg (fun q => el q.2), n2 l' hl']
                unfold rmU
                rw [if_neg el]
            have ff : Fr wPq M (sI M2 175 l (nI (room l))) := ((i3.tr fP).tr f2).sI (Or.inr rfl)
            cases hdf : dfs w st.testBit c j (k + 1) (rmU room l (w k)) (max u (l + 1)) with
            | some t =>
              left
              refine ⟨l :: t, by rw [if_pos hwk]; rfl, _, ?_, fun t' ht' i hi hb => ?_, r175, k174, ff, r2.trans i4⟩
              · show f_X12_packs_34 (f_X12_packs f) (fu + 1) 143 (nI k) (nI u) (nI c) (nI st) (nI l) N = _
                rw [hd, hdf, if_neg (show ¬ bI (some t).isSome = 0 from by show ¬ bI true = 0; decide), rz1]
                rfl
              · cases ht'
                rw [mI_w, if_neg (by omega)]
                cases i with
                | zero =>
                  rw [Nat.add_zero, k2 k (by omega), mI_w, if_pos ⟨rfl, rfl⟩]
                  rfl
                | succ i =>
                  have := t2 t hdf i (by omega) (by rw [show k + 1 + i = k + (i + 1) by omega]; exact hb)
                  rw [show k + 1 + i = k + (i + 1) by omega] at this
                  rw [this]
                  rfl
            | none =>
              right
              refine ⟨by rw [if_pos hwk]; rfl, _, ?_, r175, k174, ff, r2.trans i4⟩
              show f_X12_packs_34 (f_X12_packs f) (fu + 1) 143 (nI k) (nI u) (nI c) (nI st) (nI l) N = _
              rw [hd, hdf, if_pos (show bI (none : Option (List Nat)).isSome = 0 from rfl)]
              unfold f_X12_packs_129
              rw [bn_s, nI_1]
          · right
            refine ⟨if_neg hwk, N, ?_, i1, i2, i3, i4⟩
            show f_X12_packs_34 (f_X12_packs f) (fu + 1) 143 (nI k) (nI u) (nI c) (nI st) (nI l) N = _
            rw [f_X12_packs_34, if_neg (nI_nlt (by omega) (by omega)), if_neg (nI_ge (by omega) (by omega)), (R173 sN).2.2, b1_s, ld_175 sN hl8, b1_s, (R173 sN).1, b1_s, ld_173 sN (by omega), b1_s, bN.2 k (by omega), i1 l hl8, if_pos (nI_lt (by omega) (by omega))]
            unfold f_X12_packs_129
            rw [bn_s, nI_1]
        · obtain ⟨i1, i2, i3, i4⟩ := hi
          refine ⟨N, ?_, (fun t g => by cases g), i1, i2, i3, i4⟩
          show f_X12_packs_34 (f_X12_packs f) (fu + 1) 143 (nI k) (nI u) (nI c) (nI st) (nI (min (u + 1) c)) N = some (0, N)
          rw [f_X12_packs_34]
          by_cases hu2 : u < min (u + 1) c
          · rw [if_pos (nI_lt hu2 (by omega)), rz0]
          · rw [if_neg (nI_nlt (by omega) (by omega)), if_pos (nI_le (by omega) (by omega)), rz0]
      · have hsf : st.testBit k = false := by cases hx : st.testBit k <;> simp_all
        have e : dfs w st.testBit c (j + 1) k room u = (dfs w st.testBit c j (k + 1) room u).map (fun t => 0 :: t) := if_neg hs
        obtain ⟨M2, e2, t2, n2, k2, f2, r2⟩ := r_packs hm hc hst hw9 j (k + 1) f u room M (by omega) (by omega) (by omega) hr h0 hb hro
        rw [e, hsf, if_pos (show bI false = 0 from rfl), nI_1, e2, b2_s, rz_b, Option.isSome_map]
        refine ⟨M2, rfl, fun t ht i hi hbt => ?_, n2, fun i hi => k2 i (by omega), f2, r2⟩
        cases hdf : dfs w st.testBit c j (k + 1) room u with
        | none => rw [hdf] at ht; cases ht
        | some t' =>
          rw [hdf] at ht
          cases ht
          cases i with
          | zero => rw [Nat.add_zero] at hbt; exact absurd hbt hs
          | succ i =>
            have := t2 t' hdf i (by omega) (by rw [show k + 1 + i = k + (i + 1) by omega]; exact hbt)
            rw [show k + 1 + i = k + (i + 1) by omega] at this
            rw [this]
            rfl
theorem r_can {w : Nat → Nat} {m c v st : Nat} {M : MM} (hm : m ≤ 8) (hc : c ≤ 8) (hst : st < 256) (hv : v ≤ 20) (hw9 : ∀ i, i < m → w i ≤ 9) (h0 : Sh M) (hb : BgR M m w) : ∃ M', f_X12_canPack 143 (nI c) (nI v) (nI st) M = some (bI (dfs w st.testBit c m 0 (fun _ => v) 0).isSome, M') ∧ (∀ t, dfs w st.testBit c m 0 (fun _ => v) 0 = some t → ∀ i, i < m → st.testBit i = true → mI M' 174 i = nI (t.getD i 0)) ∧ Fr wPq M M' ∧ mR M' = mR M := by
  obtain ⟨M1, f', e, cy⟩ := lcp (fun f k N => f_X12_canPack_3 f 143 (nI c) (nI v) (nI st) (nI k) N) 175 0 8 (fun _ => nI v) M (fun f k N hk hcy => by
    show f_X12_canPack_3 (f + 1) _ _ _ _ _ _ = f_X12_canPack_3 f _ _ _ _ _ _
    have hN := hcy.sh h0
    rw [f_X12_canPack_3, if_neg (show ¬ (8 : Int32) ≤ nI k from nI_ge (b := 8) hk (by decide)), (R173 hN).2.2, b1_s, st_175 hN _ hk, b1_s, bn_s, nI_1, Nat.zero_add]) (by decide)
  have s1 := cy.sh h0
  have f1 : Fr wPq M M1 := cy.frm.mono (fun a k q => Or.inr q.1)
  obtain ⟨M2, e2, t2, n2, k2, f2, r2⟩ := r_packs (c := c) hm hc hst hw9 m 0 100 0 (fun _ => v) M1 (by omega) (by omega) (Nat.le_refl 0) (fun _ _ => hv) s1 (hb.fr f1 (fun a k q => by unfold wPq; omega)) (fun l hl => by rw [cy.2.2.2.2, if_pos ⟨rfl, by omega, by omega⟩])
  refine ⟨M2, ?_, fun t ht i hi hbt => ?_, f1.tr f2, r2.trans cy.2.2.2.1⟩
  · unfold f_X12_canPack f_X12_canPack_0
    have e' : f_X12_canPack_3 1024 143 (nI c) (nI v) (nI st) (nI 0) M = f_X12_canPack_3 (f' + 1) 143 (nI c) (nI v) (nI st) (nI 8) M1 := e
    rw [nI_0] at e' e2
    rw [if_pos (O143 h0), e', f_X12_canPack_3, if_pos (show (8 : Int32) ≤ nI 8 by decide), e2, b2_s, rz_b]
  · have := t2 t ht i hi (by rw [Nat.zero_add]; exact hbt)
    rw [Nat.zero_add] at this
    exact this

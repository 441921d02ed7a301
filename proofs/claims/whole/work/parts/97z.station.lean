/-! station: how it is told -/
abbrev Ac : Type := Nat × Nat × (Nat → Nat → Nat)
def acP (A : Ac) (b : Nat) : Ac := (A.1 + 1, A.2.1, uF A.2.2 0 A.1 b)
def acE (A : Ac) (r : Nat → Nat) : Ac := (A.1, A.2.1 + 1, fun c j => if 1 ≤ c ∧ j = A.2.1 then r c else A.2.2 c j)
def rec6 (w la fr ti th se c : Nat) : Nat := if c = 1 then w else if c = 2 then la else if c = 3 then fr else if c = 4 then ti else if c = 5 then th else se
def thV (T : Nat → Nat) (l a : Nat) : Nat := match ixP1 T l a 3 with
  | none => 0
  | some i => i + 1
def thA (T : Nat → Nat) (l a : Nat) : Nat := adO (ixP1 T l a 3) a
def b2n (b : Bool) : Nat := if b = true then 1 else 0
def erT (T : Nat → Nat) (l q w la fr ti : Nat) : Option (Nat → Nat) × Nat := if ti < fr then (none, q - 1) else (some (rec6 w la fr ti (thV T l q) (b2n (tkB T l (thA T l q) 94))), adv (tkB T l (thA T l q) 94) (thA T l q))
def er3 (T : Nat → Nat) (l a w la fr : Nat) : Option (Nat → Nat) × Nat := if tkB T l a 45 = true then (match nmO T l (a + 1) 2 with
  | none => (none, a + 1)
  | some ti => erT T l (nmA T l (a + 1) 2) w la fr ti) else (none, a)
def er2 (T : Nat → Nat) (l a w la : Nat) : Option (Nat → Nat) × Nat := if tkB T l a 64 = true then (match nmO T l (a + 1) 2 with
  | none => (none, a + 1)
  | some fr => er3 T l (nmA T l (a + 1) 2) w la fr) else (none, a)
def er1 (T : Nat → Nat) (l a w : Nat) : Option (Nat → Nat) × Nat := match dgO T l a 1 9 with
  | none => (none, a)
  | some la => er2 T l (a + 1) w la
def erO (T : Nat → Nat) (l a : Nat) : Option (Nat → Nat) × Nat := match dgO T l a 0 9 with
  | none => (none, a)
  | some w => er1 T l (a + 1) w
def liO (P E : Nat) (T : Nat → Nat) (l a : Nat) (A : Ac) : Option Ac × Nat := if tkB T l a 112 = true then (if P + A.1 < 6 then (some (acP A (b2n (tkB T l (a + 1) 33))), adv (tkB T l (a + 1) 33) (a + 1)) else (none, a)) else if tkB T l a 101 = true then (if E + A.2.1 < 8 then ((erO T l (a + 1)).1.map (acE A), (erO T l (a + 1)).2) else (none, a)) else (none, a)
def stF (P E : Nat) (T : Nat → Nat) (n l : Nat) : Nat → Nat → Ac → Option Ac × Nat
  | 0, a, _ => (none, a)
  | j + 1, a, A => match liO P E T l a A with
    | (none, a1) => (none, a1)
    | (some A', a1) => if l ≤ a1 ∧ ¬ l < n then (some A', a1) else if tkB T l a1 59 = true then stF P E T n l j (a1 + 1) A' else (none, a1)
theorem stF_n {P E : Nat} {T : Nat → Nat} {n l j a a1 : Nat} {A : Ac} (h : liO P E T l a A = (none, a1)) : stF P E T n l (j + 1) a A = (none, a1) := by
  show (match liO P E T l a A with | (none, a1) => (none, a1) | (some A', a1) => _) = _
  rw [h]
theorem stF_s {P E : Nat} {T : Nat → Nat} {n l j a a1 : Nat} {A A' : Ac} (h : liO P E T l a A = (some A', a1)) : stF P E T n l (j + 1) a A = if l ≤ a1 ∧ ¬ l < n then (some A', a1) else if tkB T l a1 59 = true then stF P E T n l j (a1 + 1) A' else (none, a1) := by
  show (match liO P E T l a A with | (none, a1) => (none, a1) | (some A', a1) => if l ≤ a1 ∧ ¬ l < n then (some A', a1) else if tkB T l a1 59 = true then stF P E T n l j (a1 + 1) A' else (none, a1)) = _
  rw [h]
theorem ix3s : ∀ c, c < 256 → ixS 3 c = if c = 43 then some 0 else if c = 42 then some 1 else none := by decide +kernel
/-- what was told is as it must be -/
def okR (r : Nat → Nat) : Prop := r 1 ≤ 9 ∧ (1 ≤ r 2 ∧ r 2 ≤ 9) ∧ r 3 ≤ r 4 ∧ r 4 ≤ 99 ∧ r 5 ≤ 2 ∧ r 6 ≤ 1
def okA (P E : Nat) (A : Ac) : Prop := P + A.1 ≤ 6 ∧ E + A.2.1 ≤ 8 ∧ (∀ i, i < A.1 → A.2.2 0 i ≤ 1) ∧ ∀ j, j < A.2.1 → okR (fun c => A.2.2 c j)
theorem okR_c {r r' : Nat → Nat} (h : okR r) (e : ∀ c, 1 ≤ c → r' c = r c) : okR r' := by
  unfold okR
  rw [e 1 (by omega), e 2 (by omega), e 3 (by omega), e 4 (by omega), e 5 (by omega), e 6 (by omega)]
  exact h
theorem b2n_le (b : Bool) : b2n b ≤ 1 := by unfold b2n; split <;> omega
theorem dg_b {T : Nat → Nat} {l a lo v : Nat} (h : dgO T l a lo 9 = some v) : a < l ∧ lo ≤ v ∧ v ≤ 9 ∧ dgA T l a lo 9 = a + 1 := by
  unfold dgO at h
  unfold dgA
  by_cases hd : a < l ∧ 48 + lo ≤ T a ∧ T a ≤ 48 + 9
  · rw [if_pos hd] at h ⊢
    cases h
    exact ⟨hd.1, by omega, by omega, rfl⟩
  · rw [if_neg hd] at h; cases h
theorem dg_n {T : Nat → Nat} {l a lo : Nat} (h : dgO T l a lo 9 = none) : dgA T l a lo 9 = a := by
  unfold dgO at h
  unfold dgA
  by_cases hd : a < l ∧ 48 + lo ≤ T a ∧ T a ≤ 48 + 9
  · rw [if_pos hd] at h; cases h
  · rw [if_neg hd]
theorem thV_le (T : Nat → Nat) (l a : Nat) : thV T l a ≤ 2 := by
  unfold thV
  cases h : ixP1 T l a 3 with
  | none => show 0 ≤ 2; omega
  | some i =>
    unfold ixP1 at h
    by_cases hl : a < l
    · rw [if_pos hl] at h
      have := ixO_b h
      have e2 : (csK 3).length = 2 := rfl
      show i + 1 ≤ 2
      omega
    · rw [if_neg hl] at h; cases h
theorem erT_ok {T : Nat → Nat} {l q w la fr ti : Nat} {r : Nat → Nat} (hw : w ≤ 9) (h1 : 1 ≤ la) (h2 : la ≤ 9) (ht : ti < 100) (h : (erT T l q w la fr ti).1 = some r) : okR r := by
  unfold erT at h
  by_cases hc : ti < fr
  · rw [if_pos hc] at h; cases h
  · rw [if_neg hc] at h
    cases h
    exact ⟨hw, ⟨h1, h2⟩, by show fr ≤ ti; omega, by show ti ≤ 99; omega, thV_le T l q, b2n_le _⟩
theorem erO_ok {T : Nat → Nat} {l a : Nat} {r : Nat → Nat} (h : (erO T l a).1 = some r) : okR r := by
  unfold erO at h
  cases h1 : dgO T l a 0 9 with
  | none => rw [h1] at h; cases h
  | some w =>
    rw [h1] at h
    have b1' := dg_b h1
    dsimp only at h
    unfold er1 at h
    cases h2 : dgO T l (a + 1) 1 9 with
    | none => rw [h2] at h; cases h
    | some la =>
      rw [h2] at h
      have b2' := dg_b h2
      dsimp only at h
      unfold er2 at h
      by_cases h3 : tkB T l (a + 1 + 1) 64 = true
      · rw [if_pos h3] at h
        have h3' := (of_decide_eq_true h3).1
        cases h4 : nmO T l (a + 1 + 1 + 1) 2 with
        | none => rw [h4] at h; cases h
        | some fr =>
          rw [h4] at h
          dsimp only at h
          unfold er3 at h
          by_cases h5 : tkB T l (nmA T l (a + 1 + 1 + 1) 2) 45 = true
          · rw [if_pos h5] at h
            have h5' := (of_decide_eq_true h5).1
            cases h6 : nmO T l (nmA T l (a + 1 + 1 + 1) 2 + 1) 2 with
            | none => rw [h6] at h; cases h
            | some ti =>
              rw [h6] at h
              have := nmO_b (show nmA T l (a + 1 + 1 + 1) 2 + 1 ≤ l by omega) h6
              exact erT_ok b1'.2.2.1 b2'.2.1 b2'.2.2.1 this h
          · rw [if_neg h5] at h; cases h
      · rw [if_neg h3] at h; cases h
theorem liO_ok {P E : Nat} {T : Nat → Nat} {l a : Nat} {A A' : Ac} (hA : okA P E A) (h : (liO P E T l a A).1 = some A') : okA P E A' ∧ A'.1 + A'.2.1 = A.1 + A.2.1 + 1 := by
  obtain ⟨a1, a2, a3, a4⟩ := hA
  unfold liO at h
  by_cases h1 : tkB T l a 112 = true
  · rw [if_pos h1] at h
    by_cases h2 : P + A.1 < 6
    · rw [if_pos h2] at h
      cases h
      refine ⟨⟨by show P + (A.1 + 1) ≤ 6; omega, a2, fun i hi => ?_, fun j hj => ?_⟩, by show A.1 + 1 + A.2.1 = _; omega⟩
      · show (if 0 = 0 ∧ i = A.1 then _ else _) ≤ 1
        have hi : i < A.1 + 1 := hi
        by_cases e : i = A.1
        · rw [if_pos ⟨rfl, e⟩]; exact b2n_le _
        · rw [if_neg (fun q => e q.2)]; exact a3 i (by omega)
      · exact a4 j hj
    · rw [if_neg h2] at h; cases h
  · rw [if_neg h1] at h
    by_cases h3 : tkB T l a 101 = true
    · rw [if_pos h3] at h
      by_cases h4 : E + A.2.1 < 8
      · rw [if_pos h4] at h
        cases h5 : (erO T l (a + 1)).1 with
        | none =>
          have h : (erO T l (a + 1)).1.map (acE A) = some A' := h
          rw [h5] at h; cases h
        | some r =>
          have h : (erO T l (a + 1)).1.map (acE A) = some A' := h
          rw [h5] at h
          cases h
          have hr := erO_ok h5
          refine ⟨⟨a1, by show E + (A.2.1 + 1) ≤ 8; omega, fun i hi => ?_, fun j hj => ?_⟩, by show A.1 + (A.2.1 + 1) = _; omega⟩
          · have e0 : (acE A r).2.2 0 i = A.2.2 0 i := by show (if 1 ≤ 0 ∧ i = A.2.1 then r 0 else A.2.2 0 i) = _; rw [if_neg (by omega)]
            rw [e0]
            exact a3 i hi
          · have hj : j < A.2.1 + 1 := hj
            by_cases e : j = A.2.1
            · have eq : ∀ c, 1 ≤ c → (acE A r).2.2 c j = r c := fun c hc => if_pos ⟨hc, e⟩
              exact okR_c hr eq
            · have eq : ∀ c, (acE A r).2.2 c j = A.2.2 c j := fun c => if_neg (fun q => e q.2)
              exact okR_c (a4 j (by omega)) (fun c _ => eq c)
      · rw [if_neg h4] at h; cases h
    · rw [if_neg h3] at h; cases h
theorem stF_ok {P E : Nat} {T : Nat → Nat} {n l : Nat} : ∀ {j a : Nat} {A A' : Ac}, okA P E A → (stF P E T n l j a A).1 = some A' → okA P E A' ∧ A.1 + A.2.1 + 1 ≤ A'.1 + A'.2.1
  | 0, a, A, A', _, h => by cases h
  | j + 1, a, A, A', hA, h => by
    cases hl : liO P E T l a A with
    | mk o a1 =>
      cases o with
      | none => rw [stF_n hl] at h; cases h
      | some B =>
        have hB := liO_ok hA (by rw [hl])
        rw [stF_s hl] at h
        by_cases h1 : l ≤ a1 ∧ ¬ l < n
        · rw [if_pos h1] at h; cases h; exact ⟨hB.1, by omega⟩
        · rw [if_neg h1] at h
          by_cases h2 : tkB T l a1 59 = true
          · rw [if_pos h2] at h
            have := stF_ok hB.1 h
            exact ⟨this.1, by omega⟩
          · rw [if_neg h2] at h; cases h
/-- the state behind it -/
def zsF (s : St) (A : Ac) (a k : Nat) : Nat := if a = 0 ∧ k = 0 then zP s + A.1 else if a = 0 ∧ k = 1 then zE s + A.2.1 else if a = 0 ∧ k = 3 then 0 else if a = 1 ∧ zP s ≤ k then A.2.2 0 (k - zP s) else if 2 ≤ a ∧ a ≤ 7 ∧ zE s ≤ k then A.2.2 (a - 1) (k - zE s) else if a = 8 ∧ 8 * zP s ≤ k then 1 else if a = 13 then 0 else s.1 a k
def zst (s : St) (A : Ac) : St := (fun a k => zsF s A a k, s.2)
section ZST
variable {s : St} {A : Ac}
theorem zs_P : zP (zst s A) = zP s + A.1 := rfl
theorem zs_E : zE (zst s A) = zE s + A.2.1 := rfl
theorem zs_U : zU (zst s A) = 0 := rfl
theorem zs_n {k : Nat} (h : k ≠ 0) (h1 : k ≠ 1) (h3 : k ≠ 3) : (zst s A).1 0 k = s.1 0 k := by
  show zsF s A 0 k = _
  unfold zsF
  rw [if_neg (by omega), if_neg (by omega), if_neg (by omega), if_neg (by omega), if_neg (by omega), if_neg (by omega), if_neg (by omega)]
theorem zs_o {a k : Nat} (h : 9 ≤ a) (h1 : a ≠ 13) : (zst s A).1 a k = s.1 a k := by
  show zsF s A a k = _
  unfold zsF
  rw [if_neg (by omega), if_neg (by omega), if_neg (by omega), if_neg (by omega), if_neg (by omega), if_neg (by omega), if_neg (by omega)]
theorem zs_kv (k : Nat) : zkv (zst s A) k = 0 := by
  show zsF s A 13 k = _
  unfold zsF
  rw [if_neg (by omega), if_neg (by omega), if_neg (by omega), if_neg (by omega), if_neg (by omega), if_neg (by omega), if_pos (by omega)]
theorem zs_sh (p : Nat) : zshy (zst s A) p = if zP s ≤ p then A.2.2 0 (p - zP s) else zshy s p := by
  show zsF s A 1 p = _
  unfold zsF
  rw [if_neg (by omega), if_neg (by omega), if_neg (by omega)]
  by_cases h : zP s ≤ p
  · rw [if_pos ⟨rfl, h⟩, if_pos h]
  · rw [if_neg (fun q => h q.2), if_neg (by omega), if_neg (by omega), if_neg (by omega), if_neg h]; rfl
theorem zs_er {c : Nat} (h1 : 1 ≤ c) (h2 : c ≤ 6) (e : Nat) : (zst s A).1 (c + 1) e = if zE s ≤ e then A.2.2 c (e - zE s) else s.1 (c + 1) e := by
  show zsF s A (c + 1) e = _
  unfold zsF
  rw [if_neg (by omega), if_neg (by omega), if_neg (by omega), if_neg (by omega)]
  by_cases h : zE s ≤ e
  · rw [if_pos ⟨by omega, by omega, h⟩, if_pos h, Nat.add_sub_cancel]
  · rw [if_neg (fun q => h q.2.2), if_neg (by omega), if_neg (by omega), if_neg h]
theorem zs_wi (k : Nat) : zwis (zst s A) k = if 8 * zP s ≤ k then 1 else zwis s k := by
  show zsF s A 8 k = _
  unfold zsF
  rw [if_neg (by omega), if_neg (by omega), if_neg (by omega), if_neg (by omega), if_neg (by omega)]
  by_cases h : 8 * zP s ≤ k
  · rw [if_pos ⟨rfl, h⟩, if_pos h]
  · rw [if_neg (fun q => h q.2), if_neg (by omega), if_neg h]; rfl
theorem okPl_mono {P E P' E' : Nat} {q : Pl} (h : okPl P E q) (h1 : P ≤ P') (h2 : E ≤ E') : okPl P' E' q := ⟨h.1, fun i hi => by have := h.2 i hi; exact ⟨by have := this.1; omega, by have := this.2.1; omega, this.2.2⟩⟩
theorem W_zst (hw : WF s) (hA : okA (zP s) (zE s) A) : WF (zst s A) := by
  obtain ⟨⟨a1, a2, a3, a4, a5, a6, a7, a8⟩, ⟨b1', b2', b3'⟩, c, d, ⟨p1, p2, p3⟩⟩ := hw
  obtain ⟨o1, o2, o3, o4⟩ := hA
  refine ⟨⟨o1, o2, ?_, ?_, Nat.zero_le _, ?_, ?_, a8⟩, ⟨fun p hp => ?_, fun e he => ?_, fun p e hp he => ?_⟩, fun k hk => ?_, fun k hk => ?_, okPl_mono p1 (Nat.le_add_right _ _) (Nat.le_add_right _ _), fun j hj => absurd hj (Nat.not_lt_zero j), fun i hi => okPl_mono (p3 i hi) (Nat.le_add_right _ _) (Nat.le_add_right _ _)⟩
  · show 1 ≤ (zst s A).1 0 2
    rw [zs_n (by omega) (by omega) (by omega)]; exact a3
  · show (zst s A).1 0 2 ≤ 99
    rw [zs_n (by omega) (by omega) (by omega)]; exact a4
  · show (zst s A).1 0 4 ≤ 12
    rw [zs_n (by omega) (by omega) (by omega)]; exact a6
  · show (zst s A).1 0 5 ≤ 80
    rw [zs_n (by omega) (by omega) (by omega)]; exact a7
  · rw [zs_P] at hp
    rw [zs_sh]
    by_cases h : zP s ≤ p
    · rw [if_pos h]; exact o3 _ (by omega)
    · rw [if_neg h]; exact b1' p (by omega)
  · rw [zs_E] at he
    show (zst s A).1 (1 + 1) e ≤ 9 ∧ 1 ≤ (zst s A).1 (2 + 1) e ∧ (zst s A).1 (2 + 1) e ≤ 9 ∧ (zst s A).1 (4 + 1) e ≤ 99 ∧ (zst s A).1 (3 + 1) e ≤ (zst s A).1 (4 + 1) e ∧ (zst s A).1 (5 + 1) e ≤ 2 ∧ (zst s A).1 (6 + 1) e ≤ 1
    rw [zs_er (by omega) (by omega), zs_er (c := 2) (by omega) (by omega), zs_er (c := 4) (by omega) (by omega), zs_er (c := 3) (by omega) (by omega), zs_er (c := 5) (by omega) (by omega), zs_er (c := 6) (by omega) (by omega)]
    by_cases h : zE s ≤ e
    · rw [if_pos h, if_pos h, if_pos h, if_pos h, if_pos h, if_pos h]
      have := o4 (e - zE s) (by omega)
      exact ⟨this.1, this.2.1.1, this.2.1.2, this.2.2.2.1, this.2.2.1, this.2.2.2.2.1, this.2.2.2.2.2⟩
    · rw [if_neg h, if_neg h, if_neg h, if_neg h, if_neg h, if_neg h]
      exact b2' e (by omega)
  · rw [zs_wi]
    by_cases h : 8 * zP s ≤ 8 * p + e
    · rw [if_pos h]; omega
    · rw [if_neg h]; exact b3' p e (by omega) he
  · have hk : k < (zst s A).1 0 5 := hk
    rw [zs_n (by omega) (by omega) (by omega)] at hk
    show (zst s A).1 9 k < 256
    rw [zs_o (by omega) (by omega)]
    exact c k hk
  · have hk : k < (zst s A).1 0 4 := hk
    rw [zs_n (by omega) (by omega) (by omega)] at hk
    have := d k hk
    show (zst s A).1 10 k < zP s + A.1 ∧ (zst s A).1 11 k < zE s + A.2.1 ∧ (zst s A).1 12 k < 100
    rw [zs_o (by omega) (by omega), zs_o (by omega) (by omega), zs_o (by omega) (by omega)]
    exact ⟨by have := this.1; show zsw s k < _; omega, by have := this.2.1; show zse s k < _; omega, this.2.2⟩
end ZST
def stnR (s : St) : Option Ac × Nat := stF (zP s) (zE s) (ztap s) (zL s) (min (zL s) 76) 77 0 (0, 0, fun _ _ => 0)
def a_station (s : St) : Int32 := if zL s = 0 then 0 else match (stnR s).1 with
  | none => -1 - nI (stnR s).2
  | some A => nI (A.1 + A.2.1)
def n_station (s : St) : St := if zL s = 0 then z0 s else match (stnR s).1 with
  | none => z0 s
  | some A => zst (z0 s) A
theorem stn_0 {s : St} (h : zL s = 0) : a_station s = 0 ∧ n_station s = z0 s := ⟨if_pos h, if_pos h⟩
theorem stn_n {s : St} {q : Nat} (h : zL s ≠ 0) (e : stnR s = (none, q)) : a_station s = -1 - nI q ∧ n_station s = z0 s := by unfold a_station n_station; rw [if_neg h, if_neg h, e]; exact ⟨rfl, rfl⟩
theorem stn_s {s : St} {q : Nat} {A : Ac} (h : zL s ≠ 0) (e : stnR s = (some A, q)) : a_station s = nI (A.1 + A.2.1) ∧ n_station s = zst (z0 s) A := by unfold a_station n_station; rw [if_neg h, if_neg h, e]; exact ⟨rfl, rfl⟩
theorem okA_0 {s : St} (hw : WF s) : okA (zP s) (zE s) (0, 0, fun _ _ => 0) := ⟨hw.1.1, hw.1.2.1, fun i hi => absurd hi (Nat.not_lt_zero i), fun i hi => absurd hi (Nat.not_lt_zero i)⟩
theorem W_station {s : St} (hw : WF s) : WF (n_station s) := by
  have k : WF (z0 s) := W_z0 hw
  unfold n_station
  by_cases h : zL s = 0
  · rw [if_pos h]; exact k
  · rw [if_neg h]
    cases hr : (stnR s).1 with
    | none => exact k
    | some A => exact W_zst k (stF_ok (okA_0 hw) hr).1

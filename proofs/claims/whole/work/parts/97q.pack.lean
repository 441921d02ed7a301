/-! packing bags: pure -/
def lodS (w : Nat → Nat) (S : Nat → Bool) (a : Nat → Nat) (l : Nat) : Nat → Nat → Nat
  | 0, _ => 0
  | j + 1, k => (if S k = true ∧ a k = l then w k else 0) + lodS w S a l j (k + 1)
theorem lod_c {w : Nat → Nat} {S S' : Nat → Bool} {a a' : Nat → Nat} {l l' : Nat} : ∀ {j k : Nat}, (∀ i, k ≤ i → i < k + j → ((S i = true ∧ a i = l) ↔ (S' i = true ∧ a' i = l'))) → lodS w S a l j k = lodS w S' a' l' j k
  | 0, _, _ => rfl
  | j + 1, k, h => by
    show (if S k = true ∧ a k = l then w k else 0) + _ = (if S' k = true ∧ a' k = l' then w k else 0) + _
    rw [lod_c (j := j) (k := k + 1) (fun i h1 h2 => h i (by omega) (by omega))]
    congr 1
    by_cases hc : S k = true ∧ a k = l
    · rw [if_pos hc, if_pos ((h k (by omega) (by omega)).mp hc)]
    · rw [if_neg hc, if_neg (fun g => hc ((h k (by omega) (by omega)).mpr g))]
theorem lod_add {w : Nat → Nat} {S S' : Nat → Bool} {a : Nat → Nat} {l x : Nat} (hx : S x = false) (hS : ∀ i, S' i = (S i || decide (i = x))) : ∀ {j k : Nat}, lodS w S' a l j k = lodS w S a l j k + (if k ≤ x ∧ x < k + j ∧ a x = l then w x else 0)
  | 0, k => by
    rw [if_neg (by omega)]; rfl
  | j + 1, k => by
    show (if S' k = true ∧ a k = l then w k else 0) + lodS w S' a l j (k + 1) = (if S k = true ∧ a k = l then w k else 0) + lodS w S a l j (k + 1) + _
    rw [lod_add hx hS (j := j) (k := k + 1), hS k]
    by_cases hc : k = x
    · subst hc
      rw [hx]
      by_cases ha : a k = l
      · rw [if_pos ⟨by simp, ha⟩, if_neg (show ¬ (k + 1 ≤ k ∧ k < k + 1 + j ∧ a k = l) by omega), if_neg (show ¬ (false = true ∧ a k = l) from fun q => absurd q.1 (by decide)), if_pos (show k ≤ k ∧ k < k + (j + 1) ∧ a k = l from ⟨by omega, by omega, ha⟩)]
        omega
      · rw [if_neg (fun q => ha q.2), if_neg (fun q => ha q.2.2), if_neg (fun q => ha q.2), if_neg (fun q => ha q.2.2)]; omega
    · rw [decide_eq_false hc, Bool.or_false]
      have e : (k + 1 ≤ x ∧ x < k + 1 + j ∧ a x = l) ↔ (k ≤ x ∧ x < k + (j + 1) ∧ a x = l) := by omega
      by_cases hd : k + 1 ≤ x ∧ x < k + 1 + j ∧ a x = l
      · rw [if_pos hd, if_pos (e.mp hd)]; omega
      · rw [if_neg hd, if_neg (fun q => hd (e.mpr q))]; omega
theorem lod_ge {w : Nat → Nat} {S : Nat → Bool} {a : Nat → Nat} {x : Nat} (hS : S x = true) : ∀ {j k : Nat}, k ≤ x → x < k + j → w x ≤ lodS w S a (a x) j k
  | 0, k, h1, h2 => absurd h2 (by omega)
  | j + 1, k, h1, h2 => by
    show _ ≤ (if S k = true ∧ a k = a x then w k else 0) + _
    by_cases hc : k = x
    · subst hc
      rw [if_pos ⟨hS, rfl⟩]; omega
    · have := lod_ge (w := w) (a := a) hS (j := j) (k := k + 1) (by omega) (by omega)
      omega
theorem lod_0 {w : Nat → Nat} {S : Nat → Bool} {a : Nat → Nat} {l : Nat} : ∀ {j k : Nat}, (∀ i, k ≤ i → i < k + j → ¬ (S i = true ∧ a i = l)) → lodS w S a l j k = 0
  | 0, _, _ => rfl
  | j + 1, k, h => by
    show (if S k = true ∧ a k = l then w k else 0) + _ = 0
    rw [if_neg (h k (by omega) (by omega)), lod_0 (fun i h1 h2 => h i (by omega) (by omega))]
def PKR (w : Nat → Nat) (S : Nat → Bool) (room : Nat → Nat) (c j k : Nat) : Prop := ∃ a : Nat → Nat, (∀ i, k ≤ i → i < k + j → S i = true → a i < c) ∧ ∀ l, l < c → lodS w S a l j k ≤ room l
def rmU (room : Nat → Nat) (l x : Nat) (i : Nat) : Nat := if i = l then room i - x else room i
def dfs (w : Nat → Nat) (S : Nat → Bool) (c : Nat) : Nat → Nat → (Nat → Nat) → Nat → Option (List Nat)
  | 0, _, _, _ => some []
  | j + 1, k, room, u => if S k = true then fzO (fun l => if w k ≤ room l then (dfs w S c j (k + 1) (rmU room l (w k)) (max u (l + 1))).map (fun t => l :: t) else none) (min (u + 1) c) 0 else (dfs w S c j (k + 1) room u).map (fun t => 0 :: t)
theorem fzO_is {f : Nat → Option (List Nat)} : ∀ {m i : Nat}, (fzO f m i).isSome = true ↔ ∃ l, i ≤ l ∧ l < i + m ∧ (f l).isSome = true
  | 0, i => by
    constructor
    · intro h; have h : (none : Option (List Nat)).isSome = true := h; cases h
    · rintro ⟨l, h1, h2, _⟩; omega
  | m + 1, i => by
    cases hf : f i with
    | some v =>
      rw [fzO_t hf]
      exact ⟨fun _ => ⟨i, by omega, by omega, by rw [hf]; rfl⟩, fun _ => rfl⟩
    | none =>
      rw [fzO_f hf, fzO_is (m := m) (i := i + 1)]
      constructor
      · rintro ⟨l, h1, h2, h3⟩; exact ⟨l, by omega, by omega, h3⟩
      · rintro ⟨l, h1, h2, h3⟩
        refine ⟨l, ?_, by omega, h3⟩
        rcases Nat.lt_or_ge i l with g | g
        · exact g
        · rw [show l = i by omega, hf] at h3; cases h3
theorem dfs_snd {w : Nat → Nat} {S : Nat → Bool} {c : Nat} : ∀ {j k : Nat} {room : Nat → Nat} {u : Nat}, (dfs w S c j k room u).isSome = true → PKR w S room c j k
  | 0, k, room, u, _ => ⟨fun _ => 0, fun i h1 h2 => absurd h2 (by omega), fun l _ => Nat.zero_le _⟩
  | j + 1, k, room, u, h => by
    have h : (if S k = true then fzO (fun l => if w k ≤ room l then (dfs w S c j (k + 1) (rmU room l (w k)) (max u (l + 1))).map (fun t => l :: t) else none) (min (u + 1) c) 0 else (dfs w S c j (k + 1) room u).map (fun t => 0 :: t)).isSome = true := h
    by_cases hs : S k = true
    · rw [if_pos hs, fzO_is] at h
      obtain ⟨l, h1, h2, h3⟩ := h
      by_cases hw : w k ≤ room l
      · rw [if_pos hw, Option.isSome_map] at h3
        obtain ⟨a, ha, hl⟩ := dfs_snd h3
        refine ⟨fun i => if i = k then l else a i, fun i g1 g2 gs => ?_, fun m hm => ?_⟩
        · show (if i = k then l else a i) < c
          by_cases hc : i = k
          · rw [if_pos hc]; omega
          · rw [if_neg hc]; exact ha i (by omega) (by omega) gs
        · show (if S k = true ∧ (if k = k then l else a k) = m then w k else 0) + lodS w S (fun i => if i = k then l else a i) m j (k + 1) ≤ room m
          have e := lod_c (w := w) (S := S) (S' := S) (a := fun i => if i = k then l else a i) (a' := a) (l := m) (l' := m) (j := j) (k := k + 1) (fun i g1 g2 => by
            show (_ ∧ (if i = k then l else a i) = m) ↔ _
            rw [if_neg (by omega)])
          rw [e, if_pos rfl]
          have := hl m hm
          unfold rmU at this
          by_cases hc : m = l
          · rw [if_pos hc] at this
            rw [if_pos ⟨hs, hc.symm⟩]
            subst hc
            omega
          · rw [if_neg hc] at this
            rw [if_neg (fun q => hc q.2.symm)]
            omega
      · rw [if_neg hw] at h3; cases h3
    · rw [if_neg hs, Option.isSome_map] at h
      obtain ⟨a, ha, hl⟩ := dfs_snd h
      refine ⟨a, fun i g1 g2 gs => ?_, fun m hm => ?_⟩
      · by_cases hc : i = k
        · rw [hc] at gs; exact absurd gs hs
        · exact ha i (by omega) (by omega) gs
      · show (if S k = true ∧ a k = m then w k else 0) + _ ≤ _
        rw [if_neg (fun q => hs q.1)]
        have := hl m hm
        omega
def swp (x y i : Nat) : Nat := if i = x then y else if i = y then x else i
theorem swp_i (x y i m : Nat) : swp x y i = m ↔ i = swp x y m := by
  unfold swp
  split <;> split <;> (try split) <;> (try split) <;> omega
theorem dfs_cmp {w : Nat → Nat} {S : Nat → Bool} {c v : Nat} : ∀ {j k : Nat} {room : Nat → Nat} {u : Nat}, (∀ l, u ≤ l → l < c → room l = v) → PKR w S room c j k → (dfs w S c j k room u).isSome = true
  | 0, k, room, u, _, _ => rfl
  | j + 1, k, room, u, hu, ⟨a, ha, hl⟩ => by
    show (if S k = true then fzO (fun l => if w k ≤ room l then (dfs w S c j (k + 1) (rmU room l (w k)) (max u (l + 1))).map (fun t => l :: t) else none) (min (u + 1) c) 0 else (dfs w S c j (k + 1) room u).map (fun t => 0 :: t)).isSome = true
    by_cases hs : S k = true
    · rw [if_pos hs, fzO_is]
      have key : ∀ a : Nat → Nat, (∀ i, k ≤ i → i < k + (j + 1) → S i = true → a i < c) → (∀ l, l < c → lodS w S a l (j + 1) k ≤ room l) → a k ≤ u → ∃ l, 0 ≤ l ∧ l < 0 + min (u + 1) c ∧ (if w k ≤ room l then (dfs w S c j (k + 1) (rmU room l (w k)) (max u (l + 1))).map (fun t => l :: t) else none).isSome = true := by
        intro a ha hl hau
        have hac := ha k (by omega) (by omega) hs
        have h1 : (if S k = true ∧ a k = a k then w k else 0) + lodS w S a (a k) j (k + 1) ≤ room (a k) := hl (a k) hac
        rw [if_pos ⟨hs, rfl⟩] at h1
        refine ⟨a k, by omega, by omega, ?_⟩
        rw [if_pos (by omega), Option.isSome_map]
        refine dfs_cmp (v := v) (fun l g1 g2 => ?_) ⟨a, fun i g1 g2 gs => ha i (by omega) (by omega) gs, fun l g => ?_⟩
        · unfold rmU
          rw [if_neg (by omega)]
          exact hu l (by omega) g2
        · unfold rmU
          have h2 : (if S k = true ∧ a k = l then w k else 0) + lodS w S a l j (k + 1) ≤ room l := hl l g
          by_cases hc : l = a k
          · rw [if_pos hc]
            rw [if_pos ⟨hs, hc.symm⟩] at h2
            omega
          · rw [if_neg hc]; omega
      have hac := ha k (by omega) (by omega) hs
      by_cases hau : a k ≤ u
      · exact key a ha hl hau
      · refine key (fun i => swp (a k) u (a i)) (fun i g1 g2 gs => ?_) (fun l g => ?_) ?_
        · have := ha i g1 g2 gs
          show swp (a k) u (a i) < c
          unfold swp
          split
          · omega
          · split <;> omega
        · have e := lod_c (w := w) (S := S) (S' := S) (a := fun i => swp (a k) u (a i)) (a' := a) (l := l) (l' := swp (a k) u l) (j := j + 1) (k := k) (fun i g1 g2 => by
            show (_ ∧ swp (a k) u (a i) = l) ↔ _
            rw [swp_i])
          rw [e]
          have hlt : swp (a k) u l < c := by
            unfold swp
            split
            · omega
            · split <;> omega
          have h1 := hl (swp (a k) u l) hlt
          have h2 : room (swp (a k) u l) = room l := by
            unfold swp
            by_cases c1 : l = a k
            · rw [if_pos c1, hu u (by omega) (by omega), hu l (by omega) (by omega)]
            · rw [if_neg c1]
              by_cases c2 : l = u
              · rw [if_pos c2, hu (a k) (by omega) (by omega), hu l (by omega) (by omega)]
              · rw [if_neg c2]
          omega
        · show swp (a k) u (a k) ≤ u
          unfold swp
          rw [if_pos rfl]
          exact Nat.le_refl _
    · rw [if_neg hs, Option.isSome_map]
      refine dfs_cmp (v := v) hu ⟨a, fun i g1 g2 gs => ha i (by omega) (by omega) gs, fun l g => ?_⟩
      have h2 : (if S k = true ∧ a k = l then w k else 0) + lodS w S a l j (k + 1) ≤ room l := hl l g
      omega
/-! the fewest by adding one after the other -/
def Rch (w : Nat → Nat) (n v : Nat) (S : Nat → Bool) (c f : Nat) : Prop := ∃ a : Nat → Nat, (∀ i, i < n → S i = true → a i < c) ∧ (∀ l, l < c → lodS w S a l n 0 ≤ v) ∧ ((c = 0 ∧ f = v) ∨ (0 < c ∧ lodS w S a (c - 1) n 0 = f))
def GP (w : Nat → Nat) (n v : Nat) (S : Nat → Bool) (x : Nat) : Prop := (x = 1048576 ∧ ∃ k, k < n ∧ S k = true ∧ v < w k) ∨ (x < 512 ∧ (∀ k, k < n → S k = true → w k ≤ v) ∧ Rch w n v S (x / 32) (x % 32) ∧ ∀ c f, Rch w n v S c f → x ≤ 32 * c + f)
theorem Rch.f {w : Nat → Nat} {n v : Nat} {S : Nat → Bool} {c f : Nat} (h : Rch w n v S c f) : f ≤ v := by
  obtain ⟨a, h1, h2, h3⟩ := h
  rcases h3 with ⟨_, g⟩ | ⟨g, e⟩
  · omega
  · have := h2 (c - 1) (by omega)
    omega
theorem gp_pk {w : Nat → Nat} {n v : Nat} {S : Nat → Bool} {x : Nat} (hv : v < 32) (h : GP w n v S x) (c : Nat) (hc : c < 100) : (x / 32 ≤ c) ↔ PKR w S (fun _ => v) c n 0 := by
  constructor
  · intro hx
    rcases h with ⟨g, _⟩ | ⟨_, _, ⟨a, h1, h2, h3⟩, _⟩
    · omega
    · refine ⟨a, fun i _ g2 gs => by have := h1 i (by omega) gs; omega, fun l g => ?_⟩
      by_cases hl : l < x / 32
      · exact h2 l hl
      · rw [lod_0 (fun i _ g2 q => by have := h1 i (by omega) q.1; omega)]
        exact Nat.zero_le _
  · rintro ⟨a, h1, h2⟩
    rcases h with ⟨_, k, hk, hs, hw⟩ | ⟨_, _, _, hm⟩
    · have := h1 k (by omega) (by omega) hs
      have g : lodS w S a (a k) n 0 ≤ v := h2 (a k) this
      have := lod_ge (w := w) (a := a) hs (j := n) (k := 0) (by omega) (by omega)
      omega
    · by_cases h0 : c = 0
      · subst h0
        have := hm 0 v ⟨a, fun i g gs => h1 i (by omega) (by omega) gs, fun l g => absurd g (by omega), Or.inl ⟨rfl, rfl⟩⟩
        omega
      · have := hm c _ ⟨a, fun i g gs => h1 i (by omega) (by omega) gs, fun l g => h2 l g, Or.inr ⟨by omega, rfl⟩⟩
        have g : lodS w S a (c - 1) n 0 ≤ v := h2 (c - 1) (by omega)
        omega
/-- one bag more: what is needed then -/
def wom (y b v : Nat) : Nat := if 1048576 ≤ y then 1048576 else if y % 32 + b ≤ v then y + b else y / 32 * 32 + 32 + b
def rmvB (S : Nat → Bool) (k i : Nat) : Bool := S i && !decide (i = k)
theorem rmvB_a {S : Nat → Bool} {k : Nat} (hk : S k = true) (i : Nat) : S i = (rmvB S k i || decide (i = k)) := by
  unfold rmvB
  by_cases h : i = k
  · rw [h, hk]; simp
  · simp [h]
theorem gp_min {w : Nat → Nat} {n v : Nat} {S : Nat → Bool} {x : Nat} (hv : v ≤ 20) (hall : ∀ k, k < n → S k = true → w k ≤ v) (hne : ∃ k, k < n ∧ S k = true) (hx : ∀ k, k < n → S k = true → ∃ y, GP w n v (rmvB S k) y ∧ x ≤ wom y (w k) v) : ∀ c f, Rch w n v S c f → x ≤ 32 * c + f := by
  intro c
  induction c with
  | zero =>
    rintro f ⟨a, h1, _, _⟩
    obtain ⟨k, hk, hs⟩ := hne
    exact absurd (h1 k hk hs) (by omega)
  | succ c ih =>
    intro f hr
    have hfv := hr.f
    obtain ⟨a, h1, h2, h3⟩ := hr
    have h3 : lodS w S a c n 0 = f := by
      rcases h3 with ⟨g, _⟩ | ⟨_, e⟩
      · omega
      · exact e
    by_cases hl : ∃ k, k < n ∧ S k = true ∧ a k = c
    · obtain ⟨k, hk, hs, hak⟩ := hl
      obtain ⟨y, gy, hy⟩ := hx k hk hs
      have hadd : ∀ l, lodS w S a l n 0 = lodS w (rmvB S k) a l n 0 + (if 0 ≤ k ∧ k < 0 + n ∧ a k = l then w k else 0) := fun l => lod_add (x := k) (by unfold rmvB; rw [decide_eq_true rfl]; simp) (rmvB_a hs)
      have hc := hadd c
      rw [if_pos ⟨by omega, by omega, hak⟩] at hc
      have rr : Rch w n v (rmvB S k) (c + 1) (f - w k) := ⟨a, fun i hi g => h1 i hi (by unfold rmvB at g; rw [Bool.and_eq_true] at g; exact g.1), fun l g => by have := h2 l g; have := hadd l; omega, Or.inr ⟨by omega, by show lodS w (rmvB S k) a c n 0 = f - w k; omega⟩⟩
      have hwk := hall k hk hs
      rcases gy with ⟨g, k', hk', hs', hw'⟩ | ⟨g1, _, g3, g4⟩
      · have := hall k' hk' (by unfold rmvB at hs'; rw [Bool.and_eq_true] at hs'; exact hs'.1)
        omega
      · have hmin := g4 _ _ rr
        have hf' := g3.f
        unfold wom at hy
        rw [if_neg (by omega)] at hy
        split at hy
        · rename_i hin
          by_cases hcc : y / 32 = c + 1
          · omega
          · omega
        · rename_i hin
          by_cases hcc : y / 32 = c + 1
          · omega
          · omega
    · have : Rch w n v S c (if c = 0 then v else lodS w S a (c - 1) n 0) := by
        refine ⟨a, fun i hi g => ?_, fun l g => h2 l (by omega), ?_⟩
        · have := h1 i hi g
          by_cases hc : a i = c
          · exact absurd ⟨i, hi, g, hc⟩ hl
          · omega
        · by_cases h0 : c = 0
          · exact Or.inl ⟨h0, by rw [if_pos h0]⟩
          · exact Or.inr ⟨by omega, by rw [if_neg h0]⟩
      have hi := ih _ this
      have := this.f
      omega
theorem gp_rch {w : Nat → Nat} {n v : Nat} {S : Nat → Bool} {k y : Nat} (hv : v ≤ 20) (hk : k < n) (hs : S k = true) (hw : w k ≤ v) (hw1 : 1 ≤ w k) (hy : y < 512) (h : Rch w n v (rmvB S k) (y / 32) (y % 32)) : Rch w n v S (wom y (w k) v / 32) (wom y (w k) v % 32) := by
  have hf := h.f
  obtain ⟨a, h1, h2, h3⟩ := h
  have hadd : ∀ (b : Nat → Nat) l, lodS w S b l n 0 = lodS w (rmvB S k) b l n 0 + (if 0 ≤ k ∧ k < 0 + n ∧ b k = l then w k else 0) := fun b l => lod_add (x := k) (by unfold rmvB; rw [decide_eq_true rfl]; simp) (rmvB_a hs)
  have hup : ∀ t l, lodS w (rmvB S k) (fun i => if i = k then t else a i) l n 0 = lodS w (rmvB S k) a l n 0 := fun t l => lod_c (fun i _ _ => by
    show (_ ∧ (if i = k then t else a i) = l) ↔ _
    by_cases hc : i = k
    · subst hc
      have : rmvB S i i = false := by unfold rmvB; rw [decide_eq_true rfl]; simp
      rw [this]; simp
    · rw [if_neg hc])
  unfold wom
  rw [if_neg (by omega)]
  have mk : ∀ t c f, t < c → y / 32 ≤ c → (∀ l, l < c → lodS w (rmvB S k) a l n 0 + (if t = l then w k else 0) ≤ v) → lodS w (rmvB S k) a (c - 1) n 0 + (if t = c - 1 then w k else 0) = f → Rch w n v S c f := by
    intro t c f ht hc hl hf
    have ek : ∀ l, lodS w S (fun i => if i = k then t else a i) l n 0 = lodS w (rmvB S k) a l n 0 + (if t = l then w k else 0) := by
      intro l
      rw [hadd, hup]
      congr 1
      show (if 0 ≤ k ∧ k < 0 + n ∧ (if k = k then t else a k) = l then w k else 0) = _
      rw [if_pos rfl]
      by_cases g : t = l
      · rw [if_pos ⟨by omega, by omega, g⟩, if_pos g]
      · rw [if_neg (fun q => g q.2.2), if_neg g]
    refine ⟨fun i => if i = k then t else a i, fun i hi g => ?_, fun l g => by rw [ek]; exact hl l g, Or.inr ⟨by omega, by rw [ek]; exact hf⟩⟩
    show (if i = k then t else a i) < c
    by_cases hik : i = k
    · rw [if_pos hik]; exact ht
    · rw [if_neg hik]
      have := h1 i hi (by unfold rmvB; rw [g, decide_eq_false hik]; rfl)
      omega
  split
  · rename_i hin
    have hc0 : 0 < y / 32 ∧ lodS w (rmvB S k) a (y / 32 - 1) n 0 = y % 32 := by
      rcases h3 with ⟨_, g⟩ | g
      · omega
      · exact g
    rw [show (y + w k) / 32 = y / 32 by omega, show (y + w k) % 32 = y % 32 + w k by omega]
    refine mk (y / 32 - 1) (y / 32) _ (by omega) (by omega) (fun l g => ?_) (by rw [if_pos rfl]; omega)
    by_cases hl : y / 32 - 1 = l
    · rw [if_pos hl, ← hl]; omega
    · rw [if_neg hl]; exact h2 l g
  · rw [show (y / 32 * 32 + 32 + w k) / 32 = y / 32 + 1 by omega, show (y / 32 * 32 + 32 + w k) % 32 = w k by omega]
    have z : lodS w (rmvB S k) a (y / 32) n 0 = 0 := lod_0 (fun i _ g2 q => by have := h1 i (by omega) q.1; omega)
    refine mk (y / 32) (y / 32 + 1) _ (by omega) (by omega) (fun l g => ?_) ?_
    · by_cases hl : y / 32 = l
      · rw [if_pos hl, ← hl, z]; omega
      · rw [if_neg hl]; exact h2 l (by omega)
    · rw [show y / 32 + 1 - 1 = y / 32 by omega, if_pos rfl, z]; omega
theorem lod_id {w : Nat → Nat} {S : Nat → Bool} {l : Nat} : ∀ {j k : Nat}, lodS w S (fun i => i) l j k = if k ≤ l ∧ l < k + j ∧ S l = true then w l else 0
  | 0, k => by rw [if_neg (fun q => absurd q.2.1 (by have := q.1; omega))]; rfl
  | j + 1, k => by
    show (if S k = true ∧ k = l then w k else 0) + lodS w S (fun i => i) l j (k + 1) = _
    rw [lod_id (j := j) (k := k + 1)]
    by_cases hc : k = l
    · subst hc
      rw [if_neg (c := k + 1 ≤ k ∧ k < k + 1 + j ∧ S k = true) (fun q => absurd q.1 (by omega))]
      by_cases hs : S k = true
      · rw [if_pos ⟨hs, rfl⟩, if_pos ⟨Nat.le_refl k, by omega, hs⟩]; omega
      · rw [if_neg (fun q => hs q.1), if_neg (fun q => hs q.2.2)]
    · rw [if_neg (c := S k = true ∧ k = l) (fun q => hc q.2), Nat.zero_add]
      by_cases hd : k + 1 ≤ l ∧ l < k + 1 + j ∧ S l = true
      · rw [if_pos hd, if_pos ⟨by have := hd.1; omega, by have := hd.2.1; omega, hd.2.2⟩]
      · rw [if_neg hd, if_neg (fun q => hd ⟨by have := q.1; omega, by have := q.2.1; omega, q.2.2⟩)]
theorem rch_all {w : Nat → Nat} {n v : Nat} {S : Nat → Bool} (hn : 1 ≤ n) (h : ∀ k, k < n → S k = true → w k ≤ v) : ∃ f, f ≤ v ∧ Rch w n v S n f := by
  have hl : ∀ l, l < n → lodS w S (fun i => i) l n 0 ≤ v := fun l g => by
    rw [lod_id]
    split
    · rename_i q; exact h l g q.2.2
    · exact Nat.zero_le _
  exact ⟨_, hl (n - 1) (by omega), fun i => i, fun i g _ => g, hl, Or.inr ⟨by omega, rfl⟩⟩
theorem not_all {w : Nat → Nat} {n v : Nat} {S : Nat → Bool} (h : ¬ ∀ k, k < n → S k = true → w k ≤ v) : ∃ k, k < n ∧ S k = true ∧ v < w k := Classical.byContradiction (fun q => h (fun k hk hs => Nat.le_of_not_lt (fun g => q ⟨k, hk, hs, g⟩)))
theorem gp_fin {w : Nat → Nat} {n v : Nat} {S : Nat → Bool} {y : Nat} (hv : v ≤ 20) (hn : 1 ≤ n) (hn8 : n ≤ 8) (hw1 : ∀ k, k < n → 1 ≤ w k) (hne : ∃ k, k < n ∧ S k = true) (hlo : ∀ k, k < n → S k = true → w k ≤ v → ∃ z, GP w n v (rmvB S k) z ∧ y ≤ wom z (w k) v) (hhi : y = 1048576 ∨ ∃ k, k < n ∧ S k = true ∧ w k ≤ v ∧ ∃ z, GP w n v (rmvB S k) z ∧ y = wom z (w k) v) : GP w n v S y := by
  by_cases hall : ∀ k, k < n → S k = true → w k ≤ v
  · right
    obtain ⟨f, hf, hr⟩ := rch_all hn hall
    have hmin := gp_min hv hall hne (fun k hk hs => hlo k hk hs (hall k hk hs))
    have hb := hmin _ _ hr
    have hy : y < 512 := by omega
    refine ⟨hy, hall, ?_, hmin⟩
    rcases hhi with e | ⟨k, hk, hs, hkv, z, gz, e⟩
    · omega
    · rcases gz with ⟨gz, _⟩ | ⟨g1, _, g3, _⟩
      · rw [e] at hy; unfold wom at hy; rw [if_pos (by omega)] at hy; omega
      · rw [e]; exact gp_rch hv hk hs hkv (hw1 k hk) g1 g3
  · left
    obtain ⟨k0, h1, h2, h3⟩ := not_all hall
    refine ⟨?_, k0, h1, h2, h3⟩
    rcases hhi with e | ⟨k, hk, hs, hkv, z, gz, e⟩
    · exact e
    · have hne' : ¬ k0 = k := by intro q; rw [q] at h3; omega
      have hr : rmvB S k k0 = true := by unfold rmvB; rw [h2, decide_eq_false hne']; rfl
      rcases gz with ⟨gz, _⟩ | ⟨_, g2, _, _⟩
      · rw [e, gz]; exact if_pos (Nat.le_refl _)
      · have := g2 k0 h1 hr; omega
theorem gp_0 {w : Nat → Nat} {n v : Nat} {S : Nat → Bool} (hv : v ≤ 20) (h : ∀ k, k < n → S k = false) : GP w n v S v := by
  right
  refine ⟨by omega, fun k hk hs => ?_, ⟨fun _ => 0, fun i hi hs => ?_, fun l hl => ?_, Or.inl ⟨by omega, by omega⟩⟩, fun c f hr => ?_⟩
  · rw [h k hk] at hs; cases hs
  · rw [h i hi] at hs; cases hs
  · omega
  · obtain ⟨a, h1, h2, h3⟩ := hr
    rcases h3 with ⟨g, e⟩ | ⟨g, _⟩
    · omega
    · omega
theorem gp_ex (w : Nat → Nat) {n v : Nat} (S : Nat → Bool) (hv : v ≤ 20) (hn : 1 ≤ n) (hn8 : n ≤ 8) : ∃ x, GP w n v S x := by
  by_cases hall : ∀ k, k < n → S k = true → w k ≤ v
  · obtain ⟨f, hf, hr⟩ := rch_all hn hall
    obtain ⟨x, h1, h2, h3⟩ := @fb_first (fun x => Rch w n v S (x / 32) (x % 32)) (fun _ => Classical.propDecidable _) 512 ⟨32 * n + f, by omega, by rw [show (32 * n + f) / 32 = n by omega, show (32 * n + f) % 32 = f by omega]; exact hr⟩
    refine ⟨x, Or.inr ⟨h1, hall, h2, fun c f hr => ?_⟩⟩
    have hf := hr.f
    apply Nat.le_of_not_lt
    intro g
    refine h3 _ g ?_
    show Rch w n v S ((32 * c + f) / 32) ((32 * c + f) % 32)
    rw [show (32 * c + f) / 32 = c by omega, show (32 * c + f) % 32 = f by omega]
    exact hr
  · exact ⟨1048576, Or.inl ⟨rfl, not_all hall⟩⟩
theorem gp_dfs {w : Nat → Nat} {n v : Nat} {S : Nat → Bool} {x : Nat} (hv : v < 32) (h : GP w n v S x) {c : Nat} (hc : c < 100) : (dfs w S c n 0 (fun _ => v) 0).isSome = true ↔ x / 32 ≤ c := ⟨fun g => (gp_pk hv h c hc).mpr (dfs_snd g), fun g => dfs_cmp (v := v) (fun _ _ _ => rfl) ((gp_pk hv h c hc).mp g)⟩
/-- the fewest: all that is needed of it -/
theorem gp_few {w : Nat → Nat} {n v : Nat} {S : Nat → Bool} {x : Nat} (hv : v ≤ 20) (hn : 1 ≤ n) (hn8 : n ≤ 8) (hne : ∃ k, k < n ∧ S k = true) (hall : ∀ k, k < n → S k = true → w k ≤ v) (h : GP w n v S x) : x < 512 ∧ 1 ≤ x / 32 ∧ x / 32 ≤ 8 := by
  rcases h with ⟨g, k, hk, hs, hw⟩ | ⟨g1, g2, g3, g4⟩
  · have := hall k hk hs; omega
  · obtain ⟨f, hf, hr⟩ := rch_all hn hall
    have := g4 _ _ hr
    refine ⟨g1, ?_, by omega⟩
    obtain ⟨k, hk, hs⟩ := hne
    obtain ⟨a, h1, _, _⟩ := g3
    have := h1 k hk hs
    omega
theorem gp_big {w : Nat → Nat} {n v : Nat} {S : Nat → Bool} {x k : Nat} (h : GP w n v S x) (hk : k < n) (hs : S k = true) (hw : v < w k) : x = 1048576 := by
  rcases h with ⟨g, _⟩ | ⟨_, g2, _⟩
  · exact g
  · have := g2 k hk hs; omega

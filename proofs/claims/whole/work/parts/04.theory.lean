/-! ABSTRACT MEMORY: how many cells, each one's kind and length, its ints, longs and references, by (cell, place). A cell's kind: 0 to 12 an object of that class of vwCl; 20 int[], 21 long[], 22 boolean[], 23 Minutes[], 24 Plan[]. -/
def sB : Nat := 100000
abbrev MM : Type := Nat × (Nat → Nat × Nat) × (Nat → Nat → Int32) × (Nat → Nat → Int64) × (Nat → Nat → Option Nat)
def mN (M : MM) : Nat := M.1
def mS (M : MM) : Nat → Nat × Nat := M.2.1
def mI (M : MM) : Nat → Nat → Int32 := M.2.2.1
def mL (M : MM) : Nat → Nat → Int64 := M.2.2.2.1
def mR (M : MM) : Nat → Nat → Option Nat := M.2.2.2.2
def up2 {α : Type} (f : Nat → Nat → α) (a k : Nat) (v : α) : Nat → Nat → α := fun b j => if b = a ∧ j = k then v else f b j
def sI (M : MM) (a k : Nat) (v : Int32) : MM := (M.1, M.2.1, up2 M.2.2.1 a k v, M.2.2.2.1, M.2.2.2.2)
def sL (M : MM) (a k : Nat) (v : Int64) : MM := (M.1, M.2.1, M.2.2.1, up2 M.2.2.2.1 a k v, M.2.2.2.2)
def sR (M : MM) (a k : Nat) (v : Option Nat) : MM := (M.1, M.2.1, M.2.2.1, M.2.2.2.1, up2 M.2.2.2.2 a k v)
def inb (i : Int32) (n : Nat) : Bool := !(decide (i < 0) || decide (n ≤ i.toNatClampNeg))
theorem inb_in {i : Int32} {n : Nat} (h : inb i n = true) : vp_in i n := by
  unfold inb at h
  unfold vp_in
  simpa using h
def nz (x : Int32) : Int32 := vp_nar .boolean x
def isO (ci a : Nat) (M : MM) : Bool := decide (a < mN M) && decide ((mS M a).1 = ci)
def gI (ci k a : Nat) (M : MM) : Option Int32 := if isO ci a M = true then some (mI M a k) else none
def gL (ci k a : Nat) (M : MM) : Option Int64 := if isO ci a M = true then some (mL M a k) else none
def gR (ci k a : Nat) (M : MM) : Option Nat := if isO ci a M = true then mR M a k else none
def pI (ci k a : Nat) (v : Int32) (M : MM) : Option MM := if isO ci a M = true then some (sI M a k v) else none
def pL (ci k a : Nat) (v : Int64) (M : MM) : Option MM := if isO ci a M = true then some (sL M a k v) else none
def pR (ci k a : Nat) (v : Nat) (M : MM) : Option MM := if isO ci a M = true then some (sR M a k (some v)) else none
def ldI (a : Nat) (i : Int32) (M : MM) : Option Int32 := if isO 20 a M = true ∧ inb i (mS M a).2 = true then some (mI M a i.toNatClampNeg) else none
def ldL (a : Nat) (i : Int32) (M : MM) : Option Int64 := if isO 21 a M = true ∧ inb i (mS M a).2 = true then some (mL M a i.toNatClampNeg) else none
def ldZ (a : Nat) (i : Int32) (M : MM) : Option Int32 := if isO 22 a M = true ∧ inb i (mS M a).2 = true then some (mI M a i.toNatClampNeg) else none
def ldR (kd a : Nat) (i : Int32) (M : MM) : Option Nat := if isO kd a M = true ∧ inb i (mS M a).2 = true then mR M a i.toNatClampNeg else none
def stI (a : Nat) (i v : Int32) (M : MM) : Option MM := if isO 20 a M = true ∧ inb i (mS M a).2 = true then some (sI M a i.toNatClampNeg v) else none
def stL (a : Nat) (i : Int32) (v : Int64) (M : MM) : Option MM := if isO 21 a M = true ∧ inb i (mS M a).2 = true then some (sL M a i.toNatClampNeg v) else none
def stZ (a : Nat) (i v : Int32) (M : MM) : Option MM := if isO 22 a M = true ∧ inb i (mS M a).2 = true then some (sI M a i.toNatClampNeg (nz v)) else none
def stR (kd ci a : Nat) (i : Int32) (v : Nat) (M : MM) : Option MM := if isO kd a M = true ∧ inb i (mS M a).2 = true ∧ isO ci v M = true then some (sR M a i.toNatClampNeg (some v)) else none
/-- a row of ints copied: from cell a at sp into cell b at dp, n of them -/
def cpI (a : Nat) (sp : Int32) (b : Nat) (dp n : Int32) (M : MM) : Option MM :=
  if isO 20 a M = true ∧ isO 20 b M = true ∧ ¬ sp < 0 ∧ ¬ dp < 0 ∧ ¬ n < 0 ∧ sp.toNatClampNeg + n.toNatClampNeg ≤ (mS M a).2 ∧ dp.toNatClampNeg + n.toNatClampNeg ≤ (mS M b).2 then
    some (M.1, M.2.1, (fun c => if c = b then va_cpy (mI M a) (mI M b) sp.toNatClampNeg dp.toNatClampNeg n.toNatClampNeg else mI M c), M.2.2.2.1, M.2.2.2.2) else none
/-- a new cell of a kind, of a length -/
def nC (kd len : Nat) (M : MM) : MM := (M.1 + 1, (fun a => if a = M.1 then (kd, len) else M.2.1 a), (fun a k => if a = M.1 then 0 else M.2.2.1 a k), (fun a k => if a = M.1 then 0 else M.2.2.2.1 a k), (fun a k => if a = M.1 then none else M.2.2.2.2 a k))
def b1 {α β : Type} (x : Option α) (f : α → Option β) : Option β := match x with
  | none => none
  | some a => f a
def b2 {α β γ : Type} (x : Option (α × β)) (f : α → β → Option γ) : Option γ := match x with
  | none => none
  | some q => f q.1 q.2
def bn {α β : Type} (x : α) (f : α → β) : β := f x
theorem b1_some {α β : Type} {x : Option α} {f : α → Option β} {o : β} (h : b1 x f = some o) : ∃ a, x = some a ∧ f a = some o := by
  cases x with
  | none => cases h
  | some a => exact ⟨a, rfl, h⟩
theorem b2_some {α β γ : Type} {x : Option (α × β)} {f : α → β → Option γ} {o : γ} (h : b2 x f = some o) : ∃ a b, x = some (a, b) ∧ f a b = some o := by
  cases x with
  | none => cases h
  | some a => exact ⟨a.1, a.2, rfl, h⟩
theorem ite_some {α : Type} {c : Prop} {d : Decidable c} {x o : α} (h : (if c then some x else none) = some o) : c ∧ x = o := by
  by_cases hc : c
  · rw [if_pos hc] at h; exact ⟨hc, Option.some.inj h⟩
  · rw [if_neg hc] at h; cases h
theorem iteO_some {α : Type} {c : Prop} {d : Decidable c} {x : Option α} {o : α} (h : (if c then x else none) = some o) : c ∧ x = some o := by
  by_cases hc : c
  · rw [if_pos hc] at h; exact ⟨hc, h⟩
  · rw [if_neg hc] at h; cases h
theorem isO_of {ci a : Nat} {M : MM} (h : isO ci a M = true) : a < mN M ∧ (mS M a).1 = ci := by
  unfold isO at h
  simpa using h
/-! THE CELLS OF AN ABSTRACT MEMORY, as the kit's worlds have them -/
def fTy (ci : Nat) : Nat → FieldType := match ci with
  | 0 => tyX0 | 1 => tyX1 | 2 => tyX2 | 3 => tyX3 | 4 => tyX4 | 5 => tyX5 | 6 => tyX6 | 7 => tyX7 | 8 => tyX8 | 9 => tyX9 | 10 => tyX10 | 11 => tyX11 | _ => tyX12
def fNf (ci : Nat) : Nat := match vwCl[ci]? with
  | some q => q.2.2
  | none => 0
def kdV (ty : FieldType) (i : Int32) (l : Int64) (r : Option Nat) : Value := match ty with
  | .long => .long l
  | .object _ => va_rf r
  | .array _ => va_rf r
  | _ => .int i
def oFs (ad : Nat → Nat) (ci : Nat) (M : MM) (a : Nat) : List Value := (List.range (fNf ci)).map (fun k => kdV (fTy ci k) (mI M a k) (mL M a k) ((mR M a k).map ad))
def cE (cy : Nat → ClassId) (ad : Nat → Nat) (M : MM) (a : Nat) : va_E :=
  match (mS M a).1 with
  | 20 => .inl (cy 0, (mS M a).2, .inl (mI M a))
  | 21 => .inl (cy 1, (mS M a).2, .inr (.inl (mL M a)))
  | 22 => .inl (cy 2, (mS M a).2, .inl (mI M a))
  | 23 => .inl (cy 3, (mS M a).2, .inr (.inr (.inr (.inr (fun i => (mR M a i).map ad)))))
  | 24 => .inl (cy 4, (mS M a).2, .inr (.inr (.inr (.inr (fun i => (mR M a i).map ad)))))
  | ci => .inr (ci, oFs ad ci M a)
def tysM (cy : Nat → ClassId) : List (ClassId × FieldType) := [(cy 0, .int), (cy 1, .long), (cy 2, .boolean), (cy 3, .object RX2), (cy 4, .object RX5)]
def wsM (cy : Nat → ClassId) (ad : Nat → Nat) (sz : Nat) (M : MM) : va_W := (List.range (mN M)).map (fun a => (sz + a, cE cy ad M a))
theorem wsM_at {cy : Nat → ClassId} {ad : Nat → Nat} {sz : Nat} {M : MM} {a : Nat} (h : a < mN M) : (wsM cy ad sz M)[a]? = some (sz + a, cE cy ad M a) := by
  unfold wsM
  rw [List.getElem?_map, List.getElem?_range h]
  rfl
theorem wsM_set {cy : Nat → ClassId} {ad : Nat → Nat} {sz : Nat} {M M' : MM} {a : Nat} (hn : mN M' = mN M) (hb : ∀ b, b ≠ a → cE cy ad M' b = cE cy ad M b) : (wsM cy ad sz M).set a (sz + a, cE cy ad M' a) = wsM cy ad sz M' := by
  apply List.ext_getElem?
  intro k
  unfold wsM
  rw [List.getElem?_set]
  by_cases hk : a = k
  · subst hk
    by_cases hl : a < mN M
    · simp [hl, hn, List.getElem?_range]
    · simp [hl, hn]
  · rw [if_neg hk, List.getElem?_map, List.getElem?_map, hn]
    by_cases hl : k < mN M
    · rw [List.getElem?_range hl]; simp [hb k (Ne.symm hk)]
    · have : (List.range (mN M))[k]? = none := by simp; omega
      rw [this]; rfl
theorem wsM_D {cy : Nat → ClassId} {ad : Nat → Nat} {sz : Nat} {M : MM} : va_D (fun q => sz ≤ q) (wsM cy ad sz M) := by
  have key : ∀ (k : Nat) (q : Nat × va_E), (wsM cy ad sz M)[k]? = some q → q.1 = sz + k := by
    intro k q hk
    by_cases h : k < mN M
    · rw [wsM_at h] at hk; cases hk; rfl
    · unfold wsM at hk
      have : (List.range (mN M))[k]? = none := by simp; omega
      rw [List.getElem?_map, this] at hk; cases hk
  refine ⟨fun i j p q hi hj h => ?_, fun k q hk => ?_⟩
  · have h1 := key i p hi; have h2 := key j q hj; omega
  · rw [key k q hk]; exact Nat.le_add_right _ _
/-- a memory as a heap holds it: from sz on; tg: nothing else has been made since -/
def Rp (D : va_G) (cy : Nat → ClassId) (sz : Nat) (ad : Nat → Nat) (tg : Bool) (M : MM) (H : Heap) : Prop := va_P D vwCl (wsM cy ad sz M) H ∧ sz + mN M ≤ H.size ∧ (tg = true → H.size = sz + mN M) ∧ mN M ≤ sB
def shV (ad : Nat → Nat) : Value → Value
  | .ref a => .ref (ad a)
  | v => v
def shL (ad : Nat → Nat) (lv : List (Nat × Value)) : List (Nat × Value) := lv.map (fun q => (q.1, shV ad q.2))
theorem shV_cat (ad : Nat → Nat) (v : Value) : (shV ad v).category = v.category := by cases v <;> rfl
/-! THE WORDS -/
def gtbl : List Cond := lw_tbl.filter goodWord
theorem gtbl_of {w : Cond} (h : w ∈ lw_tbl) (hg : goodWord w = true) : w ∈ gtbl := List.mem_filter.mpr ⟨h, hg⟩
theorem gtbl_good {w : Cond} (h : w ∈ gtbl) : (w.onTables && w.keeps) = true ∨ ∃ ty, w = .arrayClass ty := good_of_word (List.mem_filter.mp h).2

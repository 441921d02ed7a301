/-! THE MEMORY BEHIND THE CONSTRUCTORS -/
def shT : List (Nat × Nat) := [(11, 0), (10, 0), (20, 80), (6, 0), (21, 8), (9, 0), (22, 6), (20, 8), (20, 8), (20, 8), (20, 8), (20, 8), (22, 8), (20, 48), (5, 0), (20, 12), (5, 0), (20, 12), (1, 0), (23, 6), (23, 6), (23, 6), (2, 0), (23, 6), (2, 0), (20, 12), (20, 12), (2, 0), (2, 0), (2, 0), (2, 0), (2, 0), (2, 0), (2, 0), (2, 0), (2, 0), (2, 0), (2, 0), (2, 0), (2, 0), (2, 0), (2, 0), (2, 0), (2, 0), (2, 0), (2, 0), (2, 0), (2, 0), (2, 0), (2, 0), (2, 0), (1, 0), (23, 6), (23, 6), (23, 6), (2, 0), (23, 6), (2, 0), (20, 12), (20, 12), (2, 0), (2, 0), (2, 0), (2, 0), (2, 0), (2, 0), (2, 0), (2, 0), (2, 0), (2, 0), (2, 0), (2, 0), (2, 0), (2, 0), (2, 0), (2, 0), (2, 0), (2, 0), (2, 0), (2, 0), (2, 0), (2, 0), (2, 0), (2, 0), (7, 0), (20, 40), (20, 40), (20, 41), (20, 8), (3, 0), (20, 6), (20, 6), (4, 0), (24, 15), (24, 3), (20, 3), (20, 3), (5, 0), (20, 12), (5, 0), (20, 12), (5, 0), (20, 12), (5, 0), (20, 12), (5, 0), (20, 12), (5, 0), (20, 12), (5, 0), (20, 12), (5, 0), (20, 12), (5, 0), (20, 12), (5, 0), (20, 12), (5, 0), (20, 12), (5, 0), (20, 12), (5, 0), (20, 12), (5, 0), (20, 12), (5, 0), (20, 12), (5, 0), (20, 12), (5, 0), (20, 12), (5, 0), (20, 12), (8, 0), (20, 12), (20, 12), (20, 12), (0, 0), (20, 8), (20, 8), (20, 8), (20, 256), (20, 4), (12, 0), (21, 24), (22, 6), (20, 48), (20, 8), (20, 8), (20, 8), (20, 8), (20, 8), (22, 8), (20, 46), (20, 46), (20, 80), (22, 6), (20, 48), (20, 8), (20, 80), (20, 80), (20, 80), (20, 46), (20, 736), (20, 60), (20, 60), (20, 60), (20, 60), (20, 6), (20, 6), (20, 3), (20, 6), (20, 6), (20, 8), (20, 8), (20, 8), (20, 12), (20, 12), (20, 12), (20, 12), (22, 3), (20, 3), (20, 138), (21, 1)]
def S0 (a : Nat) : Nat × Nat := shT.getD a (99, 0)
def rfT : List (Nat × Nat × Nat) := [(0, 0, 1), (0, 1, 3), (0, 2, 5), (0, 3, 14), (0, 4, 16), (0, 5, 18), (0, 6, 51), (0, 7, 84), (0, 8, 89), (0, 9, 92), (0, 10, 133), (0, 11, 137), (0, 12, 142), (1, 0, 2), (3, 0, 4), (5, 0, 6), (5, 1, 7), (5, 2, 8), (5, 3, 9), (5, 4, 10), (5, 5, 11), (5, 6, 12), (5, 10, 13), (14, 0, 15), (16, 0, 17), (18, 0, 5), (18, 1, 14), (18, 2, 19), (18, 3, 20), (18, 4, 21), (18, 5, 22), (18, 6, 23), (18, 7, 24), (18, 8, 25), (18, 9, 26), (19, 0, 27), (19, 1, 31), (19, 2, 35), (19, 3, 39), (19, 4, 43), (19, 5, 47), (20, 0, 28), (20, 1, 32), (20, 2, 36), (20, 3, 40), (20, 4, 44), (20, 5, 48), (21, 0, 29), (21, 1, 33), (21, 2, 37), (21, 3, 41), (21, 4, 45), (21, 5, 49), (23, 0, 30), (23, 1, 34), (23, 2, 38), (23, 3, 42), (23, 4, 46), (23, 5, 50), (51, 0, 5), (51, 1, 16), (51, 2, 52), (51, 3, 53), (51, 4, 54), (51, 5, 55), (51, 6, 56), (51, 7, 57), (51, 8, 58), (51, 9, 59), (52, 0, 60), (52, 1, 64), (52, 2, 68), (52, 3, 72), (52, 4, 76), (52, 5, 80), (53, 0, 61), (53, 1, 65), (53, 2, 69), (53, 3, 73), (53, 4, 77), (53, 5, 81), (54, 0, 62), (54, 1, 66), (54, 2, 70), (54, 3, 74), (54, 4, 78), (54, 5, 82), (56, 0, 63), (56, 1, 67), (56, 2, 71), (56, 3, 75), (56, 4, 79), (56, 5, 83), (84, 0, 5), (84, 1, 14), (84, 2, 85), (84, 3, 86), (84, 4, 87), (84, 5, 88), (89, 0, 5), (89, 1, 14), (89, 2, 18), (89, 3, 84), (89, 4, 90), (89, 5, 91), (92, 0, 93), (92, 1, 94), (92, 2, 95), (92, 3, 96), (94, 0, 127), (94, 1, 129), (94, 2, 131), (97, 0, 98), (99, 0, 100), (101, 0, 102), (103, 0, 104), (105, 0, 106), (107, 0, 108), (109, 0, 110), (111, 0, 112), (113, 0, 114), (115, 0, 116), (117, 0, 118), (119, 0, 120), (121, 0, 122), (123, 0, 124), (125, 0, 126), (127, 0, 128), (129, 0, 130), (131, 0, 132), (133, 0, 5), (133, 1, 134), (133, 2, 135), (133, 3, 136), (137, 0, 138), (137, 2, 139), (137, 3, 140), (137, 4, 141), (143, 2, 144), (143, 7, 145), (143, 8, 146), (143, 9, 147), (143, 10, 148), (143, 11, 149), (143, 12, 150), (143, 13, 151), (143, 14, 152), (143, 15, 153), (143, 16, 154), (143, 17, 155), (143, 22, 156), (143, 23, 157), (143, 26, 158), (143, 27, 159), (143, 28, 160), (143, 31, 161), (143, 32, 162), (143, 34, 163), (143, 35, 164), (143, 36, 165), (143, 37, 166), (143, 38, 167), (143, 42, 168), (143, 43, 169), (143, 44, 170), (143, 45, 171), (143, 46, 172), (143, 47, 173), (143, 49, 174), (143, 50, 175), (143, 52, 176), (143, 53, 177), (143, 54, 178), (143, 55, 179), (143, 56, 180), (143, 57, 181), (143, 58, 182)]
def ivT : List (Nat × Nat × Int32) := [(1, 1, 0), (3, 1, 0), (5, 7, 0), (5, 8, 0), (5, 9, 60), (14, 1, 0), (84, 6, 0), (92, 4, 0), (133, 4, 0), (143, 1, 0), (143, 3, 0), (143, 4, 0), (143, 5, 0), (143, 6, 60), (143, 18, 0), (143, 29, 0), (143, 33, 0), (143, 51, 0), (153, 45, 0), (127, 1, 0), (129, 1, 0), (131, 1, 0), (13, 0, 1), (13, 1, 1), (13, 2, 1), (13, 3, 1), (13, 4, 1), (13, 5, 1), (13, 6, 1), (13, 7, 1), (13, 8, 1), (13, 9, 1), (13, 10, 1), (13, 11, 1), (13, 12, 1), (13, 13, 1), (13, 14, 1), (13, 15, 1), (13, 16, 1), (13, 17, 1), (13, 18, 1), (13, 19, 1), (13, 20, 1), (13, 21, 1), (13, 22, 1), (13, 23, 1), (13, 24, 1), (13, 25, 1), (13, 26, 1), (13, 27, 1), (13, 28, 1), (13, 29, 1), (13, 30, 1), (13, 31, 1), (13, 32, 1), (13, 33, 1), (13, 34, 1), (13, 35, 1), (13, 36, 1), (13, 37, 1), (13, 38, 1), (13, 39, 1), (13, 40, 1), (13, 41, 1), (13, 42, 1), (13, 43, 1), (13, 44, 1), (13, 45, 1), (13, 46, 1), (13, 47, 1), (95, 0, -1), (95, 1, -1), (95, 2, -1), (180, 0, 0), (180, 1, 0), (180, 2, 0), (181, 0, 0), (181, 1, 0), (181, 2, 0), (182, 45, 0), (182, 91, 0), (182, 137, 0)]
def g_ctor : Option ((Nat × Nat × Nat) × MM) :=
  b2 (nO 11 0 M00) fun a1 M1 => b1 (f_X11_init a1 M1) fun M2 => b2 (nO 12 0 M2) fun a3 M3 => b1 (f_X12_init a3 M3) fun M4 => b2 (nO 21 1 M4) fun a5 M5 => some ((a1, a3, a5), M5)
def chkM (M : MM) : Bool := decide (mN M = 184) && (List.range 184).all (fun a => decide (mS M a = S0 a)) && rfT.all (fun q => decide (mR M q.1 q.2.1 = some q.2.2)) && (List.range 15).all (fun k => decide (mR M 93 k = some (97 + 2 * k))) && ivT.all (fun q => decide (mI M q.1 q.2.1 = q.2.2))
set_option maxRecDepth 100000 in
theorem init_chk : (match g_ctor with | some q => decide (q.1 = (0, 143, 183)) && chkM q.2 | none => false) = true := by decide +kernel
theorem init_ex : ∃ M, g_ctor = some ((0, 143, 183), M) ∧ chkM M = true := by
  have h := init_chk
  cases hg : g_ctor with
  | none => rw [hg] at h; cases h
  | some q =>
    rw [hg] at h
    obtain ⟨q1, q2⟩ := q
    have h2 : (decide (q1 = (0, 143, 183)) && chkM q2) = true := h
    rw [Bool.and_eq_true] at h2
    have h3 : q1 = (0, 143, 183) := of_decide_eq_true h2.1
    subst h3
    exact ⟨q2, rfl, h2.2⟩
theorem b1_s {α β : Type} (a : α) (f : α → Option β) : b1 (some a) f = f a := rfl
theorem b2_s {α β γ : Type} (a : α) (b : β) (f : α → β → Option γ) : b2 (some (a, b)) f = f a b := rfl
theorem bn_s {α β : Type} (a : α) (f : α → β) : bn a f = f a := rfl
theorem law_ctor (L : Nat) (xs : Nat → Int32) {M : MM} (h : g_ctor = some ((0, 143, 183), M)) : g_law L xs = g_loop L xs 0 143 183 600 0 M := by
  unfold g_ctor at h
  obtain ⟨a1, M1, e1, h⟩ := b2_some h
  obtain ⟨M2, e2, h⟩ := b1_some h
  obtain ⟨a3, M3, e3, h⟩ := b2_some h
  obtain ⟨M4, e4, h⟩ := b1_some h
  obtain ⟨a5, M5, e5, h⟩ := b2_some h
  cases h
  unfold g_law
  rw [e1, b2_s, e2, b1_s, e3, b2_s, e4, b1_s, e5, b2_s]
def Sh (M : MM) : Prop := mN M = 184 ∧ (∀ a, a < 184 → mS M a = S0 a) ∧ (∀ q, q ∈ rfT → mR M q.1 q.2.1 = some q.2.2)
theorem sh_of_chk {M : MM} (h : chkM M = true) : Sh M ∧ (∀ k, k < 15 → mR M 93 k = some (97 + 2 * k)) ∧ (∀ q, q ∈ ivT → mI M q.1 q.2.1 = q.2.2) := by
  unfold chkM at h
  simp only [Bool.and_eq_true, decide_eq_true_eq, List.all_eq_true, List.mem_range] at h
  obtain ⟨⟨⟨⟨h1, h2⟩, h3⟩, h4⟩, h5⟩ := h
  exact ⟨⟨h1, h2, h3⟩, h4, h5⟩
theorem sh_O {M : MM} (h : Sh M) {a : Nat} (ci : Nat) (ha : a < 184) (hk : (S0 a).1 = ci) : isO ci a M = true := by
  unfold isO
  rw [h.1, h.2.1 a ha]
  simp [ha, hk]
theorem sh_N {M : MM} (h : Sh M) {a : Nat} (n : Nat) (ha : a < 184) (hk : (S0 a).2 = n) : (mS M a).2 = n := by rw [h.2.1 a ha]; exact hk
theorem sh_R {M : MM} (h : Sh M) {a k b : Nat} (ci : Nat) (ha : a < 184) (hk : (S0 a).1 = ci) (hr : (a, k, b) ∈ rfT) : gR ci k a M = some b := by
  unfold gR
  rw [sh_O h ci ha hk]
  exact h.2.2 _ hr
/-! memory, written and read -/
theorem mI_w (M : MM) (a k b j : Nat) (v : Int32) : mI (sI M a k v) b j = if b = a ∧ j = k then v else mI M b j := rfl
theorem mL_w (M : MM) (a k b j : Nat) (v : Int64) : mL (sL M a k v) b j = if b = a ∧ j = k then v else mL M b j := rfl
theorem mR_w (M : MM) (a k b j : Nat) (v : Option Nat) : mR (sR M a k v) b j = if b = a ∧ j = k then v else mR M b j := rfl
theorem mI_sL (M : MM) (a k : Nat) (v : Int64) : mI (sL M a k v) = mI M := rfl
theorem mL_sI (M : MM) (a k : Nat) (v : Int32) : mL (sI M a k v) = mL M := rfl
theorem mR_sI (M : MM) (a k : Nat) (v : Int32) : mR (sI M a k v) = mR M := rfl
theorem mR_sL (M : MM) (a k : Nat) (v : Int64) : mR (sL M a k v) = mR M := rfl
theorem mI_sR (M : MM) (a k : Nat) (v : Option Nat) : mI (sR M a k v) = mI M := rfl
theorem mL_sR (M : MM) (a k : Nat) (v : Option Nat) : mL (sR M a k v) = mL M := rfl
theorem mS_sI (M : MM) (a k : Nat) (v : Int32) : mS (sI M a k v) = mS M := rfl
theorem mS_sL (M : MM) (a k : Nat) (v : Int64) : mS (sL M a k v) = mS M := rfl
theorem mS_sR (M : MM) (a k : Nat) (v : Option Nat) : mS (sR M a k v) = mS M := rfl
theorem mN_sI (M : MM) (a k : Nat) (v : Int32) : mN (sI M a k v) = mN M := rfl
theorem mN_sL (M : MM) (a k : Nat) (v : Int64) : mN (sL M a k v) = mN M := rfl
theorem mN_sR (M : MM) (a k : Nat) (v : Option Nat) : mN (sR M a k v) = mN M := rfl
theorem isO_sI (M : MM) (ci c a k : Nat) (v : Int32) : isO ci c (sI M a k v) = isO ci c M := rfl
theorem isO_sL (M : MM) (ci c a k : Nat) (v : Int64) : isO ci c (sL M a k v) = isO ci c M := rfl
theorem isO_sR (M : MM) (ci c a k : Nat) (v : Option Nat) : isO ci c (sR M a k v) = isO ci c M := rfl
theorem gR_sI (M : MM) (ci j c a k : Nat) (v : Int32) : gR ci j c (sI M a k v) = gR ci j c M := rfl
theorem gR_sL (M : MM) (ci j c a k : Nat) (v : Int64) : gR ci j c (sL M a k v) = gR ci j c M := rfl
theorem ldR_sI (M : MM) (kd c : Nat) (i : Int32) (a k : Nat) (v : Int32) : ldR kd c i (sI M a k v) = ldR kd c i M := rfl
theorem ldR_sL (M : MM) (kd c : Nat) (i : Int32) (a k : Nat) (v : Int64) : ldR kd c i (sL M a k v) = ldR kd c i M := rfl
theorem Sh_sI (M : MM) (a k : Nat) (v : Int32) : Sh (sI M a k v) ↔ Sh M := Iff.rfl
theorem Sh_sL (M : MM) (a k : Nat) (v : Int64) : Sh (sL M a k v) ↔ Sh M := Iff.rfl
theorem sI_sI (M : MM) (a k : Nat) (v w : Int32) : sI (sI M a k v) a k w = sI M a k w := by
  unfold sI
  have : up2 (up2 M.2.2.1 a k v) a k w = up2 M.2.2.1 a k w := by
    funext b j
    unfold up2
    by_cases h : b = a ∧ j = k
    · rw [if_pos h, if_pos h]
    · rw [if_neg h, if_neg h, if_neg h]
  show (M.1, M.2.1, up2 (up2 M.2.2.1 a k v) a k w, _, _) = _
  rw [this]
theorem sL_sL (M : MM) (a k : Nat) (v w : Int64) : sL (sL M a k v) a k w = sL M a k w := by
  unfold sL
  have : up2 (up2 M.2.2.2.1 a k v) a k w = up2 M.2.2.2.1 a k w := by
    funext b j
    unfold up2
    by_cases h : b = a ∧ j = k
    · rw [if_pos h, if_pos h]
    · rw [if_neg h, if_neg h, if_neg h]
  show (M.1, M.2.1, M.2.2.1, up2 (up2 M.2.2.2.1 a k v) a k w, _) = _
  rw [this]
theorem sI_id (M : MM) (a k : Nat) (v : Int32) (h : mI M a k = v) : sI M a k v = M := by
  subst h
  have : up2 M.2.2.1 a k (mI M a k) = M.2.2.1 := by
    funext b j
    unfold up2
    by_cases h : b = a ∧ j = k
    · rw [if_pos h, h.1, h.2]; rfl
    · rw [if_neg h]
  show (M.1, M.2.1, up2 M.2.2.1 a k (mI M a k), M.2.2.2.1, M.2.2.2.2) = M
  rw [this]
def cI (M : MM) (a sp b dp n : Nat) : MM := (M.1, M.2.1, (fun c => if c = b then va_cpy (mI M a) (mI M b) sp dp n else mI M c), M.2.2.2.1, M.2.2.2.2)
theorem mI_cI (M : MM) (a sp b dp n c j : Nat) : mI (cI M a sp b dp n) c j = if c = b ∧ dp ≤ j ∧ j < dp + n then mI M a (sp + (j - dp)) else mI M c j := by
  show (if c = b then va_cpy (mI M a) (mI M b) sp dp n else mI M c) j = _
  by_cases hc : c = b
  · subst hc
    rw [if_pos rfl]
    by_cases h : dp ≤ j ∧ j < dp + n
    · rw [if_pos ⟨rfl, h⟩, pk_cpy_in h.1 h.2]
    · rw [if_neg (fun q => h q.2), pk_cpy_out (by omega)]
  · rw [if_neg hc, if_neg (fun q => hc q.1)]
theorem mL_cI (M : MM) (a sp b dp n : Nat) : mL (cI M a sp b dp n) = mL M := rfl
theorem mR_cI (M : MM) (a sp b dp n : Nat) : mR (cI M a sp b dp n) = mR M := rfl
theorem mS_cI (M : MM) (a sp b dp n : Nat) : mS (cI M a sp b dp n) = mS M := rfl
theorem mN_cI (M : MM) (a sp b dp n : Nat) : mN (cI M a sp b dp n) = mN M := rfl
theorem isO_cI (M : MM) (ci c a sp b dp n : Nat) : isO ci c (cI M a sp b dp n) = isO ci c M := rfl
theorem gR_cI (M : MM) (ci j c a sp b dp n : Nat) : gR ci j c (cI M a sp b dp n) = gR ci j c M := rfl
theorem Sh_cI (M : MM) (a sp b dp n : Nat) : Sh (cI M a sp b dp n) ↔ Sh M := Iff.rfl
theorem nz0 : nz 0 = 0 := by decide
theorem nz1 : nz 1 = 1 := by decide
theorem rz0 (M : MM) : rz 0 M = some (0, M) := by unfold rz; rw [nz0]; rfl
theorem rz1 (M : MM) : rz 1 M = some (1, M) := by unfold rz; rw [nz1]; rfl
theorem inb_n {j n : Nat} (h : j < n) (hn : n < 2 ^ 31) : inb (nI j) n = true := by
  unfold inb
  rw [nI_clamp (by omega)]
  simp [nI_pos (show j < 2 ^ 31 by omega), h]
theorem gI_k {M : MM} {ci a : Nat} (k : Nat) (h : isO ci a M = true) : gI ci k a M = some (mI M a k) := if_pos h
theorem pI_k {M : MM} {ci a : Nat} (k : Nat) (v : Int32) (h : isO ci a M = true) : pI ci k a v M = some (sI M a k v) := if_pos h
theorem gL_k {M : MM} {ci a : Nat} (k : Nat) (h : isO ci a M = true) : gL ci k a M = some (mL M a k) := if_pos h
theorem pL_k {M : MM} {ci a : Nat} (k : Nat) (v : Int64) (h : isO ci a M = true) : pL ci k a v M = some (sL M a k v) := if_pos h
theorem ldI_k {M : MM} {a j n : Nat} (h : isO 20 a M = true) (hn : (mS M a).2 = n) (hj : j < n) (h31 : n < 2 ^ 31) : ldI a (nI j) M = some (mI M a j) := by
  unfold ldI
  rw [if_pos ⟨h, by rw [hn]; exact inb_n hj h31⟩, nI_clamp (by omega)]
theorem ldL_k {M : MM} {a j n : Nat} (h : isO 21 a M = true) (hn : (mS M a).2 = n) (hj : j < n) (h31 : n < 2 ^ 31) : ldL a (nI j) M = some (mL M a j) := by
  unfold ldL
  rw [if_pos ⟨h, by rw [hn]; exact inb_n hj h31⟩, nI_clamp (by omega)]
theorem ldZ_k {M : MM} {a j n : Nat} (h : isO 22 a M = true) (hn : (mS M a).2 = n) (hj : j < n) (h31 : n < 2 ^ 31) : ldZ a (nI j) M = some (mI M a j) := by
  unfold ldZ
  rw [if_pos ⟨h, by rw [hn]; exact inb_n hj h31⟩, nI_clamp (by omega)]
theorem ldR_k {M : MM} {kd a j n : Nat} (h : isO kd a M = true) (hn : (mS M a).2 = n) (hj : j < n) (h31 : n < 2 ^ 31) : ldR kd a (nI j) M = mR M a j := by
  unfold ldR
  rw [if_pos ⟨h, by rw [hn]; exact inb_n hj h31⟩, nI_clamp (by omega)]
theorem stI_k {M : MM} {a j n : Nat} (v : Int32) (h : isO 20 a M = true) (hn : (mS M a).2 = n) (hj : j < n) (h31 : n < 2 ^ 31) : stI a (nI j) v M = some (sI M a j v) := by
  unfold stI
  rw [if_pos ⟨h, by rw [hn]; exact inb_n hj h31⟩, nI_clamp (by omega)]
theorem stL_k {M : MM} {a j n : Nat} (v : Int64) (h : isO 21 a M = true) (hn : (mS M a).2 = n) (hj : j < n) (h31 : n < 2 ^ 31) : stL a (nI j) v M = some (sL M a j v) := by
  unfold stL
  rw [if_pos ⟨h, by rw [hn]; exact inb_n hj h31⟩, nI_clamp (by omega)]
theorem stZ_k {M : MM} {a j n : Nat} (v : Int32) (h : isO 22 a M = true) (hn : (mS M a).2 = n) (hj : j < n) (h31 : n < 2 ^ 31) : stZ a (nI j) v M = some (sI M a j (nz v)) := by
  unfold stZ
  rw [if_pos ⟨h, by rw [hn]; exact inb_n hj h31⟩, nI_clamp (by omega)]
theorem stR_k {M : MM} {kd ci a j n v : Nat} (h : isO kd a M = true) (hn : (mS M a).2 = n) (hj : j < n) (h31 : n < 2 ^ 31) (hv : isO ci v M = true) : stR kd ci a (nI j) v M = some (sR M a j (some v)) := by
  unfold stR
  rw [if_pos ⟨h, by rw [hn]; exact inb_n hj h31, hv⟩, nI_clamp (by omega)]
theorem cpI_k {M : MM} {a sp b dp n la lb : Nat} (ha : isO 20 a M = true) (hb : isO 20 b M = true) (hla : (mS M a).2 = la) (hlb : (mS M b).2 = lb) (h1 : sp + n ≤ la) (h2 : dp + n ≤ lb) (h3 : la < 2 ^ 31) (h4 : lb < 2 ^ 31) : cpI a (nI sp) b (nI dp) (nI n) M = some (cI M a sp b dp n) := by
  unfold cpI cI
  rw [nI_clamp (by omega), nI_clamp (by omega), nI_clamp (by omega)]
  rw [if_pos ⟨ha, hb, nI_pos (by omega), nI_pos (by omega), nI_pos (by omega), by omega, by omega⟩]

theorem cCO {M : MM} (h : Sh M) : isO 11 0 M = true ∧ isO 10 1 M = true ∧ isO 20 2 M = true ∧ isO 6 3 M = true ∧ isO 21 4 M = true ∧ isO 9 5 M = true ∧ isO 22 6 M = true ∧ isO 20 7 M = true ∧ isO 20 8 M = true ∧ isO 20 9 M = true ∧ isO 20 10 M = true ∧ isO 20 11 M = true ∧ isO 22 12 M = true ∧ isO 20 13 M = true ∧ isO 5 14 M = true ∧ isO 20 15 M = true ∧ isO 5 16 M = true ∧ isO 20 17 M = true ∧ isO 1 18 M = true ∧ isO 23 19 M = true ∧ isO 23 20 M = true ∧ isO 23 21 M = true ∧ isO 2 22 M = true ∧ isO 23 23 M = true ∧ isO 2 24 M = true ∧ isO 20 25 M = true ∧ isO 20 26 M = true ∧ isO 1 51 M = true ∧ isO 23 52 M = true ∧ isO 23 53 M = true ∧ isO 23 54 M = true ∧ isO 2 55 M = true ∧ isO 23 56 M = true ∧ isO 2 57 M = true ∧ isO 20 58 M = true ∧ isO 20 59 M = true ∧ isO 7 84 M = true ∧ isO 20 85 M = true ∧ isO 20 86 M = true ∧ isO 20 87 M = true ∧ isO 20 88 M = true ∧ isO 3 89 M = true ∧ isO 20 90 M = true ∧ isO 20 91 M = true ∧ isO 4 92 M = true ∧ isO 24 93 M = true ∧ isO 24 94 M = true ∧ isO 20 95 M = true ∧ isO 20 96 M = true ∧ isO 5 127 M = true ∧ isO 5 129 M = true ∧ isO 5 131 M = true ∧ isO 8 133 M = true ∧ isO 20 134 M = true ∧ isO 20 135 M = true ∧ isO 20 136 M = true ∧ isO 0 137 M = true ∧ isO 20 138 M = true ∧ isO 20 139 M = true ∧ isO 20 140 M = true ∧ isO 20 141 M = true ∧ isO 20 142 M = true := ⟨sh_O h 11 (by decide) rfl, sh_O h 10 (by decide) rfl, sh_O h 20 (by decide) rfl, sh_O h 6 (by decide) rfl, sh_O h 21 (by decide) rfl, sh_O h 9 (by decide) rfl, sh_O h 22 (by decide) rfl, sh_O h 20 (by decide) rfl, sh_O h 20 (by decide) rfl, sh_O h 20 (by decide) rfl, sh_O h 20 (by decide) rfl, sh_O h 20 (by decide) rfl, sh_O h 22 (by decide) rfl, sh_O h 20 (by decide) rfl, sh_O h 5 (by decide) rfl, sh_O h 20 (by decide) rfl, sh_O h 5 (by decide) rfl, sh_O h 20 (by decide) rfl, sh_O h 1 (by decide) rfl, sh_O h 23 (by decide) rfl, sh_O h 23 (by decide) rfl, sh_O h 23 (by decide) rfl, sh_O h 2 (by decide) rfl, sh_O h 23 (by decide) rfl, sh_O h 2 (by decide) rfl, sh_O h 20 (by decide) rfl, sh_O h 20 (by decide) rfl, sh_O h 1 (by decide) rfl, sh_O h 23 (by decide) rfl, sh_O h 23 (by decide) rfl, sh_O h 23 (by decide) rfl, sh_O h 2 (by decide) rfl, sh_O h 23 (by decide) rfl, sh_O h 2 (by decide) rfl, sh_O h 20 (by decide) rfl, sh_O h 20 (by decide) rfl, sh_O h 7 (by decide) rfl, sh_O h 20 (by decide) rfl, sh_O h 20 (by decide) rfl, sh_O h 20 (by decide) rfl, sh_O h 20 (by decide) rfl, sh_O h 3 (by decide) rfl, sh_O h 20 (by decide) rfl, sh_O h 20 (by decide) rfl, sh_O h 4 (by decide) rfl, sh_O h 24 (by decide) rfl, sh_O h 24 (by decide) rfl, sh_O h 20 (by decide) rfl, sh_O h 20 (by decide) rfl, sh_O h 5 (by decide) rfl, sh_O h 5 (by decide) rfl, sh_O h 5 (by decide) rfl, sh_O h 8 (by decide) rfl, sh_O h 20 (by decide) rfl, sh_O h 20 (by decide) rfl, sh_O h 20 (by decide) rfl, sh_O h 0 (by decide) rfl, sh_O h 20 (by decide) rfl, sh_O h 20 (by decide) rfl, sh_O h 20 (by decide) rfl, sh_O h 20 (by decide) rfl, sh_O h 20 (by decide) rfl⟩
theorem cCR {M : MM} (h : Sh M) : gR 11 0 0 M = some 1 ∧ gR 11 1 0 M = some 3 ∧ gR 11 2 0 M = some 5 ∧ gR 11 3 0 M = some 14 ∧ gR 11 4 0 M = some 16 ∧ gR 11 5 0 M = some 18 ∧ gR 11 6 0 M = some 51 ∧ gR 11 7 0 M = some 84 ∧ gR 11 8 0 M = some 89 ∧ gR 11 9 0 M = some 92 ∧ gR 11 10 0 M = some 133 ∧ gR 11 11 0 M = some 137 ∧ gR 11 12 0 M = some 142 ∧ gR 10 0 1 M = some 2 ∧ gR 6 0 3 M = some 4 ∧ gR 9 0 5 M = some 6 ∧ gR 9 1 5 M = some 7 ∧ gR 9 2 5 M = some 8 ∧ gR 9 3 5 M = some 9 ∧ gR 9 4 5 M = some 10 ∧ gR 9 5 5 M = some 11 ∧ gR 9 6 5 M = some 12 ∧ gR 9 10 5 M = some 13 ∧ gR 5 0 14 M = some 15 ∧ gR 5 0 16 M = some 17 ∧ gR 1 0 18 M = some 5 ∧ gR 1 1 18 M = some 14 ∧ gR 1 2 18 M = some 19 ∧ gR 1 3 18 M = some 20 ∧ gR 1 4 18 M = some 21 ∧ gR 1 5 18 M = some 22 ∧ gR 1 6 18 M = some 23 ∧ gR 1 7 18 M = some 24 ∧ gR 1 8 18 M = some 25 ∧ gR 1 9 18 M = some 26 ∧ gR 1 0 51 M = some 5 ∧ gR 1 1 51 M = some 16 ∧ gR 1 2 51 M = some 52 ∧ gR 1 3 51 M = some 53 ∧ gR 1 4 51 M = some 54 ∧ gR 1 5 51 M = some 55 ∧ gR 1 6 51 M = some 56 ∧ gR 1 7 51 M = some 57 ∧ gR 1 8 51 M = some 58 ∧ gR 1 9 51 M = some 59 ∧ gR 7 0 84 M = some 5 ∧ gR 7 1 84 M = some 14 ∧ gR 7 2 84 M = some 85 ∧ gR 7 3 84 M = some 86 ∧ gR 7 4 84 M = some 87 ∧ gR 7 5 84 M = some 88 ∧ gR 3 0 89 M = some 5 ∧ gR 3 1 89 M = some 14 ∧ gR 3 2 89 M = some 18 ∧ gR 3 3 89 M = some 84 ∧ gR 3 4 89 M = some 90 ∧ gR 3 5 89 M = some 91 ∧ gR 4 0 92 M = some 93 ∧ gR 4 1 92 M = some 94 ∧ gR 4 2 92 M = some 95 ∧ gR 4 3 92 M = some 96 ∧ gR 5 0 127 M = some 128 ∧ gR 5 0 129 M = some 130 ∧ gR 5 0 131 M = some 132 ∧ gR 8 0 133 M = some 5 ∧ gR 8 1 133 M = some 134 ∧ gR 8 2 133 M = some 135 ∧ gR 8 3 133 M = some 136 ∧ gR 0 0 137 M = some 138 ∧ gR 0 2 137 M = some 139 ∧ gR 0 3 137 M = some 140 ∧ gR 0 4 137 M = some 141 := ⟨sh_R h 11 (by decide) rfl (by decide), sh_R h 11 (by decide) rfl (by decide), sh_R h 11 (by decide) rfl (by decide), sh_R h 11 (by decide) rfl (by decide), sh_R h 11 (by decide) rfl (by decide), sh_R h 11 (by decide) rfl (by decide), sh_R h 11 (by decide) rfl (by decide), sh_R h 11 (by decide) rfl (by decide), sh_R h 11 (by decide) rfl (by decide), sh_R h 11 (by decide) rfl (by decide), sh_R h 11 (by decide) rfl (by decide), sh_R h 11 (by decide) rfl (by decide), sh_R h 11 (by decide) rfl (by decide), sh_R h 10 (by decide) rfl (by decide), sh_R h 6 (by decide) rfl (by decide), sh_R h 9 (by decide) rfl (by decide), sh_R h 9 (by decide) rfl (by decide), sh_R h 9 (by decide) rfl (by decide), sh_R h 9 (by decide) rfl (by decide), sh_R h 9 (by decide) rfl (by decide), sh_R h 9 (by decide) rfl (by decide), sh_R h 9 (by decide) rfl (by decide), sh_R h 9 (by decide) rfl (by decide), sh_R h 5 (by decide) rfl (by decide), sh_R h 5 (by decide) rfl (by decide), sh_R h 1 (by decide) rfl (by decide), sh_R h 1 (by decide) rfl (by decide), sh_R h 1 (by decide) rfl (by decide), sh_R h 1 (by decide) rfl (by decide), sh_R h 1 (by decide) rfl (by decide), sh_R h 1 (by decide) rfl (by decide), sh_R h 1 (by decide) rfl (by decide), sh_R h 1 (by decide) rfl (by decide), sh_R h 1 (by decide) rfl (by decide), sh_R h 1 (by decide) rfl (by decide), sh_R h 1 (by decide) rfl (by decide), sh_R h 1 (by decide) rfl (by decide), sh_R h 1 (by decide) rfl (by decide), sh_R h 1 (by decide) rfl (by decide), sh_R h 1 (by decide) rfl (by decide), sh_R h 1 (by decide) rfl (by decide), sh_R h 1 (by decide) rfl (by decide), sh_R h 1 (by decide) rfl (by decide), sh_R h 1 (by decide) rfl (by decide), sh_R h 1 (by decide) rfl (by decide), sh_R h 7 (by decide) rfl (by decide), sh_R h 7 (by decide) rfl (by decide), sh_R h 7 (by decide) rfl (by decide), sh_R h 7 (by decide) rfl (by decide), sh_R h 7 (by decide) rfl (by decide), sh_R h 7 (by decide) rfl (by decide), sh_R h 3 (by decide) rfl (by decide), sh_R h 3 (by decide) rfl (by decide), sh_R h 3 (by decide) rfl (by decide), sh_R h 3 (by decide) rfl (by decide), sh_R h 3 (by decide) rfl (by decide), sh_R h 3 (by decide) rfl (by decide), sh_R h 4 (by decide) rfl (by decide), sh_R h 4 (by decide) rfl (by decide), sh_R h 4 (by decide) rfl (by decide), sh_R h 4 (by decide) rfl (by decide), sh_R h 5 (by decide) rfl (by decide), sh_R h 5 (by decide) rfl (by decide), sh_R h 5 (by decide) rfl (by decide), sh_R h 8 (by decide) rfl (by decide), sh_R h 8 (by decide) rfl (by decide), sh_R h 8 (by decide) rfl (by decide), sh_R h 8 (by decide) rfl (by decide), sh_R h 0 (by decide) rfl (by decide), sh_R h 0 (by decide) rfl (by decide), sh_R h 0 (by decide) rfl (by decide), sh_R h 0 (by decide) rfl (by decide)⟩
theorem cCN {M : MM} (h : Sh M) : (mS M 2).2 = 80 ∧ (mS M 4).2 = 8 ∧ (mS M 6).2 = 6 ∧ (mS M 7).2 = 8 ∧ (mS M 8).2 = 8 ∧ (mS M 9).2 = 8 ∧ (mS M 10).2 = 8 ∧ (mS M 11).2 = 8 ∧ (mS M 12).2 = 8 ∧ (mS M 13).2 = 48 ∧ (mS M 15).2 = 12 ∧ (mS M 17).2 = 12 ∧ (mS M 19).2 = 6 ∧ (mS M 20).2 = 6 ∧ (mS M 21).2 = 6 ∧ (mS M 23).2 = 6 ∧ (mS M 25).2 = 12 ∧ (mS M 26).2 = 12 ∧ (mS M 52).2 = 6 ∧ (mS M 53).2 = 6 ∧ (mS M 54).2 = 6 ∧ (mS M 56).2 = 6 ∧ (mS M 58).2 = 12 ∧ (mS M 59).2 = 12 ∧ (mS M 85).2 = 40 ∧ (mS M 86).2 = 40 ∧ (mS M 87).2 = 41 ∧ (mS M 88).2 = 8 ∧ (mS M 90).2 = 6 ∧ (mS M 91).2 = 6 ∧ (mS M 93).2 = 15 ∧ (mS M 94).2 = 3 ∧ (mS M 95).2 = 3 ∧ (mS M 96).2 = 3 ∧ (mS M 134).2 = 12 ∧ (mS M 135).2 = 12 ∧ (mS M 136).2 = 12 ∧ (mS M 138).2 = 8 ∧ (mS M 139).2 = 8 ∧ (mS M 140).2 = 8 ∧ (mS M 141).2 = 256 ∧ (mS M 142).2 = 4 := ⟨sh_N h 80 (by decide) rfl, sh_N h 8 (by decide) rfl, sh_N h 6 (by decide) rfl, sh_N h 8 (by decide) rfl, sh_N h 8 (by decide) rfl, sh_N h 8 (by decide) rfl, sh_N h 8 (by decide) rfl, sh_N h 8 (by decide) rfl, sh_N h 8 (by decide) rfl, sh_N h 48 (by decide) rfl, sh_N h 12 (by decide) rfl, sh_N h 12 (by decide) rfl, sh_N h 6 (by decide) rfl, sh_N h 6 (by decide) rfl, sh_N h 6 (by decide) rfl, sh_N h 6 (by decide) rfl, sh_N h 12 (by decide) rfl, sh_N h 12 (by decide) rfl, sh_N h 6 (by decide) rfl, sh_N h 6 (by decide) rfl, sh_N h 6 (by decide) rfl, sh_N h 6 (by decide) rfl, sh_N h 12 (by decide) rfl, sh_N h 12 (by decide) rfl, sh_N h 40 (by decide) rfl, sh_N h 40 (by decide) rfl, sh_N h 41 (by decide) rfl, sh_N h 8 (by decide) rfl, sh_N h 6 (by decide) rfl, sh_N h 6 (by decide) rfl, sh_N h 15 (by decide) rfl, sh_N h 3 (by decide) rfl, sh_N h 3 (by decide) rfl, sh_N h 3 (by decide) rfl, sh_N h 12 (by decide) rfl, sh_N h 12 (by decide) rfl, sh_N h 12 (by decide) rfl, sh_N h 8 (by decide) rfl, sh_N h 8 (by decide) rfl, sh_N h 8 (by decide) rfl, sh_N h 256 (by decide) rfl, sh_N h 4 (by decide) rfl⟩
theorem cRO {M : MM} (h : Sh M) : isO 12 143 M = true ∧ isO 21 144 M = true ∧ isO 22 145 M = true ∧ isO 20 146 M = true ∧ isO 20 147 M = true ∧ isO 20 148 M = true ∧ isO 20 149 M = true ∧ isO 20 150 M = true ∧ isO 20 151 M = true ∧ isO 22 152 M = true ∧ isO 20 153 M = true ∧ isO 20 154 M = true ∧ isO 20 155 M = true ∧ isO 22 156 M = true ∧ isO 20 157 M = true ∧ isO 20 158 M = true ∧ isO 20 159 M = true ∧ isO 20 160 M = true ∧ isO 20 161 M = true ∧ isO 20 162 M = true ∧ isO 20 163 M = true ∧ isO 20 164 M = true ∧ isO 20 165 M = true ∧ isO 20 166 M = true ∧ isO 20 167 M = true ∧ isO 20 168 M = true ∧ isO 20 169 M = true ∧ isO 20 170 M = true ∧ isO 20 171 M = true ∧ isO 20 172 M = true ∧ isO 20 173 M = true ∧ isO 20 174 M = true ∧ isO 20 175 M = true ∧ isO 20 176 M = true ∧ isO 20 177 M = true ∧ isO 20 178 M = true ∧ isO 20 179 M = true ∧ isO 22 180 M = true ∧ isO 20 181 M = true ∧ isO 20 182 M = true ∧ isO 21 183 M = true := ⟨sh_O h 12 (by decide) rfl, sh_O h 21 (by decide) rfl, sh_O h 22 (by decide) rfl, sh_O h 20 (by decide) rfl, sh_O h 20 (by decide) rfl, sh_O h 20 (by decide) rfl, sh_O h 20 (by decide) rfl, sh_O h 20 (by decide) rfl, sh_O h 20 (by decide) rfl, sh_O h 22 (by decide) rfl, sh_O h 20 (by decide) rfl, sh_O h 20 (by decide) rfl, sh_O h 20 (by decide) rfl, sh_O h 22 (by decide) rfl, sh_O h 20 (by decide) rfl, sh_O h 20 (by decide) rfl, sh_O h 20 (by decide) rfl, sh_O h 20 (by decide) rfl, sh_O h 20 (by decide) rfl, sh_O h 20 (by decide) rfl, sh_O h 20 (by decide) rfl, sh_O h 20 (by decide) rfl, sh_O h 20 (by decide) rfl, sh_O h 20 (by decide) rfl, sh_O h 20 (by decide) rfl, sh_O h 20 (by decide) rfl, sh_O h 20 (by decide) rfl, sh_O h 20 (by decide) rfl, sh_O h 20 (by decide) rfl, sh_O h 20 (by decide) rfl, sh_O h 20 (by decide) rfl, sh_O h 20 (by decide) rfl, sh_O h 20 (by decide) rfl, sh_O h 20 (by decide) rfl, sh_O h 20 (by decide) rfl, sh_O h 20 (by decide) rfl, sh_O h 20 (by decide) rfl, sh_O h 22 (by decide) rfl, sh_O h 20 (by decide) rfl, sh_O h 20 (by decide) rfl, sh_O h 21 (by decide) rfl⟩
theorem cRR {M : MM} (h : Sh M) : gR 12 2 143 M = some 144 ∧ gR 12 7 143 M = some 145 ∧ gR 12 8 143 M = some 146 ∧ gR 12 9 143 M = some 147 ∧ gR 12 10 143 M = some 148 ∧ gR 12 11 143 M = some 149 ∧ gR 12 12 143 M = some 150 ∧ gR 12 13 143 M = some 151 ∧ gR 12 14 143 M = some 152 ∧ gR 12 15 143 M = some 153 ∧ gR 12 16 143 M = some 154 ∧ gR 12 17 143 M = some 155 ∧ gR 12 22 143 M = some 156 ∧ gR 12 23 143 M = some 157 ∧ gR 12 26 143 M = some 158 ∧ gR 12 27 143 M = some 159 ∧ gR 12 28 143 M = some 160 ∧ gR 12 31 143 M = some 161 ∧ gR 12 32 143 M = some 162 ∧ gR 12 34 143 M = some 163 ∧ gR 12 35 143 M = some 164 ∧ gR 12 36 143 M = some 165 ∧ gR 12 37 143 M = some 166 ∧ gR 12 38 143 M = some 167 ∧ gR 12 42 143 M = some 168 ∧ gR 12 43 143 M = some 169 ∧ gR 12 44 143 M = some 170 ∧ gR 12 45 143 M = some 171 ∧ gR 12 46 143 M = some 172 ∧ gR 12 47 143 M = some 173 ∧ gR 12 49 143 M = some 174 ∧ gR 12 50 143 M = some 175 ∧ gR 12 52 143 M = some 176 ∧ gR 12 53 143 M = some 177 ∧ gR 12 54 143 M = some 178 ∧ gR 12 55 143 M = some 179 ∧ gR 12 56 143 M = some 180 ∧ gR 12 57 143 M = some 181 ∧ gR 12 58 143 M = some 182 := ⟨sh_R h 12 (by decide) rfl (by decide), sh_R h 12 (by decide) rfl (by decide), sh_R h 12 (by decide) rfl (by decide), sh_R h 12 (by decide) rfl (by decide), sh_R h 12 (by decide) rfl (by decide), sh_R h 12 (by decide) rfl (by decide), sh_R h 12 (by decide) rfl (by decide), sh_R h 12 (by decide) rfl (by decide), sh_R h 12 (by decide) rfl (by decide), sh_R h 12 (by decide) rfl (by decide), sh_R h 12 (by decide) rfl (by decide), sh_R h 12 (by decide) rfl (by decide), sh_R h 12 (by decide) rfl (by decide), sh_R h 12 (by decide) rfl (by decide), sh_R h 12 (by decide) rfl (by decide), sh_R h 12 (by decide) rfl (by decide), sh_R h 12 (by decide) rfl (by decide), sh_R h 12 (by decide) rfl (by decide), sh_R h 12 (by decide) rfl (by decide), sh_R h 12 (by decide) rfl (by decide), sh_R h 12 (by decide) rfl (by decide), sh_R h 12 (by decide) rfl (by decide), sh_R h 12 (by decide) rfl (by decide), sh_R h 12 (by decide) rfl (by decide), sh_R h 12 (by decide) rfl (by decide), sh_R h 12 (by decide) rfl (by decide), sh_R h 12 (by decide) rfl (by decide), sh_R h 12 (by decide) rfl (by decide), sh_R h 12 (by decide) rfl (by decide), sh_R h 12 (by decide) rfl (by decide), sh_R h 12 (by decide) rfl (by decide), sh_R h 12 (by decide) rfl (by decide), sh_R h 12 (by decide) rfl (by decide), sh_R h 12 (by decide) rfl (by decide), sh_R h 12 (by decide) rfl (by decide), sh_R h 12 (by decide) rfl (by decide), sh_R h 12 (by decide) rfl (by decide), sh_R h 12 (by decide) rfl (by decide), sh_R h 12 (by decide) rfl (by decide)⟩
theorem cRN {M : MM} (h : Sh M) : (mS M 144).2 = 24 ∧ (mS M 145).2 = 6 ∧ (mS M 146).2 = 48 ∧ (mS M 147).2 = 8 ∧ (mS M 148).2 = 8 ∧ (mS M 149).2 = 8 ∧ (mS M 150).2 = 8 ∧ (mS M 151).2 = 8 ∧ (mS M 152).2 = 8 ∧ (mS M 153).2 = 46 ∧ (mS M 154).2 = 46 ∧ (mS M 155).2 = 80 ∧ (mS M 156).2 = 6 ∧ (mS M 157).2 = 48 ∧ (mS M 158).2 = 8 ∧ (mS M 159).2 = 80 ∧ (mS M 160).2 = 80 ∧ (mS M 161).2 = 80 ∧ (mS M 162).2 = 46 ∧ (mS M 163).2 = 736 ∧ (mS M 164).2 = 60 ∧ (mS M 165).2 = 60 ∧ (mS M 166).2 = 60 ∧ (mS M 167).2 = 60 ∧ (mS M 168).2 = 6 ∧ (mS M 169).2 = 6 ∧ (mS M 170).2 = 3 ∧ (mS M 171).2 = 6 ∧ (mS M 172).2 = 6 ∧ (mS M 173).2 = 8 ∧ (mS M 174).2 = 8 ∧ (mS M 175).2 = 8 ∧ (mS M 176).2 = 12 ∧ (mS M 177).2 = 12 ∧ (mS M 178).2 = 12 ∧ (mS M 179).2 = 12 ∧ (mS M 180).2 = 3 ∧ (mS M 181).2 = 3 ∧ (mS M 182).2 = 138 ∧ (mS M 183).2 = 1 := ⟨sh_N h 24 (by decide) rfl, sh_N h 6 (by decide) rfl, sh_N h 48 (by decide) rfl, sh_N h 8 (by decide) rfl, sh_N h 8 (by decide) rfl, sh_N h 8 (by decide) rfl, sh_N h 8 (by decide) rfl, sh_N h 8 (by decide) rfl, sh_N h 8 (by decide) rfl, sh_N h 46 (by decide) rfl, sh_N h 46 (by decide) rfl, sh_N h 80 (by decide) rfl, sh_N h 6 (by decide) rfl, sh_N h 48 (by decide) rfl, sh_N h 8 (by decide) rfl, sh_N h 80 (by decide) rfl, sh_N h 80 (by decide) rfl, sh_N h 80 (by decide) rfl, sh_N h 46 (by decide) rfl, sh_N h 736 (by decide) rfl, sh_N h 60 (by decide) rfl, sh_N h 60 (by decide) rfl, sh_N h 60 (by decide) rfl, sh_N h 60 (by decide) rfl, sh_N h 6 (by decide) rfl, sh_N h 6 (by decide) rfl, sh_N h 3 (by decide) rfl, sh_N h 6 (by decide) rfl, sh_N h 6 (by decide) rfl, sh_N h 8 (by decide) rfl, sh_N h 8 (by decide) rfl, sh_N h 8 (by decide) rfl, sh_N h 12 (by decide) rfl, sh_N h 12 (by decide) rfl, sh_N h 12 (by decide) rfl, sh_N h 12 (by decide) rfl, sh_N h 3 (by decide) rfl, sh_N h 3 (by decide) rfl, sh_N h 138 (by decide) rfl, sh_N h 1 (by decide) rfl⟩
theorem ld_2 {M : MM} (h : Sh M) {j : Nat} (hj : j < 80) : ldI 2 (nI j) M = some (mI M 2 j) := ldI_k (sh_O h 20 (by decide) rfl) (sh_N h 80 (by decide) rfl) hj (by decide)
theorem st_2 {M : MM} (h : Sh M) {j : Nat} (v : Int32) (hj : j < 80) : stI 2 (nI j) v M = some (sI M 2 j v) := stI_k v (sh_O h 20 (by decide) rfl) (sh_N h 80 (by decide) rfl) hj (by decide)
theorem ld_4 {M : MM} (h : Sh M) {j : Nat} (hj : j < 8) : ldL 4 (nI j) M = some (mL M 4 j) := ldL_k (sh_O h 21 (by decide) rfl) (sh_N h 8 (by decide) rfl) hj (by decide)
theorem st_4 {M : MM} (h : Sh M) {j : Nat} (v : Int64) (hj : j < 8) : stL 4 (nI j) v M = some (sL M 4 j v) := stL_k v (sh_O h 21 (by decide) rfl) (sh_N h 8 (by decide) rfl) hj (by decide)
theorem ld_6 {M : MM} (h : Sh M) {j : Nat} (hj : j < 6) : ldZ 6 (nI j) M = some (mI M 6 j) := ldZ_k (sh_O h 22 (by decide) rfl) (sh_N h 6 (by decide) rfl) hj (by decide)
theorem st_6 {M : MM} (h : Sh M) {j : Nat} (v : Int32) (hj : j < 6) : stZ 6 (nI j) v M = some (sI M 6 j (nz v)) := stZ_k v (sh_O h 22 (by decide) rfl) (sh_N h 6 (by decide) rfl) hj (by decide)
theorem ld_7 {M : MM} (h : Sh M) {j : Nat} (hj : j < 8) : ldI 7 (nI j) M = some (mI M 7 j) := ldI_k (sh_O h 20 (by decide) rfl) (sh_N h 8 (by decide) rfl) hj (by decide)
theorem st_7 {M : MM} (h : Sh M) {j : Nat} (v : Int32) (hj : j < 8) : stI 7 (nI j) v M = some (sI M 7 j v) := stI_k v (sh_O h 20 (by decide) rfl) (sh_N h 8 (by decide) rfl) hj (by decide)
theorem ld_8 {M : MM} (h : Sh M) {j : Nat} (hj : j < 8) : ldI 8 (nI j) M = some (mI M 8 j) := ldI_k (sh_O h 20 (by decide) rfl) (sh_N h 8 (by decide) rfl) hj (by decide)
theorem st_8 {M : MM} (h : Sh M) {j : Nat} (v : Int32) (hj : j < 8) : stI 8 (nI j) v M = some (sI M 8 j v) := stI_k v (sh_O h 20 (by decide) rfl) (sh_N h 8 (by decide) rfl) hj (by decide)
theorem ld_9 {M : MM} (h : Sh M) {j : Nat} (hj : j < 8) : ldI 9 (nI j) M = some (mI M 9 j) := ldI_k (sh_O h 20 (by decide) rfl) (sh_N h 8 (by decide) rfl) hj (by decide)
theorem st_9 {M : MM} (h : Sh M) {j : Nat} (v : Int32) (hj : j < 8) : stI 9 (nI j) v M = some (sI M 9 j v) := stI_k v (sh_O h 20 (by decide) rfl) (sh_N h 8 (by decide) rfl) hj (by decide)
theorem ld_10 {M : MM} (h : Sh M) {j : Nat} (hj : j < 8) : ldI 10 (nI j) M = some (mI M 10 j) := ldI_k (sh_O h 20 (by decide) rfl) (sh_N h 8 (by decide) rfl) hj (by decide)
theorem st_10 {M : MM} (h : Sh M) {j : Nat} (v : Int32) (hj : j < 8) : stI 10 (nI j) v M = some (sI M 10 j v) := stI_k v (sh_O h 20 (by decide) rfl) (sh_N h 8 (by decide) rfl) hj (by decide)
theorem ld_11 {M : MM} (h : Sh M) {j : Nat} (hj : j < 8) : ldI 11 (nI j) M = some (mI M 11 j) := ldI_k (sh_O h 20 (by decide) rfl) (sh_N h 8 (by decide) rfl) hj (by decide)
theorem st_11 {M : MM} (h : Sh M) {j : Nat} (v : Int32) (hj : j < 8) : stI 11 (nI j) v M = some (sI M 11 j v) := stI_k v (sh_O h 20 (by decide) rfl) (sh_N h 8 (by decide) rfl) hj (by decide)
theorem ld_12 {M : MM} (h : Sh M) {j : Nat} (hj : j < 8) : ldZ 12 (nI j) M = some (mI M 12 j) := ldZ_k (sh_O h 22 (by decide) rfl) (sh_N h 8 (by decide) rfl) hj (by decide)
theorem st_12 {M : MM} (h : Sh M) {j : Nat} (v : Int32) (hj : j < 8) : stZ 12 (nI j) v M = some (sI M 12 j (nz v)) := stZ_k v (sh_O h 22 (by decide) rfl) (sh_N h 8 (by decide) rfl) hj (by decide)
theorem ld_13 {M : MM} (h : Sh M) {j : Nat} (hj : j < 48) : ldI 13 (nI j) M = some (mI M 13 j) := ldI_k (sh_O h 20 (by decide) rfl) (sh_N h 48 (by decide) rfl) hj (by decide)
theorem st_13 {M : MM} (h : Sh M) {j : Nat} (v : Int32) (hj : j < 48) : stI 13 (nI j) v M = some (sI M 13 j v) := stI_k v (sh_O h 20 (by decide) rfl) (sh_N h 48 (by decide) rfl) hj (by decide)
theorem ld_15 {M : MM} (h : Sh M) {j : Nat} (hj : j < 12) : ldI 15 (nI j) M = some (mI M 15 j) := ldI_k (sh_O h 20 (by decide) rfl) (sh_N h 12 (by decide) rfl) hj (by decide)
theorem st_15 {M : MM} (h : Sh M) {j : Nat} (v : Int32) (hj : j < 12) : stI 15 (nI j) v M = some (sI M 15 j v) := stI_k v (sh_O h 20 (by decide) rfl) (sh_N h 12 (by decide) rfl) hj (by decide)
theorem ld_17 {M : MM} (h : Sh M) {j : Nat} (hj : j < 12) : ldI 17 (nI j) M = some (mI M 17 j) := ldI_k (sh_O h 20 (by decide) rfl) (sh_N h 12 (by decide) rfl) hj (by decide)
theorem st_17 {M : MM} (h : Sh M) {j : Nat} (v : Int32) (hj : j < 12) : stI 17 (nI j) v M = some (sI M 17 j v) := stI_k v (sh_O h 20 (by decide) rfl) (sh_N h 12 (by decide) rfl) hj (by decide)
theorem ld_25 {M : MM} (h : Sh M) {j : Nat} (hj : j < 12) : ldI 25 (nI j) M = some (mI M 25 j) := ldI_k (sh_O h 20 (by decide) rfl) (sh_N h 12 (by decide) rfl) hj (by decide)
theorem st_25 {M : MM} (h : Sh M) {j : Nat} (v : Int32) (hj : j < 12) : stI 25 (nI j) v M = some (sI M 25 j v) := stI_k v (sh_O h 20 (by decide) rfl) (sh_N h 12 (by decide) rfl) hj (by decide)
theorem ld_26 {M : MM} (h : Sh M) {j : Nat} (hj : j < 12) : ldI 26 (nI j) M = some (mI M 26 j) := ldI_k (sh_O h 20 (by decide) rfl) (sh_N h 12 (by decide) rfl) hj (by decide)
theorem st_26 {M : MM} (h : Sh M) {j : Nat} (v : Int32) (hj : j < 12) : stI 26 (nI j) v M = some (sI M 26 j v) := stI_k v (sh_O h 20 (by decide) rfl) (sh_N h 12 (by decide) rfl) hj (by decide)
theorem ld_58 {M : MM} (h : Sh M) {j : Nat} (hj : j < 12) : ldI 58 (nI j) M = some (mI M 58 j) := ldI_k (sh_O h 20 (by decide) rfl) (sh_N h 12 (by decide) rfl) hj (by decide)
theorem st_58 {M : MM} (h : Sh M) {j : Nat} (v : Int32) (hj : j < 12) : stI 58 (nI j) v M = some (sI M 58 j v) := stI_k v (sh_O h 20 (by decide) rfl) (sh_N h 12 (by decide) rfl) hj (by decide)
theorem ld_59 {M : MM} (h : Sh M) {j : Nat} (hj : j < 12) : ldI 59 (nI j) M = some (mI M 59 j) := ldI_k (sh_O h 20 (by decide) rfl) (sh_N h 12 (by decide) rfl) hj (by decide)
theorem st_59 {M : MM} (h : Sh M) {j : Nat} (v : Int32) (hj : j < 12) : stI 59 (nI j) v M = some (sI M 59 j v) := stI_k v (sh_O h 20 (by decide) rfl) (sh_N h 12 (by decide) rfl) hj (by decide)
theorem ld_85 {M : MM} (h : Sh M) {j : Nat} (hj : j < 40) : ldI 85 (nI j) M = some (mI M 85 j) := ldI_k (sh_O h 20 (by decide) rfl) (sh_N h 40 (by decide) rfl) hj (by decide)
theorem st_85 {M : MM} (h : Sh M) {j : Nat} (v : Int32) (hj : j < 40) : stI 85 (nI j) v M = some (sI M 85 j v) := stI_k v (sh_O h 20 (by decide) rfl) (sh_N h 40 (by decide) rfl) hj (by decide)
theorem ld_86 {M : MM} (h : Sh M) {j : Nat} (hj : j < 40) : ldI 86 (nI j) M = some (mI M 86 j) := ldI_k (sh_O h 20 (by decide) rfl) (sh_N h 40 (by decide) rfl) hj (by decide)
theorem st_86 {M : MM} (h : Sh M) {j : Nat} (v : Int32) (hj : j < 40) : stI 86 (nI j) v M = some (sI M 86 j v) := stI_k v (sh_O h 20 (by decide) rfl) (sh_N h 40 (by decide) rfl) hj (by decide)
theorem ld_87 {M : MM} (h : Sh M) {j : Nat} (hj : j < 41) : ldI 87 (nI j) M = some (mI M 87 j) := ldI_k (sh_O h 20 (by decide) rfl) (sh_N h 41 (by decide) rfl) hj (by decide)
theorem st_87 {M : MM} (h : Sh M) {j : Nat} (v : Int32) (hj : j < 41) : stI 87 (nI j) v M = some (sI M 87 j v) := stI_k v (sh_O h 20 (by decide) rfl) (sh_N h 41 (by decide) rfl) hj (by decide)
theorem ld_88 {M : MM} (h : Sh M) {j : Nat} (hj : j < 8) : ldI 88 (nI j) M = some (mI M 88 j) := ldI_k (sh_O h 20 (by decide) rfl) (sh_N h 8 (by decide) rfl) hj (by decide)
theorem st_88 {M : MM} (h : Sh M) {j : Nat} (v : Int32) (hj : j < 8) : stI 88 (nI j) v M = some (sI M 88 j v) := stI_k v (sh_O h 20 (by decide) rfl) (sh_N h 8 (by decide) rfl) hj (by decide)
theorem ld_90 {M : MM} (h : Sh M) {j : Nat} (hj : j < 6) : ldI 90 (nI j) M = some (mI M 90 j) := ldI_k (sh_O h 20 (by decide) rfl) (sh_N h 6 (by decide) rfl) hj (by decide)
theorem st_90 {M : MM} (h : Sh M) {j : Nat} (v : Int32) (hj : j < 6) : stI 90 (nI j) v M = some (sI M 90 j v) := stI_k v (sh_O h 20 (by decide) rfl) (sh_N h 6 (by decide) rfl) hj (by decide)
theorem ld_91 {M : MM} (h : Sh M) {j : Nat} (hj : j < 6) : ldI 91 (nI j) M = some (mI M 91 j) := ldI_k (sh_O h 20 (by decide) rfl) (sh_N h 6 (by decide) rfl) hj (by decide)
theorem st_91 {M : MM} (h : Sh M) {j : Nat} (v : Int32) (hj : j < 6) : stI 91 (nI j) v M = some (sI M 91 j v) := stI_k v (sh_O h 20 (by decide) rfl) (sh_N h 6 (by decide) rfl) hj (by decide)
theorem ld_95 {M : MM} (h : Sh M) {j : Nat} (hj : j < 3) : ldI 95 (nI j) M = some (mI M 95 j) := ldI_k (sh_O h 20 (by decide) rfl) (sh_N h 3 (by decide) rfl) hj (by decide)
theorem st_95 {M : MM} (h : Sh M) {j : Nat} (v : Int32) (hj : j < 3) : stI 95 (nI j) v M = some (sI M 95 j v) := stI_k v (sh_O h 20 (by decide) rfl) (sh_N h 3 (by decide) rfl) hj (by decide)
theorem ld_96 {M : MM} (h : Sh M) {j : Nat} (hj : j < 3) : ldI 96 (nI j) M = some (mI M 96 j) := ldI_k (sh_O h 20 (by decide) rfl) (sh_N h 3 (by decide) rfl) hj (by decide)
theorem st_96 {M : MM} (h : Sh M) {j : Nat} (v : Int32) (hj : j < 3) : stI 96 (nI j) v M = some (sI M 96 j v) := stI_k v (sh_O h 20 (by decide) rfl) (sh_N h 3 (by decide) rfl) hj (by decide)
theorem ld_134 {M : MM} (h : Sh M) {j : Nat} (hj : j < 12) : ldI 134 (nI j) M = some (mI M 134 j) := ldI_k (sh_O h 20 (by decide) rfl) (sh_N h 12 (by decide) rfl) hj (by decide)
theorem st_134 {M : MM} (h : Sh M) {j : Nat} (v : Int32) (hj : j < 12) : stI 134 (nI j) v M = some (sI M 134 j v) := stI_k v (sh_O h 20 (by decide) rfl) (sh_N h 12 (by decide) rfl) hj (by decide)
theorem ld_135 {M : MM} (h : Sh M) {j : Nat} (hj : j < 12) : ldI 135 (nI j) M = some (mI M 135 j) := ldI_k (sh_O h 20 (by decide) rfl) (sh_N h 12 (by decide) rfl) hj (by decide)
theorem st_135 {M : MM} (h : Sh M) {j : Nat} (v : Int32) (hj : j < 12) : stI 135 (nI j) v M = some (sI M 135 j v) := stI_k v (sh_O h 20 (by decide) rfl) (sh_N h 12 (by decide) rfl) hj (by decide)
theorem ld_136 {M : MM} (h : Sh M) {j : Nat} (hj : j < 12) : ldI 136 (nI j) M = some (mI M 136 j) := ldI_k (sh_O h 20 (by decide) rfl) (sh_N h 12 (by decide) rfl) hj (by decide)
theorem st_136 {M : MM} (h : Sh M) {j : Nat} (v : Int32) (hj : j < 12) : stI 136 (nI j) v M = some (sI M 136 j v) := stI_k v (sh_O h 20 (by decide) rfl) (sh_N h 12 (by decide) rfl) hj (by decide)
theorem ld_138 {M : MM} (h : Sh M) {j : Nat} (hj : j < 8) : ldI 138 (nI j) M = some (mI M 138 j) := ldI_k (sh_O h 20 (by decide) rfl) (sh_N h 8 (by decide) rfl) hj (by decide)
theorem st_138 {M : MM} (h : Sh M) {j : Nat} (v : Int32) (hj : j < 8) : stI 138 (nI j) v M = some (sI M 138 j v) := stI_k v (sh_O h 20 (by decide) rfl) (sh_N h 8 (by decide) rfl) hj (by decide)
theorem ld_139 {M : MM} (h : Sh M) {j : Nat} (hj : j < 8) : ldI 139 (nI j) M = some (mI M 139 j) := ldI_k (sh_O h 20 (by decide) rfl) (sh_N h 8 (by decide) rfl) hj (by decide)
theorem st_139 {M : MM} (h : Sh M) {j : Nat} (v : Int32) (hj : j < 8) : stI 139 (nI j) v M = some (sI M 139 j v) := stI_k v (sh_O h 20 (by decide) rfl) (sh_N h 8 (by decide) rfl) hj (by decide)
theorem ld_140 {M : MM} (h : Sh M) {j : Nat} (hj : j < 8) : ldI 140 (nI j) M = some (mI M 140 j) := ldI_k (sh_O h 20 (by decide) rfl) (sh_N h 8 (by decide) rfl) hj (by decide)
theorem st_140 {M : MM} (h : Sh M) {j : Nat} (v : Int32) (hj : j < 8) : stI 140 (nI j) v M = some (sI M 140 j v) := stI_k v (sh_O h 20 (by decide) rfl) (sh_N h 8 (by decide) rfl) hj (by decide)
theorem ld_141 {M : MM} (h : Sh M) {j : Nat} (hj : j < 256) : ldI 141 (nI j) M = some (mI M 141 j) := ldI_k (sh_O h 20 (by decide) rfl) (sh_N h 256 (by decide) rfl) hj (by decide)
theorem st_141 {M : MM} (h : Sh M) {j : Nat} (v : Int32) (hj : j < 256) : stI 141 (nI j) v M = some (sI M 141 j v) := stI_k v (sh_O h 20 (by decide) rfl) (sh_N h 256 (by decide) rfl) hj (by decide)
theorem ld_142 {M : MM} (h : Sh M) {j : Nat} (hj : j < 4) : ldI 142 (nI j) M = some (mI M 142 j) := ldI_k (sh_O h 20 (by decide) rfl) (sh_N h 4 (by decide) rfl) hj (by decide)
theorem st_142 {M : MM} (h : Sh M) {j : Nat} (v : Int32) (hj : j < 4) : stI 142 (nI j) v M = some (sI M 142 j v) := stI_k v (sh_O h 20 (by decide) rfl) (sh_N h 4 (by decide) rfl) hj (by decide)
theorem ld_144 {M : MM} (h : Sh M) {j : Nat} (hj : j < 24) : ldL 144 (nI j) M = some (mL M 144 j) := ldL_k (sh_O h 21 (by decide) rfl) (sh_N h 24 (by decide) rfl) hj (by decide)
theorem st_144 {M : MM} (h : Sh M) {j : Nat} (v : Int64) (hj : j < 24) : stL 144 (nI j) v M = some (sL M 144 j v) := stL_k v (sh_O h 21 (by decide) rfl) (sh_N h 24 (by decide) rfl) hj (by decide)
theorem ld_145 {M : MM} (h : Sh M) {j : Nat} (hj : j < 6) : ldZ 145 (nI j) M = some (mI M 145 j) := ldZ_k (sh_O h 22 (by decide) rfl) (sh_N h 6 (by decide) rfl) hj (by decide)
theorem st_145 {M : MM} (h : Sh M) {j : Nat} (v : Int32) (hj : j < 6) : stZ 145 (nI j) v M = some (sI M 145 j (nz v)) := stZ_k v (sh_O h 22 (by decide) rfl) (sh_N h 6 (by decide) rfl) hj (by decide)
theorem ld_146 {M : MM} (h : Sh M) {j : Nat} (hj : j < 48) : ldI 146 (nI j) M = some (mI M 146 j) := ldI_k (sh_O h 20 (by decide) rfl) (sh_N h 48 (by decide) rfl) hj (by decide)
theorem st_146 {M : MM} (h : Sh M) {j : Nat} (v : Int32) (hj : j < 48) : stI 146 (nI j) v M = some (sI M 146 j v) := stI_k v (sh_O h 20 (by decide) rfl) (sh_N h 48 (by decide) rfl) hj (by decide)
theorem ld_147 {M : MM} (h : Sh M) {j : Nat} (hj : j < 8) : ldI 147 (nI j) M = some (mI M 147 j) := ldI_k (sh_O h 20 (by decide) rfl) (sh_N h 8 (by decide) rfl) hj (by decide)
theorem st_147 {M : MM} (h : Sh M) {j : Nat} (v : Int32) (hj : j < 8) : stI 147 (nI j) v M = some (sI M 147 j v) := stI_k v (sh_O h 20 (by decide) rfl) (sh_N h 8 (by decide) rfl) hj (by decide)
theorem ld_148 {M : MM} (h : Sh M) {j : Nat} (hj : j < 8) : ldI 148 (nI j) M = some (mI M 148 j) := ldI_k (sh_O h 20 (by decide) rfl) (sh_N h 8 (by decide) rfl) hj (by decide)
theorem st_148 {M : MM} (h : Sh M) {j : Nat} (v : Int32) (hj : j < 8) : stI 148 (nI j) v M = some (sI M 148 j v) := stI_k v (sh_O h 20 (by decide) rfl) (sh_N h 8 (by decide) rfl) hj (by decide)
theorem ld_149 {M : MM} (h : Sh M) {j : Nat} (hj : j < 8) : ldI 149 (nI j) M = some (mI M 149 j) := ldI_k (sh_O h 20 (by decide) rfl) (sh_N h 8 (by decide) rfl) hj (by decide)
theorem st_149 {M : MM} (h : Sh M) {j : Nat} (v : Int32) (hj : j < 8) : stI 149 (nI j) v M = some (sI M 149 j v) := stI_k v (sh_O h 20 (by decide) rfl) (sh_N h 8 (by decide) rfl) hj (by decide)
theorem ld_150 {M : MM} (h : Sh M) {j : Nat} (hj : j < 8) : ldI 150 (nI j) M = some (mI M 150 j) := ldI_k (sh_O h 20 (by decide) rfl) (sh_N h 8 (by decide) rfl) hj (by decide)
theorem st_150 {M : MM} (h : Sh M) {j : Nat} (v : Int32) (hj : j < 8) : stI 150 (nI j) v M = some (sI M 150 j v) := stI_k v (sh_O h 20 (by decide) rfl) (sh_N h 8 (by decide) rfl) hj (by decide)
theorem ld_151 {M : MM} (h : Sh M) {j : Nat} (hj : j < 8) : ldI 151 (nI j) M = some (mI M 151 j) := ldI_k (sh_O h 20 (by decide) rfl) (sh_N h 8 (by decide) rfl) hj (by decide)
theorem st_151 {M : MM} (h : Sh M) {j : Nat} (v : Int32) (hj : j < 8) : stI 151 (nI j) v M = some (sI M 151 j v) := stI_k v (sh_O h 20 (by decide) rfl) (sh_N h 8 (by decide) rfl) hj (by decide)
theorem ld_152 {M : MM} (h : Sh M) {j : Nat} (hj : j < 8) : ldZ 152 (nI j) M = some (mI M 152 j) := ldZ_k (sh_O h 22 (by decide) rfl) (sh_N h 8 (by decide) rfl) hj (by decide)
theorem st_152 {M : MM} (h : Sh M) {j : Nat} (v : Int32) (hj : j < 8) : stZ 152 (nI j) v M = some (sI M 152 j (nz v)) := stZ_k v (sh_O h 22 (by decide) rfl) (sh_N h 8 (by decide) rfl) hj (by decide)
theorem ld_153 {M : MM} (h : Sh M) {j : Nat} (hj : j < 46) : ldI 153 (nI j) M = some (mI M 153 j) := ldI_k (sh_O h 20 (by decide) rfl) (sh_N h 46 (by decide) rfl) hj (by decide)
theorem st_153 {M : MM} (h : Sh M) {j : Nat} (v : Int32) (hj : j < 46) : stI 153 (nI j) v M = some (sI M 153 j v) := stI_k v (sh_O h 20 (by decide) rfl) (sh_N h 46 (by decide) rfl) hj (by decide)
theorem ld_154 {M : MM} (h : Sh M) {j : Nat} (hj : j < 46) : ldI 154 (nI j) M = some (mI M 154 j) := ldI_k (sh_O h 20 (by decide) rfl) (sh_N h 46 (by decide) rfl) hj (by decide)
theorem st_154 {M : MM} (h : Sh M) {j : Nat} (v : Int32) (hj : j < 46) : stI 154 (nI j) v M = some (sI M 154 j v) := stI_k v (sh_O h 20 (by decide) rfl) (sh_N h 46 (by decide) rfl) hj (by decide)
theorem ld_155 {M : MM} (h : Sh M) {j : Nat} (hj : j < 80) : ldI 155 (nI j) M = some (mI M 155 j) := ldI_k (sh_O h 20 (by decide) rfl) (sh_N h 80 (by decide) rfl) hj (by decide)
theorem st_155 {M : MM} (h : Sh M) {j : Nat} (v : Int32) (hj : j < 80) : stI 155 (nI j) v M = some (sI M 155 j v) := stI_k v (sh_O h 20 (by decide) rfl) (sh_N h 80 (by decide) rfl) hj (by decide)
theorem ld_156 {M : MM} (h : Sh M) {j : Nat} (hj : j < 6) : ldZ 156 (nI j) M = some (mI M 156 j) := ldZ_k (sh_O h 22 (by decide) rfl) (sh_N h 6 (by decide) rfl) hj (by decide)
theorem st_156 {M : MM} (h : Sh M) {j : Nat} (v : Int32) (hj : j < 6) : stZ 156 (nI j) v M = some (sI M 156 j (nz v)) := stZ_k v (sh_O h 22 (by decide) rfl) (sh_N h 6 (by decide) rfl) hj (by decide)
theorem ld_157 {M : MM} (h : Sh M) {j : Nat} (hj : j < 48) : ldI 157 (nI j) M = some (mI M 157 j) := ldI_k (sh_O h 20 (by decide) rfl) (sh_N h 48 (by decide) rfl) hj (by decide)
theorem st_157 {M : MM} (h : Sh M) {j : Nat} (v : Int32) (hj : j < 48) : stI 157 (nI j) v M = some (sI M 157 j v) := stI_k v (sh_O h 20 (by decide) rfl) (sh_N h 48 (by decide) rfl) hj (by decide)
theorem ld_158 {M : MM} (h : Sh M) {j : Nat} (hj : j < 8) : ldI 158 (nI j) M = some (mI M 158 j) := ldI_k (sh_O h 20 (by decide) rfl) (sh_N h 8 (by decide) rfl) hj (by decide)
theorem st_158 {M : MM} (h : Sh M) {j : Nat} (v : Int32) (hj : j < 8) : stI 158 (nI j) v M = some (sI M 158 j v) := stI_k v (sh_O h 20 (by decide) rfl) (sh_N h 8 (by decide) rfl) hj (by decide)
theorem ld_159 {M : MM} (h : Sh M) {j : Nat} (hj : j < 80) : ldI 159 (nI j) M = some (mI M 159 j) := ldI_k (sh_O h 20 (by decide) rfl) (sh_N h 80 (by decide) rfl) hj (by decide)
theorem st_159 {M : MM} (h : Sh M) {j : Nat} (v : Int32) (hj : j < 80) : stI 159 (nI j) v M = some (sI M 159 j v) := stI_k v (sh_O h 20 (by decide) rfl) (sh_N h 80 (by decide) rfl) hj (by decide)
theorem ld_160 {M : MM} (h : Sh M) {j : Nat} (hj : j < 80) : ldI 160 (nI j) M = some (mI M 160 j) := ldI_k (sh_O h 20 (by decide) rfl) (sh_N h 80 (by decide) rfl) hj (by decide)
theorem st_160 {M : MM} (h : Sh M) {j : Nat} (v : Int32) (hj : j < 80) : stI 160 (nI j) v M = some (sI M 160 j v) := stI_k v (sh_O h 20 (by decide) rfl) (sh_N h 80 (by decide) rfl) hj (by decide)
theorem ld_161 {M : MM} (h : Sh M) {j : Nat} (hj : j < 80) : ldI 161 (nI j) M = some (mI M 161 j) := ldI_k (sh_O h 20 (by decide) rfl) (sh_N h 80 (by decide) rfl) hj (by decide)
theorem st_161 {M : MM} (h : Sh M) {j : Nat} (v : Int32) (hj : j < 80) : stI 161 (nI j) v M = some (sI M 161 j v) := stI_k v (sh_O h 20 (by decide) rfl) (sh_N h 80 (by decide) rfl) hj (by decide)
theorem ld_162 {M : MM} (h : Sh M) {j : Nat} (hj : j < 46) : ldI 162 (nI j) M = some (mI M 162 j) := ldI_k (sh_O h 20 (by decide) rfl) (sh_N h 46 (by decide) rfl) hj (by decide)
theorem st_162 {M : MM} (h : Sh M) {j : Nat} (v : Int32) (hj : j < 46) : stI 162 (nI j) v M = some (sI M 162 j v) := stI_k v (sh_O h 20 (by decide) rfl) (sh_N h 46 (by decide) rfl) hj (by decide)
theorem ld_163 {M : MM} (h : Sh M) {j : Nat} (hj : j < 736) : ldI 163 (nI j) M = some (mI M 163 j) := ldI_k (sh_O h 20 (by decide) rfl) (sh_N h 736 (by decide) rfl) hj (by decide)
theorem st_163 {M : MM} (h : Sh M) {j : Nat} (v : Int32) (hj : j < 736) : stI 163 (nI j) v M = some (sI M 163 j v) := stI_k v (sh_O h 20 (by decide) rfl) (sh_N h 736 (by decide) rfl) hj (by decide)
theorem ld_164 {M : MM} (h : Sh M) {j : Nat} (hj : j < 60) : ldI 164 (nI j) M = some (mI M 164 j) := ldI_k (sh_O h 20 (by decide) rfl) (sh_N h 60 (by decide) rfl) hj (by decide)
theorem st_164 {M : MM} (h : Sh M) {j : Nat} (v : Int32) (hj : j < 60) : stI 164 (nI j) v M = some (sI M 164 j v) := stI_k v (sh_O h 20 (by decide) rfl) (sh_N h 60 (by decide) rfl) hj (by decide)
theorem ld_165 {M : MM} (h : Sh M) {j : Nat} (hj : j < 60) : ldI 165 (nI j) M = some (mI M 165 j) := ldI_k (sh_O h 20 (by decide) rfl) (sh_N h 60 (by decide) rfl) hj (by decide)
theorem st_165 {M : MM} (h : Sh M) {j : Nat} (v : Int32) (hj : j < 60) : stI 165 (nI j) v M = some (sI M 165 j v) := stI_k v (sh_O h 20 (by decide) rfl) (sh_N h 60 (by decide) rfl) hj (by decide)
theorem ld_166 {M : MM} (h : Sh M) {j : Nat} (hj : j < 60) : ldI 166 (nI j) M = some (mI M 166 j) := ldI_k (sh_O h 20 (by decide) rfl) (sh_N h 60 (by decide) rfl) hj (by decide)
theorem st_166 {M : MM} (h : Sh M) {j : Nat} (v : Int32) (hj : j < 60) : stI 166 (nI j) v M = some (sI M 166 j v) := stI_k v (sh_O h 20 (by decide) rfl) (sh_N h 60 (by decide) rfl) hj (by decide)
theorem ld_167 {M : MM} (h : Sh M) {j : Nat} (hj : j < 60) : ldI 167 (nI j) M = some (mI M 167 j) := ldI_k (sh_O h 20 (by decide) rfl) (sh_N h 60 (by decide) rfl) hj (by decide)
theorem st_167 {M : MM} (h : Sh M) {j : Nat} (v : Int32) (hj : j < 60) : stI 167 (nI j) v M = some (sI M 167 j v) := stI_k v (sh_O h 20 (by decide) rfl) (sh_N h 60 (by decide) rfl) hj (by decide)
theorem ld_168 {M : MM} (h : Sh M) {j : Nat} (hj : j < 6) : ldI 168 (nI j) M = some (mI M 168 j) := ldI_k (sh_O h 20 (by decide) rfl) (sh_N h 6 (by decide) rfl) hj (by decide)
theorem st_168 {M : MM} (h : Sh M) {j : Nat} (v : Int32) (hj : j < 6) : stI 168 (nI j) v M = some (sI M 168 j v) := stI_k v (sh_O h 20 (by decide) rfl) (sh_N h 6 (by decide) rfl) hj (by decide)
theorem ld_169 {M : MM} (h : Sh M) {j : Nat} (hj : j < 6) : ldI 169 (nI j) M = some (mI M 169 j) := ldI_k (sh_O h 20 (by decide) rfl) (sh_N h 6 (by decide) rfl) hj (by decide)
theorem st_169 {M : MM} (h : Sh M) {j : Nat} (v : Int32) (hj : j < 6) : stI 169 (nI j) v M = some (sI M 169 j v) := stI_k v (sh_O h 20 (by decide) rfl) (sh_N h 6 (by decide) rfl) hj (by decide)
theorem ld_170 {M : MM} (h : Sh M) {j : Nat} (hj : j < 3) : ldI 170 (nI j) M = some (mI M 170 j) := ldI_k (sh_O h 20 (by decide) rfl) (sh_N h 3 (by decide) rfl) hj (by decide)
theorem st_170 {M : MM} (h : Sh M) {j : Nat} (v : Int32) (hj : j < 3) : stI 170 (nI j) v M = some (sI M 170 j v) := stI_k v (sh_O h 20 (by decide) rfl) (sh_N h 3 (by decide) rfl) hj (by decide)
theorem ld_171 {M : MM} (h : Sh M) {j : Nat} (hj : j < 6) : ldI 171 (nI j) M = some (mI M 171 j) := ldI_k (sh_O h 20 (by decide) rfl) (sh_N h 6 (by decide) rfl) hj (by decide)
theorem st_171 {M : MM} (h : Sh M) {j : Nat} (v : Int32) (hj : j < 6) : stI 171 (nI j) v M = some (sI M 171 j v) := stI_k v (sh_O h 20 (by decide) rfl) (sh_N h 6 (by decide) rfl) hj (by decide)
theorem ld_172 {M : MM} (h : Sh M) {j : Nat} (hj : j < 6) : ldI 172 (nI j) M = some (mI M 172 j) := ldI_k (sh_O h 20 (by decide) rfl) (sh_N h 6 (by decide) rfl) hj (by decide)
theorem st_172 {M : MM} (h : Sh M) {j : Nat} (v : Int32) (hj : j < 6) : stI 172 (nI j) v M = some (sI M 172 j v) := stI_k v (sh_O h 20 (by decide) rfl) (sh_N h 6 (by decide) rfl) hj (by decide)
theorem ld_173 {M : MM} (h : Sh M) {j : Nat} (hj : j < 8) : ldI 173 (nI j) M = some (mI M 173 j) := ldI_k (sh_O h 20 (by decide) rfl) (sh_N h 8 (by decide) rfl) hj (by decide)
theorem st_173 {M : MM} (h : Sh M) {j : Nat} (v : Int32) (hj : j < 8) : stI 173 (nI j) v M = some (sI M 173 j v) := stI_k v (sh_O h 20 (by decide) rfl) (sh_N h 8 (by decide) rfl) hj (by decide)
theorem ld_174 {M : MM} (h : Sh M) {j : Nat} (hj : j < 8) : ldI 174 (nI j) M = some (mI M 174 j) := ldI_k (sh_O h 20 (by decide) rfl) (sh_N h 8 (by decide) rfl) hj (by decide)
theorem st_174 {M : MM} (h : Sh M) {j : Nat} (v : Int32) (hj : j < 8) : stI 174 (nI j) v M = some (sI M 174 j v) := stI_k v (sh_O h 20 (by decide) rfl) (sh_N h 8 (by decide) rfl) hj (by decide)
theorem ld_175 {M : MM} (h : Sh M) {j : Nat} (hj : j < 8) : ldI 175 (nI j) M = some (mI M 175 j) := ldI_k (sh_O h 20 (by decide) rfl) (sh_N h 8 (by decide) rfl) hj (by decide)
theorem st_175 {M : MM} (h : Sh M) {j : Nat} (v : Int32) (hj : j < 8) : stI 175 (nI j) v M = some (sI M 175 j v) := stI_k v (sh_O h 20 (by decide) rfl) (sh_N h 8 (by decide) rfl) hj (by decide)
theorem ld_176 {M : MM} (h : Sh M) {j : Nat} (hj : j < 12) : ldI 176 (nI j) M = some (mI M 176 j) := ldI_k (sh_O h 20 (by decide) rfl) (sh_N h 12 (by decide) rfl) hj (by decide)
theorem st_176 {M : MM} (h : Sh M) {j : Nat} (v : Int32) (hj : j < 12) : stI 176 (nI j) v M = some (sI M 176 j v) := stI_k v (sh_O h 20 (by decide) rfl) (sh_N h 12 (by decide) rfl) hj (by decide)
theorem ld_177 {M : MM} (h : Sh M) {j : Nat} (hj : j < 12) : ldI 177 (nI j) M = some (mI M 177 j) := ldI_k (sh_O h 20 (by decide) rfl) (sh_N h 12 (by decide) rfl) hj (by decide)
theorem st_177 {M : MM} (h : Sh M) {j : Nat} (v : Int32) (hj : j < 12) : stI 177 (nI j) v M = some (sI M 177 j v) := stI_k v (sh_O h 20 (by decide) rfl) (sh_N h 12 (by decide) rfl) hj (by decide)
theorem ld_178 {M : MM} (h : Sh M) {j : Nat} (hj : j < 12) : ldI 178 (nI j) M = some (mI M 178 j) := ldI_k (sh_O h 20 (by decide) rfl) (sh_N h 12 (by decide) rfl) hj (by decide)
theorem st_178 {M : MM} (h : Sh M) {j : Nat} (v : Int32) (hj : j < 12) : stI 178 (nI j) v M = some (sI M 178 j v) := stI_k v (sh_O h 20 (by decide) rfl) (sh_N h 12 (by decide) rfl) hj (by decide)
theorem ld_179 {M : MM} (h : Sh M) {j : Nat} (hj : j < 12) : ldI 179 (nI j) M = some (mI M 179 j) := ldI_k (sh_O h 20 (by decide) rfl) (sh_N h 12 (by decide) rfl) hj (by decide)
theorem st_179 {M : MM} (h : Sh M) {j : Nat} (v : Int32) (hj : j < 12) : stI 179 (nI j) v M = some (sI M 179 j v) := stI_k v (sh_O h 20 (by decide) rfl) (sh_N h 12 (by decide) rfl) hj (by decide)
theorem ld_180 {M : MM} (h : Sh M) {j : Nat} (hj : j < 3) : ldZ 180 (nI j) M = some (mI M 180 j) := ldZ_k (sh_O h 22 (by decide) rfl) (sh_N h 3 (by decide) rfl) hj (by decide)
theorem st_180 {M : MM} (h : Sh M) {j : Nat} (v : Int32) (hj : j < 3) : stZ 180 (nI j) v M = some (sI M 180 j (nz v)) := stZ_k v (sh_O h 22 (by decide) rfl) (sh_N h 3 (by decide) rfl) hj (by decide)
theorem ld_181 {M : MM} (h : Sh M) {j : Nat} (hj : j < 3) : ldI 181 (nI j) M = some (mI M 181 j) := ldI_k (sh_O h 20 (by decide) rfl) (sh_N h 3 (by decide) rfl) hj (by decide)
theorem st_181 {M : MM} (h : Sh M) {j : Nat} (v : Int32) (hj : j < 3) : stI 181 (nI j) v M = some (sI M 181 j v) := stI_k v (sh_O h 20 (by decide) rfl) (sh_N h 3 (by decide) rfl) hj (by decide)
theorem ld_182 {M : MM} (h : Sh M) {j : Nat} (hj : j < 138) : ldI 182 (nI j) M = some (mI M 182 j) := ldI_k (sh_O h 20 (by decide) rfl) (sh_N h 138 (by decide) rfl) hj (by decide)
theorem st_182 {M : MM} (h : Sh M) {j : Nat} (v : Int32) (hj : j < 138) : stI 182 (nI j) v M = some (sI M 182 j v) := stI_k v (sh_O h 20 (by decide) rfl) (sh_N h 138 (by decide) rfl) hj (by decide)
theorem ld_183 {M : MM} (h : Sh M) {j : Nat} (hj : j < 1) : ldL 183 (nI j) M = some (mL M 183 j) := ldL_k (sh_O h 21 (by decide) rfl) (sh_N h 1 (by decide) rfl) hj (by decide)
theorem st_183 {M : MM} (h : Sh M) {j : Nat} (v : Int64) (hj : j < 1) : stL 183 (nI j) v M = some (sL M 183 j v) := stL_k v (sh_O h 21 (by decide) rfl) (sh_N h 1 (by decide) rfl) hj (by decide)

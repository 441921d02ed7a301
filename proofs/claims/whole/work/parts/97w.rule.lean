/-! THE RULE: how it is told -/
abbrev Va : Type := (Nat → Int32) → Int32
abbrev Rs : Type := Option Va × Nat
def opr (r c : Nat) : Option Nat := match r with
  | 0 => ixS 4 c
  | 1 => (ixS 5 c).map (fun i => i + 3)
  | _ => (ixS 6 c).map (fun i => i + 5)
def opA (T : Nat → Nat) (l r a : Nat) : Option Nat := if a < l then opr r (T a) else none
def pLp (T : Nat → Nat) (l r : Nat) (E : Nat → Rs) : Nat → Va → Nat → Rs
  | 0, v, a => (some v, a)
  | f + 1, v, a => match opA T l r a with
    | none => (some v, a)
    | some k => match E (a + 1) with
      | (none, a2) => (none, a2)
      | (some u, a2) => pLp T l r E f (fun fc => wrk k (v fc) (u fc)) a2
theorem pLp_n {T : Nat → Nat} {l r : Nat} {E : Nat → Rs} {f : Nat} {v : Va} {a : Nat} (h : opA T l r a = none) : pLp T l r E (f + 1) v a = (some v, a) := by
  show (match opA T l r a with | none => (some v, a) | some k => _) = _
  rw [h]
theorem pLp_f {T : Nat → Nat} {l r : Nat} {E : Nat → Rs} {f : Nat} {v : Va} {a k a2 : Nat} (h : opA T l r a = some k) (e : E (a + 1) = (none, a2)) : pLp T l r E (f + 1) v a = (none, a2) := by
  show (match opA T l r a with | none => (some v, a) | some k => match E (a + 1) with | (none, a2) => (none, a2) | (some u, a2) => pLp T l r E f (fun fc => wrk k (v fc) (u fc)) a2) = _
  rw [h]
  dsimp only
  rw [e]
theorem pLp_t {T : Nat → Nat} {l r : Nat} {E : Nat → Rs} {f : Nat} {v u : Va} {a k a2 : Nat} (h : opA T l r a = some k) (e : E (a + 1) = (some u, a2)) : pLp T l r E (f + 1) v a = pLp T l r E f (fun fc => wrk k (v fc) (u fc)) a2 := by
  show (match opA T l r a with | none => (some v, a) | some k => match E (a + 1) with | (none, a2) => (none, a2) | (some u, a2) => pLp T l r E f (fun fc => wrk k (v fc) (u fc)) a2) = _
  rw [h]
  dsimp only
  rw [e]
def pCh (T : Nat → Nat) (l r f : Nat) (E : Nat → Rs) (a : Nat) : Rs := match E a with
  | (none, a1) => (none, a1)
  | (some v, a1) => pLp T l r E f v a1
theorem pCh_f {T : Nat → Nat} {l r f : Nat} {E : Nat → Rs} {a a1 : Nat} (e : E a = (none, a1)) : pCh T l r f E a = (none, a1) := by unfold pCh; rw [e]
theorem pCh_t {T : Nat → Nat} {l r f : Nat} {E : Nat → Rs} {a a1 : Nat} {v : Va} (e : E a = (some v, a1)) : pCh T l r f E a = pLp T l r E f v a1 := by unfold pCh; rw [e]
def sgV (b : Bool) (v : Va) : Va := fun fc => if b = true then -(v fc) else v fc
def sgP (b : Bool) (p : Rs) : Rs := (p.1.map (sgV b), p.2)
theorem sgP_f (p : Rs) : sgP false p = p := by
  obtain ⟨o, q⟩ := p
  cases o with
  | none => rfl
  | some v => rfl
theorem sgP_t (b : Bool) (p : Rs) : sgP b (sgP true p) = sgP (!b) p := by
  obtain ⟨o, q⟩ := p
  cases o with
  | none => rfl
  | some v =>
    show (some (sgV b (sgV true v)), q) = (some (sgV (!b) v), q)
    have : sgV b (sgV true v) = sgV (!b) v := by
      funext fc
      cases b with
      | false => rfl
      | true => show - -(v fc) = v fc; exact Int32.neg_neg
    rw [this]
theorem sgP_s (b : Bool) (p : Rs) : (sgP b p).1.isSome = p.1.isSome := by unfold sgP; rw [Option.isSome_map]
def pNd (T : Nat → Nat) (l : Nat) (B : Nat → Rs) : Nat → Nat → Rs
  | 0, a => B a
  | f + 1, a => if tkB T l a 45 = true then sgP true (pNd T l B f (a + 1)) else B a
def pBs (T : Nat → Nat) (l : Nat) (C : Option (Nat → Rs)) (a : Nat) : Rs := match nmO T l a 3 with
  | some v => (some (fun _ => nI v), nmA T l a 3)
  | none => match ixP1 T l a 0 with
    | some i => (some (fun fc => fc i), a + 1)
    | none => match C with
      | none => (none, a)
      | some p => if tkB T l a 40 = true then (match p (a + 1) with
        | (none, a2) => (none, a2)
        | (some v, a2) => if tkB T l a2 41 = true then (some v, a2 + 1) else (none, a2)) else (none, a)
theorem pBs_1 {T : Nat → Nat} {l a v : Nat} {C : Option (Nat → Rs)} (h : nmO T l a 3 = some v) : pBs T l C a = (some (fun _ => nI v), nmA T l a 3) := by unfold pBs; rw [h]
theorem pBs_2 {T : Nat → Nat} {l a i : Nat} {C : Option (Nat → Rs)} (h : nmO T l a 3 = none) (h2 : ixP1 T l a 0 = some i) : pBs T l C a = (some (fun fc => fc i), a + 1) := by unfold pBs; rw [h, h2]
theorem pBs_3 {T : Nat → Nat} {l a : Nat} (h : nmO T l a 3 = none) (h2 : ixP1 T l a 0 = none) : pBs T l none a = (none, a) := by unfold pBs; rw [h, h2]
theorem pBs_4 {T : Nat → Nat} {l a : Nat} {p : Nat → Rs} (h : nmO T l a 3 = none) (h2 : ixP1 T l a 0 = none) : pBs T l (some p) a = if tkB T l a 40 = true then (match p (a + 1) with
        | (none, a2) => (none, a2)
        | (some v, a2) => if tkB T l a2 41 = true then (some v, a2 + 1) else (none, a2)) else (none, a) := by unfold pBs; rw [h, h2]
theorem pBs_5 {T : Nat → Nat} {l a : Nat} {p : Nat → Rs} (h : nmO T l a 3 = none) (h2 : ixP1 T l a 0 = none) (h3 : tkB T l a 40 = false) : pBs T l (some p) a = (none, a) := by rw [pBs_4 h h2, if_neg (by rw [h3]; decide)]
theorem pBs_6 {T : Nat → Nat} {l a a2 : Nat} {p : Nat → Rs} (h : nmO T l a 3 = none) (h2 : ixP1 T l a 0 = none) (h3 : tkB T l a 40 = true) (h4 : p (a + 1) = (none, a2)) : pBs T l (some p) a = (none, a2) := by rw [pBs_4 h h2, if_pos h3, h4]
theorem pBs_7 {T : Nat → Nat} {l a a2 : Nat} {v : Va} {p : Nat → Rs} (h : nmO T l a 3 = none) (h2 : ixP1 T l a 0 = none) (h3 : tkB T l a 40 = true) (h4 : p (a + 1) = (some v, a2)) : pBs T l (some p) a = if tkB T l a2 41 = true then (some v, a2 + 1) else (none, a2) := by rw [pBs_4 h h2, if_pos h3, h4]
def pTop (T : Nat → Nat) (l : Nat) (B : Nat → Rs) : Nat → Rs := pCh T l 0 1 (pCh T l 1 81 (pCh T l 2 81 (pNd T l B 81)))
def pCm (T : Nat → Nat) (l : Nat) : Nat → Nat → Rs
  | 0 => pTop T l (pBs T l none)
  | e + 1 => pTop T l (pBs T l (some (pCm T l e)))
def pCo (T : Nat → Nat) (l : Nat) : Nat → Option (Nat → Rs)
  | 0 => none
  | e + 1 => some (pCm T l e)
theorem pCm_e (T : Nat → Nat) (l e : Nat) : pCm T l e = pTop T l (pBs T l (pCo T l e)) := by cases e <;> rfl
/-! signs -/
theorem op_0 : ∀ c, c < 256 → opr 0 c = if c = 60 then some 0 else if c = 62 then some 1 else if c = 61 then some 2 else none := by decide +kernel
theorem op_1 : ∀ c, c < 256 → opr 1 c = if c = 43 then some 3 else if c = 45 then some 4 else none := by decide +kernel
theorem op_2 : ∀ c, c < 256 → opr 2 c = if c = 42 then some 5 else if c = 47 then some 6 else none := by decide +kernel
theorem ix_40 : ixS 0 40 = none := by decide +kernel
theorem stC_neg (fc : Nat → Int32) (st : List Int32) : stepC fc (-226) st = stNeg st := by unfold stepC; rw [if_pos (by decide), if_pos rfl]
theorem stC_num (fc : Nat → Int32) (st : List Int32) {v : Nat} (h : v < 2 ^ 31) : stepC fc (nI v) st = some (nI v :: st) := by
  unfold stepC
  rw [if_neg, if_neg (nI_pos h)]
  rw [fa_lt, nI_toInt h, show (-8 : Int32).toInt = -8 from by decide]
  omega
theorem fct : ∀ i, i < 8 → (¬ (-1 - nI i : Int32) < -8) ∧ ((-1 - nI i : Int32) < 0) ∧ (-1 - (-1 - nI i) : Int32).toNatClampNeg = i := by decide +kernel
theorem stC_fct (fc : Nat → Int32) (st : List Int32) {i : Nat} (h : i < 8) : stepC fc (-1 - nI i) st = some (fc i :: st) := by
  unfold stepC
  rw [if_neg (fct i h).1, if_pos (fct i h).2.1, (fct i h).2.2]
theorem opC_t : ∀ r, r < 3 → ∀ c, c < 256 → (match opr r c with | none => true | some k => decide ((-100 - nI c : Int32) < -8 ∧ ¬ (-100 - nI c : Int32) = -226 ∧ ((-100 - nI c : Int32) = -160 ∨ (-100 - nI c : Int32) = -162 ∨ (-100 - nI c : Int32) = -161 ∨ (-100 - nI c : Int32) = -143 ∨ (-100 - nI c : Int32) = -145 ∨ (-100 - nI c : Int32) = -142 ∨ (-100 - nI c : Int32) = -147) ∧ opC (-100 - nI c) = k)) = true := by decide +kernel
theorem stC_op (fc : Nat → Int32) (st : List Int32) {r c k : Nat} (hr : r < 3) (hc : c < 256) (h : opr r c = some k) : stepC fc (-100 - nI c) st = stBin k st := by
  have t := opC_t r hr c hc
  rw [h] at t
  have t := of_decide_eq_true t
  unfold stepC
  rw [if_pos t.1, if_neg t.2.1, if_pos t.2.2.1, t.2.2.2]
theorem nmA_gt {T : Nat → Nat} {l a k v : Nat} (ha : a ≤ l) (h : nmO T l a (k + 1) = some v) : a < l ∧ a + 1 ≤ nmA T l a (k + 1) := by
  unfold nmO at h
  unfold nmA
  by_cases hd : dB T l a = true
  · rw [if_pos hd, nmL_s, if_pos hd]
    have := of_decide_eq_true hd
    have := nmL_b (T := T) (l := l) (k := k) (a := a + 1) (v := 10 * 0 + (T a - 48)) (B := 1000) (by omega) (by omega)
    omega
  · rw [if_neg hd] at h; cases h
/-! the class -/
def wRu (a k : Nat) : Prop := (a = 1 ∧ k = 4) ∨ (a = 84 ∧ k = 7) ∨ a = 86
def PCs (s : St) (T : Nat → Nat) (n l c : Nat) (g : MM → Option (Int32 × MM)) (p : Rs) (a : Nat) : Prop := ∀ (N : MM) (d : Nat), TC s T n l a N → mI N 84 7 = nI d → d + c ≤ a → ∃ N' d', g N = some (bI p.1.isSome, N') ∧ TC s T n l p.2 N' ∧ mI N' 84 7 = nI d' ∧ d ≤ d' ∧ d' + a ≤ d + c + p.2 ∧ (∀ k, k < d → mI N' 86 k = mI N 86 k) ∧ (∀ v, p.1 = some v → d < d' ∧ ∀ fc st, runC fc (mI N 86) d = some st → runC fc (mI N' 86) d' = some (v fc :: st)) ∧ Fr wRu N N' ∧ mR N' = mR N
theorem O84 {M : MM} (h : Sh M) : isO 7 84 M = true := sh_O h 7 (by decide) rfl
section RUC
variable {s : St} {T : Nat → Nat} {n l : Nat}
theorem c_emit {a d : Nat} {N : MM} (h : TC s T n l a N) (hd : mI N 84 7 = nI d) (hlt : d < 40) (x : Int32) : ∃ N', f_X7_emit 84 x N = some N' ∧ TC s T n l a N' ∧ mI N' 84 7 = nI (d + 1) ∧ (∀ k, k < d → mI N' 86 k = mI N 86 k) ∧ (∀ fc st, runC fc (mI N 86) d = some st → runC fc (mI N' 86) (d + 1) = stepC fc x st) ∧ Fr wRu N N' ∧ mR N' = mR N := by
  have h0 := h.1.1
  have h1 : Sh (sI N 86 d x) := h0
  have ff : Fr (fun a k => (a = 84 ∧ k = 7) ∨ a = 86) N (sI (sI N 86 d x) 84 7 (nI (d + 1))) := ((Fr.rf (W := fun a k => (a = 84 ∧ k = 7) ∨ a = 86) N).sI (Or.inr rfl)).sI (Or.inl ⟨rfl, rfl⟩)
  refine ⟨sI (sI N 86 d x) 84 7 (nI (d + 1)), ?_, h.fr' ff rfl (fun a k q => by unfold wC; omega) (fun a k q => by omega), by rw [mI_w, if_pos ⟨rfl, rfl⟩], fun k hk => by rw [mI_w, if_neg (by omega), mI_w, if_neg (by omega)], fun fc st g => ?_, ff.mono (fun a k q => by unfold wRu; omega), rfl⟩
  · unfold f_X7_emit f_X7_emit_0
    rw [if_pos (O84 h0), gI_k 7 (O84 h0), b1_s, hd, if_neg (show ¬ (40 : Int32) ≤ nI d from nI_ge (b := 40) hlt (by decide)), sh_R h0 (a := 84) (k := 3) (b := 86) 7 (by decide) rfl (by decide), b1_s, b1_s, st_86 h0 _ hlt, b1_s, gI_k 7 (O84 h1), b1_s, mI_w, if_neg (by omega), hd, nI_1, pI_k 7 _ (O84 h1), b1_s]
  · rw [runC, runC_eq (d := mI N 86) (fun k hk => by rw [mI_w, if_neg (by omega), mI_w, if_neg (by omega)]), g]
    show stepC fc (mI (sI (sI N 86 d x) 84 7 (nI (d + 1))) 86 d) st = _
    rw [mI_w, if_neg (by omega), mI_w, if_pos ⟨rfl, rfl⟩]
theorem c_136 (P : Nat → Nat → Int32 → MM → Option (Int32 × MM)) {b : Bool} {q d : Nat} {N : MM} (h : TC s T n l q N) (hd : mI N 84 7 = nI d) (hlt : b = true → d < 40) : ∃ N', f_X7_readThing_136 P 84 (bI b) N = some (1, N') ∧ TC s T n l q N' ∧ mI N' 84 7 = nI (d + (if b = true then 1 else 0)) ∧ (∀ k, k < d → mI N' 86 k = mI N 86 k) ∧ (∀ fc st (v : Int32), runC fc (mI N 86) d = some (v :: st) → runC fc (mI N' 86) (d + (if b = true then 1 else 0)) = some ((if b = true then -v else v) :: st)) ∧ Fr wRu N N' ∧ mR N' = mR N := by
  unfold f_X7_readThing_136
  cases b with
  | false =>
    rw [if_pos (show bI false = 0 from rfl), rz1]
    exact ⟨N, rfl, h, hd, fun _ _ => rfl, fun fc st v g => g, Fr.rf N, rfl⟩
  | true =>
    obtain ⟨N1, e1, c1, d1, p1, r1, f1, q1⟩ := c_emit h hd (hlt rfl) (-226)
    rw [if_neg (show ¬ bI true = 0 by decide)]
    refine ⟨N1, ?_, c1, d1, p1, fun fc st v g => ?_, f1, q1⟩
    · unfold f_X7_operator f_X7_operator_0
      rw [b2_s, show (-100 : Int32) - 126 = -226 from by decide, e1, b1_s, rz1]
    · show runC fc (mI N1 86) (d + 1) = _
      rw [r1 fc _ g, stC_neg]
      rfl
theorem c_37 {e : Nat} (he : e ≤ 4) (hl : l ≤ 40) (P : Nat → Nat → Int32 → MM → Option (Int32 × MM)) (C : Option (Nat → Rs)) (h0 : e = 0 → C = none) (h1 : e ≠ 0 → ∃ p, C = some p ∧ ∀ a, a ≤ l → PCs s T n l 0 (fun N => P 84 1 (nI (4 - e + 1)) N) (p a) a) (b : Bool) (a : Nat) : PCs s T n l (if b = true then 1 else 0) (fun N => f_X7_readThing_37 P 84 1 (nI (4 - e)) (bI b) N) (sgP b (pBs T l C a)) a := by
  intro N d h hd hda
  obtain ⟨b1', b2', b3', b4'⟩ := h.2.2.2.2.2
  have hc1 : (if b = true then 1 else 0) ≤ 1 := by split <;> omega
  have hda0 : d ≤ a := by omega
  show ∃ N' d', f_X7_readThing_37 P 84 1 (nI (4 - e)) (bI b) N = _ ∧ _
  have fin : ∀ (q d1 : Nat) (N2 : MM) (v : Va), pBs T l C a = (some v, q) → TC s T n l q N2 → mI N2 84 7 = nI d1 → d < d1 → d1 + a ≤ d + q → (∀ k, k < d → mI N2 86 k = mI N 86 k) → (∀ fc st, runC fc (mI N 86) d = some st → runC fc (mI N2 86) d1 = some (v fc :: st)) → Fr wRu N N2 → mR N2 = mR N → ∃ N' d', f_X7_readThing_136 P 84 (bI b) N2 = some (bI (sgP b (pBs T l C a)).1.isSome, N') ∧ TC s T n l (sgP b (pBs T l C a)).2 N' ∧ mI N' 84 7 = nI d' ∧ d ≤ d' ∧ d' + a ≤ d + (if b = true then 1 else 0) + (sgP b (pBs T l C a)).2 ∧ (∀ k, k < d → mI N' 86 k = mI N 86 k) ∧ (∀ v, (sgP b (pBs T l C a)).1 = some v → d < d' ∧ ∀ fc st, runC fc (mI N 86) d = some st → runC fc (mI N' 86) d' = some (v fc :: st)) ∧ Fr wRu N N' ∧ mR N' = mR N := by
    intro q d1 N2 v hp c2 hd1 hlt hle pr rn f2 r2
    have hq := c2.2.2.2.2.2.2.2.1
    obtain ⟨N3, e3, c3, d3, p3, q3, f3, r3⟩ := c_136 P (b := b) c2 hd1 (fun hb => by rw [hb, if_pos rfl] at hda; omega)
    rw [hp]
    refine ⟨N3, d1 + (if b = true then 1 else 0), e3, c3, d3, by omega, ?_, fun k hk => (p3 k (by omega)).trans (pr k hk), fun w hw => ⟨by omega, fun fc st g => ?_⟩, f2.tr f3, r3.trans r2⟩
    · show d1 + (if b = true then 1 else 0) + a ≤ d + (if b = true then 1 else 0) + q
      omega
    · have hw : some (sgV b v) = some w := hw
      cases hw
      exact q3 fc st _ (rn fc st g)
  have bad : ∀ (q d1 : Nat) (N2 : MM), pBs T l C a = (none, q) → TC s T n l q N2 → mI N2 84 7 = nI d1 → d ≤ d1 → d1 + a ≤ d + q → (∀ k, k < d → mI N2 86 k = mI N 86 k) → Fr wRu N N2 → mR N2 = mR N → ∃ N' d', rz 0 N2 = some (bI (sgP b (pBs T l C a)).1.isSome, N') ∧ TC s T n l (sgP b (pBs T l C a)).2 N' ∧ mI N' 84 7 = nI d' ∧ d ≤ d' ∧ d' + a ≤ d + (if b = true then 1 else 0) + (sgP b (pBs T l C a)).2 ∧ (∀ k, k < d → mI N' 86 k = mI N 86 k) ∧ (∀ v, (sgP b (pBs T l C a)).1 = some v → d < d' ∧ ∀ fc st, runC fc (mI N 86) d = some st → runC fc (mI N' 86) d' = some (v fc :: st)) ∧ Fr wRu N N' ∧ mR N' = mR N := by
    intro q d1 N2 hp c2 hd1 hlt hle pr f2 r2
    rw [hp]
    refine ⟨N2, d1, rz0 N2, c2, hd1, hlt, ?_, pr, (fun w hw => by have hw : (none : Option Va) = some w := hw; cases hw), f2, r2⟩
    show d1 + a ≤ d + (if b = true then 1 else 0) + q
    omega
  obtain ⟨N1, e1, c1, f1, r1⟩ := tc_num h (k := 3) (by decide) (by decide)
  have f1' : Fr wRu N N1 := f1.mono (fun a k q => by unfold w14 at q; unfold wRu; omega)
  have hd1 : mI N1 84 7 = nI d := (f1.2.2.1 84 7 (by unfold w14; omega)).trans hd
  have pr1 : ∀ k, mI N1 86 k = mI N 86 k := fun k => f1.2.2.1 86 k (by unfold w14; omega)
  unfold f_X7_readThing_37
  rw [show (3 : Int32) = nI 3 from rfl, e1, b2_s]
  cases hv : nmO T l a 3 with
  | some v =>
    have hg : a < l ∧ a + 1 ≤ nmA T l a 3 := nmA_gt b3' hv
    have hvb : v < 1000 := nmO_b b3' hv
    obtain ⟨N2, e2, c2, d2, p2, q2, f2, r2⟩ := c_emit c1 hd1 (by omega) (nI v)
    show ∃ N' d', (if nI v < 0 then _ else b1 (f_X7_emit 84 (nI v) N1) _) = _ ∧ _
    rw [if_neg (nI_pos (by omega)), e2, b1_s]
    exact fin _ _ _ _ (pBs_1 hv) c2 d2 (by omega) (by omega) (fun k hk => (p2 k hk).trans (pr1 k)) (fun fc st g => by
      rw [q2 fc st (by rw [runC_eq (d := mI N 86) (fun k _ => pr1 k)]; exact g), stC_num fc st (by omega)]) (f1'.tr f2) (r2.trans r1)
  | none =>
    rw [nm_none hv] at c1
    show ∃ N' d', (if (-1 : Int32) < 0 then _ else _) = _ ∧ _
    rw [if_pos (by decide)]
    have k94 : (ixP1 T l a 0 = none → pBs T l C a = (none, a)) → ∀ N2, TC s T n l a N2 → mI N2 84 7 = nI d → (∀ k, mI N2 86 k = mI N 86 k) → Fr wRu N N2 → mR N2 = mR N → ∃ N' d', f_X7_readThing_94 P 84 1 (bI b) N2 = some (bI (sgP b (pBs T l C a)).1.isSome, N') ∧ TC s T n l (sgP b (pBs T l C a)).2 N' ∧ mI N' 84 7 = nI d' ∧ d ≤ d' ∧ d' + a ≤ d + (if b = true then 1 else 0) + (sgP b (pBs T l C a)).2 ∧ (∀ k, k < d → mI N' 86 k = mI N 86 k) ∧ (∀ v, (sgP b (pBs T l C a)).1 = some v → d < d' ∧ ∀ fc st, runC fc (mI N 86) d = some st → runC fc (mI N' 86) d' = some (v fc :: st)) ∧ Fr wRu N N' ∧ mR N' = mR N := by
      intro hno N2 c2 hd2 pr2 f2 r2
      unfold f_X7_readThing_94 f_X7_readThing_115
      rw [tc_end c2, b2_s]
      by_cases hla : l ≤ a
      · rw [decide_eq_true hla, if_neg (show ¬ bI true = 0 by decide), if_neg (show ¬ (0 : Int32) ≤ -1 by decide)]
        exact bad _ _ _ (hno (if_neg (by omega))) c2 hd2 (Nat.le_refl _) (by omega) (fun k _ => pr2 k) f2 r2
      · have hT := b4' a (by omega)
        rw [decide_eq_false hla, if_pos (show bI false = 0 from rfl), tc_peek c2, b2_s, pk_P (by omega), st_ix hT, b2_s]
        have hix : ixP1 T l a 0 = ixS 0 (T a) := if_pos (by omega)
        cases hi : ixP1 T l a 0 with
        | none =>
          rw [hix] at hi
          rw [hi]
          show ∃ N' d', (if (0 : Int32) ≤ -1 then _ else _) = _ ∧ _
          rw [if_neg (by decide)]
          exact bad _ _ _ (hno (hix.trans hi)) c2 hd2 (Nat.le_refl _) (by omega) (fun k _ => pr2 k) f2 r2
        | some i =>
          have hi8 := (ixP_b (by decide) hi).2
          have hp := pBs_2 (C := C) hv hi
          rw [hix] at hi
          rw [hi]
          have m2 := c2.mv (a' := a + 1) (by omega)
          obtain ⟨N3, e3, c3, d3, p3, q3, f3, r3⟩ := c_emit (N := sI N2 1 4 (nI (a + 1))) m2 (by rw [mI_w, if_neg (by omega)]; exact hd2) (by omega) (-1 - nI i)
          show ∃ N' d', (if (0 : Int32) ≤ nI i then b1 (f_X10_skip 1 N2) (fun M1 => b1 (f_X7_emit 84 (-1 - nI i) M1) _) else _) = _ ∧ _
          rw [if_pos (nI_pos' (by omega)), tc_skip c2 (by omega), b1_s, e3, b1_s]
          exact fin _ _ _ _ hp c3 d3 (by omega) (by omega) (fun k hk => (p3 k hk).trans ((by rw [mI_w, if_neg (by omega)] : mI (sI N2 1 4 (nI (a + 1))) 86 k = mI N2 86 k).trans (pr2 k))) (fun fc st g => by
            rw [q3 fc st (by rw [runC_eq (d := mI N 86) (fun k _ => by rw [mI_w, if_neg (by omega)]; exact pr2 k)]; exact g), stC_fct fc st hi8]) ((f2.tr ((frmv N2 _).mono (fun a k q => by unfold w14 at q; unfold wRu; omega))).tr f3) (r3.trans r2)
    by_cases hez : e = 0
    · rw [if_pos (show (4 : Int32) ≤ nI (4 - e) by rw [hez]; decide)]
      refine k94 (fun hi => ?_) N1 c1 hd1 pr1 f1' r1
      rw [h0 hez]
      exact pBs_3 hv hi
    · obtain ⟨p, hC, hPp⟩ := h1 hez
      obtain ⟨N2, e2, c2, f2, r2⟩ := tc_take c1 (c := 40) (by decide)
      have f2' : Fr wRu N N2 := f1'.tr (f2.mono (fun a k q => by unfold w14 at q; unfold wRu; omega))
      have hd2 : mI N2 84 7 = nI d := (f2.2.2.1 84 7 (by unfold w14; omega)).trans hd1
      have pr2 : ∀ k, mI N2 86 k = mI N 86 k := fun k => (f2.2.2.1 86 k (by unfold w14; omega)).trans (pr1 k)
      rw [if_neg (show ¬ (4 : Int32) ≤ nI (4 - e) from nI_ge (b := 4) (by omega) (by decide)), show (40 : Int32) = nI 40 from rfl, e2, b2_s]
      cases htk : tkB T l a 40 with
      | false =>
        rw [htk] at c2
        rw [if_pos (show bI false = 0 from rfl)]
        refine k94 (fun hi => ?_) N2 c2 hd2 pr2 f2' (r2.trans r1)
        rw [hC]
        exact pBs_5 hv hi htk
      | true =>
        have htk' := of_decide_eq_true htk
        have hi : ixP1 T l a 0 = none := by
          unfold ixP1
          rw [if_pos htk'.1, htk'.2]
          exact ix_40
        rw [htk] at c2
        have c2' : TC s T n l (a + 1) N2 := c2
        obtain ⟨N3, d3, e3, c3, hd3, l3, m3, p3, v3, f3, r3⟩ := hPp (a + 1) (by omega) N2 d c2' hd2 (by omega)
        have e3' : P 84 1 (nI (4 - e) + 1) N2 = some (bI (p (a + 1)).1.isSome, N3) := by rw [nI_1]; exact e3
        rw [if_neg (show ¬ bI true = 0 by decide), e3', b2_s]
        cases hpa : p (a + 1) with
        | mk o a2 =>
          rw [hpa] at c3 m3 v3
          have c3' : TC s T n l a2 N3 := c3
          have m3' : d3 + (a + 1) ≤ d + 0 + a2 := m3
          have f3' : Fr wRu N N3 := f2'.tr f3
          have pr3 : ∀ k, k < d → mI N3 86 k = mI N 86 k := fun k hk => (p3 k hk).trans (pr2 k)
          cases o with
          | none =>
            rw [if_pos (show bI (none : Option Va).isSome = 0 from rfl)]
            exact bad a2 d3 _ (by rw [hC]; exact pBs_6 hv hi htk hpa) c3' hd3 l3 (by omega) pr3 f3' (r3.trans (r2.trans r1))
          | some v =>
            obtain ⟨N4, e4, c4, f4, r4⟩ := tc_take c3' (c := 41) (by decide)
            have f4' : Fr wRu N N4 := f3'.tr (f4.mono (fun a k q => by unfold w14 at q; unfold wRu; omega))
            have hd4 : mI N4 84 7 = nI d3 := (f4.2.2.1 84 7 (by unfold w14; omega)).trans hd3
            have pr4 : ∀ k, mI N4 86 k = mI N3 86 k := fun k => f4.2.2.1 86 k (by unfold w14; omega)
            have hp := pBs_7 hv hi htk hpa
            rw [if_neg (show ¬ bI (some v).isSome = 0 from by show ¬ bI true = 0; decide), show (41 : Int32) = nI 41 from rfl, e4, b2_s]
            cases htk2 : tkB T l a2 41 with
            | false =>
              rw [htk2] at c4 hp
              rw [if_pos (show bI false = 0 from rfl)]
              exact bad a2 d3 _ (by rw [hC, hp]; rfl) c4 hd4 l3 (by omega) (fun k hk => (pr4 k).trans (pr3 k hk)) f4' (r4.trans (r3.trans (r2.trans r1)))
            | true =>
              rw [htk2] at c4 hp
              have v3' := v3 v rfl
              rw [if_neg (show ¬ bI true = 0 by decide)]
              exact fin (a2 + 1) d3 _ v (by rw [hC, hp]; rfl) c4 hd4 v3'.1 (by omega) (fun k hk => (pr4 k).trans (pr3 k hk)) (fun fc st g => by
                rw [runC_eq (d := mI N3 86) (fun k _ => pr4 k)]
                exact v3'.2 fc st (by rw [runC_eq (d := mI N 86) (fun k _ => pr2 k)]; exact g)) f4' (r4.trans (r3.trans (r2.trans r1)))
theorem c_thl {e : Nat} (hl : l ≤ 40) (P : Nat → Nat → Int32 → MM → Option (Int32 × MM)) (B : Nat → Rs) (hB : ∀ b a, a ≤ l → PCs s T n l (if b = true then 1 else 0) (fun N => f_X7_readThing_37 P 84 1 (nI (4 - e)) (bI b) N) (sgP b (B a)) a) : ∀ (f a k fu : Nat) (b : Bool), l < f + a → a ≤ l → k ≤ a → 40 < fu + k → PCs s T n l (if b = true then 1 else 0) (fun N => f_X7_readThing_5 P fu 84 1 (nI (4 - e)) (bI b) (nI k) N) (sgP b (pNd T l B f a)) a
  | 0, a, k, fu, b, h1, h2, h3, h4 => by omega
  | f + 1, a, k, fu, b, h1, h2, h3, h4 => by
    intro N d h hd hda
    have hc1 : (if b = true then 1 else 0) ≤ 1 := by split <;> omega
    have hc2 : (if (!b) = true then 1 else 0) ≤ 1 := by split <;> omega
    cases fu with
    | zero => omega
    | succ fu =>
      show ∃ N' d', f_X7_readThing_5 P (fu + 1) 84 1 (nI (4 - e)) (bI b) (nI k) N = _ ∧ _
      rw [f_X7_readThing_5]
      have base : tkB T l a 45 = false → ∀ N2, TC s T n l a N2 → Fr w14 N N2 → mR N2 = mR N → ∃ N' d', f_X7_readThing_37 P 84 1 (nI (4 - e)) (bI b) N2 = some (bI (sgP b (pNd T l B (f + 1) a)).1.isSome, N') ∧ TC s T n l (sgP b (pNd T l B (f + 1) a)).2 N' ∧ mI N' 84 7 = nI d' ∧ d ≤ d' ∧ d' + a ≤ d + (if b = true then 1 else 0) + (sgP b (pNd T l B (f + 1) a)).2 ∧ (∀ k, k < d → mI N' 86 k = mI N 86 k) ∧ (∀ v, (sgP b (pNd T l B (f + 1) a)).1 = some v → d < d' ∧ ∀ fc st, runC fc (mI N 86) d = some st → runC fc (mI N' 86) d' = some (v fc :: st)) ∧ Fr wRu N N' ∧ mR N' = mR N := by
        intro htk N2 c2 f2 r2
        have ep : pNd T l B (f + 1) a = B a := if_neg (by rw [htk]; decide)
        rw [ep]
        obtain ⟨N3, d3, e3, c3, hd3, l3, m3, p3, v3, f3, r3⟩ := hB b a h2 N2 d c2 ((f2.2.2.1 84 7 (by unfold w14; omega)).trans hd) hda
        have pr2 : ∀ k, mI N2 86 k = mI N 86 k := fun k => f2.2.2.1 86 k (by unfold w14; omega)
        exact ⟨N3, d3, e3, c3, hd3, l3, m3, fun k hk => (p3 k hk).trans (pr2 k), fun v hv => ⟨(v3 v hv).1, fun fc st g => (v3 v hv).2 fc st (by rw [runC_eq (d := mI N 86) (fun k _ => pr2 k)]; exact g)⟩, (f2.mono (fun a k q => by unfold w14 at q; unfold wRu; omega)).tr f3, r3.trans r2⟩
      by_cases h40 : 40 ≤ k
      · rw [if_pos (show (40 : Int32) ≤ nI k from nI_le (a := 40) h40 (by omega))]
        exact base (decide_eq_false (by omega)) N h (Fr.rf N) rfl
      · obtain ⟨N2, e2, c2, f2, r2⟩ := tc_take h (c := 45) (by decide)
        rw [if_neg (show ¬ (40 : Int32) ≤ nI k from nI_ge (b := 40) (by omega) (by decide)), show (45 : Int32) = nI 45 from rfl, e2, b2_s]
        cases htk : tkB T l a 45 with
        | false =>
          rw [htk] at c2
          rw [if_pos (show bI false = 0 from rfl)]
          exact base htk N2 c2 f2 r2
        | true =>
          rw [htk] at c2
          have htk' := of_decide_eq_true htk
          have c2' : TC s T n l (a + 1) N2 := c2
          have ep : sgP b (pNd T l B (f + 1) a) = sgP (!b) (pNd T l B f (a + 1)) := by
            show sgP b (if tkB T l a 45 = true then sgP true (pNd T l B f (a + 1)) else B a) = _
            rw [if_pos htk, sgP_t]
          obtain ⟨N3, d3, e3, c3, hd3, l3, m3, p3, v3, f3, r3⟩ := c_thl hl P B hB f (a + 1) (k + 1) fu (!b) (by omega) (by omega) (by omega) (by omega) N2 d c2' ((f2.2.2.1 84 7 (by unfold w14; omega)).trans hd) (by omega)
          have pr2 : ∀ k, mI N2 86 k = mI N 86 k := fun k => f2.2.2.1 86 k (by unfold w14; omega)
          have e3' : (if bI b = 0 then f_X7_readThing_30 P (f_X7_readThing_5 P fu) 84 1 (nI (4 - e)) (nI k) 1 N2 else f_X7_readThing_30 P (f_X7_readThing_5 P fu) 84 1 (nI (4 - e)) (nI k) 0 N2) = some (bI (sgP (!b) (pNd T l B f (a + 1))).1.isSome, N3) := by
            unfold f_X7_readThing_30
            cases b with
            | false => rw [if_pos (show bI false = 0 from rfl), bn_s, nI_1]; exact e3
            | true => rw [if_neg (show ¬ bI true = 0 by decide), bn_s, nI_1]; exact e3
          rw [if_neg (show ¬ bI true = 0 by decide), e3', ep]
          exact ⟨N3, d3, rfl, c3, hd3, l3, by omega, fun k hk => (p3 k hk).trans (pr2 k), fun v hv => ⟨(v3 v hv).1, fun fc st g => (v3 v hv).2 fc st (by rw [runC_eq (d := mI N 86) (fun k _ => pr2 k)]; exact g)⟩, (f2.mono (fun a k q => by unfold w14 at q; unfold wRu; omega)).tr f3, r3.trans r2⟩
theorem c_thg {e : Nat} (he : e ≤ 4) (hl : l ≤ 40) (P : Nat → Nat → Int32 → MM → Option (Int32 × MM)) (C : Option (Nat → Rs)) (h0 : e = 0 → C = none) (h1 : e ≠ 0 → ∃ p, C = some p ∧ ∀ a, a ≤ l → PCs s T n l 0 (fun N => P 84 1 (nI (4 - e + 1)) N) (p a) a) (a : Nat) (ha : a ≤ l) : PCs s T n l 0 (fun N => f_X7_readThing P 84 1 (nI (4 - e)) N) (pNd T l (pBs T l C) 81 a) a := by
  intro N d h hd hda
  have := c_thl hl P (pBs T l C) (fun b a _ => c_37 he hl P C h0 h1 b a) 81 a 0 1024 false (by omega) ha (by omega) (by omega) N d h hd hda
  rw [sgP_f] at this
  obtain ⟨N', d', e1, r⟩ := this
  refine ⟨N', d', ?_, r⟩
  show f_X7_readThing P 84 1 (nI (4 - e)) N = _
  unfold f_X7_readThing f_X7_readThing_0
  rw [if_pos (O84 h.1.1)]
  rw [show (0 : Int32) = nI 0 from rfl]
  exact e1
theorem c_lp2 (hl : l ≤ 40) (P : Nat → Nat → Int32 → MM → Option (Int32 × MM)) (x : Int32) (E : Nat → Rs) (hE : ∀ a, a ≤ l → PCs s T n l 0 (fun N => P 84 1 x N) (E a) a) : ∀ (f a k fu : Nat) (v : Va) (N : MM) (d : Nat), l < f + a → a ≤ l → k ≤ a → 40 < fu + k → TC s T n l a N → mI N 84 7 = nI d → d ≤ a → ∃ N' d', f_X7_readProduct_13 P fu 84 1 x (nI k) N = some (bI (pLp T l 2 E f v a).1.isSome, N') ∧ TC s T n l (pLp T l 2 E f v a).2 N' ∧ mI N' 84 7 = nI d' ∧ d ≤ d' ∧ d' + a ≤ d + (pLp T l 2 E f v a).2 ∧ (∀ k, k < d → mI N' 86 k = mI N 86 k) ∧ (∀ w, (pLp T l 2 E f v a).1 = some w → ∀ fc st, runC fc (mI N 86) d = some (v fc :: st) → runC fc (mI N' 86) d' = some (w fc :: st)) ∧ Fr wRu N N' ∧ mR N' = mR N
  | 0, a, k, fu, v, N, d, h1, h2, h3, h4, h, hd, hda => by omega
  | f + 1, a, k, fu, v, N, d, h1, h2, h3, h4, h, hd, hda => by
    obtain ⟨b1', b2', b3', b4'⟩ := h.2.2.2.2.2
    cases fu with
    | zero => omega
    | succ fu =>
      have stop : opA T l 2 a = none → ∃ N' d', rz 1 N = some (bI (pLp T l 2 E (f + 1) v a).1.isSome, N') ∧ TC s T n l (pLp T l 2 E (f + 1) v a).2 N' ∧ mI N' 84 7 = nI d' ∧ d ≤ d' ∧ d' + a ≤ d + (pLp T l 2 E (f + 1) v a).2 ∧ (∀ k, k < d → mI N' 86 k = mI N 86 k) ∧ (∀ w, (pLp T l 2 E (f + 1) v a).1 = some w → ∀ fc st, runC fc (mI N 86) d = some (v fc :: st) → runC fc (mI N' 86) d' = some (w fc :: st)) ∧ Fr wRu N N' ∧ mR N' = mR N := by
        intro ho
        rw [pLp_n ho]
        exact ⟨N, d, rz1 N, h, hd, Nat.le_refl _, Nat.le_refl _, fun _ _ => rfl, (fun w hw fc st g => by have hw : some v = some w := hw; cases hw; exact g), Fr.rf N, rfl⟩
      rw [f_X7_readProduct_13]
      by_cases h40 : 40 ≤ k
      · rw [if_pos (show (40 : Int32) ≤ nI k from nI_le (a := 40) h40 (by omega))]
        exact stop (if_neg (by omega))
      · rw [if_neg (show ¬ (40 : Int32) ≤ nI k from nI_ge (b := 40) (by omega) (by decide)), tc_peek h, b2_s]
        by_cases hla : a < l
        · have hT := b4' a hla
          rw [pk_P hla]
          have ho : opA T l 2 a = if T a = 42 then some 5 else if T a = 47 then some 6 else none := (if_pos hla).trans (op_2 (T a) hT)
          have go : ∀ k', opA T l 2 a = some k' → ∃ N' d', f_X7_readProduct_41 P (f_X7_readProduct_13 P fu) 84 1 x (nI k) (nI (T a)) N = some (bI (pLp T l 2 E (f + 1) v a).1.isSome, N') ∧ TC s T n l (pLp T l 2 E (f + 1) v a).2 N' ∧ mI N' 84 7 = nI d' ∧ d ≤ d' ∧ d' + a ≤ d + (pLp T l 2 E (f + 1) v a).2 ∧ (∀ k, k < d → mI N' 86 k = mI N 86 k) ∧ (∀ w, (pLp T l 2 E (f + 1) v a).1 = some w → ∀ fc st, runC fc (mI N 86) d = some (v fc :: st) → runC fc (mI N' 86) d' = some (w fc :: st)) ∧ Fr wRu N N' ∧ mR N' = mR N := by
            intro k' ho'
            have m1 := h.mv (a' := a + 1) (by omega)
            have f1 : Fr wRu N (sI N 1 4 (nI (a + 1))) := (frmv N _).mono (fun a k q => by unfold w14 at q; unfold wRu; omega)
            have pr1 : ∀ k, mI (sI N 1 4 (nI (a + 1))) 86 k = mI N 86 k := fun k => by rw [mI_w, if_neg (by omega)]
            obtain ⟨N2, d2, e2, c2, hd2, l2, m2, p2, v2, f2, r2⟩ := hE (a + 1) (by omega) _ d m1 (by rw [mI_w, if_neg (by omega)]; exact hd) (by omega)
            have e2 : P 84 1 x (sI N 1 4 (nI (a + 1))) = some (bI (E (a + 1)).1.isSome, N2) := e2
            unfold f_X7_readProduct_41
            rw [tc_skip h hla, b1_s, e2, b2_s]
            cases hea : E (a + 1) with
            | mk o a2 =>
              rw [hea] at c2 m2 v2
              have c2' : TC s T n l a2 N2 := c2
              have m2' : d2 + (a + 1) ≤ d + 0 + a2 := m2
              have hq := c2'.2.2.2.2.2.2.2.1
              have pr2 : ∀ k, k < d → mI N2 86 k = mI N 86 k := fun k hk => (p2 k hk).trans (pr1 k)
              cases o with
              | none =>
                rw [if_pos (show bI (none : Option Va).isSome = 0 from rfl), pLp_f ho' hea]
                refine ⟨N2, d2, rz0 N2, c2', hd2, l2, ?_, pr2, (fun w hw => by have hw : (none : Option Va) = some w := hw; cases hw), f1.tr f2, r2⟩
                show d2 + a ≤ d + a2
                omega
              | some u =>
                have v2' := v2 u rfl
                obtain ⟨N3, e3, c3, hd3, p3, q3, f3, r3⟩ := c_emit c2' hd2 (by omega) (-100 - nI (T a))
                obtain ⟨N4, d4, e4, c4, hd4, l4, m4, p4, v4, f4, r4⟩ := c_lp2 hl P x E hE f a2 (k + 1) fu (fun fc => wrk k' (v fc) (u fc)) N3 (d2 + 1) (by omega) hq (by omega) (by omega) c3 hd3 (by omega)
                rw [if_neg (show ¬ bI (some u).isSome = 0 from by show ¬ bI true = 0; decide), pLp_t ho' hea]
                unfold f_X7_operator f_X7_operator_0
                rw [b2_s, e3, b1_s, bn_s, nI_1, e4]
                refine ⟨N4, d4, rfl, c4, hd4, by omega, by omega, fun k hk => (p4 k (by omega)).trans ((p3 k (by omega)).trans (pr2 k hk)), fun w hw fc st g => ?_, ((f1.tr f2).tr f3).tr f4, r4.trans (r3.trans r2)⟩
                refine v4 w hw fc st ?_
                rw [q3 fc _ (v2'.2 fc _ (by rw [runC_eq (d := mI N 86) (fun k _ => pr1 k)]; exact g)), stC_op (r := 2) fc _ (by decide) hT (by rw [← ho']; exact (if_pos hla).symm)]
                rfl
          by_cases g1 : T a = 42
          · rw [if_pos (show nI (T a) = 42 by rw [g1]; rfl)]
            exact go 5 (by rw [ho, if_pos g1])
          · rw [if_neg (show ¬ nI (T a) = 42 by rw [show (42 : Int32) = nI 42 from rfl, nI_eq (by omega) (by omega)]; exact g1)]
            by_cases g2 : T a = 47
            · rw [if_pos (show nI (T a) = 47 by rw [g2]; rfl)]
              exact go 6 (by rw [ho, if_neg g1, if_pos g2])
            · rw [if_neg (show ¬ nI (T a) = 47 by rw [show (47 : Int32) = nI 47 from rfl, nI_eq (by omega) (by omega)]; exact g2)]
              exact stop (by rw [ho, if_neg g1, if_neg g2])
        · have ep : pkI T l a = -1 := if_neg hla
          rw [ep, if_neg (by decide), if_neg (by decide)]
          exact stop (if_neg hla)
theorem c_ch2 (hl : l ≤ 40) (P : Nat → Nat → Int32 → MM → Option (Int32 × MM)) (x : Int32) (E : Nat → Rs) (hE : ∀ a, a ≤ l → PCs s T n l 0 (fun N => f_X7_readThing P 84 1 x N) (E a) a) (a : Nat) (ha : a ≤ l) : PCs s T n l 0 (fun N => f_X7_readProduct P 84 1 x N) (pCh T l 2 81 E a) a := by
  intro N d h hd hda
  obtain ⟨N1, d1, e1, c1, hd1, l1, m1, p1, v1, f1, r1⟩ := hE a ha N d h hd hda
  have e1 : f_X7_readThing P 84 1 x N = some (bI (E a).1.isSome, N1) := e1
  show ∃ N' d', f_X7_readProduct P 84 1 x N = _ ∧ _
  unfold f_X7_readProduct f_X7_readProduct_0
  rw [if_pos (O84 h.1.1), e1, b2_s]
  cases hea : E a with
  | mk o a1 =>
    rw [hea] at c1 m1 v1
    have c1' : TC s T n l a1 N1 := c1
    have m1' : d1 + a ≤ d + 0 + a1 := m1
    cases o with
    | none =>
      rw [if_pos (show bI (none : Option Va).isSome = 0 from rfl), pCh_f hea]
      exact ⟨N1, d1, rz0 N1, c1', hd1, l1, m1', p1, (fun w hw => by have hw : (none : Option Va) = some w := hw; cases hw), f1, r1⟩
    | some v =>
      have v1' := v1 v rfl
      have hq := c1'.2.2.2.2.2.2.2.1
      obtain ⟨N2, d2, e2, c2, hd2, l2, m2, p2, v2, f2, r2⟩ := c_lp2 hl (f_X7_readThing P) x E hE 81 a1 0 1024 v N1 d1 (by omega) hq (by omega) (by omega) c1' hd1 (by omega)
      rw [nI_0] at e2
      rw [if_neg (show ¬ bI (some v).isSome = 0 from by show ¬ bI true = 0; decide), pCh_t hea, e2]
      exact ⟨N2, d2, rfl, c2, hd2, by omega, by omega, fun k hk => (p2 k (by omega)).trans (p1 k hk), fun w hw => ⟨by omega, fun fc st g => v2 w hw fc st (v1'.2 fc st g)⟩, f1.tr f2, r2.trans r1⟩
theorem c_lp1 (hl : l ≤ 40) (P : Nat → Nat → Int32 → MM → Option (Int32 × MM)) (x : Int32) (E : Nat → Rs) (hE : ∀ a, a ≤ l → PCs s T n l 0 (fun N => P 84 1 x N) (E a) a) : ∀ (f a k fu : Nat) (v : Va) (N : MM) (d : Nat), l < f + a → a ≤ l → k ≤ a → 40 < fu + k → TC s T n l a N → mI N 84 7 = nI d → d ≤ a → ∃ N' d', f_X7_readSum_13 P fu 84 1 x (nI k) N = some (bI (pLp T l 1 E f v a).1.isSome, N') ∧ TC s T n l (pLp T l 1 E f v a).2 N' ∧ mI N' 84 7 = nI d' ∧ d ≤ d' ∧ d' + a ≤ d + (pLp T l 1 E f v a).2 ∧ (∀ k, k < d → mI N' 86 k = mI N 86 k) ∧ (∀ w, (pLp T l 1 E f v a).1 = some w → ∀ fc st, runC fc (mI N 86) d = some (v fc :: st) → runC fc (mI N' 86) d' = some (w fc :: st)) ∧ Fr wRu N N' ∧ mR N' = mR N
  | 0, a, k, fu, v, N, d, h1, h2, h3, h4, h, hd, hda => by omega
  | f + 1, a, k, fu, v, N, d, h1, h2, h3, h4, h, hd, hda => by
    obtain ⟨b1', b2', b3', b4'⟩ := h.2.2.2.2.2
    cases fu with
    | zero => omega
    | succ fu =>
      have stop : opA T l 1 a = none → ∃ N' d', rz 1 N = some (bI (pLp T l 1 E (f + 1) v a).1.isSome, N') ∧ TC s T n l (pLp T l 1 E (f + 1) v a).2 N' ∧ mI N' 84 7 = nI d' ∧ d ≤ d' ∧ d' + a ≤ d + (pLp T l 1 E (f + 1) v a).2 ∧ (∀ k, k < d → mI N' 86 k = mI N 86 k) ∧ (∀ w, (pLp T l 1 E (f + 1) v a).1 = some w → ∀ fc st, runC fc (mI N 86) d = some (v fc :: st) → runC fc (mI N' 86) d' = some (w fc :: st)) ∧ Fr wRu N N' ∧ mR N' = mR N := by
        intro ho
        rw [pLp_n ho]
        exact ⟨N, d, rz1 N, h, hd, Nat.le_refl _, Nat.le_refl _, fun _ _ => rfl, (fun w hw fc st g => by have hw : some v = some w := hw; cases hw; exact g), Fr.rf N, rfl⟩
      rw [f_X7_readSum_13]
      by_cases h40 : 40 ≤ k
      · rw [if_pos (show (40 : Int32) ≤ nI k from nI_le (a := 40) h40 (by omega))]
        exact stop (if_neg (by omega))
      · rw [if_neg (show ¬ (40 : Int32) ≤ nI k from nI_ge (b := 40) (by omega) (by decide)), tc_peek h, b2_s]
        by_cases hla : a < l
        · have hT := b4' a hla
          rw [pk_P hla]
          have ho : opA T l 1 a = if T a = 43 then some 3 else if T a = 45 then some 4 else none := (if_pos hla).trans (op_1 (T a) hT)
          have go : ∀ k', opA T l 1 a = some k' → ∃ N' d', f_X7_readSum_41 P (f_X7_readSum_13 P fu) 84 1 x (nI k) (nI (T a)) N = some (bI (pLp T l 1 E (f + 1) v a).1.isSome, N') ∧ TC s T n l (pLp T l 1 E (f + 1) v a).2 N' ∧ mI N' 84 7 = nI d' ∧ d ≤ d' ∧ d' + a ≤ d + (pLp T l 1 E (f + 1) v a).2 ∧ (∀ k, k < d → mI N' 86 k = mI N 86 k) ∧ (∀ w, (pLp T l 1 E (f + 1) v a).1 = some w → ∀ fc st, runC fc (mI N 86) d = some (v fc :: st) → runC fc (mI N' 86) d' = some (w fc :: st)) ∧ Fr wRu N N' ∧ mR N' = mR N := by
            intro k' ho'
            have m1 := h.mv (a' := a + 1) (by omega)
            have f1 : Fr wRu N (sI N 1 4 (nI (a + 1))) := (frmv N _).mono (fun a k q => by unfold w14 at q; unfold wRu; omega)
            have pr1 : ∀ k, mI (sI N 1 4 (nI (a + 1))) 86 k = mI N 86 k := fun k => by rw [mI_w, if_neg (by omega)]
            obtain ⟨N2, d2, e2, c2, hd2, l2, m2, p2, v2, f2, r2⟩ := hE (a + 1) (by omega) _ d m1 (by rw [mI_w, if_neg (by omega)]; exact hd) (by omega)
            have e2 : P 84 1 x (sI N 1 4 (nI (a + 1))) = some (bI (E (a + 1)).1.isSome, N2) := e2
            unfold f_X7_readSum_41
            rw [tc_skip h hla, b1_s, e2, b2_s]
            cases hea : E (a + 1) with
            | mk o a2 =>
              rw [hea] at c2 m2 v2
              have c2' : TC s T n l a2 N2 := c2
              have m2' : d2 + (a + 1) ≤ d + 0 + a2 := m2
              have hq := c2'.2.2.2.2.2.2.2.1
              have pr2 : ∀ k, k < d → mI N2 86 k = mI N 86 k := fun k hk => (p2 k hk).trans (pr1 k)
              cases o with
              | none =>
                rw [if_pos (show bI (none : Option Va).isSome = 0 from rfl), pLp_f ho' hea]
                refine ⟨N2, d2, rz0 N2, c2', hd2, l2, ?_, pr2, (fun w hw => by have hw : (none : Option Va) = some w := hw; cases hw), f1.tr f2, r2⟩
                show d2 + a ≤ d + a2
                omega
              | some u =>
                have v2' := v2 u rfl
                obtain ⟨N3, e3, c3, hd3, p3, q3, f3, r3⟩ := c_emit c2' hd2 (by omega) (-100 - nI (T a))
                obtain ⟨N4, d4, e4, c4, hd4, l4, m4, p4, v4, f4, r4⟩ := c_lp1 hl P x E hE f a2 (k + 1) fu (fun fc => wrk k' (v fc) (u fc)) N3 (d2 + 1) (by omega) hq (by omega) (by omega) c3 hd3 (by omega)
                rw [if_neg (show ¬ bI (some u).isSome = 0 from by show ¬ bI true = 0; decide), pLp_t ho' hea]
                unfold f_X7_operator f_X7_operator_0
                rw [b2_s, e3, b1_s, bn_s, nI_1, e4]
                refine ⟨N4, d4, rfl, c4, hd4, by omega, by omega, fun k hk => (p4 k (by omega)).trans ((p3 k (by omega)).trans (pr2 k hk)), fun w hw fc st g => ?_, ((f1.tr f2).tr f3).tr f4, r4.trans (r3.trans r2)⟩
                refine v4 w hw fc st ?_
                rw [q3 fc _ (v2'.2 fc _ (by rw [runC_eq (d := mI N 86) (fun k _ => pr1 k)]; exact g)), stC_op (r := 1) fc _ (by decide) hT (by rw [← ho']; exact (if_pos hla).symm)]
                rfl
          by_cases g1 : T a = 43
          · rw [if_pos (show nI (T a) = 43 by rw [g1]; rfl)]
            exact go 3 (by rw [ho, if_pos g1])
          · rw [if_neg (show ¬ nI (T a) = 43 by rw [show (43 : Int32) = nI 43 from rfl, nI_eq (by omega) (by omega)]; exact g1)]
            by_cases g2 : T a = 45
            · rw [if_pos (show nI (T a) = 45 by rw [g2]; rfl)]
              exact go 4 (by rw [ho, if_neg g1, if_pos g2])
            · rw [if_neg (show ¬ nI (T a) = 45 by rw [show (45 : Int32) = nI 45 from rfl, nI_eq (by omega) (by omega)]; exact g2)]
              exact stop (by rw [ho, if_neg g1, if_neg g2])
        · have ep : pkI T l a = -1 := if_neg hla
          rw [ep, if_neg (by decide), if_neg (by decide)]
          exact stop (if_neg hla)
theorem c_ch1 (hl : l ≤ 40) (P : Nat → Nat → Int32 → MM → Option (Int32 × MM)) (x : Int32) (E : Nat → Rs) (hE : ∀ a, a ≤ l → PCs s T n l 0 (fun N => f_X7_readProduct P 84 1 x N) (E a) a) (a : Nat) (ha : a ≤ l) : PCs s T n l 0 (fun N => f_X7_readSum P 84 1 x N) (pCh T l 1 81 E a) a := by
  intro N d h hd hda
  obtain ⟨N1, d1, e1, c1, hd1, l1, m1, p1, v1, f1, r1⟩ := hE a ha N d h hd hda
  have e1 : f_X7_readProduct P 84 1 x N = some (bI (E a).1.isSome, N1) := e1
  show ∃ N' d', f_X7_readSum P 84 1 x N = _ ∧ _
  unfold f_X7_readSum f_X7_readSum_0
  rw [if_pos (O84 h.1.1), e1, b2_s]
  cases hea : E a with
  | mk o a1 =>
    rw [hea] at c1 m1 v1
    have c1' : TC s T n l a1 N1 := c1
    have m1' : d1 + a ≤ d + 0 + a1 := m1
    cases o with
    | none =>
      rw [if_pos (show bI (none : Option Va).isSome = 0 from rfl), pCh_f hea]
      exact ⟨N1, d1, rz0 N1, c1', hd1, l1, m1', p1, (fun w hw => by have hw : (none : Option Va) = some w := hw; cases hw), f1, r1⟩
    | some v =>
      have v1' := v1 v rfl
      have hq := c1'.2.2.2.2.2.2.2.1
      obtain ⟨N2, d2, e2, c2, hd2, l2, m2, p2, v2, f2, r2⟩ := c_lp1 hl (f_X7_readProduct P) x E hE 81 a1 0 1024 v N1 d1 (by omega) hq (by omega) (by omega) c1' hd1 (by omega)
      rw [nI_0] at e2
      rw [if_neg (show ¬ bI (some v).isSome = 0 from by show ¬ bI true = 0; decide), pCh_t hea, e2]
      exact ⟨N2, d2, rfl, c2, hd2, by omega, by omega, fun k hk => (p2 k (by omega)).trans (p1 k hk), fun w hw => ⟨by omega, fun fc st g => v2 w hw fc st (v1'.2 fc st g)⟩, f1.tr f2, r2.trans r1⟩
theorem c_cmp (hl : l ≤ 40) (P : Nat → Nat → Int32 → MM → Option (Int32 × MM)) (x : Int32) (E : Nat → Rs) (hE : ∀ a, a ≤ l → PCs s T n l 0 (fun N => P 84 1 x N) (E a) a) (a : Nat) (ha : a ≤ l) : PCs s T n l 0 (fun N => f_X7_readComparison_0 P 84 1 x N) (pCh T l 0 1 E a) a := by
  intro N d h hd hda
  obtain ⟨N1, d1, e1, c1, hd1, l1, m1, p1, v1, f1, r1⟩ := hE a ha N d h hd hda
  have e1 : P 84 1 x N = some (bI (E a).1.isSome, N1) := e1
  show ∃ N' d', f_X7_readComparison_0 P 84 1 x N = _ ∧ _
  unfold f_X7_readComparison_0
  rw [e1, b2_s]
  cases hea : E a with
  | mk o a1 =>
    rw [hea] at c1 m1 v1
    have c1' : TC s T n l a1 N1 := c1
    have m1' : d1 + a ≤ d + 0 + a1 := m1
    cases o with
    | none =>
      rw [if_pos (show bI (none : Option Va).isSome = 0 from rfl), pCh_f hea]
      exact ⟨N1, d1, rz0 N1, c1', hd1, l1, m1', p1, (fun w hw => by have hw : (none : Option Va) = some w := hw; cases hw), f1, r1⟩
    | some v =>
      have v1' := v1 v rfl
      obtain ⟨b1', b2', b3', b4'⟩ := c1'.2.2.2.2.2
      rw [if_neg (show ¬ bI (some v).isSome = 0 from by show ¬ bI true = 0; decide), pCh_t hea, tc_peek c1', b2_s]
      have stop : opA T l 0 a1 = none → ∃ N' d', rz 1 N1 = some (bI (pLp T l 0 E 1 v a1).1.isSome, N') ∧ TC s T n l (pLp T l 0 E 1 v a1).2 N' ∧ mI N' 84 7 = nI d' ∧ d ≤ d' ∧ d' + a ≤ d + 0 + (pLp T l 0 E 1 v a1).2 ∧ (∀ k, k < d → mI N' 86 k = mI N 86 k) ∧ (∀ w, (pLp T l 0 E 1 v a1).1 = some w → d < d' ∧ ∀ fc st, runC fc (mI N 86) d = some st → runC fc (mI N' 86) d' = some (w fc :: st)) ∧ Fr wRu N N' ∧ mR N' = mR N := by
        intro ho
        rw [pLp_n ho]
        exact ⟨N1, d1, rz1 N1, c1', hd1, l1, m1', p1, (fun w hw => by have hw : some v = some w := hw; cases hw; exact v1'), f1, r1⟩
      by_cases hla : a1 < l
      · have hT := b4' a1 hla
        rw [pk_P hla]
        have ho : opA T l 0 a1 = if T a1 = 60 then some 0 else if T a1 = 62 then some 1 else if T a1 = 61 then some 2 else none := (if_pos hla).trans (op_0 (T a1) hT)
        have go : ∀ k', opA T l 0 a1 = some k' → ∃ N' d', f_X7_readComparison_36 P 84 1 x (nI (T a1)) N1 = some (bI (pLp T l 0 E 1 v a1).1.isSome, N') ∧ TC s T n l (pLp T l 0 E 1 v a1).2 N' ∧ mI N' 84 7 = nI d' ∧ d ≤ d' ∧ d' + a ≤ d + 0 + (pLp T l 0 E 1 v a1).2 ∧ (∀ k, k < d → mI N' 86 k = mI N 86 k) ∧ (∀ w, (pLp T l 0 E 1 v a1).1 = some w → d < d' ∧ ∀ fc st, runC fc (mI N 86) d = some st → runC fc (mI N' 86) d' = some (w fc :: st)) ∧ Fr wRu N N' ∧ mR N' = mR N := by
          intro k' ho'
          have n1 := c1'.mv (a' := a1 + 1) (by omega)
          have g1 : Fr wRu N1 (sI N1 1 4 (nI (a1 + 1))) := (frmv N1 _).mono (fun a k q => by unfold w14 at q; unfold wRu; omega)
          have pr1 : ∀ k, mI (sI N1 1 4 (nI (a1 + 1))) 86 k = mI N1 86 k := fun k => by rw [mI_w, if_neg (by omega)]
          obtain ⟨N2, d2, e2, c2, hd2, l2, m2, p2, v2, f2, r2⟩ := hE (a1 + 1) (by omega) _ d1 n1 (by rw [mI_w, if_neg (by omega)]; exact hd1) (by omega)
          have e2 : P 84 1 x (sI N1 1 4 (nI (a1 + 1))) = some (bI (E (a1 + 1)).1.isSome, N2) := e2
          unfold f_X7_readComparison_36
          rw [tc_skip c1' hla, b1_s, e2, b2_s]
          cases hea2 : E (a1 + 1) with
          | mk o a2 =>
            rw [hea2] at c2 m2 v2
            have c2' : TC s T n l a2 N2 := c2
            have m2' : d2 + (a1 + 1) ≤ d1 + 0 + a2 := m2
            have hq := c2'.2.2.2.2.2.2.2.1
            have pr2 : ∀ k, k < d → mI N2 86 k = mI N 86 k := fun k hk => (p2 k (by omega)).trans ((pr1 k).trans (p1 k hk))
            cases o with
            | none =>
              rw [if_pos (show bI (none : Option Va).isSome = 0 from rfl), pLp_f ho' hea2]
              refine ⟨N2, d2, rz0 N2, c2', hd2, by omega, ?_, pr2, (fun w hw => by have hw : (none : Option Va) = some w := hw; cases hw), (f1.tr g1).tr f2, r2.trans r1⟩
              show d2 + a ≤ d + 0 + a2
              omega
            | some u =>
              have v2' := v2 u rfl
              obtain ⟨N3, e3, c3, hd3, p3, q3, f3, r3⟩ := c_emit c2' hd2 (by omega) (-100 - nI (T a1))
              have ep : pLp T l 0 E 1 v a1 = (some (fun fc => wrk k' (v fc) (u fc)), a2) := (pLp_t ho' hea2).trans rfl
              rw [if_neg (show ¬ bI (some u).isSome = 0 from by show ¬ bI true = 0; decide), ep]
              unfold f_X7_operator f_X7_operator_0
              rw [b2_s, e3, b1_s]
              refine ⟨N3, d2 + 1, rz1 N3, c3, hd3, by omega, ?_, fun k hk => (p3 k (by omega)).trans (pr2 k hk), fun w hw => ⟨by omega, fun fc st g => ?_⟩, ((f1.tr g1).tr f2).tr f3, r3.trans (r2.trans r1)⟩
              · show d2 + 1 + a ≤ d + 0 + a2
                omega
              · have hw : some (fun fc => wrk k' (v fc) (u fc)) = some w := hw
                cases hw
                rw [q3 fc _ (v2'.2 fc _ (by rw [runC_eq (d := mI N1 86) (fun k _ => pr1 k)]; exact v1'.2 fc st g)), stC_op (r := 0) fc _ (by decide) hT (by rw [← ho']; exact (if_pos hla).symm)]
                rfl
        by_cases g1 : T a1 = 60
        · rw [if_pos (show nI (T a1) = 60 by rw [g1]; rfl)]
          exact go 0 (by rw [ho, if_pos g1])
        · rw [if_neg (show ¬ nI (T a1) = 60 by rw [show (60 : Int32) = nI 60 from rfl, nI_eq (by omega) (by omega)]; exact g1)]
          by_cases g2 : T a1 = 62
          · rw [if_pos (show nI (T a1) = 62 by rw [g2]; rfl)]
            exact go 1 (by rw [ho, if_neg g1, if_pos g2])
          · rw [if_neg (show ¬ nI (T a1) = 62 by rw [show (62 : Int32) = nI 62 from rfl, nI_eq (by omega) (by omega)]; exact g2)]
            by_cases g3 : T a1 = 61
            · rw [if_pos (show nI (T a1) = 61 by rw [g3]; rfl)]
              exact go 2 (by rw [ho, if_neg g1, if_neg g2, if_pos g3])
            · rw [if_neg (show ¬ nI (T a1) = 61 by rw [show (61 : Int32) = nI 61 from rfl, nI_eq (by omega) (by omega)]; exact g3)]
              exact stop (by rw [ho, if_neg g1, if_neg g2, if_neg g3])
      · have ep : pkI T l a1 = -1 := if_neg hla
        rw [ep, if_neg (by decide), if_neg (by decide), if_neg (by decide)]
        exact stop (if_neg hla)
theorem c_rule (hl : l ≤ 40) : ∀ (e fu a : Nat), e ≤ 4 → e < fu → a ≤ l → PCs s T n l 0 (fun N => f_X7_readComparison fu 84 1 (nI (4 - e)) N) (pCm T l e a) a := by
  intro e
  induction e with
  | zero =>
    intro fu a he hf ha
    cases fu with
    | zero => omega
    | succ fu =>
      intro N d h hd hda
      have k := c_cmp hl (f_X7_readSum (f_X7_readComparison fu)) (nI (4 - 0)) _ (fun a ha => c_ch1 hl (f_X7_readComparison fu) (nI (4 - 0)) _ (fun a ha => c_ch2 hl (f_X7_readComparison fu) (nI (4 - 0)) _ (fun a ha => c_thg (s := s) (T := T) (n := n) (e := 0) he hl (f_X7_readComparison fu) none (fun _ => rfl) (fun g => absurd rfl g) a ha) a ha) a ha) a ha N d h hd hda
      obtain ⟨N', d', e1, r⟩ := k
      refine ⟨N', d', ?_, r⟩
      show f_X7_readComparison (fu + 1) 84 1 (nI (4 - 0)) N = _
      rw [f_X7_readComparison, if_pos (O84 h.1.1)]
      exact e1
  | succ e ih =>
    intro fu a he hf ha
    cases fu with
    | zero => omega
    | succ fu =>
      intro N d h hd hda
      have k := c_cmp hl (f_X7_readSum (f_X7_readComparison fu)) (nI (4 - (e + 1))) _ (fun a ha => c_ch1 hl (f_X7_readComparison fu) (nI (4 - (e + 1))) _ (fun a ha => c_ch2 hl (f_X7_readComparison fu) (nI (4 - (e + 1))) _ (fun a ha => c_thg (s := s) (T := T) (n := n) (e := e + 1) he hl (f_X7_readComparison fu) (some (pCm T l e)) (fun g => by omega) (fun g => ⟨_, rfl, fun a ha => by rw [show 4 - (e + 1) + 1 = 4 - e by omega]; exact ih fu a (by omega) (by omega) ha⟩) a ha) a ha) a ha) a ha N d h hd hda
      obtain ⟨N', d', e1, r⟩ := k
      refine ⟨N', d', ?_, r⟩
      show f_X7_readComparison (fu + 1) 84 1 (nI (4 - (e + 1))) N = _
      rw [f_X7_readComparison, if_pos (O84 h.1.1)]
      exact e1
end RUC

/-! THE MEMORY'S ROWS -/
theorem mI_sI_ne {M : MM} {a b k : Nat} {v : Int32} (h : b ≠ a) : mI (sI M a k v) b = mI M b := by
  funext j
  show up2 M.2.2.1 a k v b j = M.2.2.1 b j
  unfold up2
  rw [if_neg (fun z => h z.1)]
theorem mL_sL_ne {M : MM} {a b k : Nat} {v : Int64} (h : b ≠ a) : mL (sL M a k v) b = mL M b := by
  funext j
  show up2 M.2.2.2.1 a k v b j = M.2.2.2.1 b j
  unfold up2
  rw [if_neg (fun z => h z.1)]
theorem mR_sR_ne {M : MM} {a b k : Nat} {v : Option Nat} (h : b ≠ a) : mR (sR M a k v) b = mR M b := by
  funext j
  show up2 M.2.2.2.2 a k v b j = M.2.2.2.2 b j
  unfold up2
  rw [if_neg (fun z => h z.1)]
theorem mI_sI {M : MM} {a k : Nat} {v : Int32} : mI (sI M a k v) a = upd (mI M a) k v := by
  funext j
  show up2 M.2.2.1 a k v a j = upd (M.2.2.1 a) k v j
  unfold up2 upd
  simp
theorem mL_sL {M : MM} {a k : Nat} {v : Int64} : mL (sL M a k v) a = vp_updL (mL M a) k v := by
  funext j
  show up2 M.2.2.2.1 a k v a j = vp_updL (M.2.2.2.1 a) k v j
  unfold up2 vp_updL
  simp
theorem mR_sR {M : MM} {a k : Nat} {v : Option Nat} : mR (sR M a k v) a = va_up (mR M a) k v := by
  funext j
  show up2 M.2.2.2.2 a k v a j = va_up (M.2.2.2.2 a) k v j
  unfold up2 va_up
  simp
theorem cE_congr {cy : Nat → ClassId} {ad : Nat → Nat} {M M' : MM} {b : Nat} (h1 : mS M' b = mS M b) (h2 : mI M' b = mI M b) (h3 : mL M' b = mL M b) (h4 : mR M' b = mR M b) : cE cy ad M' b = cE cy ad M b := by
  unfold cE oFs
  rw [h1, h2, h3, h4]
theorem cE_obj {cy : Nat → ClassId} {ad : Nat → Nat} {M : MM} {a ci : Nat} (h : (mS M a).1 = ci) (hc : ci < 20) : cE cy ad M a = .inr (ci, oFs ad ci M a) := by
  unfold cE
  rw [h]
  split <;> first | omega | rfl
theorem oFs_at {ad : Nat → Nat} {ci : Nat} {M : MM} {a k : Nat} (h : k < fNf ci) : (oFs ad ci M a)[k]? = some (kdV (fTy ci k) (mI M a k) (mL M a k) ((mR M a k).map ad)) := by
  unfold oFs
  rw [List.getElem?_map, List.getElem?_range h]
  rfl
def kdOf : FieldType → Nat
  | .int => 0
  | .long => 1
  | .object _ => 2
  | .array _ => 2
  | _ => 3
theorem oFs_set {ad : Nat → Nat} {ci : Nat} {M M' : MM} {a k : Nat} {v : Value} (hk : k < fNf ci) (h : kdV (fTy ci k) (mI M' a k) (mL M' a k) ((mR M' a k).map ad) = v) (hj : ∀ j, j ≠ k → mI M' a j = mI M a j ∧ mL M' a j = mL M a j ∧ mR M' a j = mR M a j) : (oFs ad ci M a).set k v = oFs ad ci M' a := by
  apply List.ext_getElem?
  intro j
  rw [List.getElem?_set]
  by_cases e : k = j
  · subst e
    rw [if_pos rfl, oFs_at hk, if_pos (by unfold oFs; simpa using hk), h]
  · rw [if_neg e]
    by_cases hl : j < fNf ci
    · obtain ⟨h1, h2, h3⟩ := hj j (Ne.symm e)
      rw [oFs_at hl, oFs_at hl, h1, h2, h3]
    · have h1 : (oFs ad ci M a)[j]? = none := by unfold oFs; simpa using hl
      have h2 : (oFs ad ci M' a)[j]? = none := by unfold oFs; simpa using hl
      rw [h1, h2]
/-- a class of the list, with what the tables say of its fields -/
def CL (ci : Nat) (C : String) (T : u_T) (N : Nat) : Prop := vwCl[ci]? = some (C, T, N) ∧ (∀ w ∈ u_ws C T N, w ∈ gtbl) ∧ (∀ k, k < N → parseFieldDescriptor (T k).2.2.1 = some (fTy ci k)) ∧ (∀ a, a < N → ∀ b, b < N → a ≠ b → (T a).2.1 ≠ (T b).2.1) ∧ ci < 20
/-- a field that an instruction of class own reads -/
def FLr (own : String) (idx ci k kd : Nat) (fin : Bool) : Prop := ∃ (C : String) (T : u_T) (N : Nat), CL ci C T N ∧ k < N ∧ Cond.fieldLink own idx (T k).1 (T k).2.1 (T k).2.2.1 ∈ gtbl ∧ kdOf (fTy ci k) = kd ∧ (T k).2.2.2 = fin
/-- a field that it may also write -/
def FL (own : String) (idx ci k kd : Nat) (fin : Bool) : Prop := ∃ (C : String) (T : u_T) (N : Nat), CL ci C T N ∧ k < N ∧ Cond.fieldLink own idx (T k).1 (T k).2.1 (T k).2.2.1 ∈ gtbl ∧ kdOf (fTy ci k) = kd ∧ (T k).2.2.2 = fin ∧ (fin = true → (T k).1 = own)
theorem FL.r {own : String} {idx ci k kd : Nat} {fin : Bool} (h : FL own idx ci k kd fin) : FLr own idx ci k kd fin := by
  obtain ⟨C, T, N, h1, h2, h3, h4, h5, -⟩ := h
  exact ⟨C, T, N, h1, h2, h3, h4, h5⟩
theorem fNf_of {ci : Nat} {C : String} {T : u_T} {N : Nat} (h : CL ci C T N) : fNf ci = N := by
  unfold fNf
  rw [h.1]
theorem kdV0 {ty : FieldType} (h : kdOf ty = 0) (i : Int32) (l : Int64) (r : Option Nat) : kdV ty i l r = .int i := by
  cases ty <;> first | rfl | cases h
theorem kdV1 {ty : FieldType} (h : kdOf ty = 1) (i : Int32) (l : Int64) (r : Option Nat) : kdV ty i l r = .long l := by
  cases ty <;> first | rfl | cases h
theorem kdV2 {ty : FieldType} (h : kdOf ty = 2) (i : Int32) (l : Int64) (r : Option Nat) : kdV ty i l r = va_rf r := by
  cases ty <;> first | rfl | cases h
theorem fit0 {ty : FieldType} (h : kdOf ty = 0) (i : Int32) : narrow ty (.int i) = .int i ∧ fits ty (.int i) = true := by
  cases ty <;> first | exact ⟨rfl, rfl⟩ | cases h
theorem fit1 {ty : FieldType} (h : kdOf ty = 1) (i : Int64) : narrow ty (.long i) = .long i ∧ fits ty (.long i) = true := by
  cases ty <;> first | exact ⟨rfl, rfl⟩ | cases h
theorem fit2 {ty : FieldType} (h : kdOf ty = 2) (i : Nat) : narrow ty (.ref i) = .ref i ∧ fits ty (.ref i) = true := by
  cases ty <;> first | exact ⟨rfl, rfl⟩ | cases h
section MEM
variable {α : Type} {tr : α → Option Value × MM} {G : Gx} {cc : ByteArray} {nL : Nat} {own : String} {rm : Room} {tg : Bool} {cells slots pc : Nat} {lv lv' : List (Nat × Value)} {st : List Value} {M : MM} {res : Option α} {idx ci k a : Nat} {fin : Bool}
theorem ad_of (X : Cb G cc nL own rm tg) {H : Heap} (hR : Rp G.2.2.2.1.1 G.2.2.2.1.2.1 G.2.2.2.1.2.2.1 G.2.2.2.1.2.2.2.1 G.2.2.2.1.2.2.2.2 M H) (h : a < mN M) : G.2.2.2.1.2.2.2.1 a = G.2.2.2.1.2.2.1 + a := X.2.2.2.2.2.2.1 a (Nat.lt_of_lt_of_le h hR.2.2.2)
theorem v_get0 (X : Cb G cc nL own rm tg) (q : Nat) {kd : Nat} (F : FLr own idx ci k kd fin) (d : decode cc pc = .ok (.getfield idx, 3)) (hO : isO ci a M = true) {v : Value} (hv : kdV (fTy ci k) (mI M a k) (mL M a k) ((mR M a k).map G.2.2.2.1.2.2.2.1) = shV G.2.2.2.1.2.2.2.1 v) (hq : pc + 3 = q) (kk : V G tr nL cells slots q lv (v :: st) M res) : V G tr nL cells slots pc lv (.ref a :: st) M res := by
  subst hq
  intro o ho H locs ls hR hS hl
  obtain ⟨hlt, hsh⟩ := isO_of hO
  obtain ⟨C, T, N, hCL, hk, hlink, -, -⟩ := F
  have he := wsM_at (cy := G.2.2.2.1.2.1) (ad := G.2.2.2.1.2.2.2.1) (sz := G.2.2.2.1.2.2.1) hlt
  rw [cE_obj hsh hCL.2.2.2.2] at he
  show W _ _ _ _ _ _ _ _ _ _ _ _ _ _ _ (F0 _ _ _ (.ref (G.2.2.2.1.2.2.2.1 a) :: _))
  rw [ad_of X hR hlt]
  refine va_get (D := G.2.2.2.1.1) (v := shV G.2.2.2.1.2.2.2.1 v) X.1 X.2.1 X.2.2.2.2.1 hCL.2.1 X.2.2.2.1 X.2.2.2.2.2.1.1 hR.1 a he hCL.1 k hk (X.2.2.2.2.1 _ hlink) (fun _ h => h) ?_ d (kk o ho H locs ls hR hS hl)
  rw [oFs_at (by rw [fNf_of hCL]; exact hk), hv]
theorem v_getI (X : Cb G cc nL own rm tg) (q : Nat) (F : FLr own idx ci k 0 fin) (d : decode cc pc = .ok (.getfield idx, 3)) {f : Int32 → Option α} (hq : pc + 3 = q) (kk : ∀ v, V G tr nL cells slots q lv (.int v :: st) M (f v)) : V G tr nL cells slots pc lv (.ref a :: st) M (b1 (gI ci k a M) f) := by
  subst hq
  intro o ho
  obtain ⟨v, h1, h2⟩ := b1_some ho
  obtain ⟨hO, rfl⟩ := ite_some h1
  obtain ⟨C, T, N, hCL, hk, hlink, hkd, -⟩ := id F
  exact v_get0 X _ F d hO (v := .int (mI M a k)) (kdV0 hkd _ _ _) rfl (kk _) o h2
theorem v_getL (X : Cb G cc nL own rm tg) (q : Nat) (F : FLr own idx ci k 1 fin) (d : decode cc pc = .ok (.getfield idx, 3)) {f : Int64 → Option α} (hq : pc + 3 = q) (kk : ∀ v, V G tr nL cells slots q lv (.long v :: st) M (f v)) : V G tr nL cells slots pc lv (.ref a :: st) M (b1 (gL ci k a M) f) := by
  subst hq
  intro o ho
  obtain ⟨v, h1, h2⟩ := b1_some ho
  obtain ⟨hO, rfl⟩ := ite_some h1
  obtain ⟨C, T, N, hCL, hk, hlink, hkd, -⟩ := id F
  exact v_get0 X _ F d hO (v := .long (mL M a k)) (kdV1 hkd _ _ _) rfl (kk _) o h2
theorem v_getR (X : Cb G cc nL own rm tg) (q : Nat) (F : FLr own idx ci k 2 fin) (d : decode cc pc = .ok (.getfield idx, 3)) {f : Nat → Option α} (hq : pc + 3 = q) (kk : ∀ v, V G tr nL cells slots q lv (.ref v :: st) M (f v)) : V G tr nL cells slots pc lv (.ref a :: st) M (b1 (gR ci k a M) f) := by
  subst hq
  intro o ho
  obtain ⟨v, h1, h2⟩ := b1_some ho
  obtain ⟨hO, hv⟩ := iteO_some h1
  obtain ⟨C, T, N, hCL, hk, hlink, hkd, -⟩ := id F
  exact v_get0 X _ F d hO (v := .ref v) ((kdV2 hkd _ _ _).trans (by rw [hv]; rfl)) rfl (kk _) o h2
theorem Rp_set {D : va_G} {cy : Nat → ClassId} {sz : Nat} {ad : Nat → Nat} {tg : Bool} {M M' : MM} {H H1 : Heap} {e : va_E} (hR : Rp D cy sz ad tg M H) (hP : va_P D vwCl ((wsM cy ad sz M).set a (sz + a, e)) H1) (he : cE cy ad M' a = e) (hn : mN M' = mN M) (hb : ∀ b, b ≠ a → cE cy ad M' b = cE cy ad M b) (hz : H1.size = H.size) : Rp D cy sz ad tg M' H1 := by
  subst he
  rw [wsM_set hn hb] at hP
  exact ⟨hP, by rw [hn, hz]; exact hR.2.1, fun h => by rw [hn, hz]; exact hR.2.2.1 h, by rw [hn]; exact hR.2.2.2⟩
/-- a store into a field: the heap behind it -/
theorem put_heap (X : Cb G cc nL own rm tg) {kd : Nat} (F : FL own idx ci k kd fin) (hini : fin = true → G.2.2.1.1.name = "<init>") (d : decode cc pc = .ok (.putfield idx, 3)) (hO : isO ci a M = true) {M' : MM} {v : Value} (hv : kdV (fTy ci k) (mI M' a k) (mL M' a k) ((mR M' a k).map G.2.2.2.1.2.2.2.1) = shV G.2.2.2.1.2.2.2.1 v) (hfit : narrow (fTy ci k) (shV G.2.2.2.1.2.2.2.1 v) = shV G.2.2.2.1.2.2.2.1 v ∧ fits (fTy ci k) (shV G.2.2.2.1.2.2.2.1 v) = true) (hn : mN M' = mN M) (hs : mS M' = mS M) (hj : ∀ j, j ≠ k → mI M' a j = mI M a j ∧ mL M' a j = mL M a j ∧ mR M' a j = mR M a j) (hb : ∀ b, b ≠ a → mI M' b = mI M b ∧ mL M' b = mL M b ∧ mR M' b = mR M b) (kk : V G tr nL cells slots (pc + 3) lv st M' res) : V G tr nL cells slots pc lv (v :: .ref a :: st) M res := by
  intro o ho H locs ls hR hS hl
  obtain ⟨hlt, hsh⟩ := isO_of hO
  obtain ⟨C, T, N, hCL, hk, hlink, -, hf, hfd⟩ := F
  have he := wsM_at (cy := G.2.2.2.1.2.1) (ad := G.2.2.2.1.2.2.2.1) (sz := G.2.2.2.1.2.2.1) hlt
  rw [cE_obj hsh hCL.2.2.2.2] at he
  show W _ _ _ _ _ _ _ _ _ _ _ _ _ _ _ (F0 _ _ _ (_ :: .ref (G.2.2.2.1.2.2.2.1 a) :: _))
  rw [ad_of X hR hlt]
  have hts := X.2.2.2.2.1
  have hK := X.2.2.2.2.2.1.1
  have hap := va_apart (own := own) hts hCL.2.1 (fTy ci) hCL.2.2.1 hCL.2.2.2.1 hK hCL.1
  obtain ⟨r, h1, cell, q1, q2, q3, q4⟩ := hR.1 a _ he
  have hr : r = (C, T, N) := Option.some.inj (h1.symm.trans hCL.1)
  subst hr
  obtain ⟨hSl, hfc, kC, hkC, hkind⟩ := hK.1 ci _ hCL.1
  obtain ⟨cf, kf, fi, f, hi, hsl⟩ := hSl k hk
  have hlay := hts _ (hCL.2.1 _ (u_in_lay hk))
  have hst := (u_facts hfc hkC (u_lays hts hCL.2.1 hk) hi).1
  have hkN : k < fNf ci := by rw [fNf_of hCL]; exact hk
  have fin_ : ∀ H' : Heap, H'[G.2.2.2.1.2.2.1 + a]? = some (cell.setSlot (G.2.2.2.1.1.2 ci k) (shV G.2.2.2.1.2.2.2.1 v)) → H'.size = H.size → (∀ q, q ≠ G.2.2.2.1.2.2.1 + a → H'[q]? = H[q]?) → Rp G.2.2.2.1.1 G.2.2.2.1.2.1 G.2.2.2.1.2.2.1 G.2.2.2.1.2.2.2.1 G.2.2.2.1.2.2.2.2 M' H' ∧ va_S (fun q => G.2.2.2.1.2.2.1 ≤ q) G.2.1.1.heap H' (locs ++ [⟨G.2.2.2.1.2.2.1 + a, G.2.2.2.1.1.2 ci k⟩]) := by
    intro H' e1 e2 e3
    refine ⟨Rp_set hR (hR.1.set wsM_D he (e := .inr (ci, (oFs G.2.2.2.1.2.2.2.1 ci M a).set k (shV G.2.2.2.1.2.2.2.1 v))) ⟨_, hCL.1, t_OB.to (V := updV (vp_V (oFs G.2.2.2.1.2.2.2.1 ci M a)) k (shV G.2.2.2.1.2.2.2.1 v)) ⟨_, e1, q2, q3, t_set q4 hap hk _⟩ (fun j _ => vp_updV_set (by unfold oFs; simpa using hkN) _ j)⟩ e3) ?_ hn (fun b h => ?_) e2, hS.put e2 e3 (Nat.le_add_right _ _)⟩
    · rw [cE_obj (M := M') (by rw [hs]; exact hsh) hCL.2.2.2.2, oFs_set hkN hv hj]
    · obtain ⟨g1, g2, g3⟩ := hb b h
      exact cE_congr (by rw [hs]) g1 g2 g3
  cases fin with
  | false =>
    unfold u_lay at hlay
    rw [if_neg (by rw [hf]; decide)] at hlay
    have h6 := u_store hfc hkC hkind hlay hi (hCL.2.2.1 k hk) hfit.1 hfit.2
    refine W.putK X.1 X.2.1 (f := f) ⟨X.2.2.2.1, hts _ hlink, ⟨_, _, _, hi⟩, hst⟩ (by rw [q2]; exact h6) q1 q3 (by rw [hsl]; exact k2_hasslot (q4 k hk)) rfl rfl d fun H' e1 e2 e3 => ?_
    rw [hsl] at e1 ⊢
    obtain ⟨g1, g2⟩ := fin_ H' e1 e2 e3
    exact kk o ho H' _ ls g1 g2 hl
  | true =>
    unfold u_lay at hlay
    rw [if_pos hf] at hlay
    have hcf : G.2.1.2.1.cls = cf := by
      obtain ⟨_, _, c', _, _, _, -, -, hf', -, -, -, hown2, -⟩ := Cond.laysFinal_spec hlay
      have e1 : c' = cf := by have := hi.symm.trans hf'; simp at this; exact this.1.symm
      rw [hfd rfl] at hown2
      rw [← e1]; exact Option.some.inj (X.2.2.2.1.symm.trans hown2)
    have h6 := u_fits hfc hkC hkind (Or.inr hlay) hi (hCL.2.2.1 k hk) hfit.1 hfit.2
    refine W.putFinK X.1 X.2.1 X.2.2.2.1 (hts _ hlink) hi hst hcf (hini rfl) (by rw [q2]; exact h6) q1 q3 (by rw [hsl]; exact k2_hasslot (q4 k hk)) rfl rfl d fun H' e1 e2 e3 => ?_
    rw [hsl] at e1 ⊢
    obtain ⟨g1, g2⟩ := fin_ H' e1 e2 e3
    exact kk o ho H' _ ls g1 g2 hl
theorem up2_ne {α : Type} {f : Nat → Nat → α} {a k j : Nat} {v : α} (h : j ≠ k) : up2 f a k v a j = f a j := if_neg (fun z => h z.2)
theorem up2_eq {α : Type} {f : Nat → Nat → α} {a k : Nat} {v : α} : up2 f a k v a k = v := if_pos ⟨rfl, rfl⟩
theorem v_putI (X : Cb G cc nL own rm tg) (q : Nat) (F : FL own idx ci k 0 fin) (hini : fin = true → G.2.2.1.1.name = "<init>") (d : decode cc pc = .ok (.putfield idx, 3)) {v : Int32} {f : MM → Option α} (hq : pc + 3 = q) (kk : ∀ M', V G tr nL cells slots q lv st M' (f M')) : V G tr nL cells slots pc lv (.int v :: .ref a :: st) M (b1 (pI ci k a v M) f) := by
  subst hq
  intro o ho
  obtain ⟨M', h1, h2⟩ := b1_some ho
  obtain ⟨hO, rfl⟩ := ite_some h1
  obtain ⟨C, T, N, hCL, hk, hlink, hkd, -, -⟩ := id F
  exact put_heap X F hini d hO (v := .int v) (M' := sI M a k v) ((kdV0 hkd _ _ _).trans (congrArg Value.int up2_eq)) (fit0 hkd v) rfl rfl (fun j h => ⟨up2_ne h, rfl, rfl⟩) (fun b h => ⟨mI_sI_ne h, rfl, rfl⟩) (kk _) o h2
theorem v_putL (X : Cb G cc nL own rm tg) (q : Nat) (F : FL own idx ci k 1 fin) (hini : fin = true → G.2.2.1.1.name = "<init>") (d : decode cc pc = .ok (.putfield idx, 3)) {v : Int64} {f : MM → Option α} (hq : pc + 3 = q) (kk : ∀ M', V G tr nL cells slots q lv st M' (f M')) : V G tr nL cells slots pc lv (.long v :: .ref a :: st) M (b1 (pL ci k a v M) f) := by
  subst hq
  intro o ho
  obtain ⟨M', h1, h2⟩ := b1_some ho
  obtain ⟨hO, rfl⟩ := ite_some h1
  obtain ⟨C, T, N, hCL, hk, hlink, hkd, -, -⟩ := id F
  exact put_heap X F hini d hO (v := .long v) (M' := sL M a k v) ((kdV1 hkd _ _ _).trans (congrArg Value.long up2_eq)) (fit1 hkd v) rfl rfl (fun j h => ⟨rfl, up2_ne h, rfl⟩) (fun b h => ⟨rfl, mL_sL_ne h, rfl⟩) (kk _) o h2
theorem v_putR (X : Cb G cc nL own rm tg) (q : Nat) (F : FL own idx ci k 2 fin) (hini : fin = true → G.2.2.1.1.name = "<init>") (d : decode cc pc = .ok (.putfield idx, 3)) {v : Nat} {f : MM → Option α} (hq : pc + 3 = q) (kk : ∀ M', V G tr nL cells slots q lv st M' (f M')) : V G tr nL cells slots pc lv (.ref v :: .ref a :: st) M (b1 (pR ci k a v M) f) := by
  subst hq
  intro o ho
  obtain ⟨M', h1, h2⟩ := b1_some ho
  obtain ⟨hO, rfl⟩ := ite_some h1
  obtain ⟨C, T, N, hCL, hk, hlink, hkd, -, -⟩ := id F
  refine put_heap X F hini d hO (v := .ref v) (M' := sR M a k (some v)) ((kdV2 hkd _ _ _).trans ?_) (fit2 hkd _) rfl rfl (fun j h => ⟨rfl, rfl, up2_ne h⟩) (fun b h => ⟨rfl, rfl, mR_sR_ne h⟩) (kk _) o h2
  show va_rf ((up2 M.2.2.2.2 a k (some v) a k).map _) = _
  rw [up2_eq]
  rfl
end MEM
section ARR
variable {α : Type} {tr : α → Option Value × MM} {G : Gx} {cc : ByteArray} {nL : Nat} {own : String} {rm : Room} {tg : Bool} {cells slots pc : Nat} {lv lv' : List (Nat × Value)} {st : List Value} {M : MM} {res : Option α} {a : Nat} {i : Int32}
theorem cE_20 {cy : Nat → ClassId} {ad : Nat → Nat} {M : MM} {a : Nat} (h : (mS M a).1 = 20) : cE cy ad M a = .inl (cy 0, (mS M a).2, .inl (mI M a)) := by unfold cE; rw [h]; rfl
theorem cE_21 {cy : Nat → ClassId} {ad : Nat → Nat} {M : MM} {a : Nat} (h : (mS M a).1 = 21) : cE cy ad M a = .inl (cy 1, (mS M a).2, .inr (.inl (mL M a))) := by unfold cE; rw [h]; rfl
theorem cE_22 {cy : Nat → ClassId} {ad : Nat → Nat} {M : MM} {a : Nat} (h : (mS M a).1 = 22) : cE cy ad M a = .inl (cy 2, (mS M a).2, .inl (mI M a)) := by unfold cE; rw [h]; rfl
theorem cE_23 {cy : Nat → ClassId} {ad : Nat → Nat} {M : MM} {a : Nat} (h : (mS M a).1 = 23) : cE cy ad M a = .inl (cy 3, (mS M a).2, .inr (.inr (.inr (.inr (fun i => (mR M a i).map ad))))) := by unfold cE; rw [h]; rfl
theorem cE_24 {cy : Nat → ClassId} {ad : Nat → Nat} {M : MM} {a : Nat} (h : (mS M a).1 = 24) : cE cy ad M a = .inl (cy 4, (mS M a).2, .inr (.inr (.inr (.inr (fun i => (mR M a i).map ad))))) := by unfold cE; rw [h]; rfl
theorem v_iald (X : Cb G cc nL own rm tg) (q : Nat) (d : decode cc pc = .ok (.iaload, 1)) {f : Int32 → Option α} (hq : pc + 1 = q) (kk : ∀ v, V G tr nL cells slots q lv (.int v :: st) M (f v)) : V G tr nL cells slots pc lv (.int i :: .ref a :: st) M (b1 (ldI a i M) f) := by
  subst hq
  intro o ho H locs ls hR hS hl
  obtain ⟨v, h1, h2⟩ := b1_some ho
  obtain ⟨⟨hO, hi⟩, rfl⟩ := ite_some h1
  obtain ⟨hlt, hsh⟩ := isO_of hO
  have he := wsM_at (cy := G.2.2.2.1.2.1) (ad := G.2.2.2.1.2.2.2.1) (sz := G.2.2.2.1.2.2.1) hlt
  rw [cE_20 hsh] at he
  show W _ _ _ _ _ _ _ _ _ _ _ _ _ _ _ (F0 _ _ _ (_ :: .ref (G.2.2.2.1.2.2.2.1 a) :: _))
  rw [ad_of X hR hlt]
  exact va_iald X.1 X.2.1 X.2.2.2.2.2.1.1 hR.1 a 0 he rfl (inb_in hi) d (kk _ o h2 H locs ls hR hS hl)
theorem v_lald (X : Cb G cc nL own rm tg) (q : Nat) (d : decode cc pc = .ok (.laload, 1)) {f : Int64 → Option α} (hq : pc + 1 = q) (kk : ∀ v, V G tr nL cells slots q lv (.long v :: st) M (f v)) : V G tr nL cells slots pc lv (.int i :: .ref a :: st) M (b1 (ldL a i M) f) := by
  subst hq
  intro o ho H locs ls hR hS hl
  obtain ⟨v, h1, h2⟩ := b1_some ho
  obtain ⟨⟨hO, hi⟩, rfl⟩ := ite_some h1
  obtain ⟨hlt, hsh⟩ := isO_of hO
  have he := wsM_at (cy := G.2.2.2.1.2.1) (ad := G.2.2.2.1.2.2.2.1) (sz := G.2.2.2.1.2.2.1) hlt
  rw [cE_21 hsh] at he
  show W _ _ _ _ _ _ _ _ _ _ _ _ _ _ _ (F0 _ _ _ (_ :: .ref (G.2.2.2.1.2.2.2.1 a) :: _))
  rw [ad_of X hR hlt]
  exact va_lald X.1 X.2.1 X.2.2.2.2.2.1.1 hR.1 a 1 he rfl (inb_in hi) d (kk _ o h2 H locs ls hR hS hl)
theorem v_zald (X : Cb G cc nL own rm tg) (q : Nat) (d : decode cc pc = .ok (.baload, 1)) {f : Int32 → Option α} (hq : pc + 1 = q) (kk : ∀ v, V G tr nL cells slots q lv (.int v :: st) M (f v)) : V G tr nL cells slots pc lv (.int i :: .ref a :: st) M (b1 (ldZ a i M) f) := by
  subst hq
  intro o ho H locs ls hR hS hl
  obtain ⟨v, h1, h2⟩ := b1_some ho
  obtain ⟨⟨hO, hi⟩, rfl⟩ := ite_some h1
  obtain ⟨hlt, hsh⟩ := isO_of hO
  have he := wsM_at (cy := G.2.2.2.1.2.1) (ad := G.2.2.2.1.2.2.2.1) (sz := G.2.2.2.1.2.2.1) hlt
  rw [cE_22 hsh] at he
  show W _ _ _ _ _ _ _ _ _ _ _ _ _ _ _ (F0 _ _ _ (_ :: .ref (G.2.2.2.1.2.2.2.1 a) :: _))
  rw [ad_of X hR hlt]
  exact va_zald X.1 X.2.1 X.2.2.2.2.2.1.1 hR.1 a 2 he rfl (inb_in hi) d (kk _ o h2 H locs ls hR hS hl)
theorem v_iast (X : Cb G cc nL own rm tg) (q : Nat) (d : decode cc pc = .ok (.iastore, 1)) {x : Int32} {f : MM → Option α} (hq : pc + 1 = q) (kk : ∀ M', V G tr nL cells slots q lv st M' (f M')) : V G tr nL cells slots pc lv (.int x :: .int i :: .ref a :: st) M (b1 (stI a i x M) f) := by
  subst hq
  intro o ho H locs ls hR hS hl
  obtain ⟨M', h1, h2⟩ := b1_some ho
  obtain ⟨⟨hO, hi⟩, hM⟩ := ite_some h1
  obtain ⟨hlt, hsh⟩ := isO_of hO
  have he := wsM_at (cy := G.2.2.2.1.2.1) (ad := G.2.2.2.1.2.2.2.1) (sz := G.2.2.2.1.2.2.1) hlt
  rw [cE_20 hsh] at he
  show W _ _ _ _ _ _ _ _ _ _ _ _ _ _ _ (F0 _ _ _ (_ :: _ :: .ref (G.2.2.2.1.2.2.2.1 a) :: _))
  rw [ad_of X hR hlt]
  refine W.iast X.1 X.2.1 (hR.1 a _ he) ((X.2.2.2.2.2.1.1.2 0 _ rfl).1 (mS M a).2 (fun j => .int (mI M a j))) (fun q => by cases q) (by show ¬ (i < 0 ∨ (arrV _ _ _).slots.size ≤ _); rw [arrV_size]; exact inb_in hi) rfl rfl d fun H1 e z oq => ?_
  refine kk M' o h2 H1 _ ls (Rp_set hR (hR.1.set wsM_D he (e := cE G.2.2.2.1.2.1 G.2.2.2.1.2.2.2.1 M' a) ?_ oq) rfl (by rw [← hM]; rfl) (fun b h => ?_) z) (hS.put z oq (Nat.le_add_right _ _)) hl
  · rw [cE_20 (by rw [← hM]; exact hsh)]
    show H1[_]? = some (vp_cell _ _)
    rw [e, vp_cell_i, vp_cell_i, arrV_store, ← hM]
    show some (arrV _ (mS M a).2 _) = some (arrV _ (mS M a).2 _)
    congr 2
    funext q
    show updV _ _ _ _ = Value.int (mI (sI M a i.toNatClampNeg x) a q)
    rw [mI_sI]
    unfold updV upd; split <;> rfl
  · rw [← hM]
    exact cE_congr rfl (mI_sI_ne h) rfl rfl
theorem v_last (X : Cb G cc nL own rm tg) (q : Nat) (d : decode cc pc = .ok (.lastore, 1)) {x : Int64} {f : MM → Option α} (hq : pc + 1 = q) (kk : ∀ M', V G tr nL cells slots q lv st M' (f M')) : V G tr nL cells slots pc lv (.long x :: .int i :: .ref a :: st) M (b1 (stL a i x M) f) := by
  subst hq
  intro o ho H locs ls hR hS hl
  obtain ⟨M', h1, h2⟩ := b1_some ho
  obtain ⟨⟨hO, hi⟩, hM⟩ := ite_some h1
  obtain ⟨hlt, hsh⟩ := isO_of hO
  have he := wsM_at (cy := G.2.2.2.1.2.1) (ad := G.2.2.2.1.2.2.2.1) (sz := G.2.2.2.1.2.2.1) hlt
  rw [cE_21 hsh] at he
  show W _ _ _ _ _ _ _ _ _ _ _ _ _ _ _ (F0 _ _ _ (_ :: _ :: .ref (G.2.2.2.1.2.2.2.1 a) :: _))
  rw [ad_of X hR hlt]
  refine W.last X.1 X.2.1 (hR.1 a _ he) ((X.2.2.2.2.2.1.1.2 1 _ rfl).1 (mS M a).2 (fun j => .long (mL M a j))) (fun q => by cases q) (by show ¬ (i < 0 ∨ (arrV _ _ _).slots.size ≤ _); rw [arrV_size]; exact inb_in hi) rfl rfl d fun H1 e z oq => ?_
  refine kk M' o h2 H1 _ ls (Rp_set hR (hR.1.set wsM_D he (e := cE G.2.2.2.1.2.1 G.2.2.2.1.2.2.2.1 M' a) ?_ oq) rfl (by rw [← hM]; rfl) (fun b h => ?_) z) (hS.put z oq (Nat.le_add_right _ _)) hl
  · rw [cE_21 (by rw [← hM]; exact hsh)]
    show H1[_]? = some (vp_cell _ _)
    rw [e, vp_cell_l, vp_cell_l, arrV_store, ← hM]
    show some (arrV _ (mS M a).2 _) = some (arrV _ (mS M a).2 _)
    congr 2
    funext q
    show updV _ _ _ _ = Value.long (mL (sL M a i.toNatClampNeg x) a q)
    rw [mL_sL]
    unfold updV vp_updL; split <;> rfl
  · rw [← hM]
    exact cE_congr rfl rfl (mL_sL_ne h) rfl
theorem v_zast (X : Cb G cc nL own rm tg) (q : Nat) (d : decode cc pc = .ok (.bastore, 1)) {x : Int32} {f : MM → Option α} (hq : pc + 1 = q) (kk : ∀ M', V G tr nL cells slots q lv st M' (f M')) : V G tr nL cells slots pc lv (.int x :: .int i :: .ref a :: st) M (b1 (stZ a i x M) f) := by
  subst hq
  intro o ho H locs ls hR hS hl
  obtain ⟨M', h1, h2⟩ := b1_some ho
  obtain ⟨⟨hO, hi⟩, hM⟩ := ite_some h1
  obtain ⟨hlt, hsh⟩ := isO_of hO
  have he := wsM_at (cy := G.2.2.2.1.2.1) (ad := G.2.2.2.1.2.2.2.1) (sz := G.2.2.2.1.2.2.1) hlt
  rw [cE_22 hsh] at he
  show W _ _ _ _ _ _ _ _ _ _ _ _ _ _ _ (F0 _ _ _ (_ :: _ :: .ref (G.2.2.2.1.2.2.2.1 a) :: _))
  rw [ad_of X hR hlt]
  refine W.zast X.1 X.2.1 (hR.1 a _ he) ((X.2.2.2.2.2.1.1.2 2 _ rfl).1 (mS M a).2 (fun j => .int (mI M a j))) (fun q => by cases q) (by show ¬ (i < 0 ∨ (arrV _ _ _).slots.size ≤ _); rw [arrV_size]; exact inb_in hi) rfl rfl d fun H1 e z oq => ?_
  refine kk M' o h2 H1 _ ls (Rp_set hR (hR.1.set wsM_D he (e := cE G.2.2.2.1.2.1 G.2.2.2.1.2.2.2.1 M' a) ?_ oq) rfl (by rw [← hM]; rfl) (fun b h => ?_) z) (hS.put z oq (Nat.le_add_right _ _)) hl
  · rw [cE_22 (by rw [← hM]; exact hsh)]
    show H1[_]? = some (vp_cell _ _)
    rw [e, vp_cell_i, vp_cell_i, arrV_store, ← hM]
    show some (arrV _ (mS M a).2 _) = some (arrV _ (mS M a).2 _)
    congr 2
    funext q
    show updV _ _ _ _ = Value.int (mI (sI M a i.toNatClampNeg (nz x)) a q)
    rw [mI_sI]
    unfold updV upd nz vp_nar; split <;> rfl
  · rw [← hM]
    exact cE_congr rfl (mI_sI_ne h) rfl rfl
end ARR

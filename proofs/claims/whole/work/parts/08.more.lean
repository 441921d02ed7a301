section NEWS
variable {α : Type} {tr : α → Option Value × MM} {G : Gx} {cc : ByteArray} {nL : Nat} {own : String} {rm : Room} {cells slots pc idx : Nat} {lv lv' : List (Nat × Value)} {st stk As : List Value} {M : MM} {res : Option α}
/-- ints copied from row to row -/
theorem v_copy (X : Cb G cc nL own rm false) (q : Nat) (hl : Cond.methodLink own idx arraycopyName ∈ gtbl) (hw : Cond.native arraycopyName ∈ gtbl ∧ Cond.static arraycopyName ∈ gtbl ∧ Cond.initialized "java/lang/System" ∈ gtbl) (hf : 1 ≤ rm.frames) (hlo : (st.map fun v => v.category).sum + (nativeFrameWords "java/lang/System" "arraycopy" 5 + 11) ≤ rm.locals) {a b : Nat} {sp dp n : Int32} (d : decode cc pc = .ok (.invokestatic idx, 3)) {f : MM → Option α} (hq : pc + 3 = q) (kk : ∀ M', V G tr nL cells slots q lv st M' (f M')) : V G tr nL cells slots pc lv (.int n :: .int dp :: .ref b :: .int sp :: .ref a :: st) M (b1 (cpI a sp b dp n M) f) := by
  subst hq
  intro o ho H locs ls hR hS hl0
  obtain ⟨M', h1, h2⟩ := b1_some ho
  obtain ⟨⟨hO, hO2, g1, g2, g3, g4, g5⟩, hM⟩ := ite_some h1
  obtain ⟨hlt, hsh⟩ := isO_of hO
  obtain ⟨hlt2, hsh2⟩ := isO_of hO2
  have he := wsM_at (cy := G.2.2.2.1.2.1) (ad := G.2.2.2.1.2.2.2.1) (sz := G.2.2.2.1.2.2.1) hlt
  have he2 := wsM_at (cy := G.2.2.2.1.2.1) (ad := G.2.2.2.1.2.2.2.1) (sz := G.2.2.2.1.2.2.1) hlt2
  rw [cE_20 hsh] at he
  rw [cE_20 hsh2] at he2
  show W _ _ _ _ _ _ _ _ _ _ _ _ _ _ _ (F0 _ _ _ (_ :: _ :: .ref (G.2.2.2.1.2.2.2.1 b) :: _ :: .ref (G.2.2.2.1.2.2.2.1 a) :: _))
  rw [ad_of X hR hlt, ad_of X hR hlt2]
  have hts := X.2.2.2.2.1
  have hS9 : va_S (fun q => G.2.2.2.1.2.2.1 ≤ q) H H locs := ⟨Nat.le_refl _, fun _ _ _ => rfl, hS.2.2⟩
  refine va_copyi X.1 X.2.1 (X.2.2.1.trans hl0.1.symm) X.2.2.2.1 (hts _ hl) (hts _ hw.1) (hts _ hw.2.1) (hts _ hw.2.2) X.2.2.2.2.2.1.1 hR.1 wsM_D hS9 a b 0 0 he he2 rfl rfl rfl g1 g2 g3 g4 g5 (fun i _ => rfl) (by rw [X.2.2.2.2.2.2.2.1]; exact hf) ?_ d (fun H1 locs1 hP1 hD1 hS1 => ?_)
  · rw [X.2.2.2.2.2.2.2.1, List.map_map]
    have : ((fun v : Value => v.category) ∘ shV G.2.2.2.1.2.2.2.1) = fun v => v.category := by funext v; exact shV_cat _ v
    rw [this]; exact hlo
  · have hb : ∀ c, c ≠ b → cE G.2.2.2.1.2.1 G.2.2.2.1.2.2.2.1 M' c = cE G.2.2.2.1.2.1 G.2.2.2.1.2.2.2.1 M c := by
      intro c hc
      rw [← hM]
      refine cE_congr rfl ?_ rfl rfl
      show (if c = b then _ else mI M c) = mI M c
      rw [if_neg hc]
    have he9 : cE G.2.2.2.1.2.1 G.2.2.2.1.2.2.2.1 M' b = .inl (G.2.2.2.1.2.1 0, (mS M b).2, .inl (va_cpy (mI M a) (mI M b) sp.toNatClampNeg dp.toNatClampNeg n.toNatClampNeg)) := by
      rw [cE_20 (M := M') (by rw [← hM]; exact hsh2), ← hM]
      show Sum.inl (_, (mS M b).2, Sum.inl (if b = b then _ else mI M b)) = _
      rw [if_pos rfl]
    rw [← he9, wsM_set (by rw [← hM]; rfl) hb] at hP1
    refine kk M' o h2 H1 locs1 ls ⟨hP1, ?_, fun h => ?_, ?_⟩ ⟨Nat.le_trans hS.1 hS1.1, fun q h1 h2 => (hS1.2.1 q (Nat.lt_of_lt_of_le h1 hS.1) h2).trans (hS.2.1 q h1 h2), hS1.2.2⟩ hl0
    · have : mN M' = mN M := by rw [← hM]; rfl
      rw [this]; exact Nat.le_trans hR.2.1 hS1.1
    · rw [X.2.2.2.2.2.2.2.2.2] at h; cases h
    · have : mN M' = mN M := by rw [← hM]; rfl
      rw [this]; exact hR.2.2.2
/-- Object.<init> -/
theorem v_objInit {tg : Bool} (X : Cb G cc nL own rm tg) (q : Nat) (hl : Cond.methodLink own idx objectInit ∈ gtbl) (hw : Cond.instanceMethod objectInit ∈ gtbl ∧ Cond.code objectInit ⟨#[0xb1]⟩ 1 none ∈ gtbl) (hf : 1 ≤ rm.frames) (hlo : (st.map fun v => v.category).sum + 12 ≤ rm.locals) {a : Nat} (d : decode cc pc = .ok (.invokespecial idx, 3)) (hq : pc + 3 = q) (k : V G tr nL cells slots q lv st M res) : V G tr nL cells slots pc lv (.ref a :: st) M res := by
  subst hq
  intro o ho H locs ls hR hS hl0
  have hts := X.2.2.2.2.1
  refine W.objInit X.1 X.2.1 X.2.2.2.1 (hts _ hl) (hts _ hw.1) (hts _ hw.2) rfl (hl0.1.trans X.2.2.1.symm) rfl d (by rw [X.2.2.2.2.2.2.2.1]; exact hf) ?_ (k o ho H locs ls hR hS hl0)
  rw [X.2.2.2.2.2.2.2.1, List.map_map]
  have : ((fun v : Value => v.category) ∘ shV G.2.2.2.1.2.2.2.1) = fun v => v.category := by funext v; exact shV_cat _ v
  rw [this]
  show 2 * 0 + _ + 12 ≤ _
  omega
theorem cats (ad : Nat → Nat) (st : List Value) : ((st.map (shV ad)).map fun v => v.category).sum = (st.map fun v => v.category).sum := by
  rw [List.map_map]
  have : ((fun v : Value => v.category) ∘ shV ad) = fun v => v.category := by funext v; exact shV_cat _ v
  rw [this]
/-- Math.max, min, abs -/
def mathW (y : MethodName) (cc' : ByteArray) (n : Nat) : Prop := Cond.static y ∈ gtbl ∧ Cond.initialized "java/lang/Math" ∈ gtbl ∧ Cond.code y cc' n (some .int) ∈ gtbl
def maxI (x y : Int32) : Int32 := if x < y then y else x
def minI (x y : Int32) : Int32 := if y < x then y else x
def absI (x : Int32) : Int32 := if 0 ≤ x then x else 0 - x
theorem v_max {tg : Bool} (X : Cb G cc nL own rm tg) (q : Nat) (hl : Cond.methodLink own idx Lib.Math.max.name ∈ gtbl) (hw : mathW Lib.Math.max.name Lib.Math.max.code 2) (hf : 1 ≤ rm.frames) (hlo : (st.map fun v => v.category).sum + 13 ≤ rm.locals) (hc : cells ≤ rm.cells) (hs : slots ≤ rm.slots) {x y : Int32} (d : decode cc pc = .ok (.invokestatic idx, 3)) (hq : pc + 3 = q) (k : V G tr nL cells slots q lv (.int (maxI x y) :: st) M res) : V G tr nL cells slots pc lv (.int y :: .int x :: st) M res := by
  subst hq
  intro o ho H locs ls hR hS hl0
  have hts := X.2.2.2.2.1
  exact va_mmax X.1 X.2.1 (X.2.2.1.trans hl0.1.symm) X.2.2.2.1 (hts _ hl) (hts _ hw.1) (hts _ hw.2.1) (hts _ hw.2.2) (by rw [X.2.2.2.2.2.2.2.1]; exact hf) (by rw [X.2.2.2.2.2.2.2.1, cats]; exact hlo) (by rw [X.2.2.2.2.2.2.2.1]; exact hc) (by rw [X.2.2.2.2.2.2.2.1]; exact hs) d (k o ho H locs ls hR hS hl0)
theorem v_min {tg : Bool} (X : Cb G cc nL own rm tg) (q : Nat) (hl : Cond.methodLink own idx Lib.Math.min.name ∈ gtbl) (hw : mathW Lib.Math.min.name Lib.Math.min.code 2) (hf : 1 ≤ rm.frames) (hlo : (st.map fun v => v.category).sum + 13 ≤ rm.locals) (hc : cells ≤ rm.cells) (hs : slots ≤ rm.slots) {x y : Int32} (d : decode cc pc = .ok (.invokestatic idx, 3)) (hq : pc + 3 = q) (k : V G tr nL cells slots q lv (.int (minI x y) :: st) M res) : V G tr nL cells slots pc lv (.int y :: .int x :: st) M res := by
  subst hq
  intro o ho H locs ls hR hS hl0
  have hts := X.2.2.2.2.1
  exact va_mmin X.1 X.2.1 (X.2.2.1.trans hl0.1.symm) X.2.2.2.1 (hts _ hl) (hts _ hw.1) (hts _ hw.2.1) (hts _ hw.2.2) (by rw [X.2.2.2.2.2.2.2.1]; exact hf) (by rw [X.2.2.2.2.2.2.2.1, cats]; exact hlo) (by rw [X.2.2.2.2.2.2.2.1]; exact hc) (by rw [X.2.2.2.2.2.2.2.1]; exact hs) d (k o ho H locs ls hR hS hl0)
theorem v_abs {tg : Bool} (X : Cb G cc nL own rm tg) (q : Nat) (hl : Cond.methodLink own idx Lib.Math.abs.name ∈ gtbl) (hw : mathW Lib.Math.abs.name Lib.Math.abs.code 1) (hf : 1 ≤ rm.frames) (hlo : (st.map fun v => v.category).sum + 13 ≤ rm.locals) (hc : cells ≤ rm.cells) (hs : slots ≤ rm.slots) {x : Int32} (d : decode cc pc = .ok (.invokestatic idx, 3)) (hq : pc + 3 = q) (k : V G tr nL cells slots q lv (.int (absI x) :: st) M res) : V G tr nL cells slots pc lv (.int x :: st) M res := by
  subst hq
  intro o ho H locs ls hR hS hl0
  have hts := X.2.2.2.2.1
  exact va_mabs X.1 X.2.1 (X.2.2.1.trans hl0.1.symm) X.2.2.2.1 (hts _ hl) (hts _ hw.1) (hts _ hw.2.1) (hts _ hw.2.2) (by rw [X.2.2.2.2.2.2.2.1]; exact hf) (by rw [X.2.2.2.2.2.2.2.1, cats]; exact hlo) (by rw [X.2.2.2.2.2.2.2.1]; exact hc) (by rw [X.2.2.2.2.2.2.2.1]; exact hs) d (k o ho H locs ls hR hS hl0)
end NEWS
/-! TYPED CALLS. A room by its height, its cells, its slots. -/
def RM (n c s : Nat) : Room := { frames := n, cells := c, slots := s, locals := 100 * n }
def rmB (n c s n' c' s' nL' cells slots : Nat) : Bool := Nat.ble (n' + 1) n && (Nat.ble nL' 80 && (Nat.ble (cells + c') c && Nat.ble (slots + s') s))
theorem rmB_of {n c s n' c' s' nL' cells slots : Nat} (h : rmB n c s n' c' s' nL' cells slots = true) : Rm (RM n c s) (RM n' c' s') nL' cells slots := by
  simp only [rmB, Bool.and_eq_true, Nat.ble_eq] at h
  obtain ⟨h1, h2, h3, h4⟩ := h
  refine ⟨h1, ?_, h3, h4⟩
  show 8 + (nL' + 11) + 100 * n' ≤ 100 * n
  omega
def stW (st : List Value) : Bool := Nat.ble (st.map fun v => v.category).sum 8
theorem stW_of {st : List Value} (h : stW st = true) : (st.map fun v => v.category).sum ≤ 8 := Nat.le_of_ble_eq_true h
/-- a method with a receiver of class ci -/
def CV (y : MethodName) (cc' : ByteArray) (nL' : Nat) (ret' : Option FieldType) (n ci : Nat) : Prop := Cal y cc' nL' ret' n ∧ CalV y ∧ ∃ (C : String) (T : u_T) (N : Nat), CL ci C T N ∧ y.cls = C
/-- a static one -/
def CSt (y : MethodName) (cc' : ByteArray) (nL' : Nat) (ret' : Option FieldType) (n : Nat) : Prop := Cal y cc' nL' ret' n ∧ Cond.static y ∈ gtbl
/-- a contract of a method with a receiver -/
def KV (l : Launch) (y : MethodName) (cc' : ByteArray) (nL' : Nat) (ret' : Option FieldType) (rm' : Room) (tg : Bool) (ci b : Nat) (As : List Value) (M : MM) (r : Option Value) (M1 : MM) : Prop := isO ci b M = true ∧ CtAt l y cc' nL' ret' rm' tg (.ref b :: As) M r M1
section TC
variable {α : Type} {tr : α → Option Value × MM} {G : Gx} {cc : ByteArray} {nL : Nat} {own : String} {tg : Bool} {cells slots pc idx n0 c0 s0 n1 c1 s1 : Nat} {lv lv' : List (Nat × Value)} {st stk : List Value} {M : MM} {b ci n : Nat} {y : MethodName} {cc' : ByteArray} {nL' : Nat} {ret' : Option FieldType}
theorem v_cVI (X : Cb G cc nL own (RM n0 c0 s0) tg) (q : Nat) (K : CV y cc' nL' ret' n ci) (hl : Cond.methodLink own idx y ∈ gtbl) (hr : rmB n0 c0 s0 n1 c1 s1 nL' cells slots = true) (As : List Value) (hst : stk = As.reverse ++ .ref b :: st) (hn : As.length = n) (hw : stW st = true) (d : decode cc pc = .ok (.invokevirtual idx, 3)) {fc : Option (Int32 × MM)} {f : Int32 → MM → Option α} (hc : ∀ r M1, fc = some (r, M1) → KV G.1.2.1 y cc' nL' ret' (RM n1 c1 s1) tg ci b As M (some (.int r)) M1) (hq : pc + 3 = q) (k : ∀ r M1, V G tr nL (cells + c1) (slots + s1) q lv (.int r :: st) M1 (f r M1)) : V G tr nL cells slots pc lv stk M (b2 fc f) := by
  subst hq
  intro o ho
  obtain ⟨r, M1, h1, h2⟩ := b2_some ho
  obtain ⟨k1, k2, C, T, N, k3, k4⟩ := K
  obtain ⟨hO, hct⟩ := hc r M1 h1
  exact v_callV X k1 k2 hl (rmB_of hr) hn k3 k4 hO hct hst (stW_of hw) d (k r M1) o h2
theorem v_cVL (X : Cb G cc nL own (RM n0 c0 s0) tg) (q : Nat) (K : CV y cc' nL' ret' n ci) (hl : Cond.methodLink own idx y ∈ gtbl) (hr : rmB n0 c0 s0 n1 c1 s1 nL' cells slots = true) (As : List Value) (hst : stk = As.reverse ++ .ref b :: st) (hn : As.length = n) (hw : stW st = true) (d : decode cc pc = .ok (.invokevirtual idx, 3)) {fc : Option (Int64 × MM)} {f : Int64 → MM → Option α} (hc : ∀ r M1, fc = some (r, M1) → KV G.1.2.1 y cc' nL' ret' (RM n1 c1 s1) tg ci b As M (some (.long r)) M1) (hq : pc + 3 = q) (k : ∀ r M1, V G tr nL (cells + c1) (slots + s1) q lv (.long r :: st) M1 (f r M1)) : V G tr nL cells slots pc lv stk M (b2 fc f) := by
  subst hq
  intro o ho
  obtain ⟨r, M1, h1, h2⟩ := b2_some ho
  obtain ⟨k1, k2, C, T, N, k3, k4⟩ := K
  obtain ⟨hO, hct⟩ := hc r M1 h1
  exact v_callV X k1 k2 hl (rmB_of hr) hn k3 k4 hO hct hst (stW_of hw) d (k r M1) o h2
theorem v_cVV (X : Cb G cc nL own (RM n0 c0 s0) tg) (q : Nat) (K : CV y cc' nL' ret' n ci) (hl : Cond.methodLink own idx y ∈ gtbl) (hr : rmB n0 c0 s0 n1 c1 s1 nL' cells slots = true) (As : List Value) (hst : stk = As.reverse ++ .ref b :: st) (hn : As.length = n) (hw : stW st = true) (d : decode cc pc = .ok (.invokevirtual idx, 3)) {fc : Option MM} {f : MM → Option α} (hc : ∀ M1, fc = some M1 → KV G.1.2.1 y cc' nL' ret' (RM n1 c1 s1) tg ci b As M none M1) (hq : pc + 3 = q) (k : ∀ M1, V G tr nL (cells + c1) (slots + s1) q lv st M1 (f M1)) : V G tr nL cells slots pc lv stk M (b1 fc f) := by
  subst hq
  intro o ho
  obtain ⟨M1, h1, h2⟩ := b1_some ho
  obtain ⟨k1, k2, C, T, N, k3, k4⟩ := K
  obtain ⟨hO, hct⟩ := hc M1 h1
  exact v_callV X k1 k2 hl (rmB_of hr) hn k3 k4 hO hct hst (stW_of hw) d (k M1) o h2
end TC

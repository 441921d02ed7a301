/-! TEXTS: eight of them, at the cells sB on; their bytes at sB + 100 on; none is ever written -/
def isS (a : Nat) : Bool := decide (sB ≤ a) && decide (a - sB < 8)
def isB (a : Nat) : Bool := decide (sB + 100 ≤ a) && decide (a - (sB + 100) < 8)
theorem isS_of {a : Nat} (h : isS a = true) : ∃ i, i < 8 ∧ a = sB + i := by
  unfold isS at h
  simp only [Bool.and_eq_true, decide_eq_true_eq] at h
  exact ⟨a - sB, h.2, by omega⟩
theorem isB_of {a : Nat} (h : isB a = true) : ∃ i, i < 8 ∧ a = sB + 100 + i := by
  unfold isB at h
  simp only [Bool.and_eq_true, decide_eq_true_eq] at h
  exact ⟨a - (sB + 100), h.2, by omega⟩
def sV (a : Nat) : Option Nat := if isS a = true then some (a + 100) else none
def sC (a : Nat) : Option Int32 := if isS a = true then some 0 else none
def sN (a : Nat) : Option Int32 := if isB a = true then some (Int32.ofNat (lenS.getD (a - (sB + 100)) 0)) else none
def sBy (a : Nat) (i : Int32) : Option Int32 := if isB a = true ∧ inb i (lenS.getD (a - (sB + 100)) 0) = true then some ((bytS.getD (a - (sB + 100)) []).getD i.toNatClampNeg 0) else none
section STR
variable {α : Type} {tr : α → Option Value × MM} {G : Gx} {cc : ByteArray} {nL : Nat} {own : String} {rm : Room} {tg : Bool} {cells slots pc idx : Nat} {lv lv' : List (Nat × Value)} {st stk : List Value} {M : MM} {res : Option α} {a : Nat} {i : Int32}
theorem v_ldcSw (X : Cb G cc nL own rm tg) (q : Nat) {i no : Nat} {tx : String} (d : decode cc pc = .ok (.ldc_w i, 3)) (hz : (own, i, tx, no) ∈ strL) (hq : pc + 3 = q) (k : V G tr nL cells slots q lv (.ref (sB + no) :: st) M res) : V G tr nL cells slots pc lv st M res := by
  subst hq
  intro o ho H locs ls hR hS hl T hT XT
  have hz2 := X.2.2.2.2.2.1.2.2.2.2.2.1 _ hz
  obtain ⟨t, a1, b1⟩ := k o ho H locs ls hR hS hl T hT XT
  exact ⟨t, XT.ldcStringW X.1 X.2.2.2.1 (text := tx) (a := G.2.2.2.1.2.2.2.1 (sB + no)) hz2.1 hz2.2 (g := F0 _ pc ls _) rfl (by rw [X.2.1]; exact d) t a1, b1⟩
theorem v_getSv (X : Cb G cc nL own rm tg) (q : Nat) (hl : Cond.fieldLink own idx "java/lang/String" "value" "[B" ∈ gtbl) (d : decode cc pc = .ok (.getfield idx, 3)) {f : Nat → Option α} (hq : pc + 3 = q) (kk : ∀ v, V G tr nL cells slots q lv (.ref v :: st) M (f v)) : V G tr nL cells slots pc lv (.ref a :: st) M (b1 (sV a) f) := by
  subst hq
  intro o ho H locs ls hR hS hl0
  obtain ⟨v, h1, h2⟩ := b1_some ho
  obtain ⟨hO, rfl⟩ := ite_some h1
  obtain ⟨j, hj, rfl⟩ := isS_of hO
  have hE := (X.2.2.2.2.2.1.2.2.2.2.1.1 j hj).2.2.1
  refine vk_getf X.1 X.2.1 hE hS X.2.2.2.1 (X.2.2.2.2.1 _ hl) (fun _ h => h) d ?_
  have e : sB + j + 100 = sB + 100 + j := by omega
  have := kk (sB + j + 100) o h2 H locs ls hR hS hl0
  rw [e] at this
  exact this
theorem v_getSc (X : Cb G cc nL own rm tg) (q : Nat) (hl : Cond.fieldLink own idx "java/lang/String" "coder" "B" ∈ gtbl) (d : decode cc pc = .ok (.getfield idx, 3)) {f : Int32 → Option α} (hq : pc + 3 = q) (kk : ∀ v, V G tr nL cells slots q lv (.int v :: st) M (f v)) : V G tr nL cells slots pc lv (.ref a :: st) M (b1 (sC a) f) := by
  subst hq
  intro o ho H locs ls hR hS hl0
  obtain ⟨v, h1, h2⟩ := b1_some ho
  obtain ⟨hO, rfl⟩ := ite_some h1
  obtain ⟨j, hj, rfl⟩ := isS_of hO
  exact vk_getf X.1 X.2.1 (X.2.2.2.2.2.1.2.2.2.2.1.1 j hj).2.1 hS X.2.2.2.1 (X.2.2.2.2.1 _ hl) (fun _ h => h) d (kk 0 o h2 H locs ls hR hS hl0)
theorem v_getsC (X : Cb G cc nL own rm tg) (q : Nat) (hl : Cond.fieldLink own idx "java/lang/String" "COMPACT_STRINGS" "Z" ∈ gtbl) (d : decode cc pc = .ok (.getstatic idx, 3)) (hq : pc + 3 = q) (k : V G tr nL cells slots q lv (.int 1 :: st) M res) : V G tr nL cells slots pc lv st M res := by
  subst hq
  intro o ho H locs ls hR hS hl0
  exact va_gets X.1 X.2.1 X.2.2.2.2.2.1.2.2.2.2.2.2.1 hS X.2.2.2.1 (X.2.2.2.2.1 _ hl) (fun _ h => h) d (k o ho H locs ls hR hS hl0)
theorem v_getsF (X : Cb G cc nL own rm tg) (q : Nat) (hl : Cond.fieldLink own idx "jdk/internal/util/Preconditions" "SIOOBE_FORMATTER" "Ljava/util/function/BiFunction;" ∈ gtbl) (d : decode cc pc = .ok (.getstatic idx, 3)) (hq : pc + 3 = q) (k : ∀ fz : Value, fz.category = 1 → V G tr nL cells slots q lv (fz :: st) M res) : V G tr nL cells slots pc lv st M res := by
  subst hq
  intro o ho H locs ls hR hS hl0
  obtain ⟨fz, h1, h2⟩ := X.2.2.2.2.2.1.2.2.2.2.2.2.2.2.2.2.2
  exact va_gets X.1 X.2.1 h2 hS X.2.2.2.1 (X.2.2.2.2.1 _ hl) (fun _ h => h) d (k fz h1 o ho H locs ls hR hS hl0)
theorem v_alenB (X : Cb G cc nL own rm tg) (q : Nat) (d : decode cc pc = .ok (.arraylength, 1)) {f : Int32 → Option α} (hq : pc + 1 = q) (kk : ∀ v, V G tr nL cells slots q lv (.int v :: st) M (f v)) : V G tr nL cells slots pc lv (.ref a :: st) M (b1 (sN a) f) := by
  subst hq
  intro o ho H locs ls hR hS hl0
  obtain ⟨v, h1, h2⟩ := b1_some ho
  obtain ⟨hO, rfl⟩ := ite_some h1
  obtain ⟨j, hj, rfl⟩ := isB_of hO
  refine va_tlen X.1 X.2.1 (X.2.2.2.2.2.1.2.2.2.2.1.1 j hj).2.2.2 hS rfl d ?_
  have e : sB + 100 + j - (sB + 100) = j := by omega
  rw [e] at h2
  exact kk _ o h2 H locs ls hR hS hl0
theorem v_baldB (X : Cb G cc nL own rm tg) (q : Nat) (d : decode cc pc = .ok (.baload, 1)) {f : Int32 → Option α} (hq : pc + 1 = q) (kk : ∀ v, V G tr nL cells slots q lv (.int v :: st) M (f v)) : V G tr nL cells slots pc lv (.int i :: .ref a :: st) M (b1 (sBy a i) f) := by
  subst hq
  intro o ho H locs ls hR hS hl0
  obtain ⟨v, h1, h2⟩ := b1_some ho
  obtain ⟨⟨hO, hi⟩, rfl⟩ := ite_some h1
  obtain ⟨j, hj, rfl⟩ := isB_of hO
  have e : sB + 100 + j - (sB + 100) = j := by omega
  rw [e] at h2 hi
  exact va_tb X.1 X.2.1 (X.2.2.2.2.2.1.2.2.2.2.1.1 j hj).2.2.2 hS (inb_in hi) rfl d (kk _ o h2 H locs ls hR hS hl0)
def rB (x : Int32) (M : MM) : Option (Int32 × MM) := if vp_nar .byte x = x then some (x, M) else none
def rC (x : Int32) (M : MM) : Option (Int32 × MM) := if vp_nar .char x = x then some (x, M) else none
theorem v_bret (X : Cb G cc nL own rm tg) {mc ms : Nat} (Y : Cr G (some .byte) mc ms) (hc : cells ≤ mc) (hs : slots ≤ ms) {x : Int32} (d : decode cc pc = .ok (.ireturn, 1)) : V G trI nL cells slots pc lv [.int x] M (rB x M) := by
  intro o ho H locs ls hR hS hl
  obtain ⟨hx, ho⟩ := ite_some ho
  cases ho
  show W _ _ _ _ _ _ _ _ _ _ _ _ _ _ (G.2.2.2.2 (_, _)) _
  rw [Y.2.2]
  refine W.widen hc hs ?_
  exact W.zret X.1 X.2.1 Y.1 (by unfold vp_nar at hx; simp only [narrow] at hx ⊢; rw [hx]) (fun t ht _ => ⟨rfl, by rw [ht]; exact hR, hS.F ht⟩) hS.2.2 d Y.2.1
theorem v_cret (X : Cb G cc nL own rm tg) {mc ms : Nat} (Y : Cr G (some .char) mc ms) (hc : cells ≤ mc) (hs : slots ≤ ms) {x : Int32} (d : decode cc pc = .ok (.ireturn, 1)) : V G trI nL cells slots pc lv [.int x] M (rC x M) := by
  intro o ho H locs ls hR hS hl
  obtain ⟨hx, ho⟩ := ite_some ho
  cases ho
  show W _ _ _ _ _ _ _ _ _ _ _ _ _ _ (G.2.2.2.2 (_, _)) _
  rw [Y.2.2]
  refine W.widen hc hs ?_
  exact W.zret X.1 X.2.1 Y.1 (by unfold vp_nar at hx; simp only [narrow] at hx ⊢; rw [hx]) (fun t ht _ => ⟨rfl, by rw [ht]; exact hR, hS.F ht⟩) hS.2.2 d Y.2.1
end STR
/-- a contract of a text's method -/
def KS (l : Launch) (y : MethodName) (cc' : ByteArray) (nL' : Nat) (ret' : Option FieldType) (rm' : Room) (tg : Bool) (b : Nat) (As : List Value) (M : MM) (r : Option Value) (M1 : MM) : Prop := isS b = true ∧ CtAt l y cc' nL' ret' rm' tg (.ref b :: As) M r M1
def CVS (y : MethodName) (cc' : ByteArray) (nL' : Nat) (ret' : Option FieldType) (n : Nat) : Prop := Cal y cc' nL' ret' n ∧ CalV y ∧ y.cls = "java/lang/String"
section TCS
variable {α : Type} {tr : α → Option Value × MM} {G : Gx} {cc : ByteArray} {nL : Nat} {own : String} {tg : Bool} {cells slots pc idx n0 c0 s0 n1 : Nat} {lv lv' : List (Nat × Value)} {st stk : List Value} {M : MM} {b n : Nat} {y : MethodName} {cc' : ByteArray} {nL' : Nat} {ret' : Option FieldType}
theorem v_tI (X : Cb G cc nL own (RM n0 c0 s0) tg) (q : Nat) (K : CVS y cc' nL' ret' n) (hl : Cond.methodLink own idx y ∈ gtbl) (hr : rmB n0 c0 s0 n1 0 0 nL' cells slots = true) (As : List Value) (hst : stk = As.reverse ++ .ref b :: st) (hn : As.length = n) (hw : stW st = true) (d : decode cc pc = .ok (.invokevirtual idx, 3)) {fc : Option (Int32 × MM)} {f : Int32 → MM → Option α} (hq : pc + 3 = q) (hc : ∀ r M1, fc = some (r, M1) → KS G.1.2.1 y cc' nL' ret' (RM n1 0 0) tg b As M (some (.int r)) M1) (k : ∀ r M1, V G tr nL cells slots q lv (.int r :: st) M1 (f r M1)) : V G tr nL cells slots pc lv stk M (b2 fc f) := by
  subst hq
  intro o ho
  obtain ⟨r, M1, h1, h2⟩ := b2_some ho
  obtain ⟨hO, hc⟩ := hc r M1 h1
  obtain ⟨j, hj, rfl⟩ := isS_of hO
  have hm := hc G.2.2.2.1.1 G.2.2.2.1.2.1 G.2.2.2.1.2.2.1 G.2.2.2.1.2.2.2.1 X.2.2.2.2.2.2.1
  rw [← X.2.2.2.2.2.2.2.2.2] at hm
  have hw' : ((st.map (shV G.2.2.2.1.2.2.2.1)).map fun v => v.category).sum ≤ 8 := by rw [cats]; exact stW_of hw
  have hroom := rmB_of hr
  refine v_after (rm' := RM n1 0 0) (r := some (.int r)) (st := st) X (A := (Value.ref (G.2.2.2.1.2.2.2.1 (sB + j)) :: As.map (shV G.2.2.2.1.2.2.2.1)).toArray) (st0 := (As.map (shV G.2.2.2.1.2.2.2.1)).reverse ++ .ref (G.2.2.2.1.2.2.2.1 (sB + j)) :: st.map (shV G.2.2.2.1.2.2.2.1)) (fun H locs ls hR hS hsz => ?_) (by rw [hst]; simp [shV]) (k r M1) o h2
  have hrc := vk_recv X.2.2.2.2.2.1.2.2.2.2.1 hj hS
  exact va_runV (C := y.cls) (As := As.map (shV G.2.2.2.1.2.2.2.1)) ⟨X.1, X.2.1, X.2.2.1, X.2.2.2.1, X.2.2.2.2.1⟩ hm (cwV n X.2.2.2.2.1 (gInV K.1 K.2.1 hl) rfl rfl rfl ⟨rfl, K.1.2.2⟩ (by rw [X.2.2.2.2.2.2.2.1]; exact ⟨hroom.1, hroom.2.1⟩)) ⟨Pc_blind, by rw [K.2.2]; exact hrc, fun U hU hW => Pc_of X (av := (Value.ref (sB + j) :: As).map (shV G.2.2.2.1.2.2.2.1)) hR hS U hU hW⟩ rfl (by rw [List.length_map]; exact hn) hsz rfl (lv_room hw') d (by rw [X.2.2.2.2.2.2.2.1]; exact ⟨hroom.2.2.1, hroom.2.2.2⟩)
end TCS

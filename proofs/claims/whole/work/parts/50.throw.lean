/-! METHODS THAT RETURN OR THROW NoSuchElementException -/
def xnm : List String := ["java/lang/RuntimeException", "java/lang/Exception"]
set_option maxRecDepth 100000 in
theorem xat : ∀ w ∈ vx_at0 RX11 161 NSE xnm, w ∈ gtbl ∨ w = Cond.castable NSE NSE ∨ w ∈ xDecl.map Cond.declares := by
  have h : (vx_at0 RX11 161 NSE xnm).all (fun w => (decide (w ∈ lw_tbl) && goodWord w) || (decide (w = Cond.castable NSE NSE) || decide (w ∈ xDecl.map Cond.declares))) = true := by decide +kernel
  intro w hw
  have h1 := List.all_eq_true.mp h w hw
  simp only [Bool.or_eq_true, Bool.and_eq_true, decide_eq_true_eq] at h1
  rcases h1 with h1 | h1 | h1
  · exact Or.inl (gtbl_of h1.1 h1.2)
  · exact Or.inr (Or.inl h1)
  · exact Or.inr (Or.inr h1)
theorem xot : ∀ w ∈ Cond.classLink RX11 159 NSE :: Cond.initialized NSE :: vx_at0 RX11 161 NSE xnm, vx_ot w = true := by
  have h : (Cond.classLink RX11 159 NSE :: Cond.initialized NSE :: vx_at0 RX11 161 NSE xnm).all vx_ot = true := by decide +kernel
  exact List.all_eq_true.mp h
theorem xk : Cond.classLink RX11 159 NSE ∈ gtbl := gt6 84 rfl rfl
theorem xkL : Cond.classLink RL 13 NSE ∈ gtbl := gt6 79 rfl rfl
theorem xi : Cond.initialized NSE ∈ gtbl := gt1 25 rfl rfl
def xQ (D : va_G) (cy : Nat → ClassId) (sz : Nat) (ad : Nat → Nat) (v : Option Value) (M' : MM) : Array Value → State → Outcome → State → Prop := fun a st oc t => v ≠ none ∧ stQ D cy sz ad false v M' a st oc t
def xX (D : va_G) (cy : Nat → ClassId) (sz : Nat) (ad : Nat → Nat) (v : Option Value) (M' : MM) : String → State → State → Prop := fun E st t => v = none ∧ E = NSE ∧ Rp D cy sz ad false M' t.heap ∧ va_F (fun q => sz ≤ q) st t
def CtX (l : Launch) (y : MethodName) (cc : ByteArray) (nL : Nat) (ret : Option FieldType) (rm : Room) (av : List Value) (M : MM) (v : Option Value) (M' : MM) : Prop :=
  ∀ (D : va_G) (cy : Nat → ClassId) (sz : Nat) (ad : Nat → Nat), (∀ k, k < sB → ad k = sz + k) →
    vx_Met l y (.code y cc nL ret :: gtbl) rm (va_Pc (av.map (shV ad)) (fun U => Rp D cy sz ad false M U.heap ∧ KK D cy sz ad U ∧ sz ≤ U.heap.size)) (xQ D cy sz ad v M') (xX D cy sz ad v M') rm.cells rm.slots (fun q => sz ≤ q)
def KX (l : Launch) (y : MethodName) (cc : ByteArray) (nL : Nat) (ret : Option FieldType) (rm : Room) (ci b : Nat) (As : List Value) (M : MM) (v : Option Value) (M' : MM) : Prop := isO ci b M = true ∧ CtX l y cc nL ret rm (.ref b :: As) M v M'
def CrX (G : Gx) (ret : Option FieldType) (mc ms : Nat) : Prop :=
  G.2.2.1.1.sig.returnType = ret ∧ G.2.2.1.1.locks = false ∧ (∀ v M', G.2.2.2.2 (v, M') = vx_MQ G.2.1.2.2.2 (xQ G.2.2.2.1.1 G.2.2.2.1.2.1 G.2.2.2.1.2.2.1 G.2.2.2.1.2.2.2.1 v M') (xX G.2.2.2.1.1 G.2.2.2.1.2.1 G.2.2.2.1.2.2.1 G.2.2.2.1.2.2.2.1 v M') G.2.1.2.2.1 G.2.1.1 mc ms (fun q => G.2.2.2.1.2.2.1 ≤ q)) ∧ (∀ x ∈ G.2.2.1.2.exceptionTable.toList, False) ∧ G.1.2.1.stackTraces = false
def trX : Option Int32 × MM → Option Value × MM := fun q => (q.1.map .int, q.2)
def trXL : Option Int64 × MM → Option Value × MM := fun q => (q.1.map .long, q.2)
theorem Rp_more {D : va_G} {cy : Nat → ClassId} {sz : Nat} {ad : Nat → Nat} {M : MM} {H H1 : Heap} (hR : Rp D cy sz ad false M H) (hz : H.size ≤ H1.size) (ho : ∀ q, q < H.size → H1[q]? = H[q]?) : Rp D cy sz ad false M H1 :=
  ⟨hR.1.kept (fun k q hq => ho q.1 (hR.1 k q hq).lt), Nat.le_trans hR.2.1 hz, (fun h => by cases h), hR.2.2.2⟩
section XR
variable {α : Type} {tr : α → Option Value × MM} {G : Gx} {cc : ByteArray} {nL : Nat} {own : String} {rm : Room} {cells slots pc : Nat} {lv lv' : List (Nat × Value)} {st : List Value} {M : MM}
theorem v_iretX (X : Cb G cc nL own rm false) {mc ms : Nat} (Y : CrX G (some .int) mc ms) (hc : cells ≤ mc) (hs : slots ≤ ms) {x : Int32} (d : decode cc pc = .ok (.ireturn, 1)) : V G trX nL cells slots pc lv [.int x] M (some (some x, M)) := by
  intro o ho H locs ls hR hS hl
  cases ho
  show W _ _ _ _ _ _ _ _ _ _ _ _ _ _ (G.2.2.2.2 (_, _)) _
  rw [Y.2.2.1]
  rw [X.2.2.2.2.2.2.2.2.2] at hR
  refine W.widen hc hs (vx_ret ?_)
  exact W.iret X.1 X.2.1 Y.1 (fun t ht _ => ⟨(fun h => by cases h), rfl, by rw [ht]; exact hR, hS.F ht⟩) hS.2.2 d Y.2.1
theorem v_lretX (X : Cb G cc nL own rm false) {mc ms : Nat} (Y : CrX G (some .long) mc ms) (hc : cells ≤ mc) (hs : slots ≤ ms) {x : Int64} (d : decode cc pc = .ok (.lreturn, 1)) : V G trXL nL cells slots pc lv [.long x] M (some (some x, M)) := by
  intro o ho H locs ls hR hS hl
  cases ho
  show W _ _ _ _ _ _ _ _ _ _ _ _ _ _ (G.2.2.2.2 (_, _)) _
  rw [Y.2.2.1]
  rw [X.2.2.2.2.2.2.2.2.2] at hR
  refine W.widen hc hs (vx_ret ?_)
  exact W.lret X.1 X.2.1 Y.1 (fun t ht _ => ⟨(fun h => by cases h), rfl, by rw [ht]; exact hR, hS.F ht⟩) hS.2.2 d Y.2.1
theorem v_throw0 {n : Nat} (X : Cb G cc nL RX11 (RM n 1 6) false) {ret : Option FieldType} (Y : CrX G ret 1 6) (hn : 6 ≤ n) {o : α} (ho : tr o = (none, M)) (d0 : decode cc pc = .ok (.new 159, 3)) (d3 : decode cc (pc + 3) = .ok (.dup, 1)) (d4 : decode cc (pc + 4) = .ok (.invokespecial 161, 3)) (d7 : decode cc (pc + 7) = .ok (.athrow, 1)) : V G tr nL 0 0 pc lv [] M (some o) := by
  intro o' ho' H locs ls hR hS hl
  cases ho'
  rw [ho, Y.2.2.1]
  rw [X.2.2.2.2.2.2.2.2.2] at hR
  have hts := X.2.2.2.2.1
  have hrm := X.2.2.2.2.2.2.2.1
  refine vx_throw0 X.1 X.2.1 Y.2.2.2.2 (own := RX11) (cls := NSE) (names := xnm) X.2.2.2.1 (by decide) (by decide) (hts _ xk) (hts _ xi) (fun w hw => by
    rcases xat w hw with h | rfl | h
    · exact hts _ h
    · exact va_Nw.use rfl X.2.2.2.2.2.1.2.2.2.2.2.2.2.2.2.1
    · obtain ⟨y, hy, rfl⟩ := List.mem_map.mp h
      exact va_Nw.use rfl (X.2.2.2.2.2.1.2.2.2.2.2.2.2.2.2.2.1 y hy)) xot X.2.2.2.2.2.1.2.2.2.2.2.2.2.1 X.2.2.2.2.2.1.2.2.2.2.2.2.2.2.1 hS (hl.1.trans X.2.2.1.symm) d0 d3 d4 d7 (fun x hx => absurd hx (Y.2.2.2.1 x)) ?_ ?_ ?_ ?_ Y.2.1 (fun t _ h1 h2 => ⟨rfl, rfl, Rp_more hR h1 h2, Nat.le_trans hS.1 h1, fun q g1 g2 => (h2 q (Nat.lt_of_lt_of_le g1 hS.1)).trans (hS.2.1 q g1 g2)⟩) hS.2.2 (Nat.le_refl _) (Nat.le_refl _)
  · rw [hrm]; show 2 + 3 < n; omega
  · rw [hrm]; show 0 + (13 * (2 + 1) + 42) ≤ 100 * n; omega
  · rw [hrm]; exact Nat.le_refl _
  · rw [hrm]; exact Nat.le_refl _
theorem v_throw {n : Nat} (X : Cb G cc nL RX11 (RM n 1 6) false) {ret : Option FieldType} (Y : CrX G ret 1 6) (hn : 6 ≤ n) (d0 : decode cc pc = .ok (.new 159, 3)) (d3 : decode cc (pc + 3) = .ok (.dup, 1)) (d4 : decode cc (pc + 4) = .ok (.invokespecial 161, 3)) (d7 : decode cc (pc + 7) = .ok (.athrow, 1)) : V G trX nL 0 0 pc lv [] M (some (none, M)) := v_throw0 X Y hn rfl d0 d3 d4 d7
theorem v_throwL {n : Nat} (X : Cb G cc nL RX11 (RM n 1 6) false) {ret : Option FieldType} (Y : CrX G ret 1 6) (hn : 6 ≤ n) (d0 : decode cc pc = .ok (.new 159, 3)) (d3 : decode cc (pc + 3) = .ok (.dup, 1)) (d4 : decode cc (pc + 4) = .ok (.invokespecial 161, 3)) (d7 : decode cc (pc + 7) = .ok (.athrow, 1)) : V G trXL nL 0 0 pc lv [] M (some (none, M)) := v_throw0 X Y hn rfl d0 d3 d4 d7
theorem ct_ofX {l : Launch} {y : MethodName} {cc : ByteArray} {nL : Nat} {ret : Option FieldType} {rm : Room} {av : List Value} {M : MM} (hl0 : l.stackTraces = false) (hy : plainName y.cls = true) (hsl : (lg_sl av).length ≤ nL) (lv0 : List (Nat × Value)) (hlv : lv_args 0 av = lv0) {α : Type} {tr : α → Option Value × MM} {res : Option α} {o : α} (hres : res = some o)
    (h : ∀ G : Gx, Cb G cc nL y.cls rm false → CrX G ret rm.cells rm.slots → G.1.2.1 = l → V G tr nL 0 0 0 lv0 [] M res) : CtX l y cc nL ret rm av M (tr o).1 (tr o).2 := by
  intro D cy sz ad had
  refine vx_ofW (cc := cc) (maxL := nL) (ret := ret) hy rfl ?_
  intro p e s m args below meth c s₁ B hml htab hv
  obtain ⟨rfl, hR, hK, hsz⟩ := hv
  have hts := atoms_spec (ws := .code y cc nL ret :: gtbl) B.pre
  have hX : Cb ((p, l, e, (headSpec (.code y cc nL ret :: gtbl) rm).room), (s, m, (av.map (shV ad)).toArray, below), (meth, c), (D, cy, sz, ad, false), fun o => vx_MQ below (xQ D cy sz ad o.1 o.2) (xX D cy sz ad o.1 o.2) (av.map (shV ad)).toArray s rm.cells rm.slots (fun q => sz ≤ q)) cc nL y.cls rm false := ⟨B.exec, B.bytes, hml, findClass_of_methodNamed B.named, fun w hw => hts w (List.mem_cons_of_mem _ hw), hK, had, rfl, hsz, rfl⟩
  have hV := h _ hX ⟨B.returns, B.notSynchronized, fun _ _ => rfl, htab, hl0⟩ rfl o hres s.heap []
  have hl := lv_entry (av.map (shV ad)) (n := nL) (by rw [lg_sl_sh]; exact hsl)
  rw [lg_entry_eq]
  have hargs : ∀ (vs : List Value) (n : Nat), lv_args n (vs.map (shV ad)) = shL ad (lv_args n vs) := by
    intro vs
    induction vs with
    | nil => intro n; rfl
    | cons v vs ih => intro n; simp only [List.map_cons, lv_args, shV_cat, ih]; rfl
  rw [hargs, hlv] at hl
  exact hV _ hR va_S.rf hl
end XR

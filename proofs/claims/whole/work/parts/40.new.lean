/-! NEW CELLS: while nothing else is made, the next cell of the memory is the heap's next -/
def nO (kd len : Nat) (M : MM) : Option (Nat × MM) := if mN M < sB then some (mN M, nC kd len M) else none
theorem nC_mS {kd len a : Nat} {M : MM} (h : a ≠ mN M) : mS (nC kd len M) a = mS M a := by show (if a = M.1 then _ else M.2.1 a) = M.2.1 a; exact if_neg h
theorem nC_mI {kd len a : Nat} {M : MM} (h : a ≠ mN M) : mI (nC kd len M) a = mI M a := by funext k; show (if a = M.1 then _ else M.2.2.1 a k) = M.2.2.1 a k; exact if_neg h
theorem nC_mL {kd len a : Nat} {M : MM} (h : a ≠ mN M) : mL (nC kd len M) a = mL M a := by funext k; show (if a = M.1 then _ else M.2.2.2.1 a k) = M.2.2.2.1 a k; exact if_neg h
theorem nC_mR {kd len a : Nat} {M : MM} (h : a ≠ mN M) : mR (nC kd len M) a = mR M a := by funext k; show (if a = M.1 then _ else M.2.2.2.2 a k) = M.2.2.2.2 a k; exact if_neg h
theorem nC_S {kd len : Nat} {M : MM} : mS (nC kd len M) (mN M) = (kd, len) := by show (if M.1 = M.1 then _ else M.2.1 M.1) = _; exact if_pos rfl
theorem nC_I {kd len : Nat} {M : MM} : mI (nC kd len M) (mN M) = fun _ => 0 := by funext k; show (if M.1 = M.1 then _ else M.2.2.1 M.1 k) = _; exact if_pos rfl
theorem nC_L {kd len : Nat} {M : MM} : mL (nC kd len M) (mN M) = fun _ => 0 := by funext k; show (if M.1 = M.1 then _ else M.2.2.2.1 M.1 k) = _; exact if_pos rfl
theorem nC_R {kd len : Nat} {M : MM} : mR (nC kd len M) (mN M) = fun _ => none := by funext k; show (if M.1 = M.1 then _ else M.2.2.2.2 M.1 k) = _; exact if_pos rfl
theorem nC_ws {cy : Nat → ClassId} {ad : Nat → Nat} {sz kd len : Nat} {M : MM} : wsM cy ad sz (nC kd len M) = wsM cy ad sz M ++ [(sz + mN M, cE cy ad (nC kd len M) (mN M))] := by
  show (List.range (mN M + 1)).map _ = _
  rw [List.range_succ, List.map_append]
  congr 1
  apply List.map_congr_left
  intro a ha
  have h : a ≠ mN M := Nat.ne_of_lt (List.mem_range.mp ha)
  rw [cE_congr (nC_mS h) (nC_mI h) (nC_mL h) (nC_mR h)]
/-- a heap with the new cell behind it -/
theorem nC_Rp {D : va_G} {cy : Nat → ClassId} {sz : Nat} {ad : Nat → Nat} {kd len : Nat} {M : MM} {H H1 : Heap} (hR : Rp D cy sz ad true M H) (hn : mN M < sB) (hz : H1.size = H.size + 1) (ho : ∀ q, q < H.size → H1[q]? = H[q]?) (hc : va_at D vwCl (sz + mN M, cE cy ad (nC kd len M) (mN M)) H1) : Rp D cy sz ad true (nC kd len M) H1 := by
  have e := hR.2.2.1 rfl
  refine ⟨?_, by show sz + (mN M + 1) ≤ _; omega, fun _ => by show _ = sz + (mN M + 1); omega, hn⟩
  rw [nC_ws]
  refine va_P.app (hR.1.kept (fun k q hq => ho q.1 (hR.1 k q hq).lt)) (fun k q hq => ?_)
  have h0 : k < 1 := (List.getElem?_eq_some_iff.mp hq).1
  rw [show k = 0 by omega] at hq
  cases hq
  exact hc
section NEW
variable {α : Type} {tr : α → Option Value × MM} {G : Gx} {cc : ByteArray} {nL : Nat} {own : String} {rm : Room} {cells slots pc idx : Nat} {lv lv' : List (Nat × Value)} {st stk : List Value} {M : MM} {res : Option α}
theorem v_new (X : Cb G cc nL own rm true) (q : Nat) {C : String} {T : u_T} {N ci : Nat} (hC : CL ci C T N) (hl : Cond.classLink own idx C ∈ gtbl) (hin : Cond.instantiable C N ∈ gtbl) (hini : Cond.initialized C ∈ gtbl) (hc : cells + 1 ≤ rm.cells) (hs : slots + N ≤ rm.slots) (hd : ∀ k, k < N → kdOf (fTy ci k) < 3) (d : decode cc pc = .ok (.new idx, 3)) {f : Nat → MM → Option α} (hq : pc + 3 = q) (k : ∀ a M', V G tr nL (cells + 1) (slots + N) q lv (.ref a :: st) M' (f a M')) : V G tr nL cells slots pc lv st M (b2 (nO ci 0 M) f) := by
  subst hq
  intro o ho H locs ls hR hS hl0
  obtain ⟨a, M', h1, h2⟩ := b2_some ho
  obtain ⟨hn, h3⟩ := ite_some h1
  cases h3
  have hts := X.2.2.2.2.1
  have hK := X.2.2.2.2.2.1.1
  have hKn := hK.1 ci _ hC.1
  rw [X.2.2.2.2.2.2.2.2.2] at hR
  have hz := hR.2.2.1 rfl
  have hrm := X.2.2.2.2.2.2.2.1
  refine W.newcK X.1 X.2.1 X.2.2.2.1 (hts _ hl) (hts _ hin) (hts _ hini) rfl d (by rw [hrm]; exact hc) (by rw [hrm]; exact hs) hKn.2.1 rfl fun H1 kC hkC e1 z1 o1 => ?_
  have hfN := fNf_of hC
  have hR1 : Rp G.2.2.2.1.1 G.2.2.2.1.2.1 G.2.2.2.1.2.2.1 G.2.2.2.1.2.2.2.1 true (nC ci 0 M) H1 := by
    refine nC_Rp hR hn z1 o1 ?_
    rw [cE_obj (by rw [nC_S]) hC.2.2.2.2, ← hz]
    refine ⟨_, hC.1, (u_born (fTy ci) hts hC.2.1 hKn hkC e1 hC.2.2.1).to (fun j hj => ?_)⟩
    have hj2 := hd j hj
    unfold vp_V
    rw [List.getD_eq_getElem?_getD, oFs_at (by rw [hfN]; exact hj), nC_I, nC_L, nC_R]
    show _ = kdV (fTy ci j) 0 0 none
    revert hj2
    cases fTy ci j <;> intro hj2 <;> first | rfl | exact absurd hj2 (by decide)
  have had : Value.ref H.size = shV G.2.2.2.1.2.2.2.1 (.ref (mN M)) := by
    show _ = Value.ref (G.2.2.2.1.2.2.2.1 (mN M))
    rw [X.2.2.2.2.2.2.1 _ hn, hz]
  have := k (mN M) (nC ci 0 M) o h2 H1 locs ls (by rw [X.2.2.2.2.2.2.2.2.2]; exact hR1) ⟨Nat.le_trans hS.1 (by rw [z1]; exact Nat.le_succ _), fun x g1 g2 => (o1 x (Nat.lt_of_lt_of_le g1 hS.1)).trans (hS.2.1 x g1 g2), hS.2.2⟩ hl0
  rw [List.map_cons, ← had] at this
  exact this
/-- a row of ints, of longs, of booleans -/
theorem v_newa (X : Cb G cc nL own rm true) (q : Nat) {aty : ArrayType} {ty : FieldType} (kd t0 len : Nat) (hty : newarray.typeOf aty = ty) (hw : Cond.arrayClass ty ∈ gtbl) (hN : ty = .int ∧ kd = 20 ∧ t0 = 0 ∨ ty = .long ∧ kd = 21 ∧ t0 = 1 ∨ ty = .boolean ∧ kd = 22 ∧ t0 = 2) {n : Int32} (hn0 : ¬ n < 0) (hn1 : n.toNatClampNeg = len) (hb : len ≤ 100000) (hc : cells + 1 ≤ rm.cells) (hs : slots + len ≤ rm.slots) (d : decode cc pc = .ok (.newarray aty, 2)) {f : Nat → MM → Option α} (hq : pc + 2 = q) (k : ∀ a M', V G tr nL (cells + 1) (slots + len) q lv (.ref a :: st) M' (f a M')) : V G tr nL cells slots pc lv (.int n :: st) M (b2 (nO kd len M) f) := by
  subst hq
  intro o ho H locs ls hR hS hl0
  obtain ⟨a, M', h1, h2⟩ := b2_some ho
  obtain ⟨hn, h3⟩ := ite_some h1
  cases h3
  have hts := X.2.2.2.2.1
  have hK := X.2.2.2.2.2.1.1
  rw [X.2.2.2.2.2.2.2.2.2] at hR
  have hz := hR.2.2.1 rfl
  have hrm := X.2.2.2.2.2.2.2.1
  have had : Value.ref H.size = shV G.2.2.2.1.2.2.2.1 (.ref (mN M)) := by
    show _ = Value.ref (G.2.2.2.1.2.2.2.1 (mN M))
    rw [X.2.2.2.2.2.2.1 _ hn, hz]
  subst hty
  refine va_newaK X.1 X.2.1 (hts _ hw) rfl d rfl hn0 hn1 ?_ (by rw [hrm]; exact hc) (by rw [hrm]; exact hs) rfl fun H1 cA e1 z1 o1 hAr hNm => ?_
  · rcases hN with ⟨h, -⟩ | ⟨h, -⟩ | ⟨h, -⟩ <;> rw [h] <;> simp only [componentBytes] <;> omega
  · have hR1 : Rp G.2.2.2.1.1 G.2.2.2.1.2.1 G.2.2.2.1.2.2.1 G.2.2.2.1.2.2.2.1 true (nC kd len M) H1 := by
      refine nC_Rp hR hn z1 o1 ?_
      rw [← hz]
      rcases hN with ⟨h, rfl, rfl⟩ | ⟨h, rfl, rfl⟩ | ⟨h, rfl, rfl⟩
      · rw [h] at e1 hNm
        have hcy : G.2.2.2.1.2.1 0 = cA := Option.some.inj ((hK.2 0 (G.2.2.2.1.2.1 0, .int) rfl).2.symm.trans hNm)
        rw [cE_20 (by rw [nC_S]), nC_S, nC_I, hcy]
        exact e1
      · rw [h] at e1 hNm
        have hcy : G.2.2.2.1.2.1 1 = cA := Option.some.inj ((hK.2 1 (G.2.2.2.1.2.1 1, .long) rfl).2.symm.trans hNm)
        rw [cE_21 (by rw [nC_S]), nC_S, nC_L, hcy]
        exact e1
      · rw [h] at e1 hNm
        have hcy : G.2.2.2.1.2.1 2 = cA := Option.some.inj ((hK.2 2 (G.2.2.2.1.2.1 2, .boolean) rfl).2.symm.trans hNm)
        rw [cE_22 (by rw [nC_S]), nC_S, nC_I, hcy]
        exact e1
    have := k (mN M) (nC kd len M) o h2 H1 locs ls (by rw [X.2.2.2.2.2.2.2.2.2]; exact hR1) ⟨Nat.le_trans hS.1 (by rw [z1]; exact Nat.le_succ _), fun x g1 g2 => (o1 x (Nat.lt_of_lt_of_le g1 hS.1)).trans (hS.2.1 x g1 g2), hS.2.2⟩ hl0
    rw [List.map_cons, ← had] at this
    exact this
theorem v_newq23 (X : Cb G cc nL own rm true) (q : Nat) (len : Nat) (hl : Cond.classLink own idx RX2 ∈ gtbl) {n : Int32} (hn0 : ¬ n < 0) (hn1 : n.toNatClampNeg = len) (hb : len ≤ 100000) (hc : cells + 1 ≤ rm.cells) (hs : slots + len ≤ rm.slots) (d : decode cc pc = .ok (.anewarray idx, 3)) {f : Nat → MM → Option α} (hq : pc + 3 = q) (k : ∀ a M', V G tr nL (cells + 1) (slots + len) q lv (.ref a :: st) M' (f a M')) : V G tr nL cells slots pc lv (.int n :: st) M (b2 (nO 23 len M) f) := by
  subst hq
  subst hn1
  intro o ho H locs ls hR hS hl0
  obtain ⟨a, M', h1, h2⟩ := b2_some ho
  obtain ⟨hn, h3⟩ := ite_some h1
  cases h3
  have hts := X.2.2.2.2.1
  have hK := X.2.2.2.2.2.1.1
  rw [X.2.2.2.2.2.2.2.2.2] at hR
  have hz := hR.2.2.1 rfl
  have hrm := X.2.2.2.2.2.2.2.1
  have had : Value.ref H.size = shV G.2.2.2.1.2.2.2.1 (.ref (mN M)) := by
    show _ = Value.ref (G.2.2.2.1.2.2.2.1 (mN M))
    rw [X.2.2.2.2.2.2.1 _ hn, hz]
  refine W.anew X.1 X.2.1 X.2.2.2.1 (hts _ hl) (va_AO.use X.2.2.2.2.2.1.2.2.1) rfl d rfl hn0 (by omega) (by rw [hrm]; exact hc) (by rw [hrm]; exact hs) fun cA kA comp f1 f2 f3 f4 => ?_
  generalize hH1 : H.push ({ cls := cA, slots := Array.replicate n.toNatClampNeg .null, vm := .none } : Cell) = H1
  have z1 : H1.size = H.size + 1 := by rw [← hH1, Array.size_push]
  have e1 : H1[H.size]? = some (arrV cA n.toNatClampNeg (fun _ => .null)) := by rw [← hH1, Array.getElem?_push_size, ← arrV_new]
  have o1 : ∀ q : Nat, q < H.size → H1[q]? = H[q]? := fun q hq => by rw [← hH1, Array.getElem?_push, if_neg (Nat.ne_of_lt hq)]
  have hR1 : Rp G.2.2.2.1.1 G.2.2.2.1.2.1 G.2.2.2.1.2.2.1 G.2.2.2.1.2.2.2.1 true (nC 23 n.toNatClampNeg M) H1 := by
    refine nC_Rp hR hn z1 o1 ?_
    rw [← hz]
    obtain ⟨_, _, -, -, -, hNm⟩ := (hK.2 3 (G.2.2.2.1.2.1 3, .object RX2) rfl).2
    have hcy : G.2.2.2.1.2.1 3 = cA := Option.some.inj (hNm.symm.trans f1)
    rw [cE_23 (by rw [nC_S]), nC_S, nC_R, hcy]
    exact e1
  have := k (mN M) (nC 23 n.toNatClampNeg M) o h2 H1 locs ls (by rw [X.2.2.2.2.2.2.2.2.2]; exact hR1) ⟨Nat.le_trans hS.1 (by rw [z1]; exact Nat.le_succ _), fun x g1 g2 => (o1 x (Nat.lt_of_lt_of_le g1 hS.1)).trans (hS.2.1 x g1 g2), hS.2.2⟩ hl0
  rw [List.map_cons, ← had] at this
  exact this
theorem v_newq24 (X : Cb G cc nL own rm true) (q : Nat) (len : Nat) (hl : Cond.classLink own idx RX5 ∈ gtbl) {n : Int32} (hn0 : ¬ n < 0) (hn1 : n.toNatClampNeg = len) (hb : len ≤ 100000) (hc : cells + 1 ≤ rm.cells) (hs : slots + len ≤ rm.slots) (d : decode cc pc = .ok (.anewarray idx, 3)) {f : Nat → MM → Option α} (hq : pc + 3 = q) (k : ∀ a M', V G tr nL (cells + 1) (slots + len) q lv (.ref a :: st) M' (f a M')) : V G tr nL cells slots pc lv (.int n :: st) M (b2 (nO 24 len M) f) := by
  subst hq
  subst hn1
  intro o ho H locs ls hR hS hl0
  obtain ⟨a, M', h1, h2⟩ := b2_some ho
  obtain ⟨hn, h3⟩ := ite_some h1
  cases h3
  have hts := X.2.2.2.2.1
  have hK := X.2.2.2.2.2.1.1
  rw [X.2.2.2.2.2.2.2.2.2] at hR
  have hz := hR.2.2.1 rfl
  have hrm := X.2.2.2.2.2.2.2.1
  have had : Value.ref H.size = shV G.2.2.2.1.2.2.2.1 (.ref (mN M)) := by
    show _ = Value.ref (G.2.2.2.1.2.2.2.1 (mN M))
    rw [X.2.2.2.2.2.2.1 _ hn, hz]
  refine W.anew X.1 X.2.1 X.2.2.2.1 (hts _ hl) (va_AO.use X.2.2.2.2.2.1.2.2.2.1) rfl d rfl hn0 (by omega) (by rw [hrm]; exact hc) (by rw [hrm]; exact hs) fun cA kA comp f1 f2 f3 f4 => ?_
  generalize hH1 : H.push ({ cls := cA, slots := Array.replicate n.toNatClampNeg .null, vm := .none } : Cell) = H1
  have z1 : H1.size = H.size + 1 := by rw [← hH1, Array.size_push]
  have e1 : H1[H.size]? = some (arrV cA n.toNatClampNeg (fun _ => .null)) := by rw [← hH1, Array.getElem?_push_size, ← arrV_new]
  have o1 : ∀ q : Nat, q < H.size → H1[q]? = H[q]? := fun q hq => by rw [← hH1, Array.getElem?_push, if_neg (Nat.ne_of_lt hq)]
  have hR1 : Rp G.2.2.2.1.1 G.2.2.2.1.2.1 G.2.2.2.1.2.2.1 G.2.2.2.1.2.2.2.1 true (nC 24 n.toNatClampNeg M) H1 := by
    refine nC_Rp hR hn z1 o1 ?_
    rw [← hz]
    obtain ⟨_, _, -, -, -, hNm⟩ := (hK.2 4 (G.2.2.2.1.2.1 4, .object RX5) rfl).2
    have hcy : G.2.2.2.1.2.1 4 = cA := Option.some.inj (hNm.symm.trans f1)
    rw [cE_24 (by rw [nC_S]), nC_S, nC_R, hcy]
    exact e1
  have := k (mN M) (nC 24 n.toNatClampNeg M) o h2 H1 locs ls (by rw [X.2.2.2.2.2.2.2.2.2]; exact hR1) ⟨Nat.le_trans hS.1 (by rw [z1]; exact Nat.le_succ _), fun x g1 g2 => (o1 x (Nat.lt_of_lt_of_le g1 hS.1)).trans (hS.2.1 x g1 g2), hS.2.2⟩ hl0
  rw [List.map_cons, ← had] at this
  exact this
theorem v_iincC {tg : Bool} (X : Cb G cc nL own rm tg) (q : Nat) {i : Nat} (n : Nat) {c : Int} {x v w : Int32} (d : decode cc pc = .ok (.iinc i c, 3)) (hv : lvn lv n = some (i, .int x)) (hc : Int32.ofInt c = v) (hw : x + v = w) (hn : i < nL) (he : lset lv i (.int w) = lv') (hq : pc + 3 = q) (k : V G tr nL cells slots q lv' st M res) : V G tr nL cells slots pc lv st M res := by
  subst hw
  subst hq
  intro o ho H locs ls hR hS hl
  subst hc
  have hk : (shL G.2.2.2.1.2.2.2.1 lv)[n]? = some (i, .int x) := by
    rw [lvn_get] at hv
    unfold shL
    rw [List.getElem?_map, hv]
    rfl
  exact lv_iinc X.1 X.2.1 d hl hk rfl hn rfl (fun ls' hl' => k o ho H locs ls' hR hS (lset_has1 (v := .int (x + Int32.ofInt c)) he hl'))
theorem v_geT {tg : Bool} (X : Cb G cc nL own rm tg) {x y : Int32} {off : Int} (tgt : Nat) (d : decode cc pc = .ok (.if_icmp .ge off, 3)) (ht : (pc : Int) + off = (tgt : Int)) (h : y ≤ x) (k : V G tr nL cells slots tgt lv st M res) : V G tr nL cells slots pc lv (.int y :: .int x :: st) M res := by
  intro o ho H locs ls hR hS hl
  exact lv_icmp_ge X.1 X.2.1 d ht (fun _ => k o ho H locs ls hR hS hl) (fun h9 => absurd h h9)
theorem v_geF {tg : Bool} (X : Cb G cc nL own rm tg) (q : Nat) {x y : Int32} {off : Int} (tgt : Nat) (d : decode cc pc = .ok (.if_icmp .ge off, 3)) (ht : (pc : Int) + off = (tgt : Int)) (h : ¬ y ≤ x) (hq : pc + 3 = q) (k : V G tr nL cells slots q lv st M res) : V G tr nL cells slots pc lv (.int y :: .int x :: st) M res := by
  subst hq
  intro o ho H locs ls hR hS hl
  exact lv_icmp_ge X.1 X.2.1 d ht (fun h9 => absurd h9 h) (fun _ => k o ho H locs ls hR hS hl)
end NEW
section INI
variable {α : Type} {tr : α → Option Value × MM} {G : Gx} {cc : ByteArray} {nL : Nat} {own : String} {cells slots pc idx n0 c0 s0 n1 c1 s1 : Nat} {lv lv' : List (Nat × Value)} {st stk : List Value} {M : MM} {b n : Nat} {y : MethodName} {cc' : ByteArray} {nL' : Nat}
theorem v_ini (X : Cb G cc nL own (RM n0 c0 s0) true) (q : Nat) (K : CIt y cc' nL' n) (hl : Cond.methodLink own idx y ∈ gtbl) (hr : rmB n0 c0 s0 n1 c1 s1 nL' cells slots = true) (As : List Value) (hst : stk = As.reverse ++ .ref b :: st) (hn : As.length = n) (hw : stW st = true) (d : decode cc pc = .ok (.invokespecial idx, 3)) {fc : Option MM} {f : MM → Option α} (hq : pc + 3 = q) (hc : ∀ M1, fc = some M1 → CtAt G.1.2.1 y cc' nL' none (RM n1 c1 s1) true (.ref b :: As) M none M1) (k : ∀ M1, V G tr nL (cells + c1) (slots + s1) q lv st M1 (f M1)) : V G tr nL cells slots pc lv stk M (b1 fc f) := by
  subst hq
  intro o ho
  obtain ⟨M1, h1, h2⟩ := b1_some ho
  have hm := hc M1 h1 G.2.2.2.1.1 G.2.2.2.1.2.1 G.2.2.2.1.2.2.1 G.2.2.2.1.2.2.2.1 X.2.2.2.2.2.2.1
  rw [← X.2.2.2.2.2.2.2.2.2] at hm
  have hw' : ((st.map (shV G.2.2.2.1.2.2.2.1)).map fun v => v.category).sum ≤ 8 := by rw [cats]; exact stW_of hw
  have hroom := rmB_of hr
  have hts := X.2.2.2.2.1
  refine v_after (rm' := RM n1 c1 s1) (r := none) (st := st) X (A := (Value.ref (G.2.2.2.1.2.2.2.1 b) :: As.map (shV G.2.2.2.1.2.2.2.1)).toArray) (st0 := (As.map (shV G.2.2.2.1.2.2.2.1)).reverse ++ .ref (G.2.2.2.1.2.2.2.1 b) :: st.map (shV G.2.2.2.1.2.2.2.1)) (fun H locs ls hR hS hsz => ?_) (by rw [hst]; simp [shV]) (k M1) o h2
  exact va_runI (As := As.map (shV G.2.2.2.1.2.2.2.1)) ⟨X.1, X.2.1, X.2.2.1, X.2.2.2.1, X.2.2.2.2.1⟩ hm (cwI n hts (gIn K.1) rfl rfl rfl (hts _ K.1.2.1) (hts _ hl) (hts _ K.2.1) K.2.2 K.1.2.2 (by rw [X.2.2.2.2.2.2.2.1]; exact ⟨hroom.1, hroom.2.1⟩)) ⟨Pc_blind, fun U hU hW => Pc_of X (av := (Value.ref b :: As).map (shV G.2.2.2.1.2.2.2.1)) hR hS U hU hW⟩ rfl (by rw [List.length_map]; exact hn) hsz rfl (lv_room hw') d (by rw [X.2.2.2.2.2.2.2.1]; exact ⟨hroom.2.2.1, hroom.2.2.2⟩)
theorem v_iniN (X : Cb G cc nL own (RM n0 c0 s0) true) (q : Nat) (K : CIt y cc' nL' n) {host : String} (hl : (own, idx, y, host) ∈ nestL) (hr : rmB n0 c0 s0 n1 c1 s1 nL' cells slots = true) (As : List Value) (hst : stk = As.reverse ++ .ref b :: st) (hn : As.length = n) (hw : stW st = true) (d : decode cc pc = .ok (.invokespecial idx, 3)) {fc : Option MM} {f : MM → Option α} (hq : pc + 3 = q) (hc : ∀ M1, fc = some M1 → CtAt G.1.2.1 y cc' nL' none (RM n1 c1 s1) true (.ref b :: As) M none M1) (k : ∀ M1, V G tr nL (cells + c1) (slots + s1) q lv st M1 (f M1)) : V G tr nL cells slots pc lv stk M (b1 fc f) := by
  subst hq
  intro o ho
  obtain ⟨M1, h1, h2⟩ := b1_some ho
  have hm := hc M1 h1 G.2.2.2.1.1 G.2.2.2.1.2.1 G.2.2.2.1.2.2.1 G.2.2.2.1.2.2.2.1 X.2.2.2.2.2.2.1
  rw [← X.2.2.2.2.2.2.2.2.2] at hm
  have hw' : ((st.map (shV G.2.2.2.1.2.2.2.1)).map fun v => v.category).sum ≤ 8 := by rw [cats]; exact stW_of hw
  have hroom := rmB_of hr
  have hts := X.2.2.2.2.1
  have hnest := X.2.2.2.2.2.1.2.1 _ hl
  refine v_after (rm' := RM n1 c1 s1) (r := none) (st := st) X (A := (Value.ref (G.2.2.2.1.2.2.2.1 b) :: As.map (shV G.2.2.2.1.2.2.2.1)).toArray) (st0 := (As.map (shV G.2.2.2.1.2.2.2.1)).reverse ++ .ref (G.2.2.2.1.2.2.2.1 b) :: st.map (shV G.2.2.2.1.2.2.2.1)) (fun H locs ls hR hS hsz => ?_) (by rw [hst]; simp [shV]) (k M1) o h2
  exact va_runIN (As := As.map (shV G.2.2.2.1.2.2.2.1)) ⟨X.1, X.2.1, X.2.2.1, X.2.2.2.1, X.2.2.2.2.1⟩ hm ⟨va_cnB n hts (gIn K.1) rfl rfl rfl hnest (hts _ K.1.2.1) K.1.2.2 (by rw [X.2.2.2.2.2.2.2.1]; exact ⟨hroom.1, hroom.2.1⟩), K.2.2, hts _ K.2.1⟩ ⟨Pc_blind, fun U hU hW => Pc_of X (av := (Value.ref b :: As).map (shV G.2.2.2.1.2.2.2.1)) hR hS U hU hW⟩ rfl (by rw [List.length_map]; exact hn) hsz rfl (lv_room hw') d (by rw [X.2.2.2.2.2.2.2.1]; exact ⟨hroom.2.2.1, hroom.2.2.2⟩)
end INI

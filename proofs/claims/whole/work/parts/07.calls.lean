section ARQ
variable {α : Type} {tr : α → Option Value × MM} {G : Gx} {cc : ByteArray} {nL : Nat} {own : String} {rm : Room} {tg : Bool} {cells slots pc : Nat} {lv lv' : List (Nat × Value)} {st : List Value} {M : MM} {res : Option α} {a : Nat} {i : Int32}
theorem v_aald23 (X : Cb G cc nL own rm tg) (q : Nat) (d : decode cc pc = .ok (.aaload, 1)) {f : Nat → Option α} (hq : pc + 1 = q) (kk : ∀ v, V G tr nL cells slots q lv (.ref v :: st) M (f v)) : V G tr nL cells slots pc lv (.int i :: .ref a :: st) M (b1 (ldR 23 a i M) f) := by
  subst hq
  intro o ho H locs ls hR hS hl
  obtain ⟨v, h1, h2⟩ := b1_some ho
  obtain ⟨⟨hO, hi⟩, hv⟩ := iteO_some h1
  obtain ⟨hlt, hsh⟩ := isO_of hO
  have he := wsM_at (cy := G.2.2.2.1.2.1) (ad := G.2.2.2.1.2.2.2.1) (sz := G.2.2.2.1.2.2.1) hlt
  rw [cE_23 hsh] at he
  show W _ _ _ _ _ _ _ _ _ _ _ _ _ _ _ (F0 _ _ _ (_ :: .ref (G.2.2.2.1.2.2.2.1 a) :: _))
  rw [ad_of X hR hlt]
  refine va_aldq X.1 X.2.1 X.2.2.2.2.2.1.1 hR.1 a 3 he rfl (inb_in hi) d ?_
  rw [hv]
  exact kk _ o h2 H locs ls hR hS hl
theorem v_aald24 (X : Cb G cc nL own rm tg) (q : Nat) (d : decode cc pc = .ok (.aaload, 1)) {f : Nat → Option α} (hq : pc + 1 = q) (kk : ∀ v, V G tr nL cells slots q lv (.ref v :: st) M (f v)) : V G tr nL cells slots pc lv (.int i :: .ref a :: st) M (b1 (ldR 24 a i M) f) := by
  subst hq
  intro o ho H locs ls hR hS hl
  obtain ⟨v, h1, h2⟩ := b1_some ho
  obtain ⟨⟨hO, hi⟩, hv⟩ := iteO_some h1
  obtain ⟨hlt, hsh⟩ := isO_of hO
  have he := wsM_at (cy := G.2.2.2.1.2.1) (ad := G.2.2.2.1.2.2.2.1) (sz := G.2.2.2.1.2.2.1) hlt
  rw [cE_24 hsh] at he
  show W _ _ _ _ _ _ _ _ _ _ _ _ _ _ _ (F0 _ _ _ (_ :: .ref (G.2.2.2.1.2.2.2.1 a) :: _))
  rw [ad_of X hR hlt]
  refine va_aldq X.1 X.2.1 X.2.2.2.2.2.1.1 hR.1 a 4 he rfl (inb_in hi) d ?_
  rw [hv]
  exact kk _ o h2 H locs ls hR hS hl
end ARQ
section CAL
variable {α : Type} {tr : α → Option Value × MM} {G : Gx} {cc : ByteArray} {nL : Nat} {own : String} {rm : Room} {tg : Bool} {cells slots pc idx : Nat} {lv lv' : List (Nat × Value)} {st stk As : List Value} {M : MM} {res : Option α} {b ci n : Nat} {y : MethodName} {cc' : ByteArray} {nL' : Nat} {ret' : Option FieldType} {rm' : Room} {r : Option Value} {M1 : MM}
/-- what the tables say of a method that is called: of any; of one with a receiver; of a static one -/
def Cal (y : MethodName) (cc' : ByteArray) (nL' : Nat) (ret' : Option FieldType) (n : Nat) : Prop := Cond.code y cc' nL' ret' ∈ gtbl ∧ Cond.initialized y.cls ∈ gtbl ∧ (y.cls ≠ "java/lang/invoke/MethodHandle" ∧ y.cls ≠ "java/lang/invoke/VarHandle" ∧ (parseMethodDescriptor y.desc).map (fun d => d.parameters.length) = some n)
def CalV (y : MethodName) : Prop := Cond.instanceMethod y ∈ gtbl ∧ Cond.selects y.cls y y ∈ gtbl
/-- the room that a callee takes of its caller's -/
def Rm (rm rm' : Room) (nL' cells slots : Nat) : Prop := rm'.frames + 1 ≤ rm.frames ∧ 8 + (nL' + 11) + rm'.locals ≤ rm.locals ∧ cells + rm'.cells ≤ rm.cells ∧ slots + rm'.slots ≤ rm.slots
theorem gIn {y : MethodName} {cc' : ByteArray} {nL' n : Nat} {ret' : Option FieldType} (h : Cal y cc' nL' ret' n) : GoodIn gtbl (.code y cc' nL' ret' :: gtbl) := by
  intro w hw
  rcases List.mem_cons.mp hw with rfl | hw
  · exact ⟨h.1, gtbl_good h.1⟩
  · exact ⟨hw, gtbl_good hw⟩
theorem gInV {y : MethodName} {cc' : ByteArray} {nL' n : Nat} {ret' : Option FieldType} (h : Cal y cc' nL' ret' n) (hv : CalV y) (hl : Cond.methodLink own idx y ∈ gtbl) : GoodIn gtbl (wsV own idx y.cls y (.code y cc' nL' ret' :: gtbl)) := by
  intro w hw
  unfold wsV at hw
  rcases List.mem_append.mp hw with hw | hw
  · have : w ∈ gtbl := by
      simp only [List.mem_cons, List.not_mem_nil, or_false] at hw
      rcases hw with rfl | rfl | rfl | rfl
      · exact hl
      · exact hv.1
      · exact hv.2
      · exact h.2.1
    exact ⟨this, gtbl_good this⟩
  · exact gIn h w hw
theorem gInS {y : MethodName} {cc' : ByteArray} {nL' n : Nat} {ret' : Option FieldType} (h : Cal y cc' nL' ret' n) (hs : Cond.static y ∈ gtbl) (ho : y.cls = own) (hl : Cond.methodLink own idx y ∈ gtbl) : GoodIn gtbl (wsS own idx y (.code y cc' nL' ret' :: gtbl)) := by
  intro w hw
  unfold wsS at hw
  rcases List.mem_append.mp hw with hw | hw
  · have : w ∈ gtbl := by
      simp only [List.mem_cons, List.not_mem_nil, or_false] at hw
      rcases hw with rfl | rfl | rfl
      · exact hl
      · exact hs
      · rw [← ho]; exact h.2.1
    exact ⟨this, gtbl_good this⟩
  · exact gIn h w hw
/-- behind any call -/
theorem v_after (X : Cb G cc nL own rm tg) {A : Array Value} {st0 : List Value} (hr : ∀ (H : Heap) (locs : List Loc) (ls : Array Slot), Rp G.2.2.2.1.1 G.2.2.2.1.2.1 G.2.2.2.1.2.2.1 G.2.2.2.1.2.2.2.1 G.2.2.2.1.2.2.2.2 M H → va_S (fun q => G.2.2.2.1.2.2.1 ≤ q) G.2.1.1.heap H locs → ls.size = nL →
      va_Run G.1.1 G.1.2.1 G.1.2.2.1 G.1.2.2.2 G.2.1.1 G.2.1.2.1 G.2.1.2.2.1 G.2.1.2.2.2 G.2.2.1.1 G.2.2.1.2 H locs cells slots rm'.cells rm'.slots (F0 G.2.1.2.1 pc ls st0) (st.map (shV G.2.2.2.1.2.2.2.1)) (stQ G.2.2.2.1.1 G.2.2.2.1.2.1 G.2.2.2.1.2.2.1 G.2.2.2.1.2.2.2.1 G.2.2.2.1.2.2.2.2 r M1 A) (fun q => G.2.2.2.1.2.2.1 ≤ q))
    (hst : stk.map (shV G.2.2.2.1.2.2.2.1) = st0) (k : V G tr nL (cells + rm'.cells) (slots + rm'.slots) (pc + 3) lv (r.toList ++ st) M1 res) : V G tr nL cells slots pc lv stk M res := by
  intro o ho H locs ls hR hS hl T hT XT
  rw [hst]
  obtain ⟨v, s0, t, T', L, h0, X2, hL, e1, e2, ⟨hv, hR1, hF⟩, go⟩ := hr H locs ls hR hS hl.1 T hT XT
  have hv : v = r.map (shV G.2.2.2.1.2.2.2.1) := by cases hv; rfl
  subst hv
  have hS1 : va_S (fun q => G.2.2.2.1.2.2.1 ≤ q) G.2.1.1.heap T'.heap (locs ++ L) := by
    refine ⟨?_, fun q h1 h2 => ?_, fun q hq => ?_⟩
    · rw [e1]; exact Nat.le_trans hS.1 (by rw [← h0]; exact hF.1)
    · rw [e1, hF.2 q (by rw [h0]; exact Nat.lt_of_lt_of_le h1 hS.1) h2, h0]; exact hS.2.1 q h1 h2
    · rcases List.mem_append.mp hq with h | h
      · exact hS.2.2 q h
      · exact hL q h
  obtain ⟨t9, a1, b1⟩ := k o ho T'.heap (locs ++ L) ls (by rw [e1]; exact hR1) hS1 hl T' rfl X2
  refine ⟨t9, ?_, b1⟩
  refine go t9 ?_
  have : (r.map (shV G.2.2.2.1.2.2.2.1)).toList ++ st.map (shV G.2.2.2.1.2.2.2.1) = (r.toList ++ st).map (shV G.2.2.2.1.2.2.2.1) := by cases r <;> rfl
  show Steps _ _ _ (T'.setTop (F0 _ (pc + 3) ls ((r.map (shV G.2.2.2.1.2.2.2.1)).toList ++ st.map (shV G.2.2.2.1.2.2.2.1)))) t9
  rw [this]
  exact a1
theorem Pc_blind {D : va_G} {cy : Nat → ClassId} {sz : Nat} {ad : Nat → Nat} {tg : Bool} {M : MM} {av : List Value} : FrameBlind (va_Pc av (fun U => Rp D cy sz ad tg M U.heap ∧ KK D cy sz ad U ∧ sz ≤ U.heap.size)) := by
  intro a U g mk h
  obtain ⟨h1, h2, h3, h4⟩ := h
  exact ⟨h1, h2, h3.blind rfl rfl, h4⟩
theorem Pc_of (X : Cb G cc nL own rm tg) {H : Heap} {locs : List Loc} {av : List Value} (hR : Rp G.2.2.2.1.1 G.2.2.2.1.2.1 G.2.2.2.1.2.2.1 G.2.2.2.1.2.2.2.1 G.2.2.2.1.2.2.2.2 M H) (hS : va_S (fun q => G.2.2.2.1.2.2.1 ≤ q) G.2.1.1.heap H locs) (U : State) (hU : U.heap = H) (hW : G.2.1.1.WarmedH U.vm) : va_Pc av (fun U => Rp G.2.2.2.1.1 G.2.2.2.1.2.1 G.2.2.2.1.2.2.1 G.2.2.2.1.2.2.2.1 G.2.2.2.1.2.2.2.2 M U.heap ∧ KK G.2.2.2.1.1 G.2.2.2.1.2.1 G.2.2.2.1.2.2.1 G.2.2.2.1.2.2.2.1 U ∧ G.2.2.2.1.2.2.1 ≤ U.heap.size) av.toArray U := by
  refine ⟨rfl, by rw [hU]; exact hR, X.2.2.2.2.2.1.move (locs := locs) hW (by rw [hU]; exact hS), by rw [hU]; exact Nat.le_trans X.2.2.2.2.2.2.2.2.1 hS.1⟩
theorem v_callV (X : Cb G cc nL own rm tg) (cl : Cal y cc' nL' ret' n) (cv : CalV y) (hl : Cond.methodLink own idx y ∈ gtbl) (hroom : Rm rm rm' nL' cells slots) (hn : As.length = n) {C : String} {T : u_T} {N : Nat} (hcl : CL ci C T N) (hC : y.cls = C) (hO : isO ci b M = true) (hc : CtAt G.1.2.1 y cc' nL' ret' rm' tg (.ref b :: As) M r M1) (hst : stk = As.reverse ++ .ref b :: st) (hw : (st.map fun v => v.category).sum ≤ 8) (d : decode cc pc = .ok (.invokevirtual idx, 3)) (k : V G tr nL (cells + rm'.cells) (slots + rm'.slots) (pc + 3) lv (r.toList ++ st) M1 res) : V G tr nL cells slots pc lv stk M res := by
  obtain ⟨hlt, hsh⟩ := isO_of hO
  have hm := hc G.2.2.2.1.1 G.2.2.2.1.2.1 G.2.2.2.1.2.2.1 G.2.2.2.1.2.2.2.1 X.2.2.2.2.2.2.1
  rw [← X.2.2.2.2.2.2.2.2.2] at hm
  have hw' : ((st.map (shV G.2.2.2.1.2.2.2.1)).map fun v => v.category).sum ≤ 8 := by
    rw [List.map_map]
    have : ((fun v : Value => v.category) ∘ shV G.2.2.2.1.2.2.2.1) = fun v => v.category := by funext v; exact shV_cat _ v
    rw [this]; exact hw
  refine v_after (rm' := rm') X (A := (Value.ref (G.2.2.2.1.2.2.2.1 b) :: As.map (shV G.2.2.2.1.2.2.2.1)).toArray) (st0 := (As.map (shV G.2.2.2.1.2.2.2.1)).reverse ++ .ref (G.2.2.2.1.2.2.2.1 b) :: st.map (shV G.2.2.2.1.2.2.2.1)) (fun H locs ls hR hS hsz => ?_) (by rw [hst]; simp [shV]) k
  have he := wsM_at (cy := G.2.2.2.1.2.1) (ad := G.2.2.2.1.2.2.2.1) (sz := G.2.2.2.1.2.2.1) hlt
  rw [cE_obj hsh hcl.2.2.2.2] at he
  have hrc := va_recv X.2.2.2.2.2.1.1 hR.1 hcl.1 he
  rw [← ad_of X hR hlt] at hrc
  exact va_runV (C := y.cls) (As := As.map (shV G.2.2.2.1.2.2.2.1)) ⟨X.1, X.2.1, X.2.2.1, X.2.2.2.1, X.2.2.2.2.1⟩ hm (cwV n X.2.2.2.2.1 (gInV cl cv hl) rfl rfl rfl ⟨rfl, cl.2.2⟩ (by rw [X.2.2.2.2.2.2.2.1]; exact ⟨hroom.1, hroom.2.1⟩)) ⟨Pc_blind, by rw [hC]; exact hrc, fun U hU hW => Pc_of X (av := (Value.ref b :: As).map (shV G.2.2.2.1.2.2.2.1)) hR hS U hU hW⟩ rfl (by rw [List.length_map]; exact hn) hsz rfl (lv_room hw') d (by rw [X.2.2.2.2.2.2.2.1]; exact ⟨hroom.2.2.1, hroom.2.2.2⟩)
theorem v_callS (X : Cb G cc nL own rm tg) (cl : Cal y cc' nL' ret' n) (hs : Cond.static y ∈ gtbl) (ho : y.cls = own) (hl : Cond.methodLink own idx y ∈ gtbl) (hroom : Rm rm rm' nL' cells slots) (hn : As.length = n) (hc : CtAt G.1.2.1 y cc' nL' ret' rm' tg As M r M1) (hst : stk = As.reverse ++ st) (hw : (st.map fun v => v.category).sum ≤ 8) (d : decode cc pc = .ok (.invokestatic idx, 3)) (k : V G tr nL (cells + rm'.cells) (slots + rm'.slots) (pc + 3) lv (r.toList ++ st) M1 res) : V G tr nL cells slots pc lv stk M res := by
  have hm := hc G.2.2.2.1.1 G.2.2.2.1.2.1 G.2.2.2.1.2.2.1 G.2.2.2.1.2.2.2.1 X.2.2.2.2.2.2.1
  rw [← X.2.2.2.2.2.2.2.2.2] at hm
  have hw' : ((st.map (shV G.2.2.2.1.2.2.2.1)).map fun v => v.category).sum ≤ 8 := by
    rw [List.map_map]
    have : ((fun v : Value => v.category) ∘ shV G.2.2.2.1.2.2.2.1) = fun v => v.category := by funext v; exact shV_cat _ v
    rw [this]; exact hw
  refine v_after (rm' := rm') X (A := (As.map (shV G.2.2.2.1.2.2.2.1)).toArray) (st0 := (As.map (shV G.2.2.2.1.2.2.2.1)).reverse ++ st.map (shV G.2.2.2.1.2.2.2.1)) (fun H locs ls hR hS hsz => ?_) (by rw [hst]; simp) k
  exact va_runS (As := As.map (shV G.2.2.2.1.2.2.2.1)) ⟨X.1, X.2.1, X.2.2.1, X.2.2.2.1, X.2.2.2.2.1⟩ hm (cwS n X.2.2.2.2.1 (gInS cl hs ho hl) rfl rfl rfl ⟨ho, cl.2.2⟩ (by rw [X.2.2.2.2.2.2.2.1]; exact ⟨hroom.1, hroom.2.1⟩)) ⟨Pc_blind, fun U hU hW => Pc_of X (av := As.map (shV G.2.2.2.1.2.2.2.1)) hR hS U hU hW⟩ rfl (by rw [List.length_map]; exact hn) hsz rfl (lv_room hw') d (by rw [X.2.2.2.2.2.2.2.1]; exact ⟨hroom.2.2.1, hroom.2.2.2⟩)
theorem lg_sl_sh (ad : Nat → Nat) : ∀ av : List Value, (lg_sl (av.map (shV ad))).length = (lg_sl av).length
  | [] => rfl
  | v :: vs => by
    have ih := lg_sl_sh ad vs
    unfold lg_sl at ih ⊢
    rw [List.map_cons, List.flatMap_cons, List.flatMap_cons, List.length_append, List.length_append, ih, shV_cat]
    by_cases h : v.category = 2
    · rw [if_pos h, if_pos h]; rfl
    · rw [if_neg h, if_neg h]; rfl
/-- a method's contract out of the judgement at its entry -/
theorem ct_of {l : Launch} {y : MethodName} {cc : ByteArray} {nL : Nat} {ret : Option FieldType} {rm : Room} {tg : Bool} {av : List Value} {M : MM} (hy : plainName y.cls = true) (hsl : (lg_sl av).length ≤ nL) (lv0 : List (Nat × Value)) (hlv : lv_args 0 av = lv0) {α : Type} {tr : α → Option Value × MM} {res : Option α} {o : α} (hres : res = some o)
    (h : ∀ G : Gx, Cb G cc nL y.cls rm tg → Cr G ret rm.cells rm.slots → G.2.2.1.1.name = y.name → G.1.2.1 = l → V G tr nL 0 0 0 lv0 [] M res) : CtAt l y cc nL ret rm tg av M (tr o).1 (tr o).2 := by
  intro D cy sz ad had
  refine Met.ofW (cc := cc) (maxL := nL) (ret := ret) hy rfl ?_
  intro p e s m args below meth c s₁ B hml hv
  obtain ⟨rfl, hR, hK, hsz⟩ := hv
  have hts := atoms_spec (ws := .code y cc nL ret :: gtbl) B.pre
  have hX : Cb ((p, l, e, (headSpec (.code y cc nL ret :: gtbl) rm).room), (s, m, (av.map (shV ad)).toArray, below), (meth, c), (D, cy, sz, ad, tg), fun o => MQ below (stQ D cy sz ad tg o.1 o.2) (av.map (shV ad)).toArray s rm.cells rm.slots (fun q => sz ≤ q)) cc nL y.cls rm tg := ⟨B.exec, B.bytes, hml, findClass_of_methodNamed B.named, fun w hw => hts w (List.mem_cons_of_mem _ hw), hK, had, rfl, hsz, rfl⟩
  have hV := h _ hX ⟨B.returns, B.notSynchronized, fun _ _ => rfl⟩ (name_of_methodNamed B.named B.method).1 rfl o hres s.heap []
  have hlen := lg_sl_sh ad av
  have hl := lv_entry (av.map (shV ad)) (n := nL) (by rw [hlen]; exact hsl)
  rw [lg_entry_eq]
  have hargs : ∀ (vs : List Value) (n : Nat), lv_args n (vs.map (shV ad)) = shL ad (lv_args n vs) := by
    intro vs
    induction vs with
    | nil => intro n; rfl
    | cons v vs ih => intro n; simp only [List.map_cons, lv_args, shV_cat, ih]; rfl
  rw [hargs, hlv] at hl
  exact hV _ hR va_S.rf hl
end CAL

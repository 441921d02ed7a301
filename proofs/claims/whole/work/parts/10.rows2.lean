theorem nof {P : Prop} : (false = true → P) := fun h => by cases h
section R2
variable {α : Type} {tr : α → Option Value × MM} {G : Gx} {cc : ByteArray} {nL : Nat} {own : String} {rm : Room} {tg : Bool} {cells slots pc idx : Nat} {lv lv' : List (Nat × Value)} {st stk : List Value} {M : MM} {res : Option α}
theorem v_bnI {x : Int32} {f : Int32 → Option α} (k : ∀ x, V G tr nL cells slots pc lv (.int x :: st) M (f x)) : V G tr nL cells slots pc lv (.int x :: st) M (bn x f) := k x
theorem v_bnJ {x : Int64} {f : Int64 → Option α} (k : ∀ x, V G tr nL cells slots pc lv (.long x :: st) M (f x)) : V G tr nL cells slots pc lv (.long x :: st) M (bn x f) := k x
theorem v_sb (ks : List Nat) (k : V G tr nL cells slots pc lv' st M res) (he : ks.filterMap (lvn lv) = lv') : V G tr nL cells slots pc lv st M res := v_sub ks he k
/-! switches -/
def tabB (pc : Nat) (lo hi : Int) (offs : Array Int) (v : Int) (tgt : Nat) : Bool := decide (¬ v < lo) && (decide (¬ hi < v) && (match offs[(v - lo).toNat]? with
  | some off => decide ((pc : Int) + off = (tgt : Int))
  | none => false))
theorem v_tabIn (X : Cb G cc nL own rm tg) (tgt : Nat) {dflt lo hi : Int} {offs : Array Int} {len : Nat} {x v : Int32} (d : decode cc pc = .ok (.tableswitch dflt lo hi offs, len)) (e : x = v) (h : tabB pc lo hi offs v.toInt tgt = true) (k : V G tr nL cells slots tgt lv st M res) : V G tr nL cells slots pc lv (.int x :: st) M res := by
  intro o ho H locs ls hR hS hl
  subst e
  unfold tabB at h
  simp only [Bool.and_eq_true, decide_eq_true_eq] at h
  obtain ⟨h1, h2, h3⟩ := h
  split at h3
  · rename_i off ho9
    exact lv_tableIn X.1 X.2.1 d h1 h2 ho9 (by simpa using h3) (k o ho H locs ls hR hS hl)
  · cases h3
def allNe (x : Int32) : List Int32 → Prop
  | [] => True
  | v :: l => ¬ x = v ∧ allNe x l
theorem allNe_mem {x : Int32} : ∀ {l : List Int32}, allNe x l → ∀ v ∈ l, ¬ x = v
  | [], _, v, h => by cases h
  | a :: l, h, v, hv => by
    rcases List.mem_cons.mp hv with rfl | hv
    · exact h.1
    · exact allNe_mem h.2 v hv
def tabO (lo hi : Int) (vs : List Int32) : Bool := (List.range (hi - lo + 1).toNat).all (fun k => vs.any (fun v => decide (v.toInt = lo + k)))
theorem v_tabOut (X : Cb G cc nL own rm tg) (tgt : Nat) {dflt lo hi : Int} {offs : Array Int} {len : Nat} {x : Int32} (d : decode cc pc = .ok (.tableswitch dflt lo hi offs, len)) (vs : List Int32) (hn : allNe x vs) (hv : tabO lo hi vs = true) (ht : (pc : Int) + dflt = (tgt : Int)) (k : V G tr nL cells slots tgt lv st M res) : V G tr nL cells slots pc lv (.int x :: st) M res := by
  intro o ho H locs ls hR hS hl
  refine lv_tableOut X.1 X.2.1 d ?_ ht (k o ho H locs ls hR hS hl)
  by_cases h1 : x.toInt < lo
  · exact Or.inl h1
  · by_cases h2 : hi < x.toInt
    · exact Or.inr h2
    · exfalso
      unfold tabO at hv
      have h3 := List.all_eq_true.mp hv (x.toInt - lo).toNat (List.mem_range.mpr (by omega))
      obtain ⟨v, h4, h5⟩ := List.any_eq_true.mp h3
      have h6 : v.toInt = lo + ((x.toInt - lo).toNat : Int) := by simpa using h5
      exact allNe_mem hn v h4 (Int32.toInt_inj.mp (by omega))
def lkB (pc : Nat) (dflt : Int) (ps : Array (Int × Int)) (v : Int) (tgt : Nat) : Bool := (ps.toList.zip (ps.toList.drop 1)).all (fun (a, next) => a.1 < next.1) && decide ((pc : Int) + Op.lookupswitch.offset ps.toList dflt v = (tgt : Int))
theorem v_lkIn (X : Cb G cc nL own rm tg) (tgt : Nat) {dflt : Int} {ps : Array (Int × Int)} {len : Nat} {x v : Int32} (d : decode cc pc = .ok (.lookupswitch dflt ps, len)) (e : x = v) (h : lkB pc dflt ps v.toInt tgt = true) (k : V G tr nL cells slots tgt lv st M res) : V G tr nL cells slots pc lv (.int x :: st) M res := by
  intro o ho H locs ls hR hS hl
  subst e
  unfold lkB at h
  obtain ⟨h1, h2⟩ := Bool.and_eq_true_iff.mp h
  exact lv_lookup X.1 X.2.1 d h1 rfl (by simpa using h2) (k o ho H locs ls hR hS hl)
theorem lk_out {dflt z : Int} : ∀ (ps : List (Int × Int)), (∀ q ∈ ps, q.1 ≠ z) → Op.lookupswitch.offset ps dflt z = dflt
  | [], _ => rfl
  | q :: ps, h => by
    have h1 := h q List.mem_cons_self
    have h2 := lk_out (dflt := dflt) ps (fun q hq => h q (List.mem_cons_of_mem _ hq))
    obtain ⟨a, b⟩ := q
    unfold Op.lookupswitch.offset
    simp [h1, h2]
theorem v_lkOut (X : Cb G cc nL own rm tg) (tgt : Nat) {dflt : Int} {ps : Array (Int × Int)} {len : Nat} {x : Int32} (d : decode cc pc = .ok (.lookupswitch dflt ps, len)) (vs : List Int32) (hn : allNe x vs) (hv : ((ps.toList.zip (ps.toList.drop 1)).all (fun (a, next) => a.1 < next.1) && ps.toList.all (fun q => vs.any (fun v => decide (v.toInt = q.1)))) = true) (ht : (pc : Int) + dflt = (tgt : Int)) (k : V G tr nL cells slots tgt lv st M res) : V G tr nL cells slots pc lv (.int x :: st) M res := by
  intro o ho H locs ls hR hS hl
  obtain ⟨h1, h2⟩ := Bool.and_eq_true_iff.mp hv
  refine lv_lookup X.1 X.2.1 d h1 (lk_out _ (fun q hq e => ?_)) ht (k o ho H locs ls hR hS hl)
  obtain ⟨v, h4, h5⟩ := List.any_eq_true.mp (List.all_eq_true.mp h2 q hq)
  have h6 : v.toInt = q.1 := by simpa using h5
  exact allNe_mem hn v h4 (Int32.toInt_inj.mp (by omega))
/-- a text -/
theorem v_ldcS (X : Cb G cc nL own rm tg) (q : Nat) {i no : Nat} {tx : String} (d : decode cc pc = .ok (.ldc i, 2)) (hz : (own, i, tx, no) ∈ strL) (hq : pc + 2 = q) (k : V G tr nL cells slots q lv (.ref (sB + no) :: st) M res) : V G tr nL cells slots pc lv st M res := by
  subst hq
  intro o ho H locs ls hR hS hl
  exact va_ldcS X.1 X.2.1 X.2.2.2.1 (X.2.2.2.2.2.1.2.2.2.2.2.1 _ hz) d (k o ho H locs ls hR hS hl)
end R2
section TC2
variable {α : Type} {tr : α → Option Value × MM} {G : Gx} {cc : ByteArray} {nL : Nat} {own : String} {tg : Bool} {cells slots pc idx n0 c0 s0 n1 : Nat} {lv lv' : List (Nat × Value)} {st stk : List Value} {M : MM} {b ci n : Nat} {y : MethodName} {cc' : ByteArray} {nL' : Nat} {ret' : Option FieldType}
theorem v_vI (X : Cb G cc nL own (RM n0 c0 s0) tg) (q : Nat) (K : CV y cc' nL' ret' n ci) (hl : Cond.methodLink own idx y ∈ gtbl) (hr : rmB n0 c0 s0 n1 0 0 nL' cells slots = true) (As : List Value) (hst : stk = As.reverse ++ .ref b :: st) (hn : As.length = n) (hw : stW st = true) (d : decode cc pc = .ok (.invokevirtual idx, 3)) {fc : Option (Int32 × MM)} {f : Int32 → MM → Option α} (hq : pc + 3 = q) (hc : ∀ r M1, fc = some (r, M1) → KV G.1.2.1 y cc' nL' ret' (RM n1 0 0) tg ci b As M (some (.int r)) M1) (k : ∀ r M1, V G tr nL cells slots q lv (.int r :: st) M1 (f r M1)) : V G tr nL cells slots pc lv stk M (b2 fc f) := v_cVI X q K hl hr As hst hn hw d hc hq k
theorem v_vL (X : Cb G cc nL own (RM n0 c0 s0) tg) (q : Nat) (K : CV y cc' nL' ret' n ci) (hl : Cond.methodLink own idx y ∈ gtbl) (hr : rmB n0 c0 s0 n1 0 0 nL' cells slots = true) (As : List Value) (hst : stk = As.reverse ++ .ref b :: st) (hn : As.length = n) (hw : stW st = true) (d : decode cc pc = .ok (.invokevirtual idx, 3)) {fc : Option (Int64 × MM)} {f : Int64 → MM → Option α} (hq : pc + 3 = q) (hc : ∀ r M1, fc = some (r, M1) → KV G.1.2.1 y cc' nL' ret' (RM n1 0 0) tg ci b As M (some (.long r)) M1) (k : ∀ r M1, V G tr nL cells slots q lv (.long r :: st) M1 (f r M1)) : V G tr nL cells slots pc lv stk M (b2 fc f) := v_cVL X q K hl hr As hst hn hw d hc hq k
theorem v_vV (X : Cb G cc nL own (RM n0 c0 s0) tg) (q : Nat) (K : CV y cc' nL' ret' n ci) (hl : Cond.methodLink own idx y ∈ gtbl) (hr : rmB n0 c0 s0 n1 0 0 nL' cells slots = true) (As : List Value) (hst : stk = As.reverse ++ .ref b :: st) (hn : As.length = n) (hw : stW st = true) (d : decode cc pc = .ok (.invokevirtual idx, 3)) {fc : Option MM} {f : MM → Option α} (hq : pc + 3 = q) (hc : ∀ M1, fc = some M1 → KV G.1.2.1 y cc' nL' ret' (RM n1 0 0) tg ci b As M none M1) (k : ∀ M1, V G tr nL cells slots q lv st M1 (f M1)) : V G tr nL cells slots pc lv stk M (b1 fc f) := v_cVV X q K hl hr As hst hn hw d hc hq k
theorem gInS2 {y : MethodName} {cc' : ByteArray} {nL' n : Nat} {ret' : Option FieldType} (h : CSt y cc' nL' ret' n) (hl : Cond.methodLink own idx y ∈ gtbl) : GoodIn gtbl (va_wsS own idx y (.code y cc' nL' ret' :: gtbl)) := by
  intro w hw
  unfold va_wsS at hw
  rcases List.mem_append.mp hw with hw | hw
  · have : w ∈ gtbl := by
      simp only [List.mem_cons, List.not_mem_nil, or_false] at hw
      rcases hw with rfl | rfl | rfl
      · exact hl
      · exact h.2
      · exact h.1.2.1
    exact ⟨this, gtbl_good this⟩
  · exact gIn h.1 w hw
theorem v_callS2 {rm rm' : Room} {As : List Value} {r : Option Value} {M1 : MM} {res : Option α} (X : Cb G cc nL own rm tg) (K : CSt y cc' nL' ret' n) (hl : Cond.methodLink own idx y ∈ gtbl) (hroom : Rm rm rm' nL' cells slots) (hn : As.length = n) (hc : CtAt G.1.2.1 y cc' nL' ret' rm' tg As M r M1) (hst : stk = As.reverse ++ st) (hw : (st.map fun v => v.category).sum ≤ 8) (d : decode cc pc = .ok (.invokestatic idx, 3)) (k : V G tr nL (cells + rm'.cells) (slots + rm'.slots) (pc + 3) lv (r.toList ++ st) M1 res) : V G tr nL cells slots pc lv stk M res := by
  have hm := hc G.2.2.2.1.1 G.2.2.2.1.2.1 G.2.2.2.1.2.2.1 G.2.2.2.1.2.2.2.1 X.2.2.2.2.2.2.1
  rw [← X.2.2.2.2.2.2.2.2.2] at hm
  have hw' : ((st.map (shV G.2.2.2.1.2.2.2.1)).map fun v => v.category).sum ≤ 8 := by rw [cats]; exact hw
  refine v_after (rm' := rm') X (A := (As.map (shV G.2.2.2.1.2.2.2.1)).toArray) (st0 := (As.map (shV G.2.2.2.1.2.2.2.1)).reverse ++ st.map (shV G.2.2.2.1.2.2.2.1)) (fun H locs ls hR hS hsz => ?_) (by rw [hst]; simp) k
  exact va_runS (As := As.map (shV G.2.2.2.1.2.2.2.1)) ⟨X.1, X.2.1, X.2.2.1, X.2.2.2.1, X.2.2.2.2.1⟩ hm (va_cwS n X.2.2.2.2.1 (gInS2 K hl) rfl rfl rfl K.1.2.2 (by rw [X.2.2.2.2.2.2.2.1]; exact ⟨hroom.1, hroom.2.1⟩)) ⟨Pc_blind, fun U hU hW => Pc_of X (av := As.map (shV G.2.2.2.1.2.2.2.1)) hR hS U hU hW⟩ rfl (by rw [List.length_map]; exact hn) hsz rfl (lv_room hw') d (by rw [X.2.2.2.2.2.2.2.1]; exact ⟨hroom.2.2.1, hroom.2.2.2⟩)
theorem v_sI (X : Cb G cc nL own (RM n0 c0 s0) tg) (q : Nat) (K : CSt y cc' nL' ret' n) (hl : Cond.methodLink own idx y ∈ gtbl) (hr : rmB n0 c0 s0 n1 0 0 nL' cells slots = true) (As : List Value) (hst : stk = As.reverse ++ st) (hn : As.length = n) (hw : stW st = true) (d : decode cc pc = .ok (.invokestatic idx, 3)) {fc : Option (Int32 × MM)} {f : Int32 → MM → Option α} (hq : pc + 3 = q) (hc : ∀ r M1, fc = some (r, M1) → CtAt G.1.2.1 y cc' nL' ret' (RM n1 0 0) tg As M (some (.int r)) M1) (k : ∀ r M1, V G tr nL cells slots q lv (.int r :: st) M1 (f r M1)) : V G tr nL cells slots pc lv stk M (b2 fc f) := by
  subst hq
  intro o ho
  obtain ⟨r, M1, h1, h2⟩ := b2_some ho
  exact v_callS2 X K hl (rmB_of hr) hn (hc r M1 h1) hst (stW_of hw) d (k r M1) o h2
theorem v_sL (X : Cb G cc nL own (RM n0 c0 s0) tg) (q : Nat) (K : CSt y cc' nL' ret' n) (hl : Cond.methodLink own idx y ∈ gtbl) (hr : rmB n0 c0 s0 n1 0 0 nL' cells slots = true) (As : List Value) (hst : stk = As.reverse ++ st) (hn : As.length = n) (hw : stW st = true) (d : decode cc pc = .ok (.invokestatic idx, 3)) {fc : Option (Int64 × MM)} {f : Int64 → MM → Option α} (hq : pc + 3 = q) (hc : ∀ r M1, fc = some (r, M1) → CtAt G.1.2.1 y cc' nL' ret' (RM n1 0 0) tg As M (some (.long r)) M1) (k : ∀ r M1, V G tr nL cells slots q lv (.long r :: st) M1 (f r M1)) : V G tr nL cells slots pc lv stk M (b2 fc f) := by
  subst hq
  intro o ho
  obtain ⟨r, M1, h1, h2⟩ := b2_some ho
  exact v_callS2 X K hl (rmB_of hr) hn (hc r M1 h1) hst (stW_of hw) d (k r M1) o h2
theorem v_sV (X : Cb G cc nL own (RM n0 c0 s0) tg) (q : Nat) (K : CSt y cc' nL' ret' n) (hl : Cond.methodLink own idx y ∈ gtbl) (hr : rmB n0 c0 s0 n1 0 0 nL' cells slots = true) (As : List Value) (hst : stk = As.reverse ++ st) (hn : As.length = n) (hw : stW st = true) (d : decode cc pc = .ok (.invokestatic idx, 3)) {fc : Option MM} {f : MM → Option α} (hq : pc + 3 = q) (hc : ∀ M1, fc = some M1 → CtAt G.1.2.1 y cc' nL' ret' (RM n1 0 0) tg As M none M1) (k : ∀ M1, V G tr nL cells slots q lv st M1 (f M1)) : V G tr nL cells slots pc lv stk M (b1 fc f) := by
  subst hq
  intro o ho
  obtain ⟨M1, h1, h2⟩ := b1_some ho
  exact v_callS2 X K hl (rmB_of hr) hn (hc M1 h1) hst (stW_of hw) d (k M1) o h2
end TC2
section AST
variable {α : Type} {tr : α → Option Value × MM} {G : Gx} {cc : ByteArray} {nL : Nat} {own : String} {rm : Room} {tg : Bool} {cells slots pc : Nat} {lv lv' : List (Nat × Value)} {st : List Value} {M : MM} {a v : Nat} {i : Int32}
theorem v_aast23 (X : Cb G cc nL own rm tg) (q : Nat) (d : decode cc pc = .ok (.aastore, 1)) {f : MM → Option α} (hq : pc + 1 = q) (kk : ∀ M', V G tr nL cells slots q lv st M' (f M')) : V G tr nL cells slots pc lv (.ref v :: .int i :: .ref a :: st) M (b1 (stR 23 2 a i v M) f) := by
  subst hq
  intro o ho H locs ls hR hS hl
  obtain ⟨M', h1, h2⟩ := b1_some ho
  obtain ⟨⟨hO, hi, hOv⟩, hM⟩ := ite_some h1
  obtain ⟨hlt, hsh⟩ := isO_of hO
  obtain ⟨hltv, hshv⟩ := isO_of hOv
  have he := wsM_at (cy := G.2.2.2.1.2.1) (ad := G.2.2.2.1.2.2.2.1) (sz := G.2.2.2.1.2.2.1) hlt
  rw [cE_23 hsh] at he
  have hev := wsM_at (cy := G.2.2.2.1.2.1) (ad := G.2.2.2.1.2.2.2.1) (sz := G.2.2.2.1.2.2.1) hltv
  rw [cE_obj hshv (by decide)] at hev
  show W _ _ _ _ _ _ _ _ _ _ _ _ _ _ _ (F0 _ _ _ (.ref (G.2.2.2.1.2.2.2.1 v) :: _ :: .ref (G.2.2.2.1.2.2.2.1 a) :: _))
  rw [ad_of X hR hlt, ad_of X hR hltv]
  have hin := inb_in hi
  have hlt9 : i.toNatClampNeg < (mS M a).2 := Nat.not_le.mp fun q => hin (Or.inr q)
  have h0 : ¬ i < 0 := fun q => hin (Or.inl q)
  have hK := X.2.2.2.2.2.1.1
  obtain ⟨r', hr', cellV, g1, g2, g3, -⟩ := hR.1 v _ hev
  have hcls := (hK.1 2 (RX2, TX2, 2) rfl).2
  obtain ⟨kA, comp, k1, k2, k3, -⟩ := (hK.2 3 (G.2.2.2.1.2.1 3, .object RX2) rfl).2
  have hcomp : comp = G.2.2.2.1.1.1 2 := Option.some.inj (k3.symm.trans hcls.1)
  subst hcomp
  obtain ⟨kC, hkC, -⟩ := hcls.2
  refine W.aast X.1 X.2.1 (hR.1 a _ he) (fun q h => by cases h) (fun h => by cases h) k1 k2 rfl hkC ⟨h0, by show _ < (arrV _ _ _).slots.size; rw [arrV_size]; exact hlt9⟩ g1 (fun q h => by rw [g3] at h; cases h) (by rw [g2]; exact hkC) (by rw [g2]; exact va_assign hcls) rfl rfl d fun H1 e z oq => ?_
  refine kk M' o h2 H1 _ ls (Rp_set hR (hR.1.set wsM_D he (e := cE G.2.2.2.1.2.1 G.2.2.2.1.2.2.2.1 M' a) ?_ oq) rfl (by rw [← hM]; rfl) (fun b h => ?_) z) (hS.put z oq (Nat.le_add_right _ _)) hl
  · rw [cE_23 (by rw [← hM]; exact hsh)]
    show H1[_]? = some (vp_cell _ _)
    rw [e, vp_cell_q, vp_cell_q, arrV_store, ← hM]
    show some (arrV _ (mS M a).2 _) = some (arrV _ (mS M a).2 _)
    congr 2
    funext q
    show updV _ _ _ _ = va_rf ((mR (sR M a i.toNatClampNeg (some v)) a q).map _)
    rw [mR_sR]
    unfold updV va_up
    split
    · show _ = Value.ref _
      rw [← ad_of X hR hltv]
    · rfl
  · rw [← hM]
    exact cE_congr rfl rfl rfl (mR_sR_ne h)
theorem v_aast24 (X : Cb G cc nL own rm tg) (q : Nat) (d : decode cc pc = .ok (.aastore, 1)) {f : MM → Option α} (hq : pc + 1 = q) (kk : ∀ M', V G tr nL cells slots q lv st M' (f M')) : V G tr nL cells slots pc lv (.ref v :: .int i :: .ref a :: st) M (b1 (stR 24 5 a i v M) f) := by
  subst hq
  intro o ho H locs ls hR hS hl
  obtain ⟨M', h1, h2⟩ := b1_some ho
  obtain ⟨⟨hO, hi, hOv⟩, hM⟩ := ite_some h1
  obtain ⟨hlt, hsh⟩ := isO_of hO
  obtain ⟨hltv, hshv⟩ := isO_of hOv
  have he := wsM_at (cy := G.2.2.2.1.2.1) (ad := G.2.2.2.1.2.2.2.1) (sz := G.2.2.2.1.2.2.1) hlt
  rw [cE_24 hsh] at he
  have hev := wsM_at (cy := G.2.2.2.1.2.1) (ad := G.2.2.2.1.2.2.2.1) (sz := G.2.2.2.1.2.2.1) hltv
  rw [cE_obj hshv (by decide)] at hev
  show W _ _ _ _ _ _ _ _ _ _ _ _ _ _ _ (F0 _ _ _ (.ref (G.2.2.2.1.2.2.2.1 v) :: _ :: .ref (G.2.2.2.1.2.2.2.1 a) :: _))
  rw [ad_of X hR hlt, ad_of X hR hltv]
  have hin := inb_in hi
  have hlt9 : i.toNatClampNeg < (mS M a).2 := Nat.not_le.mp fun q => hin (Or.inr q)
  have h0 : ¬ i < 0 := fun q => hin (Or.inl q)
  have hK := X.2.2.2.2.2.1.1
  obtain ⟨r', hr', cellV, g1, g2, g3, -⟩ := hR.1 v _ hev
  have hcls := (hK.1 5 (RX5, TX5, 2) rfl).2
  obtain ⟨kA, comp, k1, k2, k3, -⟩ := (hK.2 4 (G.2.2.2.1.2.1 4, .object RX5) rfl).2
  have hcomp : comp = G.2.2.2.1.1.1 5 := Option.some.inj (k3.symm.trans hcls.1)
  subst hcomp
  obtain ⟨kC, hkC, -⟩ := hcls.2
  refine W.aast X.1 X.2.1 (hR.1 a _ he) (fun q h => by cases h) (fun h => by cases h) k1 k2 rfl hkC ⟨h0, by show _ < (arrV _ _ _).slots.size; rw [arrV_size]; exact hlt9⟩ g1 (fun q h => by rw [g3] at h; cases h) (by rw [g2]; exact hkC) (by rw [g2]; exact va_assign hcls) rfl rfl d fun H1 e z oq => ?_
  refine kk M' o h2 H1 _ ls (Rp_set hR (hR.1.set wsM_D he (e := cE G.2.2.2.1.2.1 G.2.2.2.1.2.2.2.1 M' a) ?_ oq) rfl (by rw [← hM]; rfl) (fun b h => ?_) z) (hS.put z oq (Nat.le_add_right _ _)) hl
  · rw [cE_24 (by rw [← hM]; exact hsh)]
    show H1[_]? = some (vp_cell _ _)
    rw [e, vp_cell_q, vp_cell_q, arrV_store, ← hM]
    show some (arrV _ (mS M a).2 _) = some (arrV _ (mS M a).2 _)
    congr 2
    funext q
    show updV _ _ _ _ = va_rf ((mR (sR M a i.toNatClampNeg (some v)) a q).map _)
    rw [mR_sR]
    unfold updV va_up
    split
    · show _ = Value.ref _
      rw [← ad_of X hR hltv]
    · rfl
  · rw [← hM]
    exact cE_congr rfl rfl rfl (mR_sR_ne h)
/-- a row's length -/
def alI (a : Nat) (M : MM) : Option Int32 := if isO 20 a M = true then some (Int32.ofNat (mS M a).2) else none
theorem v_alen (X : Cb G cc nL own rm tg) (q : Nat) (d : decode cc pc = .ok (.arraylength, 1)) {f : Int32 → Option α} (hq : pc + 1 = q) (kk : ∀ v, V G tr nL cells slots q lv (.int v :: st) M (f v)) : V G tr nL cells slots pc lv (.ref a :: st) M (b1 (alI a M) f) := by
  subst hq
  intro o ho H locs ls hR hS hl
  obtain ⟨v, h1, h2⟩ := b1_some ho
  obtain ⟨hO, rfl⟩ := ite_some h1
  obtain ⟨hlt, hsh⟩ := isO_of hO
  have he := wsM_at (cy := G.2.2.2.1.2.1) (ad := G.2.2.2.1.2.2.2.1) (sz := G.2.2.2.1.2.2.1) hlt
  rw [cE_20 hsh] at he
  show W _ _ _ _ _ _ _ _ _ _ _ _ _ _ _ (F0 _ _ _ (.ref (G.2.2.2.1.2.2.2.1 a) :: _))
  rw [ad_of X hR hlt]
  exact va_alen X.1 X.2.1 X.2.2.2.2.2.1.1 hR.1 a 0 he rfl rfl d (kk _ o h2 H locs ls hR hS hl)
end AST
theorem rmq {n n' nL' : Nat} (h : n' + 1 ≤ n) (h2 : nL' ≤ 80) : rmB n 0 0 n' 0 0 nL' 0 0 = true := by
  simp only [rmB, Bool.and_eq_true, Nat.ble_eq]
  exact ⟨h, h2, Nat.le_refl _, Nat.le_refl _⟩
theorem frq {n : Nat} (h : 1 ≤ n) : 1 ≤ (RM n 0 0).frames := h
theorem loq {n : Nat} {st : List Value} (hs : stW st = true) (h : 1 ≤ n) : (st.map fun v => v.category).sum + 13 ≤ (RM n 0 0).locals := by
  have h1 := stW_of hs
  show _ ≤ 100 * n
  omega

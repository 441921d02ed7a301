/-! THE LAW'S ROWS: its room is the claim's; the script is at the cell sB + 300 -/
def scr (L : Nat) (xs : Nat → Int32) (i : Int32) : Option Int32 := if inb i L = true then some (xs i.toNatClampNeg) else none
def SX (G : Gx) (L : Nat) (xs : Nat → Int32) : Prop := va_X (G.2.2.2.1.2.2.2.1 (sB + 300)) L xs G.2.1.1 G.2.1.1.heap ∧ G.2.2.2.1.2.2.2.1 (sB + 300) < G.2.1.1.heap.size ∧ G.2.2.2.1.2.2.2.1 (sB + 300) < G.2.2.2.1.2.2.1
def rmL (n1 nL' : Nat) : Bool := Nat.ble n1 800 && Nat.ble nL' 80
def csL (c s : Nat) : Prop := c ≤ 600000 ∧ s ≤ 7290000
theorem rmL_of {n1 c1 s1 nL' c s : Nat} (h : rmL n1 nL' = true) (hc : csL c s) (h1 : c1 ≤ 1000) (h2 : s1 ≤ 3000) : Rm room_1 (RM n1 c1 s1) nL' c s := by
  simp only [rmL, Bool.and_eq_true, Nat.ble_eq] at h
  obtain ⟨g1, g2⟩ := h
  obtain ⟨g3, g4⟩ := hc
  refine ⟨?_, ?_, ?_, ?_⟩
  · show n1 + 1 ≤ 2048; omega
  · show 8 + (nL' + 11) + 100 * n1 ≤ 84000; omega
  · show c + c1 ≤ 601024; omega
  · show s + s1 ≤ 7293034; omega
section LR
variable {α : Type} {tr : α → Option Value × MM} {G : Gx} {cc : ByteArray} {nL : Nat} {own : String} {rm : Room} {tg : Bool} {cells slots pc idx n1 c1 s1 : Nat} {lv lv' : List (Nat × Value)} {st stk : List Value} {M : MM} {res : Option α} {b ci n : Nat} {y : MethodName} {cc' : ByteArray} {nL' : Nat} {ret' : Option FieldType} {L : Nat} {xs : Nat → Int32} {i : Int32}
theorem v_wd (c s : Nat) (h1 : cells ≤ c) (h2 : slots ≤ s) (k : V G tr nL c s pc lv st M res) : V G tr nL cells slots pc lv st M res := fun o ho H locs ls hR hS hl => W.widen h1 h2 (k o ho H locs ls hR hS hl)
theorem v_sld (X : Cb G cc nL own rm tg) (q : Nat) (S : SX G L xs) (d : decode cc pc = .ok (.iaload, 1)) {f : Int32 → Option α} (hq : pc + 1 = q) (kk : ∀ v, V G tr nL cells slots q lv (.int v :: st) M (f v)) : V G tr nL cells slots pc lv (.int i :: .ref (sB + 300) :: st) M (b1 (scr L xs i) f) := by
  subst hq
  intro o ho H locs ls hR hS hl
  obtain ⟨v, h1, h2⟩ := b1_some ho
  obtain ⟨hi, rfl⟩ := ite_some h1
  exact va_sld X.1 X.2.1 S.1 S.2.1 (Nat.not_le.mpr S.2.2) hS (inb_in hi) d (kk _ o h2 H locs ls hR hS hl)
theorem v_slen (X : Cb G cc nL own rm tg) (q : Nat) (S : SX G L xs) (d : decode cc pc = .ok (.arraylength, 1)) (hq : pc + 1 = q) (k : V G tr nL cells slots q lv (.int (nI L) :: st) M res) : V G tr nL cells slots pc lv (.ref (sB + 300) :: st) M res := by
  subst hq
  intro o ho H locs ls hR hS hl
  exact va_slen X.1 X.2.1 S.1 S.2.1 (Nat.not_le.mpr S.2.2) hS d (k o ho H locs ls hR hS hl)
theorem v_wI (X : Cb G cc nL own room_1 tg) (q : Nat) (K : CV y cc' nL' ret' n ci) (hl : Cond.methodLink own idx y ∈ gtbl) (hcs : csL cells slots) (hr : rmL n1 nL' = true) (As : List Value) (hst : stk = As.reverse ++ .ref b :: st) (hn : As.length = n) (hw : stW st = true) (d : decode cc pc = .ok (.invokevirtual idx, 3)) {fc : Option (Int32 × MM)} {f : Int32 → MM → Option α} (hq : pc + 3 = q) (hc : ∀ r M1, fc = some (r, M1) → KV G.1.2.1 y cc' nL' ret' (RM n1 0 0) tg ci b As M (some (.int r)) M1) (k : ∀ r M1, V G tr nL cells slots q lv (.int r :: st) M1 (f r M1)) : V G tr nL cells slots pc lv stk M (b2 fc f) := by
  subst hq
  intro o ho
  obtain ⟨r, M1, h1, h2⟩ := b2_some ho
  obtain ⟨k1, k2, C, T, N, k3, k4⟩ := K
  obtain ⟨hO, hct⟩ := hc r M1 h1
  exact v_callV X k1 k2 hl (rmL_of hr hcs (Nat.zero_le _) (Nat.zero_le _)) hn k3 k4 hO hct hst (stW_of hw) d (k r M1) o h2
theorem v_wL (X : Cb G cc nL own room_1 tg) (q : Nat) (K : CV y cc' nL' ret' n ci) (hl : Cond.methodLink own idx y ∈ gtbl) (hcs : csL cells slots) (hr : rmL n1 nL' = true) (As : List Value) (hst : stk = As.reverse ++ .ref b :: st) (hn : As.length = n) (hw : stW st = true) (d : decode cc pc = .ok (.invokevirtual idx, 3)) {fc : Option (Int64 × MM)} {f : Int64 → MM → Option α} (hq : pc + 3 = q) (hc : ∀ r M1, fc = some (r, M1) → KV G.1.2.1 y cc' nL' ret' (RM n1 0 0) tg ci b As M (some (.long r)) M1) (k : ∀ r M1, V G tr nL cells slots q lv (.long r :: st) M1 (f r M1)) : V G tr nL cells slots pc lv stk M (b2 fc f) := by
  subst hq
  intro o ho
  obtain ⟨r, M1, h1, h2⟩ := b2_some ho
  obtain ⟨k1, k2, C, T, N, k3, k4⟩ := K
  obtain ⟨hO, hct⟩ := hc r M1 h1
  exact v_callV X k1 k2 hl (rmL_of hr hcs (Nat.zero_le _) (Nat.zero_le _)) hn k3 k4 hO hct hst (stW_of hw) d (k r M1) o h2
/-- a helper of the law's own -/
def CSW (y : MethodName) (cc' : ByteArray) (nL' : Nat) (ret' : Option FieldType) (hh : List (Nat × Nat × Nat × Nat)) (n : Nat) : Prop := Cond.codeWith y cc' nL' ret' hh ∈ gtbl ∧ Cond.initialized y.cls ∈ gtbl ∧ Cond.static y ∈ gtbl ∧ (y.cls ≠ "java/lang/invoke/MethodHandle" ∧ y.cls ≠ "java/lang/invoke/VarHandle" ∧ (parseMethodDescriptor y.desc).map (fun d => d.parameters.length) = some n)
theorem v_sIW {hh : List (Nat × Nat × Nat × Nat)} (X : Cb G cc nL own room_1 false) (q : Nat) (K : CSW y cc' nL' ret' hh n) (hl : Cond.methodLink own idx y ∈ gtbl) (hcs : csL cells slots) (hr : rmL n1 nL' = true) (As : List Value) (hst : stk = As.reverse ++ st) (hn : As.length = n) (hw : stW st = true) (d : decode cc pc = .ok (.invokestatic idx, 3)) {fc : Option (Int32 × MM)} {f : Int32 → MM → Option α} (hq : pc + 3 = q) (hc : ∀ r M1, fc = some (r, M1) → CtW G.1.2.1 y cc' nL' ret' hh (RM n1 1 6) As M (some (.int r)) M1) (k : ∀ r M1, V G tr nL (cells + 1) (slots + 6) q lv (.int r :: st) M1 (f r M1)) : V G tr nL cells slots pc lv stk M (b2 fc f) := by
  subst hq
  intro o ho
  obtain ⟨r, M1, h1, h2⟩ := b2_some ho
  have hm := hc r M1 h1 G.2.2.2.1.1 G.2.2.2.1.2.1 G.2.2.2.1.2.2.1 G.2.2.2.1.2.2.2.1 X.2.2.2.2.2.2.1
  rw [← X.2.2.2.2.2.2.2.2.2] at hm
  have hw' : ((st.map (shV G.2.2.2.1.2.2.2.1)).map fun v => v.category).sum ≤ 8 := by rw [cats]; exact stW_of hw
  have hroom := rmL_of (c1 := 1) (s1 := 6) hr hcs (by decide) (by decide)
  have hG : GoodIn gtbl (va_wsS own idx y (.codeWith y cc' nL' ret' hh :: gtbl)) := by
    intro w hw
    unfold va_wsS at hw
    have : w ∈ gtbl := by
      rcases List.mem_append.mp hw with hw | hw
      · simp only [List.mem_cons, List.not_mem_nil, or_false] at hw
        rcases hw with rfl | rfl | rfl
        · exact hl
        · exact K.2.2.1
        · exact K.2.1
      · rcases List.mem_cons.mp hw with rfl | hw
        · exact K.1
        · exact hw
    exact ⟨this, gtbl_good this⟩
  refine v_after (rm' := RM n1 1 6) (r := some (.int r)) (st := st) X (A := (As.map (shV G.2.2.2.1.2.2.2.1)).toArray) (st0 := (As.map (shV G.2.2.2.1.2.2.2.1)).reverse ++ st.map (shV G.2.2.2.1.2.2.2.1)) (fun H locs ls hR hS hsz => ?_) (by rw [hst]; simp) (k r M1) o h2
  exact vx_runSW (As := As.map (shV G.2.2.2.1.2.2.2.1)) ⟨X.1, X.2.1, X.2.2.1, X.2.2.2.1, X.2.2.2.2.1⟩ hm (vx_cwSW n X.2.2.2.2.1 hG rfl rfl rfl K.2.2.2 (by rw [X.2.2.2.2.2.2.2.1]; exact ⟨hroom.1, hroom.2.1⟩)) ⟨Pc_blind, fun U hU hW => Pc_of X (av := As.map (shV G.2.2.2.1.2.2.2.1)) hR hS U hU hW⟩ rfl (by rw [List.length_map]; exact hn) hsz rfl (lv_room hw') d (by rw [X.2.2.2.2.2.2.2.1]; exact ⟨hroom.2.2.1, hroom.2.2.2⟩)
/-- a constructor called by the law -/
theorem v_iniL (X : Cb G cc nL own room_1 true) (q : Nat) (K : CIt y cc' nL' n) (hl : Cond.methodLink own idx y ∈ gtbl) (hcs : csL cells slots) (hr : rmL n1 nL' = true) (h1 : c1 ≤ 1000) (h2 : s1 ≤ 3000) (As : List Value) (hst : stk = As.reverse ++ .ref b :: st) (hn : As.length = n) (hw : stW st = true) (d : decode cc pc = .ok (.invokespecial idx, 3)) {fc : Option MM} {f : MM → Option α} (hq : pc + 3 = q) (hc : ∀ M1, fc = some M1 → CtAt G.1.2.1 y cc' nL' none (RM n1 c1 s1) true (.ref b :: As) M none M1) (k : ∀ M1, V G tr nL (cells + c1) (slots + s1) q lv st M1 (f M1)) : V G tr nL cells slots pc lv stk M (b1 fc f) := by
  subst hq
  intro o ho
  obtain ⟨M1, g1, g2⟩ := b1_some ho
  have hm := hc M1 g1 G.2.2.2.1.1 G.2.2.2.1.2.1 G.2.2.2.1.2.2.1 G.2.2.2.1.2.2.2.1 X.2.2.2.2.2.2.1
  rw [← X.2.2.2.2.2.2.2.2.2] at hm
  have hw' : ((st.map (shV G.2.2.2.1.2.2.2.1)).map fun v => v.category).sum ≤ 8 := by rw [cats]; exact stW_of hw
  have hroom := rmL_of (c1 := c1) (s1 := s1) hr hcs h1 h2
  have hts := X.2.2.2.2.1
  refine v_after (rm' := RM n1 c1 s1) (r := none) (st := st) X (A := (Value.ref (G.2.2.2.1.2.2.2.1 b) :: As.map (shV G.2.2.2.1.2.2.2.1)).toArray) (st0 := (As.map (shV G.2.2.2.1.2.2.2.1)).reverse ++ .ref (G.2.2.2.1.2.2.2.1 b) :: st.map (shV G.2.2.2.1.2.2.2.1)) (fun H locs ls hR hS hsz => ?_) (by rw [hst]; simp [shV]) (k M1) o g2
  exact va_runI (As := As.map (shV G.2.2.2.1.2.2.2.1)) ⟨X.1, X.2.1, X.2.2.1, X.2.2.2.1, X.2.2.2.2.1⟩ hm (cwI n hts (gIn K.1) rfl rfl rfl (hts _ K.1.2.1) (hts _ hl) (hts _ K.2.1) K.2.2 K.1.2.2 (by rw [X.2.2.2.2.2.2.2.1]; exact ⟨hroom.1, hroom.2.1⟩)) ⟨Pc_blind, fun U hU hW => Pc_of X (av := (Value.ref b :: As).map (shV G.2.2.2.1.2.2.2.1)) hR hS U hU hW⟩ rfl (by rw [List.length_map]; exact hn) hsz rfl (lv_room hw') d (by rw [X.2.2.2.2.2.2.2.1]; exact ⟨hroom.2.2.1, hroom.2.2.2⟩)
end LR

/-! PLANS COPIED, CHANGED, PUT BY -/
theorem nor6 {a b : Nat} (h : a < 64) : nI a ||| nI (b * 64) = nI (a + 64 * b) := by
  rw [show b * 64 = 2 ^ 6 * b from by omega, show nI a ||| nI (2 ^ 6 * b) = nI (2 ^ 6 * b) ||| nI a from Int32.or_comm .., fa_or_sum b (show a < 2 ^ 6 from h)]
  rw [show 2 ^ 6 * b + a = a + 64 * b from by omega]
theorem na63 {t : Nat} (h : t < 2 ^ 31) : nI t &&& (63 : Int32) = nI (t % 64) := pk_andN (by omega) 6 (by decide)
theorem nS1 {a : Nat} (h : 1 ≤ a) : nI a - 1 = nI (a - 1) := pk_sub (a := a) (b := 1) h
def wPl (a b k : Nat) : Prop := b = a ∨ b = a + 1
theorem pa_ne {a b : Nat} (ha : PA a) (hb : PA b) : b ≠ a + 1 := by
  intro e
  have h5 := hb.2
  rw [e, (pa_tab a ha.1 ha.2).1] at h5
  exact absurd h5 (by decide)
theorem c_copy {M : MM} {a b : Nat} {q : Pl} (h0 : Sh M) (ha : PA a) (hb : PA b) (hab : b ≠ a) (hp : PL M b q) (hq : q.1 ≤ 12) : ∃ M', f_X5_copy a b M = some M' ∧ PL M' a q ∧ Fr (wPl a) M M' ∧ mR M' = mR M := by
  have e1 := pa_ne ha hb
  refine ⟨sI (cI M (b + 1) 0 (a + 1) 0 q.1) a 1 (nI q.1), ?_, ⟨?_, fun i hi => ?_⟩, ((Fr.rf M).cI (fun k _ _ => Or.inr rfl)).sI (Or.inl rfl), rfl⟩
  · unfold f_X5_copy f_X5_copy_0
    rw [if_pos (pa_O h0 ha), pa_R h0 hb, b1_s, pa_R h0 ha, b1_s, gI_k 1 (pa_O h0 hb), b1_s, hp.1, ← nI_0, cpI_k (pa_A h0 hb) (pa_A h0 ha) (pa_N h0 hb) (pa_N h0 ha) (by omega) (by omega) (by decide) (by decide), b1_s, gI_k 1 (show isO 5 b (cI M (b + 1) 0 (a + 1) 0 q.1) = true from pa_O h0 hb), b1_s, mI_cI, if_neg (fun q => e1 q.1), hp.1, pI_k 1 _ (show isO 5 a (cI M (b + 1) 0 (a + 1) 0 q.1) = true from pa_O h0 ha), b1_s]
  · rw [mI_w, if_pos ⟨rfl, rfl⟩]
  · rw [mI_w, if_neg (by omega), mI_cI, if_pos ⟨rfl, by omega, by omega⟩, show 0 + (i - 0) = i by omega]
    exact hp.2 i hi
def plAdd (q : Pl) (t : Nat) : Pl := (q.1 + 1, fun j => if j = q.1 then t else q.2 j)
def plSet (q : Pl) (i t : Nat) : Pl := (q.1, fun j => if j = i then t else q.2 j)
def plRem (q : Pl) (i : Nat) : Pl := (q.1 - 1, fun j => if j < i then q.2 j else q.2 (j + 1))
def trp (p e m : Nat) : Nat := p + 8 * e + 64 * m
theorem trp_w {p e m : Nat} (hp : p < 8) (he : e < 8) : tw (trp p e m) = p ∧ te (trp p e m) = e ∧ ts (trp p e m) = m := by unfold tw te ts trp; omega
theorem trp_ok {P E p e m : Nat} (hP : P ≤ 8) (hE : E ≤ 8) (hp : p < P) (he : e < E) (hm : m < 100) : okT P E (trp p e m) := by unfold okT trp; omega
theorem okPl_add {P E : Nat} {q : Pl} {t : Nat} (h : okPl P E q) (hq : q.1 < 12) (ht : okT P E t) : okPl P E (plAdd q t) := by
  refine ⟨hq, fun i hi => ?_⟩
  have hi' : i < q.1 + 1 := hi
  show okT P E (if i = q.1 then t else q.2 i)
  split
  · exact ht
  · exact h.2 i (by omega)
theorem okPl_set {P E : Nat} {q : Pl} {i t : Nat} (h : okPl P E q) (ht : okT P E t) : okPl P E (plSet q i t) := by
  refine ⟨h.1, fun j hj => ?_⟩
  show okT P E (if j = i then t else q.2 j)
  split
  · exact ht
  · exact h.2 j hj
theorem okPl_rem {P E : Nat} {q : Pl} {i : Nat} (h : okPl P E q) : okPl P E (plRem q i) := by
  have h1 := h.1
  refine ⟨by show q.1 - 1 ≤ 12; omega, fun j hj => ?_⟩
  have hj' : j < q.1 - 1 := hj
  show okT P E (if j < i then q.2 j else q.2 (j + 1))
  split
  · exact h.2 j (by omega)
  · exact h.2 (j + 1) (by omega)
theorem c_add {M : MM} {a : Nat} {q : Pl} (h0 : Sh M) (ha : PA a) (hp : PL M a q) (hq : q.1 < 12) {p e m : Nat} (hp8 : p < 8) (he : e < 8) (hm : m < 100) : ∃ M', f_X5_add a (nI p) (nI e) (nI m) M = some M' ∧ PL M' a (plAdd q (trp p e m)) ∧ Fr (wPl a) M M' ∧ mR M' = mR M := by
  refine ⟨sI (sI M (a + 1) q.1 (nI (trp p e m))) a 1 (nI (q.1 + 1)), ?_, ⟨?_, fun i hi => ?_⟩, ((Fr.rf M).sI (Or.inr rfl)).sI (Or.inl rfl), rfl⟩
  · unfold f_X5_add f_X5_add_0
    rw [if_pos (pa_O h0 ha), gI_k 1 (pa_O h0 ha), b1_s, hp.1, if_neg (show ¬ (12 : Int32) ≤ nI q.1 from nI_ge hq (by decide)), pa_R h0 ha, b1_s, b1_s, nl3 (by omega), nl6 (by omega), nor3 hp8, nor6 (by omega), pa_st h0 ha _ hq, b1_s, gI_k 1 (show isO 5 a (sI M (a + 1) q.1 (nI (p + 8 * e + 64 * m))) = true from pa_O h0 ha), b1_s, mI_w, if_neg (by omega), hp.1, nI_1, pI_k 1 _ (show isO 5 a (sI M (a + 1) q.1 (nI (p + 8 * e + 64 * m))) = true from pa_O h0 ha), b1_s]
    rfl
  · rw [mI_w, if_pos ⟨rfl, rfl⟩]; rfl
  · rw [mI_w, if_neg (by omega), mI_w]
    have hi' : i < q.1 + 1 := hi
    show _ = nI (if i = q.1 then trp p e m else q.2 i)
    by_cases h : i = q.1
    · rw [if_pos ⟨rfl, h⟩, if_pos h]
    · rw [if_neg (fun q => h q.2), if_neg h]; exact hp.2 i (by omega)
theorem c_begin {s : St} {M : MM} {a : Nat} {q : Pl} (h : CX s M a q) {i m : Nat} (hi : i < q.1) (hm : m < 100) : ∃ M', f_X5_begin a (nI i) (nI m) M = some M' ∧ PL M' a (plSet q i (q.2 i % 64 + 64 * m)) ∧ Fr (wPl a) M M' ∧ mR M' = mR M := by
  have hh := e_has h (nI i)
  obtain ⟨h0, _, hn, hwh, ha, hp, hk⟩ := h
  have hb := okT_b (hk.2 i hi)
  have h12 := hk.1
  refine ⟨sI M (a + 1) i (nI (q.2 i % 64 + 64 * m)), ?_, ⟨?_, fun j hj => ?_⟩, (Fr.rf M).sI (Or.inr rfl), rfl⟩
  · unfold f_X5_begin f_X5_begin_0
    rw [if_pos (pa_O h0 ha), hh, ix_n (by omega) hi, if_pos rfl, b2_s, if_neg (by decide), pa_R h0 ha, b1_s, b1_s, pa_ld h0 ha (by omega), b1_s, hp.2 i hi, na63 (by omega), nl6 (by omega), nor6 (Nat.mod_lt _ (by decide)), pa_st h0 ha _ (by omega), b1_s]
  · rw [mI_w, if_neg (by omega)]; exact hp.1
  · have hj' : j < q.1 := hj
    rw [mI_w]
    show _ = nI (if j = i then _ else q.2 j)
    by_cases h : j = i
    · rw [if_pos ⟨rfl, h⟩, if_pos h]
    · rw [if_neg (fun q => h q.2), if_neg h]; exact hp.2 j hj'
theorem c_rem {s : St} {M : MM} {a : Nat} {q : Pl} (h : CX s M a q) {i : Nat} (hi : i < q.1) : ∃ M', f_X5_remove a (nI i) M = some M' ∧ PL M' a (plRem q i) ∧ Fr (wPl a) M M' ∧ mR M' = mR M := by
  have hh := e_has h (nI i)
  obtain ⟨h0, _, hn, hwh, ha, hp, hk⟩ := h
  have h12 := hk.1
  refine ⟨sI (cI M (a + 1) (i + 1) (a + 1) i (q.1 - i - 1)) a 1 (nI (q.1 - 1)), ?_, ⟨?_, fun j hj => ?_⟩, ((Fr.rf M).cI (fun k _ _ => Or.inr rfl)).sI (Or.inl rfl), rfl⟩
  · unfold f_X5_remove f_X5_remove_0
    rw [if_pos (pa_O h0 ha), hh, ix_n (by omega) hi, if_pos rfl, b2_s, if_neg (by decide), pa_R h0 ha, b1_s, b1_s, gI_k 1 (pa_O h0 ha), b1_s, hp.1, nI_1, pk_sub (by omega), nS1 (by omega), cpI_k (pa_A h0 ha) (pa_A h0 ha) (pa_N h0 ha) (pa_N h0 ha) (by omega) (by omega) (by decide) (by decide), b1_s, gI_k 1 (show isO 5 a (cI M (a + 1) (i + 1) (a + 1) i (q.1 - i - 1)) = true from pa_O h0 ha), b1_s, mI_cI, if_neg (by omega), hp.1, nS1 (by omega), pI_k 1 _ (show isO 5 a (cI M (a + 1) (i + 1) (a + 1) i (q.1 - i - 1)) = true from pa_O h0 ha), b1_s]
  · rw [mI_w, if_pos ⟨rfl, rfl⟩]; rfl
  · have hj' : j < q.1 - 1 := hj
    rw [mI_w, if_neg (by omega), mI_cI]
    show _ = nI (if j < i then q.2 j else q.2 (j + 1))
    by_cases h : j < i
    · rw [if_neg (by omega), if_pos h]; exact hp.2 j (by omega)
    · rw [if_pos ⟨rfl, by omega, by omega⟩, if_neg h, show i + 1 + (j - i) = j + 1 by omega]; exact hp.2 (j + 1) (by omega)
/-! the past, class -/
def PastC (M : MM) (n : Nat) (u : Nat → Pl) : Prop := mI M 92 4 = nI n ∧ n ≤ 15 ∧ ∃ π : Nat → Nat, (∀ j, j < 15 → π j < 15 ∧ mR M 93 j = some (97 + 2 * π j)) ∧ (∀ i j, i < 15 → j < 15 → π i = π j → i = j) ∧ ∀ j, j < n → PL M (97 + 2 * π j) (u j)
def pushN (n : Nat) : Nat := if n < 15 then n + 1 else 15
def pushU (n : Nat) (u : Nat → Pl) (q : Pl) : Nat → Pl := if n < 15 then (fun j => if j = n then q else u j) else (fun j => if j = 14 then q else u (j + 1))
def wPa (a k : Nat) : Prop := (a = 92 ∧ k = 4) ∨ a = 93 ∨ (97 ≤ a ∧ a ≤ 126)
theorem sh93 {W : Nat → Nat → Prop} {M M' : MM} (f : Fr W M M') (hr : ∀ a k, a ≠ 93 → mR M' a k = mR M a k) (hs : Sh M) : Sh M' := ⟨f.1.trans hs.1, fun a ha => by rw [f.2.1]; exact hs.2.1 a ha, fun q hq => by rw [hr _ _ (rfT_no q hq).1]; exact hs.2.2 q hq⟩
theorem c_push1 {M : MM} {b n : Nat} {q : Pl} {u : Nat → Pl} (h0 : Sh M) (hb : PA b) (hb2 : b < 97) (hp : PL M b q) (hq : q.1 ≤ 12) (h : PastC M n u) (hn : n < 15) : ∃ M', f_X4_push_13 92 b M = some M' ∧ PastC M' (n + 1) (fun j => if j = n then q else u j) ∧ Fr wPa M M' ∧ mR M' = mR M := by
  obtain ⟨h1, _, π, h2, h3, h4⟩ := h
  have hπ := h2 n hn
  obtain ⟨M1, e1, p1, f1, r1⟩ := c_copy h0 (PA97 _ hπ.1) hb (by omega) hp hq
  have h92 : isO 4 92 M1 = true := sh_O (f1.sh' r1 h0) 4 (by decide) rfl
  have f2 : Fr (fun a k => wPa a k ∧ (wPl (97 + 2 * π n) a k ∨ a = 92)) M (sI M1 92 4 (nI (n + 1))) := (f1.mono (fun a k q => ⟨by unfold wPl at q; unfold wPa; have := hπ.1; omega, Or.inl q⟩)).sI ⟨by unfold wPa; omega, Or.inr rfl⟩
  refine ⟨sI M1 92 4 (nI (n + 1)), ?_, ⟨?_, by omega, π, fun j hj => ⟨(h2 j hj).1, ?_⟩, h3, fun j hj => ?_⟩, f2.mono (fun a k q => q.1), r1⟩
  · unfold f_X4_push_13
    rw [sh_R h0 (a := 92) (k := 0) (b := 93) 4 (by decide) rfl (by decide), b1_s, gI_k 4 (sh_O h0 4 (by decide) rfl), b1_s, h1, ldR_k (sh_O h0 24 (by decide) rfl) (sh_N h0 15 (by decide) rfl) hn (by decide), hπ.2, b1_s, e1, b1_s, gI_k 4 h92, b1_s, f1.2.2.1 92 4 (by unfold wPl; omega), h1, nI_1, pI_k 4 _ h92, b1_s]
  · rw [mI_w, if_pos ⟨rfl, rfl⟩]
  · show mR M1 93 j = _
    rw [r1]; exact (h2 j hj).2
  · by_cases hjn : j = n
    · subst hjn
      show PL _ _ (if j = j then q else u j)
      rw [if_pos rfl]
      exact p1.frw (frOne M1 92 4 _) (fun b k q => by omega)
    · show PL _ _ (if j = n then q else u j)
      rw [if_neg hjn]
      have := h3 j n (by omega) hn
      exact (h4 j (by omega)).frw f2 (fun b k q => by unfold wPl; omega)
theorem c_forg {M : MM} {u : Nat → Pl} (h0 : Sh M) (h : PastC M 15 u) : ∃ M', f_X4_forgetOldest 92 M = some M' ∧ PastC M' 14 (fun j => u (j + 1)) ∧ Fr wPa M M' ∧ (∀ a k, a ≠ 93 → mR M' a k = mR M a k) := by
  obtain ⟨h1, _, π, h2, h3, h4⟩ := h
  have key := lpm (fun f k N => f_X4_forgetOldest_9 f 92 (97 + 2 * π 0) (nI k) N) (fun k N => 1 ≤ k ∧ mN N = mN M ∧ mS N = mS M ∧ mI N = mI M ∧ mL N = mL M ∧ ∀ a j, mR N a j = if a = 93 ∧ j + 1 < k then mR M 93 (j + 1) else mR M a j) (fun N => mN N = mN M ∧ mS N = mS M ∧ (∀ a k, mI N a k = if a = 92 ∧ k = 4 then nI 14 else mI M a k) ∧ mL N = mL M ∧ ∀ a j, mR N a j = if a = 93 ∧ j < 14 then mR M 93 (j + 1) else if a = 93 ∧ j = 14 then some (97 + 2 * π 0) else mR M a j) 15 (fun f k N hk hi => ?_) (fun f N hi => ?_) 1024 1 M (by decide) (by decide) ⟨Nat.le_refl 1, rfl, rfl, rfl, rfl, fun a j => by rw [if_neg (by omega)]⟩
  · obtain ⟨N, e, n1, n2, n3, n4, n5⟩ := key
    refine ⟨N, ?_, ⟨by rw [n3, if_pos ⟨rfl, rfl⟩], by decide, fun j => if j < 14 then π (j + 1) else π 0, fun j hj => ?_, fun i j hi hj hij => ?_, fun j hj => ?_⟩, ⟨n1, n2, fun a k hw => by rw [n3, if_neg (fun q => hw (Or.inl q))], fun a k _ => by rw [n4], fun a k hw => by rw [n5, if_neg (fun q => hw (Or.inr (Or.inl q.1))), if_neg (fun q => hw (Or.inr (Or.inl q.1)))]⟩, fun a k ha => by rw [n5, if_neg (fun q => ha q.1), if_neg (fun q => ha q.1)]⟩
    · unfold f_X4_forgetOldest f_X4_forgetOldest_0
      rw [if_pos (sh_O h0 4 (by decide) rfl), sh_R h0 (a := 92) (k := 0) (b := 93) 4 (by decide) rfl (by decide), b1_s, ← nI_0, ldR_k (sh_O h0 24 (by decide) rfl) (sh_N h0 15 (by decide) rfl) (by decide) (by decide), (h2 0 (by decide)).2, b1_s]
      exact e
    · dsimp only
      rw [n5]
      by_cases hj14 : j < 14
      · rw [if_pos hj14, if_pos ⟨rfl, hj14⟩]; exact h2 (j + 1) (by omega)
      · rw [if_neg hj14, if_neg (fun q => hj14 q.2), if_pos ⟨rfl, by omega⟩]; exact ⟨(h2 0 (by decide)).1, rfl⟩
    · dsimp only at hij
      by_cases hi14 : i < 14
      · rw [if_pos hi14] at hij
        by_cases hj14 : j < 14
        · rw [if_pos hj14] at hij; have := h3 _ _ (by omega) (by omega) hij; omega
        · rw [if_neg hj14] at hij; have := h3 _ _ (by omega) (by omega) hij; omega
      · rw [if_neg hi14] at hij
        by_cases hj14 : j < 14
        · rw [if_pos hj14] at hij; have := h3 _ _ (by omega) (by omega) hij; omega
        · omega
    · dsimp only
      rw [if_pos hj]
      have := (h2 (j + 1) (by omega)).1
      have h4' := h4 (j + 1) (by omega)
      exact h4'.fr (by rw [n3, if_neg (by omega)]) (fun i _ => by rw [n3, if_neg (by omega)])
  · obtain ⟨n0, n1, n2, n3, n4, n5⟩ := hi
    have hN : Sh N := ⟨n1.trans h0.1, fun a ha => by rw [n2]; exact h0.2.1 a ha, fun q hq => by rw [n5, if_neg (fun w => (rfT_no q hq).1 w.1)]; exact h0.2.2 q hq⟩
    left
    refine ⟨sR N 93 (k - 1) (some (97 + 2 * π k)), ?_, by omega, n1, n2, n3, n4, fun a j => ?_⟩
    · show f_X4_forgetOldest_9 (f + 1) _ _ _ _ = _
      rw [f_X4_forgetOldest_9, if_neg (show ¬ (15 : Int32) ≤ nI k from nI_ge hk (by decide)), sh_R hN (a := 92) (k := 0) (b := 93) 4 (by decide) rfl (by decide), b1_s, b1_s, ldR_k (sh_O hN 24 (by decide) rfl) (sh_N hN 15 (by decide) rfl) hk (by decide), n5, if_neg (by omega), (h2 k hk).2, b1_s, nS1 (by omega), stR_k (sh_O hN 24 (by decide) rfl) (sh_N hN 15 (by decide) rfl) (by omega) (by decide) (pa_O hN (PA97 _ (h2 k hk).1)), b1_s, bn_s, nI_1]
    · rw [mR_w, n5]
      by_cases hc : a = 93 ∧ j = k - 1
      · rw [if_pos hc, if_pos ⟨hc.1, by omega⟩, hc.2, show k - 1 + 1 = k by omega, (h2 k hk).2]
      · rw [if_neg hc]
        by_cases hd : a = 93 ∧ j + 1 < k
        · rw [if_pos hd, if_pos ⟨hd.1, by omega⟩]
        · rw [if_neg hd, if_neg (by omega)]
  · obtain ⟨n0, n1, n2, n3, n4, n5⟩ := hi
    have hN : Sh N := ⟨n1.trans h0.1, fun a ha => by rw [n2]; exact h0.2.1 a ha, fun q hq => by rw [n5, if_neg (fun w => (rfT_no q hq).1 w.1)]; exact h0.2.2 q hq⟩
    refine ⟨sI (sR N 93 14 (some (97 + 2 * π 0))) 92 4 (nI 14), ?_, n1, n2, fun a k => by rw [mI_w]; split; rfl; exact congrFun (congrFun n3 a) k, n4, fun a j => ?_⟩
    · show f_X4_forgetOldest_9 (f + 1) _ _ _ _ = _
      rw [f_X4_forgetOldest_9, if_pos (show (15 : Int32) ≤ nI 15 from nI_le (Nat.le_refl 15) (by decide)), sh_R hN (a := 92) (k := 0) (b := 93) 4 (by decide) rfl (by decide), b1_s, show (14 : Int32) = nI 14 from rfl, stR_k (sh_O hN 24 (by decide) rfl) (sh_N hN 15 (by decide) rfl) (by decide) (by decide) (pa_O hN (PA97 _ (h2 0 (by decide)).1)), b1_s, pI_k 4 _ (show isO 4 92 (sR N 93 14 (some (97 + 2 * π 0))) = true from sh_O hN 4 (by decide) rfl), b1_s]
    · show mR (sR N 93 14 (some (97 + 2 * π 0))) a j = _
      rw [mR_w, n5]
      by_cases hc : a = 93 ∧ j = 14
      · rw [if_pos hc, if_neg (by omega), if_pos hc]
      · rw [if_neg hc]
        by_cases hd : a = 93 ∧ j + 1 < 15
        · rw [if_pos hd, if_pos ⟨hd.1, by omega⟩]
        · rw [if_neg hd, if_neg (by omega), if_neg hc]
theorem c_push {M : MM} {b n : Nat} {q : Pl} {u : Nat → Pl} (h0 : Sh M) (hb : PA b) (hb2 : b < 90) (hp : PL M b q) (hq : q.1 ≤ 12) (h : PastC M n u) : ∃ M', f_X4_push 92 b M = some M' ∧ PastC M' (pushN n) (pushU n u q) ∧ Fr wPa M M' ∧ (∀ a k, a ≠ 93 → mR M' a k = mR M a k) := by
  have hn := h.2.1
  unfold f_X4_push f_X4_push_0 pushN pushU
  rw [if_pos (sh_O h0 4 (by decide) rfl), gI_k 4 (sh_O h0 4 (by decide) rfl), b1_s, h.1]
  by_cases hl : n < 15
  · rw [if_pos (show nI n < (15 : Int32) from nI_lt hl (by decide)), if_pos hl, if_pos hl]
    obtain ⟨M', e, p, f, r⟩ := c_push1 h0 hb (by omega) hp hq h hl
    exact ⟨M', e, p, f, fun a k _ => by rw [r]⟩
  · have e15 : n = 15 := by omega
    subst e15
    rw [if_neg (show ¬ nI 15 < (15 : Int32) from nI_nlt (Nat.le_refl 15) (by decide)), if_neg hl, if_neg hl]
    obtain ⟨M1, e1, p1, f1, r1⟩ := c_forg h0 h
    have s1 := sh93 f1 r1 h0
    obtain ⟨M', e, p, f, r⟩ := c_push1 s1 hb (by omega) (hp.frw f1 (fun b k q => by unfold wPa; omega)) hq p1 (by decide)
    exact ⟨M', by rw [e1, b1_s, e], p, f1.tr f, fun a k ha => by rw [r, r1 a k ha]⟩
/-! copying, reference -/
def Cy (M N : MM) (b o k : Nat) (v : Nat → Int32) : Prop := mN N = mN M ∧ mS N = mS M ∧ mL N = mL M ∧ mR N = mR M ∧ ∀ c j, mI N c j = if c = b ∧ o ≤ j ∧ j < o + k then v (j - o) else mI M c j
theorem Cy.sh {M N : MM} {b o k : Nat} {v : Nat → Int32} (h : Cy M N b o k v) (hs : Sh M) : Sh N := ⟨h.1.trans hs.1, fun a ha => by rw [h.2.1]; exact hs.2.1 a ha, fun q hq => by rw [h.2.2.2.1]; exact hs.2.2 q hq⟩
theorem Cy.frm {M N : MM} {b o k : Nat} {v : Nat → Int32} (h : Cy M N b o k v) : Fr (fun a j => a = b ∧ o ≤ j ∧ j < o + k) M N := ⟨h.1, h.2.1, fun a j w => by rw [h.2.2.2.2, if_neg w], fun a j _ => by rw [h.2.2.1], fun a j _ => by rw [h.2.2.2.1]⟩
theorem lcp0 {R : Type} (F : Nat → Nat → MM → Option R) (b o n : Nat) (v : Nat → Int32) (M0 : MM) (hs : ∀ f k M, k < n → Cy M0 M b o k v → F (f + 1) k M = F f (k + 1) (sI M b (o + k) (v k))) : ∀ m k f M, k + m = n → n < f + k → Cy M0 M b o k v → ∃ M' f', F f k M = F (f' + 1) n M' ∧ Cy M0 M' b o n v
  | 0, k, f, M, h1, h2, h3 => by
    have : k = n := by omega
    subst this
    cases f with
    | zero => omega
    | succ f => exact ⟨M, f, rfl, h3⟩
  | m + 1, k, f, M, h1, h2, h3 => by
    cases f with
    | zero => omega
    | succ f =>
      rw [hs f k M (by omega) h3]
      refine lcp0 F b o n v M0 hs m (k + 1) f _ (by omega) (by omega) ⟨h3.1, h3.2.1, h3.2.2.1, h3.2.2.2.1, fun c j => ?_⟩
      rw [mI_w, h3.2.2.2.2]
      by_cases hc : c = b ∧ j = o + k
      · rw [if_pos hc, if_pos ⟨hc.1, by omega, by omega⟩, show j - o = k by omega]
      · rw [if_neg hc]
        by_cases hd : c = b ∧ o ≤ j ∧ j < o + k
        · rw [if_pos hd, if_pos ⟨hd.1, by omega, by omega⟩]
        · rw [if_neg hd, if_neg (by omega)]
theorem lcp {R : Type} (F : Nat → Nat → MM → Option R) (b o n : Nat) (v : Nat → Int32) (M0 : MM) (hs : ∀ f k M, k < n → Cy M0 M b o k v → F (f + 1) k M = F f (k + 1) (sI M b (o + k) (v k))) (hn : n < 1024) : ∃ M' f', F 1024 0 M0 = F (f' + 1) n M' ∧ Cy M0 M' b o n v := lcp0 F b o n v M0 hs n 0 1024 M0 (by omega) (by omega) ⟨rfl, rfl, rfl, rfl, fun c j => by rw [if_neg (by omega)]⟩
theorem PR.cp {M M' : MM} {a o a' o' : Nat} {q : Pl} (h : PR M a o q) (hq : q.1 ≤ 15) (hc : ∀ k, k < 46 → mI M' a' (o' + k) = mI M a (o + k)) : PR M' a' o' q := ⟨(hc 45 (by decide)).trans h.1, fun i hi => ⟨(hc (3 * i) (by omega)).trans (h.2 i hi).1, (hc (3 * i + 1) (by omega)).trans (h.2 i hi).2.1, (hc (3 * i + 2) (by omega)).trans (h.2 i hi).2.2⟩⟩
theorem r_puts {M : MM} {a b : Nat} (h0 : Sh M) (ha : RA a) (hb : RA b) (hab : a ≠ b) {q : Pl} (hp : PR M a 0 q) (hq : q.1 ≤ 15) : ∃ M', f_X12_puts a b M = some M' ∧ PR M' b 0 q ∧ Fr (fun c k => c = b) M M' ∧ mR M' = mR M := by
  obtain ⟨M', f', e, cy⟩ := lcp (fun f k N => f_X12_puts_2 f a b (nI k) N) b 0 46 (fun k => mI M a k) M (fun f k N hk hc => by
    show f_X12_puts_2 (f + 1) _ _ _ _ = _
    have hN := hc.sh h0
    rw [f_X12_puts_2, if_neg (show ¬ (46 : Int32) ≤ nI k from nI_ge hk (by decide)), ra_ld hN ha hk, b1_s, ra_st hN hb _ hk, b1_s, bn_s, nI_1, hc.2.2.2.2, if_neg (fun q => hab q.1), Nat.zero_add]) (by decide)
  refine ⟨M', ?_, hp.cp hq (fun k hk => ?_), cy.frm.mono (fun _ _ q => q.1), cy.2.2.2.1⟩
  · unfold f_X12_puts f_X12_puts_0
    rw [← nI_0]
    refine e.trans ?_
    show f_X12_puts_2 (f' + 1) _ _ _ _ = _
    rw [f_X12_puts_2, if_pos (show (46 : Int32) ≤ nI 46 from nI_le (Nat.le_refl 46) (by decide))]
  · rw [cy.2.2.2.2, if_pos ⟨rfl, by omega, by omega⟩]
    show mI M a (0 + k - 0) = _
    rw [Nat.sub_zero]
theorem n45 : (45 : Int32) = nI 45 := rfl
theorem r_comes {M : MM} {a : Nat} (h0 : Sh M) (ha : RA a) {q : Pl} (hp : PR M a 0 q) (hq : q.1 < 15) {p e m : Nat} (hp8 : p < 8) (he8 : e < 8) : ∃ M', f_X12_comes a (nI p) (nI e) (nI m) M = some M' ∧ PR M' a 0 (plAdd q (trp p e m)) ∧ Fr (fun c k => c = a) M M' ∧ mR M' = mR M := by
  have hs := hp.1
  rw [Nat.zero_add] at hs
  have ht := trp_w (m := m) hp8 he8
  unfold tw te ts at ht
  refine ⟨sI (sI (sI (sI M a (3 * q.1) (nI p)) a (3 * q.1 + 1) (nI e)) a (3 * q.1 + 2) (nI m)) a 45 (nI (q.1 + 1)), ?_, ⟨?_, fun i hi => ?_⟩, ((((Fr.rf (W := fun c k => c = a) M).sI rfl).sI rfl).sI rfl).sI rfl, rfl⟩
  · unfold f_X12_comes f_X12_comes_0
    rw [n45, ra_ld h0 ha (by decide), b1_s, hs, n3m, bn_s, ra_st h0 ha _ (by omega), b1_s, nI_1, ra_st (M := sI M a (3 * q.1) (nI p)) h0 ha _ (by omega), b1_s, nI_2, ra_st (M := sI (sI M a (3 * q.1) (nI p)) a (3 * q.1 + 1) (nI e)) h0 ha _ (by omega), b1_s, ra_ld (M := sI (sI (sI M a (3 * q.1) (nI p)) a (3 * q.1 + 1) (nI e)) a (3 * q.1 + 2) (nI m)) h0 ha (by decide), b1_s, mI_w, if_neg (by omega), mI_w, if_neg (by omega), mI_w, if_neg (by omega), hs, nI_1, ra_st (M := sI (sI (sI M a (3 * q.1) (nI p)) a (3 * q.1 + 1) (nI e)) a (3 * q.1 + 2) (nI m)) h0 ha _ (by decide), b1_s]
  · rw [mI_w, if_pos ⟨rfl, rfl⟩]; rfl
  · have hi' : i < q.1 + 1 := hi
    have g : ∀ k, mI (sI (sI (sI (sI M a (3 * q.1) (nI p)) a (3 * q.1 + 1) (nI e)) a (3 * q.1 + 2) (nI m)) a 45 (nI (q.1 + 1))) a k = if k = 45 then nI (q.1 + 1) else if k = 3 * q.1 + 2 then nI m else if k = 3 * q.1 + 1 then nI e else if k = 3 * q.1 then nI p else mI M a k := fun k => by
      rw [mI_w, mI_w, mI_w, mI_w]
      simp only [true_and]
    simp only [Nat.zero_add]
    by_cases h : i = q.1
    · rw [show (plAdd q (trp p e m)).2 i = trp p e m from if_pos h, h, ht.1, ht.2.1, ht.2.2]
      refine ⟨?_, ?_, ?_⟩
      · rw [g, if_neg (by omega), if_neg (by omega), if_neg (by omega), if_pos rfl]
      · rw [g, if_neg (by omega), if_neg (by omega), if_pos rfl]
      · rw [g, if_neg (by omega), if_pos rfl]
    · have hk := hp.2 i (by omega)
      simp only [Nat.zero_add] at hk
      rw [show (plAdd q (trp p e m)).2 i = q.2 i from if_neg h]
      refine ⟨?_, ?_, ?_⟩
      · rw [g, if_neg (by omega), if_neg (by omega), if_neg (by omega), if_neg (by omega)]; exact hk.1
      · rw [g, if_neg (by omega), if_neg (by omega), if_neg (by omega), if_neg (by omega)]; exact hk.2.1
      · rw [g, if_neg (by omega), if_neg (by omega), if_neg (by omega), if_neg (by omega)]; exact hk.2.2
theorem r_leaves {M : MM} {a : Nat} (h0 : Sh M) (ha : RA a) {q : Pl} (hp : PR M a 0 q) (hq : q.1 ≤ 15) {i : Nat} (hi : i < q.1) : ∃ M', f_X12_leaves a (nI i) M = some M' ∧ PR M' a 0 (plRem q i) ∧ Fr (fun c k => c = a) M M' ∧ mR M' = mR M := by
  have hs := hp.1
  rw [Nat.zero_add] at hs
  obtain ⟨M1, f', e, cy⟩ := lcp (fun f k N => f_X12_leaves_4 f a (nI (3 * i + k)) N) a (3 * i) (3 * (q.1 - 1) - 3 * i) (fun k => mI M a (3 * i + k + 3)) M (fun f k N hk hc => by
    show f_X12_leaves_4 (f + 1) _ _ _ = _
    have hN := hc.sh h0
    have h45 : mI N a 45 = nI q.1 := by rw [hc.2.2.2.2, if_neg (by omega)]; exact hs
    rw [f_X12_leaves_4, n45, ra_ld hN ha (by decide), b1_s, h45, nS1 (by omega), n3m, if_neg (nI_ge (by omega) (by omega)), nI_3, ra_ld hN ha (by omega), b1_s, ra_st hN ha _ (by omega), b1_s, bn_s, nI_1, hc.2.2.2.2, if_neg (by omega)]
    rfl) (by omega)
  have hN := cy.sh h0
  refine ⟨sI M1 a 45 (nI (q.1 - 1)), ?_, ⟨?_, fun j hj => ?_⟩, (cy.frm.mono (fun _ _ q => q.1)).sI rfl, cy.2.2.2.1⟩
  · unfold f_X12_leaves f_X12_leaves_0
    rw [n3m, bn_s]
    refine e.trans ?_
    show f_X12_leaves_4 (f' + 1) _ _ _ = _
    have h45 : mI M1 a 45 = nI q.1 := by rw [cy.2.2.2.2, if_neg (by omega)]; exact hs
    rw [f_X12_leaves_4, n45, ra_ld hN ha (by decide), b1_s, h45, nS1 (by omega), n3m, if_pos (nI_le (by omega) (by omega)), b1_s, nS1 (by omega), ra_st hN ha _ (by decide), b1_s]
  · rw [mI_w, if_pos ⟨rfl, rfl⟩]; rfl
  · have hj' : j < q.1 - 1 := hj
    simp only [Nat.zero_add]
    by_cases h : j < i
    · have hk := hp.2 j (by omega)
      simp only [Nat.zero_add] at hk
      rw [show (plRem q i).2 j = q.2 j from if_pos h]
      refine ⟨?_, ?_, ?_⟩
      · rw [mI_w, if_neg (by omega), cy.2.2.2.2, if_neg (by omega)]; exact hk.1
      · rw [mI_w, if_neg (by omega), cy.2.2.2.2, if_neg (by omega)]; exact hk.2.1
      · rw [mI_w, if_neg (by omega), cy.2.2.2.2, if_neg (by omega)]; exact hk.2.2
    · have hk := hp.2 (j + 1) (by omega)
      simp only [Nat.zero_add] at hk
      rw [show (plRem q i).2 j = q.2 (j + 1) from if_neg h]
      refine ⟨?_, ?_, ?_⟩
      · rw [mI_w, if_neg (by omega), cy.2.2.2.2, if_pos ⟨rfl, by omega, by omega⟩]
        show mI M a (3 * i + (3 * j - 3 * i) + 3) = _
        rw [show 3 * i + (3 * j - 3 * i) + 3 = 3 * (j + 1) by omega]; exact hk.1
      · rw [mI_w, if_neg (by omega), cy.2.2.2.2, if_pos ⟨rfl, by omega, by omega⟩]
        show mI M a (3 * i + (3 * j + 1 - 3 * i) + 3) = _
        rw [show 3 * i + (3 * j + 1 - 3 * i) + 3 = 3 * (j + 1) + 1 by omega]; exact hk.2.1
      · rw [mI_w, if_neg (by omega), cy.2.2.2.2, if_pos ⟨rfl, by omega, by omega⟩]
        show mI M a (3 * i + (3 * j + 2 - 3 * i) + 3) = _
        rw [show 3 * i + (3 * j + 2 - 3 * i) + 3 = 3 * (j + 1) + 2 by omega]; exact hk.2.2
/-! the past, reference -/
def PastR (M : MM) (n : Nat) (u : Nat → Pl) : Prop := mI M 143 33 = nI n ∧ ∀ j, j < n → PR M 163 (46 * j) (u j)
theorem r_putsBy {M : MM} {n : Nat} {u : Nat → Pl} {q : Pl} (h0 : Sh M) (h : PastR M n u) (hn : n ≤ 15) (hu : ∀ j, j < n → (u j).1 ≤ 15) (hp : PR M 153 0 q) (hq : q.1 ≤ 15) : ∃ M', f_X12_putsBy 143 M = some M' ∧ PastR M' n u ∧ PR M' 163 (46 * n) q ∧ Fr (fun c k => c = 163) M M' ∧ mR M' = mR M := by
  obtain ⟨M', f', e, cy⟩ := lcp (fun f k N => f_X12_putsBy_2 f 143 (nI k) N) 163 (46 * n) 46 (fun k => mI M 153 k) M (fun f k N hk hc => by
    show f_X12_putsBy_2 (f + 1) _ _ _ = _
    have hN := hc.sh h0
    rw [f_X12_putsBy_2, if_neg (show ¬ (46 : Int32) ≤ nI k from nI_ge hk (by decide)), sh_R hN (a := 143) (k := 34) (b := 163) 12 (by decide) rfl (by decide), b1_s, gI_k 33 (sh_O hN 12 (by decide) rfl), b1_s, sh_R hN (a := 143) (k := 15) (b := 153) 12 (by decide) rfl (by decide), b1_s, ld_153 hN hk, b1_s, hc.2.2.2.2 143 33, if_neg (by omega), h.1, n46m, nI_add, st_163 hN _ (by omega), b1_s, bn_s, nI_1, hc.2.2.2.2, if_neg (by omega)]) (by decide)
  refine ⟨M', ?_, ⟨by rw [cy.2.2.2.2, if_neg (by omega)]; exact h.1, fun j hj => (h.2 j hj).cp (hu j hj) (fun k hk => by rw [cy.2.2.2.2, if_neg (by omega)])⟩, hp.cp hq (fun k hk => ?_), cy.frm.mono (fun _ _ q => q.1), cy.2.2.2.1⟩
  · unfold f_X12_putsBy f_X12_putsBy_0
    rw [if_pos (sh_O h0 12 (by decide) rfl), ← nI_0]
    refine e.trans ?_
    show f_X12_putsBy_2 (f' + 1) _ _ _ = _
    rw [f_X12_putsBy_2, if_pos (show (46 : Int32) ≤ nI 46 from nI_le (Nat.le_refl 46) (by decide))]
  · rw [cy.2.2.2.2, if_pos ⟨rfl, by omega, by omega⟩]
    show mI M 153 (46 * n + k - 46 * n) = _
    rw [show 46 * n + k - 46 * n = k by omega, Nat.zero_add]
def wAd (c k : Nat) : Prop := (c = 143 ∧ k = 33) ∨ c = 163
theorem r_adds {M : MM} {n : Nat} {u : Nat → Pl} {q : Pl} (h0 : Sh M) (h : PastR M n u) (hn : n ≤ 15) (hu : ∀ j, j < n → (u j).1 ≤ 15) (hp : PR M 163 (46 * n) q) (hq : q.1 ≤ 15) (x : Int32) : ∃ M', f_X12_adds 143 x M = some (x, M') ∧ PastR M' (pushN n) (pushU n u q) ∧ Fr wAd M M' ∧ mR M' = mR M := by
  have hO := sh_O h0 (a := 143) 12 (by decide) rfl
  have hO1 : isO 12 143 (sI M 143 33 (nI (n + 1))) = true := hO
  have e33 : mI (sI M 143 33 (nI (n + 1))) 143 33 = nI (n + 1) := by rw [mI_w, if_pos ⟨rfl, rfl⟩]
  unfold f_X12_adds f_X12_adds_0 pushN pushU
  rw [if_pos hO, gI_k 33 hO, b1_s, h.1, nI_1, pI_k 33 _ hO, b1_s, gI_k 33 hO1, b1_s, e33]
  by_cases hl : n < 15
  · rw [if_pos (show nI (n + 1) ≤ (15 : Int32) from nI_le (b := 15) (by omega) (by decide)), if_pos hl, if_pos hl]
    refine ⟨_, rfl, ⟨by rw [mI_w, if_pos ⟨rfl, rfl⟩], fun j hj => ?_⟩, (Fr.rf M).sI (Or.inl ⟨rfl, rfl⟩), rfl⟩
    by_cases hjn : j = n
    · subst hjn
      dsimp only
      rw [if_pos rfl]
      exact hp.frw (frOne M 143 33 _) (fun b k q => by omega)
    · dsimp only
      rw [if_neg hjn]
      exact (h.2 j (by omega)).frw (frOne M 143 33 _) (fun b k q => by omega)
  · have e15 : n = 15 := by omega
    subst e15
    rw [if_neg (show ¬ nI 16 ≤ (15 : Int32) from nI_ge (show 15 < 16 by decide) (by decide)), if_neg hl, if_neg hl]
    have s1 : Sh (sI M 143 33 (nI 16)) := h0
    obtain ⟨M1, f', e, cy⟩ := lcp (fun f k N => f_X12_adds_21 f 143 x (nI k) N) 163 0 690 (fun k => mI M 163 (k + 46)) (sI M 143 33 (nI 16)) (fun f k N hk hc => by
      show f_X12_adds_21 (f + 1) _ _ _ _ = _
      have hN := hc.sh s1
      rw [f_X12_adds_21, if_neg (show ¬ (690 : Int32) ≤ nI k from nI_ge hk (by decide)), sh_R hN (a := 143) (k := 34) (b := 163) 12 (by decide) rfl (by decide), b1_s, b1_s, show nI k + (46 : Int32) = nI (k + 46) from nI_add k 46, ld_163 hN (by omega), b1_s, st_163 hN _ (by omega), b1_s, bn_s, nI_1, hc.2.2.2.2, if_neg (by omega), mI_w, if_neg (by omega), Nat.zero_add]) (by decide)
    have hN := cy.sh s1
    have hO2 := sh_O hN (a := 143) 12 (by decide) rfl
    have f1 : Fr wAd M (sI M1 143 33 (nI 15)) := (((Fr.rf M).sI (Or.inl ⟨rfl, rfl⟩)).tr (cy.frm.mono (fun _ _ q => Or.inr q.1))).sI (Or.inl ⟨rfl, rfl⟩)
    have hM : ∀ k, k < 690 → mI (sI M1 143 33 (nI 15)) 163 k = mI M 163 (k + 46) := fun k hk => by
      rw [mI_w, if_neg (by omega), cy.2.2.2.2, if_pos ⟨rfl, by omega, by omega⟩]
      show mI M 163 (k - 0 + 46) = _
      rw [Nat.sub_zero]
    refine ⟨sI M1 143 33 (nI 15), ?_, ⟨by rw [mI_w, if_pos ⟨rfl, rfl⟩], fun j hj => ?_⟩, f1, cy.2.2.2.1⟩
    · rw [← nI_0]
      refine e.trans ?_
      show f_X12_adds_21 (f' + 1) _ _ _ _ = _
      rw [f_X12_adds_21, if_pos (show (690 : Int32) ≤ nI 690 from nI_le (Nat.le_refl 690) (by decide)), gI_k 33 hO2, b1_s, cy.2.2.2.2, if_neg (by omega), mI_w, if_pos ⟨rfl, rfl⟩, nS1 (by decide), pI_k 33 _ hO2, b1_s]
    · by_cases hj14 : j = 14
      · subst hj14
        dsimp only
        rw [if_pos rfl]
        exact hp.cp hq (fun k hk => by rw [hM _ (by omega)]; congr 1; omega)
      · dsimp only
        rw [if_neg hj14]
        exact (h.2 (j + 1) (by omega)).cp (hu _ (by omega)) (fun k hk => by rw [hM _ (by omega)]; congr 1; omega)
/-! the state with another plan and another past -/
def zsp (s : St) (q : Pl) (n : Nat) (u : Nat → Pl) : St := (uF s.1 0 3 n, s.2.1, s.2.2.1, q, u, s.2.2.2.2.2)
def wPP (a k : Nat) : Prop := wC a k ∨ a = 14 ∨ a = 15 ∨ (a = 92 ∧ k = 4) ∨ a = 93 ∨ (97 ≤ a ∧ a ≤ 126)
def wQQ (a k : Nat) : Prop := wR a k ∨ a = 153 ∨ (a = 143 ∧ k = 33) ∨ a = 163
theorem RC.pp {s : St} {M M' : MM} (h : RC s M) (f : Fr wPP M M') (hs : Sh M') {q : Pl} {n : Nat} {u : Nat → Pl} (hp : PL M' 14 q) (hu : PastC M' n u) : RC (zsp s q n u) M' := ⟨hs, (h.2.1.fr f (fun a k q => by unfold wPP wC; omega)), (h.2.2.1.fr f (fun a k q => by unfold wPP wC; omega)), (h.2.2.2.1.fr f (fun a k q => by unfold wPP wC; omega)), hp, (h.2.2.2.2.2.1.fr f (fun a k q => by unfold wPP wC; omega)), hu, (h.2.2.2.2.2.2.2.1.fr f (fun a k q => by unfold wPP wC; omega)), (h.2.2.2.2.2.2.2.2.fr f (fun a k q => by unfold wPP wC; omega))⟩
theorem RR.pp {s : St} {M M' : MM} (h : RR s M) (f : Fr wQQ M M') (hs : Sh M') {q : Pl} {n : Nat} {u : Nat → Pl} (hp : PR M' 153 0 q) (hu : PastR M' n u) : RR (zsp s q n u) M' := ⟨hs, (h.2.1.fr f (fun a k q => by unfold wQQ wR; omega)), (h.2.2.1.fr f (fun a k q => by unfold wQQ wR; omega)), (h.2.2.2.1.fr f (fun a k q => by unfold wQQ wR; omega)), hp, (h.2.2.2.2.2.1.fr f (fun a k q => by unfold wQQ wR; omega)), hu, (h.2.2.2.2.2.2.2.1.fr f (fun a k q => by unfold wQQ wR; omega)), (h.2.2.2.2.2.2.2.2.fr f (fun a k q => by unfold wQQ wR; omega))⟩
def wP0 (a k : Nat) : Prop := wC a k ∨ a = 14 ∨ a = 15
def wQ0 (a k : Nat) : Prop := wR a k ∨ a = 153 ∨ a = 163
theorem RC.p0 {s : St} {M M' : MM} (h : RC s M) (f : Fr wP0 M M') (hs : Sh M') (hp : PL M' 14 (zplan s)) : RC s M' := ⟨hs, (h.2.1.fr f (fun a k q => by unfold wP0 wC; omega)), (h.2.2.1.fr f (fun a k q => by unfold wP0 wC; omega)), (h.2.2.2.1.fr f (fun a k q => by unfold wP0 wC; omega)), hp, (h.2.2.2.2.2.1.fr f (fun a k q => by unfold wP0 wC; omega)), (h.2.2.2.2.2.2.1.fr f (fun a k q => by unfold wP0 wC; omega)), (h.2.2.2.2.2.2.2.1.fr f (fun a k q => by unfold wP0 wC; omega)), (h.2.2.2.2.2.2.2.2.fr f (fun a k q => by unfold wP0 wC; omega))⟩
theorem RR.p0 {s : St} {M M' : MM} (h : RR s M) (f : Fr wQ0 M M') (hs : Sh M') (hp : PR M' 153 0 (zplan s)) (hu : PastR M' (zU s) (zund s)) : RR s M' := ⟨hs, (h.2.1.fr f (fun a k q => by unfold wQ0 wR; omega)), (h.2.2.1.fr f (fun a k q => by unfold wQ0 wR; omega)), (h.2.2.2.1.fr f (fun a k q => by unfold wQ0 wR; omega)), hp, (h.2.2.2.2.2.1.fr f (fun a k q => by unfold wQ0 wR; omega)), hu, (h.2.2.2.2.2.2.2.1.fr f (fun a k q => by unfold wQ0 wR; omega)), (h.2.2.2.2.2.2.2.2.fr f (fun a k q => by unfold wQ0 wR; omega))⟩
theorem WF_sp {s : St} (hw : WF s) {q : Pl} {n : Nat} {u : Nat → Pl} (hq : okPl (zP s) (zE s) q) (hn : n ≤ 15) (hu : ∀ j, j < n → okPl (zP s) (zE s) (u j)) : WF (zsp s q n u) := by
  obtain ⟨⟨a1, a2, a3, a4, a5, a6, a7, a8⟩, b, c, d, e⟩ := hw
  exact ⟨⟨a1, a2, a3, a4, hn, a6, a7, a8⟩, b, c, d, hq, hu, e.2.2⟩
def zpush (s : St) (q : Pl) : St := zsp s q (pushN (zU s)) (pushU (zU s) (zund s) (zplan s))
theorem WF_push {s : St} (hw : WF s) {q : Pl} (hq : okPl (zP s) (zE s) q) : WF (zpush s q) := by
  have hU := hw.1.2.2.2.2.1
  refine WF_sp hw hq (by unfold pushN; split <;> omega) (fun j hj => ?_)
  unfold pushN at hj
  unfold pushU
  by_cases hl : zU s < 15
  · rw [if_pos hl] at hj ⊢
    show okPl _ _ (if j = zU s then _ else _)
    split
    · exact hw.2.2.2.2.1
    · exact hw.2.2.2.2.2.1 j (by omega)
  · rw [if_neg hl] at hj ⊢
    show okPl _ _ (if j = 14 then _ else _)
    split
    · exact hw.2.2.2.2.1
    · exact hw.2.2.2.2.2.1 (j + 1) (by omega)

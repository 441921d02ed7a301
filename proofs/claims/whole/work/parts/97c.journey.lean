/-! journey -/
def rmv (x y : Int32) : Int32 := x - x / y * y
def hitB (s : St) (d r : Int32) (i : Nat) : Bool := !decide (rmv (iush r 16) d ≤ nI (slN s i))
def nxr (r : Int32) : Int32 := r * 1103515245 + 12345
abbrev JS : Type := Int32 × (Nat → Int32) × Bool
def jst (s : St) (d : Int32) (i : Nat) (st : JS) : JS := if lwB s i = true then (nxr st.1, (if hitB s d (nxr st.1) i = true then (fun j => if j = i then st.2.1 i + 1 else st.2.1 j) else st.2.1), (st.2.2 || hitB s d (nxr st.1) i)) else st
def jin (s : St) (d : Int32) (st : JS) : Nat → JS
  | 0 => st
  | k + 1 => jst s d k (jin s d st k)
theorem jin_s (s : St) (d : Int32) (st : JS) (k : Nat) : jin s d st (k + 1) = jst s d k (jin s d st k) := rfl
def jou (s : St) (d seed : Int32) : Nat → Int32 × (Nat → Int32) × Nat
  | 0 => (seed, fun _ => 0, 0)
  | k + 1 => let st := jin s d ((jou s d seed k).1, (jou s d seed k).2.1, false) (zplan s).1; (st.1, st.2.1, (jou s d seed k).2.2 + (if st.2.2 = true then 0 else 1))
theorem jou_s (s : St) (d seed : Int32) (k : Nat) : jou s d seed (k + 1) = ((jin s d ((jou s d seed k).1, (jou s d seed k).2.1, false) (zplan s).1).1, (jin s d ((jou s d seed k).1, (jou s d seed k).2.1, false) (zplan s).1).2.1, (jou s d seed k).2.2 + (if (jin s d ((jou s d seed k).1, (jou s d seed k).2.1, false) (zplan s).1).2.2 = true then 0 else 1)) := rfl
def woF (m : Nat → Int32) : Nat → Int32 × Int32
  | 0 => (-1, 0)
  | k + 1 => if m k ≤ (woF m k).2 then woF m k else (nI k, m k)
theorem woF_s (m : Nat → Int32) (k : Nat) : woF m (k + 1) = if m k ≤ (woF m k).2 then woF m k else (nI k, m k) := rfl
def MIS (M : MM) (c : Nat) (m : Nat → Int32) : Prop := ∀ i, i < 12 → mI M c i = m i
def a_journey (s : St) (x y z : Int32) : Int32 := if ((1 ≤ y ∧ y ≤ 50) ∧ (1 ≤ z ∧ z ≤ 9)) then nI (jou s z x y.toNatClampNeg).2.2 else -1
def n_journey (s : St) (x y z : Int32) : St := if ((1 ≤ y ∧ y ≤ 50) ∧ (1 ≤ z ∧ z ≤ 9)) then zsrow s (rowOf [Int32.toInt64 (woF (jou s z x y.toNatClampNeg).2.1 (zplan s).1).1, Int32.toInt64 (woF (jou s z x y.toNatClampNeg).2.1 (zplan s).1).2]) else s
theorem W_journey {s : St} (hw : WF s) (x y z : Int32) : WF (n_journey s x y z) := by
  unfold n_journey
  split
  · exact WF_row hw (by show 2 ≤ 8; decide)
  · exact hw
theorem one_n {y : Int32} {n : Nat} (hn : n < 2 ^ 31) (h : 1 ≤ y ∧ y ≤ nI n) : ∃ k, 1 ≤ k ∧ k ≤ n ∧ y = nI k := by
  have h1 : (1 : Int32).toInt ≤ y.toInt := (fa_le _ _).mp h.1
  have h2 := (fa_le _ _).mp h.2
  rw [nI_toInt hn] at h2
  rw [show (1 : Int32).toInt = 1 from by decide] at h1
  refine ⟨y.toInt.toNat, by omega, by omega, ?_⟩
  rw [fa_eq, nI_toInt (by omega)]
  omega
theorem j_nz {z : Int32} (h : 1 ≤ z ∧ z ≤ 9) : z ≠ 0 := by
  rintro rfl
  exact absurd h.1 (by decide)
theorem c_fill0 {M : MM} (h0 : Sh M) : ∃ M', f_J7_fill_53178 26 0 M = some M' ∧ MIS M' 26 (fun _ => 0) ∧ Fr (fun a k => a = 26) M M' ∧ mR M' = mR M := by
  obtain ⟨M', f', e, cy⟩ := lcp (fun f k N => f_J7_fill_53178_5 f 26 0 (nI k) (nI 12) N) 26 0 12 (fun _ => 0) M (fun f k N hk hc => by
    show f_J7_fill_53178_5 (f + 1) _ _ _ _ _ = _
    have hN := hc.sh h0
    rw [f_J7_fill_53178_5, if_neg (nI_ge hk (by decide)), st_26 hN _ hk, b1_s, bn_s, nI_1, Nat.zero_add]) (by decide)
  refine ⟨M', ?_, fun i hi => ?_, cy.frm.mono (fun a k q => q.1), cy.2.2.2.1⟩
  · unfold f_J7_fill_53178 f_J7_fill_53178_0
    rw [show alI 26 M = some (nI 12) by unfold alI; rw [if_pos (sh_O h0 20 (by decide) rfl), sh_N h0 12 (by decide) rfl]; rfl, b1_s, ← nI_0]
    refine e.trans ?_
    show f_J7_fill_53178_5 (f' + 1) _ _ _ _ _ = _
    rw [f_J7_fill_53178_5, if_pos (nI_le (Nat.le_refl 12) (by decide))]
  · rw [cy.2.2.2.2, if_pos ⟨rfl, by omega, by omega⟩]
/-- the class: slack in 25, misses in 26 -/
def CJ (s : St) (M : MM) : Prop := RC s M ∧ (∀ i, i < (zplan s).1 → mI M 25 i = slvS s (zplan s) i)
theorem CJ.st {s : St} {M : MM} (h : CJ s M) (i : Nat) (v : Int32) : CJ s (sI M 26 i v) := ⟨h.1.fr ((Fr.rf M).sI (by unfold wC; omega)) h.1.1, fun j hj => by rw [mI_w, if_neg (by omega)]; exact h.2 j hj⟩
theorem c_jin {s : St} {M : MM} (hw : WF s) (h : CJ s M) {d : Int32} (hd : d ≠ 0) {m : Nat → Int32} (hm : MIS M 26 m) (K : Nat → Int32 → Int32 → Int32 → Int32 → Int32 → MM → Option (Int32 × MM)) (n r x5 : Int32) (k : Nat) : ∃ M', f_X11_journey_63 K 1024 0 n d r x5 (nI k) 0 0 M = K 0 n d (jin s d (r, m, false) (zplan s).1).1 (x5 + (if (jin s d (r, m, false) (zplan s).1).2.2 = true then 0 else 1)) (nI (k + 1)) M' ∧ CJ s M' ∧ MIS M' 26 (jin s d (r, m, false) (zplan s).1).2.1 ∧ Fr cW M M' := by
  have h12 := hw.2.2.2.2.1.1
  have hl : LX 18 14 := Or.inl ⟨rfl, rfl⟩
  have sb : ∀ i, slN s i ≤ 99 := fun i => slk_b hw.1 (zplan s) i
  obtain ⟨M', e, q⟩ := lpt (fun f i N => f_X11_journey_63 K f 0 n d (jin s d (r, m, false) i).1 x5 (nI k) (bI (jin s d (r, m, false) i).2.2) (nI i) N) (fun N => K 0 n d (jin s d (r, m, false) (zplan s).1).1 (x5 + (if (jin s d (r, m, false) (zplan s).1).2.2 = true then 0 else 1)) (nI (k + 1)) N) (fun i N => CJ s N ∧ MIS N 26 (jin s d (r, m, false) i).2.1 ∧ Fr cW M N) (fun N => CJ s N ∧ MIS N 26 (jin s d (r, m, false) (zplan s).1).2.1 ∧ Fr cW M N) (zplan s).1 (fun f i N hi hN => by
    left
    have sN := hN.1.1.1
    have xN := hN.1.1.cx hw
    have q0 := sb i
    have hR5 := sh_R sN (a := 0) (k := 5) (b := 18) 11 (by decide) rfl (by decide)
    have g8 : gR 1 8 18 N = some 25 := (lx_f sN hl).2.2.2.2.2.2.1
    have g9 : gR 1 9 18 N = some 26 := (lx_f sN hl).2.2.2.2.2.2.2
    have ld : ldI 25 (nI i) N = some (slvS s (zplan s) i) := by rw [ld_25 sN (by omega), hN.1.2 i hi]
    show ∃ M', f_X11_journey_63 K (f + 1) _ _ _ _ _ _ _ _ _ = _ ∧ _
    rw [f_X11_journey_63, sh_R sN (a := 0) (k := 3) (b := 14) 11 (by decide) rfl (by decide), b1_s, c_size xN, b1_s, if_neg (nI_ge hi (by omega)), hR5, b1_s, g8, b1_s, ld, b1_s, jin_s]
    unfold f_X11_journey_140 jst
    cases hp : lwB s i with
    | false =>
      rw [slv_f hp, if_neg (by decide), bn_s, nI_1, if_neg (show ¬ false = true by decide)]
      exact ⟨N, rfl, hN⟩
    | true =>
      rw [slv_t hp, if_pos (nI_pos' (by omega)), bn_s, show remI (iush ((jin s d (r, m, false) i).1 * 1103515245 + 12345) 16) d = some (rmv (iush (nxr (jin s d (r, m, false) i).1) 16) d) from if_neg hd, b1_s, b1_s, g8, b1_s, ld, b1_s, slv_t hp, if_pos rfl]
      dsimp only
      by_cases hc : rmv (iush (nxr (jin s d (r, m, false) i).1) 16) d ≤ nI (slN s i)
      · have hh : hitB s d (nxr (jin s d (r, m, false) i).1) i = false := by unfold hitB; rw [decide_eq_true hc]; rfl
        rw [if_pos hc, bn_s, nI_1, hh, Bool.or_false, if_neg (show ¬ false = true by decide)]
        exact ⟨N, rfl, hN⟩
      · have hh : hitB s d (nxr (jin s d (r, m, false) i).1) i = true := by unfold hitB; rw [decide_eq_false hc]; rfl
        rw [if_neg hc, b1_s, g9, b1_s]
        refine ⟨sI N 26 i ((jin s d (r, m, false) i).2.1 i + 1), ?_, hN.1.st i _, fun j hj => ?_, hN.2.2.sI (by unfold cW; omega)⟩
        · rw [ld_26 sN (by omega), b1_s, hN.2.1 i (by omega), st_26 sN _ (by omega), b1_s, bn_s, nI_1, hh, Bool.or_true]; rfl
        · rw [hh, if_pos rfl, mI_w]
          by_cases hj2 : j = i
          · rw [if_pos ⟨rfl, hj2⟩, if_pos hj2]
          · rw [if_neg (fun q => hj2 q.2), if_neg hj2]; exact hN.2.1 j hj) (fun f N hN => by
    have sN := hN.1.1.1
    have xN := hN.1.1.cx hw
    refine ⟨N, ?_, hN⟩
    show f_X11_journey_63 K (f + 1) _ _ _ _ _ _ _ _ _ = _
    rw [f_X11_journey_63, sh_R sN (a := 0) (k := 3) (b := 14) 11 (by decide) rfl (by decide), b1_s, c_size xN, b1_s, if_pos (nI_le (Nat.le_refl _) (by omega))]
    unfold f_X11_journey_158
    cases (jin s d (r, m, false) (zplan s).1).2.2 with
    | true => rw [if_neg (show ¬ bI true = 0 by decide), bn_s, bn_s, nI_1, if_pos rfl]
    | false => rw [if_pos (show bI false = 0 from rfl), bn_s, bn_s, nI_1, if_neg (show ¬ false = true by decide)]) 1024 0 M (by omega) (by omega) ⟨h, hm, Fr.rf M⟩
  refine ⟨M', ?_, q⟩
  rw [nI_0] at e
  exact e
theorem c_tellm {s : St} {M : MM} (hw : WF s) (h : CJ s M) {m : Nat → Int32} (hm : MIS M 26 m) : ∃ M', f_X11_tellMisses 0 M = some M' ∧ RC (zsrow s (rowOf [Int32.toInt64 (woF m (zplan s).1).1, Int32.toInt64 (woF m (zplan s).1).2])) M' ∧ Fr cW M M' := by
  have h12 := hw.2.2.2.2.1.1
  have hl : LX 18 14 := Or.inl ⟨rfl, rfl⟩
  have s1 := h.1.1
  have x1 := h.1.cx hw
  have hR5 := sh_R s1 (a := 0) (k := 5) (b := 18) 11 (by decide) rfl (by decide)
  have g9 : gR 1 9 18 M = some 26 := (lx_f s1 hl).2.2.2.2.2.2.2
  obtain ⟨M2, e2, w2, f2, r2⟩ := c_two s1 (Int32.toInt64 (woF m (zplan s).1).1) (Int32.toInt64 (woF m (zplan s).1).2)
  refine ⟨M2, ?_, h.1.row f2 r2 w2, wRow_cW f2⟩
  unfold f_X11_tellMisses f_X11_tellMisses_0
  rw [if_pos (sh_O s1 11 (by decide) rfl)]
  have this : f_X11_tellMisses_6 1024 0 (woF m 0).1 (woF m 0).2 (nI 0) M = some M2 := by
    refine lpv (fun f k => f_X11_tellMisses_6 f 0 (woF m k).1 (woF m k).2 (nI k) M) (zplan s).1 _ (fun f k hk => Or.inl ?_) (fun f => ?_) 1024 0 (by omega) (by omega)
    · show f_X11_tellMisses_6 (f + 1) _ _ _ _ _ = _
      have ld : ldI 26 (nI k) M = some (m k) := by rw [ld_26 s1 (by omega), hm k (by omega)]
      rw [f_X11_tellMisses_6, sh_R s1 (a := 0) (k := 3) (b := 14) 11 (by decide) rfl (by decide), b1_s, c_size x1, b1_s, if_neg (nI_ge hk (by omega)), hR5, b1_s, g9, b1_s, ld, b1_s, woF_s]
      unfold f_X11_tellMisses_42
      by_cases hc : m k ≤ (woF m k).2
      · rw [if_pos hc, if_pos hc, bn_s, nI_1]
      · rw [if_neg hc, if_neg hc, b1_s, g9, b1_s, ld, b1_s, bn_s, nI_1]
    · show f_X11_tellMisses_6 (f + 1) _ _ _ _ _ = _
      rw [f_X11_tellMisses_6, sh_R s1 (a := 0) (k := 3) (b := 14) 11 (by decide) rfl (by decide), b1_s, c_size x1, b1_s, if_pos (nI_le (Nat.le_refl _) (by omega)), sh_R s1 (a := 0) (k := 1) (b := 3) 11 (by decide) rfl (by decide), b1_s, e2, b1_s]
  rw [nI_0] at this
  exact this
theorem jou_le (s : St) (d x : Int32) : ∀ k, (jou s d x k).2.2 ≤ k
  | 0 => Nat.le_refl 0
  | k + 1 => by
    have := jou_le s d x k
    rw [jou_s]
    dsimp only
    split <;> omega
theorem C_journey {s : St} (hw : WF s) (x y z : Int32) : OpC (fun M => f_X11_journey 0 x y z M) s (a_journey s x y z) (n_journey s x y z) := by
  intro M h
  have h0 := h.1
  show ∃ M', f_X11_journey 0 x y z M = _ ∧ _
  unfold f_X11_journey f_X11_journey_0
  rw [if_pos (sh_O h0 11 (by decide) rfl)]
  by_cases hc : (1 ≤ y ∧ y ≤ 50) ∧ (1 ≤ z ∧ z ≤ 9)
  · obtain ⟨n, hn1, hn, rfl⟩ := one_n (n := 50) (by decide) hc.1
    have hz := j_nz hc.2
    obtain ⟨M1, e1, c1, v1, f1, r1⟩ := c_lfs hw h
    have s1 := c1.1
    obtain ⟨M2, e2, m2, f2, r2⟩ := c_fill0 s1
    have c2 : CJ s M2 := ⟨c1.fr (f2.mono (fun a k q => by unfold wC; omega)) (f2.sh' r2 s1), fun i hi => by rw [f2.2.2.1 25 i (by omega)]; exact v1 i hi⟩
    have f02 : Fr cW M M2 := (f1.mono (fun a k q => by unfold cW; omega)).tr (f2.mono (fun a k q => by unfold cW; omega))
    rw [if_neg (fun q => (fa_of_lt q).2.1 hc.1.1), if_neg (fun q => (fa_of_lt q).2.1 hc.1.2), if_neg (fun q => (fa_of_lt q).2.1 hc.2.1), if_pos hc.2.2, sh_R h0 (a := 0) (k := 5) (b := 18) 11 (by decide) rfl (by decide), b1_s, e1, b1_s, sh_R s1 (a := 0) (k := 5) (b := 18) 11 (by decide) rfl (by decide), b1_s, (lx_f s1 (Or.inl ⟨rfl, rfl⟩ : LX 18 14)).2.2.2.2.2.2.2, b1_s]
    show ∃ M', b1 (f_J7_fill_53178 26 0 M1) _ = _ ∧ _
    rw [e2, b1_s, show a_journey s x (nI n) z = nI (jou s z x n).2.2 by unfold a_journey; rw [if_pos hc, nI_clamp (by omega)], show n_journey s x (nI n) z = zsrow s (rowOf [Int32.toInt64 (woF (jou s z x n).2.1 (zplan s).1).1, Int32.toInt64 (woF (jou s z x n).2.1 (zplan s).1).2]) by unfold n_journey; rw [if_pos hc, nI_clamp (by omega)]]
    obtain ⟨r, e3, er, c3, f3⟩ := lpm (fun f k N => f_X11_journey_51 f 0 (nI n) z (jou s z x k).1 (nI (jou s z x k).2.2) (nI k) N) (fun k N => CJ s N ∧ MIS N 26 (jou s z x k).2.1 ∧ Fr cW M2 N) (fun r => r.1 = nI (jou s z x n).2.2 ∧ RC (zsrow s (rowOf [Int32.toInt64 (woF (jou s z x n).2.1 (zplan s).1).1, Int32.toInt64 (woF (jou s z x n).2.1 (zplan s).1).2])) r.2 ∧ Fr cW M2 r.2) n (fun f k N hk hi => by
      left
      obtain ⟨N1, e, cj, mj, fj⟩ := c_jin hw hi.1 hz hi.2.1 (f_X11_journey_51 f) (nI n) (jou s z x k).1 (nI (jou s z x k).2.2) k
      refine ⟨N1, ?_, cj, mj, hi.2.2.tr fj⟩
      show f_X11_journey_51 (f + 1) _ _ _ _ _ _ _ = _
      rw [f_X11_journey_51, if_neg (nI_ge hk (by omega)), e, jou_s]
      dsimp only
      split
      · rw [Int32.add_zero]; rfl
      · rw [nI_1]) (fun f N hi => by
      obtain ⟨N1, e, cj, fj⟩ := c_tellm hw hi.1 hi.2.1
      refine ⟨(nI (jou s z x n).2.2, N1), ?_, rfl, cj, hi.2.2.tr fj⟩
      show f_X11_journey_51 (f + 1) _ _ _ _ _ _ _ = _
      rw [f_X11_journey_51, if_pos (nI_le (Nat.le_refl _) (by omega)), e, b1_s]) 1024 0 M2 (by omega) (by omega) ⟨c2, m2, Fr.rf M2⟩
    refine ⟨r.2, ?_, c3, f02.tr f3⟩
    rw [nI_0] at e3
    exact e3.trans (by rw [← er])
  · rw [show a_journey s x y z = -1 from if_neg hc, show n_journey s x y z = s from if_neg hc]
    refine ⟨M, ?_, h, Fr.rf M⟩
    by_cases h1 : y < 1
    · rw [if_pos h1]
    · rw [if_neg h1]
      by_cases h2 : 50 < y
      · rw [if_pos h2]
      · rw [if_neg h2]
        by_cases h3 : z < 1
        · rw [if_pos h3]
        · rw [if_neg h3, if_neg (fun q => hc ⟨⟨fa_of_nlt h1, fa_of_nlt h2⟩, fa_of_nlt h3, q⟩)]
/-! the reference -/
def RJ (s : St) (M0 M : MM) : Prop := RR s M ∧ Fr (fun a k => a = 179) M0 M ∧ mR M = mR M0
theorem r_jin {s : St} {M0 M : MM} (hw : WF s) (h : RJ s M0 M) {d : Int32} (hd : d ≠ 0) {m : Nat → Int32} (hm : MIS M 179 m) (K : Nat → Int32 → Int32 → Int32 → Int32 → Int32 → MM → Option (Int32 × MM)) (n r x5 : Int32) (k : Nat) : ∃ M', f_X12_journey_76 K 1024 143 n d r x5 (nI k) 1 0 M = K 143 n d (jin s d (r, m, false) (zplan s).1).1 (x5 + (if (jin s d (r, m, false) (zplan s).1).2.2 = true then 0 else 1)) (nI (k + 1)) M' ∧ RJ s M0 M' ∧ MIS M' 179 (jin s d (r, m, false) (zplan s).1).2.1 := by
  have h12 := hw.2.2.2.2.1.1
  have sb : ∀ i, slN s i ≤ 99 := fun i => slk_b hw.1 (zplan s) i
  obtain ⟨M', e, q⟩ := lpt (fun f i N => f_X12_journey_76 K f 143 n d (jin s d (r, m, false) i).1 x5 (nI k) (bI (!(jin s d (r, m, false) i).2.2)) (nI i) N) (fun N => K 143 n d (jin s d (r, m, false) (zplan s).1).1 (x5 + (if (jin s d (r, m, false) (zplan s).1).2.2 = true then 0 else 1)) (nI (k + 1)) N) (fun i N => RJ s M0 N ∧ MIS N 179 (jin s d (r, m, false) i).2.1) (fun N => RJ s M0 N ∧ MIS N 179 (jin s d (r, m, false) (zplan s).1).2.1) (zplan s).1 (fun f i N hi hN => by
    left
    have sN := hN.1.1.1
    have xN := hN.1.1.rx hw
    have q0 := sb i
    show ∃ M', f_X12_journey_76 K (f + 1) _ _ _ _ _ _ _ _ _ = _ ∧ _
    rw [f_X12_journey_76, sh_R sN (a := 143) (k := 15) (b := 153) 12 (by decide) rfl (by decide), b1_s, r_size xN, b1_s, if_neg (nI_ge hi (by omega)), r_law xN hi, b2_s, jin_s]
    show ∃ M', (if bI (lwB s i) = 0 then _ else _) = _ ∧ _
    unfold f_X12_journey_130 f_X12_journey_161 f_X12_journey_162 f_X12_journey_164 jst
    cases hp : lwB s i with
    | false =>
      rw [if_pos (show bI false = 0 from rfl), bn_s, nI_1, if_neg (show ¬ false = true by decide)]
      exact ⟨N, rfl, hN⟩
    | true =>
      have sl : f_X12_slackOf 143 (nI i) N = some (nI (slN s i), N) := r_slack xN hi (of_decide_eq_true hp)
      rw [if_neg (show ¬ bI true = 0 by decide), bn_s, show remI (iush ((jin s d (r, m, false) i).1 * 1103515245 + 12345) 16) d = some (rmv (iush (nxr (jin s d (r, m, false) i).1) 16) d) from if_neg hd, b1_s, sl, b2_s, if_pos rfl]
      dsimp only
      by_cases hc : rmv (iush (nxr (jin s d (r, m, false) i).1) 16) d ≤ nI (slN s i)
      · have hh : hitB s d (nxr (jin s d (r, m, false) i).1) i = false := by unfold hitB; rw [decide_eq_true hc]; rfl
        have e0 : sI N 179 i ((jin s d (r, m, false) i).2.1 i + 0) = N := by rw [Int32.add_zero]; exact sI_id N 179 i _ (hN.2 i (by omega))
        rw [if_pos hc, sh_R sN (a := 143) (k := 55) (b := 179) 12 (by decide) rfl (by decide), b1_s, ld_179 sN (by omega), b1_s, hN.2 i (by omega), show f_X12_flag 0 N = some (0, N) from e_flag false N, b2_s, st_179 sN _ (by omega), b1_s, e0, hh, Bool.or_false, if_neg (show ¬ false = true by decide)]
        refine ⟨N, ?_, hN⟩
        cases (jin s d (r, m, false) i).2.2 with
        | true => rw [if_pos (show bI (!true) = 0 from rfl), bn_s, nI_1]; rfl
        | false => rw [if_neg (show ¬ bI (!false) = 0 by decide), if_pos rfl, bn_s, nI_1]; rfl
      · have hh : hitB s d (nxr (jin s d (r, m, false) i).1) i = true := by unfold hitB; rw [decide_eq_false hc]; rfl
        rw [if_neg hc, sh_R sN (a := 143) (k := 55) (b := 179) 12 (by decide) rfl (by decide), b1_s, ld_179 sN (by omega), b1_s, hN.2 i (by omega), show f_X12_flag 1 N = some (1, N) from e_flag true N, b2_s, st_179 sN _ (by omega), b1_s, hh, Bool.or_true, if_pos rfl]
        refine ⟨sI N 179 i ((jin s d (r, m, false) i).2.1 i + 1), ?_, ⟨hN.1.1.fr ((Fr.rf N).sI (by unfold wR; omega)) sN, hN.1.2.1.sI rfl, hN.1.2.2⟩, fun j hj => ?_⟩
        · cases (jin s d (r, m, false) i).2.2 with
          | true => rw [if_pos (show bI (!true) = 0 from rfl), bn_s, nI_1]; rfl
          | false => rw [if_neg (show ¬ bI (!false) = 0 by decide), if_neg (by decide), bn_s, nI_1]; rfl
        · dsimp only
          rw [mI_w]
          by_cases hj2 : j = i
          · rw [if_pos ⟨rfl, hj2⟩, if_pos hj2]
          · rw [if_neg (fun q => hj2 q.2), if_neg hj2]; exact hN.2 j hj) (fun f N hN => by
    have sN := hN.1.1.1
    have xN := hN.1.1.rx hw
    refine ⟨N, ?_, hN⟩
    show f_X12_journey_76 K (f + 1) _ _ _ _ _ _ _ _ _ = _
    rw [f_X12_journey_76, sh_R sN (a := 143) (k := 15) (b := 153) 12 (by decide) rfl (by decide), b1_s, r_size xN, b1_s, if_pos (nI_le (Nat.le_refl _) (by omega)), e_flag, b2_s, bn_s, bn_s, nI_1]
    cases (jin s d (r, m, false) (zplan s).1).2.2 <;> rfl) 1024 0 M (by omega) (by omega) ⟨h, hm⟩
  refine ⟨M', ?_, q⟩
  rw [nI_0] at e
  exact e
theorem r_tellm {s : St} {M0 M : MM} (hw : WF s) (h : RJ s M0 M) {m : Nat → Int32} (hm : MIS M 179 m) (x : Int32) : ∃ M', f_X12_journey_195 1024 143 x (-1) 0 0 M = some (x, M') ∧ RR (zsrow s (rowOf [Int32.toInt64 (woF m (zplan s).1).1, Int32.toInt64 (woF m (zplan s).1).2])) M' ∧ Fr rW M M' ∧ mR M' = mR M := by
  have h12 := hw.2.2.2.2.1.1
  have s1 := h.1.1
  have x1 := h.1.rx hw
  have g9 := sh_R s1 (a := 143) (k := 55) (b := 179) 12 (by decide) rfl (by decide)
  obtain ⟨M1, M2, M3, e1, e2, e3, c3, f3, r3⟩ := r_two' h.1 (Int32.toInt64 (woF m (zplan s).1).1) (Int32.toInt64 (woF m (zplan s).1).2)
  refine ⟨M3, ?_, c3, wRoR_rW f3, r3⟩
  have this : f_X12_journey_195 1024 143 x (woF m 0).1 (woF m 0).2 (nI 0) M = some (x, M3) := by
    refine lpv (fun f k => f_X12_journey_195 f 143 x (woF m k).1 (woF m k).2 (nI k) M) (zplan s).1 _ (fun f k hk => Or.inl ?_) (fun f => ?_) 1024 0 (by omega) (by omega)
    · show f_X12_journey_195 (f + 1) _ _ _ _ _ _ = _
      have ld : ldI 179 (nI k) M = some (m k) := by rw [ld_179 s1 (by omega), hm k (by omega)]
      rw [f_X12_journey_195, sh_R s1 (a := 143) (k := 15) (b := 153) 12 (by decide) rfl (by decide), b1_s, r_size x1, b1_s, if_neg (nI_ge hk (by omega)), g9, b1_s, ld, b1_s, woF_s]
      unfold f_X12_journey_226 maxI
      by_cases hc : m k ≤ (woF m k).2
      · rw [if_pos hc, if_pos hc, g9, b1_s, ld, b1_s, bn_s, bn_s, nI_1, if_neg (fun q => (fa_of_lt q).2.1 hc)]
      · rw [if_neg hc, if_neg hc, g9, b1_s, ld, b1_s, bn_s, bn_s, nI_1, if_pos (fa_of_nle hc)]
    · show f_X12_journey_195 (f + 1) _ _ _ _ _ _ = _
      rw [f_X12_journey_195, sh_R s1 (a := 143) (k := 15) (b := 153) 12 (by decide) rfl (by decide), b1_s, r_size x1, b1_s, if_pos (nI_le (Nat.le_refl _) (by omega)), e1, b1_s, e2, b1_s, e3, b1_s]
  rw [nI_0] at this
  exact this
theorem R_journey {s : St} (hw : WF s) (x y z : Int32) : OpR (fun M => f_X12_journey 143 x y z M) s (a_journey s x y z) (n_journey s x y z) := by
  intro M h
  obtain ⟨N, et, ht, ft, rt, t0, l0⟩ := r_thr0 h
  have h0 := ht.1
  show ∃ M', f_X12_journey 143 x y z M = _ ∧ _
  unfold f_X12_journey f_X12_journey_0
  rw [if_pos (sh_O h.1 12 (by decide) rfl), et, b1_s, e_inL y 1 50 _ _ (by decide) (by decide), b2_s]
  by_cases hc : (1 ≤ y ∧ y ≤ 50) ∧ (1 ≤ z ∧ z ≤ 9)
  · obtain ⟨n, hn1, hn, rfl⟩ := one_n (n := 50) (by decide) hc.1
    have hz := j_nz hc.2
    rw [if_pos hc.1, if_neg (by decide), e_inL z 1 9 _ _ (by decide) (by decide), b2_s, if_pos hc.2, if_neg (by decide)]
    obtain ⟨M2, f', e2, cy⟩ := lcp (fun f k N' => f_X12_journey_40 f 143 (nI n) z x 0 (nI k) N') 179 0 12 (fun _ => 0) N (fun f k N' hk hc => by
      show f_X12_journey_40 (f + 1) _ _ _ _ _ _ _ = _
      have hN := hc.sh h0
      rw [f_X12_journey_40, if_neg (show ¬ (12 : Int32) ≤ nI k from nI_ge hk (by decide)), sh_R hN (a := 143) (k := 55) (b := 179) 12 (by decide) rfl (by decide), b1_s, st_179 hN _ hk, b1_s, bn_s, nI_1, Nat.zero_add]) (by decide)
    have s2 := cy.sh h0
    have f2 : Fr (fun a k => a = 179) N M2 := cy.frm.mono (fun a k q => q.1)
    have c2 : RJ s N M2 := ⟨ht.fr (f2.mono (fun a k q => by unfold wR; omega)) s2, f2, cy.2.2.2.1⟩
    have m2 : MIS M2 179 (fun _ => 0) := fun i hi => by rw [cy.2.2.2.2, if_pos ⟨rfl, by omega, by omega⟩]
    rw [show a_journey s x (nI n) z = nI (jou s z x n).2.2 by unfold a_journey; rw [if_pos hc, nI_clamp (by omega)], show n_journey s x (nI n) z = zsrow s (rowOf [Int32.toInt64 (woF (jou s z x n).2.1 (zplan s).1).1, Int32.toInt64 (woF (jou s z x n).2.1 (zplan s).1).2]) by unfold n_journey; rw [if_pos hc, nI_clamp (by omega)]]
    obtain ⟨r, e3, er, c3, f3, r3⟩ := lpm (fun f k N' => f_X12_journey_64 f 143 (nI n) z (jou s z x k).1 (nI (jou s z x k).2.2) (nI k) N') (fun k N' => RJ s N N' ∧ MIS N' 179 (jou s z x k).2.1) (fun r => r.1 = nI (jou s z x n).2.2 ∧ RR (zsrow s (rowOf [Int32.toInt64 (woF (jou s z x n).2.1 (zplan s).1).1, Int32.toInt64 (woF (jou s z x n).2.1 (zplan s).1).2])) r.2 ∧ Fr rW N r.2 ∧ mR r.2 = mR N) n (fun f k N' hk hi => by
      left
      obtain ⟨N1, e, cj, mj⟩ := r_jin hw hi.1 hz hi.2 (f_X12_journey_64 f) (nI n) (jou s z x k).1 (nI (jou s z x k).2.2) k
      refine ⟨N1, ?_, cj, mj⟩
      show f_X12_journey_64 (f + 1) _ _ _ _ _ _ _ = _
      rw [f_X12_journey_64, if_neg (nI_ge hk (by omega)), e, jou_s]
      dsimp only
      split
      · rw [Int32.add_zero]; rfl
      · rw [nI_1]) (fun f N' hi => by
      obtain ⟨N1, e, cj, fj, rj⟩ := r_tellm hw hi.1 hi.2 (nI (jou s z x n).2.2)
      refine ⟨(nI (jou s z x n).2.2, N1), ?_, rfl, cj, (hi.1.2.1.mono (fun a k q => by unfold rW; omega)).tr fj, rj.trans hi.1.2.2⟩
      show f_X12_journey_64 (f + 1) _ _ _ _ _ _ _ = _
      rw [f_X12_journey_64, if_pos (nI_le (Nat.le_refl _) (by omega)), e]) 1024 0 M2 (by omega) (by omega) ⟨c2, m2⟩
    refine ⟨r.2, ?_, c3, ft.tr f3, r3.trans rt⟩
    rw [nI_0] at e3
    rw [← nI_0]
    refine e2.trans ?_
    show f_X12_journey_40 (f' + 1) _ _ _ _ _ _ _ = _
    rw [f_X12_journey_40, if_pos (show (12 : Int32) ≤ nI 12 from nI_le (Nat.le_refl 12) (by decide))]
    exact e3.trans (by rw [← er])
  · rw [show a_journey s x y z = -1 from if_neg hc, show n_journey s x y z = s from if_neg hc]
    refine ⟨N, ?_, ht, ft, rt⟩
    by_cases h1 : 1 ≤ y ∧ y ≤ 50
    · rw [if_pos h1, if_neg (by decide), e_inL z 1 9 _ _ (by decide) (by decide), b2_s, if_neg (fun q => hc ⟨h1, q⟩), if_pos rfl]
    · rw [if_neg h1, if_pos rfl]
theorem case_43 : CaseOK g_L_43 := by
  intro L xs j K M hL hj hc
  obtain ⟨s, hw, hc, hr⟩ := hc
  obtain ⟨M1, M2, hcp, e1, e2⟩ := asm (C_journey hw (xs (j + 1)) (xs (j + 2)) (xs (j + 3))) (R_journey hw (xs (j + 1)) (xs (j + 2)) (xs (j + 3))) (W_journey hw (xs (j + 1)) (xs (j + 2)) (xs (j + 3))) hc hr
  refine ⟨M2, hcp, ?_⟩
  unfold g_L_43
  simp only [show (nI j + 1 : Int32) = nI (j + 1) from nI_add _ 1, show (nI j + 2 : Int32) = nI (j + 2) from nI_add _ 2, show (nI j + 3 : Int32) = nI (j + 3) from nI_add _ 3, show (nI j + 4 : Int32) = nI (j + 4) from nI_add _ 4, scr_k (show j + 1 < L by omega) hL, scr_k (show j + 2 < L by omega) hL, scr_k (show j + 3 < L by omega) hL, scr_k (show j + 4 < L by omega) hL, b1_s, e1, e2, b2_s, if_true]

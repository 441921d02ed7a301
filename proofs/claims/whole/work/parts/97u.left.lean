/-! left -/
def btr (w : Nat → Nat) (m t b : Nat) : Bool := if 0 < nI (szF w t m) - nI (szF w b m) then true else if nI (szF w t m) - nI (szF w b m) = 0 then !decide (bcI (nI b) ≤ bcI (nI t)) else false
def bskF (w : Nat → Nat) (m n v : Nat) : Nat → Nat
  | 0 => 0
  | t + 1 => if btr w m (t + 1) (bskF w m n v t) = true ∧ (dfs w (t + 1).testBit n m 0 (fun _ => v) 0).isSome = true then t + 1 else bskF w m n v t
theorem bskF_s (w : Nat → Nat) (m n v t : Nat) : bskF w m n v (t + 1) = if btr w m (t + 1) (bskF w m n v t) = true ∧ (dfs w (t + 1).testBit n m 0 (fun _ => v) 0).isSome = true then t + 1 else bskF w m n v t := rfl
theorem bskF_le (w : Nat → Nat) (m n v : Nat) : ∀ t, bskF w m n v t ≤ t
  | 0 => Nat.le_refl 0
  | t + 1 => by
    rw [bskF_s]
    have := bskF_le w m n v t
    split <;> omega
theorem c_mostin {M : MM} {m n v : Nat} {w : Nat → Nat} (h0 : Sh M) (hb : BgC M m w) (hm1 : 1 ≤ m) (hm : m ≤ 8) (hn : n ≤ 4) (hv : v ≤ 20) (hw9 : ∀ i, i < m → 1 ≤ w i ∧ w i ≤ 9) : ∃ M', f_X0_mostInto 137 (nI n) (nI v) M = some (nI (bskF w m n v (2 ^ m - 1)), M') ∧ BgC M' m w ∧ Fr w141 M M' ∧ mR M' = mR M := by
  have h256 := p2_le hm
  have hp := p2_pos m
  obtain ⟨M1, e1, n1, f1, r1⟩ := c_weigh h0 hb hm1 hm hv hw9
  have s1 := f1.sh' r1 h0
  have b1 : BgC M1 m w := hb.fr f1 (fun a k q => by unfold w141; omega)
  refine ⟨M1, ?_, b1, f1, r1⟩
  unfold f_X0_mostInto f_X0_mostInto_0
  rw [if_pos (O137 h0), e1, b1_s]
  have := lpm (fun f k N => f_X0_mostInto_10 f 137 (nI n) (nI (bskF w m n v k)) (nI (k + 1)) N) (fun k N => N = M1) (fun r => r = (nI (bskF w m n v (2 ^ m - 1)), M1)) (2 ^ m - 1) (fun f k N hk hN => by
    left
    subst hN
    refine ⟨N, ?_, rfl⟩
    show f_X0_mostInto_10 (f + 1) _ _ _ _ _ = f_X0_mostInto_10 f _ _ _ _ _
    obtain ⟨x, x1, gx⟩ := n1 (k + 1) (by omega)
    have hx := gx.b
    have hdf := gp_dfs (by omega) gx (c := n) (by omega)
    have hbs := bskF_le w m n v k
    rw [f_X0_mostInto_10, gI_k 1 (O137 s1), b1_s, b1.1, sb_pow m hm, if_neg (nI_ge (by omega) (by omega)), (R137 s1).2.2.2, b1_s, ld_141 s1 (by omega), b1_s, x1, ns5 (by omega), bskF_s]
    unfold f_X0_mostInto_76 f_X0_mostInto_73 f_X0_mostInto_76 btr
    by_cases hc : x / 32 ≤ n
    · rw [if_pos (nI_le hc (by omega)), c_szo s1 b1 hm (by omega), b2_s, c_szo s1 b1 hm (by omega), b2_s, bn_s, hdf.mpr hc]
      by_cases g1 : 0 < nI (szF w (k + 1) m) - nI (szF w (bskF w m n v k) m)
      · rw [if_pos g1, if_pos g1, bn_s, nI_1, if_pos ⟨rfl, rfl⟩]
      · rw [if_neg g1, if_neg g1]
        by_cases g2 : nI (szF w (k + 1) m) - nI (szF w (bskF w m n v k) m) = 0
        · rw [if_pos g2, if_pos g2, e_bc, b2_s, e_bc, b2_s]
          by_cases g3 : bcI (nI (bskF w m n v k)) ≤ bcI (nI (k + 1))
          · rw [if_pos g3, bn_s, nI_1, decide_eq_true g3, if_neg (by decide)]
          · rw [if_neg g3, bn_s, nI_1, decide_eq_false g3, if_pos (by decide)]
        · rw [if_neg g2, if_neg g2, bn_s, nI_1, if_neg (by decide)]
    · rw [if_neg (nI_ge (by omega) (by omega)), bn_s, nI_1, if_neg (fun q => hc (hdf.mp q.2))]) (fun f N hN => by
    subst hN
    refine ⟨_, ?_, rfl⟩
    show f_X0_mostInto_10 (f + 1) _ _ _ _ _ = _
    rw [f_X0_mostInto_10, gI_k 1 (O137 s1), b1_s, b1.1, sb_pow m hm, if_pos (nI_le (by omega) (by omega))]) 1024 0 M1 (by omega) (by omega) rfl
  obtain ⟨r, e, er⟩ := this
  rw [er] at e
  exact e
def lfB (s : St) (n v : Nat) : Nat := bskF (bgW s) (bgM s) n v (2 ^ bgM s - 1)
def lfA (s : St) (n v : Nat) : Int32 := nI (szF (bgW s) (2 ^ bgM s - 1) (bgM s)) - nI (szF (bgW s) (lfB s n v) (bgM s))
noncomputable def a_left (s : St) (x y : Int32) : Int32 := by classical exact if ixP x 5 = true ∧ 1 ≤ y ∧ y ≤ 20 then (if bgK s then lfA s x.toNatClampNeg y.toNatClampNeg else -1 - nI (bgM s)) else -100
noncomputable def n_left (s : St) (x y : Int32) : St := by classical exact if (ixP x 5 = true ∧ 1 ≤ y ∧ y ≤ 20) ∧ bgK s then zsrow (z0 s) (rowOf [Int32.toInt64 (nI (lfB s x.toNatClampNeg y.toNatClampNeg))]) else z0 s
theorem lf_0 {s : St} {x y : Int32} (h : ¬ (ixP x 5 = true ∧ 1 ≤ y ∧ y ≤ 20)) : a_left s x y = -100 ∧ n_left s x y = z0 s := ⟨if_neg h, if_neg (fun q => h q.1)⟩
theorem lf_1 {s : St} {x y : Int32} (h : ixP x 5 = true ∧ 1 ≤ y ∧ y ≤ 20) (hk : ¬ bgK s) : a_left s x y = -1 - nI (bgM s) ∧ n_left s x y = z0 s := ⟨(if_pos h).trans (if_neg hk), if_neg (fun q => hk q.2)⟩
theorem lf_2 {s : St} {x y : Int32} (h : ixP x 5 = true ∧ 1 ≤ y ∧ y ≤ 20) (hk : bgK s) : a_left s x y = lfA s x.toNatClampNeg y.toNatClampNeg ∧ n_left s x y = zsrow (z0 s) (rowOf [Int32.toInt64 (nI (lfB s x.toNatClampNeg y.toNatClampNeg))]) := ⟨(if_pos h).trans (if_pos hk), if_pos ⟨h, hk⟩⟩
theorem W_left {s : St} (hw : WF s) (x y : Int32) : WF (n_left s x y) := by
  unfold n_left
  split
  · exact WF_row (W_z0 hw) (by show 1 ≤ 8; decide)
  · exact W_z0 hw
theorem ix5n {v : Int32} : (¬ v < 0 ∧ ¬ (4 : Int32) < v) ↔ ixP v 5 = true := by
  rw [ix_t]
  constructor
  · rintro ⟨h1, h2⟩
    refine ⟨h1, ?_⟩
    rw [fa_lt, nI_toInt (by decide)]
    rw [fa_lt, show (4 : Int32).toInt = 4 from by decide] at h2
    omega
  · rintro ⟨h1, h2⟩
    refine ⟨h1, ?_⟩
    rw [fa_lt, nI_toInt (by decide)] at h2
    rw [fa_lt, show (4 : Int32).toInt = 4 from by decide]
    omega
theorem C_left {s : St} (hw : WF s) (x y : Int32) : OpC (fun M => f_X11_left 0 x y M) s (a_left s x y) (n_left s x y) := by
  intro M h
  have hL := hw.1.2.2.2.2.2.2.1
  obtain ⟨M1, e1, c1, f1, r1⟩ := c_begin' hw h (m := 80) (by decide)
  rw [show min (zL s) 80 = zL s by omega] at c1
  show ∃ M', f_X11_left 0 x y M = _ ∧ _
  unfold f_X11_left f_X11_left_0
  have R0 : ∀ {N : MM}, Sh N → gR 11 0 0 N = some 1 := fun g => sh_R g (a := 0) (k := 0) (b := 1) 11 (by decide) rfl (by decide)
  have R11 : ∀ {N : MM}, Sh N → gR 11 11 0 N = some 137 := fun g => sh_R g (a := 0) (k := 11) (b := 137) 11 (by decide) rfl (by decide)
  have R1 : ∀ {N : MM}, Sh N → gR 11 1 0 N = some 3 := fun g => sh_R g (a := 0) (k := 1) (b := 3) 11 (by decide) rfl (by decide)
  rw [if_pos (sh_O h.1 11 (by decide) rfl), R0 h.1, b1_s, show (80 : Int32) = nI 80 from rfl, e1, b1_s]
  by_cases hr : ixP x 5 = true ∧ 1 ≤ y ∧ y ≤ 20
  · obtain ⟨v, hv1, hv2, rfl⟩ := one_n (n := 20) (by decide) hr.2
    obtain ⟨n, hn, rfl⟩ := ix_ex (by decide) hr.1
    rw [if_neg (ix5n.mpr hr.1).1, if_neg (ix5n.mpr hr.1).2, if_neg (fun g => (fa_of_lt g).2.1 hr.2.1), if_pos hr.2.2, R11 c1.1.1, b1_s, R0 c1.1.1, b1_s]
    obtain ⟨M2, e2, c2, b2, f2, r2⟩ := c_bread c1
    have s2 := c2.1.1
    have fr2 : Fr cW M M2 := f1.tr (f2.mono (fun a k q => by unfold wBg at q; unfold cW; omega))
    rw [e2, b2_s]
    by_cases hk : bgK s
    · have hm := bg_b s
      have hm1 : 1 ≤ bgM s := by have := hk.1; omega
      have h256 := p2_le hm.1
      have hp := p2_pos (bgM s)
      have hkd : decide (bgN (ztap s) (zL s) 8 0 ≠ 0 ∧ zL s ≤ bgN (ztap s) (zL s) 8 0) = true := decide_eq_true hk
      obtain ⟨M3, e3, b3, f3, r3⟩ := c_mostin s2 (m := bgM s) (n := n) (w := bgW s) b2 hm1 hm.1 (by omega) hv2 hm.2
      have s3 := f3.sh' r3 s2
      have c3 : RC (z0 s) M3 := c2.1.fr (f3.mono (fun a k q => by unfold w141 at q; unfold wC; omega)) s3
      have fr3 : Fr cW M M3 := fr2.tr (f3.mono (fun a k q => by unfold w141 at q; unfold cW; omega))
      obtain ⟨M4, e4, w4, f4, r4⟩ := c_one s3 (Int32.toInt64 (nI (bskF (bgW s) (bgM s) n v (2 ^ bgM s - 1))))
      have s4 := f4.sh' r4 s3
      have b4 := b3.fr f4 (fun a k q => by unfold wRow; omega)
      have hbs := bskF_le (bgW s) (bgM s) n v (2 ^ bgM s - 1)
      rw [(lf_2 hr hk).1, (lf_2 hr hk).2, nI_clamp (by omega), nI_clamp (by omega), hkd, if_neg (show ¬ bI true = 0 by decide), R11 s2, b1_s, e3, b2_s, R1 s3, b1_s, e4, b1_s, R11 s4, b1_s, b1_s, gI_k 1 (O137 s4), b1_s, b4.1, sb_pow _ hm.1, nS1 hp, c_szo s4 b4 hm.1 (by omega), b2_s, R11 s4, b1_s, c_szo s4 b4 hm.1 (by omega), b2_s]
      exact ⟨M4, rfl, c3.row f4 r4 w4, fr3.tr (wRow_cW f4)⟩
    · have hkd : decide (bgN (ztap s) (zL s) 8 0 ≠ 0 ∧ zL s ≤ bgN (ztap s) (zL s) 8 0) = false := decide_eq_false hk
      rw [(lf_1 hr hk).1, (lf_1 hr hk).2, hkd, if_pos (show bI false = 0 from rfl), R0 s2, b1_s, tc_ref c2, b2_s]
      exact ⟨M2, rfl, c2.1, fr2⟩
  · rw [(lf_0 hr).1, (lf_0 hr).2]
    refine ⟨M1, ?_, c1.1, f1⟩
    by_cases h1 : x < 0
    · rw [if_pos h1]
    · rw [if_neg h1]
      by_cases h2 : (4 : Int32) < x
      · rw [if_pos h2]
      · rw [if_neg h2]
        by_cases h3 : y < 1
        · rw [if_pos h3]
        · rw [if_neg h3, if_neg (fun g => hr ⟨ix5n.mp ⟨h1, h2⟩, fa_of_nlt h3, g⟩)]
theorem R_left {s : St} (hw : WF s) (x y : Int32) : OpR (fun M => f_X12_left 143 x y M) s (a_left s x y) (n_left s x y) := by
  intro M h
  obtain ⟨N, et, ht, ft, rt, t0, l0⟩ := r_thr0 h
  have hL := hw.1.2.2.2.2.2.2.1
  obtain ⟨M1, e1, c1, n1, f1, r1⟩ := r_begin' hw ht (m := 80) (by decide)
  rw [show min (zL s) 80 = zL s by omega] at c1
  show ∃ M', f_X12_left 143 x y M = _ ∧ _
  unfold f_X12_left f_X12_left_0
  rw [if_pos (O143 h.1), et, b1_s, show (80 : Int32) = nI 80 from rfl, e1, b2_s, show f_X12_in x.toInt64 0 4 M1 = some (if ixP x 5 = true then 1 else 0, M1) from e_in0n _ 5 (by decide) M1, b2_s]
  by_cases hx : ixP x 5 = true
  · rw [if_pos hx, if_neg (by decide), e_inL y 1 20 _ _ (by decide) (by decide), b2_s]
    by_cases hy : 1 ≤ y ∧ y ≤ 20
    · have hr : ixP x 5 = true ∧ 1 ≤ y ∧ y ≤ 20 := ⟨hx, hy⟩
      obtain ⟨v, hv1, hv2, rfl⟩ := one_n (n := 20) (by decide) hy
      obtain ⟨n, hn, rfl⟩ := ix_ex (by decide) hx
      obtain ⟨M2, e2, c2, bq2, f2, r2⟩ := r_bread c1
      have s2 := c2.1.1
      have fr2 : Fr rW M M2 := (ft.tr f1).tr (f2.mono (fun a k q => by unfold wBr at q; unfold rW; omega))
      have hm := bg_b s
      rw [if_pos hy, if_neg (by decide), e2, b2_s]
      by_cases hk : bgK s
      · have hm1 : 1 ≤ bgM s := by have := hk.1; omega
        have h256 := p2_le hm.1
        have hp := p2_pos (bgM s)
        have b2' : BgR M2 (bgM s) (bgW s) := bq2
        rw [(lf_2 hr hk).1, (lf_2 hr hk).2, nI_clamp (by omega), nI_clamp (by omega), if_pos (c := bgN (ztap s) (zL s) 8 0 ≠ 0 ∧ zL s ≤ bgN (ztap s) (zL s) 8 0) hk, if_pos (show (0 : Int32) ≤ 0 by decide), gI_k 48 (O143 s2), b1_s, b2'.1, sb_pow _ hm.1, nS1 hp, bn_s]
        obtain ⟨f', M3, e3, f3, r3⟩ := lpg (fun f k N => f_X12_left_66 f 143 (nI n) (nI v) (nI (2 ^ bgM s - 1)) (nI (bskF (bgW s) (bgM s) n v k)) (nI (k + 1)) N) (fun k N => Fr wPq M2 N ∧ mR N = mR M2) (2 ^ bgM s - 1) (fun f k Q hk hi => by
          obtain ⟨fQ, rQ⟩ := hi
          have sQ := fQ.sh' rQ s2
          have bQ : BgR Q (bgM s) (bgW s) := b2'.fr fQ (fun a k q => by unfold wPq; omega)
          have hbs := bskF_le (bgW s) (bgM s) n v k
          obtain ⟨Q2, e4, t4, f4, r4⟩ := r_can (c := n) (st := k + 1) hm.1 (by omega) (by omega) hv2 (fun i hi => (hm.2 i hi).2) sQ bQ
          show ∃ M', f_X12_left_66 (f + 1) _ _ _ _ _ _ _ = f_X12_left_66 f _ _ _ _ _ _ M' ∧ _
          rw [f_X12_left_66, if_neg (nI_nlt (by omega) (by omega)), r_szo sQ bQ hm.1 (by omega), b2_s, r_szo sQ bQ hm.1 (by omega), b2_s, bn_s, bskF_s]
          unfold f_X12_left_111 f_X12_left_115 f_X12_left_116 f_X12_left_139 f_X12_left_141 btr
          have tail : ∀ B : Prop, [Decidable B] → B → ∃ M', b2 (f_X12_canPack 143 (nI n) (nI v) (nI (k + 1)) Q) (fun r2 M1 => if r2 = 0 then bn (nI (k + 1) + 1) (fun y1 => f_X12_left_66 f 143 (nI n) (nI v) (nI (2 ^ bgM s - 1)) (nI (bskF (bgW s) (bgM s) n v k)) y1 M1) else bn (nI (k + 1) + 1) (fun y1 => f_X12_left_66 f 143 (nI n) (nI v) (nI (2 ^ bgM s - 1)) (nI (k + 1)) y1 M1)) = f_X12_left_66 f 143 (nI n) (nI v) (nI (2 ^ bgM s - 1)) (nI (if B ∧ (dfs (bgW s) (k + 1).testBit n (bgM s) 0 (fun _ => v) 0).isSome = true then k + 1 else bskF (bgW s) (bgM s) n v k)) (nI (k + 1 + 1)) M' ∧ Fr wPq M2 M' ∧ mR M' = mR M2 := by
            intro B _ hB
            rw [e4, b2_s]
            cases hd : (dfs (bgW s) (k + 1).testBit n (bgM s) 0 (fun _ => v) 0).isSome with
            | true => rw [if_neg (show ¬ bI true = 0 by decide), bn_s, nI_1, if_pos ⟨hB, rfl⟩]; exact ⟨Q2, rfl, fQ.tr f4, r4.trans rQ⟩
            | false => rw [if_pos (show bI false = 0 from rfl), bn_s, nI_1, if_neg (fun q => by cases q.2)]; exact ⟨Q2, rfl, fQ.tr f4, r4.trans rQ⟩
          by_cases g1 : 0 < nI (szF (bgW s) (k + 1) (bgM s)) - nI (szF (bgW s) (bskF (bgW s) (bgM s) n v k) (bgM s))
          · rw [if_pos g1, if_pos g1, if_neg (by decide)]
            exact tail (true = true) rfl
          · rw [if_neg g1, if_neg g1]
            by_cases g2 : nI (szF (bgW s) (k + 1) (bgM s)) - nI (szF (bgW s) (bskF (bgW s) (bgM s) n v k) (bgM s)) = 0
            · rw [if_pos g2, if_pos g2, e_bc, b2_s, e_bc, b2_s]
              by_cases g3 : bcI (nI (bskF (bgW s) (bgM s) n v k)) ≤ bcI (nI (k + 1))
              · rw [if_pos g3, if_pos rfl, bn_s, nI_1, decide_eq_true g3, if_neg (fun q => absurd q.1 (by decide))]
                exact ⟨Q, rfl, fQ, rQ⟩
              · rw [if_neg g3, if_neg (by decide), decide_eq_false g3]
                exact tail ((!false) = true) rfl
            · rw [if_neg g2, if_neg g2, if_pos rfl, bn_s, nI_1, if_neg (fun q => absurd q.1 (by decide))]
              exact ⟨Q, rfl, fQ, rQ⟩) 1024 0 M2 (by omega) (by omega) ⟨Fr.rf M2, rfl⟩
        have s3 := f3.sh' r3 s2
        have b3 : BgR M3 (bgM s) (bgW s) := b2'.fr f3 (fun a k q => by unfold wPq; omega)
        have c3 : RR (z0 s) M3 := c2.1.fr (f3.mono (fun a k q => by unfold wPq at q; unfold wR; omega)) s3
        obtain ⟨M4, M5, e4, e5, c5, f5, r5⟩ := r_one' c3 (Int32.toInt64 (nI (bskF (bgW s) (bgM s) n v (2 ^ bgM s - 1))))
        have s5 := c5.1
        have b5 : BgR M5 (bgM s) (bgW s) := b3.fr f5 (fun a k q => by unfold wRoR; omega)
        have hbs := bskF_le (bgW s) (bgM s) n v (2 ^ bgM s - 1)
        have e3' : f_X12_left_66 1024 143 (nI n) (nI v) (nI (2 ^ bgM s - 1)) 0 1 M2 = f_X12_left_66 (f' + 1) 143 (nI n) (nI v) (nI (2 ^ bgM s - 1)) (nI (bskF (bgW s) (bgM s) n v (2 ^ bgM s - 1))) (nI (2 ^ bgM s - 1 + 1)) M3 := e3
        rw [e3', f_X12_left_66, if_pos (nI_lt (by omega) (by omega)), e4, b1_s, e5, b1_s, r_szo s5 b5 hm.1 (by omega), b2_s, r_szo s5 b5 hm.1 (by omega), b2_s]
        exact ⟨M5, rfl, c5, (fr2.tr (f3.mono (fun a k q => by unfold wPq at q; unfold rW; omega))).tr (wRoR_rW f5), r5.trans (r3.trans (r2.trans (r1.trans rt)))⟩
      · rw [(lf_1 hr hk).1, (lf_1 hr hk).2, if_neg (c := bgN (ztap s) (zL s) 8 0 ≠ 0 ∧ zL s ≤ bgN (ztap s) (zL s) 8 0) hk]
        refine ⟨M2, ?_, c2.1, fr2, r2.trans (r1.trans rt)⟩
        rw [if_neg]
        · rfl
        · have hm8 : bgN (ztap s) (zL s) 8 0 ≤ 8 := hm.1
          rw [fa_le, fb_subI (by rw [nI_toInt (by omega), show (-1 : Int32).toInt = -1 from by decide]; omega) (by rw [nI_toInt (by omega), show (-1 : Int32).toInt = -1 from by decide]; omega), nI_toInt (by omega), show (-1 : Int32).toInt = -1 from by decide, show (0 : Int32).toInt = 0 from by decide]
          omega
    · have hr : ¬ (ixP x 5 = true ∧ 1 ≤ y ∧ y ≤ 20) := fun q => hy q.2
      rw [(lf_0 hr).1, (lf_0 hr).2, if_neg hy, if_pos rfl]
      exact ⟨M1, rfl, c1.1, ft.tr f1, r1.trans rt⟩
  · have hr : ¬ (ixP x 5 = true ∧ 1 ≤ y ∧ y ≤ 20) := fun q => hx q.1
    rw [(lf_0 hr).1, (lf_0 hr).2, if_neg hx, if_pos rfl]
    exact ⟨M1, rfl, c1.1, ft.tr f1, r1.trans rt⟩
theorem case_34 : CaseOK g_L_34 := by
  intro L xs j K M hL hj hc
  obtain ⟨s, hw, hc, hr⟩ := hc
  obtain ⟨M1, M2, hcp, e1, e2⟩ := asm (C_left hw (xs (j + 1)) (xs (j + 2))) (R_left hw (xs (j + 1)) (xs (j + 2))) (W_left hw (xs (j + 1)) (xs (j + 2))) hc hr
  refine ⟨M2, hcp, ?_⟩
  unfold g_L_34
  simp only [show (nI j + 1 : Int32) = nI (j + 1) from nI_add _ 1, show (nI j + 2 : Int32) = nI (j + 2) from nI_add _ 2, show (nI j + 3 : Int32) = nI (j + 3) from nI_add _ 3, show (nI j + 4 : Int32) = nI (j + 4) from nI_add _ 4, scr_k (show j + 1 < L by omega) hL, scr_k (show j + 2 < L by omega) hL, scr_k (show j + 3 < L by omega) hL, scr_k (show j + 4 < L by omega) hL, b1_s, e1, e2, b2_s, if_true]

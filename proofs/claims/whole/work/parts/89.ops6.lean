/-! CALLS: bench, alone, stays, hands, stuck, person -/
theorem e_isM {s : St} {M : MM} (hw : WF s) (h : RR s M) (x : Int32) : f_X12_isMinute 143 x M = some (if ixP x (zT s) = true then 1 else 0, M) := by
  have hT := hw.1.2.2.2.1
  unfold f_X12_isMinute f_X12_isMinute_0
  rw [if_pos (sh_O h.1 12 (by decide) rfl), gI_k 6 (sh_O h.1 12 (by decide) rfl), b1_s, h.2.2.2.1.2.2.1, e_in0n _ _ (by omega), b2_s]
  split
  · exact rz1 M
  · exact rz0 M
def waB (s : St) (q : Pl) (m p : Nat) : Bool := awF s q q.1 p m && !buF s q q.1 p m
def a_bench (s : St) (x : Int32) : Int32 := if ixP x (zT s) = true then beB s (zplan s) x.toNatClampNeg else -1
def n_bench (s : St) (x : Int32) : St := if ixP x (zT s) = true then zsrow s (rowOf [Int32.toInt64 (seI s (zplan s) x.toNatClampNeg), Int32.toInt64 (orB (waB s (zplan s) x.toNatClampNeg) (zP s))]) else s
theorem W_bench {s : St} (hw : WF s) (x : Int32) : WF (n_bench s x) := by
  unfold n_bench
  split
  · exact WF_row hw (by show 2 ≤ 8; decide)
  · exact hw
theorem LK.fr {s : St} {q : Pl} {M M' : MM} {L : Nat} {W : Nat → Nat → Prop} (h : LK s q M L) (f : Fr W M M') (w : ∀ a k, L + 4 ≤ a → a ≤ L + 32 → ¬ W a k) (hP : zP s ≤ 6) : LK s q M' L := by
  have ms : ∀ c P, L + 4 ≤ c → c ≤ L + 32 → MS M c P → MS M' c P := fun c P h1 h2 hm i hi => by rw [f.2.2.2.1 c 0 (w c 0 h1 h2), f.2.2.2.1 c 1 (w c 1 h1 h2)]; exact hm i hi
  exact ⟨fun p hp => ⟨ms _ _ (by omega) (by omega) (h.1 p hp).1, ms _ _ (by omega) (by omega) (h.1 p hp).2.1, ms _ _ (by omega) (by omega) (h.1 p hp).2.2.1, ms _ _ (by omega) (by omega) (h.1 p hp).2.2.2⟩, ms _ _ (by omega) (by omega) h.2.1, ms _ _ (by omega) (by omega) h.2.2⟩
theorem C_bench {s : St} (hw : WF s) (x : Int32) : OpC (fun M => f_X11_bench 0 x M) s (a_bench s x) (n_bench s x) := by
  intro M h
  have h0 := h.1
  have hP := hw.1.1
  have hT := hw.1.2.2.2.1
  show ∃ M', f_X11_bench 0 x M = _ ∧ _
  unfold f_X11_bench f_X11_bench_0
  rw [if_pos (sh_O h0 11 (by decide) rfl)]
  by_cases hc : ixP x (zT s) = true
  · obtain ⟨m, hm, rfl⟩ := ix_ex (by omega) hc
    obtain ⟨M1, e1, c1, k1, f1⟩ := c_looked hw h
    have s1 := c1.1
    have x1 := c1.cx hw
    obtain ⟨M2, e2, w2, f2, r2⟩ := c_two s1 (Int32.toInt64 (seI s (zplan s) m)) (Int32.toInt64 (orB (waB s (zplan s) m) (zP s)))
    have c2 := c1.row f2 r2 w2
    have k2 : LK s (zplan s) M2 18 := k1.fr f2 (fun a k h1 h2 => by unfold wRow; omega) hP
    rw [show a_bench s (nI m) = beB s (zplan s) m by unfold a_bench; rw [if_pos hc, nI_clamp (by omega)], show n_bench s (nI m) = zsrow s (rowOf [Int32.toInt64 (seI s (zplan s) m), Int32.toInt64 (orB (waB s (zplan s) m) (zP s))]) by unfold n_bench; rw [if_pos hc, nI_clamp (by omega)]]
    refine ⟨M2, ?_, c2, f1.tr (wRow_cW f2)⟩
    rw [if_neg (nI_pos (by omega)), sh_R h0 (a := 0) (k := 2) (b := 5) 11 (by decide) rfl (by decide), b1_s, gI_k 9 (sh_O h0 9 (by decide) rfl), b1_s, h.2.2.2.1.2.2.1, if_pos (nI_lt hm (by omega)), sh_R h0 (a := 0) (k := 5) (b := 18) 11 (by decide) rfl (by decide), b1_s, e1, b1_s]
    have this : f_X11_bench_31 1024 0 (nI m) (orB (fun p => seF s (zplan s) (zplan s).1 p m) 0) (orB (waB s (zplan s) m) 0) (nI 0) M1 = some (beB s (zplan s) m, M2) := by
      refine lpv (fun f k => f_X11_bench_31 f 0 (nI m) (orB (fun p => seF s (zplan s) (zplan s).1 p m) k) (orB (waB s (zplan s) m) k) (nI k) M1) (zP s) _ (fun f k hp => Or.inl ?_) (fun f => ?_) 1024 0 (by omega) (by omega)
      · show f_X11_bench_31 (f + 1) _ _ _ _ _ _ = _
        have hR5 := sh_R s1 (a := 0) (k := 5) (b := 18) 11 (by decide) rfl (by decide)
        have g := lx_f s1 (Or.inl ⟨rfl, rfl⟩ : LX 18 14)
        have l := lx_ld (p := k) s1 (Or.inl ⟨rfl, rfl⟩ : LX 18 14) (by omega)
        have hk := k1.1 k hp
        rw [f_X11_bench_31, sh_R s1 (a := 0) (k := 2) (b := 5) 11 (by decide) rfl (by decide), b1_s, gI_k 7 (sh_O s1 9 (by decide) rfl), b1_s, c1.2.2.2.1.1, if_neg (nI_ge hp (by omega)), hR5, b1_s, g.2.2.1, b1_s, l.2.2.1, b1_s, m_has (lx_c s1 (Or.inl ⟨rfl, rfl⟩ : LX 18 14) (by omega)) hk.2.2.1 (by omega), b2_s, orB_s, orB_s]
        have key : ∀ (K : Nat → Int32 → Int32 → Int32 → Int32 → MM → Option (Int32 × MM)) (x y z : Int32), f_X11_bench_69 K 0 (nI m) y (nI k) z x M1 = K 0 (nI m) (x ||| z) (y ||| (if waB s (zplan s) m k = true then (1 : Int32) <<< (nI k &&& 31) else 0)) (nI (k + 1)) M1 := by
          intro K x y z
          unfold f_X11_bench_69 f_X11_bench_113 f_X11_bench_114 waB
          rw [bn_s, hR5, b1_s, g.1, b1_s, l.1, b1_s, m_has (lx_c s1 (Or.inl ⟨rfl, rfl⟩ : LX 18 14) (by omega)) hk.1 (by omega), b2_s]
          cases awF s (zplan s) (zplan s).1 k m with
          | false => rw [if_pos (show bI false = 0 from rfl), bn_s, bn_s, nI_1, Bool.false_and, if_neg (by decide)]
          | true =>
            rw [if_neg (show ¬ bI true = 0 by decide), hR5, b1_s, g.2.1, b1_s, l.2.1, b1_s, m_has (lx_c s1 (Or.inl ⟨rfl, rfl⟩ : LX 18 14) (by omega)) hk.2.1 (by omega), b2_s]
            cases buF s (zplan s) (zplan s).1 k m with
            | false => rw [if_pos (show bI false = 0 from rfl), bn_s, bn_s, nI_1, if_pos (show (true && !false) = true from rfl)]
            | true => rw [if_neg (show ¬ bI true = 0 by decide), bn_s, bn_s, nI_1, if_neg (by decide)]
        cases seF s (zplan s) (zplan s).1 k m with
        | false => rw [if_pos (show bI false = 0 from rfl), key, if_neg (show ¬ false = true by decide)]
        | true => rw [if_neg (show ¬ bI true = 0 by decide), key, if_pos rfl]
      · show f_X11_bench_31 (f + 1) _ _ _ _ _ _ = _
        rw [f_X11_bench_31, sh_R s1 (a := 0) (k := 2) (b := 5) 11 (by decide) rfl (by decide), b1_s, gI_k 7 (sh_O s1 9 (by decide) rfl), b1_s, c1.2.2.2.1.1, if_pos (nI_le (Nat.le_refl _) (by omega)), sh_R s1 (a := 0) (k := 1) (b := 3) 11 (by decide) rfl (by decide), b1_s]
        show b1 (f_X6_two 3 (Int32.toInt64 (seI s (zplan s) m)) _ M1) _ = _
        rw [e2, b1_s, sh_R c2.1 (a := 0) (k := 5) (b := 18) 11 (by decide) rfl (by decide), b1_s]
        have e3 : f_X1_benchIn 18 (nI m) M2 = some (beB s (zplan s) m, M2) := c_bench (s := s) (a := 14) ⟨c2.1, c2.2.2.2.1, hw.1, hw.2.1, PA14, c2.2.2.2.2.1, hw.2.2.2.2.1⟩ (Or.inl ⟨rfl, rfl⟩) k2 (by omega)
        rw [e3, b2_s]
    rw [nI_0] at this
    exact this
  · rw [show a_bench s x = -1 from if_neg hc, show n_bench s x = s from if_neg hc]
    refine ⟨M, ?_, h, Fr.rf M⟩
    by_cases h1 : x < 0
    · rw [if_pos h1]
    · rw [if_neg h1, sh_R h0 (a := 0) (k := 2) (b := 5) 11 (by decide) rfl (by decide), b1_s, gI_k 9 (sh_O h0 9 (by decide) rfl), b1_s, h.2.2.2.1.2.2.1, if_neg (fun q => hc (ix_t.mpr ⟨h1, q⟩))]
def waR (s : St) (q : Pl) (m : Nat) : Nat → Int32
  | 0 => ((1 : Int32) <<< (nI (zP s) &&& 31) - 1) &&& (beB s q m ^^^ (-1))
  | k + 1 => waR s q m k &&& (if thB s (q.2 k) m = true then ((1 : Int32) <<< (nI (tw (q.2 k)) &&& 31)) ^^^ (-1) else -1)
theorem waR_s (s : St) (q : Pl) (m k : Nat) : waR s q m (k + 1) = waR s q m k &&& (if thB s (q.2 k) m = true then ((1 : Int32) <<< (nI (tw (q.2 k)) &&& 31)) ^^^ (-1) else -1) := rfl
theorem waR_bt {s : St} {q : Pl} (hP : zP s ≤ 6) (m : Nat) : ∀ k, (∀ j, j < k → tw (q.2 j) < 8) → ∀ i, i < 32 → bt (waR s q m k) i = (decide (i < zP s) && (awF s q q.1 i m && !buF s q k i m))
  | 0, _, i, hi => by
    rw [waR, b_and, msk_bt _ (by omega) i hi, not_bt _ hi]
    unfold beB
    rw [orB_bt _ _ (by omega) i hi]
    show _ = (_ && (_ && true))
    by_cases hp : i < zP s
    · rw [decide_eq_true hp]
      cases awF s q q.1 i m <;> rfl
    · rw [decide_eq_false hp]; rfl
  | k + 1, hk, i, hi => by
    rw [waR_s, b_and, waR_bt hP m k (fun j hj => hk j (by omega)) i hi, buF_s, Bool.not_or, Bool.and_assoc, Bool.and_assoc]
    congr 1
    congr 1
    congr 1
    cases ht : thB s (q.2 k) m with
    | true =>
      rw [if_pos rfl, not_bt _ hi, one_bt (by have := hk k (by omega); omega) hi, Bool.and_true]
      congr 1
      rw [decide_eq_decide]; omega
    | false => rw [if_neg (by decide), b_m1 i hi, Bool.and_false]; rfl
theorem R_bench {s : St} (hw : WF s) (x : Int32) : OpR (fun M => f_X12_bench 143 x M) s (a_bench s x) (n_bench s x) := by
  intro M h
  obtain ⟨N, et, ht, ft, rt, t0, l0⟩ := r_thr0 h
  have h0 := ht.1
  have hP := hw.1.1
  have hT := hw.1.2.2.2.1
  have hx := ht.rx hw
  have h15 := hx.2.2.2.2.2.2.1
  have hR := sh_R h0 (a := 143) (k := 15) (b := 153) 12 (by decide) rfl (by decide)
  show ∃ M', f_X12_bench 143 x M = _ ∧ _
  unfold f_X12_bench f_X12_bench_0
  rw [if_pos (sh_O h.1 12 (by decide) rfl), et, b1_s, e_isM hw ht, b2_s]
  by_cases hc : ixP x (zT s) = true
  · obtain ⟨m, hm, rfl⟩ := ix_ex (by omega) hc
    obtain ⟨M1, e1, w1, f1, r1⟩ := r_clr h0
    have s1 := f1.sh' r1 h0
    have x1 : RX s M1 153 (zplan s) := hx.frx f1 s1 (fun b k q => by unfold wRoR; omega)
    obtain ⟨M2, e2, w2, f2, r2⟩ := r_ent s1 w1 (by decide) (Int32.toInt64 (seI s (zplan s) m))
    have s2 := f2.sh' r2 s1
    obtain ⟨M3, e3, w3, f3, r3⟩ := r_ent s2 w2 (by simp) (Int32.toInt64 (orB (waB s (zplan s) m) (zP s)))
    have s3 := f3.sh' r3 s2
    have f4 := (f1.tr f2).tr f3
    have r4 := r3.trans (r2.trans r1)
    have c3 := ht.row f4 r4 w3
    have x3 : RX s M3 153 (zplan s) := hx.frx f4 s3 (fun b k q => by unfold wRoR; omega)
    have ew : waR s (zplan s) m (zplan s).1 = orB (waB s (zplan s) m) (zP s) := orB_e (by omega) (fun i hi => by rw [waR_bt hP m _ (fun j hj => by have := okT_b (hx.2.2.2.2.2.2.2 j hj); omega) i hi]; rfl)
    rw [show a_bench s (nI m) = beB s (zplan s) m by unfold a_bench; rw [if_pos hc, nI_clamp (by omega)], show n_bench s (nI m) = zsrow s (rowOf [Int32.toInt64 (seI s (zplan s) m), Int32.toInt64 (orB (waB s (zplan s) m) (zP s))]) by unfold n_bench; rw [if_pos hc, nI_clamp (by omega)]]
    refine ⟨M3, ?_, c3, ft.tr (wRoR_rW f4), r4.trans rt⟩
    rw [if_pos hc, if_neg (by decide), gI_k 3 (sh_O h0 12 (by decide) rfl), b1_s, ht.2.2.2.1.1, hR, b1_s, r_bench hx (by omega), b2_s, bn_s]
    have this : f_X12_bench_38 1024 143 (nI m) (waR s (zplan s) m 0) (nI 0) N = some (beB s (zplan s) m, M3) := by
      refine lpv (fun f k => f_X12_bench_38 f 143 (nI m) (waR s (zplan s) m k) (nI k) N) (zplan s).1 _ (fun f k hk => Or.inl ?_) (fun f => ?_) 1024 0 (by omega) (by omega)
      · show f_X12_bench_38 (f + 1) _ _ _ _ _ = _
        rw [f_X12_bench_38, hR, b1_s, r_size hx, b1_s, if_neg (nI_ge hk (by omega)), b1_s, r_there hx hk (by omega), b2_s, hR, b1_s, r_who hx hk, b2_s, waR_s]
        unfold f_X12_bench_79
        cases thB s ((zplan s).2 k) m with
        | true => rw [if_neg (by decide), bn_s, bn_s, nI_1, if_pos rfl]
        | false => rw [if_pos (show bI false = 0 from rfl), bn_s, bn_s, nI_1, if_neg (by decide)]
      · show f_X12_bench_38 (f + 1) _ _ _ _ _ = _
        rw [f_X12_bench_38, hR, b1_s, r_size hx, b1_s, if_pos (nI_le (Nat.le_refl _) (by omega)), e1, b1_s, sh_R s1 (a := 143) (k := 15) (b := 153) 12 (by decide) rfl (by decide), b1_s, r_seers x1 (by omega), b2_s, e2, b1_s, ew, e3, b1_s, sh_R s3 (a := 143) (k := 15) (b := 153) 12 (by decide) rfl (by decide), b1_s, r_bench x3 (by omega), b2_s]
    rw [nI_0] at this
    exact this
  · rw [show a_bench s x = -1 from if_neg hc, show n_bench s x = s from if_neg hc, if_neg hc, if_pos rfl]
    exact ⟨N, rfl, ht, ft, rt⟩
theorem case_20 : CaseOK g_L_20 := by
  intro L xs j K M hL hj hc
  obtain ⟨s, hw, hc, hr⟩ := hc
  obtain ⟨M1, M2, hcp, e1, e2⟩ := asm (C_bench hw (xs (j + 1))) (R_bench hw (xs (j + 1))) (W_bench hw (xs (j + 1))) hc hr
  refine ⟨M2, hcp, ?_⟩
  unfold g_L_20
  simp only [show (nI j + 1 : Int32) = nI (j + 1) from nI_add _ 1, show (nI j + 2 : Int32) = nI (j + 2) from nI_add _ 2, show (nI j + 3 : Int32) = nI (j + 3) from nI_add _ 3, show (nI j + 4 : Int32) = nI (j + 4) from nI_add _ 4, scr_k (show j + 1 < L by omega) hL, scr_k (show j + 2 < L by omega) hL, scr_k (show j + 3 < L by omega) hL, scr_k (show j + 4 < L by omega) hL, b1_s, e1, e2, b2_s, if_true]
/-! alone -/
def unB (s : St) (m : Nat) : Bool := !watB s (zplan s) m
def frF (P : Nat → Bool) : Nat → Int32
  | 0 => -1
  | k + 1 => if mxF P k < rnF P (k + 1) then nI k - nI (rnF P (k + 1)) + 1 else frF P k
theorem frF_s (P : Nat → Bool) (k : Nat) : frF P (k + 1) = if mxF P k < rnF P (k + 1) then nI k - nI (rnF P (k + 1)) + 1 else frF P k := rfl
theorem fstB_s (P : Nat → Bool) (k : Nat) : fstB P (k + 1) = if fstB P k = -1 ∧ P k = true then nI k else fstB P k := rfl
def a_alone (s : St) : Int32 := nI (fb_ct (unB s) (zT s))
def n_alone (s : St) : St := zsrow s (rowOf [Int32.toInt64 (fstB (unB s) (zT s)), Int32.toInt64 (nI (mxF (unB s) (zT s))), Int32.toInt64 (frF (unB s) (zT s))])
theorem W_alone {s : St} (hw : WF s) : WF (n_alone s) := WF_row hw (by show 3 ≤ 8; decide)
theorem C_alone {s : St} (hw : WF s) : OpC (fun M => f_X11_alone 0 M) s (a_alone s) (n_alone s) := by
  intro M h
  have h0 := h.1
  have hT := hw.1.2.2.2.1
  obtain ⟨M1, e1, c1, k1, f1⟩ := c_looked hw h
  have s1 := c1.1
  have x1 := c1.cx hw
  obtain ⟨M2, e2, w2, f2, r2⟩ := c_three s1 (Int32.toInt64 (fstB (unB s) (zT s))) (Int32.toInt64 (nI (mxF (unB s) (zT s)))) (Int32.toInt64 (frF (unB s) (zT s)))
  refine ⟨M2, ?_, c1.row f2 r2 w2, f1.tr (wRow_cW f2)⟩
  show f_X11_alone 0 M = _
  unfold f_X11_alone f_X11_alone_0
  rw [if_pos (sh_O h0 11 (by decide) rfl), sh_R h0 (a := 0) (k := 5) (b := 18) 11 (by decide) rfl (by decide), b1_s, e1, b1_s]
  have this : f_X11_alone_22 1024 0 (fstB (unB s) 0) (nI (fb_ct (unB s) 0)) (nI (rnF (unB s) 0)) (nI (mxF (unB s) 0)) (frF (unB s) 0) (nI 0) M1 = some (a_alone s, M2) := by
    refine lpv (fun f k => f_X11_alone_22 f 0 (fstB (unB s) k) (nI (fb_ct (unB s) k)) (nI (rnF (unB s) k)) (nI (mxF (unB s) k)) (frF (unB s) k) (nI k) M1) (zT s) _ (fun f k hk => Or.inl ?_) (fun f => ?_) 1024 0 (by omega) (by omega)
    · show f_X11_alone_22 (f + 1) _ _ _ _ _ _ _ _ = _
      have q1 := rnF_le (unB s) k
      have q2 := mxF_le (unB s) k
      rw [f_X11_alone_22, sh_R s1 (a := 0) (k := 2) (b := 5) 11 (by decide) rfl (by decide), b1_s, gI_k 9 (sh_O s1 9 (by decide) rfl), b1_s, c1.2.2.2.1.2.2.1, if_neg (nI_ge hk (by omega)), sh_R s1 (a := 0) (k := 5) (b := 18) 11 (by decide) rfl (by decide), b1_s, (lx_f s1 (Or.inl ⟨rfl, rfl⟩ : LX 18 14)).2.2.2.1, b1_s, c_bare x1 (Or.inl ⟨rfl, rfl⟩) k1 hk, b2_s, fstB_s, fb_ct_succ, frF_s, mxF_s, rnF_s]
      unfold f_X11_alone_56 f_X11_alone_75 f_X11_alone_76 f_X11_alone_93
      show (if bI (unB s k) = 0 then _ else _) = _
      cases hu : unB s k with
      | false =>
        rw [if_pos (show bI false = 0 from rfl), if_pos (show (0 : Int32) ≤ 0 by decide), if_pos (show (0 : Int32) ≤ nI (mxF (unB s) k) from nI_pos' (by omega)), bn_s, nI_1]
        simp only [Bool.false_eq_true, and_false, if_false, Nat.add_zero, Nat.not_lt_zero, Nat.max_zero]
        rfl
      | true =>
        rw [if_neg (show ¬ bI true = 0 by decide), nI_1, if_neg (nI_nle (by omega) (by omega)), bn_s, nI_1]
        simp only [and_true, if_true]
        by_cases hm : mxF (unB s) k < rnF (unB s) k + 1
        · rw [if_pos hm, show max (mxF (unB s) k) (rnF (unB s) k + 1) = rnF (unB s) k + 1 by omega]
          by_cases hf : fstB (unB s) k = -1
          · rw [if_pos hf, if_pos hf, if_neg (nI_ge hm (by omega)), bn_s, bn_s, nI_1]
          · rw [if_neg hf, if_neg hf, if_neg (nI_ge hm (by omega)), bn_s, bn_s, nI_1]
        · rw [if_neg hm, show max (mxF (unB s) k) (rnF (unB s) k + 1) = mxF (unB s) k by omega]
          by_cases hf : fstB (unB s) k = -1
          · rw [if_pos hf, if_pos hf, if_pos (nI_le (by omega) (by omega)), bn_s, nI_1]
          · rw [if_neg hf, if_neg hf, if_pos (nI_le (by omega) (by omega)), bn_s, nI_1]
    · show f_X11_alone_22 (f + 1) _ _ _ _ _ _ _ _ = _
      rw [f_X11_alone_22, sh_R s1 (a := 0) (k := 2) (b := 5) 11 (by decide) rfl (by decide), b1_s, gI_k 9 (sh_O s1 9 (by decide) rfl), b1_s, c1.2.2.2.1.2.2.1, if_pos (nI_le (Nat.le_refl _) (by omega)), sh_R s1 (a := 0) (k := 1) (b := 3) 11 (by decide) rfl (by decide), b1_s, e2, b1_s]
      rfl
  have z1 : nI (fb_ct (unB s) 0) = 0 := rfl
  have z2 : nI (rnF (unB s) 0) = 0 := rfl
  have z3 : nI (mxF (unB s) 0) = 0 := rfl
  rw [z1, z2, z3, nI_0] at this
  exact this
theorem R_alone {s : St} (hw : WF s) : OpR (fun M => f_X12_alone 143 M) s (a_alone s) (n_alone s) := by
  intro M h
  obtain ⟨N, et, ht, ft, rt, t0, l0⟩ := r_thr0 h
  have h0 := ht.1
  have hT := hw.1.2.2.2.1
  have hx := ht.rx hw
  have hO := sh_O h0 (a := 143) 12 (by decide) rfl
  obtain ⟨M1, M2, M3, M4, e1, e2, e3, e4, c4, f4, r4⟩ := r_three' ht (Int32.toInt64 (fstB (unB s) (zT s))) (Int32.toInt64 (nI (mxF (unB s) (zT s)))) (Int32.toInt64 (frF (unB s) (zT s)))
  refine ⟨M4, ?_, c4, ft.tr (wRoR_rW f4), r4.trans rt⟩
  show f_X12_alone 143 M = _
  unfold f_X12_alone f_X12_alone_0
  rw [if_pos (sh_O h.1 12 (by decide) rfl), et, b1_s]
  have this : f_X12_alone_20 1024 143 (nI (fb_ct (unB s) 0)) (fstB (unB s) 0) (nI (mxF (unB s) 0)) (frF (unB s) 0) (nI (rnF (unB s) 0)) (nI 0) N = some (a_alone s, M4) := by
    refine lpv (fun f k => f_X12_alone_20 f 143 (nI (fb_ct (unB s) k)) (fstB (unB s) k) (nI (mxF (unB s) k)) (frF (unB s) k) (nI (rnF (unB s) k)) (nI k) N) (zT s) _ (fun f k hk => Or.inl ?_) (fun f => ?_) 1024 0 (by omega) (by omega)
    · show f_X12_alone_20 (f + 1) _ _ _ _ _ _ _ _ = _
      have q1 := rnF_le (unB s) k
      have q2 := mxF_le (unB s) k
      rw [f_X12_alone_20, gI_k 6 hO, b1_s, ht.2.2.2.1.2.2.1, if_neg (nI_ge hk (by omega)), sh_R h0 (a := 143) (k := 15) (b := 153) 12 (by decide) rfl (by decide), b1_s, r_wat hx (by omega), b2_s, fstB_s, fb_ct_succ, frF_s, mxF_s, rnF_s]
      have eu : ∀ b, watB s (zplan s) k = b → unB s k = !b := fun b hb => by unfold unB; rw [hb]
      unfold f_X12_alone_47 f_X12_alone_62 f_X12_alone_86 f_X12_alone_87 f_X12_alone_106
      cases hu : watB s (zplan s) k with
      | true =>
        rw [eu _ hu, if_neg (show ¬ bI true = 0 by decide), if_pos rfl, show (0 : Int32) = bI false from rfl, e_flag, b2_s, bI_f, bn_s, if_pos rfl, Int32.add_zero, if_pos (show (0 : Int32) ≤ nI (mxF (unB s) k) from nI_pos' (by omega)), bn_s, nI_1]
        simp only [Bool.not_true, Bool.false_eq_true, and_false, if_false, Nat.add_zero, Nat.not_lt_zero, Nat.max_zero]
        rfl
      | false =>
        rw [eu _ hu, if_pos (show bI false = 0 from rfl), if_neg (by decide), show (1 : Int32) = bI true from rfl, e_flag, b2_s, bI_t, bn_s, nI_1, nI_1, if_neg (by decide)]
        simp only [Bool.not_false, and_true, if_true]
        by_cases hm : mxF (unB s) k < rnF (unB s) k + 1
        · rw [if_pos hm, show max (mxF (unB s) k) (rnF (unB s) k + 1) = rnF (unB s) k + 1 by omega]
          rcases fstB_c (unB s) k (by omega) with hf | ⟨j, hj, hf⟩
          · rw [if_neg (show ¬ (0 : Int32) ≤ fstB (unB s) k by rw [hf]; decide), if_pos hf, if_neg (nI_ge hm (by omega)), bn_s, bn_s, nI_1]
          · rw [if_pos (show (0 : Int32) ≤ fstB (unB s) k by rw [hf]; exact nI_pos' (by omega)), if_neg (show ¬ fstB (unB s) k = -1 by rw [hf]; exact nI_m1 (by omega)), if_neg (nI_ge hm (by omega)), bn_s, bn_s, nI_1]
        · rw [if_neg hm, show max (mxF (unB s) k) (rnF (unB s) k + 1) = mxF (unB s) k by omega]
          rcases fstB_c (unB s) k (by omega) with hf | ⟨j, hj, hf⟩
          · rw [if_neg (show ¬ (0 : Int32) ≤ fstB (unB s) k by rw [hf]; decide), if_pos hf, if_pos (nI_le (by omega) (by omega)), bn_s, nI_1]
          · rw [if_pos (show (0 : Int32) ≤ fstB (unB s) k by rw [hf]; exact nI_pos' (by omega)), if_neg (show ¬ fstB (unB s) k = -1 by rw [hf]; exact nI_m1 (by omega)), if_pos (nI_le (by omega) (by omega)), bn_s, nI_1]
    · show f_X12_alone_20 (f + 1) _ _ _ _ _ _ _ _ = _
      rw [f_X12_alone_20, gI_k 6 hO, b1_s, ht.2.2.2.1.2.2.1, if_pos (nI_le (Nat.le_refl _) (by omega)), e1, b1_s, e2, b1_s, e3, b1_s, e4, b1_s]
      rfl
  have z1 : nI (fb_ct (unB s) 0) = 0 := rfl
  have z2 : nI (rnF (unB s) 0) = 0 := rfl
  have z3 : nI (mxF (unB s) 0) = 0 := rfl
  rw [z1, z2, z3, nI_0] at this
  exact this
theorem case_19 : CaseOK g_L_19 := by
  intro L xs j K M hL hj hc
  obtain ⟨s, hw, hc, hr⟩ := hc
  obtain ⟨M1, M2, hcp, e1, e2⟩ := asm (C_alone hw) (R_alone hw) (W_alone hw) hc hr
  refine ⟨M2, hcp, ?_⟩
  unfold g_L_19
  simp only [show (nI j + 1 : Int32) = nI (j + 1) from nI_add _ 1, show (nI j + 2 : Int32) = nI (j + 2) from nI_add _ 2, show (nI j + 3 : Int32) = nI (j + 3) from nI_add _ 3, show (nI j + 4 : Int32) = nI (j + 4) from nI_add _ 4, scr_k (show j + 1 < L by omega) hL, scr_k (show j + 2 < L by omega) hL, scr_k (show j + 3 < L by omega) hL, scr_k (show j + 4 < L by omega) hL, b1_s, e1, e2, b2_s, if_true]

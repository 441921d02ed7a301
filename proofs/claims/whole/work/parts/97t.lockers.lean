/-! lockers, left -/
theorem c_fillR {M : MM} (h0 : Sh M) (v : Int32) : ∃ M', f_J7_fill_53178 140 v M = some M' ∧ (∀ l, l < 8 → mI M' 140 l = v) ∧ Fr (fun a k => a = 140) M M' ∧ mR M' = mR M := by
  obtain ⟨M', f', e, cy⟩ := lcp (fun f k N => f_J7_fill_53178_5 f 140 v (nI k) (nI 8) N) 140 0 8 (fun _ => v) M (fun f k N hk hc => by
    show f_J7_fill_53178_5 (f + 1) _ _ _ _ _ = _
    have hN := hc.sh h0
    rw [f_J7_fill_53178_5, if_neg (nI_ge hk (by decide)), st_140 hN _ hk, b1_s, bn_s, nI_1, Nat.zero_add]) (by decide)
  refine ⟨M', ?_, fun i hi => ?_, cy.frm.mono (fun a k q => q.1), cy.2.2.2.1⟩
  · unfold f_J7_fill_53178 f_J7_fill_53178_0
    rw [show alI 140 M = some (nI 8) by unfold alI; rw [if_pos (sh_O h0 20 (by decide) rfl), sh_N h0 8 (by decide) rfl]; rfl, b1_s, ← nI_0]
    refine e.trans ?_
    show f_J7_fill_53178_5 (f' + 1) _ _ _ _ _ = _
    rw [f_J7_fill_53178_5, if_pos (nI_le (Nat.le_refl 8) (by decide))]
  · rw [cy.2.2.2.2, if_pos ⟨rfl, by omega, by omega⟩]
theorem ful_b {m i : Nat} (h : i < m) : (2 ^ m - 1).testBit i = true := by rw [Nat.testBit_two_pow_sub_one]; exact decide_eq_true h
theorem ns5 {t : Nat} (h : t < 2 ^ 31) : nI t >>> ((5 : Int32) &&& 31) = nI (t / 32) := pk_shrN h _ 5 (by decide)
def wFw (a k : Nat) : Prop := a = 138 ∨ a = 140 ∨ a = 141
theorem c_few {M : MM} {m v : Nat} {w : Nat → Nat} (h0 : Sh M) (hb : BgC M m w) (hm1 : 1 ≤ m) (hm : m ≤ 8) (hv : v ≤ 20) (hw9 : ∀ i, i < m → 1 ≤ w i ∧ w i ≤ 9) : ∃ M' x, GP w m v (2 ^ m - 1).testBit x ∧ f_X0_fewest 137 (nI v) M = some (if x < 1048576 then nI (x / 32) else -1, M') ∧ (x < 1048576 → ∀ t, dfs w (2 ^ m - 1).testBit (x / 32) m 0 (fun _ => v) 0 = some t → ∀ i, i < m → mI M' 138 i = nI (t.getD i 0)) ∧ BgC M' m w ∧ Fr wFw M M' ∧ mR M' = mR M := by
  have h256 := p2_le hm
  have hp := p2_pos m
  obtain ⟨M1, e1, n1, f1, r1⟩ := c_weigh h0 hb hm1 hm hv hw9
  have s1 := f1.sh' r1 h0
  have b1 : BgC M1 m w := hb.fr f1 (fun a k q => by unfold w141; omega)
  obtain ⟨x, x1, gx⟩ := n1 (2 ^ m - 1) (by omega)
  have f1' : Fr wFw M M1 := f1.mono (fun a k q => by unfold w141 at q; unfold wFw; omega)
  have hx := gx.b
  unfold f_X0_fewest f_X0_fewest_0
  rw [if_pos (O137 h0), e1, b1_s, (R137 s1).2.2.2, b1_s, gI_k 1 (O137 s1), b1_s, b1.1, sb_pow m hm, nS1 hp, ld_141 s1 (by omega), b1_s, x1]
  by_cases hlt : x < 1048576
  · have hc8 : x / 32 ≤ 8 := by
      rcases gx with ⟨g, _⟩ | ⟨g1, g2, g3, g4⟩
      · omega
      · exact (gp_few hv hm1 hm ⟨0, by omega, ful_b (by omega)⟩ g2 (Or.inr ⟨g1, g2, g3, g4⟩)).2.2
    obtain ⟨M2, e2, m2, f2, r2⟩ := c_fillR s1 (nI v)
    have s2 := f2.sh' r2 s1
    have b2 : BgC M2 m w := b1.fr f2 (fun a k q => by omega)
    obtain ⟨M3, e3, t3, _, _, f3, r3⟩ := c_place (S := (2 ^ m - 1).testBit) (c := x / 32) hm hc8 (fun i hi => (hw9 i hi).2) (fun i hi => ful_b hi) m 0 100 0 (fun _ => v) M2 (by omega) (by omega) (Nat.le_refl 0) (fun _ _ => hv) s2 b2 m2
    refine ⟨M3, x, gx, ?_, fun _ t ht i hi => ?_, b2.fr f3 (fun a k q => by unfold wPk; omega), (f1'.tr (f2.mono (fun a k q => by unfold wFw; omega))).tr (f3.mono (fun a k q => by unfold wPk at q; unfold wFw; omega)), r3.trans (r2.trans r1)⟩
    · rw [nI_0] at e3
      rw [if_pos (show nI x < 1048576 from nI_lt (b := 1048576) (by omega) (by omega)), if_pos hlt, (R137 s1).2.2.1, b1_s, e2, b1_s, ns5 (by omega), e3, b2_s]
    · have := t3 t ht i hi
      rw [Nat.zero_add] at this
      exact this
  · refine ⟨M1, x, gx, ?_, fun g => absurd g hlt, b1, f1', r1⟩
    rw [if_neg (show ¬ nI x < 1048576 from nI_nlt (b := 1048576) (by omega) (by omega)), if_neg hlt]
/-! what lockers answers -/
def bgM (s : St) : Nat := bgN (ztap s) (zL s) 8 0
def bgW (s : St) (i : Nat) : Nat := ztap s i - 48
def bgK (s : St) : Prop := bgM s ≠ 0 ∧ zL s ≤ bgM s
def lokD (s : St) (c v : Nat) : Option (List Nat) := dfs (bgW s) (2 ^ bgM s - 1).testBit c (bgM s) 0 (fun _ => v) 0
def cMn (P : Nat → Bool) : Nat → Nat → Nat
  | 0, c => c
  | j + 1, c => if P c = true then c else cMn P j (c + 1)
theorem cMn_e {P : Nat → Bool} {c0 : Nat} (h1 : P c0 = true) (h2 : ∀ c, c < c0 → P c = false) : ∀ {j c : Nat}, c ≤ c0 → c0 ≤ c + j → cMn P j c = c0
  | 0, c, a, b => by show c = c0; omega
  | j + 1, c, a, b => by
    show (if P c = true then c else cMn P j (c + 1)) = c0
    by_cases e : c = c0
    · rw [if_pos (by rw [e]; exact h1), e]
    · rw [if_neg (by rw [h2 c (by omega)]; decide)]
      exact cMn_e h1 h2 (by omega) (by omega)
def lokC (s : St) (v : Nat) : Nat := cMn (fun c => (lokD s c v).isSome) 20 1
def lokB (s : St) (v : Nat) : Bool := anyB (fun k => decide (v < bgW s k)) (bgM s)
def rwT (t : List Nat) (k : Nat) : List Int64 := (List.range k).map (fun j => Int32.toInt64 (nI (t.getD j 0)))
theorem rwT_s (t : List Nat) (k : Nat) : rwT t (k + 1) = rwT t k ++ [Int32.toInt64 (nI (t.getD k 0))] := by unfold rwT; rw [List.range_succ, List.map_append]; rfl
theorem rwT_l (t : List Nat) (k : Nat) : (rwT t k).length = k := by unfold rwT; rw [List.length_map, List.length_range]
def lokT (s : St) (v : Nat) : List Nat := (lokD s (lokC s v) v).getD []
noncomputable def a_lockers (s : St) (x : Int32) : Int32 := by classical exact if 1 ≤ x ∧ x ≤ 20 then (if bgK s then (if lokB s x.toNatClampNeg = true then -200 else nI (lokC s x.toNatClampNeg)) else -1 - nI (bgM s)) else -100
noncomputable def n_lockers (s : St) (x : Int32) : St := by classical exact if (1 ≤ x ∧ x ≤ 20) ∧ bgK s ∧ lokB s x.toNatClampNeg = false then zsrow (z0 s) (rowOf (rwT (lokT s x.toNatClampNeg) (bgM s))) else z0 s
theorem lok_0 {s : St} {x : Int32} (h : ¬ (1 ≤ x ∧ x ≤ 20)) : a_lockers s x = -100 ∧ n_lockers s x = z0 s := ⟨if_neg h, if_neg (fun q => h q.1)⟩
theorem lok_1 {s : St} {v : Nat} (h1 : 1 ≤ v) (h2 : v ≤ 20) (h : ¬ bgK s) : a_lockers s (nI v) = -1 - nI (bgM s) ∧ n_lockers s (nI v) = z0 s := ⟨(if_pos ⟨nI_le (a := 1) h1 (by omega), nI_le (b := 20) h2 (by decide)⟩).trans (if_neg h), if_neg (fun q => h q.2.1)⟩
theorem lok_2 {s : St} {v : Nat} (h1 : 1 ≤ v) (h2 : v ≤ 20) (h : bgK s) (hb : lokB s v = true) : a_lockers s (nI v) = -200 ∧ n_lockers s (nI v) = z0 s := by
  have e : (nI v).toNatClampNeg = v := nI_clamp (by omega)
  unfold a_lockers n_lockers
  rw [e]
  exact ⟨(if_pos ⟨nI_le (a := 1) h1 (by omega), nI_le (b := 20) h2 (by decide)⟩).trans ((if_pos h).trans (if_pos hb)), if_neg (fun q => by rw [hb] at q; cases q.2.2)⟩
theorem lok_3 {s : St} {v : Nat} (h1 : 1 ≤ v) (h2 : v ≤ 20) (h : bgK s) (hb : lokB s v = false) : a_lockers s (nI v) = nI (lokC s v) ∧ n_lockers s (nI v) = zsrow (z0 s) (rowOf (rwT (lokT s v) (bgM s))) := by
  have e : (nI v).toNatClampNeg = v := nI_clamp (by omega)
  have r : (1 : Int32) ≤ nI v ∧ nI v ≤ 20 := ⟨nI_le (a := 1) h1 (by omega), nI_le (b := 20) h2 (by decide)⟩
  unfold a_lockers n_lockers
  rw [e]
  exact ⟨(if_pos r).trans ((if_pos h).trans (if_neg (by rw [hb]; decide))), if_pos ⟨r, h, hb⟩⟩
theorem bg_b (s : St) : bgM s ≤ 8 ∧ ∀ i, i < bgM s → 1 ≤ bgW s i ∧ bgW s i ≤ 9 := by
  have h := bgN_le (T := ztap s) (l := zL s) (j := 8) (a := 0)
  refine ⟨h.1, fun i hi => ?_⟩
  have := h.2.2 i (Nat.zero_le _) (by show i < 0 + bgM s; omega)
  unfold bgW
  omega
theorem W_lockers {s : St} (hw : WF s) (x : Int32) : WF (n_lockers s x) := by
  unfold n_lockers
  split
  · exact WF_row (W_z0 hw) (by rw [rwT_l]; exact (bg_b s).1)
  · exact W_z0 hw
theorem lokB_f {s : St} {v : Nat} (h : lokB s v = false) : ∀ k, k < bgM s → (2 ^ bgM s - 1).testBit k = true → bgW s k ≤ v := fun k hk _ => Nat.le_of_not_lt (fun g => by
  have : lokB s v = true := anyB_t (decide_eq_true g) hk
  rw [h] at this; cases this)
theorem lok_c {s : St} {v x : Nat} (h2 : v ≤ 20) (hm1 : 1 ≤ bgM s) (hb : lokB s v = false) (gx : GP (bgW s) (bgM s) v (2 ^ bgM s - 1).testBit x) : lokC s v = x / 32 ∧ x < 512 ∧ 1 ≤ x / 32 ∧ x / 32 ≤ 8 ∧ ∃ t, lokD s (x / 32) v = some t ∧ lokT s v = t := by
  have hm := (bg_b s).1
  have g := gp_few h2 hm1 hm ⟨0, by omega, ful_b (by omega)⟩ (lokB_f hb) gx
  have p1 : (lokD s (x / 32) v).isSome = true := (gp_dfs (by omega) gx (by omega)).mpr (Nat.le_refl _)
  have e : lokC s v = x / 32 := cMn_e p1 (fun c hc => by
    cases hx : (lokD s c v).isSome with
    | false => rfl
    | true => have := (gp_dfs (by omega) gx (by omega)).mp hx; omega) (by omega) (by omega)
  refine ⟨e, g.1, g.2.1, g.2.2, ?_⟩
  unfold lokT
  rw [e]
  cases hx : lokD s (x / 32) v with
  | none => rw [hx] at p1; cases p1
  | some t => exact ⟨t, rfl, rfl⟩
theorem C_lockers {s : St} (hw : WF s) (x : Int32) : OpC (fun M => f_X11_lockers 0 x M) s (a_lockers s x) (n_lockers s x) := by
  intro M h
  have hL := hw.1.2.2.2.2.2.2.1
  obtain ⟨M1, e1, c1, f1, r1⟩ := c_begin' hw h (m := 80) (by decide)
  rw [show min (zL s) 80 = zL s by omega] at c1
  show ∃ M', f_X11_lockers 0 x M = _ ∧ _
  unfold f_X11_lockers f_X11_lockers_0
  have R0 : ∀ {N : MM}, Sh N → gR 11 0 0 N = some 1 := fun g => sh_R g (a := 0) (k := 0) (b := 1) 11 (by decide) rfl (by decide)
  have R11 : ∀ {N : MM}, Sh N → gR 11 11 0 N = some 137 := fun g => sh_R g (a := 0) (k := 11) (b := 137) 11 (by decide) rfl (by decide)
  have R1 : ∀ {N : MM}, Sh N → gR 11 1 0 N = some 3 := fun g => sh_R g (a := 0) (k := 1) (b := 3) 11 (by decide) rfl (by decide)
  rw [if_pos (sh_O h.1 11 (by decide) rfl), R0 h.1, b1_s, show (80 : Int32) = nI 80 from rfl, e1, b1_s]
  by_cases hr : 1 ≤ x ∧ x ≤ 20
  · obtain ⟨v, hv1, hv2, rfl⟩ := one_n (n := 20) (by decide) hr
    rw [if_neg (fun g => (fa_of_lt g).2.1 hr.1), if_pos hr.2, R11 c1.1.1, b1_s, R0 c1.1.1, b1_s]
    obtain ⟨M2, e2, c2, b2, f2, r2⟩ := c_bread c1
    have s2 := c2.1.1
    have fr2 : Fr cW M M2 := f1.tr (f2.mono (fun a k q => by unfold wBg at q; unfold cW; omega))
    rw [e2, b2_s]
    by_cases hk : bgK s
    · have hm := bg_b s
      have hm1 : 1 ≤ bgM s := by have := hk.1; omega
      have hkd : decide (bgN (ztap s) (zL s) 8 0 ≠ 0 ∧ zL s ≤ bgN (ztap s) (zL s) 8 0) = true := decide_eq_true hk
      obtain ⟨M3, y, gy, e3, t3, b3, f3, r3⟩ := c_few s2 (m := bgM s) (w := bgW s) b2 hm1 hm.1 hv2 hm.2
      have s3 := f3.sh' r3 s2
      have c3 : RC (z0 s) M3 := c2.1.fr (f3.mono (fun a k q => by unfold wFw at q; unfold wC; omega)) s3
      have fr3 : Fr cW M M3 := fr2.tr (f3.mono (fun a k q => by unfold wFw at q; unfold cW; omega))
      rw [hkd, if_neg (show ¬ bI true = 0 by decide), R11 s2, b1_s, e3, b2_s]
      cases hb : lokB s v with
      | true =>
        obtain ⟨k, hk1, hk2⟩ := anyB_iff.mp hb
        have hy := gp_big gy hk1 (ful_b hk1) (of_decide_eq_true hk2)
        rw [(lok_2 hv1 hv2 hk hb).1, (lok_2 hv1 hv2 hk hb).2, if_neg (c := y < 1048576) (by omega), if_neg (by decide)]
        exact ⟨M3, rfl, c3, fr3⟩
      | false =>
        obtain ⟨g1, g2, g3, g4, t, gt, ht⟩ := lok_c hv2 hm1 hb gy
        rw [(lok_3 hv1 hv2 hk hb).1, (lok_3 hv1 hv2 hk hb).2, if_pos (c := y < 1048576) (by omega), if_pos (nI_pos' (by omega)), R1 s3, b1_s, g1, ht]
        have t3' := t3 (by omega) t gt
        obtain ⟨M4, e4, w4, f4, r4⟩ := c_clr s3
        obtain ⟨r, e5, er, w5, f5, q5⟩ := lpm (fun f k N => f_X11_lockers_71 f 0 (nI (y / 32)) (nI k) N) (fun k N => RowC N (rwT t k) ∧ Fr wRow M3 N ∧ mR N = mR M3) (fun r => r.1 = nI (y / 32) ∧ RowC r.2 (rwT t (bgM s)) ∧ Fr wRow M3 r.2 ∧ mR r.2 = mR M3) (bgM s) (fun f k N hk hi => by
          left
          obtain ⟨i1, i2, i3⟩ := hi
          have sN := i2.sh' i3 s3
          have bN := b3.fr i2 (fun a k q => by unfold wRow; omega)
          obtain ⟨M', e', w', f', r'⟩ := c_radd sN i1 (by rw [rwT_l]; have := hm.1; omega) (Int32.toInt64 (nI (t.getD k 0)))
          show ∃ M', f_X11_lockers_71 (f + 1) _ _ _ _ = _ ∧ _
          rw [f_X11_lockers_71, R11 sN, b1_s, gI_k 1 (O137 sN), b1_s, bN.1, if_neg (nI_ge hk (by have := hm.1; omega)), R1 sN, b1_s, b1_s, (R137 sN).1, b1_s, ld_138 sN (by have := hm.1; omega), b1_s, i2.2.2.1 138 k (by unfold wRow; omega), t3' k hk, e', b1_s, bn_s, nI_1]
          exact ⟨M', rfl, by rw [rwT_s]; exact w', i2.tr f', r'.trans i3⟩) (fun f N hi => by
          have sN := hi.2.1.sh' hi.2.2 s3
          have bN := b3.fr hi.2.1 (fun a k q => by unfold wRow; omega)
          refine ⟨(nI (y / 32), N), ?_, rfl, hi⟩
          show f_X11_lockers_71 (f + 1) _ _ _ _ = _
          rw [f_X11_lockers_71, R11 sN, b1_s, gI_k 1 (O137 sN), b1_s, bN.1, if_pos (nI_le (Nat.le_refl _) (by have := hm.1; omega))]) 1024 0 M4 (by omega) (by have := hm.1; omega) ⟨w4, f4, r4⟩
        refine ⟨r.2, ?_, c3.row f5 q5 w5, fr3.tr (wRow_cW f5)⟩
        have e5' : f_X11_lockers_71 1024 0 (nI (y / 32)) (nI 0) M4 = some r := e5
        rw [nI_0] at e5'
        rw [e4, b1_s, e5']
        show some (r.1, r.2) = _
        rw [er]
    · have hkd : decide (bgN (ztap s) (zL s) 8 0 ≠ 0 ∧ zL s ≤ bgN (ztap s) (zL s) 8 0) = false := decide_eq_false hk
      rw [(lok_1 hv1 hv2 hk).1, (lok_1 hv1 hv2 hk).2, hkd, if_pos (show bI false = 0 from rfl), R0 s2, b1_s, tc_ref c2, b2_s]
      exact ⟨M2, rfl, c2.1, fr2⟩
  · rw [(lok_0 hr).1, (lok_0 hr).2]
    refine ⟨M1, ?_, c1.1, f1⟩
    by_cases h1 : x < 1
    · rw [if_pos h1]
    · rw [if_neg h1, if_neg (fun g => hr ⟨fa_of_nlt h1, g⟩)]
theorem R_lockers {s : St} (hw : WF s) (x : Int32) : OpR (fun M => f_X12_lockers 143 x M) s (a_lockers s x) (n_lockers s x) := by
  intro M h
  obtain ⟨N, et, ht, ft, rt, t0, l0⟩ := r_thr0 h
  have hL := hw.1.2.2.2.2.2.2.1
  obtain ⟨M1, e1, c1, n1, f1, r1⟩ := r_begin' hw ht (m := 80) (by decide)
  rw [show min (zL s) 80 = zL s by omega] at c1
  show ∃ M', f_X12_lockers 143 x M = _ ∧ _
  unfold f_X12_lockers f_X12_lockers_0
  rw [if_pos (O143 h.1), et, b1_s, show (80 : Int32) = nI 80 from rfl, e1, b2_s, e_inL x 1 20 _ _ (by decide) (by decide), b2_s]
  by_cases hr : 1 ≤ x ∧ x ≤ 20
  · obtain ⟨v, hv1, hv2, rfl⟩ := one_n (n := 20) (by decide) hr
    obtain ⟨M2, e2, c2, b2, f2, r2⟩ := r_bread c1
    have s2 := c2.1.1
    have fr2 : Fr rW M M2 := (ft.tr f1).tr (f2.mono (fun a k q => by unfold wBr at q; unfold rW; omega))
    rw [if_pos hr, if_neg (by decide), e2, b2_s]
    have hm := bg_b s
    by_cases hk : bgK s
    · have hm1 : 1 ≤ bgM s := by have := hk.1; omega
      have h256 := p2_le hm.1
      have hp := p2_pos (bgM s)
      have b2' : BgR M2 (bgM s) (bgW s) := b2
      obtain ⟨y, gy⟩ := gp_ex (bgW s) (n := bgM s) (v := v) (2 ^ bgM s - 1).testBit hv2 hm1 hm.1
      rw [if_pos (c := bgN (ztap s) (zL s) 8 0 ≠ 0 ∧ zL s ≤ bgN (ztap s) (zL s) 8 0) hk, if_pos (show (0 : Int32) ≤ 0 by decide), gI_k 48 (O143 s2), b1_s, b2'.1, sb_pow _ hm.1, nS1 hp, bn_s]
      cases hb : lokB s v with
      | true =>
        rw [(lok_2 hv1 hv2 hk hb).1, (lok_2 hv1 hv2 hk hb).2]
        have hloop : ∀ (j k f : Nat), k + j = bgM s → j < f → (∀ i, i < k → ¬ v < bgW s i) → f_X12_lockers_50 f 143 (nI v) (nI (2 ^ bgM s - 1)) (nI k) M2 = some (-200, M2) := by
          intro j
          induction j with
          | zero =>
            intro k f hk1 hf hno
            obtain ⟨i, hi1, hi2⟩ := anyB_iff.mp hb
            exact absurd (of_decide_eq_true hi2) (hno i (by omega))
          | succ j ih =>
            intro k f hk1 hf hno
            cases f with
            | zero => omega
            | succ f =>
              have h9 := hm.2 k (by omega)
              rw [f_X12_lockers_50, gI_k 48 (O143 s2), b1_s, b2'.1, if_neg (nI_ge (by omega) (by have := hm.1; omega)), (R173 s2).1, b1_s, ld_173 s2 (by have := hm.1; omega), b1_s, b2'.2 k (by omega)]
              by_cases hc : bgW s k ≤ v
              · rw [if_pos (nI_le hc (by omega)), bn_s, nI_1]
                exact ih (k + 1) f (by omega) (by omega) (fun i hi => by
                  by_cases e : i = k
                  · rw [e]; omega
                  · exact hno i (by omega))
              · rw [if_neg (nI_ge (by omega) (by omega))]
        have hl := hloop (bgM s) 0 1024 (by omega) (by have := hm.1; omega) (fun i hi => absurd hi (Nat.not_lt_zero i))
        rw [nI_0] at hl
        rw [hl]
        exact ⟨M2, rfl, c2.1, fr2, r2.trans (r1.trans rt)⟩
      | false =>
        obtain ⟨g1, g2, g3, g4, t, gt, htt⟩ := lok_c hv2 hm1 hb gy
        rw [(lok_3 hv1 hv2 hk hb).1, (lok_3 hv1 hv2 hk hb).2, g1, htt]
        have hloop : ∀ (j k f : Nat), k + j = bgM s → j < f → f_X12_lockers_50 f 143 (nI v) (nI (2 ^ bgM s - 1)) (nI k) M2 = f_X12_lockers_83 1024 143 (nI v) (nI (2 ^ bgM s - 1)) 1 M2 := by
          intro j
          induction j with
          | zero =>
            intro k f hk1 hf
            cases f with
            | zero => omega
            | succ f => rw [f_X12_lockers_50, gI_k 48 (O143 s2), b1_s, b2'.1, if_pos (nI_le (by omega) (by have := hm.1; omega))]
          | succ j ih =>
            intro k f hk1 hf
            cases f with
            | zero => omega
            | succ f =>
              have h9 := hm.2 k (by omega)
              have hc := lokB_f hb k (by omega) (ful_b (by omega))
              rw [f_X12_lockers_50, gI_k 48 (O143 s2), b1_s, b2'.1, if_neg (nI_ge (by omega) (by have := hm.1; omega)), (R173 s2).1, b1_s, ld_173 s2 (by have := hm.1; omega), b1_s, b2'.2 k (by omega), if_pos (nI_le hc (by omega)), bn_s, nI_1]
              exact ih (k + 1) f (by omega) (by omega)
        have hl := hloop (bgM s) 0 1024 (by omega) (by have := hm.1; omega)
        rw [nI_0] at hl
        rw [hl]
        have hpk : ∀ (j c f : Nat) (Q : MM), c + j = y / 32 → j < f → 1 ≤ c → Fr wPq M2 Q → mR Q = mR M2 → ∃ Q', f_X12_lockers_83 f 143 (nI v) (nI (2 ^ bgM s - 1)) (nI c) Q = b1 (pI 12 1 143 (0 : Int32) Q') (fun M3 => f_X12_lockers_108 1024 143 (nI (y / 32)) (0 : Int32) M3) ∧ (∀ i, i < bgM s → mI Q' 174 i = nI (t.getD i 0)) ∧ Fr wPq M2 Q' ∧ mR Q' = mR M2 := by
          intro j
          induction j with
          | zero =>
            intro c f Q hc hf hc1 fQ rQ
            have ec : c = y / 32 := by omega
            subst ec
            cases f with
            | zero => omega
            | succ f =>
              have sQ := fQ.sh' rQ s2
              obtain ⟨Q2, e3, t3, f3, r3⟩ := r_can (c := y / 32) (st := 2 ^ bgM s - 1) hm.1 g4 (by omega) hv2 (fun i hi => (hm.2 i hi).2) sQ (b2'.fr fQ (fun a k q => by unfold wPq; omega))
              have gt' : dfs (bgW s) (2 ^ bgM s - 1).testBit (y / 32) (bgM s) 0 (fun _ => v) 0 = some t := gt
              refine ⟨Q2, ?_, fun i hi => t3 t gt' i hi (ful_b hi), fQ.tr f3, r3.trans rQ⟩
              rw [f_X12_lockers_83, e3, b2_s, gt', if_neg (show ¬ bI (some t).isSome = 0 from by show ¬ bI true = 0; decide)]
          | succ j ih =>
            intro c f Q hc hf hc1 fQ rQ
            cases f with
            | zero => omega
            | succ f =>
              have sQ := fQ.sh' rQ s2
              obtain ⟨Q2, e3, t3, f3, r3⟩ := r_can (c := c) (st := 2 ^ bgM s - 1) hm.1 (by omega) (by omega) hv2 (fun i hi => (hm.2 i hi).2) sQ (b2'.fr fQ (fun a k q => by unfold wPq; omega))
              have hno : (dfs (bgW s) (2 ^ bgM s - 1).testBit c (bgM s) 0 (fun _ => v) 0).isSome = false := by
                cases hx : (dfs (bgW s) (2 ^ bgM s - 1).testBit c (bgM s) 0 (fun _ => v) 0).isSome with
                | false => rfl
                | true => have := (gp_dfs (by omega) gy (by omega)).mp hx; omega
              rw [f_X12_lockers_83, e3, b2_s, hno, if_pos (show bI false = 0 from rfl), bn_s, nI_1]
              exact ih (c + 1) f Q2 (by omega) (by omega) (by omega) (fQ.tr f3) (r3.trans rQ)
        obtain ⟨M3, e3, t3, f3, r3⟩ := hpk (y / 32 - 1) 1 1024 M2 (by omega) (by omega) (Nat.le_refl 1) (Fr.rf M2) rfl
        have e3' : f_X12_lockers_83 1024 143 (nI v) (nI (2 ^ bgM s - 1)) 1 M2 = _ := e3
        have s3 := f3.sh' r3 s2
        have b3 : BgR M3 (bgM s) (bgW s) := b2'.fr f3 (fun a k q => by unfold wPq; omega)
        have c3 : RR (z0 s) M3 := c2.1.fr (f3.mono (fun a k q => by unfold wPq at q; unfold wR; omega)) s3
        obtain ⟨M4, e4, w4, f4, r4⟩ := r_clr s3
        obtain ⟨r, e5, er, w5, f5, q5⟩ := lpm (fun f k N => f_X12_lockers_108 f 143 (nI (y / 32)) (nI k) N) (fun k N => RowR N (rwT t k) ∧ Fr wRoR M3 N ∧ mR N = mR M3) (fun r => r.1 = nI (y / 32) ∧ RowR r.2 (rwT t (bgM s)) ∧ Fr wRoR M3 r.2 ∧ mR r.2 = mR M3) (bgM s) (fun f k N hk hi => by
          left
          obtain ⟨i1, i2, i3⟩ := hi
          have sN := i2.sh' i3 s3
          have bN := b3.fr i2 (fun a k q => by unfold wRoR; omega)
          obtain ⟨M', e', w', f', r'⟩ := r_ent sN i1 (by rw [rwT_l]; have := hm.1; omega) (Int32.toInt64 (nI (t.getD k 0)))
          show ∃ M', f_X12_lockers_108 (f + 1) _ _ _ _ = _ ∧ _
          rw [f_X12_lockers_108, gI_k 48 (O143 sN), b1_s, bN.1, if_neg (nI_ge hk (by have := hm.1; omega)), (R173 sN).2.1, b1_s, ld_174 sN (by have := hm.1; omega), b1_s, i2.2.2.1 174 k (by unfold wRoR; omega), t3 k hk, e', b1_s, bn_s, nI_1]
          exact ⟨M', rfl, by rw [rwT_s]; exact w', i2.tr f', r'.trans i3⟩) (fun f N hi => by
          have sN := hi.2.1.sh' hi.2.2 s3
          have bN := b3.fr hi.2.1 (fun a k q => by unfold wRoR; omega)
          refine ⟨(nI (y / 32), N), ?_, rfl, hi⟩
          show f_X12_lockers_108 (f + 1) _ _ _ _ = _
          rw [f_X12_lockers_108, gI_k 48 (O143 sN), b1_s, bN.1, if_pos (nI_le (Nat.le_refl _) (by have := hm.1; omega))]) 1024 0 M4 (by omega) (by have := hm.1; omega) ⟨w4, f4, r4⟩
        refine ⟨r.2, ?_, c3.row f5 q5 w5, (fr2.tr (f3.mono (fun a k q => by unfold wPq at q; unfold rW; omega))).tr (wRoR_rW f5), q5.trans (r3.trans (r2.trans (r1.trans rt)))⟩
        have e5' : f_X12_lockers_108 1024 143 (nI (y / 32)) (nI 0) M4 = some r := e5
        rw [nI_0] at e5'
        rw [e3', e4, b1_s, e5']
        show some (r.1, r.2) = _
        rw [er]
    · rw [(lok_1 hv1 hv2 hk).1, (lok_1 hv1 hv2 hk).2, if_neg (c := bgN (ztap s) (zL s) 8 0 ≠ 0 ∧ zL s ≤ bgN (ztap s) (zL s) 8 0) hk]
      refine ⟨M2, ?_, c2.1, fr2, r2.trans (r1.trans rt)⟩
      rw [if_neg]
      · rfl
      · have hm8 : bgN (ztap s) (zL s) 8 0 ≤ 8 := hm.1
        rw [fa_le, fb_subI (by rw [nI_toInt (by omega), show (-1 : Int32).toInt = -1 from by decide]; omega) (by rw [nI_toInt (by omega), show (-1 : Int32).toInt = -1 from by decide]; omega), nI_toInt (by omega), show (-1 : Int32).toInt = -1 from by decide, show (0 : Int32).toInt = 0 from by decide]
        omega
  · rw [(lok_0 hr).1, (lok_0 hr).2, if_neg hr, if_pos rfl]
    exact ⟨M1, rfl, c1.1, ft.tr f1, r1.trans rt⟩
theorem case_33 : CaseOK g_L_33 := by
  intro L xs j K M hL hj hc
  obtain ⟨s, hw, hc, hr⟩ := hc
  obtain ⟨M1, M2, hcp, e1, e2⟩ := asm (C_lockers hw (xs (j + 1))) (R_lockers hw (xs (j + 1))) (W_lockers hw (xs (j + 1))) hc hr
  refine ⟨M2, hcp, ?_⟩
  unfold g_L_33
  simp only [show (nI j + 1 : Int32) = nI (j + 1) from nI_add _ 1, show (nI j + 2 : Int32) = nI (j + 2) from nI_add _ 2, show (nI j + 3 : Int32) = nI (j + 3) from nI_add _ 3, show (nI j + 4 : Int32) = nI (j + 4) from nI_add _ 4, scr_k (show j + 1 < L by omega) hL, scr_k (show j + 2 < L by omega) hL, scr_k (show j + 3 < L by omega) hL, scr_k (show j + 4 < L by omega) hL, b1_s, e1, e2, b2_s, if_true]

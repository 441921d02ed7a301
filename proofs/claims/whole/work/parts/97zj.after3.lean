/-! afternoon: the reference does -/
theorem r_73 (x : Int32) (M : MM) : f_X12_does_73 x M = some (bI (decide (0 ≤ x)), M) := by
  unfold f_X12_does_73
  by_cases h : x < 0
  · rw [if_pos h, rz0, decide_eq_false (fa_of_lt h).2.1]; rfl
  · rw [if_neg h, rz1, decide_eq_true (fa_of_nlt h)]; rfl
def w54 (a k : Nat) : Prop := a = 153 ∨ a = 154
theorem r_do {s : St} {N : MM} {x : Ak} {k : Nat} (hw : WF s) (h : RR s N) (hx : RAc N k x) (hk : k < 60) (hx2 : x.1 ≤ 2) : ∃ N', f_X12_does 143 (nI k) N = some (bI (decide (0 ≤ doA s x)), N') ∧ RR (zsplan s (doQ s x)) N' ∧ Fr w54 N N' ∧ mR N' = mR N := by
  have s0 := h.1
  obtain ⟨x0, x1, x2, x3⟩ := hx
  unfold f_X12_does f_X12_does_0 doA doQ
  rw [if_pos (O143 s0), (R164 s0).1, b1_s, ld_164 s0 hk, b1_s, x0]
  by_cases k0 : x.1 = 0
  · obtain ⟨M1, e1, c1, f1, r1⟩ := r_goin hw h x.2.1 x.2.2.1 x.2.2.2
    rw [if_pos (show nI x.1 = 0 by rw [k0]; rfl), (R164 s0).2.1, b1_s, ld_165 s0 hk, b1_s, x1, (R164 s0).2.2.1, b1_s, ld_166 s0 hk, b1_s, x2 (by omega), (R164 s0).2.2.2, b1_s, ld_167 s0 hk, b1_s, x3 k0, e1, b2_s, r_73, if_pos k0, if_pos k0]
    exact ⟨M1, rfl, c1, f1, r1⟩
  · rw [if_neg (show ¬ nI x.1 = 0 from nI_ne0 (by omega) (by omega)), b1_s, ld_164 s0 hk, b1_s, x0, if_neg (c := x.1 = 0) k0, if_neg (c := x.1 = 0) k0]
    by_cases k1 : x.1 = 1
    · obtain ⟨M1, e1, c1, f1, r1⟩ := r_take hw h x.2.1
      rw [if_pos (show nI x.1 = 1 by rw [k1]; rfl), (R164 s0).2.1, b1_s, ld_165 s0 hk, b1_s, x1, e1, b2_s, r_73, if_pos k1, if_pos k1]
      exact ⟨M1, rfl, c1, f1.mono (fun a k q => Or.inl q), r1⟩
    · obtain ⟨M1, e1, c1, f1, r1⟩ := r_move hw h x.2.1 x.2.2.1
      rw [if_neg (show ¬ nI x.1 = 1 by rw [show (1 : Int32) = nI 1 from rfl, nI_eq (by omega) (by omega)]; exact k1), (R164 s0).2.1, b1_s, ld_165 s0 hk, b1_s, x1, (R164 s0).2.2.1, b1_s, ld_166 s0 hk, b1_s, x2 k1, e1, b2_s, r_73, if_neg k1, if_neg k1]
      exact ⟨M1, rfl, c1, f1, r1⟩
theorem r_aft : ∀ (L : List Ak) (k fu : Nat) (N : MM) {s : St}, WF s → (∀ x, x ∈ L → x.1 ≤ 2) → RR s N → RAl N k L → mI N 143 39 = nI (k + L.length) → k + L.length ≤ 60 → L.length < fu → ∃ N', f_X12_afternoon_85 fu 143 (nI k) N = f_X12_afternoon_109 143 (nI (k + (exF s L).1)) N' ∧ RR (zsplan s (exF s L).2.2) N' ∧ Fr w54 N N' ∧ mR N' = mR N
  | [], k, fu, N, s, hw, hx2, h, hA, h39, h60, hf => by
    have h39 : mI N 143 39 = nI (k + 0) := h39
    cases fu with
    | zero => omega
    | succ fu =>
      refine ⟨N, ?_, ?_, Fr.rf N, rfl⟩
      · rw [f_X12_afternoon_85, gI_k 39 (O143 h.1), b1_s, h39, if_pos (nI_le (by omega) (by have h60 : k + 0 ≤ 60 := h60; omega)), exF]
        rfl
      · rw [exF]; exact h
  | x :: L, k, fu, N, s, hw, hx2, h, hA, h39, h60, hf => by
    have h39 : mI N 143 39 = nI (k + (L.length + 1)) := h39
    have h60 : k + (L.length + 1) ≤ 60 := h60
    have hf : L.length + 1 < fu := hf
    cases fu with
    | zero => omega
    | succ fu =>
      obtain ⟨N1, e1, c1, f1, r1⟩ := r_do hw h hA.1 (by omega) (hx2 x (List.mem_cons_self ..))
      rw [f_X12_afternoon_85, gI_k 39 (O143 h.1), b1_s, h39, if_neg (nI_ge (by omega) (by omega)), e1, b2_s, exF_s]
      by_cases hpos : 0 ≤ doA s x
      · obtain ⟨N2, e2, c2, f2, r2⟩ := r_aft L (k + 1) fu N1 (WF_pl hw (doQ_ok hw x)) (fun y hy => hx2 y (List.mem_cons_of_mem _ hy)) c1 (RAl.fr f1 (fun a j _ _ => by unfold w54; omega) hA.2) (by rw [f1.2.2.1 143 39 (by unfold w54; omega), h39, Nat.add_assoc, Nat.add_comm 1]) (by omega) (by omega)
        rw [decide_eq_true hpos, if_neg (show ¬ bI true = 0 by decide), bn_s, nI_1, e2, if_pos hpos]
        refine ⟨N2, ?_, c2, f1.tr f2, r2.trans r1⟩
        show f_X12_afternoon_109 143 (nI (k + 1 + _)) N2 = f_X12_afternoon_109 143 (nI (k + (_ + 1))) N2
        rw [Nat.add_assoc, Nat.add_comm 1]
      · rw [decide_eq_false hpos, if_pos (show bI false = 0 from rfl), if_neg hpos]
        exact ⟨N1, rfl, c1, f1, r1⟩
theorem acF_k {T : Nat → Nat} {n l : Nat} : ∀ (L : List Ak) {j a : Nat}, (acF T n l j a).1 = some L → ∀ x, x ∈ L → x.1 ≤ 2
  | [], j, a, h, x, hx => by cases hx
  | y :: L, j, a, h, x, hx => by
    obtain ⟨a1, j', ho, hn⟩ := acF_c h
    have hg := acO_gt ho
    rcases List.mem_cons.mp hx with e | e
    · rw [e]; exact hg.2.2
    · rcases hn with ⟨_, g2⟩ | ⟨_, g2⟩
      · rw [g2] at e; cases e
      · exact acF_k L g2 x e
theorem r_109 {s : St} {N : MM} {q : Pl} {d m : Nat} {b : Bool} (hw : WF s) (h : RR (zsplan s q) N) (ok : okPl (zP s) (zE s) q) (hp : PR N 163 (46 * zU s) (zplan s)) (h39 : mI N 143 39 = nI m) (hm : m ≤ 60) (hd : d ≤ 60) (hb : b = true ↔ d < m) : ∃ N', f_X12_afternoon_109 143 (nI d) N = some (nI d, N') ∧ RR (zsrow (if d = 0 then zsplan s q else zpush s q) (rowOf [Int32.toInt64 (bI b), Int32.toInt64 (worAll s q)])) N' ∧ Fr rW N N' ∧ mR N' = mR N := by
  have s0 := h.1
  obtain ⟨M1, e1, w1, f1, r1⟩ := r_clr s0
  have s1 := f1.sh' r1 s0
  obtain ⟨M2, e2, w2, f2, r2⟩ := r_ent s1 w1 (by show 0 < 24; decide) (Int32.toInt64 (bI b))
  have s2 := f2.sh' r2 s1
  have F2 : Fr wRoR N M2 := f1.tr f2
  have c2 : RR (zsrow (zsplan s q) (rowOf [Int32.toInt64 (bI b)])) M2 := h.row F2 (r2.trans r1) w2
  have hc : RW2 s M2 153 q := ⟨⟨s2, c2.2.2.2.1, hw.1, hw.2.1, Or.inl rfl, c2.2.2.2.2.1, by have := ok.1; omega, ok.2⟩, c2.2.2.2.2.2.1⟩
  obtain ⟨⟨v, M3⟩, e3, er, f3, r3⟩ := r_all hc
  have er : v = worAll s q := er
  have f3 : Fr wStk M2 M3 := f3
  have r3 : mR M3 = mR M2 := r3
  have e3 : f_X12_worthAll 143 153 M2 = some (v, M3) := e3
  have s3 := f3.sh' r3 s2
  have w3 : RowR M3 ([] ++ [Int32.toInt64 (bI b)]) := ⟨(f3.2.2.1 143 1 (by unfold wStk; omega)).trans w2.1, fun k hk => (f3.2.2.2.1 144 k (by unfold wStk; omega)).trans (w2.2 k hk)⟩
  obtain ⟨M4, e4, w4, f4, r4⟩ := r_ent s3 w3 (by show 1 < 24; decide) (Int32.toInt64 v)
  rw [er] at w4
  have F4 : Fr (fun a k => wRoR a k ∨ wStk a k) N M4 := ((F2.mono (fun a k q => Or.inl q)).tr (f3.mono (fun a k q => Or.inr q))).tr (f4.mono (fun a k q => Or.inl q))
  have r4' : mR M4 = mR N := r4.trans (r3.trans (r2.trans r1))
  have s4 := F4.sh' r4' s0
  have c4 : RR (zsrow (zsplan s q) (rowOf [Int32.toInt64 (bI b), Int32.toInt64 (worAll s q)])) M4 := ⟨s4, h.2.1.fr F4 (fun a k q => by unfold wRoR wStk; omega), w4, h.2.2.2.1.fr F4 (fun a k q => by unfold wRoR wStk; omega), h.2.2.2.2.1.frw F4 (fun a k q => by unfold wRoR wStk; omega), h.2.2.2.2.2.1.fr F4 (fun a k q => by unfold wRoR wStk; omega), h.2.2.2.2.2.2.1.fr F4 (fun a k q => by unfold wRoR wStk; omega), h.2.2.2.2.2.2.2.1.fr F4 (fun a k q => by unfold wRoR wStk; omega), h.2.2.2.2.2.2.2.2.fr F4 (fun a k q => by unfold wRoR wStk; omega)⟩
  have fr4 : Fr rW N M4 := F4.mono (fun a k q => by unfold wRoR wStk at q; unfold rW; omega)
  have q39 : mI M1 143 39 = nI m := (f1.2.2.1 143 39 (by unfold wRoR; omega)).trans h39
  have hd129 : f_X12_afternoon_109 143 (nI d) N = (if nI d ≤ 0 then some (0, M4) else b2 (f_X12_adds 143 (nI d) M4) (fun r9 M8 => some (r9, M8))) := by
    unfold f_X12_afternoon_109
    rw [e1, b1_s, gI_k 39 (O143 s1), b1_s, q39]
    have k : ∀ z : Int32, z = bI b → f_X12_afternoon_129 143 (nI d) z 143 M1 = (if nI d ≤ 0 then some (0, M4) else b2 (f_X12_adds 143 (nI d) M4) (fun r9 M8 => some (r9, M8))) := by
      intro z hz
      unfold f_X12_afternoon_129
      rw [hz, e_flag, b2_s, e2, b1_s, sh_R s2 (a := 143) (k := 15) (b := 153) 12 (by decide) rfl (by decide), b1_s, e3, b2_s, e4, b1_s]
    by_cases hc : m ≤ d
    · have hbf : b = false := by
        cases hx : b with
        | false => rfl
        | true => have := hb.mp hx; omega
      rw [if_pos (nI_le hc (by omega))]
      exact k 0 (by rw [hbf]; rfl)
    · have hbt : b = true := hb.mpr (by omega)
      rw [if_neg (nI_ge (by omega) (by omega))]
      exact k 1 (by rw [hbt]; rfl)
  rw [hd129]
  by_cases hz : d = 0
  · rw [if_pos (show nI d ≤ 0 by rw [hz]; decide), if_pos hz]
    exact ⟨M4, by rw [hz]; rfl, c4, fr4, r4'⟩
  · have hw' : WF (zsrow s (rowOf [Int32.toInt64 (bI b), Int32.toInt64 (worAll s q)])) := WF_row hw (by show 2 ≤ 8; decide)
    obtain ⟨M5, e5, c5, f5, r5⟩ := r_rememb (s := zsrow s (rowOf [Int32.toInt64 (bI b), Int32.toInt64 (worAll s q)])) (q := q) hw' c4 (hp.frw F4 (fun a k q => by unfold wRoR wStk; omega)) (nI d)
    rw [if_neg (nI_nle (by omega) (by omega)), e5, b2_s, if_neg hz]
    exact ⟨M5, rfl, c5, fr4.tr f5, r5.trans r4'⟩
theorem R_afternoon {s : St} (hw : WF s) : OpR (fun M => f_X12_afternoon 143 M) s (a_afternoon s) (n_afternoon s) := by
  intro M h
  obtain ⟨N, et, ht, ft, rt, t0, l0⟩ := r_thr0 h
  have hL := hw.1.2.2.2.2.2.2.1
  have hwz : WF (z0 s) := W_z0 hw
  obtain ⟨M1, e1, c1, n1, f1, r1⟩ := r_begin' hw ht (m := 60) (by decide)
  have s1 := c1.1.1
  have f2 : Fr (fun a k => a = 143 ∧ k = 39) M1 (sI M1 143 39 0) := (Fr.rf (W := fun a k => a = 143 ∧ k = 39) M1).sI ⟨rfl, rfl⟩
  have c2 : TR (z0 s) (ztap s) (zL s) (min (zL s) 60) 0 (sI M1 143 39 0) := c1.fr' f2 rfl (fun a k q => by unfold wR; omega) (fun a k q => by omega)
  have q2 : mI (sI M1 143 39 0) 143 39 = nI 0 := by rw [mI_self]; rfl
  have fr2 : Fr rW M (sI M1 143 39 0) := (ft.tr f1).tr (f2.mono (fun a k q => by unfold rW; omega))
  have fin : ∀ (fu a : Nat) (N : MM) (L : List Ak), TR (z0 s) (ztap s) (zL s) (min (zL s) 60) a N → a = min (zL s) 60 → min (zL s) 60 = zL s → RAl N 0 L → mI N 143 39 = nI L.length → (∀ x, x ∈ L → x.1 ≤ 2) → L.length ≤ 60 → ∃ N', f_X12_afternoon_29 (fu + 1) 143 (nI (zL s)) (bI true) 0 N = some (nI (exF (z0 s) L).1, N') ∧ RR (afX s L) N' ∧ Fr rW N N' ∧ mR N' = mR N := by
    intro fu a N L c ha hmn hA h39 hx2 hlen
    have ok := exF_ok L hwz
    obtain ⟨N1', g1', p1', q1', j1', o1'⟩ := r_putsBy c.1.1 (n := zU (z0 s)) (u := zund (z0 s)) c.1.2.2.2.2.2.2.1 hwz.1.2.2.2.2.1 (fun j hj => by have := (hwz.2.2.2.2.2.1 j hj).1; omega) c.1.2.2.2.2.1 (by have := hwz.2.2.2.2.1.1; omega)
    have c1' : RR (z0 s) N1' := c.1.p0 (j1'.mono (fun a k q => by unfold wQ0; omega)) (j1'.sh' o1' c.1.1) (c.1.2.2.2.2.1.frw j1' (fun b k q => by omega)) p1'
    obtain ⟨N2, e2, c2, f2, r2⟩ := r_aft L 0 1024 N1' hwz hx2 c1' (RAl.fr j1' (fun a j _ _ => by omega) hA) (by rw [Nat.zero_add, j1'.2.2.1 143 39 (by omega)]; exact h39) (by omega) (by omega)
    rw [Nat.zero_add, nI_0] at e2
    have q39 : mI N2 143 39 = nI L.length := (f2.2.2.1 143 39 (by unfold w54; omega)).trans ((j1'.2.2.1 143 39 (by omega)).trans h39)
    obtain ⟨N3, e3, c3, f3, r3⟩ := r_109 (b := (exF (z0 s) L).2.1) (d := (exF (z0 s) L).1) hwz c2 ok.1 (q1'.frw f2 (fun b k q => by unfold w54; omega)) q39 hlen (by have := ok.2.1; omega) ok.2.2
    refine ⟨N3, ?_, c3, ((j1'.mono (fun a k q => by unfold rW; omega)).tr (f2.mono (fun a k q => by unfold w54 at q; unfold rW; omega))).tr f3, r3.trans (r2.trans o1')⟩
    rw [f_X12_afternoon_29, if_pos rfl, show (60 : Int32) = nI 60 from rfl, r_fault c (m := 60) (by decide) rfl true, b2_s, if_pos (c := true = true ∧ a = min (zL s) 60 ∧ min (zL s) 60 = zL s) ⟨rfl, ha, hmn⟩, if_pos (show (0 : Int32) ≤ 0 by decide), g1', b1_s, e2, e3]
  show ∃ M', f_X12_afternoon 143 M = _ ∧ _
  unfold f_X12_afternoon f_X12_afternoon_0 f_X12_afternoon_28
  rw [if_pos (O143 h.1), et, b1_s, show (60 : Int32) = nI 60 from rfl, e1, b2_s, pI_k 39 _ (O143 s1), b1_s]
  by_cases hz : zL s = 0
  · have er : afR s = (some [], 0) := if_pos hz
    obtain ⟨N3, e3, c3, f3, r3⟩ := fin 1023 0 _ [] c2 (by omega) (by omega) True.intro q2 (fun x hx => by cases hx) (Nat.zero_le _)
    have e3 : f_X12_afternoon_29 1024 143 (nI (zL s)) 1 0 (sI M1 143 39 0) = some (nI (exF (z0 s) []).1, N3) := e3
    rw [(af_s er).1, (af_s er).2, if_pos (show nI (zL s) ≤ 0 by rw [hz]; decide), e3]
    exact ⟨N3, rfl, c3, fr2.tr f3, r3.trans (r1.trans rt)⟩
  · have er : afR s = acF (ztap s) (zL s) (min (zL s) 60) 61 0 := if_neg hz
    obtain ⟨f', N3, b, e3, c3, g3, k3, f3, r3⟩ := r_acts (s := z0 s) (T := ztap s) (n := zL s) (l := min (zL s) 60) rfl 61 0 0 1024 _ (by omega) (by omega) (by omega) c2 q2
    have fr3 : Fr rW M N3 := fr2.tr (wAs_rW f3)
    have rr3 : mR N3 = mR M := r3.trans (r1.trans rt)
    rw [if_neg (nI_nle (by omega) (by omega)), e3]
    cases hp : acF (ztap s) (zL s) (min (zL s) 60) 61 0 with
    | mk o q =>
      rw [hp] at c3 g3 er
      have c3 : TR (z0 s) (ztap s) (zL s) (min (zL s) 60) q N3 := c3
      have hq := c3.2.2.2.2.2.2.1
      cases o with
      | none =>
        have g3' : ¬ (b = true ∧ q = min (zL s) 60 ∧ min (zL s) 60 = zL s) := g3 rfl
        rw [(af_n er).1, (af_n er).2]
        refine ⟨N3, ?_, c3.1, fr3, rr3⟩
        rw [f_X12_afternoon_29, if_pos rfl, show (60 : Int32) = nI 60 from rfl, r_fault c3 (m := 60) (by decide) rfl b, b2_s, if_neg g3', if_neg]
        rw [fa_le, fb_subI (by rw [nI_toInt (by omega), show (-1 : Int32).toInt = -1 from by decide]; omega) (by rw [nI_toInt (by omega), show (-1 : Int32).toInt = -1 from by decide]; omega), nI_toInt (by omega), show (-1 : Int32).toInt = -1 from by decide, show (0 : Int32).toInt = 0 from by decide]
        omega
      | some L =>
        have hpL : (acF (ztap s) (zL s) (min (zL s) 60) 61 0).1 = some L := by rw [hp]
        obtain ⟨m1, m2, m3, m4, m5⟩ := k3 L hpL
        rw [hp] at m4
        have m4 : q = min (zL s) 60 := m4
        have m2 : mI N3 143 39 = nI L.length := by rw [Nat.zero_add] at m2; exact m2
        have hlen := acF_len L hpL
        obtain ⟨N4, e4, c4, f4, r4⟩ := fin f' q N3 L c3 m4 m5 m1 m2 (acF_k L hpL) (by omega)
        rw [(af_s er).1, (af_s er).2, m3, e4]
        exact ⟨N4, rfl, c4, fr3.tr f4, r4.trans rr3⟩
theorem case_17 : CaseOK g_L_17 := by
  intro L xs j K M hL hj hc
  obtain ⟨s, hw, hc, hr⟩ := hc
  obtain ⟨M1, M2, hcp, e1, e2⟩ := asm (C_afternoon hw) (R_afternoon hw) (W_afternoon hw) hc hr
  refine ⟨M2, hcp, ?_⟩
  unfold g_L_17
  simp only [show (nI j + 1 : Int32) = nI (j + 1) from nI_add _ 1, show (nI j + 2 : Int32) = nI (j + 2) from nI_add _ 2, show (nI j + 3 : Int32) = nI (j + 3) from nI_add _ 3, show (nI j + 4 : Int32) = nI (j + 4) from nI_add _ 4, scr_k (show j + 1 < L by omega) hL, scr_k (show j + 2 < L by omega) hL, scr_k (show j + 3 < L by omega) hL, scr_k (show j + 4 < L by omega) hL, b1_s, e1, e2, b2_s, if_true]

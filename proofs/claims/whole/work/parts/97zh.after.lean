/-! afternoon: the class -/
section AFC
variable {T : Nat → Nat} {n l : Nat}
theorem acF_ne {j a : Nat} : (acF T n l j a).1 ≠ some [] := by
  cases j with
  | zero => intro g; cases g
  | succ j =>
    cases h : acO T l a with
    | mk o a1 =>
      cases o with
      | none => rw [acF_n h]; intro g; cases g
      | some x =>
        rw [acF_s h]
        by_cases h1 : l ≤ a1
        · rw [if_pos h1]
          by_cases h2 : l < n
          · rw [if_pos h2]; intro g; cases g
          · rw [if_neg h2]; intro g; cases g
        · rw [if_neg h1]
          by_cases h2 : tkB T l a1 59 = true
          · rw [if_pos h2]
            intro g
            have g : (acF T n l j (a1 + 1)).1.map (fun L => x :: L) = some [] := g
            cases hx : (acF T n l j (a1 + 1)).1 with
            | none => rw [hx] at g; cases g
            | some L => rw [hx] at g; cases g
          · rw [if_neg h2]; intro g; cases g
/-- the first act of those told, and what is told behind it -/
theorem acF_c {j a : Nat} {x : Ak} {L : List Ak} (h : (acF T n l j a).1 = some (x :: L)) : ∃ a1 j', acO T l a = (some x, a1) ∧ ((l ≤ a1 ∧ L = []) ∨ (tkB T l a1 59 = true ∧ (acF T n l j' (a1 + 1)).1 = some L)) := by
  cases j with
  | zero => cases h
  | succ j =>
    cases ho : acO T l a with
    | mk o a1 =>
      cases o with
      | none => rw [acF_n ho] at h; cases h
      | some y =>
        rw [acF_s ho] at h
        by_cases h1 : l ≤ a1
        · rw [if_pos h1] at h
          by_cases h2 : l < n
          · rw [if_pos h2] at h; cases h
          · rw [if_neg h2] at h
            cases h
            exact ⟨a1, 0, rfl, Or.inl ⟨h1, rfl⟩⟩
        · rw [if_neg h1] at h
          by_cases h2 : tkB T l a1 59 = true
          · rw [if_pos h2] at h
            have h : (acF T n l j (a1 + 1)).1.map (fun L => y :: L) = some (x :: L) := h
            cases hx : (acF T n l j (a1 + 1)).1 with
            | none => rw [hx] at h; cases h
            | some L' =>
              rw [hx] at h
              cases h
              exact ⟨a1, j, rfl, Or.inr ⟨h2, hx⟩⟩
          · rw [if_neg h2] at h; cases h
theorem c_acts {s : St} (hl : l ≤ 60) : ∀ (j a k fu : Nat) (N : MM), l < j + a → 2 * k ≤ a → 61 < fu + k → TC s T n l a N → ∃ N', f_X11_readActs_2 fu 0 (nI k) N = some (bI (acF T n l j a).1.isSome, N') ∧ TC s T n l (acF T n l j a).2 N' ∧ Fr wAc N N' ∧ mR N' = mR N
  | 0, a, k, fu, N, h1, h2, h3, h => by
    have := h.2.2.2.2.2.2.2.1
    omega
  | j + 1, a, k, fu, N, h1, h2, h3, h => by
    have ha := h.2.2.2.2.2.2.2.1
    cases fu with
    | zero => omega
    | succ fu =>
      obtain ⟨N1, e1, c1, k1, f1, r1⟩ := c_act h
      rw [f_X11_readActs_2, if_neg (show ¬ (60 : Int32) ≤ nI k from nI_ge (b := 60) (by omega) (by decide)), e1, b2_s]
      cases ho : acO T l a with
      | mk o a1 =>
        rw [ho] at c1
        have c1' : TC s T n l a1 N1 := c1
        cases o with
        | none =>
          rw [if_pos (show bI (none : Option Ak).isSome = 0 from rfl), acF_n ho]
          exact ⟨N1, rz0 N1, c1', f1, r1⟩
        | some x =>
          have hg := acO_gt ho
          rw [if_neg (show ¬ bI (some x).isSome = 0 from by show ¬ bI true = 0; decide), (R12 c1.1.1).2, b1_s, tc_end c1', b2_s, acF_s ho]
          by_cases hend : l ≤ a1
          · rw [decide_eq_true hend, if_neg (show ¬ bI true = 0 by decide), (R12 c1.1.1).2, b1_s, tc_more c1', b2_s, if_pos hend]
            by_cases hmo : l < n
            · rw [decide_eq_true hmo, if_neg (show ¬ bI true = 0 by decide), if_pos hmo]
              exact ⟨N1, rz0 N1, c1', f1, r1⟩
            · rw [decide_eq_false hmo, if_pos (show bI false = 0 from rfl), if_neg hmo]
              exact ⟨N1, rz1 N1, c1', f1, r1⟩
          · obtain ⟨N2, e2, c2, f2, r2⟩ := tc_take c1' (c := 59) (by decide)
            rw [decide_eq_false hend, if_pos (show bI false = 0 from rfl), (R12 c1.1.1).2, b1_s, show (59 : Int32) = nI 59 from rfl, e2, b2_s, if_neg hend]
            cases htk : tkB T l a1 59 with
            | false =>
              rw [htk] at c2
              rw [if_pos (show bI false = 0 from rfl), if_neg (c := false = true) (by decide)]
              exact ⟨N2, rz0 N2, c2, f1.tr (w14_Ac f2), r2.trans r1⟩
            | true =>
              rw [htk] at c2
              have c2' : TC s T n l (a1 + 1) N2 := c2
              obtain ⟨N3, e3, c3, f3, r3⟩ := c_acts hl j (a1 + 1) (k + 1) fu N2 (by omega) (by omega) (by omega) c2'
              rw [if_neg (show ¬ bI true = 0 by decide), if_pos rfl, bn_s, nI_1, e3, Option.isSome_map]
              exact ⟨N3, rfl, c3, (f1.tr (w14_Ac f2)).tr f3, r3.trans (r2.trans r1)⟩
theorem c_do {s : St} {N : MM} {x : Ak} (hw : WF s) (h : RC s N) (hx : CAc N x) (hk : x.1 ≤ 2) : ∃ N', f_X11_doAct 0 N = some (doA s x, N') ∧ RC (zsplan s (doQ s x)) N' ∧ Fr (fun a k => wL 18 a ∨ wPl 14 a k) N N' ∧ mR N' = mR N := by
  have s0 := h.1
  obtain ⟨x0, x1, x2, x3⟩ := hx
  unfold f_X11_doAct f_X11_doAct_0 doA doQ
  rw [if_pos (sh_O s0 11 (by decide) rfl), (R12 s0).1, b1_s, (ld142 s0).1, b1_s, x0]
  by_cases k0 : x.1 = 0
  · obtain ⟨M1, e1, c1, f1, r1⟩ := c_goin hw h x.2.1 x.2.2.1 x.2.2.2
    rw [if_pos (show kdC x.1 = 103 by unfold kdC; rw [if_pos k0]), b1_s, (ld142 s0).2.1, b1_s, x1, b1_s, (ld142 s0).2.2.1, b1_s, x2 (by omega), b1_s, (ld142 s0).2.2.2, b1_s, x3 k0, e1, b2_s, if_pos k0, if_pos k0]
    exact ⟨M1, rfl, c1, f1, r1⟩
  · rw [if_neg (c := x.1 = 0) k0, if_neg (c := x.1 = 0) k0]
    by_cases k1 : x.1 = 1
    · obtain ⟨M1, e1, c1, f1, r1⟩ := c_take hw h x.2.1
      rw [if_neg (show ¬ kdC x.1 = 103 by unfold kdC; rw [if_neg k0, if_pos k1]; decide), if_pos (show kdC x.1 = 120 by unfold kdC; rw [if_neg k0, if_pos k1]), b1_s, (ld142 s0).2.1, b1_s, x1, e1, b2_s, if_pos k1, if_pos k1]
      exact ⟨M1, rfl, c1, f1.mono (fun a k q => Or.inr q), r1⟩
    · obtain ⟨M1, e1, c1, f1, r1⟩ := c_move hw h x.2.1 x.2.2.1
      rw [if_neg (show ¬ kdC x.1 = 103 by unfold kdC; rw [if_neg k0, if_neg k1]; decide), if_neg (show ¬ kdC x.1 = 120 by unfold kdC; rw [if_neg k0, if_neg k1]; decide), b1_s, (ld142 s0).2.1, b1_s, x1, b1_s, (ld142 s0).2.2.1, b1_s, x2 k1, e1, b2_s, if_neg k1, if_neg k1]
      exact ⟨M1, rfl, c1, f1.mono (fun a k q => Or.inr q), r1⟩
theorem CAc.fr {N N' : MM} {x : Ak} (h : CAc N x) (f : Fr w14 N N') : CAc N' x := ⟨(f.2.2.1 142 0 (by unfold w14; omega)).trans h.1, (f.2.2.1 142 1 (by unfold w14; omega)).trans h.2.1, fun g => (f.2.2.1 142 2 (by unfold w14; omega)).trans (h.2.2.1 g), fun g => (f.2.2.1 142 3 (by unfold w14; omega)).trans (h.2.2.2 g)⟩
theorem wAc_cW {M M' : MM} (f : Fr wAc M M') : Fr cW M M' := f.mono (fun a k q => by unfold wAc at q; unfold cW; omega)
theorem c_aft (hl : l ≤ 60) {q0 : Pl} : ∀ (L : List Ak) (j a k fu : Nat) (N : MM) {s : St}, WF s → ((L = [] ∧ l ≤ a) ∨ (acF T n l j a).1 = some L) → 2 * k ≤ a + 1 → k ≤ 31 → 63 < fu + k → TC s T n l a N → PL N 16 q0 → ∃ N', f_X11_afternoon_58 fu 0 (nI k) 0 (nI k) N = f_X11_afternoon_124 0 (nI (k + (exF s L).1)) (bI (exF s L).2.1) N' ∧ RC (zsplan s (exF s L).2.2) N' ∧ PL N' 16 q0 ∧ Fr cW N N'
  | [], j, a, k, fu, N, s, hw, hL, h2, h31, h3, h, hp => by
    have hla : l ≤ a := by
      rcases hL with g | g
      · exact g.2
      · exact absurd g acF_ne
    cases fu with
    | zero => omega
    | succ fu =>
      refine ⟨N, ?_, ?_, hp, Fr.rf N⟩
      · rw [f_X11_afternoon_58, if_neg (show ¬ (60 : Int32) ≤ nI k from nI_ge (b := 60) (by omega) (by decide)), (R12 h.1.1).2, b1_s, tc_end h, b2_s, decide_eq_true hla, if_neg (show ¬ bI true = 0 by decide), exF]
        rfl
      · rw [exF]; exact h.1
  | x :: L, j, a, k, fu, N, s, hw, hL, h2, h31, h3, h, hp => by
    rcases hL with g | hL
    · cases g.1
    · obtain ⟨a1, j', ho, hn⟩ := acF_c hL
      have hg := acO_gt ho
      cases fu with
      | zero => omega
      | succ fu =>
        obtain ⟨N1, e1, c1, k1, f1, r1⟩ := c_act h
        rw [ho] at e1 c1 k1
        have c1' : TC s T n l a1 N1 := c1
        have kx := k1 x rfl
        have ha1 := c1'.2.2.2.2.2.2.2.1
        obtain ⟨N2, e2, c2, f2, r2⟩ := tc_take c1' (c := 59) (by decide)
        obtain ⟨N3, e3, c3, f3, r3⟩ := c_do hw c2.1 (kx.fr f2) hg.2.2
        have f3' : Fr cW N2 N3 := f3.mono (fun a k q => by unfold wL wPl at q; unfold cW; omega)
        have fr3 : Fr cW N N3 := ((wAc_cW f1).tr (w14_cW f2)).tr f3'
        have p3 : PL N3 16 q0 := ((hp.frw f1 (fun b k q => by unfold wAc; omega)).frw f2 (fun b k q => by unfold w14; omega)).frw f3 (fun b k q => by unfold wL wPl; omega)
        have tI : ∀ b i, b = 1 ∨ b = 2 → mI N3 b i = mI N2 b i := fun b i g => f3.2.2.1 b i (by unfold wL wPl; omega)
        have c3' : TC (zsplan s (doQ s x)) T n l (adv (tkB T l a1 59) a1) N3 := ⟨c3, (tI 1 2 (Or.inl rfl)).trans c2.2.1, (tI 1 3 (Or.inl rfl)).trans c2.2.2.1, (tI 1 4 (Or.inl rfl)).trans c2.2.2.2.1, fun i hi => (tI 2 i (Or.inr rfl)).trans (c2.2.2.2.2.1 i hi), c2.2.2.2.2.2⟩
        have hw' : WF (zsplan s (doQ s x)) := WF_pl hw (doQ_ok hw x)
        have hadv : a1 ≤ adv (tkB T l a1 59) a1 := by unfold adv; split <;> omega
        rw [f_X11_afternoon_58, if_neg (show ¬ (60 : Int32) ≤ nI k from nI_ge (b := 60) (by omega) (by decide)), (R12 h.1.1).2, b1_s, tc_end h, b2_s, decide_eq_false (show ¬ l ≤ a by omega), if_pos (show bI false = 0 from rfl), if_pos rfl, e1, b2_s, (R12 c1.1.1).2, b1_s, show (59 : Int32) = nI 59 from rfl, e2, b2_s, e3, b2_s, exF_s]
        unfold f_X11_afternoon_105 f_X11_afternoon_116
        by_cases hpos : 0 ≤ doA s x
        · have hn' : (L = [] ∧ l ≤ adv (tkB T l a1 59) a1) ∨ (acF T n l j' (adv (tkB T l a1 59) a1)).1 = some L := by
            rcases hn with ⟨g1, g2⟩ | ⟨g1, g2⟩
            · exact Or.inl ⟨g2, by omega⟩
            · refine Or.inr ?_
              have : adv (tkB T l a1 59) a1 = a1 + 1 := if_pos g1
              rw [this]; exact g2
          obtain ⟨N4, e4, c4, p4, f4⟩ := c_aft hl L j' (adv (tkB T l a1 59) a1) (k + 1) fu N3 hw' hn' (by omega) (by omega) (by omega) c3' p3
          rw [if_pos hpos, if_pos hpos, if_pos rfl, bn_s, nI_1, bn_s, e4]
          refine ⟨N4, ?_, c4, p4, fr3.tr f4⟩
          show f_X11_afternoon_124 0 (nI (k + 1 + _)) _ N4 = f_X11_afternoon_124 0 (nI (k + (_ + 1))) _ N4
          rw [Nat.add_assoc, Nat.add_comm 1]
        · rw [if_neg hpos, if_neg hpos, if_neg (show ¬ (1 : Int32) = 0 by decide), bn_s, Int32.add_zero, bn_s, nI_1]
          cases fu with
          | zero => omega
          | succ fu =>
            refine ⟨N3, ?_, c3, p3, fr3⟩
            rw [f_X11_afternoon_58, if_neg (show ¬ (60 : Int32) ≤ nI (k + 1) from nI_ge (b := 60) (by omega) (by decide)), (R12 c3.1).2, b1_s, tc_end c3', b2_s]
            by_cases hend : l ≤ adv (tkB T l a1 59) a1
            · rw [decide_eq_true hend, if_neg (show ¬ bI true = 0 by decide)]; rfl
            · rw [decide_eq_false hend, if_pos (show bI false = 0 from rfl), if_neg (show ¬ (1 : Int32) = 0 by decide)]; rfl
end AFC
theorem acF_len {T : Nat → Nat} {n l : Nat} : ∀ (L : List Ak) {j a : Nat}, (acF T n l j a).1 = some L → L.length ≤ l - a
  | [], j, a, h => Nat.zero_le _
  | x :: L, j, a, h => by
    obtain ⟨a1, j', ho, hn⟩ := acF_c h
    have hg := acO_gt ho
    show L.length + 1 ≤ l - a
    rcases hn with ⟨g1, g2⟩ | ⟨g1, g2⟩
    · rw [g2]; show 0 + 1 ≤ l - a; omega
    · have := (of_decide_eq_true g1).1
      have := acF_len L g2
      omega
theorem c_rem2 {s : St} {M : MM} {q : Pl} (hw : WF s) (h : RC (zsplan s q) M) (hp : PL M 16 (zplan s)) : ∃ M', f_X4_push 92 16 M = some M' ∧ RC (zpush s q) M' ∧ Fr cW M M' := by
  have h0 := h.1
  obtain ⟨M1, e1, p1, f1, r1⟩ := c_push h0 PA16 (by decide) hp hw.2.2.2.2.1.1 (n := zU s) (u := zund s) h.2.2.2.2.2.2.1
  exact ⟨M1, e1, RC.pp h (f1.mono (fun a k q => by unfold wPa at q; unfold wPP; omega)) (sh93 f1 r1 h0) (h.2.2.2.2.1.frw f1 (fun a k q => by unfold wPa; omega)) p1, f1.mono (fun a k q => by unfold wPa at q; unfold cW; omega)⟩
theorem c_139 {s st : St} {M : MM} {q : Pl} (h : RC st M) (hc : CW s M q) (x : Int32) (b : Bool) : ∃ M', f_X11_afternoon_139 0 x (bI b) M = some (x, M') ∧ RC (zsrow st (rowOf [Int32.toInt64 (bI b), Int32.toInt64 (worAll s q)])) M' ∧ Fr cW M M' := by
  have h0 := h.1
  obtain ⟨⟨v, M1⟩, e1, er, f1, r1⟩ := c_sum hc
  have er : v = worAll s q := er
  have f1 : Fr wEv M M1 := f1
  have r1 : mR M1 = mR M := r1
  have e1 : f_X7_sum 84 M = some (v, M1) := e1
  have c1 : RC st M1 := h.fr (wEv_wC f1) (f1.sh' r1 h0)
  obtain ⟨M2, e2, w2, f2, r2⟩ := c_two c1.1 (Int32.toInt64 (bI b)) (Int32.toInt64 v)
  rw [er] at w2
  refine ⟨M2, ?_, c1.row f2 r2 w2, (wEv_cW f1).tr (wRow_cW f2)⟩
  unfold f_X11_afternoon_139
  rw [sh_R h0 (a := 0) (k := 1) (b := 3) 11 (by decide) rfl (by decide), b1_s]
  have k : ∀ z : Int64, z = Int32.toInt64 (bI b) → f_X11_afternoon_152 0 x z 3 M = some (x, M2) := by
    intro z hz
    unfold f_X11_afternoon_152
    rw [sh_R h0 (a := 0) (k := 7) (b := 84) 11 (by decide) rfl (by decide), b1_s, e1, b2_s, hz, e2, b1_s]
  cases b with
  | true => rw [if_neg (show ¬ bI true = 0 by decide)]; exact k 1 (by decide)
  | false => rw [if_pos (show bI false = 0 from rfl)]; exact k 0 (by decide)
theorem C_afternoon {s : St} (hw : WF s) : OpC (fun M => f_X11_afternoon 0 M) s (a_afternoon s) (n_afternoon s) := by
  intro M h
  have hL := hw.1.2.2.2.2.2.2.1
  have s0 := h.1
  have hwz : WF (z0 s) := W_z0 hw
  obtain ⟨M1, e1, c1, f1, r1⟩ := c_begin' hw h (m := 60) (by decide)
  have s1 := c1.1.1
  have fin : ∀ (N : MM) (a : Nat) (L : List Ak), TC (z0 s) (ztap s) (zL s) (min (zL s) 60) a N → Fr cW M N → ((L = [] ∧ min (zL s) 60 ≤ 0) ∨ (acF (ztap s) (zL s) (min (zL s) 60) 61 0).1 = some L) → ∃ M', f_X11_afternoon_34 0 N = some (nI (exF (z0 s) L).1, M') ∧ RC (afX s L) M' ∧ Fr cW M M' := by
    intro N a L c fN hL'
    have ok := exF_ok L hwz
    have hlen : (exF (z0 s) L).1 ≤ 60 := by
      have k := ok.2.1
      have kl : L.length ≤ 60 := by
        rcases hL' with g | g
        · rw [g.1]; exact Nat.zero_le _
        · have := acF_len L g
          omega
      omega
    have sN := c.1.1
    obtain ⟨N2, e2, p2, f2, r2⟩ := c_copy sN PA16 PA14 (by decide) c.1.2.2.2.2.1 hwz.2.2.2.2.1.1
    have cT : TC (z0 s) (ztap s) (zL s) (min (zL s) 60) a N2 := c.fr' f2 r2 (fun a k g => by unfold wPl at g; unfold wC; omega) (fun a k g => by unfold wPl; omega)
    have c3 : TC (z0 s) (ztap s) (zL s) (min (zL s) 60) 0 (sI N2 1 4 (nI 0)) := cT.mv (a' := 0) (Nat.zero_le _)
    have p3 : PL (sI N2 1 4 (nI 0)) 16 (zplan (z0 s)) := p2.frw (frmv N2 (nI 0)) (fun b k g => by unfold w14; omega)
    have fr3 : Fr cW M (sI N2 1 4 (nI 0)) := (fN.tr (f2.mono (fun a k g => by unfold wPl at g; unfold cW; omega))).tr (w14_cW (frmv N2 _))
    obtain ⟨N4, e4, c4, p4, f4⟩ := c_aft (T := ztap s) (n := zL s) (l := min (zL s) 60) (by omega) L 61 0 0 1024 _ hwz hL' (by omega) (by omega) (by omega) c3 p3
    have e4 : f_X11_afternoon_58 1024 0 0 0 0 (sI N2 1 4 0) = f_X11_afternoon_124 0 (nI (0 + (exF (z0 s) L).1)) (bI (exF (z0 s) L).2.1) N4 := e4
    rw [Nat.zero_add] at e4
    have s4 := c4.1
    have hd : f_X11_afternoon_34 0 N = f_X11_afternoon_124 0 (nI (exF (z0 s) L).1) (bI (exF (z0 s) L).2.1) N4 := by
      unfold f_X11_afternoon_34 f_X10_rewind f_X10_rewind_0
      rw [sh_R sN (a := 0) (k := 4) (b := 16) 11 (by decide) rfl (by decide), b1_s, sh_R sN (a := 0) (k := 3) (b := 14) 11 (by decide) rfl (by decide), b1_s, e2, b1_s, (R12 cT.1.1).2, b1_s, if_pos (tc_O cT), pI_k 4 _ (tc_O cT), b1_s, b1_s, e4]
    rw [hd]
    unfold f_X11_afternoon_124 afX
    by_cases hz : (exF (z0 s) L).1 = 0
    · have hc : CW (z0 s) N4 (exF (z0 s) L).2.2 := ⟨⟨s4, c4.2.2.2.1, hwz.1, hwz.2.1, PA14, c4.2.2.2.2.1, ok.1⟩, c4.2.2.2.2.2.1⟩
      obtain ⟨N5, e5, c5, f5⟩ := c_139 c4 hc (nI (exF (z0 s) L).1) (exF (z0 s) L).2.1
      rw [if_pos (show nI (exF (z0 s) L).1 ≤ 0 by rw [hz]; decide), e5, if_pos hz]
      exact ⟨N5, rfl, c5, (fr3.tr f4).tr f5⟩
    · obtain ⟨N5, e5, c5, f5⟩ := c_rem2 hwz c4 p4
      have hc : CW (z0 s) N5 (exF (z0 s) L).2.2 := ⟨⟨c5.1, c5.2.2.2.1, hwz.1, hwz.2.1, PA14, c5.2.2.2.2.1, ok.1⟩, c5.2.2.2.2.2.1⟩
      obtain ⟨N6, e6, c6, f6⟩ := c_139 c5 hc (nI (exF (z0 s) L).1) (exF (z0 s) L).2.1
      rw [if_neg (nI_nle (by omega) (by omega)), sh_R s4 (a := 0) (k := 9) (b := 92) 11 (by decide) rfl (by decide), b1_s, sh_R s4 (a := 0) (k := 4) (b := 16) 11 (by decide) rfl (by decide), b1_s, e5, b1_s, e6, if_neg hz]
      exact ⟨N6, rfl, c6, ((fr3.tr f4).tr f5).tr f6⟩
  show ∃ M', f_X11_afternoon 0 M = _ ∧ _
  unfold f_X11_afternoon f_X11_afternoon_0
  rw [if_pos (sh_O s0 11 (by decide) rfl), (R12 s0).2, b1_s, show (60 : Int32) = nI 60 from rfl, e1, b1_s, (R12 s1).2, b1_s, tc_emp c1, b2_s]
  by_cases hz : zL s = 0
  · have er : afR s = (some [], 0) := if_pos hz
    obtain ⟨N2, e2, c2, f2⟩ := fin M1 0 [] c1 f1 (Or.inl ⟨rfl, by omega⟩)
    rw [(af_s er).1, (af_s er).2, decide_eq_true hz, if_neg (show ¬ bI true = 0 by decide), e2]
    exact ⟨N2, rfl, c2, f2⟩
  · have er : afR s = acF (ztap s) (zL s) (min (zL s) 60) 61 0 := if_neg hz
    obtain ⟨N2, e2, c2, f2, r2⟩ := c_acts (s := z0 s) (T := ztap s) (n := zL s) (l := min (zL s) 60) (by omega) 61 0 0 1024 M1 (by omega) (by omega) (by omega) c1
    have e2' : f_X11_readActs 0 M1 = some (bI (acF (ztap s) (zL s) (min (zL s) 60) 61 0).1.isSome, N2) := by
      unfold f_X11_readActs f_X11_readActs_0
      rw [if_pos (sh_O s1 11 (by decide) rfl)]
      rw [nI_0] at e2
      exact e2
    rw [decide_eq_false hz, if_pos (show bI false = 0 from rfl), e2', b2_s]
    cases hp : acF (ztap s) (zL s) (min (zL s) 60) 61 0 with
    | mk o q =>
      rw [hp] at c2 er
      have c2' : TC (z0 s) (ztap s) (zL s) (min (zL s) 60) q N2 := c2
      cases o with
      | none =>
        rw [(af_n er).1, (af_n er).2, if_pos (show bI (none : Option (List Ak)).isSome = 0 from rfl), (R12 c2.1.1).2, b1_s, tc_ref c2', b2_s]
        exact ⟨N2, rfl, c2'.1, f1.tr (wAc_cW f2)⟩
      | some L =>
        obtain ⟨N3, e3, c3, f3⟩ := fin N2 q L c2' (f1.tr (wAc_cW f2)) (Or.inr (by rw [hp]))
        rw [(af_s er).1, (af_s er).2, if_neg (show ¬ bI (some L).isSome = 0 from by show ¬ bI true = 0; decide), e3]
        exact ⟨N3, rfl, c3, f3⟩

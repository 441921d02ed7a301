/-! best -/
def bfW (s : St) (q : Pl) (p k : Nat) : Int32 := worS s (plAdd q (trp p k (erN s q p k))) q.1
def bfN (s : St) (q : Pl) (p k : Nat) (o : Option (Nat × Nat × Int32)) : Option (Nat × Nat × Int32) := match o with
  | none => some (k, erN s q p k, bfW s q p k)
  | some (b, mb, wb) => if wb < bfW s q p k ∨ (bfW s q p k = wb ∧ erN s q p k + zlen s k < mb + zlen s b) then some (k, erN s q p k, bfW s q p k) else some (b, mb, wb)
def bfS (s : St) (q : Pl) (p : Nat) : Nat → Option (Nat × Nat × Int32)
  | 0 => none
  | k + 1 => if erN s q p k < 100 then bfN s q p k (bfS s q p k) else bfS s q p k
theorem bfS_t {s : St} {q : Pl} {p k : Nat} (h : erN s q p k < 100) : bfS s q p (k + 1) = bfN s q p k (bfS s q p k) := if_pos h
theorem bfS_f {s : St} {q : Pl} {p k : Nat} (h : ¬ erN s q p k < 100) : bfS s q p (k + 1) = bfS s q p k := if_neg h
theorem bfN_b {s : St} {q : Pl} {p k b mb : Nat} {wb : Int32} {o : Option (Nat × Nat × Int32)} (he : erN s q p k < 100) (ho : ∀ b mb wb, o = some (b, mb, wb) → b < k ∧ mb < 100) (h : bfN s q p k o = some (b, mb, wb)) : b < k + 1 ∧ mb < 100 := by
  have key : ∀ m w, m < 100 → (some (k, m, w) : Option (Nat × Nat × Int32)) = some (b, mb, wb) → b < k + 1 ∧ mb < 100 := by
    intro m w hm g
    cases g
    exact ⟨by omega, hm⟩
  cases o with
  | none => exact key _ _ he h
  | some v =>
    obtain ⟨b', mb', wb'⟩ := v
    have z := ho b' mb' wb' rfl
    by_cases hc : wb' < bfW s q p k ∨ (bfW s q p k = wb' ∧ erN s q p k + zlen s k < mb' + zlen s b')
    · have : bfN s q p k (some (b', mb', wb')) = some (k, erN s q p k, bfW s q p k) := if_pos hc
      exact key _ _ he (this.symm.trans h)
    · have : bfN s q p k (some (b', mb', wb')) = some (b', mb', wb') := if_neg hc
      have g := this.symm.trans h
      cases g
      exact ⟨by omega, z.2⟩
theorem bfS_b0 {s : St} {q : Pl} {p : Nat} (k : Nat) : ∀ (b mb : Nat) (wb : Int32), bfS s q p k = some (b, mb, wb) → b < k ∧ mb < 100 := by
  induction k with
  | zero =>
    intro b mb wb h
    have h : (none : Option (Nat × Nat × Int32)) = some (b, mb, wb) := h
    cases h
  | succ k ih =>
    intro b mb wb h
    by_cases he : erN s q p k < 100
    · rw [bfS_t he] at h
      exact bfN_b he ih h
    · rw [bfS_f he] at h
      have := ih _ _ _ h
      exact ⟨by omega, this.2⟩
theorem bfS_b {s : St} {q : Pl} {p k b mb : Nat} {wb : Int32} (h : bfS s q p k = some (b, mb, wb)) : b < k ∧ mb < 100 := bfS_b0 k b mb wb h
def enB (d : Int32) (o : Option (Nat × Nat × Int32)) : Int32 := match o with
  | none => d
  | some (b, _, _) => nI b
def a_best (s : St) (x : Int32) : Int32 := if ixP x (zP s) = true then enB (-2) (bfS s (zplan s) x.toNatClampNeg (zE s)) else -1
def bsN (s : St) (o : Option (Nat × Nat × Int32)) : St := match o with
  | none => s
  | some (_, mb, wb) => zsrow s (rowOf [Int32.toInt64 (nI mb), Int32.toInt64 wb])
def n_best (s : St) (x : Int32) : St := if ixP x (zP s) = true then bsN s (bfS s (zplan s) x.toNatClampNeg (zE s)) else s
theorem W_best {s : St} (hw : WF s) (x : Int32) : WF (n_best s x) := by
  unfold n_best bsN
  split
  · split
    · exact hw
    · exact WF_row hw (by show 2 ≤ 8; decide)
  · exact hw
theorem er_mz {s : St} {q : Pl} {p e : Nat} (h : erN s q p e < 100) : mnS s q p e (erN s q p e) = 0 := of_decide_eq_true (fa_first_yes (mzB s q p e) 100 h)
theorem c_rml {M : MM} {q : Pl} {t : Nat} (h0 : Sh M) (hp : PL M 14 (plAdd q t)) (hq : q.1 ≤ 12) : f_X5_removeLast 14 M = some (sI M 14 1 (nI q.1)) ∧ PL (sI M 14 1 (nI q.1)) 14 q := by
  have hO := sh_O h0 (a := 14) 5 (by decide) rfl
  refine ⟨?_, by rw [mI_w, if_pos ⟨rfl, rfl⟩], fun i hi => ?_⟩
  · unfold f_X5_removeLast f_X5_removeLast_0
    have e : mI M 14 1 = nI (q.1 + 1) := hp.1
    rw [if_pos hO, gI_k 1 hO, b1_s, e, show (1 : Int32) = nI 1 from rfl, max0 (by omega) (by decide), Nat.add_sub_cancel, pI_k 1 _ hO, b1_s]
  · rw [mI_w, if_neg (by omega), hp.2 i (by show i < q.1 + 1; omega), ad_o hi]
/-- a trip put in for a moment, its worth -/
theorem c_tryW {s : St} {M : MM} (hw : WF s) (h : RC s M) (hk : LK s (zplan s) M 18) {p e m : Nat} (hp : p < zP s) (he : e < zE s) (hm : m < 100) (hq : (zplan s).1 < 12) : ∃ M1 M2 M3, f_X5_add 14 (nI p) (nI e) (nI m) M = some M1 ∧ gI 5 1 14 M1 = some (nI ((zplan s).1 + 1)) ∧ f_X7_of 84 (nI (zplan s).1) M1 = some (worS s (plAdd (zplan s) (trp p e m)) (zplan s).1, M2) ∧ f_X5_removeLast 14 M2 = some M3 ∧ Sh M1 ∧ Sh M2 ∧ RC s M3 ∧ LK s (zplan s) M3 18 ∧ mI M3 89 = mI M 89 ∧ Fr cW M M3 := by
  have hP := hw.1.1
  have hE := hw.1.2.1
  obtain ⟨M1, e1, p1, f1, r1⟩ := c_add h.1 PA14 h.2.2.2.2.1 hq (p := p) (e := e) (m := m) (by omega) (by omega) hm
  have s1 := f1.sh' r1 h.1
  have hok := okPl_add hw.2.2.2.2.1 hq (trp_ok (by omega) (by omega) hp he hm)
  have cw1 : CW s M1 (plAdd (zplan s) (trp p e m)) := ⟨⟨s1, h.2.2.2.1.fr f1 (fun a k q => by unfold wPl; omega), hw.1, hw.2.1, PA14, p1, hok⟩, h.2.2.2.2.2.1.fr f1 (fun a k q => by unfold wPl; omega)⟩
  obtain ⟨M2, e2, f2, r2⟩ := c_of cw1 (i := (zplan s).1) (show (zplan s).1 < (zplan s).1 + 1 by omega)
  have s2 := f2.sh' r2 s1
  obtain ⟨e3, p3⟩ := c_rml s2 (p1.frw f2 (fun b k q => by unfold wEv; omega)) (by omega)
  have fr : Fr (fun a k => wPl 14 a k ∨ wEv a k) M (sI M2 14 1 (nI (zplan s).1)) := ((f1.mono (fun a k q => Or.inl q)).tr (f2.mono (fun a k q => Or.inr q))).sI (Or.inl (Or.inl rfl))
  refine ⟨M1, M2, _, e1, c_size cw1.1, e2, e3, s1, s2, h.p0 (fr.mono (fun a k q => by unfold wPl wEv at q; unfold wP0 wC; omega)) s2 p3, hk.fr fr (fun a k h1 h2 => by unfold wPl wEv; omega) hP, ?_, fr.mono (fun a k q => by unfold wPl wEv at q; unfold cW; omega)⟩
  funext k
  exact fr.2.2.1 89 k (by unfold wPl wEv; omega)
def bfI (o : Option (Nat × Nat × Int32)) (M : MM) : Prop := match o with
  | none => True
  | some (_, mb, wb) => mI M 89 8 = nI mb ∧ mI M 89 9 = wb
theorem C_best {s : St} (hw : WF s) (x : Int32) : OpC (fun M => f_X11_best 0 x M) s (a_best s x) (n_best s x) := by
  intro M h
  have h0 := h.1
  have hP := hw.1.1
  have hE := hw.1.2.1
  have h12 := hw.2.2.2.2.1.1
  show ∃ M', f_X11_best 0 x M = _ ∧ _
  unfold f_X11_best f_X11_best_0
  rw [if_pos (sh_O h0 11 (by decide) rfl), sh_R h0 (a := 0) (k := 2) (b := 5) 11 (by decide) rfl (by decide), b1_s, e_hasP hw h, b2_s]
  by_cases hc : ixP x (zP s) = true
  · obtain ⟨p, hp, rfl⟩ := ix_ex (by omega) hc
    obtain ⟨M1, e1, c1, k1, f1⟩ := c_looked hw h
    obtain ⟨r, e2, er, c2, b2', f2⟩ := lpm (fun f k N => f_X3_bestFor_4 f 89 (nI p) (enB (-1) (bfS s (zplan s) p k)) (nI k) N) (fun k N => RC s N ∧ LK s (zplan s) N 18 ∧ bfI (bfS s (zplan s) p k) N ∧ Fr cW M1 N) (fun r => r.1 = enB (-1) (bfS s (zplan s) p (zE s)) ∧ RC s r.2 ∧ bfI (bfS s (zplan s) p (zE s)) r.2 ∧ Fr cW M1 r.2) (zE s) (fun f k N hk hi => by
      left
      obtain ⟨i1, i2, i3, i4⟩ := hi
      have sN := i1.1
      have hO := sh_O sN (a := 89) 3 (by decide) rfl
      show ∃ M', f_X3_bestFor_4 (f + 1) _ _ _ _ _ = _ ∧ _
      rw [f_X3_bestFor_4, sh_R sN (a := 89) (k := 0) (b := 5) 3 (by decide) rfl (by decide), b1_s, gI_k 8 (sh_O sN 9 (by decide) rfl), b1_s, i1.2.2.2.1.2.1, if_neg (nI_ge hk (by omega)), c_soon (i1.cx hw) i2 hp hk, b2_s]
      unfold erI
      by_cases he : erN s (zplan s) p k < 100
      · have hmz := mn0 (er_mz he)
        obtain ⟨N1, N2, N3, a1, a2, a3, a4, t1, t2, c3, k3, q3, g3⟩ := c_tryW hw i1 i2 hp hk he (by omega)
        have s3 := c3.1
        have hO3 := sh_O s3 (a := 89) 3 (by decide) rfl
        rw [if_pos he, if_pos (nI_pos' (by omega)), sh_R sN (a := 89) (k := 1) (b := 14) 3 (by decide) rfl (by decide), b1_s, a1, b1_s, sh_R t1 (a := 89) (k := 3) (b := 84) 3 (by decide) rfl (by decide), b1_s, sh_R t1 (a := 89) (k := 1) (b := 14) 3 (by decide) rfl (by decide), b1_s, a2, b1_s, nS1 (by omega), Nat.add_sub_cancel, a3, b2_s, sh_R t2 (a := 89) (k := 1) (b := 14) 3 (by decide) rfl (by decide), b1_s, a4, b1_s, bfS_t he]
        have take : ∃ M', f_X3_bestFor_132 (f_X3_bestFor_4 f) 89 (nI p) (nI k) (nI (erN s (zplan s) p k)) (bfW s (zplan s) p k) N3 = f_X3_bestFor_4 f 89 (nI p) (nI k) (nI (k + 1)) M' ∧ RC s M' ∧ LK s (zplan s) M' 18 ∧ (mI M' 89 8 = nI (erN s (zplan s) p k) ∧ mI M' 89 9 = bfW s (zplan s) p k) ∧ Fr cW M1 M' := by
          have fa : Fr (fun a j => a = 89) N3 (sI (sI N3 89 8 (nI (erN s (zplan s) p k))) 89 9 (bfW s (zplan s) p k)) := ((Fr.rf (W := fun a j => a = 89) N3).sI rfl).sI rfl
          refine ⟨_, ?_, c3.fr (fa.mono (fun a j q => by unfold wC; omega)) s3, k3.fr fa (fun a j h1 h2 => by omega) hP, ⟨by rw [mI_w, if_neg (by omega), mI_w, if_pos ⟨rfl, rfl⟩], by rw [mI_w, if_pos ⟨rfl, rfl⟩]⟩, (i4.tr g3).tr (fa.mono (fun a j q => by unfold cW; omega))⟩
          unfold f_X3_bestFor_132 f_X3_bestFor_146
          rw [pI_k 8 _ hO3, b1_s, pI_k 9 _ (show isO 3 89 (sI N3 89 8 (nI (erN s (zplan s) p k))) = true from hO3), b1_s, bn_s, nI_1]
        cases hb : bfS s (zplan s) p k with
        | none =>
          obtain ⟨M', z1, z2, z3, z4, z5⟩ := take
          refine ⟨M', ?_, z2, z3, z4, z5⟩
          unfold f_X3_bestFor_111 f_X3_bestFor_112
          rw [if_pos (show enB (-1) none < 0 by decide), if_pos (show enB (-1) none < 0 by decide)]
          exact z1
        | some v =>
          obtain ⟨b, mb, wb⟩ := v
          have hbb := bfS_b hb
          rw [hb] at i3
          obtain ⟨v8, v9⟩ := i3
          have v8' : mI N3 89 8 = nI mb := by rw [q3]; exact v8
          have v9' : mI N3 89 9 = wb := by rw [q3]; exact v9
          have bl : ∀ e, e < zE s → zlen s e ≤ 27 := fun e he => by have := hw.2.1.2.1 e he; unfold zlen; omega
          have bl1 := bl k hk
          have bl2 := bl b (by omega)
          have k112 : ∀ z : Bool, (z = true ↔ bfW s (zplan s) p k = wb ∧ erN s (zplan s) p k + zlen s k < mb + zlen s b) → ∃ M', f_X3_bestFor_112 (f_X3_bestFor_4 f) 89 (nI p) (nI b) (nI k) (nI (erN s (zplan s) p k)) (bfW s (zplan s) p k) (bI z) N3 = f_X3_bestFor_4 f 89 (nI p) (enB (-1) (bfN s (zplan s) p k (some (b, mb, wb)))) (nI (k + 1)) M' ∧ RC s M' ∧ LK s (zplan s) M' 18 ∧ bfI (bfN s (zplan s) p k (some (b, mb, wb))) M' ∧ Fr cW M1 M' := by
            intro z hz
            unfold f_X3_bestFor_112 f_X3_bestFor_146
            rw [if_neg (nI_pos (by omega)), gI_k 9 hO3, b1_s, v9']
            have yes : (wb < bfW s (zplan s) p k ∨ (bfW s (zplan s) p k = wb ∧ erN s (zplan s) p k + zlen s k < mb + zlen s b)) → bfN s (zplan s) p k (some (b, mb, wb)) = some (k, erN s (zplan s) p k, bfW s (zplan s) p k) := fun g => if_pos g
            have no : ¬ (wb < bfW s (zplan s) p k ∨ (bfW s (zplan s) p k = wb ∧ erN s (zplan s) p k + zlen s k < mb + zlen s b)) → bfN s (zplan s) p k (some (b, mb, wb)) = some (b, mb, wb) := fun g => if_neg g
            by_cases hw1 : wb < bfW s (zplan s) p k
            · rw [if_pos hw1, yes (Or.inl hw1)]
              exact take
            · rw [if_neg hw1]
              cases z with
              | true => rw [if_neg (show ¬ bI true = 0 by decide), yes (Or.inr (hz.mp rfl))]; exact take
              | false =>
                rw [if_pos (show bI false = 0 from rfl), bn_s, nI_1, no (fun g => by rcases g with g | g; exact hw1 g; have := hz.mpr g; cases this)]
                exact ⟨N3, rfl, c3, k3, ⟨v8', v9'⟩, i4.tr g3⟩
          unfold f_X3_bestFor_111
          show ∃ M', (if nI b < 0 then _ else _) = _ ∧ _
          rw [if_neg (nI_pos (by omega)), gI_k 9 hO3, b1_s, v9']
          by_cases heq : bfW s (zplan s) p k = wb
          · have heq' : worS s (plAdd (zplan s) (trp p k (erN s (zplan s) p k))) (zplan s).1 = wb := heq
            rw [if_pos heq', sh_R s3 (a := 89) (k := 0) (b := 5) 3 (by decide) rfl (by decide), b1_s, e_len s3 c3.2.2.2.1 hw.1 hk, b2_s, gI_k 8 hO3, b1_s, v8', sh_R s3 (a := 89) (k := 0) (b := 5) 3 (by decide) rfl (by decide), b1_s]
            show ∃ M', b2 (f_X9_length 5 (nI b) N3) _ = _ ∧ _
            rw [e_len s3 c3.2.2.2.1 hw.1 (show b < zE s by omega), b2_s, nI_add, nI_add]
            by_cases hl : erN s (zplan s) p k + zlen s k < mb + zlen s b
            · rw [if_neg (nI_ge hl (by omega))]
              exact k112 true ⟨fun _ => ⟨heq, hl⟩, fun _ => rfl⟩
            · rw [if_pos (nI_le (by omega) (by omega))]
              exact k112 false ⟨(fun g => by cases g), fun g => absurd g.2 hl⟩
          · have heq' : ¬ worS s (plAdd (zplan s) (trp p k (erN s (zplan s) p k))) (zplan s).1 = wb := heq
            rw [if_neg heq']
            exact k112 false ⟨(fun g => by cases g), fun g => absurd g.1 heq⟩
      · rw [if_neg he, if_neg (by decide), bfS_f he]
        unfold f_X3_bestFor_146
        rw [bn_s, nI_1]
        exact ⟨N, rfl, i1, i2, i3, i4⟩) (fun f N hi => by
      have sN := hi.1.1
      refine ⟨(enB (-1) (bfS s (zplan s) p (zE s)), N), ?_, rfl, hi.1, hi.2.2.1, hi.2.2.2⟩
      show f_X3_bestFor_4 (f + 1) _ _ _ _ _ = _
      rw [f_X3_bestFor_4, sh_R sN (a := 89) (k := 0) (b := 5) 3 (by decide) rfl (by decide), b1_s, gI_k 8 (sh_O sN 9 (by decide) rfl), b1_s, hi.1.2.2.2.1.2.1, if_pos (nI_le (Nat.le_refl _) (by omega))]) 1024 0 M1 (by omega) (by omega) ⟨c1, k1, trivial, Fr.rf M1⟩
    have eb : f_X3_bestFor 89 (nI p) M1 = some r := by
      unfold f_X3_bestFor f_X3_bestFor_0
      rw [if_pos (sh_O c1.1 3 (by decide) rfl)]
      have : f_X3_bestFor_4 1024 89 (nI p) (-1) (nI 0) M1 = some r := e2
      rw [nI_0] at this
      exact this
    obtain ⟨r1, N⟩ := r
    have er' : r1 = enB (-1) (bfS s (zplan s) p (zE s)) := er
    have c2' : RC s N := c2
    have b2'' : bfI (bfS s (zplan s) p (zE s)) N := b2'
    have f2' : Fr cW M1 N := f2
    rw [if_pos hc, if_neg (by decide), sh_R h0 (a := 0) (k := 5) (b := 18) 11 (by decide) rfl (by decide), b1_s, e1, b1_s, sh_R c1.1 (a := 0) (k := 8) (b := 89) 11 (by decide) rfl (by decide), b1_s, eb, b2_s, er', show a_best s (nI p) = enB (-2) (bfS s (zplan s) p (zE s)) by unfold a_best; rw [if_pos hc, nI_clamp (by omega)], show n_best s (nI p) = bsN s (bfS s (zplan s) p (zE s)) by unfold n_best; rw [if_pos hc, nI_clamp (by omega)]]
    cases hb : bfS s (zplan s) p (zE s) with
    | none =>
      rw [if_neg (show ¬ (0 : Int32) ≤ enB (-1) none by decide)]
      exact ⟨N, rfl, c2', f1.tr f2'⟩
    | some v =>
      obtain ⟨b, mb, wb⟩ := v
      have hbb := bfS_b hb
      rw [hb] at b2''
      obtain ⟨v8, v9⟩ := b2''
      obtain ⟨M3, e3, w3, f3, r3⟩ := c_two c2'.1 (Int32.toInt64 (nI mb)) (Int32.toInt64 wb)
      have R8 := sh_R c2'.1 (a := 0) (k := 8) (b := 89) 11 (by decide) rfl (by decide)
      have hO := sh_O c2'.1 (a := 89) 3 (by decide) rfl
      refine ⟨M3, ?_, c2'.row f3 r3 w3, (f1.tr f2').tr (wRow_cW f3)⟩
      show (if (0 : Int32) ≤ nI b then _ else _) = _
      rw [if_pos (nI_pos' (by omega)), sh_R c2'.1 (a := 0) (k := 1) (b := 3) 11 (by decide) rfl (by decide), b1_s, R8, b1_s, gI_k 8 hO, b1_s, v8, b1_s, gI_k 9 hO, b1_s, v9, e3, b1_s]
      rfl
  · rw [show a_best s x = -1 from if_neg hc, show n_best s x = s from if_neg hc, if_neg hc, if_pos rfl]
    exact ⟨M, rfl, h, Fr.rf M⟩
def enM (o : Option (Nat × Nat × Int32)) : Int32 := match o with
  | none => 0
  | some (_, mb, _) => nI mb
def enW (o : Option (Nat × Nat × Int32)) : Int32 := match o with
  | none => 0
  | some (_, _, wb) => wb
theorem R_best {s : St} (hw : WF s) (x : Int32) : OpR (fun M => f_X12_best 143 x M) s (a_best s x) (n_best s x) := by
  intro M h
  obtain ⟨N, et, ht, ft, rt, t0, l0⟩ := r_thr0 h
  have hP := hw.1.1
  have hE := hw.1.2.1
  have h12 := hw.2.2.2.2.1.1
  show ∃ M', f_X12_best 143 x M = _ ∧ _
  unfold f_X12_best f_X12_best_0
  rw [if_pos (sh_O h.1 12 (by decide) rfl), et, b1_s, e_isP hw ht, b2_s]
  by_cases hc : ixP x (zP s) = true
  · obtain ⟨p, hp, rfl⟩ := ix_ex (by omega) hc
    rw [if_pos hc, if_neg (by decide), show a_best s (nI p) = enB (-2) (bfS s (zplan s) p (zE s)) by unfold a_best; rw [if_pos hc, nI_clamp (by omega)], show n_best s (nI p) = bsN s (bfS s (zplan s) p (zE s)) by unfold n_best; rw [if_pos hc, nI_clamp (by omega)]]
    obtain ⟨r, e2, er, c2, f2, q2⟩ := lpm (fun f k N' => f_X12_best_26 f 143 (nI p) (enB (-2) (bfS s (zplan s) p k)) (enW (bfS s (zplan s) p k)) (enM (bfS s (zplan s) p k)) (nI k) N') (fun k N' => RR s N' ∧ Fr rW N N' ∧ mR N' = mR N) (fun r => r.1 = enB (-2) (bfS s (zplan s) p (zE s)) ∧ RR (bsN s (bfS s (zplan s) p (zE s))) r.2 ∧ Fr rW N r.2 ∧ mR r.2 = mR N) (zE s) (fun f k N' hk hi => by
      left
      obtain ⟨⟨r1, N1⟩, e1, er, c1, f1, q1⟩ := r_soon hw hi.1 hp hk
      have er' : r1 = erI s (zplan s) p k (-2) := er
      have f1' : Fr rW N' N1 := f1.mono (fun a j q => by unfold rW; omega)
      show ∃ M', f_X12_best_26 (f + 1) _ _ _ _ _ _ _ = _ ∧ _
      rw [f_X12_best_26, gI_k 4 (sh_O hi.1.1 12 (by decide) rfl), b1_s, hi.1.2.2.2.1.2.1, if_neg (nI_ge hk (by omega)), e1, b2_s, er']
      unfold erI
      by_cases he : erN s (zplan s) p k < 100
      · obtain ⟨N2, N3, e2, e3, s2, x3, c3, f3, q3⟩ := r_then hw c1 hp hk he
        have s3 := c3.1
        obtain ⟨⟨r4, N4⟩, e4, er4, f4, q4⟩ := r_worth (s := s) (a := 154) ⟨x3, c3.2.2.2.2.2.1⟩ (i := (zplan s).1) (show (zplan s).1 < (zplan s).1 + 1 by omega)
        have er4' : r4 = bfW s (zplan s) p k := er4
        have f4' : Fr wStk N3 N4 := f4
        have q4' : mR N4 = mR N3 := q4
        have c4 : RR s N4 := c3.fr (wStk_wR f4') (f4'.sh' q4' s3)
        have s4 := c4.1
        have frr : Fr rW N N4 := ((hi.2.1.tr f1').tr (f3.mono (fun a j q => by unfold rW; omega))).tr (wStk_rW f4')
        have qrr : mR N4 = mR N := q4'.trans (q3.trans (q1.trans hi.2.2))
        rw [if_pos he, if_neg (nI_pos (by omega)), sh_R c1.1 (a := 143) (k := 15) (b := 153) 12 (by decide) rfl (by decide), b1_s, sh_R c1.1 (a := 143) (k := 16) (b := 154) 12 (by decide) rfl (by decide), b1_s, e2, b1_s, sh_R s2 (a := 143) (k := 16) (b := 154) 12 (by decide) rfl (by decide), b1_s, e3, b1_s, sh_R s3 (a := 143) (k := 16) (b := 154) 12 (by decide) rfl (by decide), b1_s, b1_s, r_size x3, b1_s]
        show ∃ M', b2 (f_X12_worthOf 143 154 (nI ((zplan s).1 + 1) - 1) N3) _ = _ ∧ _
        rw [nS1 (by omega), Nat.add_sub_cancel, e4, b2_s, er4', bfS_t he]
        have tk : f_X12_best_127 (f_X12_best_26 f) 143 (nI p) (nI k) (nI (erN s (zplan s) p k)) (bfW s (zplan s) p k) N4 = f_X12_best_26 f 143 (nI p) (nI k) (bfW s (zplan s) p k) (nI (erN s (zplan s) p k)) (nI (k + 1)) N4 := by
          unfold f_X12_best_127 f_X12_best_137
          rw [bn_s, nI_1]
        cases hb : bfS s (zplan s) p k with
        | none =>
          rw [if_pos (show enB (-2) none < 0 by decide), tk]
          exact ⟨N4, rfl, c4, frr, qrr⟩
        | some v =>
          obtain ⟨b, mb, wb⟩ := v
          have hbb := bfS_b hb
          have bl : ∀ e, e < zE s → zlen s e ≤ 27 := fun e he => by have := hw.2.1.2.1 e he; unfold zlen; omega
          have bl1 := bl k hk
          have bl2 := bl b (by omega)
          have yes : (wb < bfW s (zplan s) p k ∨ (bfW s (zplan s) p k = wb ∧ erN s (zplan s) p k + zlen s k < mb + zlen s b)) → bfN s (zplan s) p k (some (b, mb, wb)) = some (k, erN s (zplan s) p k, bfW s (zplan s) p k) := fun g => if_pos g
          have no : ¬ (wb < bfW s (zplan s) p k ∨ (bfW s (zplan s) p k = wb ∧ erN s (zplan s) p k + zlen s k < mb + zlen s b)) → bfN s (zplan s) p k (some (b, mb, wb)) = some (b, mb, wb) := fun g => if_neg g
          show ∃ M', (if nI b < 0 then _ else if wb < bfW s (zplan s) p k then _ else if bfW s (zplan s) p k = wb then _ else _) = _ ∧ _
          rw [if_neg (nI_pos (by omega))]
          by_cases hw1 : wb < bfW s (zplan s) p k
          · rw [if_pos hw1, yes (Or.inl hw1), tk]
            exact ⟨N4, rfl, c4, frr, qrr⟩
          · rw [if_neg hw1]
            by_cases heq : bfW s (zplan s) p k = wb
            · rw [if_pos heq, e_along s4 c4.2.2.2.1 hw.1 hk, b2_s]
              show ∃ M', b2 (f_X12_awayLong 143 (nI b) N4) (fun r20 M19 => if nI mb + r20 ≤ nI (erN s (zplan s) p k) + nI (zlen s k) then _ else _) = _ ∧ _
              rw [e_along s4 c4.2.2.2.1 hw.1 (show b < zE s by omega), b2_s, nI_add, nI_add]
              by_cases hl : erN s (zplan s) p k + zlen s k < mb + zlen s b
              · rw [if_neg (nI_ge hl (by omega)), yes (Or.inr ⟨heq, hl⟩), tk]
                exact ⟨N4, rfl, c4, frr, qrr⟩
              · rw [if_pos (nI_le (by omega) (by omega)), no (fun g => by rcases g with g | g; exact hw1 g; exact hl g.2)]
                refine ⟨N4, ?_, c4, frr, qrr⟩
                unfold f_X12_best_137
                rw [bn_s, nI_1]
            · rw [if_neg heq, no (fun g => by rcases g with g | g; exact hw1 g; exact heq g.1)]
              refine ⟨N4, ?_, c4, frr, qrr⟩
              unfold f_X12_best_137
              rw [bn_s, nI_1]
      · rw [if_neg he, if_pos (by decide), bfS_f he]
        refine ⟨N1, ?_, c1, hi.2.1.tr f1', q1.trans hi.2.2⟩
        unfold f_X12_best_137
        rw [bn_s, nI_1]) (fun f N' hi => by
      show ∃ r, f_X12_best_26 (f + 1) _ _ _ _ _ _ _ = _ ∧ _
      rw [f_X12_best_26, gI_k 4 (sh_O hi.1.1 12 (by decide) rfl), b1_s, hi.1.2.2.2.1.2.1, if_pos (nI_le (Nat.le_refl _) (by omega))]
      cases hb : bfS s (zplan s) p (zE s) with
      | none =>
        rw [if_neg (show ¬ (0 : Int32) ≤ enB (-2) none by decide)]
        exact ⟨_, rfl, rfl, hi⟩
      | some v =>
        obtain ⟨b, mb, wb⟩ := v
        have hbb := bfS_b hb
        obtain ⟨M1, M2, M3, e1, e2, e3, c3, f3, r3⟩ := r_two' hi.1 (Int32.toInt64 (nI mb)) (Int32.toInt64 wb)
        refine ⟨(nI b, M3), ?_, rfl, c3, hi.2.1.tr (wRoR_rW f3), r3.trans hi.2.2⟩
        show (if (0 : Int32) ≤ nI b then _ else _) = _
        rw [if_pos (nI_pos' (by omega)), e1, b1_s]
        show b1 (f_X12_enters 143 (Int32.toInt64 (nI mb)) M1) _ = _
        rw [e2, b1_s]
        show b1 (f_X12_enters 143 (Int32.toInt64 wb) M2) _ = _
        rw [e3, b1_s]
        rfl) 1024 0 N (by omega) (by omega) ⟨ht, Fr.rf N, rfl⟩
    refine ⟨r.2, ?_, c2, ft.tr f2, q2.trans rt⟩
    have e2' : f_X12_best_26 1024 143 (nI p) (-2) 0 0 (nI 0) N = some r := e2
    rw [nI_0] at e2'
    exact e2'.trans (by rw [← er])
  · rw [show a_best s x = -1 from if_neg hc, show n_best s x = s from if_neg hc, if_neg hc, if_pos rfl]
    exact ⟨N, rfl, ht, ft, rt⟩
theorem case_27 : CaseOK g_L_27 := by
  intro L xs j K M hL hj hc
  obtain ⟨s, hw, hc, hr⟩ := hc
  obtain ⟨M1, M2, hcp, e1, e2⟩ := asm (C_best hw (xs (j + 1))) (R_best hw (xs (j + 1))) (W_best hw (xs (j + 1))) hc hr
  refine ⟨M2, hcp, ?_⟩
  unfold g_L_27
  simp only [show (nI j + 1 : Int32) = nI (j + 1) from nI_add _ 1, show (nI j + 2 : Int32) = nI (j + 2) from nI_add _ 2, show (nI j + 3 : Int32) = nI (j + 3) from nI_add _ 3, show (nI j + 4 : Int32) = nI (j + 4) from nI_add _ 4, scr_k (show j + 1 < L by omega) hL, scr_k (show j + 2 < L by omega) hL, scr_k (show j + 3 < L by omega) hL, scr_k (show j + 4 < L by omega) hL, b1_s, e1, e2, b2_s, if_true]

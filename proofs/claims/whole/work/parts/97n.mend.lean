/-! mend: plans without some trips -/
def woR (q : Pl) : List Nat → Pl
  | [] => q
  | d :: ds => woR (plRem q d) ds
def dsc (n : Nat) : List Nat → Prop
  | [] => True
  | d :: ds => d < n ∧ dsc d ds
theorem dsc_le : ∀ {l : List Nat} {n m : Nat}, dsc n l → n ≤ m → dsc m l
  | [], _, _, _, _ => trivial
  | _ :: _, _, _, h, hm => ⟨Nat.lt_of_lt_of_le h.1 hm, h.2⟩
theorem dsc_lt : ∀ {l : List Nat} {n d : Nat}, dsc n l → d ∈ l → d < n
  | [], _, _, _, g => by cases g
  | a :: l, n, d, h, g => by
    rcases List.mem_cons.mp g with g | g
    · rw [g]; exact h.1
    · exact Nat.lt_trans (dsc_lt h.2 g) h.1
theorem okPl_wo {P E : Nat} : ∀ {l : List Nat} {q : Pl}, okPl P E q → okPl P E (woR q l)
  | [], _, h => h
  | d :: l, q, h => okPl_wo (l := l) (q := plRem q d) (okPl_rem h)
def mem (l : List Nat) (j : Nat) : Bool := decide (j ∈ l)
theorem mem_n (j : Nat) : mem [] j = false := decide_eq_false (fun g => by cases g)
theorem mem_c (d : Nat) (l : List Nat) (j : Nat) : mem (d :: l) j = (decide (j = d) || mem l j) := by
  unfold mem
  by_cases h : j = d <;> by_cases g : j ∈ l <;> simp [h, g]
theorem mem_f {l : List Nat} {n j : Nat} (h : dsc n l) (hj : n ≤ j) : mem l j = false := decide_eq_false (fun g => by have := dsc_lt h g; omega)
def flt (q : Pl) (S : Nat → Bool) : Nat → Pl
  | 0 => (0, fun _ => 0)
  | k + 1 => if S k = true then flt q S k else plAdd (flt q S k) (q.2 k)
theorem flt_c {q q' : Pl} {S S' : Nat → Bool} : ∀ {k : Nat}, (∀ j, j < k → S j = S' j ∧ q.2 j = q'.2 j) → flt q S k = flt q' S' k
  | 0, _ => rfl
  | k + 1, h => by
    have ih := flt_c (k := k) (fun j hj => h j (by omega))
    have := h k (by omega)
    show (if S k = true then flt q S k else plAdd (flt q S k) (q.2 k)) = (if S' k = true then flt q' S' k else plAdd (flt q' S' k) (q'.2 k))
    rw [ih, this.1, this.2]
theorem flt_le (q : Pl) (S : Nat → Bool) : ∀ k, (flt q S k).1 ≤ k
  | 0 => Nat.le_refl _
  | k + 1 => by
    have ih := flt_le q S k
    show (if S k = true then flt q S k else plAdd (flt q S k) (q.2 k)).1 ≤ k + 1
    split
    · omega
    · show (flt q S k).1 + 1 ≤ k + 1; omega
def EqP (x y : Pl) : Prop := x.1 = y.1 ∧ ∀ i, i < x.1 → x.2 i = y.2 i
theorem flt_0 (q : Pl) : ∀ k, EqP (k, q.2) (flt q (mem []) k)
  | 0 => ⟨rfl, fun i hi => by have : i < 0 := hi; omega⟩
  | k + 1 => by
    have ih := flt_0 q k
    have e : flt q (mem []) (k + 1) = plAdd (flt q (mem []) k) (q.2 k) := by
      show (if mem [] k = true then flt q (mem []) k else plAdd (flt q (mem []) k) (q.2 k)) = _
      rw [mem_n]; rfl
    have h1 : k = (flt q (mem []) k).1 := ih.1
    rw [e]
    refine ⟨congrArg (· + 1) h1, fun i hi => ?_⟩
    have hi' : i < k + 1 := hi
    show q.2 i = if i = (flt q (mem []) k).1 then q.2 k else (flt q (mem []) k).2 i
    by_cases hc : i = k
    · rw [if_pos (hc.trans h1), hc]
    · rw [if_neg (fun g => hc (g.trans h1.symm))]
      exact ih.2 i (by show i < k; omega)
theorem flt_rem (q : Pl) {d : Nat} {l : List Nat} (h : dsc d l) : ∀ k, d ≤ k → flt q (mem (d :: l)) (k + 1) = flt (plRem q d) (mem l) k := by
  intro k
  induction k with
  | zero =>
    intro hk
    show (if mem (d :: l) 0 = true then _ else _) = _
    rw [if_pos (by rw [mem_c, decide_eq_true (show 0 = d by omega)]; rfl)]
    rfl
  | succ k ih =>
    intro hk
    by_cases hc : d = k + 1
    · show (if mem (d :: l) (k + 1) = true then _ else _) = _
      rw [if_pos (by rw [mem_c, decide_eq_true hc.symm]; rfl)]
      refine flt_c (fun j hj => ⟨?_, ?_⟩)
      · rw [mem_c, decide_eq_false (by omega), Bool.false_or]
      · show _ = if j < d then q.2 j else q.2 (j + 1)
        rw [if_pos (by omega)]
    · have ih := ih (by omega)
      show (if mem (d :: l) (k + 1) = true then _ else plAdd (flt q (mem (d :: l)) (k + 1)) (q.2 (k + 1))) = (if mem l k = true then _ else plAdd (flt (plRem q d) (mem l) k) (if k < d then q.2 k else q.2 (k + 1)))
      rw [mem_c, decide_eq_false (by omega), Bool.false_or, mem_f h (show d ≤ k + 1 by omega), mem_f h (show d ≤ k by omega), if_neg (by decide), if_neg (by decide), if_neg (show ¬ k < d by omega), ih]
theorem wo_flt : ∀ {l : List Nat} {q : Pl}, dsc q.1 l → EqP (woR q l) (flt q (mem l) q.1)
  | [], q, _ => flt_0 q q.1
  | d :: l, q, h => by
    have h1 := h.1
    have ih := wo_flt (l := l) (q := plRem q d) (dsc_le h.2 (by show d ≤ q.1 - 1; omega))
    have e : flt (plRem q d) (mem l) (q.1 - 1) = flt q (mem (d :: l)) q.1 := by
      have := flt_rem q h.2 (q.1 - 1) (by omega)
      rw [show q.1 - 1 + 1 = q.1 by omega] at this
      exact this.symm
    have ih' : EqP (woR q (d :: l)) (flt (plRem q d) (mem l) (q.1 - 1)) := ih
    rw [e] at ih'
    exact ih'
theorem PL.eq {M : MM} {a : Nat} {x y : Pl} (h : PL M a y) (e : EqP x y) : PL M a x := ⟨by rw [e.1]; exact h.1, fun i hi => by rw [e.2 i hi]; exact h.2 i (by rw [← e.1]; exact hi)⟩
theorem bit_t {x : Int32} {p : Nat} (hp : p < 32) : (x >>> (nI p &&& 31)) &&& 1 = bI (bt x p) := by
  refine b_ext (fun i hi => ?_)
  rw [b_and, b_1, b_sshr p (by omega) _ hi]
  by_cases h0 : i = 0
  · subst h0
    rw [if_pos (by omega), Nat.add_zero, decide_eq_true rfl, Bool.and_true]
    cases bt x p <;> decide
  · rw [decide_eq_false h0, Bool.and_false]
    cases bt x p
    · exact (b_0 i).symm
    · rw [bI_t, b_1, decide_eq_false h0]
def MK (x : Int32) (l : List Nat) : Prop := ∀ i, i < 32 → bt x i = mem l i
theorem c_cw {M : MM} {q : Pl} (h0 : Sh M) (hp : PL M 14 q) (hq : q.1 ≤ 12) {x : Int32} {l : List Nat} (hx : MK x l) (hl : dsc q.1 l) : ∃ M', f_X5_copyWithout 16 14 x M = some M' ∧ PL M' 16 (woR q l) ∧ Fr (wPl 16) M M' ∧ mR M' = mR M := by
  have h14 : ∀ N, Fr (wPl 16) M N → PL N 14 q := fun N f => hp.frw f (fun b k g => by unfold wPl; omega)
  obtain ⟨N, e, p, f, r⟩ := lpm (fun f k N => f_X5_copyWithout_7 f 16 14 x (nI k) N) (fun k N => PL N 16 (flt q (mem l) k) ∧ Fr (wPl 16) M N ∧ mR N = mR M) (fun N => PL N 16 (flt q (mem l) q.1) ∧ Fr (wPl 16) M N ∧ mR N = mR M) q.1 (fun f k N hk hi => by
      left
      obtain ⟨i1, i2, i3⟩ := hi
      have sN := i2.sh' i3 h0
      have p14 := h14 N i2
      have hle := flt_le q (mem l) k
      show ∃ M', f_X5_copyWithout_7 (f + 1) _ _ _ _ _ = _ ∧ _
      rw [f_X5_copyWithout_7, gI_k 1 (pa_O sN PA14), b1_s, p14.1, if_neg (nI_ge hk (by omega)), bit_t (by omega), hx k (by omega)]
      unfold f_X5_copyWithout_48
      have es : flt q (mem l) (k + 1) = if mem l k = true then flt q (mem l) k else plAdd (flt q (mem l) k) (q.2 k) := rfl
      rw [es]
      cases mem l k with
      | true => 
        rw [if_neg (show ¬ bI true = 0 by decide), if_pos rfl, bn_s, nI_1]
        exact ⟨N, rfl, i1, i2, i3⟩
      | false =>
        have hl12 : (flt q (mem l) k).1 < 12 := by omega
        rw [if_pos (show bI false = 0 from rfl), if_neg (by decide), pa_R sN PA16, b1_s, gI_k 1 (pa_O sN PA16), b1_s, i1.1, pa_R sN PA14, b1_s, pa_ld sN PA14 (by omega), b1_s, p14.2 k hk, pa_st sN PA16 _ hl12, b1_s, gI_k 1 (show isO 5 16 (sI N 17 (flt q (mem l) k).1 (nI (q.2 k))) = true from pa_O sN PA16), b1_s, mI_w, if_neg (by omega), i1.1, nI_1, pI_k 1 _ (show isO 5 16 (sI N 17 (flt q (mem l) k).1 (nI (q.2 k))) = true from pa_O sN PA16), b1_s, bn_s, nI_1]
        refine ⟨_, rfl, ⟨by rw [mI_w, if_pos ⟨rfl, rfl⟩]; rfl, fun i hi => ?_⟩, ?_, i3⟩
        · have hi' : i < (flt q (mem l) k).1 + 1 := hi
          show _ = nI (if i = (flt q (mem l) k).1 then q.2 k else (flt q (mem l) k).2 i)
          rw [mI_w, if_neg (by omega), mI_w]
          by_cases hc : i = (flt q (mem l) k).1
          · rw [if_pos ⟨rfl, hc⟩, if_pos hc]
          · rw [if_neg (fun g => hc g.2), if_neg hc]
            exact i1.2 i (by omega)
        · have f1 : Fr (wPl 16) N (sI (sI N 17 (flt q (mem l) k).1 (nI (q.2 k))) 16 1 (nI ((flt q (mem l) k).1 + 1))) := ((Fr.rf N).sI (Or.inr rfl)).sI (Or.inl rfl)
          exact i2.tr f1) (fun f N hi => by
      have sN := hi.2.1.sh' hi.2.2 h0
      refine ⟨N, ?_, hi⟩
      show f_X5_copyWithout_7 (f + 1) _ _ _ _ _ = _
      rw [f_X5_copyWithout_7, gI_k 1 (pa_O sN PA14), b1_s, (h14 N hi.2.1).1, if_pos (nI_le (Nat.le_refl _) (by omega))]) 1024 0 (sI M 16 1 0) (by omega) (by omega) ⟨⟨by rw [mI_w, if_pos ⟨rfl, rfl⟩]; rfl, fun i hi => by have : i < 0 := hi; omega⟩, (Fr.rf M).sI (Or.inl rfl), rfl⟩
  refine ⟨N, ?_, p.eq (wo_flt hl), f, r⟩
  unfold f_X5_copyWithout f_X5_copyWithout_0
  rw [if_pos (pa_O h0 PA16), pI_k 1 _ (pa_O h0 PA16), b1_s]
  exact e
/-! is it sound -/
def finB (s : St) (q : Pl) : Bool := !anyB (fun i => decide (whyS s q i ≠ 0)) q.1 && !anyB (fun m => !watB s q m) (zT s)
theorem c_snd {s : St} {M : MM} (hw : WF s) (h : RC s M) {x : Int32} {l : List Nat} (hx : MK x l) (hl : dsc (zplan s).1 l) : ∃ M', f_X11_isSoundWithout 0 x M = some (bI (finB s (woR (zplan s) l)), M') ∧ RC s M' ∧ Fr cW M M' := by
  have h0 := h.1
  have hT := hw.1.2.2.2.1
  have okw : okPl (zP s) (zE s) (woR (zplan s) l) := okPl_wo hw.2.2.2.2.1
  obtain ⟨M1, e1, p1, f1, r1⟩ := c_cw h0 h.2.2.2.2.1 hw.2.2.2.2.1.1 hx hl
  have s1 := f1.sh' r1 h0
  have c1 : RC s M1 := h.fr (f1.mono (fun a k q => by unfold wPl at q; unfold wC; omega)) s1
  have x1 : CX s M1 16 (woR (zplan s) l) := ⟨s1, c1.2.2.2.1, hw.1, hw.2.1, PA16, p1, okw⟩
  obtain ⟨M2, e2, k2, f2⟩ := c_look x1 (Or.inr ⟨rfl, rfl⟩)
  have f2' := f2.fr
  have s2 := f2.sh s1
  have c2 : RC s M2 := c1.fr (f2'.mono (fun a k q => by unfold wL at q; unfold wC; omega)) s2
  have x2 : CX s M2 16 (woR (zplan s) l) := ⟨s2, c2.2.2.2.1, hw.1, hw.2.1, PA16, p1.frw f2' (fun b k q => by unfold wL; omega), okw⟩
  have R6 := sh_R s2 (a := 0) (k := 6) (b := 51) 11 (by decide) rfl (by decide)
  refine ⟨M2, ?_, c2, (f1.mono (fun a k q => by unfold wPl at q; unfold cW; omega)).tr (f2'.mono (fun a k q => by unfold wL at q; unfold cW; omega))⟩
  unfold f_X11_isSoundWithout f_X11_isSoundWithout_0
  rw [if_pos (sh_O h0 11 (by decide) rfl), sh_R h0 (a := 0) (k := 4) (b := 16) 11 (by decide) rfl (by decide), b1_s, sh_R h0 (a := 0) (k := 3) (b := 14) 11 (by decide) rfl (by decide), b1_s, e1, b1_s, sh_R s1 (a := 0) (k := 6) (b := 51) 11 (by decide) rfl (by decide), b1_s, e2, b1_s, R6, b1_s, sh_R s2 (a := 51) (k := 5) (b := 55) 1 (by decide) rfl (by decide), b1_s, m_empty (sh_O s2 2 (by decide) rfl) k2.2.1, b2_s]
  have eb : anyB (baF s (woR (zplan s) l) (zP s)) 128 = anyB (fun m => !watB s (woR (zplan s) l) m) (zT s) := by
    rw [Bool.eq_iff_iff, anyB_iff, anyB_iff]
    constructor
    · rintro ⟨k, hk, g⟩
      rw [ba_wat, Bool.and_eq_true] at g
      exact ⟨k, of_decide_eq_true g.1, g.2⟩
    · rintro ⟨k, hk, g⟩
      refine ⟨k, by omega, ?_⟩
      rw [ba_wat, Bool.and_eq_true]
      exact ⟨decide_eq_true hk, g⟩
  rw [eb]
  unfold finB
  cases anyB (fun m => !watB s (woR (zplan s) l) m) (zT s) with
  | true =>
    rw [if_pos (show bI (!true) = 0 from rfl), show (0 : Int32) = bI false from rfl, rz_b, Bool.not_true, Bool.and_false]
  | false =>
    rw [if_neg (show ¬ bI (!false) = 0 by decide), Bool.not_false, Bool.and_true]
    have key : f_X11_isSoundWithout_36 1024 0 (nI 0) M2 = some (bI (!anyB (fun i => decide (whyS s (woR (zplan s) l) i ≠ 0)) (woR (zplan s) l).1), M2) := lpi (fun f k => f_X11_isSoundWithout_36 f 0 (nI k) M2) (fun k => anyB (fun i => decide (whyS s (woR (zplan s) l) i ≠ 0)) k = false) (woR (zplan s) l).1 _ (fun f k hk hi => by
      show (f_X11_isSoundWithout_36 (f + 1) _ _ _ = _ ∧ _) ∨ f_X11_isSoundWithout_36 (f + 1) _ _ _ = _
      have hsz := okw.1
      have hwy := whyS_lt s (woR (zplan s) l) k
      rw [f_X11_isSoundWithout_36, sh_R s2 (a := 0) (k := 4) (b := 16) 11 (by decide) rfl (by decide), b1_s, c_size x2, b1_s, if_neg (nI_ge hk (by omega)), R6, b1_s, c_why x2 (Or.inr ⟨rfl, rfl⟩) hk, b2_s]
      by_cases hz : whyS s (woR (zplan s) l) k = 0
      · left
        rw [hz, if_pos (by decide), bn_s, nI_1]
        exact ⟨rfl, by rw [anyB, hi, Bool.false_or]; exact decide_eq_false (fun g => g hz)⟩
      · right
        rw [if_neg (nI_ne0 (by omega) (by omega)), rz0, anyB_t (decide_eq_true hz) hk]
        rfl) (fun f hi => by
      show f_X11_isSoundWithout_36 (f + 1) _ _ _ = _
      rw [f_X11_isSoundWithout_36, sh_R s2 (a := 0) (k := 4) (b := 16) 11 (by decide) rfl (by decide), b1_s, c_size x2, b1_s, if_pos (nI_le (Nat.le_refl _) (by have := okw.1; omega)), hi, rz1]
      rfl) 1024 0 (by omega) (by have := okw.1; omega) rfl
    rw [nI_0] at key
    exact key

theorem r_fin {s : St} {M : MM} {x : Pl} (h : RX s M 154 x) : f_X12_isFine 143 154 M = some (bI (finB s x), M) := by
  have h0 := h.1
  have hO := sh_O h0 (a := 143) 12 (by decide) rfl
  have hT := h.2.2.1.2.2.2.1
  have hx := h.2.2.2.2.2.2.1
  have e39 : ∀ f, 200 < f → f_X12_isFine_39 f 143 154 1 0 M = some (bI (!anyB (fun m => !watB s x m) (zT s)), M) := by
    intro f hf
    have key : f_X12_isFine_39 f 143 154 (bI (!anyB (fun m => !watB s x m) 0)) (nI 0) M = some (bI (!anyB (fun m => !watB s x m) (zT s)), M) := lpv (fun f k => f_X12_isFine_39 f 143 154 (bI (!anyB (fun m => !watB s x m) k)) (nI k) M) (zT s) _ (fun f k hk => by
      show f_X12_isFine_39 (f + 1) _ _ _ _ _ = _ ∨ f_X12_isFine_39 (f + 1) _ _ _ _ _ = _
      rw [f_X12_isFine_39, gI_k 6 hO, b1_s, h.2.1.2.2.1, if_neg (nI_ge hk (by omega))]
      cases hb : anyB (fun m => !watB s x m) k with
      | true =>
        right
        obtain ⟨j, hj, g⟩ := anyB_iff.mp hb
        rw [if_pos (show bI (!true) = 0 from rfl), rz_b, anyB_t (k := j) g (by omega)]
      | false =>
        left
        rw [if_neg (show ¬ bI (!false) = 0 by decide), r_wat h (by omega), b2_s, bn_s, nI_1]
        have e : anyB (fun m => !watB s x m) (k + 1) = !watB s x k := by rw [anyB, hb, Bool.false_or]
        rw [e, Bool.not_not]) (fun f => by
      show f_X12_isFine_39 (f + 1) _ _ _ _ _ = _
      rw [f_X12_isFine_39, gI_k 6 hO, b1_s, h.2.1.2.2.1, if_pos (nI_le (Nat.le_refl _) (by omega)), rz_b]) f 0 (by omega) (by omega)
    exact key
  have e39' : ∀ f, f_X12_isFine_39 (f + 1) 143 154 0 0 M = some (0, M) := by
    intro f
    rw [f_X12_isFine_39, gI_k 6 hO, b1_s, rz0]
    split
    · rfl
    · rw [if_pos rfl]
  have e37 : ∀ k, k ≤ x.1 → (k = x.1 ∨ anyB (fun i => decide (whyS s x i ≠ 0)) k = true) → f_X12_isFine_37 143 154 (bI (!anyB (fun i => decide (whyS s x i ≠ 0)) k)) M = some (bI (finB s x), M) := by
    intro k hk g
    unfold f_X12_isFine_37 finB
    cases hb : anyB (fun i => decide (whyS s x i ≠ 0)) k with
    | true =>
      obtain ⟨j, hj, g⟩ := anyB_iff.mp hb
      rw [anyB_t (n := x.1) (k := j) g (by omega)]
      exact e39' 1023
    | false =>
      rcases g with g | g
      · rw [← g, hb]
        exact (e39 1024 (by omega))
      · rw [hb] at g; cases g
  unfold f_X12_isFine f_X12_isFine_0
  rw [if_pos hO]
  have key : f_X12_isFine_4 1024 143 154 (bI (!anyB (fun i => decide (whyS s x i ≠ 0)) 0)) (nI 0) M = some (bI (finB s x), M) := lpv (fun f k => f_X12_isFine_4 f 143 154 (bI (!anyB (fun i => decide (whyS s x i ≠ 0)) k)) (nI k) M) x.1 _ (fun f k hk => by
    show f_X12_isFine_4 (f + 1) _ _ _ _ _ = _ ∨ f_X12_isFine_4 (f + 1) _ _ _ _ _ = _
    rw [f_X12_isFine_4, r_size h, b1_s, if_neg (nI_ge hk (by omega))]
    have hwy := whyS_lt s x k
    cases hb : anyB (fun i => decide (whyS s x i ≠ 0)) k with
    | true =>
      right
      rw [if_pos (show bI (!true) = 0 from rfl), ← hb]
      exact e37 k (by omega) (Or.inr hb)
    | false =>
      left
      have e : anyB (fun i => decide (whyS s x i ≠ 0)) (k + 1) = decide (whyS s x k ≠ 0) := by rw [anyB, hb, Bool.false_or]
      rw [if_neg (show ¬ bI (!false) = 0 by decide), r_why h hk, b2_s, e]
      unfold f_X12_isFine_30
      by_cases hz : whyS s x k = 0
      · rw [hz, if_pos (by decide), bn_s, nI_1]
        rfl
      · rw [if_neg (nI_ne0 (by omega) (by omega)), bn_s, nI_1, decide_eq_true hz]
        rfl) (fun f => by
    show f_X12_isFine_4 (f + 1) _ _ _ _ _ = _
    rw [f_X12_isFine_4, r_size h, b1_s, if_pos (nI_le (Nat.le_refl _) (by omega))]
    exact e37 x.1 (Nat.le_refl _) (Or.inl rfl)) 1024 0 (by omega) (by omega)
  exact key
/-! the search -/
def fzO (f : Nat → Option (List Nat)) : Nat → Nat → Option (List Nat)
  | 0, _ => none
  | m + 1, i => match f i with
    | some v => some v
    | none => fzO f m (i + 1)
theorem fzO_t {f : Nat → Option (List Nat)} {m i : Nat} {v : List Nat} (h : f i = some v) : fzO f (m + 1) i = some v := by show (match f i with | some v => some v | none => _) = _; rw [h]
theorem fzO_f {f : Nat → Option (List Nat)} {m i : Nat} (h : f i = none) : fzO f (m + 1) i = fzO f m (i + 1) := by show (match f i with | some v => some v | none => _) = _; rw [h]
def srO (s : St) (q : Pl) : Nat → List Nat → Nat → Option (List Nat)
  | 0, pre, _ => if finB s (woR q pre) = true then some pre else none
  | n + 1, pre, i => fzO (fun a => srO s q n (a :: pre) (a + 1)) (q.1 - i) i
theorem fzO_p {f : Nat → Option (List Nat)} {P : List Nat → Prop} {n : Nat} (h : ∀ a v, a < n → f a = some v → P v) : ∀ {m i : Nat} {v : List Nat}, i + m ≤ n → fzO f m i = some v → P v
  | 0, _, _, _, g => by have g : none = some _ := g; cases g
  | m + 1, i, v, hi, g => by
    cases hf : f i with
    | some w =>
      rw [fzO_t hf] at g
      cases g
      exact h i _ (by omega) hf
    | none =>
      rw [fzO_f hf] at g
      exact fzO_p h (by omega) g
theorem srO_p {s : St} {q : Pl} : ∀ {n : Nat} {pre : List Nat} {i : Nat} {v : List Nat}, dsc i pre → i ≤ q.1 → srO s q n pre i = some v → dsc q.1 v ∧ v.length = pre.length + n
  | 0, pre, i, v, hd, hi, g => by
    have g : (if finB s (woR q pre) = true then some pre else none) = some v := g
    split at g
    · cases g; exact ⟨dsc_le hd hi, rfl⟩
    · cases g
  | n + 1, pre, i, v, hd, hi, g => by
    have g : fzO (fun a => srO s q n (a :: pre) (a + 1)) (q.1 - i) i = some v := g
    have key : ∀ m j, i ≤ j → j + m ≤ q.1 → fzO (fun a => srO s q n (a :: pre) (a + 1)) m j = some v → dsc q.1 v ∧ v.length = pre.length + (n + 1) := by
      intro m
      induction m with
      | zero => intro j _ _ g; have g : none = some _ := g; cases g
      | succ m ih =>
        intro j h1 h2 g
        cases hf : srO s q n (j :: pre) (j + 1) with
        | some w =>
          rw [fzO_t (f := fun a => srO s q n (a :: pre) (a + 1)) hf] at g
          cases g
          have := srO_p (n := n) (pre := j :: pre) (i := j + 1) ⟨by omega, dsc_le hd h1⟩ (by omega) hf
          rw [List.length_cons] at this
          exact ⟨this.1, by omega⟩
        | none =>
          rw [fzO_f (f := fun a => srO s q n (a :: pre) (a + 1)) hf] at g
          exact ih (j + 1) (by omega) (by omega) g
    exact key _ _ (Nat.le_refl _) (by omega) g
theorem fzO_n {f : Nat → Option (List Nat)} : ∀ {m i : Nat}, (∀ a, i ≤ a → a < i + m → f a = none) → fzO f m i = none
  | 0, _, _ => rfl
  | m + 1, i, h => by
    rw [fzO_f (h i (Nat.le_refl _) (by omega))]
    exact fzO_n (fun a h1 h2 => h a (by omega) (by omega))
theorem srO_n {s : St} {q : Pl} : ∀ {n : Nat} {pre : List Nat} {i : Nat}, q.1 < i + (n + 1) → srO s q (n + 1) pre i = none
  | 0, pre, i, h => by
    show fzO (fun a => srO s q 0 (a :: pre) (a + 1)) (q.1 - i) i = none
    rw [show q.1 - i = 0 by omega]; rfl
  | n + 1, pre, i, h => fzO_n (fun a h1 h2 => srO_n (n := n) (by omega))
theorem lpS {R : Type} (F : Nat → Nat → MM → Option R) (I : MM → Prop) (g : Nat → Option (List Nat)) (P : Option (List Nat) → Option R → Prop) (n i0 : Nat) (hs : ∀ fu k M, i0 ≤ k → k < n → I M → (∃ v, g k = some v ∧ P (some v) (F (fu + 1) k M)) ∨ (g k = none ∧ ∃ M', F (fu + 1) k M = F fu (k + 1) M' ∧ I M')) (he : ∀ fu M, I M → P none (F (fu + 1) n M)) : ∀ m fu k M, i0 ≤ k → k + m = n → m < fu → I M → P (fzO g m k) (F fu k M)
  | 0, fu, k, M, h0, h1, h2, h3 => by
    have : k = n := by omega
    subst this
    cases fu with
    | zero => omega
    | succ fu => exact he fu M h3
  | m + 1, fu, k, M, h0, h1, h2, h3 => by
    cases fu with
    | zero => omega
    | succ fu =>
      rcases hs fu k M h0 (by omega) h3 with ⟨v, e, p⟩ | ⟨e, M', e', i'⟩
      · rw [fzO_t e]; exact p
      · rw [fzO_f e, e']; exact lpS F I g P n i0 hs he m fu (k + 1) M' (by omega) (by omega) (by omega) i'

def STK (M : MM) : List Nat → Prop
  | [] => True
  | d :: ds => mI M 170 ds.length = nI d ∧ STK M ds
theorem STK.fr {W : Nat → Nat → Prop} {M M' : MM} (f : Fr W M M') : ∀ {l : List Nat}, (∀ k, k < l.length → ¬ W 170 k) → STK M l → STK M' l
  | [], _, _ => trivial
  | d :: l, w, h => ⟨(f.2.2.1 170 _ (w _ (by rw [List.length_cons]; omega))).trans h.1, STK.fr f (fun k hk => w k (by rw [List.length_cons]; omega)) h.2⟩
theorem sb1 (x : Int32) : x - 1 = x + (-1) := Int32.sub_eq_add_neg x 1
theorem m1_s (n : Nat) : nI (n + 1) + (-1) = nI n := by rw [← sb1, nS1 (by omega), Nat.add_sub_cancel]
def wMd (a k : Nat) : Prop := a = 154 ∨ a = 170
theorem r_lv {s : St} (hw : WF s) (P0 : Nat → Int32 → Int32 → Int32 → MM → Option (Int32 × MM)) : ∀ (l : List Nat) (x : Pl) (M : MM) (f : Nat), RR s M → okPl (zP s) (zE s) x → PR M 154 0 x → dsc x.1 l → STK M l → l.length ≤ 3 → l.length < f → ∃ M', f_X12_strikesMore_20 P0 f 143 (nI l.length + (-1)) M = some (bI (finB s (woR x l)), M') ∧ RR s M' ∧ Fr (fun a k => a = 154) M M' ∧ mR M' = mR M
  | [], x, M, f, h, ok, hp, hd, hs, h3, hf => by
    cases f with
    | zero => exact absurd hf (by omega)
    | succ f =>
      have hx : RX s M 154 x := ⟨h.1, h.2.2.2.1, hw.1, hw.2.1, Or.inr (Or.inl rfl), hp, by have := ok.1; omega, ok.2⟩
      refine ⟨M, ?_, h, Fr.rf M, rfl⟩
      rw [f_X12_strikesMore_20, if_pos (show nI ([] : List Nat).length + (-1) < 0 by decide), sh_R h.1 (a := 143) (k := 16) (b := 154) 12 (by decide) rfl (by decide), b1_s, r_fin hx, b2_s, rz_b]
      rfl
  | d :: l, x, M, f, h, ok, hp, hd, hs, h3, hf => by
    cases f with
    | zero => exact absurd hf (by omega)
    | succ f =>
      rw [List.length_cons] at h3 hf
      obtain ⟨M1, e1, p1, f1, r1⟩ := r_leaves h.1 (a := 154) (Or.inr (Or.inl rfl)) hp (by have := ok.1; omega) hd.1
      have s1 := f1.sh' r1 h.1
      have c1 : RR s M1 := h.fr (f1.mono (fun a k q => by unfold wR; omega)) s1
      obtain ⟨M2, e2, c2, f2, r2⟩ := r_lv hw P0 l (plRem x d) M1 f c1 (okPl_rem ok) p1 (dsc_le hd.2 (by show d ≤ x.1 - 1; have := hd.1; omega)) (hs.2.fr f1 (fun k hk q => by omega)) (by omega) (by omega)
      refine ⟨M2, ?_, c2, f1.tr f2, r2.trans r1⟩
      rw [List.length_cons, m1_s, f_X12_strikesMore_20, if_neg (nI_pos (by omega)), sh_R h.1 (a := 143) (k := 16) (b := 154) 12 (by decide) rfl (by decide), b1_s, sh_R h.1 (a := 143) (k := 44) (b := 170) 12 (by decide) rfl (by decide), b1_s, ld_170 h.1 (by omega), b1_s, hs.1, e1, b1_s, bn_s]
      exact e2
/-- what the search leaves -/
def SRP (s : St) (M0 : MM) (pre : List Nat) (res : Option (List Nat)) (o : Option (Int32 × MM)) : Prop := ∃ M', o = some (bI res.isSome, M') ∧ RR s M' ∧ Fr (fun a k => a = 154 ∨ (a = 170 ∧ pre.length ≤ k)) M0 M' ∧ mR M' = mR M0 ∧ (∀ v, res = some v → STK M' v)
theorem r_sr {s : St} (hw : WF s) : ∀ (n : Nat) (pre : List Nat) (i f : Nat) (M : MM), RR s M → dsc i pre → i ≤ (zplan s).1 → STK M pre → pre.length + n ≤ 3 → n < f → SRP s M pre (srO s (zplan s) n pre i) (f_X12_strikesMore f 143 (nI pre.length) (nI n) (nI i) M)
  | 0, pre, i, f, M, h, hd, hi, hs, h3, hf => by
    cases f with
    | zero => exact absurd hf (by omega)
    | succ f =>
      obtain ⟨M1, e1, p1, f1, r1⟩ := r_puts h.1 (a := 153) (b := 154) (Or.inl rfl) (Or.inr (Or.inl rfl)) (by decide) h.2.2.2.2.1 (by have := hw.2.2.2.2.1.1; omega)
      have s1 := f1.sh' r1 h.1
      have c1 : RR s M1 := h.fr (f1.mono (fun a k q => by unfold wR; omega)) s1
      obtain ⟨M2, e2, c2, f2, r2⟩ := r_lv hw (f_X12_strikesMore f) pre (zplan s) M1 1024 c1 hw.2.2.2.2.1 p1 (dsc_le hd hi) (hs.fr f1 (fun k hk q => by omega)) (by omega) (by omega)
      have er : bI (srO s (zplan s) 0 pre i).isSome = bI (finB s (woR (zplan s) pre)) := by
        show bI (if finB s (woR (zplan s) pre) = true then some pre else none).isSome = _
        cases finB s (woR (zplan s) pre) <;> rfl
      refine ⟨M2, ?_, c2, (f1.mono (fun a k q => Or.inl q)).tr (f2.mono (fun a k q => Or.inl q)), r2.trans r1, fun v g => ?_⟩
      · rw [er, f_X12_strikesMore, if_pos (sh_O h.1 12 (by decide) rfl)]
        unfold f_X12_strikesMore_0
        rw [if_pos (show nI 0 = 0 from rfl), sh_R h.1 (a := 143) (k := 15) (b := 153) 12 (by decide) rfl (by decide), b1_s, sh_R h.1 (a := 143) (k := 16) (b := 154) 12 (by decide) rfl (by decide), b1_s, e1, b1_s, bn_s, show nI pre.length - 1 = nI pre.length + (-1) from sb1 _]
        exact e2
      · have g : (if finB s (woR (zplan s) pre) = true then some pre else none) = some v := g
        split at g
        · cases g
          exact (hs.fr f1 (fun k hk q => by omega)).fr f2 (fun k hk q => by omega)
        · cases g
  | n + 1, pre, i, f, M, h, hd, hi, hs, h3, hf => by
    cases f with
    | zero => exact absurd hf (by omega)
    | succ f =>
      have h12 := hw.2.2.2.2.1.1
      have key := lpS (fun fu k N => f_X12_strikesMore_57 (f_X12_strikesMore f) fu 143 (nI pre.length) (nI (n + 1)) (nI k) N) (fun N => RR s N ∧ Fr (fun a k => a = 154 ∨ (a = 170 ∧ pre.length ≤ k)) M N ∧ mR N = mR M) (fun a => srO s (zplan s) n (a :: pre) (a + 1)) (fun res o => SRP s M pre res o) (zplan s).1 i (fun fu k N hik hk hI => by
        obtain ⟨c1, f1, r1⟩ := hI
        have s1 := c1.1
        have fa : Fr (fun a k => a = 154 ∨ (a = 170 ∧ pre.length ≤ k)) N (sI N 170 pre.length (nI k)) := (Fr.rf N).sI (Or.inr ⟨rfl, Nat.le_refl _⟩)
        have ca : RR s (sI N 170 pre.length (nI k)) := c1.fr (fa.mono (fun a k q => by unfold wR; omega)) s1
        have hsN : STK N pre := hs.fr f1 (fun k hk q => by omega)
        have hsa : STK (sI N 170 pre.length (nI k)) (k :: pre) := ⟨by rw [mI_w, if_pos ⟨rfl, rfl⟩], hsN.fr fa (fun k hk q => by omega)⟩
        obtain ⟨M2, e2, c2, f2, r2, v2⟩ := r_sr hw n (k :: pre) (k + 1) f _ ca ⟨by omega, dsc_le hd hik⟩ (by omega) hsa (by rw [List.length_cons]; omega) (by omega)
        rw [List.length_cons] at e2
        have f2' := f2.mono (W' := fun a k => a = 154 ∨ (a = 170 ∧ pre.length ≤ k)) (fun a k q => by rw [List.length_cons] at q; omega)
        have step : f_X12_strikesMore_57 (f_X12_strikesMore f) (fu + 1) 143 (nI pre.length) (nI (n + 1)) (nI k) N = if bI (srO s (zplan s) n (k :: pre) (k + 1)).isSome = 0 then f_X12_strikesMore_57 (f_X12_strikesMore f) fu 143 (nI pre.length) (nI (n + 1)) (nI (k + 1)) M2 else rz 1 M2 := by
          rw [f_X12_strikesMore_57, sh_R s1 (a := 143) (k := 15) (b := 153) 12 (by decide) rfl (by decide), b1_s, r_size (c1.rx hw), b1_s, if_neg (nI_ge hk (by omega)), sh_R s1 (a := 143) (k := 44) (b := 170) 12 (by decide) rfl (by decide), b1_s, stI_k _ (sh_O s1 20 (by decide) rfl) (sh_N s1 3 (by decide) rfl) (show pre.length < 3 by omega) (by decide), b1_s, nI_1, nI_1, nS1 (by omega), Nat.add_sub_cancel, e2, b2_s, bn_s]
        show (∃ v, srO s (zplan s) n (k :: pre) (k + 1) = some v ∧ SRP s M pre (some v) (f_X12_strikesMore_57 (f_X12_strikesMore f) (fu + 1) 143 (nI pre.length) (nI (n + 1)) (nI k) N)) ∨ (srO s (zplan s) n (k :: pre) (k + 1) = none ∧ ∃ M', f_X12_strikesMore_57 (f_X12_strikesMore f) (fu + 1) 143 (nI pre.length) (nI (n + 1)) (nI k) N = _ ∧ _)
        rw [step]
        cases hr : srO s (zplan s) n (k :: pre) (k + 1) with
        | some v =>
          left
          exact ⟨v, rfl, M2, by rw [if_neg (show ¬ bI (some v).isSome = 0 from (by decide : ¬ (1 : Int32) = 0)), rz1]; rfl, c2, (f1.tr fa).tr f2', r2.trans r1, fun w g => by cases g; exact v2 _ hr⟩
        | none =>
          right
          exact ⟨rfl, M2, by rw [if_pos (by decide)], c2, (f1.tr fa).tr f2', r2.trans r1⟩) (fun fu N hI => by
        refine ⟨N, ?_, hI.1, hI.2.1, hI.2.2, (fun v g => by cases g)⟩
        show f_X12_strikesMore_57 (f_X12_strikesMore f) (fu + 1) 143 (nI pre.length) (nI (n + 1)) (nI (zplan s).1) N = _
        rw [f_X12_strikesMore_57, sh_R hI.1.1 (a := 143) (k := 15) (b := 153) 12 (by decide) rfl (by decide), b1_s, r_size (hI.1.rx hw), b1_s, if_pos (nI_le (Nat.le_refl _) (by omega)), rz0]
        rfl) ((zplan s).1 - i) 1024 i M (Nat.le_refl _) (by omega) (by omega) ⟨h, Fr.rf M, rfl⟩
      rw [f_X12_strikesMore, if_pos (sh_O h.1 12 (by decide) rfl)]
      unfold f_X12_strikesMore_0
      rw [if_neg (nI_ne0 (by omega) (by omega))]
      exact key
def rwL (v : List Nat) : List Int64 := v.reverse.map (fun d => Int32.toInt64 (nI d))
def mdF (s : St) : Nat → Nat → Option (Nat × List Nat)
  | 0, _ => none
  | m + 1, n => match srO s (zplan s) n [] 0 with
    | some v => some (n, v)
    | none => mdF s m (n + 1)
theorem mdF_t {s : St} {m n : Nat} {v : List Nat} (h : srO s (zplan s) n [] 0 = some v) : mdF s (m + 1) n = some (n, v) := by show (match srO s (zplan s) n [] 0 with | some v => some (n, v) | none => _) = _; rw [h]
theorem mdF_f {s : St} {m n : Nat} (h : srO s (zplan s) n [] 0 = none) : mdF s (m + 1) n = mdF s m (n + 1) := by show (match srO s (zplan s) n [] 0 with | some v => some (n, v) | none => _) = _; rw [h]
def mdA (o : Option (Nat × List Nat)) : Int32 := match o with
  | none => -2
  | some (n, _) => nI n
def mdS (s : St) (o : Option (Nat × List Nat)) : St := match o with
  | none => s
  | some (_, v) => zsrow s (rowOf (rwL v))
def a_mend (s : St) : Int32 := mdA (mdF s 4 0)
def n_mend (s : St) : St := mdS s (mdF s 4 0)
theorem mdF_p {s : St} : ∀ (m n : Nat), m + n = 4 → ∀ k v, mdF s m n = some (k, v) → dsc (zplan s).1 v ∧ v.length = k ∧ k ≤ 3
  | 0, n, hm, k, v, h => by have h : none = some _ := h; cases h
  | m + 1, n, hm, k, v, h => by
    cases hr : srO s (zplan s) n [] 0 with
    | some w =>
      rw [mdF_t hr] at h
      cases h
      have := srO_p (pre := []) trivial (Nat.zero_le _) hr
      exact ⟨this.1, by rw [this.2]; exact Nat.zero_add _, by omega⟩
    | none =>
      rw [mdF_f hr] at h
      exact mdF_p m (n + 1) (by omega) k v h
theorem rwL_len (v : List Nat) : (rwL v).length = v.length := by unfold rwL; rw [List.length_map, List.length_reverse]
theorem W_mend {s : St} (hw : WF s) : WF (n_mend s) := by
  unfold n_mend
  cases hr : mdF s 4 0 with
  | none => exact hw
  | some kv =>
    obtain ⟨k, v⟩ := kv
    have := mdF_p 4 0 rfl k v hr
    exact WF_row hw (by rw [rwL_len]; omega)

theorem r_stk {M : MM} : ∀ {l : List Nat}, STK M l → ∀ k, k < l.length → mI M 170 k = nI (l.reverse.getD k 0)
  | [], _, k, hk => absurd hk (by simp)
  | d :: l, h, k, hk => by
    rw [List.length_cons] at hk
    rw [List.reverse_cons]
    by_cases hc : k = l.length
    · subst hc
      rw [h.1]
      simp
    · rw [r_stk h.2 k (by omega)]
      simp only [List.getD_eq_getElem?_getD]
      rw [List.getElem?_append_left (by rw [List.length_reverse]; omega)]
theorem rw_t {v : List Nat} {k : Nat} (hk : k < v.length) : (rwL v).take k ++ [Int32.toInt64 (nI (v.reverse.getD k 0))] = (rwL v).take (k + 1) := by
  have hl := rwL_len v
  have hv : v.reverse.length = v.length := List.length_reverse
  rw [List.take_succ_eq_append_getElem (by omega)]
  unfold rwL
  simp only [List.getElem_map, List.getD_eq_getElem?_getD]
  rw [List.getElem?_eq_getElem (by omega)]
  rfl
theorem R_mend {s : St} (hw : WF s) : OpR (fun M => f_X12_mend 143 M) s (a_mend s) (n_mend s) := by
  intro M h
  obtain ⟨N, et, ht, ft, rt, t0, l0⟩ := r_thr0 h
  show ∃ M', f_X12_mend 143 M = _ ∧ _
  unfold f_X12_mend f_X12_mend_0
  rw [if_pos (sh_O h.1 12 (by decide) rfl), et, b1_s]
  have key : ∀ m n f N', m + n = 4 → m < f → RR s N' → Fr rW N N' → mR N' = mR N → ∃ M', f_X12_mend_7 f 143 (nI n) N' = some (mdA (mdF s m n), M') ∧ RR (mdS s (mdF s m n)) M' ∧ Fr rW N M' ∧ mR M' = mR N := by
    intro m
    induction m with
    | zero =>
      intro n f N' hm hf c g r
      cases f with
      | zero => exact absurd hf (by omega)
      | succ f =>
        refine ⟨N', ?_, c, g, r⟩
        rw [f_X12_mend_7, if_pos (show (3 : Int32) < nI n by rw [show n = 4 by omega]; decide)]
        rfl
    | succ m ih =>
      intro n f N' hm hf c g r
      cases f with
      | zero => exact absurd hf (by omega)
      | succ f =>
        obtain ⟨M1, e1, c1, f1, r1, v1⟩ := r_sr hw n [] 0 100 N' c trivial (Nat.zero_le _) trivial (by show 0 + n ≤ 3; omega) (by omega)
        have f1' : Fr rW N' M1 := f1.mono (fun a k q => by unfold rW; omega)
        have e1' : f_X12_strikesMore 100 143 0 (nI n) 0 N' = some (bI (srO s (zplan s) n [] 0).isSome, M1) := e1
        rw [f_X12_mend_7, if_neg (show ¬ (3 : Int32) < nI n from nI_nlt (a := 3) (by omega) (by omega)), e1', b2_s]
        cases hr : srO s (zplan s) n [] 0 with
        | none =>
          rw [if_pos (show bI (none : Option (List Nat)).isSome = 0 from rfl), bn_s, nI_1, mdF_f hr]
          exact ih (n + 1) f M1 (by omega) (by omega) c1 (g.tr f1') (r1.trans r)
        | some v =>
          have hv := srO_p (pre := []) trivial (Nat.zero_le _) hr
          have hvl : v.length = n := by rw [hv.2]; exact Nat.zero_add _
          obtain ⟨M2, e2, w2, f2, r2⟩ := r_clr c1.1
          have s2 := f2.sh' r2 c1.1
          have st2 : STK M2 v := (v1 v hr).fr f2 (fun k hk q => by unfold wRoR at q; omega)
          rw [if_neg (show ¬ bI (some v).isSome = 0 from (by decide : ¬ (1 : Int32) = 0)), e2, b1_s, mdF_t hr]
          obtain ⟨r, e3, er, c3, f3, q3⟩ := lpm (fun f k N' => f_X12_mend_29 f 143 (nI n) (nI k) N') (fun k N' => RowR N' ((rwL v).take k) ∧ Fr wRoR M1 N' ∧ mR N' = mR M1) (fun r => r.1 = nI n ∧ RowR r.2 (rwL v) ∧ Fr wRoR M1 r.2 ∧ mR r.2 = mR M1) n (fun f k N' hk hi => by
            left
            obtain ⟨i1, i2, i3⟩ := hi
            have sN := i2.sh' i3 c1.1
            have stN : STK N' v := (v1 v hr).fr i2 (fun k hk q => by unfold wRoR at q; omega)
            have hle : ((rwL v).take k).length < 24 := by rw [List.length_take]; omega
            obtain ⟨M', e', w', f', r'⟩ := r_ent sN i1 hle (Int32.toInt64 (nI (v.reverse.getD k 0)))
            show ∃ M', f_X12_mend_29 (f + 1) _ _ _ _ = _ ∧ _
            rw [f_X12_mend_29, if_neg (nI_ge hk (by omega)), sh_R sN (a := 143) (k := 44) (b := 170) 12 (by decide) rfl (by decide), b1_s, ld_170 sN (by omega), b1_s, r_stk stN k (by omega), e', b1_s, bn_s, nI_1]
            rw [rw_t (by omega)] at w'
            exact ⟨M', rfl, w', i2.tr f', r'.trans i3⟩) (fun f N' hi => by
            refine ⟨(nI n, N'), ?_, rfl, ?_, hi.2⟩
            · show f_X12_mend_29 (f + 1) _ _ _ _ = _
              rw [f_X12_mend_29, if_pos (nI_le (Nat.le_refl _) (by omega))]
            · have := hi.1
              rw [List.take_of_length_le (by rw [rwL_len]; omega)] at this
              exact this) 1024 0 M2 (by omega) (by omega) ⟨w2, f2, r2⟩
          refine ⟨r.2, ?_, c1.row f3 q3 c3, (g.tr f1').tr (wRoR_rW f3), q3.trans (r1.trans (by assumption))⟩
          have e3' : f_X12_mend_29 1024 143 (nI n) (nI 0) M2 = some r := e3
          rw [nI_0] at e3'
          rw [e3']
          show some (r.1, r.2) = _
          rw [er]
          rfl
  obtain ⟨M', e, c, f, r⟩ := key 4 0 1024 N rfl (by omega) ht (Fr.rf N) rfl
  exact ⟨M', e, c, ft.tr f, r.trans rt⟩
def upL (S : Nat → Bool) : Nat → List Nat
  | 0 => []
  | k + 1 => if S k = true then upL S k ++ [k] else upL S k
theorem upL_c {S S' : Nat → Bool} : ∀ {k : Nat}, (∀ j, j < k → S j = S' j) → upL S k = upL S' k
  | 0, _ => rfl
  | k + 1, h => by
    show (if S k = true then _ else _) = (if S' k = true then _ else _)
    rw [upL_c (k := k) (fun j hj => h j (by omega)), h k (by omega)]
theorem upL_e : ∀ (n : Nat) (l : List Nat), dsc n l → upL (mem l) n = l.reverse
  | 0, [], _ => rfl
  | 0, d :: l, h => absurd h.1 (by omega)
  | n + 1, [], _ => by
    show (if mem [] n = true then _ else upL (mem []) n) = _
    rw [mem_n, if_neg (by decide), upL_e n [] trivial]
  | n + 1, d :: l, h => by
    show (if mem (d :: l) n = true then upL (mem (d :: l)) n ++ [n] else upL (mem (d :: l)) n) = _
    have h1 := h.1
    by_cases hc : d = n
    · subst hc
      rw [if_pos (by rw [mem_c, decide_eq_true rfl]; rfl), List.reverse_cons, ← upL_e d l h.2]
      congr 1
      refine upL_c (fun j hj => ?_)
      rw [mem_c, decide_eq_false (by omega), Bool.false_or]
    · have hd : dsc n (d :: l) := ⟨by omega, h.2⟩
      rw [mem_f hd (Nat.le_refl _), if_neg (by decide)]
      exact upL_e n (d :: l) hd
theorem upL_len (S : Nat → Bool) : ∀ k, (upL S k).length ≤ k
  | 0 => Nat.le_refl _
  | k + 1 => by
    have := upL_len S k
    show (if S k = true then upL S k ++ [k] else upL S k).length ≤ k + 1
    split
    · rw [List.length_append]; simp; omega
    · omega
theorem upL_mono (S : Nat → Bool) : ∀ {k n : Nat}, k ≤ n → (upL S k).length ≤ (upL S n).length := by
  intro k n h
  induction n with
  | zero => rw [show k = 0 by omega]; exact Nat.le_refl _
  | succ n ih =>
    by_cases hc : k = n + 1
    · rw [hc]; exact Nat.le_refl _
    · have := ih (by omega)
      show _ ≤ (if S n = true then upL S n ++ [n] else upL S n).length
      split
      · rw [List.length_append]; omega
      · exact this
theorem c_tell' {s : St} {M : MM} (h : RC s M) {x : Int32} {l : List Nat} (hx : MK x l) (hl : dsc 12 l) (h3 : l.length ≤ 3) : ∃ M', f_X11_tellBits 0 x M = some M' ∧ RC (zsrow s (rowOf (rwL l))) M' ∧ Fr cW M M' := by
  have h0 := h.1
  obtain ⟨M1, e1, w1, f1, r1⟩ := c_clr h0
  have hmx : ∀ k, k ≤ 12 → (upL (mem l) k).length ≤ 3 := fun k hk => by
    have := upL_mono (mem l) hk
    rw [upL_e 12 l hl, List.length_reverse] at this
    omega
  obtain ⟨N, e, p, f, r⟩ := lpm (fun f k N => f_X11_tellBits_9 f 0 x (nI k) N) (fun k N => RowC N ((upL (mem l) k).map (fun d => Int32.toInt64 (nI d))) ∧ Fr wRow M N ∧ mR N = mR M) (fun N => RowC N (rwL l) ∧ Fr wRow M N ∧ mR N = mR M) 12 (fun f k N hk hi => by
      left
      obtain ⟨i1, i2, i3⟩ := hi
      have sN := i2.sh' i3 h0
      show ∃ M', f_X11_tellBits_9 (f + 1) _ _ _ _ = _ ∧ _
      rw [f_X11_tellBits_9, if_neg (show ¬ (12 : Int32) ≤ nI k from nI_ge hk (by decide)), bit_t (by omega), hx k (by omega)]
      unfold f_X11_tellBits_32
      have es : upL (mem l) (k + 1) = if mem l k = true then upL (mem l) k ++ [k] else upL (mem l) k := rfl
      rw [es]
      cases mem l k with
      | false =>
        rw [if_pos (show bI false = 0 from rfl), bn_s, nI_1, if_neg (by decide)]
        exact ⟨N, rfl, i1, i2, i3⟩
      | true =>
        have hle : ((upL (mem l) k).map (fun d => Int32.toInt64 (nI d))).length < 8 := by rw [List.length_map]; have := hmx k (by omega); omega
        obtain ⟨M', e', w', f', r'⟩ := c_radd sN i1 hle (Int32.toInt64 (nI k))
        rw [if_neg (show ¬ bI true = 0 by decide), sh_R sN (a := 0) (k := 1) (b := 3) 11 (by decide) rfl (by decide), b1_s, e', b1_s, bn_s, nI_1, if_pos rfl]
        refine ⟨M', rfl, ?_, i2.tr f', r'.trans i3⟩
        rw [List.map_append]
        exact w') (fun f N hi => by
      refine ⟨N, ?_, ?_, hi.2⟩
      · show f_X11_tellBits_9 (f + 1) _ _ _ _ = _
        rw [f_X11_tellBits_9, if_pos (by decide)]
      · have := hi.1
        rw [upL_e 12 l hl] at this
        exact this) 1024 0 M1 (by omega) (by omega) ⟨w1, f1, r1⟩
  refine ⟨N, ?_, h.row f r p, wRow_cW f⟩
  unfold f_X11_tellBits f_X11_tellBits_0
  rw [if_pos (sh_O h0 11 (by decide) rfl), sh_R h0 (a := 0) (k := 1) (b := 3) 11 (by decide) rfl (by decide), b1_s, e1, b1_s]
  have : f_X11_tellBits_9 1024 0 x (nI 0) M1 = some N := e
  rw [nI_0] at this
  exact this
def rpn (n a b c : Nat) : List Nat := match n with
  | 0 => []
  | 1 => [a]
  | 2 => [b, a]
  | _ => [c, b, a]
def OUT (s : St) (M0 : MM) (K : MM → Option (Int32 × MM)) (res : Option (List Nat)) (o : Option (Int32 × MM)) : Prop := match res with
  | some v => ∃ M', o = some (1, M') ∧ RC (zsrow s (rowOf (rwL v))) M' ∧ Fr cW M0 M'
  | none => ∃ M', o = K M' ∧ RC s M' ∧ Fr cW M0 M'
theorem t122 {s : St} (hw : WF s) {M0 M : MM} (h : RC s M) (hf : Fr cW M0 M) {l : List Nat} (hl : dsc (zplan s).1 l) (h3 : l.length ≤ 3) (K17 : Nat → Int32 → Int32 → Int32 → MM → Option (Int32 × MM)) (K35 : Nat → Int32 → Int32 → Int32 → Int32 → MM → Option (Int32 × MM)) (K58 : Nat → Int32 → Int32 → Int32 → Int32 → Int32 → MM → Option (Int32 × MM)) (x1 x2 x3 x4 : Int32) (c i : Nat) {s0 s1 : Int32} (hx : MK (s1 ||| s0) l) : OUT s M0 (fun M' => K58 0 x1 x2 x3 x4 (nI (c + 1)) M') (srO s (zplan s) 0 l i) (f_X11_mendsBy_122 K17 K35 K58 0 x1 x2 x3 x4 (nI c) s0 s1 M) := by
  obtain ⟨M1, e1, c1, f1⟩ := c_snd hw h hx hl
  unfold f_X11_mendsBy_122
  rw [bn_s, e1, b2_s]
  show OUT s M0 _ (if finB s (woR (zplan s) l) = true then some l else none) _
  cases finB s (woR (zplan s) l) with
  | false =>
    rw [if_pos (show bI false = 0 from rfl), if_neg (by decide), bn_s, nI_1]
    exact ⟨M1, rfl, c1, hf.tr f1⟩
  | true =>
    obtain ⟨M2, e2, c2, f2⟩ := c_tell' c1 hx (dsc_le hl hw.2.2.2.2.1.1) h3
    rw [if_neg (show ¬ bI true = 0 by decide), if_pos rfl, e2, b1_s, rz1]
    exact ⟨M2, rfl, c2, (hf.tr f1).tr f2⟩
theorem mk_1 {k : Nat} (hk : k < 32) : MK ((1 : Int32) <<< (nI k &&& 31)) [k] := fun i hi => by rw [one_bt hk hi, mem_c, mem_n, Bool.or_false]
theorem mk_0 : MK 0 [] := fun i hi => by rw [b_0, mem_n]
theorem mk_o {x y : Int32} {k : Nat} {l : List Nat} (hx : MK x l) (hy : MK y [k]) : MK (x ||| y) (k :: l) := fun i hi => by rw [b_or, hx i hi, hy i hi, mem_c, mem_c, mem_n, Bool.or_false, Bool.or_comm]
theorem mk_z {x : Int32} {l : List Nat} (hx : MK x l) : MK (x ||| 0) l := fun i hi => by rw [b_or, hx i hi, b_0, Bool.or_false]
theorem t73 {s : St} (hw : WF s) {M0 M : MM} (h : RC s M) (hf : Fr cW M0 M) {n a b c : Nat} (hn : n ≤ 3) (hl : dsc (zplan s).1 (rpn n a b c)) (ha : a < 32) (hb : b < 32) (hc : c < 32) (K17 : Nat → Int32 → Int32 → Int32 → MM → Option (Int32 × MM)) (K35 : Nat → Int32 → Int32 → Int32 → Int32 → MM → Option (Int32 × MM)) (K58 : Nat → Int32 → Int32 → Int32 → Int32 → Int32 → MM → Option (Int32 × MM)) (x2 : Int32) (i : Nat) {s0 s1 : Int32} (hs : ¬ s0 ≤ s1) : OUT s M0 (fun M' => K58 0 (nI n) x2 (nI a) (nI b) (nI (c + 1)) M') (srO s (zplan s) 0 (rpn n a b c) i) (f_X11_mendsBy_73 K17 K35 K58 0 (nI n) x2 (nI a) (nI b) (nI c) s0 s1 M) := by
  have hlen : ∀ n, n ≤ 3 → (rpn n a b c).length ≤ 3 := by
    intro n hn
    match n, hn with
    | 0, _ => exact (by decide : 0 ≤ 3)
    | 1, _ => exact (by decide : 1 ≤ 3)
    | 2, _ => exact (by decide : 2 ≤ 3)
    | 3, _ => exact (by decide : 3 ≤ 3)
  unfold f_X11_mendsBy_73
  rw [if_neg hs]
  unfold f_X11_mendsBy_87 f_X11_mendsBy_104
  match n, hn, hl with
  | 0, hn, hl =>
    rw [if_pos (show nI 0 ≤ 0 by decide), if_pos (show nI 0 ≤ 1 by decide), bn_s, if_pos (show nI 0 ≤ 2 by decide)]
    exact t122 hw h hf hl (hlen 0 hn) K17 K35 K58 _ _ _ _ c i (mk_z (mk_z mk_0))
  | 1, hn, hl =>
    rw [if_neg (show ¬ nI 1 ≤ 0 by decide), if_pos (show nI 1 ≤ 1 by decide), bn_s, if_pos (show nI 1 ≤ 2 by decide)]
    exact t122 hw h hf hl (hlen 1 hn) K17 K35 K58 _ _ _ _ c i (mk_z (mk_z (mk_1 ha)))
  | 2, hn, hl =>
    rw [if_neg (show ¬ nI 2 ≤ 0 by decide), if_neg (show ¬ nI 2 ≤ 1 by decide), bn_s, if_pos (show nI 2 ≤ 2 by decide)]
    exact t122 hw h hf hl (hlen 2 hn) K17 K35 K58 _ _ _ _ c i (mk_z (mk_o (mk_1 ha) (mk_1 hb)))
  | 3, hn, hl =>
    rw [if_neg (show ¬ nI 3 ≤ 0 by decide), if_neg (show ¬ nI 3 ≤ 1 by decide), bn_s, if_neg (show ¬ nI 3 ≤ 2 by decide)]
    exact t122 hw h hf hl (hlen 3 hn) K17 K35 K58 _ _ _ _ c i (mk_o (mk_o (mk_1 ha) (mk_1 hb)) (mk_1 hc))
theorem OUT.ch {s : St} {M0 : MM} {K K' : MM → Option (Int32 × MM)} {res : Option (List Nat)} {o : Option (Int32 × MM)} (h : OUT s M0 K res o) (hk : ∀ M', RC s M' → Fr cW M0 M' → ∃ M'', K M' = K' M'' ∧ RC s M'' ∧ Fr cW M0 M'') : OUT s M0 K' res o := by
  cases res with
  | some v => exact h
  | none =>
    obtain ⟨M', e, c, f⟩ := h
    obtain ⟨M'', e2, c2, f2⟩ := hk M' c f
    exact ⟨M'', e.trans e2, c2, f2⟩
/-- the innermost loop -/
theorem t58 {s : St} (hw : WF s) {M0 M : MM} (h : RC s M) (hf : Fr cW M0 M) {n a b : Nat} (hn : n ≤ 3) (ha : a < 14) (hb : b < 14) (hl : ∀ c, b < c → (n = 3 → c < (zplan s).1) → dsc (zplan s).1 (rpn n a b c)) (K17 : Nat → Int32 → Int32 → Int32 → MM → Option (Int32 × MM)) (K35 : Nat → Int32 → Int32 → Int32 → Int32 → MM → Option (Int32 × MM)) : OUT s M0 (fun M' => K35 0 (nI n) (nI (zplan s).1) (nI a) (nI (b + 1)) M') (if n = 3 then srO s (zplan s) 1 [b, a] (b + 1) else srO s (zplan s) 0 (rpn n a b 0) 0) (f_X11_mendsBy_58 K17 K35 1024 0 (nI n) (nI (zplan s).1) (nI a) (nI b) (nI (b + 1)) M) := by
  have h12 := hw.2.2.2.2.1.1
  by_cases h3 : n = 3
  · subst h3
    rw [if_pos rfl]
    by_cases hbz : b + 1 ≤ (zplan s).1
    · exact lpS (fun fu k N => f_X11_mendsBy_58 K17 K35 fu 0 (nI 3) (nI (zplan s).1) (nI a) (nI b) (nI k) N) (fun N => RC s N ∧ Fr cW M0 N) (fun c => srO s (zplan s) 0 (c :: [b, a]) (c + 1)) (fun res o => OUT s M0 (fun M' => K35 0 (nI 3) (nI (zplan s).1) (nI a) (nI (b + 1)) M') res o) (zplan s).1 (b + 1) (fun fu k N hik hk hI => by
        have key := t73 hw hI.1 hI.2 (n := 3) (a := a) (b := b) (c := k) (by decide) (hl k (by omega) (fun _ => hk)) (by omega) (by omega) (by omega) K17 K35 (f_X11_mendsBy_58 K17 K35 fu) (nI (zplan s).1) (k + 1) (s0 := nI (zplan s).1) (s1 := nI k) (nI_ge hk (by omega))
        have e : f_X11_mendsBy_58 K17 K35 (fu + 1) 0 (nI 3) (nI (zplan s).1) (nI a) (nI b) (nI k) N = f_X11_mendsBy_73 K17 K35 (f_X11_mendsBy_58 K17 K35 fu) 0 (nI 3) (nI (zplan s).1) (nI a) (nI b) (nI k) (nI (zplan s).1) (nI k) N := by
          rw [f_X11_mendsBy_58, if_neg (show ¬ nI 3 ≤ 2 by decide)]
        rw [← e] at key
        have er : rpn 3 a b k = k :: [b, a] := rfl
        rw [er] at key
        cases hr : srO s (zplan s) 0 (k :: [b, a]) (k + 1) with
        | some v => rw [hr] at key; exact Or.inl ⟨v, rfl, key⟩
        | none =>
          rw [hr] at key
          exact Or.inr ⟨rfl, key⟩) (fun fu N hI => by
        refine ⟨N, ?_, hI⟩
        show f_X11_mendsBy_58 K17 K35 (fu + 1) _ _ _ _ _ _ _ = _
        rw [f_X11_mendsBy_58, if_neg (show ¬ nI 3 ≤ 2 by decide)]
        unfold f_X11_mendsBy_73
        rw [if_pos (nI_le (Nat.le_refl _) (by omega)), bn_s, nI_1]) ((zplan s).1 - (b + 1)) 1024 (b + 1) M (Nat.le_refl _) (by omega) (by omega) ⟨h, hf⟩
    · rw [srO_n (by omega)]
      refine ⟨M, ?_, h, hf⟩
      rw [f_X11_mendsBy_58, if_neg (show ¬ nI 3 ≤ 2 by decide)]
      unfold f_X11_mendsBy_73
      rw [if_pos (nI_le (by omega) (by omega)), bn_s, nI_1]
  · rw [if_neg h3]
    have hn2 : nI n ≤ 2 := nI_le (b := 2) (by omega) (by omega)
    have er : rpn n a b (b + 1) = rpn n a b 0 := by
      match n, hn, h3 with
      | 0, _, _ => rfl
      | 1, _, _ => rfl
      | 2, _, _ => rfl
      | 3, _, g => exact absurd rfl g
    have key := t73 hw h hf hn (hl (b + 1) (by omega) (fun g => absurd g h3)) (a := a) (b := b) (by omega) (by omega) (by omega) K17 K35 (f_X11_mendsBy_58 K17 K35 1023) (nI (zplan s).1) 0 (s0 := nI b + 2) (s1 := nI (b + 1)) (by rw [nI_2]; exact nI_ge (by omega) (by omega))
    have e : f_X11_mendsBy_58 K17 K35 1024 0 (nI n) (nI (zplan s).1) (nI a) (nI b) (nI (b + 1)) M = f_X11_mendsBy_73 K17 K35 (f_X11_mendsBy_58 K17 K35 1023) 0 (nI n) (nI (zplan s).1) (nI a) (nI b) (nI (b + 1)) (nI b + 2) (nI (b + 1)) M := by
      rw [f_X11_mendsBy_58, if_pos hn2]
    rw [← e, er] at key
    refine key.ch (fun M' c f => ⟨M', ?_, c, f⟩)
    show f_X11_mendsBy_58 K17 K35 1023 0 (nI n) (nI (zplan s).1) (nI a) (nI b) (nI (b + 1 + 1)) M' = _
    rw [f_X11_mendsBy_58, if_pos hn2]
    unfold f_X11_mendsBy_73
    rw [nI_2, if_pos (nI_le (Nat.le_refl _) (by omega)), bn_s, nI_1]

theorem t35 {s : St} (hw : WF s) {M0 M : MM} (h : RC s M) (hf : Fr cW M0 M) {n a : Nat} (hn : n ≤ 3) (hz : n ≤ (zplan s).1) (ha : 1 ≤ n → a < (zplan s).1) (ha0 : n = 0 → a = 0) (K17 : Nat → Int32 → Int32 → Int32 → MM → Option (Int32 × MM)) : OUT s M0 (fun M' => K17 0 (nI n) (nI (zplan s).1) (nI (a + 1)) M') (if 2 ≤ n then srO s (zplan s) (n - 1) [a] (a + 1) else srO s (zplan s) 0 (rpn n a 0 0) 0) (f_X11_mendsBy_35 K17 1024 0 (nI n) (nI (zplan s).1) (nI a) (nI (a + 1)) M) := by
  have h12 := hw.2.2.2.2.1.1
  have ha12 : a < 12 := by
    by_cases g : n = 0
    · rw [ha0 g]; decide
    · have := ha (by omega); omega
  by_cases h2 : 2 ≤ n
  · have hn1 : ¬ nI n ≤ 1 := nI_ge (a := 1) (by omega) (by omega)
    have ha' := ha (by omega)
    rw [if_pos h2]
    have es : srO s (zplan s) (n - 1) [a] (a + 1) = fzO (fun b => srO s (zplan s) (n - 2) [b, a] (b + 1)) ((zplan s).1 - (a + 1)) (a + 1) := by
      rw [show n - 1 = (n - 2) + 1 by omega]
      rfl
    rw [es]
    exact lpS (fun fu k N => f_X11_mendsBy_35 K17 fu 0 (nI n) (nI (zplan s).1) (nI a) (nI k) N) (fun N => RC s N ∧ Fr cW M0 N) (fun b => srO s (zplan s) (n - 2) [b, a] (b + 1)) (fun res o => OUT s M0 (fun M' => K17 0 (nI n) (nI (zplan s).1) (nI (a + 1)) M') res o) (zplan s).1 (a + 1) (fun fu k N hik hk hI => by
        have key := t58 hw hI.1 hI.2 hn (a := a) (b := k) (by omega) (by omega) (fun c hc hc3 => by
          match n, hn, h2 with
          | 2, _, _ => exact ⟨hk, by omega, trivial⟩
          | 3, _, _ => exact ⟨hc3 rfl, hc, by omega, trivial⟩) K17 (f_X11_mendsBy_35 K17 fu)
        have e : f_X11_mendsBy_35 K17 (fu + 1) 0 (nI n) (nI (zplan s).1) (nI a) (nI k) N = f_X11_mendsBy_58 K17 (f_X11_mendsBy_35 K17 fu) 1024 0 (nI n) (nI (zplan s).1) (nI a) (nI k) (nI (k + 1)) N := by
          rw [f_X11_mendsBy_35, if_neg hn1]
          unfold f_X11_mendsBy_49
          rw [if_neg (nI_ge hk (by omega)), bn_s, nI_1]
        have er : (if n = 3 then srO s (zplan s) 1 [k, a] (k + 1) else srO s (zplan s) 0 (rpn n a k 0) 0) = srO s (zplan s) (n - 2) [k, a] (k + 1) := by
          match n, hn, h2 with
          | 2, _, _ => rfl
          | 3, _, _ => rfl
        rw [← e, er] at key
        cases hr : srO s (zplan s) (n - 2) [k, a] (k + 1) with
        | some v => rw [hr] at key; exact Or.inl ⟨v, rfl, key⟩
        | none =>
          rw [hr] at key
          exact Or.inr ⟨rfl, key⟩) (fun fu N hI => by
        refine ⟨N, ?_, hI⟩
        show f_X11_mendsBy_35 K17 (fu + 1) _ _ _ _ _ _ = _
        rw [f_X11_mendsBy_35, if_neg hn1]
        unfold f_X11_mendsBy_49
        rw [if_pos (nI_le (Nat.le_refl _) (by omega)), bn_s, nI_1]) ((zplan s).1 - (a + 1)) 1024 (a + 1) M (Nat.le_refl _) (by omega) (by omega) ⟨h, hf⟩
  · rw [if_neg h2]
    have hn1 : nI n ≤ 1 := nI_le (b := 1) (by omega) (by omega)
    have er : (if n = 3 then srO s (zplan s) 1 [a + 1, a] (a + 1 + 1) else srO s (zplan s) 0 (rpn n a (a + 1) 0) 0) = srO s (zplan s) 0 (rpn n a 0 0) 0 := by
      match n, h2 with
      | 0, _ => rfl
      | 1, _ => rfl
      | n + 2, g => exact absurd (by omega) g
    have key := t58 hw h hf hn (a := a) (b := a + 1) (by omega) (by omega) (fun c hc hc3 => by
      match n, h2, ha with
      | 0, _, _ => exact trivial
      | 1, _, ha => exact ⟨ha (by omega), trivial⟩
      | n + 2, g, _ => exact absurd (by omega) g) K17 (f_X11_mendsBy_35 K17 1023)
    have e : f_X11_mendsBy_35 K17 1024 0 (nI n) (nI (zplan s).1) (nI a) (nI (a + 1)) M = f_X11_mendsBy_58 K17 (f_X11_mendsBy_35 K17 1023) 1024 0 (nI n) (nI (zplan s).1) (nI a) (nI (a + 1)) (nI (a + 1 + 1)) M := by
      rw [f_X11_mendsBy_35, if_pos hn1]
      unfold f_X11_mendsBy_49
      rw [nI_2, if_neg (nI_ge (by omega) (by omega)), bn_s, nI_1]
    rw [← e, er] at key
    refine key.ch (fun M' c f => ⟨M', ?_, c, f⟩)
    show f_X11_mendsBy_35 K17 1023 0 (nI n) (nI (zplan s).1) (nI a) (nI (a + 1 + 1)) M' = _
    rw [f_X11_mendsBy_35, if_pos hn1]
    unfold f_X11_mendsBy_49
    rw [nI_2, if_pos (nI_le (Nat.le_refl _) (by omega)), bn_s, nI_1]
theorem t17 {s : St} (hw : WF s) {M : MM} (h : RC s M) {n : Nat} (hn : n ≤ 3) : OUT s M (fun M' => some (0, M')) (srO s (zplan s) n [] 0) (f_X11_mendsBy 0 (nI n) M) := by
  have h12 := hw.2.2.2.2.1.1
  unfold f_X11_mendsBy f_X11_mendsBy_0
  rw [if_pos (sh_O h.1 11 (by decide) rfl), sh_R h.1 (a := 0) (k := 3) (b := 14) 11 (by decide) rfl (by decide), b1_s, c_size (h.cx hw), b1_s]
  by_cases hz : n ≤ (zplan s).1
  · rw [if_pos (nI_le hz (by omega))]
    by_cases h0 : n = 0
    · subst h0
      have key := t35 hw h (Fr.rf M) (n := 0) (a := 0) (by omega) (by omega) (by omega) (fun _ => rfl) (f_X11_mendsBy_17 1023)
      rw [if_neg (by omega)] at key
      have e : f_X11_mendsBy_17 1024 0 (nI 0) (nI (zplan s).1) 0 M = f_X11_mendsBy_35 (f_X11_mendsBy_17 1023) 1024 0 (nI 0) (nI (zplan s).1) (nI 0) (nI (0 + 1)) M := by
        rw [f_X11_mendsBy_17, if_pos (show nI 0 ≤ 0 by decide)]
        unfold f_X11_mendsBy_27
        rw [if_neg (by decide), bn_s]
        rfl
      rw [e]
      refine key.ch (fun M' c f => ⟨M', ?_, c, f⟩)
      show f_X11_mendsBy_17 1023 0 (nI 0) (nI (zplan s).1) (nI (0 + 1)) M' = _
      rw [f_X11_mendsBy_17, if_pos (show nI 0 ≤ 0 by decide)]
      unfold f_X11_mendsBy_27
      rw [if_pos (by decide), rz0]
    · have hn0 : ¬ nI n ≤ 0 := nI_ge (a := 0) (by omega) (by omega)
      have es : srO s (zplan s) n [] 0 = fzO (fun b => srO s (zplan s) (n - 1) [b] (b + 1)) ((zplan s).1 - 0) 0 := by
        rw [show n = (n - 1) + 1 by omega]
        rfl
      rw [es]
      have key := lpS (fun fu k N => f_X11_mendsBy_17 fu 0 (nI n) (nI (zplan s).1) (nI k) N) (fun N => RC s N ∧ Fr cW M N) (fun b => srO s (zplan s) (n - 1) [b] (b + 1)) (fun res o => OUT s M (fun M' => some (0, M')) res o) (zplan s).1 0 (fun fu k N hik hk hI => by
          have key := t35 hw hI.1 hI.2 hn hz (a := k) (fun _ => hk) (fun g => absurd g h0) (f_X11_mendsBy_17 fu)
          have e : f_X11_mendsBy_17 (fu + 1) 0 (nI n) (nI (zplan s).1) (nI k) N = f_X11_mendsBy_35 (f_X11_mendsBy_17 fu) 1024 0 (nI n) (nI (zplan s).1) (nI k) (nI (k + 1)) N := by
            rw [f_X11_mendsBy_17, if_neg hn0]
            unfold f_X11_mendsBy_27
            rw [if_neg (nI_ge hk (by omega)), bn_s, nI_1]
          have er : (if 2 ≤ n then srO s (zplan s) (n - 1) [k] (k + 1) else srO s (zplan s) 0 (rpn n k 0 0) 0) = srO s (zplan s) (n - 1) [k] (k + 1) := by
            match n, h0 with
            | 0, g => exact absurd rfl g
            | 1, _ => rfl
            | n + 2, _ => rw [if_pos (by omega)]
          rw [← e, er] at key
          cases hr : srO s (zplan s) (n - 1) [k] (k + 1) with
          | some v => rw [hr] at key; exact Or.inl ⟨v, rfl, key⟩
          | none =>
            rw [hr] at key
            exact Or.inr ⟨rfl, key⟩) (fun fu N hI => by
          refine ⟨N, ?_, hI⟩
          show f_X11_mendsBy_17 (fu + 1) _ _ _ _ _ = _
          rw [f_X11_mendsBy_17, if_neg hn0]
          unfold f_X11_mendsBy_27
          rw [if_pos (nI_le (Nat.le_refl _) (by omega)), rz0]) ((zplan s).1 - 0) 1024 0 M (Nat.le_refl _) (by omega) (by omega) ⟨h, Fr.rf M⟩
      exact key
  · rw [if_neg (nI_ge (by omega) (by omega)), rz0]
    have es : srO s (zplan s) n [] 0 = none := by
      rw [show n = (n - 1) + 1 by omega]
      exact srO_n (by omega)
    rw [es]
    exact ⟨M, rfl, h, Fr.rf M⟩
theorem C_mend {s : St} (hw : WF s) : OpC (fun M => f_X11_mend 0 M) s (a_mend s) (n_mend s) := by
  intro M h
  show ∃ M', f_X11_mend 0 M = _ ∧ _
  unfold f_X11_mend f_X11_mend_0
  rw [if_pos (sh_O h.1 11 (by decide) rfl)]
  have key : ∀ m n f N', m + n = 4 → m < f → RC s N' → Fr cW M N' → ∃ M', f_X11_mend_2 f 0 (nI n) N' = some (mdA (mdF s m n), M') ∧ RC (mdS s (mdF s m n)) M' ∧ Fr cW M M' := by
    intro m
    induction m with
    | zero =>
      intro n f N' hm hf c g
      cases f with
      | zero => exact absurd hf (by omega)
      | succ f =>
        refine ⟨N', ?_, c, g⟩
        rw [f_X11_mend_2, if_pos (show (3 : Int32) < nI n by rw [show n = 4 by omega]; decide)]
        rfl
    | succ m ih =>
      intro n f N' hm hf c g
      cases f with
      | zero => exact absurd hf (by omega)
      | succ f =>
        have key := t17 hw c (n := n) (by omega)
        rw [f_X11_mend_2, if_neg (show ¬ (3 : Int32) < nI n from nI_nlt (a := 3) (by omega) (by omega))]
        cases hr : srO s (zplan s) n [] 0 with
        | none =>
          rw [hr] at key
          obtain ⟨M1, e1, c1, f1⟩ := key
          rw [e1, b2_s, if_pos rfl, bn_s, nI_1, mdF_f hr]
          exact ih (n + 1) f M1 (by omega) (by omega) c1 (g.tr f1)
        | some v =>
          rw [hr] at key
          obtain ⟨M1, e1, c1, f1⟩ := key
          rw [e1, b2_s, if_neg (by decide), mdF_t hr]
          exact ⟨M1, rfl, c1, g.tr f1⟩
  exact key 4 0 1024 M rfl (by omega) h (Fr.rf M)
theorem case_30 : CaseOK g_L_30 := by
  intro L xs j K M hL hj hc
  obtain ⟨s, hw, hc, hr⟩ := hc
  obtain ⟨M1, M2, hcp, e1, e2⟩ := asm (C_mend hw) (R_mend hw) (W_mend hw) hc hr
  refine ⟨M2, hcp, ?_⟩
  unfold g_L_30
  simp only [show (nI j + 1 : Int32) = nI (j + 1) from nI_add _ 1, show (nI j + 2 : Int32) = nI (j + 2) from nI_add _ 2, show (nI j + 3 : Int32) = nI (j + 3) from nI_add _ 3, show (nI j + 4 : Int32) = nI (j + 4) from nI_add _ 4, scr_k (show j + 1 < L by omega) hL, scr_k (show j + 2 < L by omega) hL, scr_k (show j + 3 < L by omega) hL, scr_k (show j + 4 < L by omega) hL, b1_s, e1, e2, b2_s, if_true]

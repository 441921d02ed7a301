/-! wishes -/
def wiJ (s : St) : Nat := fa_first (fun k => !dB (ztap s) (zL s) k) (zE s)
def wiK (s : St) : Prop := wiJ s = zE s ∧ zL s = zE s
def zswi (s : St) (p : Nat) (g : Nat → Nat) : St := (fun a k => if a = 8 ∧ 8 * p ≤ k ∧ k < 8 * p + zE s then g (k - 8 * p) else s.1 a k, s.2)
def a_wishes (s : St) (x : Int32) : Int32 := if ixP x (zP s) = true then (if wiJ s = zE s ∧ zL s = zE s then nI (zE s) else -1 - nI (wiJ s)) else -100
def n_wishes (s : St) (x : Int32) : St := if ixP x (zP s) = true ∧ wiJ s = zE s ∧ zL s = zE s then zswi (z0 s) x.toNatClampNeg (fun k => ztap s k - 48) else z0 s
theorem wi_d {s : St} (h : wiJ s = zE s) {k : Nat} (hk : k < zE s) : dB (ztap s) (zL s) k = true := by
  have := fa_first_no (fun k => !dB (ztap s) (zL s) k) (zE s) k (by show k < wiJ s; omega)
  cases hd : dB (ztap s) (zL s) k with
  | true => rfl
  | false => rw [hd] at this; cases this
theorem wi_b {s : St} {k : Nat} (hk : k < wiJ s) : dB (ztap s) (zL s) k = true := by
  have := fa_first_no (fun k => !dB (ztap s) (zL s) k) (zE s) k hk
  cases hd : dB (ztap s) (zL s) k with
  | true => rfl
  | false => rw [hd] at this; cases this
theorem wi_n {s : St} (h : wiJ s < zE s) : dB (ztap s) (zL s) (wiJ s) = false := by
  have := fa_first_yes (fun k => !dB (ztap s) (zL s) k) (zE s) h
  have g : (!dB (ztap s) (zL s) (wiJ s)) = true := this
  cases hd : dB (ztap s) (zL s) (wiJ s) with
  | false => rfl
  | true => rw [hd] at g; cases g
theorem W_zswi {s : St} (hw : WF s) {p : Nat} (hp : p < zP s) {g : Nat → Nat} (hg : ∀ k, k < zE s → g k ≤ 9) : WF (zswi s p g) := by
  obtain ⟨a, b, c, d, e⟩ := hw
  refine ⟨a, ⟨b.1, b.2.1, fun p' e' hp' he' => ?_⟩, c, d, e⟩
  show (if 8 = 8 ∧ 8 * p ≤ 8 * p' + e' ∧ 8 * p' + e' < 8 * p + zE s then _ else _) ≤ 9
  split
  · rename_i h; exact hg _ (by omega)
  · exact b.2.2 p' e' hp' he'
theorem W_wishes {s : St} (hw : WF s) (x : Int32) : WF (n_wishes s x) := by
  have hP := hw.1.1
  unfold n_wishes
  split
  · rename_i h
    obtain ⟨p, hp, rfl⟩ := ix_ex (by omega) h.1
    rw [nI_clamp (by omega)]
    refine W_zswi (W_z0 hw) hp (fun k hk => ?_)
    have := of_decide_eq_true (wi_d h.2.1 (show k < zE s from hk))
    omega
  · exact W_z0 hw
theorem RC.wi {s : St} {M M' : MM} (h : RC s M) {W : Nat → Nat → Prop} (f : Fr W M M') (hs : Sh M') {p : Nat} {g : Nat → Nat} (w : ∀ a k, a < 143 → (a ≠ 13 ∧ ¬ (a = 1 ∧ k = 4)) → ¬ W a k) (hp : p < zP s) (hE : zE s ≤ 8) (h1 : ∀ e, e < zE s → mI M' 13 (8 * p + e) = nI (g e)) (h2 : ∀ k, (k < 8 * p ∨ 8 * p + zE s ≤ k) → mI M' 13 k = mI M 13 k) : RC (zswi s p g) M' := by
  have hh := h.2.2.2.1
  have fI : ∀ a k, a < 143 → (a ≠ 13 ∧ ¬ (a = 1 ∧ k = 4)) → mI M' a k = mI M a k := fun a k q1 q2 => f.2.2.1 a k (w a k q1 q2)
  refine ⟨hs, (h.2.1.fr f (fun a k q => w a k (by omega) (by omega))), (h.2.2.1.fr f (fun a k q => w a k (by omega) (by omega))), ⟨?_, ?_, ?_, fun p' hp' => ?_, fun e he => ?_, fun p' e hp' he => ?_, fun p' e hp' hq he => ?_⟩, (h.2.2.2.2.1.frw f (fun a k q => w a k (by omega) (by omega))), (h.2.2.2.2.2.1.fr f (fun a k q => w a k (by omega) (by omega))), (h.2.2.2.2.2.2.1.fr f (fun a k q => w a k (by omega) (by omega))), (h.2.2.2.2.2.2.2.1.fr f (fun a k q => w a k (by omega) (by omega))), (h.2.2.2.2.2.2.2.2.fr f (fun a k q => w a k (by omega) (by omega)))⟩
  · rw [fI 5 7 (by decide) (by omega)]; exact hh.1
  · rw [fI 5 8 (by decide) (by omega)]; exact hh.2.1
  · rw [fI 5 9 (by decide) (by omega)]; exact hh.2.2.1
  · rw [fI 6 p' (by decide) (by omega)]; exact hh.2.2.2.1 p' hp'
  · rw [fI 7 e (by decide) (by omega), fI 8 e (by decide) (by omega), fI 9 e (by decide) (by omega), fI 10 e (by decide) (by omega), fI 11 e (by decide) (by omega), fI 12 e (by decide) (by omega)]
    exact hh.2.2.2.2.1 e he
  · have hp2 : p' < zP s := hp'
    show _ = nI (if 8 = 8 ∧ 8 * p ≤ 8 * p' + e ∧ 8 * p' + e < 8 * p + zE s then g (8 * p' + e - 8 * p) else s.1 8 (8 * p' + e))
    by_cases hc : 8 * p ≤ 8 * p' + e ∧ 8 * p' + e < 8 * p + zE s
    · rw [if_pos ⟨rfl, hc⟩]
      have := h1 (8 * p' + e - 8 * p) (by omega)
      rw [show 8 * p + (8 * p' + e - 8 * p) = 8 * p' + e by omega] at this
      exact this
    · rw [if_neg (fun q => hc q.2), h2 _ (by omega)]
      exact hh.2.2.2.2.2.1 p' e hp2 he
  · have hq2 : zP s ≤ p' := hp'
    rw [h2 _ (by omega)]
    exact hh.2.2.2.2.2.2 p' e hq2 hq he
theorem RR.wi {s : St} {M M' : MM} (h : RR s M) {W : Nat → Nat → Prop} (f : Fr W M M') (hs : Sh M') {p : Nat} {g : Nat → Nat} (w : ∀ a k, 143 ≤ a → ¬ wR a k → a ≠ 146 → ¬ W a k) (hp : p < zP s) (hE : zE s ≤ 8) (h1 : ∀ e, e < zE s → mI M' 146 (8 * p + e) = nI (g e)) (h2 : ∀ k, (k < 8 * p ∨ 8 * p + zE s ≤ k) → mI M' 146 k = mI M 146 k) : RR (zswi s p g) M' := by
  have hh := h.2.2.2.1
  have fI : ∀ a k, 143 ≤ a → ¬ wR a k → a ≠ 146 → mI M' a k = mI M a k := fun a k q1 q2 q3 => f.2.2.1 a k (w a k q1 q2 q3)
  refine ⟨hs, (h.2.1.fr f (fun a k q => w a k (by omega) (by unfold wR; omega) (by omega))), (h.2.2.1.fr f (fun a k q => w a k (by omega) (by unfold wR; omega) (by omega))), ⟨?_, ?_, ?_, fun p' hp' => ?_, fun e he => ?_, fun p' e hp' he => ?_⟩, (h.2.2.2.2.1.frw f (fun a k q => w a k (by omega) (by unfold wR; omega) (by omega))), (h.2.2.2.2.2.1.fr f (fun a k q => w a k (by omega) (by unfold wR; omega) (by omega))), (h.2.2.2.2.2.2.1.fr f (fun a k q => w a k (by omega) (by unfold wR; omega) (by omega))), (h.2.2.2.2.2.2.2.1.fr f (fun a k q => w a k (by omega) (by unfold wR; omega) (by omega))), (h.2.2.2.2.2.2.2.2.fr f (fun a k q => w a k (by omega) (by unfold wR; omega) (by omega)))⟩
  · rw [fI 143 3 (by decide) (by unfold wR; omega) (by omega)]; exact hh.1
  · rw [fI 143 4 (by decide) (by unfold wR; omega) (by omega)]; exact hh.2.1
  · rw [fI 143 6 (by decide) (by unfold wR; omega) (by omega)]; exact hh.2.2.1
  · rw [fI 145 p' (by decide) (by unfold wR; omega) (by omega)]; exact hh.2.2.2.1 p' hp'
  · rw [fI 147 e (by decide) (by unfold wR; omega) (by omega), fI 148 e (by decide) (by unfold wR; omega) (by omega), fI 149 e (by decide) (by unfold wR; omega) (by omega), fI 150 e (by decide) (by unfold wR; omega) (by omega), fI 151 e (by decide) (by unfold wR; omega) (by omega), fI 152 e (by decide) (by unfold wR; omega) (by omega)]
    exact hh.2.2.2.2.1 e he
  · have hp2 : p' < zP s := hp'
    show _ = nI (if 8 = 8 ∧ 8 * p ≤ 8 * p' + e ∧ 8 * p' + e < 8 * p + zE s then g (8 * p' + e - 8 * p) else s.1 8 (8 * p' + e))
    by_cases hc : 8 * p ≤ 8 * p' + e ∧ 8 * p' + e < 8 * p + zE s
    · rw [if_pos ⟨rfl, hc⟩]
      have := h1 (8 * p' + e - 8 * p) (by omega)
      rw [show 8 * p + (8 * p' + e - 8 * p) = 8 * p' + e by omega] at this
      exact this
    · rw [if_neg (fun q => hc q.2), h2 _ (by omega)]
      exact hh.2.2.2.2.2 p' e hp2 he
theorem C_wishes {s : St} (hw : WF s) (x : Int32) : OpC (fun M => f_X11_wishes 0 x M) s (a_wishes s x) (n_wishes s x) := by
  intro M h
  have h0 := h.1
  have hP := hw.1.1
  have hE := hw.1.2.1
  have hL := hw.1.2.2.2.2.2.2.1
  have hwz := W_z0 hw
  obtain ⟨M1, e1, c1, f1, r1⟩ := c_begin' hw h (m := 80) (by decide)
  rw [show min (zL s) 80 = zL s by omega] at c1
  show ∃ M', f_X11_wishes 0 x M = _ ∧ _
  unfold f_X11_wishes f_X11_wishes_0
  rw [if_pos (sh_O h0 11 (by decide) rfl), sh_R h0 (a := 0) (k := 0) (b := 1) 11 (by decide) rfl (by decide), b1_s, show (80 : Int32) = nI 80 from rfl, e1, b1_s, sh_R c1.1.1 (a := 0) (k := 2) (b := 5) 11 (by decide) rfl (by decide), b1_s, e_hasP hwz c1.1, b2_s]
  by_cases hx : ixP x (zP s) = true
  · obtain ⟨p, hp, rfl⟩ := ix_ex (by omega) hx
    have hle := fa_first_le (fun k => !dB (ztap s) (zL s) k) (zE s)
    have hle' : wiJ s ≤ zE s := hle
    rw [if_pos (show ixP (nI p) (zP (z0 s)) = true from hx), if_neg (by decide), show a_wishes s (nI p) = _ from if_pos hx]
    have key := lpm (fun f k N => f_X11_wishes_25 f 0 (nI p) (nI k) N) (fun k N => TC (z0 s) (ztap s) (zL s) (zL s) k N ∧ Fr cW M1 N) (fun r => r.1 = (if wiJ s = zE s ∧ zL s = zE s then nI (zE s) else -1 - nI (wiJ s)) ∧ RC (n_wishes s (nI p)) r.2 ∧ Fr cW M1 r.2) (wiJ s) (fun f k N hk hi => by
      left
      have hd := wi_b hk
      have hdd := of_decide_eq_true hd
      obtain ⟨N1, e1, c1, f1, r1⟩ := tc_digit hi.1 (lo := 0) (by decide)
      rw [(dg_d _ _ _).2, if_pos hd] at c1
      rw [(dg_d _ _ _).1, if_pos hd] at e1
      refine ⟨N1, ?_, c1, hi.2.tr (w14_cW f1)⟩
      show f_X11_wishes_25 (f + 1) _ _ _ _ = _
      rw [f_X11_wishes_25, sh_R hi.1.1.1 (a := 0) (k := 2) (b := 5) 11 (by decide) rfl (by decide), b1_s, gI_k 8 (sh_O hi.1.1.1 9 (by decide) rfl), b1_s, hi.1.1.2.2.2.1.2.1]
      show (if nI (zE s) ≤ nI k then _ else _) = _
      rw [if_neg (nI_ge (by omega) (by omega)), sh_R hi.1.1.1 (a := 0) (k := 0) (b := 1) 11 (by decide) rfl (by decide), b1_s, show (0 : Int32) = nI 0 from rfl, e1, b2_s]
      show (if nI 0 ≤ nI (ztap s k - 48) then _ else _) = _
      rw [if_pos (nI_le (by omega) (by omega)), bn_s, nI_1]) (fun f N hi => by
      show ∃ r, f_X11_wishes_25 (f + 1) _ _ _ _ = _ ∧ _
      rw [f_X11_wishes_25, sh_R hi.1.1.1 (a := 0) (k := 2) (b := 5) 11 (by decide) rfl (by decide), b1_s, gI_k 8 (sh_O hi.1.1.1 9 (by decide) rfl), b1_s, hi.1.1.2.2.2.1.2.1]
      show ∃ r, (if nI (zE s) ≤ nI (wiJ s) then _ else _) = _ ∧ _
      have hJ := hi.1.2.2.2.2.2.2.2.1
      by_cases hj : wiJ s = zE s
      · rw [if_pos (by rw [hj]; exact nI_le (Nat.le_refl _) (by omega)), sh_R hi.1.1.1 (a := 0) (k := 0) (b := 1) 11 (by decide) rfl (by decide), b1_s, tc_end hi.1, b2_s]
        by_cases hz : zL s = zE s
        · rw [decide_eq_true (by omega), if_neg (show ¬ bI true = 0 by decide), sh_R hi.1.1.1 (a := 0) (k := 0) (b := 1) 11 (by decide) rfl (by decide), b1_s]
          have m0 := hi.1.mv (a' := 0) (by omega)
          have er : f_X10_rewind 1 N = some (sI N 1 4 (nI 0)) := by
            unfold f_X10_rewind f_X10_rewind_0
            rw [if_pos (tc_O hi.1), pI_k 4 _ (tc_O hi.1), b1_s]; rfl
          rw [er, b1_s]
          obtain ⟨f', N2, e2, i2⟩ := lpg (fun f k N' => f_X11_wishes_88 f 0 (nI p) (nI k) N') (fun k N' => mI N' 1 4 = nI k ∧ mR N' = mR N ∧ Fr (fun a j => a = 13 ∨ (a = 1 ∧ j = 4)) N N' ∧ (∀ e, e < k → mI N' 13 (8 * p + e) = nI (ztap s e - 48)) ∧ (∀ j, (j < 8 * p ∨ 8 * p + k ≤ j) → mI N' 13 j = mI N 13 j)) (zE s) (fun f k N' hk hi' => by
            obtain ⟨i1, i2, i3, i4, i5⟩ := hi'
            have sN' := i3.sh' i2 hi.1.1.1
            have hd := wi_d hj hk
            have hdd := of_decide_eq_true hd
            have hO1 : isO 10 1 N' = true := sh_O sN' 10 (by decide) rfl
            have hl' : mI N' 1 3 = nI (zL s) := by rw [i3.2.2.1 1 3 (by omega)]; exact hi.1.2.2.1
            have ht' : mI N' 2 k = nI (ztap s k) := by rw [i3.2.2.1 2 k (by omega)]; exact hi.1.2.2.2.2.1 k (by omega)
            have ed : f_X10_digit 1 0 N' = some (nI (ztap s k - 48), sI N' 1 4 (nI (k + 1))) := by
              have t : (nI (ztap s k) - 48) = nI (ztap s k - 48) := pk_sub (a := ztap s k) (b := 48) (by omega)
              unfold f_X10_digit f_X10_digit_0 f_X10_digit_33 f_X10_digit_34
              rw [if_pos hO1, gI_k 4 hO1, b1_s, i1, if_neg (nI_pos (by omega)), b1_s, gI_k 3 hO1, b1_s, hl', if_neg (nI_ge (by omega) (by omega)), sh_R sN' (a := 1) (k := 0) (b := 2) 10 (by decide) rfl (by decide), b1_s, b1_s, ld_2 sN' (by omega), b1_s, ht', t, if_neg (nI_pos (by omega)), if_pos (show nI (ztap s k - 48) ≤ (9 : Int32) from nI_le (b := 9) (by omega) (by decide)), b1_s, nI_1, pI_k 4 _ hO1, b1_s]
            have s1' : Sh (sI N' 1 4 (nI (k + 1))) := sN'
            have g7 : mI (sI N' 1 4 (nI (k + 1))) 5 7 = nI (zP s) := by rw [mI_w, if_neg (by omega), i3.2.2.1 5 7 (by omega)]; exact hi.1.1.2.2.2.1.1
            have g8 : mI (sI N' 1 4 (nI (k + 1))) 5 8 = nI (zE s) := by rw [mI_w, if_neg (by omega), i3.2.2.1 5 8 (by omega)]; exact hi.1.1.2.2.2.1.2.1
            have es : f_X9_setWish 5 (nI p) (nI k) (nI (ztap s k - 48)) (sI N' 1 4 (nI (k + 1))) = some (sI (sI N' 1 4 (nI (k + 1))) 13 (8 * p + k) (nI (ztap s k - 48))) := by
              unfold f_X9_setWish f_X9_setWish_0 f_X9_hasPerson f_X9_hasPerson_0 f_X9_hasErrand f_X9_hasErrand_0
              rw [if_pos (sh_O s1' 9 (by decide) rfl), if_pos (sh_O s1' 9 (by decide) rfl), if_neg (nI_pos (by omega)), gI_k 7 (sh_O s1' 9 (by decide) rfl), b1_s, g7, if_neg (nI_ge hp (by omega)), rz1, b2_s, if_neg (by decide), if_pos (sh_O s1' 9 (by decide) rfl), if_neg (nI_pos (by omega)), gI_k 8 (sh_O s1' 9 (by decide) rfl), b1_s, g8, if_neg (nI_ge hk (by omega)), rz1, b2_s, if_neg (by decide), sh_R s1' (a := 5) (k := 10) (b := 13) 9 (by decide) rfl (by decide), b1_s, nm8, nI_add, st_13 s1' _ (by omega), b1_s]
            refine ⟨sI (sI N' 1 4 (nI (k + 1))) 13 (8 * p + k) (nI (ztap s k - 48)), ?_, ?_, i2, (i3.sI (Or.inr ⟨rfl, rfl⟩)).sI (Or.inl rfl), fun e he => ?_, fun j hj' => ?_⟩
            · show f_X11_wishes_88 (f + 1) _ _ _ _ = _
              have g8' : mI N' 5 8 = nI (zE s) := by rw [i3.2.2.1 5 8 (by omega)]; exact hi.1.1.2.2.2.1.2.1
              rw [f_X11_wishes_88, sh_R sN' (a := 0) (k := 2) (b := 5) 11 (by decide) rfl (by decide), b1_s, gI_k 8 (sh_O sN' 9 (by decide) rfl), b1_s, g8', if_neg (nI_ge hk (by omega)), b1_s, sh_R sN' (a := 0) (k := 0) (b := 1) 11 (by decide) rfl (by decide), b1_s, ed, b2_s, es, b1_s, bn_s, nI_1]
            · rw [mI_w, if_neg (by omega), mI_w, if_pos ⟨rfl, rfl⟩]
            · rw [mI_w]
              by_cases hek : e = k
              · rw [if_pos ⟨rfl, by omega⟩, hek]
              · rw [if_neg (by omega), mI_w, if_neg (by omega)]; exact i4 e (by omega)
            · rw [mI_w, if_neg (by omega), mI_w, if_neg (by omega)]; exact i5 j (by omega)) 1024 0 (sI N 1 4 (nI 0)) (by omega) (by omega) ⟨by rw [mI_w, if_pos ⟨rfl, rfl⟩], rfl, (Fr.rf N).sI (Or.inr ⟨rfl, rfl⟩), fun e he => absurd he (Nat.not_lt_zero e), fun j hj' => by rw [mI_w, if_neg (by omega)]⟩
          obtain ⟨i1, i2', i3, i4, i5⟩ := i2
          have s2 := i3.sh' i2' hi.1.1.1
          have g8' : mI N2 5 8 = nI (zE s) := by rw [i3.2.2.1 5 8 (by omega)]; exact hi.1.1.2.2.2.1.2.1
          refine ⟨(nI (zE s), N2), ?_, by rw [if_pos ⟨hj, hz⟩], ?_, hi.2.tr (i3.mono (fun a k q => by unfold cW; omega))⟩
          · refine Eq.trans ?_ (e2.trans ?_)
            · show _ = f_X11_wishes_88 1024 0 (nI p) (nI 0) _
              rw [nI_0]
            · show f_X11_wishes_88 (f' + 1) _ _ _ _ = _
              rw [f_X11_wishes_88, sh_R s2 (a := 0) (k := 2) (b := 5) 11 (by decide) rfl (by decide), b1_s, gI_k 8 (sh_O s2 9 (by decide) rfl), b1_s, g8', if_pos (nI_le (Nat.le_refl _) (by omega)), b1_s, gI_k 8 (sh_O s2 9 (by decide) rfl), b1_s, g8']
          · rw [show n_wishes s (nI p) = zswi (z0 s) p (fun k => ztap s k - 48) by unfold n_wishes; rw [if_pos ⟨hx, hj, hz⟩, nI_clamp (by omega)]]
            exact hi.1.1.wi i3 s2 (fun a k q1 q2 g => by omega) hp hE i4 (fun k hk => i5 k hk)
        · rw [decide_eq_false (by omega), if_pos (show bI false = 0 from rfl), sh_R hi.1.1.1 (a := 0) (k := 0) (b := 1) 11 (by decide) rfl (by decide), b1_s, tc_ref hi.1, b2_s]
          refine ⟨_, rfl, by rw [if_neg (fun g => hz g.2)], ?_, hi.2⟩
          rw [show n_wishes s (nI p) = z0 s from if_neg (fun g => hz g.2.2)]
          exact hi.1.1
      · have hlt : wiJ s < zE s := by omega
        have hd := wi_n hlt
        obtain ⟨N1, e1, c1, f1, r1⟩ := tc_digit hi.1 (lo := 0) (by decide)
        rw [(dg_d _ _ _).2, if_neg (by rw [hd]; decide)] at c1
        rw [(dg_d _ _ _).1, if_neg (by rw [hd]; decide)] at e1
        rw [if_neg (nI_ge hlt (by omega)), sh_R hi.1.1.1 (a := 0) (k := 0) (b := 1) 11 (by decide) rfl (by decide), b1_s, show (0 : Int32) = nI 0 from rfl, e1, b2_s]
        refine ⟨(-1 - nI (wiJ s), N1), ?_, by rw [if_neg (fun g => hj g.1)], ?_, hi.2.tr (w14_cW f1)⟩
        · show (if nI 0 ≤ (-1 : Int32) then _ else _) = _
          rw [if_neg (by decide), sh_R c1.1.1 (a := 0) (k := 0) (b := 1) 11 (by decide) rfl (by decide), b1_s, tc_ref c1, b2_s]
        · rw [show n_wishes s (nI p) = z0 s from if_neg (fun g => hj g.2.1)]
          exact c1.1) 1024 0 M1 (by omega) (by omega) ⟨c1, Fr.rf M1⟩
    obtain ⟨r, e2, er, c2, f2⟩ := key
    refine ⟨r.2, ?_, c2, f1.tr f2⟩
    rw [nI_0] at e2
    exact e2.trans (by rw [← er])
  · rw [show a_wishes s x = -100 from if_neg hx, show n_wishes s x = z0 s from if_neg (fun g => hx g.1), if_neg (show ¬ ixP x (zP (z0 s)) = true from hx), if_pos rfl]
    exact ⟨M1, rfl, c1.1, f1⟩
theorem R_wishes {s : St} (hw : WF s) (x : Int32) : OpR (fun M => f_X12_wishes 143 x M) s (a_wishes s x) (n_wishes s x) := by
  intro M h
  obtain ⟨N, et, ht, ft, rt, t0, l0⟩ := r_thr0 h
  have hP := hw.1.1
  have hE := hw.1.2.1
  have hL := hw.1.2.2.2.2.2.2.1
  have hwz := W_z0 hw
  obtain ⟨M1, e1, c1, n1, f1, r1⟩ := r_begin' hw ht (m := 80) (by decide)
  rw [show min (zL s) 80 = zL s by omega] at c1
  show ∃ M', f_X12_wishes 143 x M = _ ∧ _
  unfold f_X12_wishes f_X12_wishes_0
  rw [if_pos (sh_O h.1 12 (by decide) rfl), et, b1_s, show (80 : Int32) = nI 80 from rfl, e1, b2_s, e_isP hwz c1.1, b2_s]
  by_cases hx : ixP x (zP s) = true
  · obtain ⟨p, hp, rfl⟩ := ix_ex (by omega) hx
    have hle := fa_first_le (fun k => !dB (ztap s) (zL s) k) (zE s)
    have hle' : wiJ s ≤ zE s := hle
    rw [if_pos (show ixP (nI p) (zP (z0 s)) = true from hx), if_neg (by decide), show a_wishes s (nI p) = _ from if_pos hx]
    have tail : ∀ N', TR (z0 s) (ztap s) (zL s) (zL s) (wiJ s) N' → (∀ k, k < wiJ s → mI N' 158 k = nI (ztap s k - 48)) → ∃ r, f_X12_wishes_59 143 (nI p) (nI (zL s)) (nI (wiJ s)) N' = some r ∧ (r.1 = (if wiJ s = zE s ∧ zL s = zE s then nI (zE s) else -1 - nI (wiJ s)) ∧ RR (n_wishes s (nI p)) r.2 ∧ Fr rW N' r.2 ∧ mR r.2 = mR N') := by
      intro N' hN hv
      have sN := hN.1.1
      have hO := tr_O hN
      have hJ := hN.2.2.2.2.2.2.1
      unfold f_X12_wishes_59
      rw [gI_k 4 hO, b1_s, hN.1.2.2.2.1.2.1]
      show ∃ r, (if nI (wiJ s) < nI (zE s) then _ else _) = _ ∧ _
      by_cases hj : wiJ s = zE s
      · rw [if_neg (by rw [hj]; exact nI_nlt (Nat.le_refl _) (by omega)), gI_k 19 hO, b1_s, hN.2.2.1]
        by_cases hz : zL s = zE s
        · rw [if_pos (nI_le (by omega) (by omega))]
          obtain ⟨N2, f', e2, cy⟩ := lcp (fun f k N2 => f_X12_wishes_85 f 143 (nI p) (nI k) N2) 146 (8 * p) (zE s) (fun k => mI N' 158 k) N' (fun f k N2 hk hc => by
            have s2 := hc.sh sN
            have e4 : mI N2 143 4 = nI (zE s) := by rw [hc.2.2.2.2, if_neg (by omega)]; exact hN.1.2.2.2.1.2.1
            show f_X12_wishes_85 (f + 1) _ _ _ _ = _
            rw [f_X12_wishes_85, gI_k 4 (sh_O s2 12 (by decide) rfl), b1_s, e4, if_neg (nI_ge hk (by omega)), sh_R s2 (a := 143) (k := 8) (b := 146) 12 (by decide) rfl (by decide), b1_s, sh_R s2 (a := 143) (k := 26) (b := 158) 12 (by decide) rfl (by decide), b1_s, ld_158 s2 (by omega), b1_s, n8m, nI_add, st_146 s2 _ (by omega), b1_s, bn_s, nI_1, hc.2.2.2.2, if_neg (by omega)]) (by omega)
          have s2 := cy.sh sN
          have e4 : mI N2 143 4 = nI (zE s) := by rw [cy.2.2.2.2, if_neg (by omega)]; exact hN.1.2.2.2.1.2.1
          refine ⟨(nI (zE s), N2), ?_, by rw [if_pos ⟨hj, hz⟩], ?_, cy.frm.mono (fun a k q => by unfold rW; omega), cy.2.2.2.1⟩
          · refine Eq.trans ?_ (e2.trans ?_)
            · show _ = f_X12_wishes_85 1024 143 (nI p) (nI 0) _
              rw [nI_0]
            · show f_X12_wishes_85 (f' + 1) _ _ _ _ = _
              rw [f_X12_wishes_85, gI_k 4 (sh_O s2 12 (by decide) rfl), b1_s, e4, if_pos (nI_le (Nat.le_refl _) (by omega)), b1_s]
          · rw [show n_wishes s (nI p) = zswi (z0 s) p (fun k => ztap s k - 48) by unfold n_wishes; rw [if_pos ⟨hx, hj, hz⟩, nI_clamp (by omega)]]
            refine hN.1.wi cy.frm s2 (fun a k q1 q2 q3 g => q3 g.1) hp hE (fun e he => ?_) (fun k hk => ?_)
            · have he' : e < zE s := he
              rw [cy.2.2.2.2, if_pos ⟨rfl, by omega, by omega⟩]
              show mI N' 158 (8 * p + e - 8 * p) = _
              rw [show 8 * p + e - 8 * p = e by omega]
              exact hv e (by omega)
            · have hk' : k < 8 * p ∨ 8 * p + zE s ≤ k := hk
              rw [cy.2.2.2.2, if_neg (by omega)]
        · rw [if_neg (nI_ge (by omega) (by omega)), b1_s]
          refine ⟨_, rfl, by rw [if_neg (fun g => hz g.2)], ?_, Fr.rf N', rfl⟩
          rw [show n_wishes s (nI p) = z0 s from if_neg (fun g => hz g.2.2)]
          exact hN.1
      · rw [if_pos (nI_lt (by omega) (by omega)), gI_k 19 hO, b1_s, hN.2.2.1]
        refine ⟨_, rfl, by rw [if_neg (fun g => hj g.1)], ?_, Fr.rf N', rfl⟩
        rw [show n_wishes s (nI p) = z0 s from if_neg (fun g => hj g.2.1)]
        exact hN.1
    have key := lpm (fun f k N' => f_X12_wishes_25 f 143 (nI p) (nI (zL s)) (nI k) N') (fun k N' => TR (z0 s) (ztap s) (zL s) (zL s) k N' ∧ (∀ j, j < k → mI N' 158 j = nI (ztap s j - 48)) ∧ Fr rW M1 N' ∧ mR N' = mR M1) (fun r => r.1 = (if wiJ s = zE s ∧ zL s = zE s then nI (zE s) else -1 - nI (wiJ s)) ∧ RR (n_wishes s (nI p)) r.2 ∧ Fr rW M1 r.2 ∧ mR r.2 = mR M1) (wiJ s) (fun f k N' hk hi => by
      left
      have hd := wi_b hk
      have hdd := of_decide_eq_true hd
      obtain ⟨N1, e1, c1, f1, r1⟩ := tr_digit hi.1 (lo := 0) (hi := 9) (by decide) (by decide)
      rw [(dg_d _ _ _).2, if_pos hd] at c1
      rw [(dg_d _ _ _).1, if_pos hd] at e1
      have c2 : TR (z0 s) (ztap s) (zL s) (zL s) (k + 1) (sI N1 158 k (nI (ztap s k - 48))) := ⟨c1.1.fr ((Fr.rf N1).sI (by unfold wR; omega)) c1.1.1, by rw [mI_w, if_neg (by omega)]; exact c1.2.1, by rw [mI_w, if_neg (by omega)]; exact c1.2.2.1, fun j hj => by rw [mI_w, if_neg (by omega)]; exact c1.2.2.2.1 j hj, c1.2.2.2.2⟩
      refine ⟨sI N1 158 k (nI (ztap s k - 48)), ?_, c2, fun j hj => ?_, (hi.2.2.1.tr (w19_rW f1)).sI (by unfold rW; omega), r1.trans hi.2.2.2⟩
      · show f_X12_wishes_25 (f + 1) _ _ _ _ _ = _
        rw [f_X12_wishes_25, gI_k 4 (tr_O hi.1), b1_s, hi.1.1.2.2.2.1.2.1]
        show (if nI (zE s) ≤ nI k then _ else _) = _
        rw [if_neg (nI_ge (by omega) (by omega)), tr_isd hi.1, b2_s, hd, if_neg (show ¬ bI true = 0 by decide), sh_R hi.1.1.1 (a := 143) (k := 26) (b := 158) 12 (by decide) rfl (by decide), b1_s, show (0 : Int32) = nI 0 from rfl, show (9 : Int32) = nI 9 from rfl, e1, b2_s]
        show b1 (stI 158 (nI k) (nI (ztap s k - 48)) N1) _ = _
        rw [st_158 c1.1.1 _ (by omega), b1_s, bn_s, nI_1]
      · rw [mI_w]
        by_cases hjk : j = k
        · rw [if_pos ⟨rfl, hjk⟩, hjk]
        · rw [if_neg (fun q => hjk q.2), f1.2.2.1 158 j (by unfold w19; omega)]; exact hi.2.1 j (by omega)) (fun f N' hi => by
      show ∃ r, f_X12_wishes_25 (f + 1) _ _ _ _ _ = _ ∧ _
      obtain ⟨r, e2, q1, q2, q3, q4⟩ := tail N' hi.1 hi.2.1
      refine ⟨r, ?_, q1, q2, hi.2.2.1.tr q3, q4.trans hi.2.2.2⟩
      rw [f_X12_wishes_25, gI_k 4 (tr_O hi.1), b1_s, hi.1.1.2.2.2.1.2.1]
      show (if nI (zE s) ≤ nI (wiJ s) then _ else _) = _
      by_cases hj : wiJ s = zE s
      · rw [if_pos (nI_le (by omega) (by omega)), e2]
      · rw [if_neg (nI_ge (by omega) (by omega)), tr_isd hi.1, b2_s, wi_n (by omega), if_pos (show bI false = 0 from rfl), e2]) 1024 0 M1 (by omega) (by omega) ⟨c1, fun j hj => absurd hj (Nat.not_lt_zero j), Fr.rf M1, rfl⟩
    obtain ⟨r, e2, er, c2, f2, r2⟩ := key
    refine ⟨r.2, ?_, c2, (ft.tr f1).tr f2, r2.trans (r1.trans rt)⟩
    rw [nI_0] at e2
    exact e2.trans (by rw [← er])
  · rw [show a_wishes s x = -100 from if_neg hx, show n_wishes s x = z0 s from if_neg (fun g => hx g.1), if_neg (show ¬ ixP x (zP (z0 s)) = true from hx), if_pos rfl]
    exact ⟨M1, rfl, c1.1, ft.tr f1, r1.trans rt⟩
theorem case_3 : CaseOK g_L_3 := by
  intro L xs j K M hL hj hc
  obtain ⟨s, hw, hc, hr⟩ := hc
  obtain ⟨M1, M2, hcp, e1, e2⟩ := asm (C_wishes hw (xs (j + 1))) (R_wishes hw (xs (j + 1))) (W_wishes hw (xs (j + 1))) hc hr
  refine ⟨M2, hcp, ?_⟩
  unfold g_L_3
  simp only [show (nI j + 1 : Int32) = nI (j + 1) from nI_add _ 1, show (nI j + 2 : Int32) = nI (j + 2) from nI_add _ 2, show (nI j + 3 : Int32) = nI (j + 3) from nI_add _ 3, show (nI j + 4 : Int32) = nI (j + 4) from nI_add _ 4, scr_k (show j + 1 < L by omega) hL, scr_k (show j + 2 < L by omega) hL, scr_k (show j + 3 < L by omega) hL, scr_k (show j + 4 < L by omega) hL, b1_s, e1, e2, b2_s, if_true]

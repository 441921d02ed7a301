/-! LOOK: who is where -/
theorem lpg {R : Type} (F : Nat → Nat → MM → Option R) (I : Nat → MM → Prop) (n : Nat) (hs : ∀ f k M, k < n → I k M → ∃ M', F (f + 1) k M = F f (k + 1) M' ∧ I (k + 1) M') : ∀ f k M, k ≤ n → n < f + k → I k M → ∃ f' M', F f k M = F (f' + 1) n M' ∧ I n M' := by
  intro f
  induction f with
  | zero => intro k M h1 h2; omega
  | succ f ih =>
    intro k M h1 h2 hi
    by_cases hk : k = n
    · subst hk; exact ⟨f, M, rfl, hi⟩
    · obtain ⟨M', e, hi'⟩ := hs f k M (by omega) hi
      rw [e]; exact ih (k + 1) M' (by omega) (by omega) hi'
def allB (P : Nat → Bool) : Nat → Bool
  | 0 => true
  | k + 1 => allB P k && P k
theorem allB_iff {P : Nat → Bool} : ∀ {n : Nat}, allB P n = true ↔ ∀ k, k < n → P k = true
  | 0 => ⟨fun _ k h => absurd h (Nat.not_lt_zero k), fun _ => rfl⟩
  | n + 1 => by
    rw [allB, Bool.and_eq_true, allB_iff]
    constructor
    · rintro ⟨h1, h2⟩ k hk
      by_cases e : k = n
      · rw [e]; exact h2
      · exact h1 k (by omega)
    · intro h
      exact ⟨fun k hk => h k (by omega), h n (by omega)⟩
def awP (s : St) (q : Pl) (p m i : Nat) : Bool := decide (tw (q.2 i) = p ∧ ts (q.2 i) ≤ m ∧ m < tback s (q.2 i))
def thB (s : St) (t m : Nat) : Bool := decide (ts t + zway s (te t) ≤ m ∧ m < ts t + zway s (te t) + zlas s (te t))
def seeB (s : St) (t : Nat) : Bool := decide (zsee s (te t) = 1)
def awF (s : St) (q : Pl) (n p m : Nat) : Bool := anyB (awP s q p m) n
def buF (s : St) (q : Pl) (n p m : Nat) : Bool := anyB (fun i => decide (tw (q.2 i) = p) && thB s (q.2 i) m) n
def seF (s : St) (q : Pl) (n p m : Nat) : Bool := anyB (fun i => seeB s (q.2 i) && (decide (tw (q.2 i) = p) && thB s (q.2 i) m)) n
def ovF (s : St) (q : Pl) (n m : Nat) : Bool := anyB (fun i => seeB s (q.2 i) && thB s (q.2 i) m) n
def baF (s : St) (q : Pl) (n m : Nat) : Bool := decide (m < zT s) && !ovF s q q.1 m && allB (fun p => awF s q q.1 p m) n
def neF (s : St) (q : Pl) (p n m : Nat) : Bool := decide (m < zT s) && !ovF s q q.1 m && allB (fun p' => decide (p' = p) || awF s q q.1 p' m) n
def LK (s : St) (q : Pl) (M : MM) (L : Nat) : Prop := (∀ p, p < zP s → MS M (L + 9 + 4 * p) (awF s q q.1 p) ∧ MS M (L + 10 + 4 * p) (buF s q q.1 p) ∧ MS M (L + 11 + 4 * p) (seF s q q.1 p) ∧ MS M (L + 12 + 4 * p) (neF s q p (zP s))) ∧ MS M (L + 4) (baF s q (zP s)) ∧ MS M (L + 6) (ovF s q q.1)
def wL (L a : Nat) : Prop := L + 4 ≤ a ∧ a ≤ L + 32
theorem se_ov {s : St} {q : Pl} {n p m : Nat} (h : seF s q n p m = true) : ovF s q n m = true := by
  obtain ⟨k, hk, hp⟩ := anyB_iff.mp h
  refine anyB_iff.mpr ⟨k, hk, ?_⟩
  simp only [Bool.and_eq_true] at hp ⊢
  exact ⟨hp.1, hp.2.2⟩
theorem rcHall.fl {W : Nat → Prop} {s : St} {M M' : MM} (h : rcHall s M) (f : FML W M M') : rcHall s M' := by unfold rcHall at *; rw [f.2.2.1]; exact h
theorem PL.fl {W : Nat → Prop} {a : Nat} {q : Pl} {M M' : MM} (h : PL M a q) (f : FML W M M') : PL M' a q := by unfold PL at *; rw [f.2.2.1]; exact h
theorem CX.fl {W : Nat → Prop} {s : St} {M M' : MM} {a : Nat} {q : Pl} (h : CX s M a q) (f : FML W M M') : CX s M' a q := ⟨f.sh h.1, h.2.1.fl f, h.2.2.1, h.2.2.2.1, h.2.2.2.2.1, h.2.2.2.2.2.1.fl f, h.2.2.2.2.2.2⟩
theorem tb_min : ∀ c, c < 84 → ((27 ≤ c ∧ c ≤ 50) ∨ c = 22 ∨ c = 24 ∨ (60 ≤ c ∧ c ≤ 83) ∨ c = 55 ∨ c = 57) → (S0 c).1 = 2 := by decide +kernel
theorem lx_c {M : MM} {L a c : Nat} (h0 : Sh M) (hl : LX L a) (hc : (L + 9 ≤ c ∧ c ≤ L + 32) ∨ c = L + 4 ∨ c = L + 6) : isO 2 c M = true := by
  refine sh_O h0 2 ?_ (tb_min c ?_ ?_) <;> rcases hl with ⟨rfl, _⟩ | ⟨rfl, _⟩ <;> omega
theorem lx_f {M : MM} {L a : Nat} (h0 : Sh M) (hl : LX L a) : gR 1 2 L M = some (L + 1) ∧ gR 1 3 L M = some (L + 2) ∧ gR 1 4 L M = some (L + 3) ∧ gR 1 5 L M = some (L + 4) ∧ gR 1 6 L M = some (L + 5) ∧ gR 1 7 L M = some (L + 6) ∧ gR 1 8 L M = some (L + 7) ∧ gR 1 9 L M = some (L + 8) := by
  rcases hl with ⟨rfl, _⟩ | ⟨rfl, _⟩
  · exact ⟨sh_R h0 1 (by decide) rfl (by decide), sh_R h0 1 (by decide) rfl (by decide), sh_R h0 1 (by decide) rfl (by decide), sh_R h0 1 (by decide) rfl (by decide), sh_R h0 1 (by decide) rfl (by decide), sh_R h0 1 (by decide) rfl (by decide), sh_R h0 1 (by decide) rfl (by decide), sh_R h0 1 (by decide) rfl (by decide)⟩
  · exact ⟨sh_R h0 1 (by decide) rfl (by decide), sh_R h0 1 (by decide) rfl (by decide), sh_R h0 1 (by decide) rfl (by decide), sh_R h0 1 (by decide) rfl (by decide), sh_R h0 1 (by decide) rfl (by decide), sh_R h0 1 (by decide) rfl (by decide), sh_R h0 1 (by decide) rfl (by decide), sh_R h0 1 (by decide) rfl (by decide)⟩
theorem tb_r19 : ∀ p, p < 6 → (19, p, 27 + 4 * p) ∈ rfT := by decide +kernel
theorem tb_r20 : ∀ p, p < 6 → (20, p, 28 + 4 * p) ∈ rfT := by decide +kernel
theorem tb_r21 : ∀ p, p < 6 → (21, p, 29 + 4 * p) ∈ rfT := by decide +kernel
theorem tb_r23 : ∀ p, p < 6 → (23, p, 30 + 4 * p) ∈ rfT := by decide +kernel
theorem tb_r52 : ∀ p, p < 6 → (52, p, 60 + 4 * p) ∈ rfT := by decide +kernel
theorem tb_r53 : ∀ p, p < 6 → (53, p, 61 + 4 * p) ∈ rfT := by decide +kernel
theorem tb_r54 : ∀ p, p < 6 → (54, p, 62 + 4 * p) ∈ rfT := by decide +kernel
theorem tb_r56 : ∀ p, p < 6 → (56, p, 63 + 4 * p) ∈ rfT := by decide +kernel
theorem tb_ref (p : Nat) (hp : p < 6) : (19, p, 27 + 4 * p) ∈ rfT ∧ (20, p, 28 + 4 * p) ∈ rfT ∧ (21, p, 29 + 4 * p) ∈ rfT ∧ (23, p, 30 + 4 * p) ∈ rfT ∧ (52, p, 60 + 4 * p) ∈ rfT ∧ (53, p, 61 + 4 * p) ∈ rfT ∧ (54, p, 62 + 4 * p) ∈ rfT ∧ (56, p, 63 + 4 * p) ∈ rfT := ⟨tb_r19 p hp, tb_r20 p hp, tb_r21 p hp, tb_r23 p hp, tb_r52 p hp, tb_r53 p hp, tb_r54 p hp, tb_r56 p hp⟩
theorem lx_ld {M : MM} {L a p : Nat} (h0 : Sh M) (hl : LX L a) (hp : p < 6) : ldR 23 (L + 1) (nI p) M = some (L + 9 + 4 * p) ∧ ldR 23 (L + 2) (nI p) M = some (L + 10 + 4 * p) ∧ ldR 23 (L + 3) (nI p) M = some (L + 11 + 4 * p) ∧ ldR 23 (L + 5) (nI p) M = some (L + 12 + 4 * p) := by
  have t := tb_ref p hp
  rcases hl with ⟨rfl, _⟩ | ⟨rfl, _⟩
  · refine ⟨?_, ?_, ?_, ?_⟩
    · rw [ldR_k (sh_O h0 23 (by decide) rfl) (sh_N h0 6 (by decide) rfl) hp (by decide)]; exact h0.2.2 (19, p, 27 + 4 * p) t.1
    · rw [ldR_k (sh_O h0 23 (by decide) rfl) (sh_N h0 6 (by decide) rfl) hp (by decide)]; exact h0.2.2 (20, p, 28 + 4 * p) t.2.1
    · rw [ldR_k (sh_O h0 23 (by decide) rfl) (sh_N h0 6 (by decide) rfl) hp (by decide)]; exact h0.2.2 (21, p, 29 + 4 * p) t.2.2.1
    · rw [ldR_k (sh_O h0 23 (by decide) rfl) (sh_N h0 6 (by decide) rfl) hp (by decide)]; exact h0.2.2 (23, p, 30 + 4 * p) t.2.2.2.1
  · refine ⟨?_, ?_, ?_, ?_⟩
    · rw [ldR_k (sh_O h0 23 (by decide) rfl) (sh_N h0 6 (by decide) rfl) hp (by decide)]; exact h0.2.2 (52, p, 60 + 4 * p) t.2.2.2.2.1
    · rw [ldR_k (sh_O h0 23 (by decide) rfl) (sh_N h0 6 (by decide) rfl) hp (by decide)]; exact h0.2.2 (53, p, 61 + 4 * p) t.2.2.2.2.2.1
    · rw [ldR_k (sh_O h0 23 (by decide) rfl) (sh_N h0 6 (by decide) rfl) hp (by decide)]; exact h0.2.2 (54, p, 62 + 4 * p) t.2.2.2.2.2.2.1
    · rw [ldR_k (sh_O h0 23 (by decide) rfl) (sh_N h0 6 (by decide) rfl) hp (by decide)]; exact h0.2.2 (56, p, 63 + 4 * p) t.2.2.2.2.2.2.2
section LOOK
variable {s : St} {a L : Nat} {q : Pl}
/-- the sets up to trip n -/
def LA (s : St) (q : Pl) (M : MM) (L n : Nat) : Prop := (∀ p, p < zP s → MS M (L + 9 + 4 * p) (awF s q n p) ∧ MS M (L + 10 + 4 * p) (buF s q n p) ∧ MS M (L + 11 + 4 * p) (seF s q n p)) ∧ MS M (L + 6) (ovF s q n)
theorem LA.fl {W : Nat → Prop} {M M' : MM} {n : Nat} (h : LA s q M L n) (f : FML W M M') (w : ∀ c, (∃ p, p < zP s ∧ (c = L + 9 + 4 * p ∨ c = L + 10 + 4 * p ∨ c = L + 11 + 4 * p)) ∨ c = L + 6 → ¬ W c) : LA s q M' L n := ⟨fun p hp => ⟨f.ms (h.1 p hp).1 (w _ (Or.inl ⟨p, hp, Or.inl rfl⟩)), f.ms (h.1 p hp).2.1 (w _ (Or.inl ⟨p, hp, Or.inr (Or.inl rfl)⟩)), f.ms (h.1 p hp).2.2 (w _ (Or.inl ⟨p, hp, Or.inr (Or.inr rfl)⟩))⟩, f.ms h.2 (w _ (Or.inr rfl))⟩
theorem awF_s (s : St) (q : Pl) (n p m : Nat) : awF s q (n + 1) p m = (awF s q n p m || awP s q p m n) := rfl
theorem buF_s (s : St) (q : Pl) (n p m : Nat) : buF s q (n + 1) p m = (buF s q n p m || (decide (tw (q.2 n) = p) && thB s (q.2 n) m)) := rfl
theorem seF_s (s : St) (q : Pl) (n p m : Nat) : seF s q (n + 1) p m = (seF s q n p m || (seeB s (q.2 n) && (decide (tw (q.2 n) = p) && thB s (q.2 n) m))) := rfl
theorem ovF_s (s : St) (q : Pl) (n m : Nat) : ovF s q (n + 1) m = (ovF s q n m || (seeB s (q.2 n) && thB s (q.2 n) m)) := rfl
theorem look_clr {M : MM} (h : CX s M a q) (hl : LX L a) (hov : MS M (L + 6) (fun _ => false)) : ∃ f' M', f_X1_look_9 1024 L (nI 0) M = f_X1_look_9 (f' + 1) L (nI (zP s)) M' ∧ LA s q M' L 0 ∧ FML (wL L) M M' := by
  have hP := h.2.2.1.1
  have key := lpg (fun f k N => f_X1_look_9 f L (nI k) N) (fun k N => (∀ p, p < k → MS N (L + 9 + 4 * p) (fun _ => false) ∧ MS N (L + 10 + 4 * p) (fun _ => false) ∧ MS N (L + 11 + 4 * p) (fun _ => false)) ∧ FML (fun c => L + 9 ≤ c ∧ c ≤ L + 32) M N) (zP s) (fun f k N hk hi => by
    have hN := h.fl hi.2
    have h0 := hN.1
    have g := lx_f h0 hl
    have l := lx_ld (p := k) h0 hl (by omega)
    obtain ⟨N1, e1, m1, f1⟩ := m_clear (M := N) (c := L + 9 + 4 * k) (lx_c h0 hl (by omega))
    obtain ⟨N2, e2, m2, f2⟩ := m_clear (M := N1) (c := L + 10 + 4 * k) (lx_c (f1.sh h0) hl (by omega))
    obtain ⟨N3, e3, m3, f3⟩ := m_clear (M := N2) (c := L + 11 + 4 * k) (lx_c (f2.sh (f1.sh h0)) hl (by omega))
    have g1 := lx_f (f1.sh h0) hl
    have l1 := lx_ld (p := k) (f1.sh h0) hl (by omega)
    have g2 := lx_f (f2.sh (f1.sh h0)) hl
    have l2 := lx_ld (p := k) (f2.sh (f1.sh h0)) hl (by omega)
    refine ⟨N3, ?_, fun p hp => ?_, ((hi.2.tr (f1.mono (fun c q => by omega))).tr (f2.mono (fun c q => by omega))).tr (f3.mono (fun c q => by omega))⟩
    · show f_X1_look_9 (f + 1) _ _ _ = _
      rw [f_X1_look_9, lx_0 h0 hl, b1_s, gI_k 7 (sh_O h0 9 (by decide) rfl), b1_s, hN.2.1.1, if_neg (nI_ge hk (by omega)), g.1, b1_s, l.1, b1_s, e1, b1_s, g1.2.1, b1_s, l1.2.1, b1_s, e2, b1_s, g2.2.2.1, b1_s, l2.2.2.1, b1_s, e3, b1_s, bn_s, nI_1]
    · by_cases hpk : p = k
      · subst hpk
        exact ⟨f3.ms (f2.ms m1 (by omega)) (by omega), f3.ms m2 (by omega), m3⟩
      · have := hi.1 p (by omega)
        exact ⟨f3.ms (f2.ms (f1.ms this.1 (by omega)) (by omega)) (by omega), f3.ms (f2.ms (f1.ms this.2.1 (by omega)) (by omega)) (by omega), f3.ms (f2.ms (f1.ms this.2.2 (by omega)) (by omega)) (by omega)⟩) 1024 0 M (by omega) (by omega) ⟨fun p hp => absurd hp (Nat.not_lt_zero p), FML.rf M⟩
  obtain ⟨f', M', e, hi⟩ := key
  exact ⟨f', M', e, ⟨hi.1, hi.2.ms hov (by omega)⟩, hi.2.mono (fun c q => by unfold wL; omega)⟩
theorem look_trip {M : MM} (h : CX s M a q) (hl : LX L a) {i : Nat} (hi : i < q.1) (hA : LA s q M L i) (f : Nat) : ∃ M', f_X1_look_55 (f + 1) L (nI i) M = f_X1_look_55 f L (nI (i + 1)) M' ∧ LA s q M' L (i + 1) ∧ FML (wL L) M M' := by
  have h0 := h.1
  have hP := h.2.2.1.1
  have hE := h.2.2.1.2.1
  have h12 := h.2.2.2.2.2.2.1
  have hb := okT_b (h.2.2.2.2.2.2.2 i hi)
  have hB := h.2.2.2.1.2.1 _ hb.2.2.1
  have hlen : zlen s (te (q.2 i)) ≤ 27 := by unfold zlen; omega
  have hAp := hA.1 _ hb.2.1
  have l0 := lx_ld (p := tw (q.2 i)) h0 hl (by omega)
  obtain ⟨M1, e1, m1, f1⟩ := m_add (c := L + 9 + 4 * tw (q.2 i)) (lx_c h0 hl (by omega)) hAp.1 (o := ts (q.2 i)) (z := zlen s (te (q.2 i))) (by omega) (by omega) (by omega)
  have h1 := h.fl f1
  have l1 := lx_ld (p := tw (q.2 i)) h1.1 hl (by omega)
  obtain ⟨M2, e2, m2, f2⟩ := m_add (c := L + 10 + 4 * tw (q.2 i)) (lx_c h1.1 hl (by omega)) (f1.ms hAp.2.1 (by omega)) (o := ts (q.2 i) + zway s (te (q.2 i))) (z := zlas s (te (q.2 i))) (by omega) (by omega) (by omega)
  have h2 := h1.fl f2
  have l2 := lx_ld (p := tw (q.2 i)) h2.1 hl (by omega)
  have aw : ∀ p m, (awF s q i p m || awP s q p m i) = (awF s q i p m || (decide (tw (q.2 i) = p) && decide (ts (q.2 i) ≤ m ∧ m < ts (q.2 i) + zlen s (te (q.2 i))))) := fun p m => by
    congr 1
    unfold awP tback
    rw [Bool.eq_iff_iff]
    simp only [Bool.and_eq_true, decide_eq_true_eq]
  have stp : f_X1_look_55 (f + 1) L (nI i) M = if nI (zsee s (te (q.2 i))) = 0 then f_X1_look_198 (f_X1_look_55 f) L (nI i) M2 else (b1 (gR 1 4 L M2) fun v31 => b1 (ldR 23 v31 (nI (tw (q.2 i))) M2) fun v32 => b1 (gR 1 0 L M2) fun v33 => b1 (gR 9 1 v33 M2) fun v34 => b1 (ldI v34 (nI (te (q.2 i))) M2) fun v35 => b1 (gR 1 0 L M2) fun v36 => b1 (gR 9 2 v36 M2) fun v37 => b1 (ldI v37 (nI (te (q.2 i))) M2) fun v38 => b1 (f_X2_add v32 (nI (ts (q.2 i)) + v35) v38 M2) fun M39 => b1 (gR 1 7 L M39) fun v40 => b1 (gR 1 4 L M39) fun v41 => b1 (ldR 23 v41 (nI (tw (q.2 i))) M39) fun v42 => b1 (f_X2_join v40 v42 M39) fun M43 => f_X1_look_198 (f_X1_look_55 f) L (nI i) M43) := by
    rw [f_X1_look_55, lx_1 h0 hl, b1_s, c_size h, b1_s, if_neg (nI_ge hi (by omega)), b1_s, e_who h hi, b2_s, lx_1 h0 hl, b1_s, e_what h hi, b2_s, lx_1 h0 hl, b1_s, e_first h hi, b2_s, (lx_f h0 hl).1, b1_s, l0.1, b1_s, lx_0 h0 hl, b1_s, e_len h0 h.2.1 h.2.2.1 hb.2.2.1, b2_s, e1, b1_s, (lx_f h1.1 hl).2.1, b1_s, l1.2.1, b1_s, lx_0 h1.1 hl, b1_s, sh_R h1.1 (a := 5) (k := 1) (b := 7) 9 (by decide) rfl (by decide), b1_s, lc_way h1.1 h1.2.1 h.2.2.1 hb.2.2.1, b1_s, b1_s, sh_R h1.1 (a := 5) (k := 2) (b := 8) 9 (by decide) rfl (by decide), b1_s, lc_las h1.1 h1.2.1 h.2.2.1 hb.2.2.1, b1_s, nI_add, e2, b1_s, lx_0 h2.1 hl, b1_s, sh_R h2.1 (a := 5) (k := 6) (b := 12) 9 (by decide) rfl (by decide), b1_s, lc_see h2.1 h2.2.1 h.2.2.1 hb.2.2.1, b1_s]
  rw [stp]
  by_cases hs : zsee s (te (q.2 i)) = 1
  · have l2b := l2.2.2.1
    obtain ⟨M3, e3, m3, f3⟩ := m_add (c := L + 11 + 4 * tw (q.2 i)) (lx_c h2.1 hl (by omega)) (f2.ms (f1.ms hAp.2.2 (by omega)) (by omega)) (o := ts (q.2 i) + zway s (te (q.2 i))) (z := zlas s (te (q.2 i))) (by omega) (by omega) (by omega)
    have h3 := h2.fl f3
    obtain ⟨M4, e4, m4, f4⟩ := m_join (c := L + 6) (d := L + 11 + 4 * tw (q.2 i)) (lx_c h3.1 hl (by omega)) (lx_c h3.1 hl (by omega)) (by omega) (f3.ms (f2.ms (f1.ms hA.2 (by omega)) (by omega)) (by omega)) m3
    have sb : seeB s (q.2 i) = true := decide_eq_true hs
    refine ⟨M4, ?_, ⟨fun p hp => ?_, m4.cong (fun m _ => ?_)⟩, ((f1.mono (fun c q => by unfold wL; omega)).tr (f2.mono (fun c q => by unfold wL; omega))).tr ((f3.mono (fun c q => by unfold wL; omega)).tr (f4.mono (fun c q => by unfold wL; omega)))⟩
    · rw [if_neg (nI_ne0 (by omega) (by omega)), (lx_f h2.1 hl).2.2.1, b1_s, l2b, b1_s, lx_0 h2.1 hl, b1_s, sh_R h2.1 (a := 5) (k := 1) (b := 7) 9 (by decide) rfl (by decide), b1_s, lc_way h2.1 h2.2.1 h.2.2.1 hb.2.2.1, b1_s, b1_s, sh_R h2.1 (a := 5) (k := 2) (b := 8) 9 (by decide) rfl (by decide), b1_s, lc_las h2.1 h2.2.1 h.2.2.1 hb.2.2.1, b1_s, nI_add, e3, b1_s, (lx_f h3.1 hl).2.2.2.2.2.1, b1_s, (lx_f h3.1 hl).2.2.1, b1_s, (lx_ld (p := tw (q.2 i)) h3.1 hl (by omega)).2.2.1, b1_s, e4, b1_s]
      unfold f_X1_look_198
      rw [bn_s, nI_1]
    · by_cases hpk : p = tw (q.2 i)
      · subst hpk
        refine ⟨(f4.ms (f3.ms (f2.ms m1 (by omega)) (by omega)) (by omega)).cong (fun m _ => ?_), (f4.ms (f3.ms m2 (by omega)) (by omega)).cong (fun m _ => ?_), (f4.ms m3 (by omega)).cong (fun m _ => ?_)⟩
        · rw [awF_s, aw, decide_eq_true rfl, Bool.true_and]
        · rw [buF_s, decide_eq_true rfl, Bool.true_and]; rfl
        · rw [seF_s, sb, decide_eq_true rfl, Bool.true_and, Bool.true_and]; rfl
      · have := hA.1 p hp
        have hd : decide (tw (q.2 i) = p) = false := decide_eq_false (fun e => hpk e.symm)
        refine ⟨(f4.ms (f3.ms (f2.ms (f1.ms this.1 (by omega)) (by omega)) (by omega)) (by omega)).cong (fun m _ => ?_), (f4.ms (f3.ms (f2.ms (f1.ms this.2.1 (by omega)) (by omega)) (by omega)) (by omega)).cong (fun m _ => ?_), (f4.ms (f3.ms (f2.ms (f1.ms this.2.2 (by omega)) (by omega)) (by omega)) (by omega)).cong (fun m _ => ?_)⟩
        · rw [awF_s, aw, hd, Bool.false_and, Bool.or_false]
        · rw [buF_s, hd, Bool.false_and, Bool.or_false]
        · rw [seF_s, hd, Bool.false_and, Bool.and_false, Bool.or_false]
    · rw [ovF_s, sb, Bool.true_and]
      show (ovF s q i m || (seF s q i _ m || thB s (q.2 i) m)) = _
      cases hv : ovF s q i m with
      | true => rfl
      | false =>
        cases hw : seF s q i (tw (q.2 i)) m with
        | true => rw [se_ov hw] at hv; cases hv
        | false => rfl
  · have sb : seeB s (q.2 i) = false := decide_eq_false hs
    refine ⟨M2, ?_, ⟨fun p hp => ?_, (f2.ms (f1.ms hA.2 (by omega)) (by omega)).cong (fun m _ => ?_)⟩, (f1.mono (fun c q => by unfold wL; omega)).tr (f2.mono (fun c q => by unfold wL; omega))⟩
    · rw [if_pos (by rw [show zsee s (te (q.2 i)) = 0 by omega]; rfl)]
      unfold f_X1_look_198
      rw [bn_s, nI_1]
    · by_cases hpk : p = tw (q.2 i)
      · subst hpk
        refine ⟨(f2.ms m1 (by omega)).cong (fun m _ => ?_), m2.cong (fun m _ => ?_), (f2.ms (f1.ms hAp.2.2 (by omega)) (by omega)).cong (fun m _ => ?_)⟩
        · rw [awF_s, aw, decide_eq_true rfl, Bool.true_and]
        · rw [buF_s, decide_eq_true rfl, Bool.true_and]; rfl
        · rw [seF_s, sb, Bool.false_and, Bool.or_false]
      · have := hA.1 p hp
        have hd : decide (tw (q.2 i) = p) = false := decide_eq_false (fun e => hpk e.symm)
        refine ⟨(f2.ms (f1.ms this.1 (by omega)) (by omega)).cong (fun m _ => ?_), (f2.ms (f1.ms this.2.1 (by omega)) (by omega)).cong (fun m _ => ?_), (f2.ms (f1.ms this.2.2 (by omega)) (by omega)).cong (fun m _ => ?_)⟩
        · rw [awF_s, aw, hd, Bool.false_and, Bool.or_false]
        · rw [buF_s, hd, Bool.false_and, Bool.or_false]
        · rw [seF_s, sb, Bool.false_and, Bool.or_false]
    · rw [ovF_s, sb, Bool.false_and, Bool.or_false]
theorem look_need {M : MM} (h : CX s M a q) (hl : LX L a) {p : Nat} (hp : p < zP s) (hA : LA s q M L q.1) (hn : MS M (L + 12 + 4 * p) (neF s q p 0)) (K : Nat → Int32 → MM → Option MM) : ∃ f' M', f_X1_lookAtBags_69 K 1024 L (nI p) (nI 0) M = f_X1_lookAtBags_69 K (f' + 1) L (nI p) (nI (zP s)) M' ∧ MS M' (L + 12 + 4 * p) (neF s q p (zP s)) ∧ FML (fun c => c = L + 12 + 4 * p) M M' := by
  have hP := h.2.2.1.1
  exact lpg (fun f k N => f_X1_lookAtBags_69 K f L (nI p) (nI k) N) (fun k N => MS N (L + 12 + 4 * p) (neF s q p k) ∧ FML (fun c => c = L + 12 + 4 * p) M N) (zP s) (fun f k N hk hi => by
    have hN := h.fl hi.2
    have h0 := hN.1
    show ∃ M', f_X1_lookAtBags_69 K (f + 1) _ _ _ _ = _ ∧ _
    rw [f_X1_lookAtBags_69, lx_0 h0 hl, b1_s, gI_k 7 (sh_O h0 9 (by decide) rfl), b1_s, hN.2.1.1, if_neg (nI_ge hk (by omega))]
    unfold f_X1_lookAtBags_100
    by_cases hkp : k = p
    · refine ⟨N, by rw [if_pos (by rw [hkp]), bn_s, nI_1], hi.1.cong (fun m _ => ?_), hi.2⟩
      show (_ && _ && _) = (_ && _ && (_ && _))
      dsimp only
      rw [decide_eq_true hkp, Bool.true_or, Bool.and_true]
    · obtain ⟨N1, e1, m1, f1⟩ := m_keep (c := L + 12 + 4 * p) (d := L + 9 + 4 * k) (lx_c h0 hl (by omega)) (lx_c h0 hl (by omega)) (by omega) hi.1 (hi.2.ms (hA.1 k hk).1 (by omega))
      refine ⟨N1, by rw [if_neg (by rw [nI_eq (by omega) (by omega)]; exact hkp), (lx_f h0 hl).2.2.2.2.1, b1_s, (lx_ld (p := p) h0 hl (by omega)).2.2.2, b1_s, (lx_f h0 hl).1, b1_s, (lx_ld (p := k) h0 hl (by omega)).1, b1_s, e1, b1_s, bn_s, nI_1], m1.cong (fun m _ => ?_), hi.2.tr f1⟩
      show ((_ && _ && _) && _) = (_ && _ && (_ && _))
      dsimp only
      rw [decide_eq_false hkp, Bool.false_or, Bool.and_assoc]) 1024 0 M (by omega) (by omega) ⟨hn, FML.rf M⟩
theorem look_bags {M : MM} (h : CX s M a q) (hl : LX L a) (hA : LA s q M L q.1) : ∃ M', f_X1_lookAtBags L M = some M' ∧ LK s q M' L ∧ FML (wL L) M M' := by
  have h0 := h.1
  have hP := h.2.2.1.1
  have hT := h.2.2.1.2.2
  obtain ⟨M1, e1, m1, f1⟩ := m_fill (M := M) (c := L + 4) (lx_c h0 hl (by omega)) (n := zT s) (by omega) (by omega)
  have h1 := h.fl f1
  have A1 : LA s q M1 L q.1 := hA.fl f1 (fun c q => by omega)
  obtain ⟨M2, e2, m2, f2⟩ := m_with (c := L + 4) (d := L + 6) (lx_c h1.1 hl (by omega)) (lx_c h1.1 hl (by omega)) (by omega) m1 A1.2
  have h2 := h1.fl f2
  have A2 : LA s q M2 L q.1 := A1.fl f2 (fun c q => by omega)
  obtain ⟨f', M3, e3, hi⟩ := lpg (fun f k N => f_X1_lookAtBags_27 f L (nI k) N) (fun k N => (∀ p, p < k → MS N (L + 12 + 4 * p) (neF s q p (zP s))) ∧ MS N (L + 4) (baF s q k) ∧ FML (fun c => c = L + 4 ∨ ∃ p, c = L + 12 + 4 * p ∧ p < zP s) M2 N) (zP s) (fun f k N hk hi => by
    have hN := h2.fl hi.2.2
    have n0 := hN.1
    have AN : LA s q N L q.1 := A2.fl hi.2.2 (fun c q w => by rcases w with w | ⟨p, w, hp⟩ <;> rcases q with ⟨p', hp', q⟩ | q <;> omega)
    obtain ⟨N1, a1, b1', c1⟩ := m_fill (M := N) (c := L + 12 + 4 * k) (lx_c n0 hl (by omega)) (n := zT s) (by omega) (by omega)
    have hN1 := hN.fl c1
    have AN1 : LA s q N1 L q.1 := AN.fl c1 (fun c q w => by rcases q with ⟨p', hp', q⟩ | q <;> omega)
    obtain ⟨N2, a2, b2', c2⟩ := m_with (c := L + 12 + 4 * k) (d := L + 6) (lx_c hN1.1 hl (by omega)) (lx_c hN1.1 hl (by omega)) (by omega) b1' AN1.2
    have hN2 := hN1.fl c2
    have AN2 : LA s q N2 L q.1 := AN1.fl c2 (fun c q w => by rcases q with ⟨p', hp', q⟩ | q <;> omega)
    obtain ⟨f3, N3, a3, b3', c3⟩ := look_need hN2 hl hk AN2 (b2'.cong (fun m _ => by show _ = (_ && _ && true); rw [Bool.and_true])) (f_X1_lookAtBags_27 f)
    have hN3 := hN2.fl c3
    have AN3 : LA s q N3 L q.1 := AN2.fl c3 (fun c q w => by rcases q with ⟨p', hp', q⟩ | q <;> omega)
    obtain ⟨N4, a4, b4', c4⟩ := m_keep (c := L + 4) (d := L + 9 + 4 * k) (lx_c hN3.1 hl (by omega)) (lx_c hN3.1 hl (by omega)) (by omega) (c3.ms (c2.ms (c1.ms hi.2.1 (by omega)) (by omega)) (by omega)) (AN3.1 k hk).1
    refine ⟨N4, ?_, fun p hp => ?_, b4'.cong (fun m _ => ?_), hi.2.2.tr (((c1.mono (fun c q => Or.inr ⟨k, q, hk⟩)).tr (c2.mono (fun c q => Or.inr ⟨k, q, hk⟩))).tr ((c3.mono (fun c q => Or.inr ⟨k, q, hk⟩)).tr (c4.mono (fun c q => Or.inl q))))⟩
    · show f_X1_lookAtBags_27 (f + 1) _ _ _ = _
      rw [f_X1_lookAtBags_27, lx_0 n0 hl, b1_s, gI_k 7 (sh_O n0 9 (by decide) rfl), b1_s, hN.2.1.1, if_neg (nI_ge hk (by omega)), (lx_f n0 hl).2.2.2.2.1, b1_s, (lx_ld (p := k) n0 hl (by omega)).2.2.2, b1_s, b1_s, gI_k 9 (sh_O n0 9 (by decide) rfl), b1_s, hN.2.1.2.2.1, a1, b1_s, (lx_f hN1.1 hl).2.2.2.2.1, b1_s, (lx_ld (p := k) hN1.1 hl (by omega)).2.2.2, b1_s, (lx_f hN1.1 hl).2.2.2.2.2.1, b1_s, a2, b1_s, ← nI_0, a3, f_X1_lookAtBags_69, lx_0 hN3.1 hl, b1_s, gI_k 7 (sh_O hN3.1 9 (by decide) rfl), b1_s, hN3.2.1.1, if_pos (nI_le (Nat.le_refl _) (by omega)), (lx_f hN3.1 hl).2.2.2.1, b1_s, (lx_f hN3.1 hl).1, b1_s, (lx_ld (p := k) hN3.1 hl (by omega)).1, b1_s, a4, b1_s, bn_s, nI_1]
    · by_cases hpk : p = k
      · subst hpk
        exact c4.ms b3' (by omega)
      · exact c4.ms (c3.ms (c2.ms (c1.ms (hi.1 p (by omega)) (by omega)) (by omega)) (by omega)) (by omega)
    · show ((_ && _ && _) && _) = (_ && _ && (_ && _))
      rw [Bool.and_assoc]) 1024 0 M2 (by omega) (by omega) ⟨fun p hp => absurd hp (Nat.not_lt_zero p), m2.cong (fun m _ => by show _ = (_ && _ && true); rw [Bool.and_true]), FML.rf M2⟩
  have h3 := h2.fl hi.2.2
  have A3 : LA s q M3 L q.1 := A2.fl hi.2.2 (fun c q w => by rcases w with w | ⟨p, w, hp⟩ <;> rcases q with ⟨p', hp', q⟩ | q <;> omega)
  refine ⟨M3, ?_, ⟨fun p hp => ⟨(A3.1 p hp).1, (A3.1 p hp).2.1, (A3.1 p hp).2.2, hi.1 p hp⟩, hi.2.1, A3.2⟩, ((f1.mono (fun c q => by unfold wL; omega)).tr (f2.mono (fun c q => by unfold wL; omega))).tr (hi.2.2.mono (fun c q => by unfold wL; rcases q with q | ⟨p, q, hp⟩ <;> omega))⟩
  unfold f_X1_lookAtBags f_X1_lookAtBags_0
  rw [if_pos (lx_O h0 hl), (lx_f h0 hl).2.2.2.1, b1_s, lx_0 h0 hl, b1_s, gI_k 9 (sh_O h0 9 (by decide) rfl), b1_s, h.2.1.2.2.1, e1, b1_s, (lx_f h1.1 hl).2.2.2.1, b1_s, (lx_f h1.1 hl).2.2.2.2.2.1, b1_s, e2, b1_s, ← nI_0]
  refine e3.trans ?_
  show f_X1_lookAtBags_27 (f' + 1) _ _ _ = _
  rw [f_X1_lookAtBags_27, lx_0 h3.1 hl, b1_s, gI_k 7 (sh_O h3.1 9 (by decide) rfl), b1_s, h3.2.1.1, if_pos (nI_le (Nat.le_refl _) (by omega))]
theorem c_look {M : MM} (h : CX s M a q) (hl : LX L a) : ∃ M', f_X1_look L M = some M' ∧ LK s q M' L ∧ FML (wL L) M M' := by
  have h0 := h.1
  have hP := h.2.2.1.1
  have h12 := h.2.2.2.2.2.2.1
  obtain ⟨M1, e1, m1, f1⟩ := m_clear (M := M) (c := L + 6) (lx_c h0 hl (by omega))
  have h1 := h.fl f1
  obtain ⟨f2', M2, e2, A2, f2⟩ := look_clr h1 hl m1
  have h2 := h1.fl f2
  obtain ⟨f3', M3, e3, A3, f3⟩ := lpg (fun f k N => f_X1_look_55 f L (nI k) N) (fun k N => LA s q N L k ∧ FML (wL L) M2 N) q.1 (fun f k N hk hi => by
    obtain ⟨N', e, A, g⟩ := look_trip (h2.fl hi.2) hl hk hi.1 f
    exact ⟨N', e, A, hi.2.tr g⟩) 1024 0 M2 (by omega) (by omega) ⟨A2, FML.rf M2⟩
  have h3 := h2.fl f3
  obtain ⟨M4, e4, K4, f4⟩ := look_bags h3 hl A3
  refine ⟨M4, ?_, K4, (((f1.mono (fun c q => by unfold wL; omega)).tr f2).tr f3).tr f4⟩
  unfold f_X1_look f_X1_look_0
  rw [if_pos (lx_O h0 hl), (lx_f h0 hl).2.2.2.2.2.1, b1_s, e1, b1_s, ← nI_0, e2, f_X1_look_9, lx_0 h2.1 hl, b1_s, gI_k 7 (sh_O h2.1 9 (by decide) rfl), b1_s, h2.2.1.1, if_pos (nI_le (Nat.le_refl _) (by omega)), ← nI_0]
  refine e3.trans ?_
  show f_X1_look_55 (f3' + 1) _ _ _ = _
  rw [f_X1_look_55, lx_1 h3.1 hl, b1_s, c_size h3, b1_s, if_pos (nI_le (Nat.le_refl _) (by omega)), e4, b1_s]
end LOOK

/-! bags: read, weighed, placed -/
def bgN (T : Nat → Nat) (l : Nat) : Nat → Nat → Nat
  | 0, _ => 0
  | j + 1, a => if a < l ∧ 48 + 1 ≤ T a ∧ T a ≤ 48 + 9 then bgN T l j (a + 1) + 1 else 0
theorem bgN_t {T : Nat → Nat} {l j a : Nat} (h : a < l ∧ 48 + 1 ≤ T a ∧ T a ≤ 48 + 9) : bgN T l (j + 1) a = bgN T l j (a + 1) + 1 := if_pos h
theorem bgN_f {T : Nat → Nat} {l j a : Nat} (h : ¬ (a < l ∧ 48 + 1 ≤ T a ∧ T a ≤ 48 + 9)) : bgN T l (j + 1) a = 0 := if_neg h
theorem bgN_le {T : Nat → Nat} {l : Nat} : ∀ {j a : Nat}, bgN T l j a ≤ j ∧ (a ≤ l → a + bgN T l j a ≤ l) ∧ ∀ i, a ≤ i → i < a + bgN T l j a → 49 ≤ T i ∧ T i ≤ 57
  | 0, a => ⟨Nat.le_refl 0, fun h => h, fun i h1 h2 => absurd h2 (by show ¬ i < a + 0; omega)⟩
  | j + 1, a => by
    by_cases h : a < l ∧ 48 + 1 ≤ T a ∧ T a ≤ 48 + 9
    · rw [bgN_t h]
      have := bgN_le (T := T) (l := l) (j := j) (a := a + 1)
      refine ⟨by omega, fun g => by have := this.2.1 (by omega); omega, fun i h1 h2 => ?_⟩
      by_cases e : i = a
      · rw [e]; omega
      · exact this.2.2 i (by omega) (by omega)
    · rw [bgN_f h]
      exact ⟨by omega, fun g => g, fun i h1 h2 => by omega⟩
def BgC (M : MM) (m : Nat) (w : Nat → Nat) : Prop := mI M 137 1 = nI m ∧ ∀ i, i < m → mI M 139 i = nI (w i)
def BgR (M : MM) (m : Nat) (w : Nat → Nat) : Prop := mI M 143 48 = nI m ∧ ∀ i, i < m → mI M 173 i = nI (w i)
theorem BgC.fr {M M' : MM} {m : Nat} {w : Nat → Nat} {W : Nat → Nat → Prop} (h : BgC M m w) (f : Fr W M M') (hw : ∀ a k, a = 137 ∨ a = 139 → ¬ W a k) : BgC M' m w := ⟨(f.2.2.1 137 1 (hw _ _ (by omega))).trans h.1, fun i hi => (f.2.2.1 139 i (hw _ _ (by omega))).trans (h.2 i hi)⟩
theorem BgR.fr {M M' : MM} {m : Nat} {w : Nat → Nat} {W : Nat → Nat → Prop} (h : BgR M m w) (f : Fr W M M') (hw : ∀ a k, (a = 143 ∧ k = 48) ∨ a = 173 → ¬ W a k) : BgR M' m w := ⟨(f.2.2.1 143 48 (hw _ _ (by omega))).trans h.1, fun i hi => (f.2.2.1 173 i (hw _ _ (by omega))).trans (h.2 i hi)⟩
def wBg (a k : Nat) : Prop := (a = 1 ∧ k = 4) ∨ (137 ≤ a ∧ a ≤ 141)
def wB2 (a k : Nat) : Prop := 137 ≤ a ∧ a ≤ 141
def wBr (a k : Nat) : Prop := (a = 143 ∧ (k = 19 ∨ k = 48)) ∨ a = 173
def wB3 (a k : Nat) : Prop := (a = 143 ∧ k = 48) ∨ a = 173
theorem O137 {M : MM} (h : Sh M) : isO 0 137 M = true := sh_O h 0 (by decide) rfl
theorem R137 {M : MM} (h : Sh M) : gR 0 0 137 M = some 138 ∧ gR 0 2 137 M = some 139 ∧ gR 0 3 137 M = some 140 ∧ gR 0 4 137 M = some 141 := ⟨sh_R h 0 (by decide) rfl (by decide), sh_R h 0 (by decide) rfl (by decide), sh_R h 0 (by decide) rfl (by decide), sh_R h 0 (by decide) rfl (by decide)⟩
theorem O143 {M : MM} (h : Sh M) : isO 12 143 M = true := sh_O h 12 (by decide) rfl
theorem R173 {M : MM} (h : Sh M) : gR 12 47 143 M = some 173 ∧ gR 12 49 143 M = some 174 ∧ gR 12 50 143 M = some 175 := ⟨sh_R h 12 (by decide) rfl (by decide), sh_R h 12 (by decide) rfl (by decide), sh_R h 12 (by decide) rfl (by decide)⟩
theorem c_bg {s : St} {T : Nat → Nat} {n l : Nat} : ∀ (j k f : Nat) (N : MM), k + j = 8 → j < f → TC s T n l k N → BgC N k (fun i => T i - 48) → ∃ N' m, f_X0_read_7 f 137 1 (nI k) N = some (bI (decide (m ≠ 0 ∧ l ≤ m)), N') ∧ m = k + bgN T l j k ∧ TC s T n l m N' ∧ BgC N' m (fun i => T i - 48) ∧ Fr wBg N N' ∧ mR N' = mR N
  | 0, k, f, N, hk, hf, h, hb => by
    cases f with
    | zero => omega
    | succ f =>
      refine ⟨N, k, ?_, rfl, h, hb, Fr.rf N, rfl⟩
      unfold f_X0_read_7 f_X0_read_62
      rw [if_pos (show (8 : Int32) ≤ nI k from nI_le (a := 8) (by omega) (by omega)), tc_end h, b2_s, rz_b]
      congr 3
      rw [decide_eq_decide]
      omega
  | j + 1, k, f, N, hk, hf, h, hb => by
    cases f with
    | zero => omega
    | succ f =>
      obtain ⟨b1', b2', b3', b4'⟩ := h.2.2.2.2.2
      have h0 := h.1.1
      have go : (k = 0 ∨ k < l) → ∃ N' m, f_X0_read_24 (f_X0_read_7 f) 137 1 (nI k) N = some (bI (decide (m ≠ 0 ∧ l ≤ m)), N') ∧ m = k + bgN T l (j + 1) k ∧ TC s T n l m N' ∧ BgC N' m (fun i => T i - 48) ∧ Fr wBg N N' ∧ mR N' = mR N := by
        intro hkl
        obtain ⟨N1, e1, c1, f1, r1⟩ := tc_digit h (lo := 1) (by decide)
        have s1 := c1.1.1
        have g1b : BgC N1 k (fun i => T i - 48) := hb.fr f1 (fun a k q => by unfold w14; omega)
        unfold f_X0_read_24
        rw [(R137 h0).2.1, b1_s, show (1 : Int32) = nI 1 from rfl, e1, b2_s, st_139 s1 _ (by omega), b1_s]
        unfold dgO
        unfold dgA at c1
        by_cases hd : k < l ∧ 48 + 1 ≤ T k ∧ T k ≤ 48 + 9
        · rw [if_pos hd] at c1
          have ff : Fr wB2 N1 (sI (sI N1 139 k (nI (T k - 48))) 137 1 (nI (k + 1))) := ((Fr.rf (W := wB2) N1).sI (by unfold wB2; omega)).sI (by unfold wB2; omega)
          have c2 : TC s T n l (k + 1) (sI (sI N1 139 k (nI (T k - 48))) 137 1 (nI (k + 1))) := c1.fr' ff rfl (fun a k q => by unfold wB2 at q; unfold wC; omega) (fun a k q => by unfold wB2; omega)
          have b2 : BgC (sI (sI N1 139 k (nI (T k - 48))) 137 1 (nI (k + 1))) (k + 1) (fun i => T i - 48) := by
            refine ⟨by rw [mI_w, if_pos ⟨rfl, rfl⟩], fun i hi => ?_⟩
            rw [mI_w, if_neg (by omega), mI_w]
            by_cases e : i = k
            · rw [if_pos ⟨rfl, e⟩, e]
            · rw [if_neg (fun q => e q.2)]; exact g1b.2 i (by omega)
          obtain ⟨N3, m, e3, m3, c3, b3, f3, r3⟩ := c_bg j (k + 1) f _ (by omega) (by omega) c2 b2
          refine ⟨N3, m, ?_, by rw [bgN_t hd]; omega, c3, b3, ((f1.mono (fun a k q => by unfold w14 at q; unfold wBg; omega)).tr (ff.mono (fun a k q => by unfold wB2 at q; unfold wBg; omega))).tr f3, r3.trans r1⟩
          rw [if_pos hd, show enO (-1) (some (T k - 48)) = nI (T k - 48) from rfl]
          have s2 : Sh (sI N1 139 k (nI (T k - 48))) := s1
          rw [(R137 s2).2.1, b1_s, ld_139 s2 (by omega), b1_s, show mI (sI N1 139 k (nI (T k - 48))) 139 k = nI (T k - 48) from if_pos ⟨rfl, rfl⟩, if_pos (nI_pos' (by omega)), gI_k 1 (O137 s2), b1_s, mI_w, if_neg (by omega), g1b.1, show nI k + nI 1 = nI (k + 1) from nI_1 k, pI_k 1 _ (O137 s2), b1_s, bn_s, e3]
        · rw [if_neg hd] at c1
          have ff : Fr wB2 N1 (sI N1 139 k (-1)) := (Fr.rf (W := wB2) N1).sI (by unfold wB2; omega)
          have c2 : TC s T n l k (sI N1 139 k (-1)) := c1.fr' ff rfl (fun a k q => by unfold wB2 at q; unfold wC; omega) (fun a k q => by unfold wB2; omega)
          refine ⟨sI N1 139 k (-1), k, ?_, by rw [bgN_f hd]; rfl, c2, ⟨by rw [mI_w, if_neg (by omega)]; exact g1b.1, fun i hi => by rw [mI_w, if_neg (by omega)]; exact g1b.2 i hi⟩, (f1.mono (fun a k q => by unfold w14 at q; unfold wBg; omega)).tr (ff.mono (fun a k q => by unfold wB2 at q; unfold wBg; omega)), r1⟩
          rw [if_neg hd, show enO (-1) (none : Option Nat) = -1 from rfl]
          have s2 : Sh (sI N1 139 k (-1)) := s1
          rw [(R137 s2).2.1, b1_s, ld_139 s2 (by omega), b1_s, show mI (sI N1 139 k (-1)) 139 k = -1 from if_pos ⟨rfl, rfl⟩, if_neg (by decide), rz0, decide_eq_false (by omega), bI_f]
      rw [f_X0_read_7, if_neg (show ¬ (8 : Int32) ≤ nI k from nI_ge (b := 8) (by omega) (by decide))]
      by_cases hz : k = 0
      · rw [if_pos (by rw [hz]; rfl)]
        exact go (Or.inl hz)
      · rw [if_neg (nI_ne0 (by omega) (by omega)), tc_end h, b2_s]
        by_cases hl : l ≤ k
        · rw [decide_eq_true hl, if_neg (show ¬ bI true = 0 by decide)]
          refine ⟨N, k, ?_, by rw [bgN_f (fun q => by have := q.1; omega)]; rfl, h, hb, Fr.rf N, rfl⟩
          unfold f_X0_read_62
          rw [tc_end h, b2_s, rz_b, decide_eq_true hl, decide_eq_true ⟨hz, hl⟩]
        · rw [decide_eq_false hl, if_pos (show bI false = 0 from rfl)]
          exact go (Or.inr (by omega))
theorem c_bread {s : St} {T : Nat → Nat} {n l : Nat} {N : MM} (h : TC s T n l 0 N) : ∃ N', f_X0_read 137 1 N = some (bI (decide (bgN T l 8 0 ≠ 0 ∧ l ≤ bgN T l 8 0)), N') ∧ TC s T n l (bgN T l 8 0) N' ∧ BgC N' (bgN T l 8 0) (fun i => T i - 48) ∧ Fr wBg N N' ∧ mR N' = mR N := by
  have ff : Fr wB2 N (sI N 137 1 0) := (Fr.rf (W := wB2) N).sI (by unfold wB2; omega)
  have c2 : TC s T n l 0 (sI N 137 1 0) := h.fr' ff rfl (fun a k q => by unfold wB2 at q; unfold wC; omega) (fun a k q => by unfold wB2; omega)
  obtain ⟨N', m, e, em, c, b, f, r⟩ := c_bg 8 0 1024 _ rfl (by decide) c2 ⟨by rw [mI_w, if_pos ⟨rfl, rfl⟩]; rfl, fun i hi => absurd hi (Nat.not_lt_zero i)⟩
  rw [Nat.zero_add] at em
  subst em
  refine ⟨N', ?_, c, b, (ff.mono (fun a k q => by unfold wB2 at q; unfold wBg; omega)).tr f, r⟩
  unfold f_X0_read f_X0_read_0
  rw [if_pos (O137 h.1.1), pI_k 1 _ (O137 h.1.1), b1_s]
  rw [nI_0] at e
  exact e
theorem r_bg {s : St} {T : Nat → Nat} {n l : Nat} : ∀ (j k f : Nat) (N : MM), k + j = 8 → j < f → TR s T n l k N → BgR N k (fun i => T i - 48) → ∃ N' m, f_X12_readsBags_5 f 143 N = some (if m ≠ 0 ∧ l ≤ m then 0 else -1 - nI m, N') ∧ m = k + bgN T l j k ∧ TR s T n l m N' ∧ BgR N' m (fun i => T i - 48) ∧ Fr wBr N N' ∧ mR N' = mR N := by
  intro j
  have fin : ∀ (k : Nat) (N : MM), k ≤ 8 → TR s T n l k N → BgR N k (fun i => T i - 48) → f_X12_readsBags_76 143 N = some (if k ≠ 0 ∧ l ≤ k then 0 else -1 - nI k, N) := by
    intro k N hk h hb
    obtain ⟨b1', b2', b3', b4'⟩ := h.2.2.2.2
    unfold f_X12_readsBags_76 f_X12_readsBags_94
    rw [gI_k 48 (tr_O h), b1_s, hb.1, gI_k 19 (tr_O h), h.2.2.1]
    by_cases hz : k = 0
    · rw [if_pos (by rw [hz]; rfl), b1_s, if_neg (c := k ≠ 0 ∧ l ≤ k) (fun q => q.1 hz)]
    · rw [if_neg (nI_ne0 (by omega) (by omega)), b1_s, gI_k 20 (tr_O h), b1_s, h.2.1]
      by_cases hl : l ≤ k
      · rw [if_pos (nI_le hl (by omega)), if_pos (c := k ≠ 0 ∧ l ≤ k) ⟨hz, hl⟩]
      · rw [if_neg (nI_ge (by omega) (by omega)), b1_s, if_neg (c := k ≠ 0 ∧ l ≤ k) (fun q => hl q.2)]
  induction j with
  | zero =>
    intro k f N hk hf h hb
    cases f with
    | zero => omega
    | succ f =>
      refine ⟨N, k, ?_, rfl, h, hb, Fr.rf N, rfl⟩
      rw [f_X12_readsBags_5, gI_k 48 (tr_O h), b1_s, hb.1, if_pos (show (8 : Int32) ≤ nI k from nI_le (a := 8) (by omega) (by omega))]
      exact fin k N (by omega) h hb
  | succ j ih =>
    intro k f N hk hf h hb
    cases f with
    | zero => omega
    | succ f =>
      obtain ⟨b1', b2', b3', b4'⟩ := h.2.2.2.2
      have h0 := h.1.1
      rw [f_X12_readsBags_5, gI_k 48 (tr_O h), b1_s, hb.1, if_neg (show ¬ (8 : Int32) ≤ nI k from nI_ge (b := 8) (by omega) (by decide)), gI_k 19 (tr_O h), b1_s, h.2.2.1, gI_k 20 (tr_O h), b1_s, h.2.1]
      by_cases hl : k < l
      · have hT := b4' k hl
        rw [if_neg (nI_ge hl (by omega)), sh_R h0 (a := 143) (k := 17) (b := 155) 12 (by decide) rfl (by decide), b1_s, b1_s, ld_155 h0 (by omega), b1_s, h.2.2.2.1 k hl, e_inL (nI (T k)) (nI 49) (nI 57) _ _ (by decide) (by decide), b2_s]
        by_cases hd : k < l ∧ 48 + 1 ≤ T k ∧ T k ≤ 48 + 9
        · obtain ⟨N1, e1, c1, f1, r1⟩ := tr_digit h (lo := 1) (hi := 9) (by decide) (by decide)
          have s1 := c1.1.1
          unfold dgA at c1
          unfold dgO at e1
          rw [if_pos hd] at c1 e1
          have b1 : BgR N1 k (fun i => T i - 48) := hb.fr f1 (fun a k q => by unfold w19; omega)
          have ff : Fr wB3 N1 (sI (sI N1 173 k (nI (T k - 48))) 143 48 (nI (k + 1))) := ((Fr.rf (W := wB3) N1).sI (by unfold wB3; omega)).sI (by unfold wB3; omega)
          have c2 : TR s T n l (k + 1) (sI (sI N1 173 k (nI (T k - 48))) 143 48 (nI (k + 1))) := c1.fr' ff rfl (fun a k q => by unfold wB3 at q; unfold wR; omega) (fun a k q => by unfold wB3; omega)
          have b2 : BgR (sI (sI N1 173 k (nI (T k - 48))) 143 48 (nI (k + 1))) (k + 1) (fun i => T i - 48) := by
            refine ⟨by rw [mI_w, if_pos ⟨rfl, rfl⟩], fun i hi => ?_⟩
            rw [mI_w, if_neg (by omega), mI_w]
            by_cases e : i = k
            · rw [if_pos ⟨rfl, e⟩, e]
            · rw [if_neg (fun q => e q.2)]; exact b1.2 i (by omega)
          obtain ⟨N3, m, e3, m3, c3, b3, f3, r3⟩ := ih (k + 1) f _ (by omega) (by omega) c2 b2
          refine ⟨N3, m, ?_, by rw [bgN_t hd]; omega, c3, b3, ((f1.mono (fun a k q => by unfold w19 at q; unfold wBr; omega)).tr (ff.mono (fun a k q => by unfold wB3 at q; unfold wBr; omega))).tr f3, r3.trans r1⟩
          have s2 : Sh (sI N1 173 k (nI (T k - 48))) := s1
          have e1' : f_X12_digit 143 1 9 N = some (nI (T k - 48), N1) := e1
          rw [if_pos (c := nI 49 ≤ nI (T k) ∧ nI (T k) ≤ nI 57) ⟨nI_le (by omega) (by omega), nI_le (by omega) (by omega)⟩, if_neg (by decide), (R173 h0).1, b1_s, gI_k 48 (tr_O h), b1_s, hb.1, e1', b2_s, st_173 s1 _ (by omega), b1_s, gI_k 48 (O143 s2), b1_s, mI_w, if_neg (by omega), b1.1, nI_1, pI_k 48 _ (O143 s2), b1_s, e3]
        · refine ⟨N, k, ?_, by rw [bgN_f hd]; rfl, h, hb, Fr.rf N, rfl⟩
          rw [if_neg (c := nI 49 ≤ nI (T k) ∧ nI (T k) ≤ nI 57) (by rw [nI_leI (by decide) (by omega), nI_leI (by omega) (by decide)]; omega), if_pos rfl]
          exact fin k N (by omega) h hb
      · refine ⟨N, k, ?_, by rw [bgN_f (fun q => hl q.1)]; rfl, h, hb, Fr.rf N, rfl⟩
        rw [if_pos (nI_le (by omega) (by omega))]
        exact fin k N (by omega) h hb
theorem r_bread {s : St} {T : Nat → Nat} {n l : Nat} {N : MM} (h : TR s T n l 0 N) : ∃ N', f_X12_readsBags 143 N = some (if bgN T l 8 0 ≠ 0 ∧ l ≤ bgN T l 8 0 then 0 else -1 - nI (bgN T l 8 0), N') ∧ TR s T n l (bgN T l 8 0) N' ∧ BgR N' (bgN T l 8 0) (fun i => T i - 48) ∧ Fr wBr N N' ∧ mR N' = mR N := by
  have ff : Fr wB3 N (sI N 143 48 0) := (Fr.rf (W := wB3) N).sI (by unfold wB3; omega)
  have c2 : TR s T n l 0 (sI N 143 48 0) := h.fr' ff rfl (fun a k q => by unfold wB3 at q; unfold wR; omega) (fun a k q => by unfold wB3; omega)
  obtain ⟨N', m, e, em, c, b, f, r⟩ := r_bg 8 0 1024 _ rfl (by decide) c2 ⟨by rw [mI_w, if_pos ⟨rfl, rfl⟩]; rfl, fun i hi => absurd hi (Nat.not_lt_zero i)⟩
  rw [Nat.zero_add] at em
  subst em
  refine ⟨N', ?_, c, b, (ff.mono (fun a k q => by unfold wB3 at q; unfold wBr; omega)).tr f, r⟩
  unfold f_X12_readsBags f_X12_readsBags_0
  rw [if_pos (tr_O h), pI_k 48 _ (tr_O h), b1_s, e]
/-! sets of bags -/
theorem sb_bit : ∀ t, t < 256 → ∀ k, k < 8 → decide (((nI t >>> (nI k &&& 31)) &&& (1 : Int32)) = 0) = !t.testBit k := by decide +kernel
theorem sb_bit1 : ∀ t, t < 256 → ∀ k, k < 8 → decide (((nI t >>> (nI k &&& 31)) &&& (1 : Int32)) = 1) = t.testBit k := by decide +kernel
theorem sb_xor : ∀ t, t < 256 → ∀ k, k < 8 → decide (nI t ^^^ ((1 : Int32) <<< (nI k &&& 31)) = nI (t ^^^ 2 ^ k)) = true := by decide +kernel
theorem sb_lt : ∀ t, t < 256 → ∀ k, k < 8 → (!t.testBit k || decide (t ^^^ 2 ^ k < t)) = true := by decide +kernel
theorem sb_pow : ∀ k, k ≤ 8 → ((1 : Int32) <<< (nI k &&& 31)) = nI (2 ^ k) := by decide +kernel
theorem sb_m32 : ∀ y, y < 512 → nI y &&& (-32 : Int32) = nI (y / 32 * 32) := by decide +kernel
theorem sb_ne : ∀ m, m ≤ 8 → ∀ t, t < 2 ^ m → (decide (t = 0) || anyB t.testBit m) = true := by decide +kernel
theorem p2_le {m : Nat} (h : m ≤ 8) : 2 ^ m ≤ 256 := Nat.le_trans (Nat.pow_le_pow_right (by decide) h) (by decide)
theorem p2_pos (m : Nat) : 1 ≤ 2 ^ m := Nat.one_le_two_pow
def szF (w : Nat → Nat) (t m : Nat) : Nat := fb_sm (fun k => if t.testBit k = true then w k else 0) m
theorem szF_s (w : Nat → Nat) (t m : Nat) : szF w t (m + 1) = szF w t m + (if t.testBit m = true then w m else 0) := rfl
theorem c_szo {M : MM} {m : Nat} {w : Nat → Nat} (h0 : Sh M) (hb : BgC M m w) (hm : m ≤ 8) {t : Nat} (ht : t < 256) : f_X0_sizeOf 137 (nI t) M = some (nI (szF w t m), M) := by
  unfold f_X0_sizeOf f_X0_sizeOf_0
  rw [if_pos (O137 h0), ← nI_0]
  have := lpm (fun f k N => f_X0_sizeOf_4 f 137 (nI t) (nI (szF w t k)) (nI k) N) (fun k N => N = M) (fun r => r = (nI (szF w t m), M)) m (fun f k N hk hN => by
    left
    subst hN
    refine ⟨N, ?_, rfl⟩
    show f_X0_sizeOf_4 (f + 1) _ _ _ _ _ = f_X0_sizeOf_4 f _ _ _ _ _
    have hbit := sb_bit t ht k (by omega)
    rw [f_X0_sizeOf_4, gI_k 1 (O137 h0), b1_s, hb.1, if_neg (nI_ge hk (by omega)), szF_s]
    unfold f_X0_sizeOf_31
    cases hc : t.testBit k with
    | true =>
      rw [hc] at hbit
      rw [if_neg (of_decide_eq_false hbit), (R137 h0).2.1, b1_s, ld_139 h0 (by omega), b1_s, hb.2 k hk, bn_s, nI_add, bn_s, nI_1, if_pos rfl]
    | false =>
      rw [hc] at hbit
      rw [if_pos (of_decide_eq_true hbit), bn_s, Int32.add_zero, bn_s, nI_1, if_neg (by decide)]; rfl) (fun f N hN => by
    subst hN
    refine ⟨_, ?_, rfl⟩
    show f_X0_sizeOf_4 (f + 1) _ _ _ _ _ = _
    rw [f_X0_sizeOf_4, gI_k 1 (O137 h0), b1_s, hb.1, if_pos (nI_le (Nat.le_refl _) (by omega))]) 1024 0 M (by omega) (by omega) rfl
  obtain ⟨r, e, er⟩ := this
  rw [er] at e
  exact e
theorem e_hasB {t k : Nat} (ht : t < 256) (hk : k < 8) (M : MM) : f_X12_has (nI t) (nI k) M = some (bI (t.testBit k), M) := by
  unfold f_X12_has f_X12_has_0
  have hbit := sb_bit1 t ht k hk
  cases hc : t.testBit k with
  | true => rw [hc] at hbit; rw [if_pos (of_decide_eq_true hbit), rz1, bI_t]
  | false => rw [hc] at hbit; rw [if_neg (of_decide_eq_false hbit), rz0, bI_f]
theorem r_szo {M : MM} {m : Nat} {w : Nat → Nat} (h0 : Sh M) (hb : BgR M m w) (hm : m ≤ 8) {t : Nat} (ht : t < 256) : f_X12_sizeOf 143 (nI t) M = some (nI (szF w t m), M) := by
  unfold f_X12_sizeOf f_X12_sizeOf_0
  rw [if_pos (O143 h0), ← nI_0]
  have := lpm (fun f k N => f_X12_sizeOf_4 f 143 (nI t) (nI (szF w t k)) (nI k) N) (fun k N => N = M) (fun r => r = (nI (szF w t m), M)) m (fun f k N hk hN => by
    left
    subst hN
    refine ⟨N, ?_, rfl⟩
    show f_X12_sizeOf_4 (f + 1) _ _ _ _ _ = f_X12_sizeOf_4 f _ _ _ _ _
    rw [f_X12_sizeOf_4, gI_k 48 (O143 h0), b1_s, hb.1, if_neg (nI_ge hk (by omega)), szF_s, e_hasB ht (by omega), b2_s]
    unfold f_X12_sizeOf_31
    cases hc : t.testBit k with
    | true => rw [if_neg (show ¬ bI true = 0 by decide), (R173 h0).1, b1_s, ld_173 h0 (by omega), b1_s, hb.2 k hk, bn_s, nI_add, bn_s, nI_1, if_pos rfl]
    | false => rw [if_pos (show bI false = 0 from rfl), bn_s, Int32.add_zero, bn_s, nI_1, if_neg (by decide)]; rfl) (fun f N hN => by
    subst hN
    refine ⟨_, ?_, rfl⟩
    show f_X12_sizeOf_4 (f + 1) _ _ _ _ _ = _
    rw [f_X12_sizeOf_4, gI_k 48 (O143 h0), b1_s, hb.1, if_pos (nI_le (Nat.le_refl _) (by omega))]) 1024 0 M (by omega) (by omega) rfl
  obtain ⟨r, e, er⟩ := this
  rw [er] at e
  exact e
/-! the class weighs -/
def NDS (M : MM) (w : Nat → Nat) (m v S : Nat) : Prop := ∀ t, t < S → ∃ x, mI M 141 t = nI x ∧ GP w m v t.testBit x
theorem GP.b {w : Nat → Nat} {n v : Nat} {S : Nat → Bool} {x : Nat} (h : GP w n v S x) : x < 512 ∨ x = 1048576 := by
  rcases h with ⟨g, _⟩ | ⟨g, _⟩
  · exact Or.inr g
  · exact Or.inl g
theorem n2_20 : (1048576 : Int32) = nI 1048576 := rfl
theorem e_wom {y b v : Nat} (hy : y < 512 ∨ y = 1048576) (hb : b ≤ 9) (hv : v ≤ 20) (M : MM) : f_X0_withOneMore (nI y) (nI b) (nI v) M = some (nI (wom y b v), M) := by
  unfold f_X0_withOneMore f_X0_withOneMore_0 f_X0_withOneMore_24 wom
  rcases hy with hy | hy
  · rw [if_pos (show nI y < 1048576 from nI_lt (b := 1048576) (by omega) (by omega)), if_neg (c := 1048576 ≤ y) (by omega), show nI y &&& (31 : Int32) = nI (y % 32) from pk_andN (by omega) 5 (by decide), nI_add]
    by_cases h : y % 32 + b ≤ v
    · rw [if_neg (nI_nlt h (by omega)), if_neg (by decide), if_pos h, nI_add]
    · rw [if_pos (nI_lt (by omega) (by omega)), if_pos rfl, if_neg h, sb_m32 y hy, show (32 : Int32) = nI 32 from rfl, nI_add, nI_add]
  · rw [if_neg (show ¬ nI y < 1048576 from nI_nlt (b := 1048576) (by omega) (by omega)), if_pos (c := 1048576 ≤ y) (by omega)]
    rfl
theorem wom_b {y b v : Nat} (hy : y < 512 ∨ y = 1048576) (hb : b ≤ 9) : wom y b v ≤ 1048576 := by
  unfold wom
  split
  · omega
  · split <;> omega
theorem tb_rm {t k : Nat} (h : t.testBit k = true) : (t ^^^ 2 ^ k).testBit = rmvB t.testBit k := by
  funext i
  rw [fb_bit_flip]
  unfold rmvB
  by_cases e : i = k
  · rw [e, h, decide_eq_true rfl]; rfl
  · rw [decide_eq_false e, Bool.xor_false, Bool.not_false, Bool.and_true]
def w141 (a k : Nat) : Prop := a = 141
theorem c_wgin {M : MM} {m v t : Nat} {w : Nat → Nat} (h0 : Sh M) (hb : BgC M m w) (hm1 : 1 ≤ m) (hm : m ≤ 8) (hv : v ≤ 20) (hw9 : ∀ i, i < m → 1 ≤ w i ∧ w i ≤ 9) (ht0 : t ≠ 0) (ht : t < 2 ^ m) (hn : NDS M w m v t) (hy : mI M 141 t = nI 1048576) (K : Nat → Int32 → Int32 → MM → Option MM) : ∃ M', f_X0_weigh_29 K 1024 137 (nI v) (nI t) 0 M = K 137 (nI v) (nI (t + 1)) M' ∧ NDS M' w m v (t + 1) ∧ Fr w141 M M' ∧ mR M' = mR M := by
  have h256 := p2_le hm
  obtain ⟨f', M', e, hN, ⟨y, y1, y2, y3, y4⟩, fF, rR⟩ := lpg (fun f k N => f_X0_weigh_29 K f 137 (nI v) (nI t) (nI k) N) (fun k N => NDS N w m v t ∧ (∃ y, mI N 141 t = nI y ∧ y ≤ 1048576 ∧ (∀ i, i < k → t.testBit i = true → w i ≤ v → ∃ z, GP w m v (rmvB t.testBit i) z ∧ y ≤ wom z (w i) v) ∧ (y = 1048576 ∨ ∃ i, i < k ∧ t.testBit i = true ∧ w i ≤ v ∧ ∃ z, GP w m v (rmvB t.testBit i) z ∧ y = wom z (w i) v)) ∧ Fr w141 M N ∧ mR N = mR M) m (fun f k N hk hi => by
    obtain ⟨hN, ⟨y, y1, y2, y3, y4⟩, fF, rR⟩ := hi
    have sN := fF.sh' rR h0
    have bN : BgC N m w := hb.fr fF (fun a k q => by unfold w141; omega)
    have hbit := sb_bit t (by omega) k (by omega)
    have skip : ¬ (t.testBit k = true ∧ w k ≤ v) → (∀ i, i < k + 1 → t.testBit i = true → w i ≤ v → ∃ z, GP w m v (rmvB t.testBit i) z ∧ y ≤ wom z (w i) v) ∧ (y = 1048576 ∨ ∃ i, i < k + 1 ∧ t.testBit i = true ∧ w i ≤ v ∧ ∃ z, GP w m v (rmvB t.testBit i) z ∧ y = wom z (w i) v) := by
      intro hno
      refine ⟨fun i hi h1 h2 => ?_, ?_⟩
      · by_cases e : i = k
        · subst e; exact absurd ⟨h1, h2⟩ hno
        · exact y3 i (by omega) h1 h2
      · rcases y4 with g | ⟨i, g1, g2⟩
        · exact Or.inl g
        · exact Or.inr ⟨i, by omega, g2⟩
    show ∃ M', f_X0_weigh_29 K (f + 1) _ _ _ _ _ = _ ∧ _
    rw [f_X0_weigh_29, gI_k 1 (O137 sN), b1_s, bN.1, if_neg (nI_ge hk (by omega))]
    unfold f_X0_weigh_90
    cases hc : t.testBit k with
    | false =>
      rw [hc] at hbit
      have := skip (by rw [hc]; exact fun q => absurd q.1 (by decide))
      rw [if_pos (of_decide_eq_true hbit), bn_s, nI_1]
      exact ⟨N, rfl, hN, ⟨y, y1, y2, this.1, this.2⟩, fF, rR⟩
    | true =>
      rw [hc] at hbit
      rw [if_neg (of_decide_eq_false hbit), (R137 sN).2.1, b1_s, ld_139 sN (by omega), b1_s, bN.2 k hk]
      have h9 := hw9 k hk
      by_cases hkv : w k ≤ v
      · have hlt : t ^^^ 2 ^ k < t := by
          have := sb_lt t (by omega) k (by omega)
          rw [hc] at this
          exact of_decide_eq_true this
        obtain ⟨z, z1, z2⟩ := hN _ hlt
        rw [tb_rm hc] at z2
        have hwb := wom_b (v := v) z2.b h9.2
        rw [if_neg (nI_nlt hkv (by omega)), (R137 sN).2.2.2, b1_s, b1_s, ld_141 sN (show t < 256 by omega), b1_s, y1, b1_s, of_decide_eq_true (sb_xor t (by omega) k (by omega)), ld_141 sN (show t ^^^ 2 ^ k < 256 by omega), b1_s, z1, b1_s, ld_139 sN (by omega), b1_s, bN.2 k hk, e_wom z2.b h9.2 hv, b2_s, minI_n (by omega) (by omega), st_141 sN _ (show t < 256 by omega), b1_s, bn_s, nI_1]
        have f1 : Fr w141 N (sI N 141 t (nI (min y (wom z (w k) v)))) := (Fr.rf (W := w141) N).sI rfl
        refine ⟨_, rfl, fun t' ht' => ?_, ⟨min y (wom z (w k) v), by rw [mI_w, if_pos ⟨rfl, rfl⟩], by omega, fun i hi h1 h2 => ?_, ?_⟩, fF.tr f1, rR⟩
        · obtain ⟨x, x1, x2⟩ := hN t' ht'
          exact ⟨x, by rw [mI_w, if_neg (by omega)]; exact x1, x2⟩
        · by_cases e : i = k
          · rw [e]; exact ⟨z, z2, Nat.min_le_right _ _⟩
          · obtain ⟨z', g1, g2⟩ := y3 i (by omega) h1 h2
            exact ⟨z', g1, by omega⟩
        · rcases Nat.le_total y (wom z (w k) v) with g | g
          · rw [Nat.min_eq_left g]
            rcases y4 with q | ⟨i, g1, g2⟩
            · exact Or.inl q
            · exact Or.inr ⟨i, by omega, g2⟩
          · rw [Nat.min_eq_right g]
            exact Or.inr ⟨k, by omega, hc, hkv, z, z2, rfl⟩
      · have := skip (fun q => hkv q.2)
        rw [if_pos (nI_lt (by omega) (by omega)), bn_s, nI_1]
        exact ⟨N, rfl, hN, ⟨y, y1, y2, this.1, this.2⟩, fF, rR⟩) 1024 0 M (by omega) (by omega) ⟨hn, ⟨1048576, hy, Nat.le_refl _, fun i hi => absurd hi (Nat.not_lt_zero i), Or.inl rfl⟩, Fr.rf M, rfl⟩
  have sN := fF.sh' rR h0
  have bN : BgC M' m w := hb.fr fF (fun a k q => by unfold w141; omega)
  have e' : f_X0_weigh_29 K 1024 137 (nI v) (nI t) (nI 0) M = f_X0_weigh_29 K (f' + 1) 137 (nI v) (nI t) (nI m) M' := e
  rw [nI_0] at e'
  refine ⟨M', ?_, fun t' ht' => ?_, fF, rR⟩
  · rw [e', f_X0_weigh_29, gI_k 1 (O137 sN), b1_s, bN.1, if_pos (nI_le (Nat.le_refl _) (by omega)), bn_s, nI_1]
  · by_cases et : t' = t
    · rw [et]
      refine ⟨y, y1, gp_fin hv hm1 hm (fun k hk => (hw9 k hk).1) ?_ y3 y4⟩
      have := sb_ne m hm t ht
      rw [decide_eq_false ht0, Bool.false_or] at this
      obtain ⟨k, h1, h2⟩ := anyB_iff.mp this
      exact ⟨k, h1, h2⟩
    · exact hN t' (by omega)
theorem c_weigh {M : MM} {m v : Nat} {w : Nat → Nat} (h0 : Sh M) (hb : BgC M m w) (hm1 : 1 ≤ m) (hm : m ≤ 8) (hv : v ≤ 20) (hw9 : ∀ i, i < m → 1 ≤ w i ∧ w i ≤ 9) : ∃ M', f_X0_weigh 137 (nI v) M = some M' ∧ NDS M' w m v (2 ^ m) ∧ Fr w141 M M' ∧ mR M' = mR M := by
  have h256 := p2_le hm
  have hp := p2_pos m
  have f1 : Fr w141 M (sI M 141 0 (nI v)) := (Fr.rf (W := w141) M).sI rfl
  obtain ⟨f', M', e, hN, _, fF, rR⟩ := lpg (fun f k N => f_X0_weigh_9 f 137 (nI v) (nI k) N) (fun k N => NDS N w m v k ∧ 1 ≤ k ∧ Fr w141 M N ∧ mR N = mR M) (2 ^ m) (fun f k N hk hi => by
    obtain ⟨hN, hk1, fF, rR⟩ := hi
    have sN := fF.sh' rR h0
    have bN : BgC N m w := hb.fr fF (fun a k q => by unfold w141; omega)
    have f2 : Fr w141 N (sI N 141 k (nI 1048576)) := (Fr.rf (W := w141) N).sI rfl
    obtain ⟨N2, e2, n2, f3, r3⟩ := c_wgin (M := sI N 141 k (nI 1048576)) (t := k) sN (bN.fr f2 (fun a k q => by unfold w141; omega)) hm1 hm hv hw9 (by omega) hk (fun t ht => by
      obtain ⟨x, x1, x2⟩ := hN t ht
      exact ⟨x, by rw [mI_w, if_neg (by omega)]; exact x1, x2⟩) (by rw [mI_w, if_pos ⟨rfl, rfl⟩]) (f_X0_weigh_9 f)
    refine ⟨N2, ?_, n2, by omega, (fF.tr f2).tr f3, r3.trans rR⟩
    show f_X0_weigh_9 (f + 1) _ _ _ _ = _
    rw [f_X0_weigh_9, gI_k 1 (O137 sN), b1_s, bN.1, sb_pow m hm, if_neg (nI_ge hk (by omega)), (R137 sN).2.2.2, b1_s, n2_20, st_141 sN _ (by omega), b1_s, e2]) 1024 1 (sI M 141 0 (nI v)) (by omega) (by omega) ⟨fun t ht => ⟨v, by rw [show t = 0 by omega, mI_w, if_pos ⟨rfl, rfl⟩], gp_0 hv (fun k _ => by rw [show t = 0 by omega]; exact Nat.zero_testBit k)⟩, Nat.le_refl 1, f1, rfl⟩
  have sN := fF.sh' rR h0
  have bN : BgC M' m w := hb.fr fF (fun a k q => by unfold w141; omega)
  have st0 := st_141 h0 (nI v) (j := 0) (by decide)
  rw [nI_0] at st0
  have e' : f_X0_weigh_9 1024 137 (nI v) (nI 1) (sI M 141 0 (nI v)) = f_X0_weigh_9 (f' + 1) 137 (nI v) (nI (2 ^ m)) M' := e
  refine ⟨M', ?_, hN, fF, rR⟩
  unfold f_X0_weigh f_X0_weigh_0
  rw [if_pos (O137 h0), (R137 h0).2.2.2, b1_s, st0, b1_s, show (1 : Int32) = nI 1 from rfl, e', f_X0_weigh_9, gI_k 1 (O137 sN), b1_s, bN.1, sb_pow m hm, if_pos (nI_le (Nat.le_refl _) (by omega))]

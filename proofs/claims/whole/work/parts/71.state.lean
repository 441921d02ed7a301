/-! THE STATE THAT BOTH PROGRAMS HOLD, and how each holds it -/
abbrev Pl : Type := Nat × (Nat → Nat)
abbrev St : Type := (Nat → Nat → Nat) × (Nat × (Nat → Int64)) × (Nat × ((Nat → Int32) → Int32)) × Pl × (Nat → Pl) × (Nat → Pl)
def zP (s : St) : Nat := s.1 0 0
def zE (s : St) : Nat := s.1 0 1
def zT (s : St) : Nat := s.1 0 2
def zU (s : St) : Nat := s.1 0 3
def zS (s : St) : Nat := s.1 0 4
def zL (s : St) : Nat := s.1 0 5
def zshy (s : St) : Nat → Nat := s.1 1
def zway (s : St) : Nat → Nat := s.1 2
def zlas (s : St) : Nat → Nat := s.1 3
def zfro (s : St) : Nat → Nat := s.1 4
def ztil (s : St) : Nat → Nat := s.1 5
def zthi (s : St) : Nat → Nat := s.1 6
def zsee (s : St) : Nat → Nat := s.1 7
def zwis (s : St) : Nat → Nat := s.1 8
def ztap (s : St) : Nat → Nat := s.1 9
def zsw (s : St) : Nat → Nat := s.1 10
def zse (s : St) : Nat → Nat := s.1 11
def zsm (s : St) : Nat → Nat := s.1 12
def zkv (s : St) : Nat → Nat := s.1 13
def zrow (s : St) : Nat × (Nat → Int64) := s.2.1
def zrule (s : St) : Nat × ((Nat → Int32) → Int32) := s.2.2.1
def zplan (s : St) : Pl := s.2.2.2.1
def zund (s : St) : Nat → Pl := s.2.2.2.2.1
def zkep (s : St) : Nat → Pl := s.2.2.2.2.2
def uF (f : Nat → Nat → Nat) (a k v : Nat) : Nat → Nat → Nat := fun b j => if b = a ∧ j = k then v else f b j
/-- one number of the state set -/
def zset (s : St) (a k v : Nat) : St := (uF s.1 a k v, s.2)
def zsrow (s : St) (r : Nat × (Nat → Int64)) : St := (s.1, r, s.2.2)
def zsplan (s : St) (q : Pl) : St := (s.1, s.2.1, s.2.2.1, q, s.2.2.2.2)
def okT (P E t : Nat) : Prop := t % 8 < P ∧ t / 8 % 8 < E ∧ t / 64 < 100
def okPl (P E : Nat) (q : Pl) : Prop := q.1 ≤ 12 ∧ ∀ i, i < q.1 → okT P E (q.2 i)
def WFn (s : St) : Prop := zP s ≤ 6 ∧ zE s ≤ 8 ∧ 1 ≤ zT s ∧ zT s ≤ 99 ∧ zU s ≤ 15 ∧ zS s ≤ 12 ∧ zL s ≤ 80 ∧ (zrow s).1 ≤ 8
def WFh (s : St) : Prop := (∀ p, p < zP s → zshy s p ≤ 1) ∧ (∀ e, e < zE s → zway s e ≤ 9 ∧ 1 ≤ zlas s e ∧ zlas s e ≤ 9 ∧ ztil s e ≤ 99 ∧ zfro s e ≤ ztil s e ∧ zthi s e ≤ 2 ∧ zsee s e ≤ 1) ∧ (∀ p e, p < zP s → e < 8 → zwis s (8 * p + e) ≤ 9)
def WFt (s : St) : Prop := ∀ k, k < zL s → ztap s k < 256
def WFs (s : St) : Prop := ∀ k, k < zS s → zsw s k < zP s ∧ zse s k < zE s ∧ zsm s k < 100
def WFp (s : St) : Prop := okPl (zP s) (zE s) (zplan s) ∧ (∀ j, j < zU s → okPl (zP s) (zE s) (zund s j)) ∧ (∀ i, i < 3 → okPl (zP s) (zE s) (zkep s i))
def WF (s : St) : Prop := WFn s ∧ WFh s ∧ WFt s ∧ WFs s ∧ WFp s
/-- a plan as the class holds it, at cell a -/
def PL (M : MM) (a : Nat) (q : Pl) : Prop := mI M a 1 = nI q.1 ∧ ∀ i, i < q.1 → mI M (a + 1) i = nI (q.2 i)
/-- a plan as the reference holds it: cell a, from o on -/
def PR (M : MM) (a o : Nat) (q : Pl) : Prop := mI M a (o + 45) = nI q.1 ∧ ∀ i, i < q.1 → mI M a (o + 3 * i) = nI (q.2 i % 8) ∧ mI M a (o + (3 * i + 1)) = nI (q.2 i / 8 % 8) ∧ mI M a (o + (3 * i + 2)) = nI (q.2 i / 64)
/-- what an operator of the rule works -/
def wrk (k : Nat) (a b : Int32) : Int32 := match k with
  | 0 => if a < b then 1 else 0
  | 1 => if b < a then 1 else 0
  | 2 => if a = b then 1 else 0
  | 3 => a + b
  | 4 => a - b
  | 5 => a * b
  | _ => if b = 0 then 0 else a / b
def stNeg (st : List Int32) : Option (List Int32) := match st with
  | a :: r => some (-a :: r)
  | [] => none
def stBin (k : Nat) (st : List Int32) : Option (List Int32) := match st with
  | b :: a :: r => some (wrk k a b :: r)
  | _ => none
/-- the operator of a sign, as the class tells it -/
def opC (c : Int32) : Nat := if c = -160 then 0 else if c = -162 then 1 else if c = -161 then 2 else if c = -143 then 3 else if c = -145 then 4 else if c = -142 then 5 else 6
def stepC (fc : Nat → Int32) (c : Int32) (st : List Int32) : Option (List Int32) :=
  if c < -8 then (if c = -226 then stNeg st else if c = -160 ∨ c = -162 ∨ c = -161 ∨ c = -143 ∨ c = -145 ∨ c = -142 ∨ c = -147 then stBin (opC c) st else none) else if c < 0 then some (fc (-1 - c).toNatClampNeg :: st) else some (c :: st)
def runC (fc : Nat → Int32) (code : Nat → Int32) : Nat → Option (List Int32)
  | 0 => some []
  | k + 1 => (runC fc code k).bind (stepC fc (code k))
def stepR (fc : Nat → Int32) (c : Int32) (st : List Int32) : Option (List Int32) :=
  if c = 3000 then stNeg st else if c < 2000 then (if c < 1000 then some (c :: st) else if c < 1008 then some (fc (c - 1000).toNatClampNeg :: st) else none) else if c < 2007 then stBin (c - 2000).toNatClampNeg st else none
def runR (fc : Nat → Int32) (code : Nat → Int32) : Nat → Option (List Int32)
  | 0 => some []
  | k + 1 => (runR fc code k).bind (stepR fc (code k))
def rcText (s : St) (M : MM) : Prop := mI M 1 1 = nI (zL s) ∧ ∀ k, k < zL s → mI M 2 k = nI (ztap s k)
def rcRow (s : St) (M : MM) : Prop := mI M 3 1 = nI (zrow s).1 ∧ ∀ k, k < (zrow s).1 → mL M 4 k = (zrow s).2 k
def rcHall (s : St) (M : MM) : Prop := mI M 5 7 = nI (zP s) ∧ mI M 5 8 = nI (zE s) ∧ mI M 5 9 = nI (zT s) ∧ (∀ p, p < zP s → mI M 6 p = nI (zshy s p)) ∧ (∀ e, e < zE s → mI M 7 e = nI (zway s e) ∧ mI M 8 e = nI (zlas s e) ∧ mI M 9 e = nI (zfro s e) ∧ mI M 10 e = nI (ztil s e) ∧ mI M 11 e = nI (zthi s e) ∧ mI M 12 e = nI (zsee s e)) ∧ (∀ p e, p < zP s → e < 8 → mI M 13 (8 * p + e) = nI (zwis s (8 * p + e))) ∧ (∀ p e, zP s ≤ p → p < 6 → e < 8 → mI M 13 (8 * p + e) = 1)
def rcRule (s : St) (M : MM) : Prop := ∃ n, n ≤ 40 ∧ mI M 84 6 = nI n ∧ ((zrule s).1 = 0 ↔ n = 0) ∧ (n ≠ 0 → ∀ fc, runC fc (mI M 85) n = some [(zrule s).2 fc])
def rcPast (s : St) (M : MM) : Prop := mI M 92 4 = nI (zU s) ∧ zU s ≤ 15 ∧ ∃ π : Nat → Nat, (∀ j, j < 15 → π j < 15 ∧ mR M 93 j = some (97 + 2 * π j)) ∧ (∀ i j, i < 15 → j < 15 → π i = π j → i = j) ∧ ∀ j, j < zU s → PL M (97 + 2 * π j) (zund s j)
def rcKept (s : St) (M : MM) : Prop := ∀ i, i < 3 → PL M (127 + 2 * i) (zkep s i) ∧ ((zkv s i = 1 ∧ mI M 95 i = nI (zP s) ∧ mI M 96 i = nI (zE s)) ∨ (zkv s i = 0 ∧ (mI M 95 i = -1 ∨ ∃ a b, a ≤ zP s ∧ b ≤ zE s ∧ ¬ (a = zP s ∧ b = zE s) ∧ mI M 95 i = nI a ∧ mI M 96 i = nI b)))
def rcSee (s : St) (M : MM) : Prop := mI M 133 4 = nI (zS s) ∧ ∀ k, k < zS s → mI M 134 k = nI (zsw s k) ∧ mI M 135 k = nI (zse s k) ∧ mI M 136 k = nI (zsm s k)
def RC (s : St) (M : MM) : Prop := Sh M ∧ rcText s M ∧ rcRow s M ∧ rcHall s M ∧ PL M 14 (zplan s) ∧ rcRule s M ∧ rcPast s M ∧ rcKept s M ∧ rcSee s M
def rrText (s : St) (M : MM) : Prop := mI M 143 18 = nI (zL s) ∧ ∀ k, k < zL s → mI M 155 k = nI (ztap s k)
def rrRow (s : St) (M : MM) : Prop := mI M 143 1 = nI (zrow s).1 ∧ ∀ k, k < (zrow s).1 → mL M 144 k = (zrow s).2 k
def rrHall (s : St) (M : MM) : Prop := mI M 143 3 = nI (zP s) ∧ mI M 143 4 = nI (zE s) ∧ mI M 143 6 = nI (zT s) ∧ (∀ p, p < zP s → mI M 145 p = nI (zshy s p)) ∧ (∀ e, e < zE s → mI M 147 e = nI (zway s e) ∧ mI M 148 e = nI (zlas s e) ∧ mI M 149 e = nI (zfro s e) ∧ mI M 150 e = nI (ztil s e) ∧ mI M 151 e = nI (zthi s e) ∧ mI M 152 e = nI (zsee s e)) ∧ (∀ p e, p < zP s → e < 8 → mI M 146 (8 * p + e) = nI (zwis s (8 * p + e)))
def rrRule (s : St) (M : MM) : Prop := ∃ n, n ≤ 80 ∧ mI M 143 29 = nI n ∧ ((zrule s).1 = 0 ↔ n = 0) ∧ (n ≠ 0 → ∀ fc, runR fc (mI M 159) n = some [(zrule s).2 fc])
def rrPast (s : St) (M : MM) : Prop := mI M 143 33 = nI (zU s) ∧ ∀ j, j < zU s → PR M 163 (46 * j) (zund s j)
def rrKept (s : St) (M : MM) : Prop := ∃ c, c ≤ zP s + zE s ∧ mI M 143 5 = nI c ∧ ∀ i, i < 3 → PR M 182 (46 * i) (zkep s i) ∧ ((zkv s i = 1 ∧ mI M 180 i = 1 ∧ mI M 181 i = nI c) ∨ (zkv s i = 0 ∧ (mI M 180 i = 0 ∨ ∃ a, a < c ∧ mI M 180 i = 1 ∧ mI M 181 i = nI a)))
def rrSee (s : St) (M : MM) : Prop := mI M 143 51 = nI (zS s) ∧ ∀ k, k < zS s → mI M 176 k = nI (zsw s k) ∧ mI M 177 k = nI (zse s k) ∧ mI M 178 k = nI (zsm s k)
def RR (s : St) (M : MM) : Prop := Sh M ∧ rrText s M ∧ rrRow s M ∧ rrHall s M ∧ PR M 153 0 (zplan s) ∧ rrRule s M ∧ rrPast s M ∧ rrKept s M ∧ rrSee s M
/-! FRAMES -/
def Fr (W : Nat → Nat → Prop) (M M' : MM) : Prop := mN M' = mN M ∧ mS M' = mS M ∧ (∀ a k, ¬ W a k → mI M' a k = mI M a k) ∧ (∀ a k, ¬ W a k → mL M' a k = mL M a k) ∧ (∀ a k, ¬ W a k → mR M' a k = mR M a k)
theorem Fr.rf {W : Nat → Nat → Prop} (M : MM) : Fr W M M := ⟨rfl, rfl, fun _ _ _ => rfl, fun _ _ _ => rfl, fun _ _ _ => rfl⟩
theorem Fr.tr {W : Nat → Nat → Prop} {M M1 M2 : MM} (h : Fr W M M1) (h2 : Fr W M1 M2) : Fr W M M2 := ⟨h2.1.trans h.1, h2.2.1.trans h.2.1, fun a k n => (h2.2.2.1 a k n).trans (h.2.2.1 a k n), fun a k n => (h2.2.2.2.1 a k n).trans (h.2.2.2.1 a k n), fun a k n => (h2.2.2.2.2 a k n).trans (h.2.2.2.2 a k n)⟩
theorem Fr.mono {W W' : Nat → Nat → Prop} {M M' : MM} (h : Fr W M M') (hw : ∀ a k, W a k → W' a k) : Fr W' M M' := ⟨h.1, h.2.1, fun a k n => h.2.2.1 a k (fun q => n (hw a k q)), fun a k n => h.2.2.2.1 a k (fun q => n (hw a k q)), fun a k n => h.2.2.2.2 a k (fun q => n (hw a k q))⟩
theorem Fr.sI {W : Nat → Nat → Prop} {M M1 : MM} (h : Fr W M M1) {a k : Nat} {v : Int32} (hw : W a k) : Fr W M (sI M1 a k v) := by
  refine h.tr ⟨rfl, rfl, fun b j n => ?_, fun _ _ _ => rfl, fun _ _ _ => rfl⟩
  rw [mI_w, if_neg (fun q => n (by rw [q.1, q.2]; exact hw))]
theorem Fr.sL {W : Nat → Nat → Prop} {M M1 : MM} (h : Fr W M M1) {a k : Nat} {v : Int64} (hw : W a k) : Fr W M (sL M1 a k v) := by
  refine h.tr ⟨rfl, rfl, fun _ _ _ => rfl, fun b j n => ?_, fun _ _ _ => rfl⟩
  rw [mL_w, if_neg (fun q => n (by rw [q.1, q.2]; exact hw))]
theorem Fr.sR {W : Nat → Nat → Prop} {M M1 : MM} (h : Fr W M M1) {a k : Nat} {v : Option Nat} (hw : W a k) : Fr W M (sR M1 a k v) := by
  refine h.tr ⟨rfl, rfl, fun _ _ _ => rfl, fun _ _ _ => rfl, fun b j n => ?_⟩
  rw [mR_w, if_neg (fun q => n (by rw [q.1, q.2]; exact hw))]
theorem Fr.cI {W : Nat → Nat → Prop} {M M1 : MM} (h : Fr W M M1) {a sp b dp n : Nat} (hw : ∀ k, dp ≤ k → k < dp + n → W b k) : Fr W M (cI M1 a sp b dp n) := by
  refine h.tr ⟨rfl, rfl, fun c j q => ?_, fun _ _ _ => rfl, fun _ _ _ => rfl⟩
  rw [mI_cI, if_neg (fun r => q (by rw [r.1]; exact hw j r.2.1 r.2.2))]
theorem Fr.sh {W : Nat → Nat → Prop} {M M' : MM} (h : Fr W M M') (hs : Sh M) (hw : ∀ q, q ∈ rfT → ¬ W q.1 q.2.1) : Sh M' := ⟨h.1.trans hs.1, fun a ha => by rw [h.2.1]; exact hs.2.1 a ha, fun q hq => by rw [h.2.2.2.2 _ _ (hw q hq)]; exact hs.2.2 q hq⟩
/-- what keeps every reference -/
theorem Fr.sh' {W : Nat → Nat → Prop} {M M' : MM} (h : Fr W M M') (hr : mR M' = mR M) (hs : Sh M) : Sh M' := ⟨h.1.trans hs.1, fun a ha => by rw [h.2.1]; exact hs.2.1 a ha, fun q hq => by rw [hr]; exact hs.2.2 q hq⟩
/-- the class's scratch (and all that is not its own) -/
def wC (a k : Nat) : Prop := 143 ≤ a ∨ (a = 1 ∧ 2 ≤ k) ∨ (a = 5 ∧ 11 ≤ k) ∨ (16 ≤ a ∧ a ≤ 83) ∨ (a = 84 ∧ k = 7) ∨ (86 ≤ a ∧ a ≤ 91) ∨ (137 ≤ a ∧ a ≤ 142)
/-- the reference's -/
def wR (a k : Nat) : Prop := a < 143 ∨ (a = 143 ∧ (k = 0 ∨ k = 19 ∨ k = 20 ∨ k = 21 ∨ k = 24 ∨ k = 25 ∨ k = 30 ∨ k = 39 ∨ k = 40 ∨ k = 41 ∨ k = 48)) ∨ a = 154 ∨ (156 ≤ a ∧ a ≤ 158) ∨ (160 ≤ a ∧ a ≤ 162) ∨ (164 ≤ a ∧ a ≤ 175) ∨ a = 179 ∨ a = 183
theorem PL.fr {M M' : MM} {a : Nat} {q : Pl} (h : PL M a q) (h1 : mI M' a 1 = mI M a 1) (h2 : ∀ i, i < q.1 → mI M' (a + 1) i = mI M (a + 1) i) : PL M' a q := ⟨h1.trans h.1, fun i hi => (h2 i hi).trans (h.2 i hi)⟩
theorem PR.fr {M M' : MM} {a o : Nat} {q : Pl} (h : PR M a o q) (h1 : ∀ k, mI M' a k = mI M a k) : PR M' a o q := ⟨(h1 _).trans h.1, fun i hi => ⟨(h1 _).trans (h.2 i hi).1, (h1 _).trans (h.2 i hi).2.1, (h1 _).trans (h.2 i hi).2.2⟩⟩
theorem runC_eq {fc : Nat → Int32} {c d : Nat → Int32} : ∀ {n : Nat}, (∀ k, k < n → c k = d k) → runC fc c n = runC fc d n
  | 0, _ => rfl
  | n + 1, h => by rw [runC, runC, runC_eq (fun k hk => h k (by omega)), h n (by omega)]
theorem runR_eq {fc : Nat → Int32} {c d : Nat → Int32} : ∀ {n : Nat}, (∀ k, k < n → c k = d k) → runR fc c n = runR fc d n
  | 0, _ => rfl
  | n + 1, h => by rw [runR, runR, runR_eq (fun k hk => h k (by omega)), h n (by omega)]
theorem rfT_no : ∀ q, q ∈ rfT → q.1 ≠ 93 ∧ (q.1 < 143 ∨ q.1 = 143) := by decide +kernel
theorem RC.fr {s : St} {M M' : MM} (h : RC s M) (hf : Fr wC M M') (hs : Sh M') : RC s M' := by
  obtain ⟨h0, ⟨t1, t2⟩, ⟨r1, r2⟩, ⟨a1, a2, a3, a4, a5, a6, a7⟩, hp, ⟨n, u1, u2, u3, u4⟩, ⟨p1, p0, π, p2, p3, p4⟩, hk, ⟨s1, s2⟩⟩ := h
  have hI : ∀ a k, ¬ wC a k → mI M' a k = mI M a k := hf.2.2.1
  have hL : ∀ a k, ¬ wC a k → mL M' a k = mL M a k := hf.2.2.2.1
  have hR : ∀ a k, ¬ wC a k → mR M' a k = mR M a k := hf.2.2.2.2
  refine ⟨hs, ⟨?_, fun k hk => ?_⟩, ⟨?_, fun k hk => ?_⟩, ⟨?_, ?_, ?_, fun p hp => ?_, fun e he => ?_, fun p e hp he => ?_, fun p e hp hq he => ?_⟩, hp.fr ?_ (fun i hi => ?_), ⟨n, u1, ?_, u3, fun hn fc => ?_⟩, ⟨?_, p0, π, fun j hj => ⟨(p2 j hj).1, ?_⟩, p3, fun j hj => (p4 j hj).fr ?_ (fun i hi => ?_)⟩, fun i hi => ⟨(hk i hi).1.fr ?_ (fun j hj => ?_), ?_⟩, ⟨?_, fun k hk => ?_⟩⟩
  · rw [hI _ _ (by unfold wC; omega)]; exact t1
  · rw [hI _ _ (by unfold wC; omega)]; exact t2 k hk
  · rw [hI _ _ (by unfold wC; omega)]; exact r1
  · rw [hL _ _ (by unfold wC; omega)]; exact r2 k hk
  · rw [hI _ _ (by unfold wC; omega)]; exact a1
  · rw [hI _ _ (by unfold wC; omega)]; exact a2
  · rw [hI _ _ (by unfold wC; omega)]; exact a3
  · rw [hI _ _ (by unfold wC; omega)]; exact a4 p hp
  · rw [hI 7 _ (by unfold wC; omega), hI 8 _ (by unfold wC; omega), hI 9 _ (by unfold wC; omega), hI 10 _ (by unfold wC; omega), hI 11 _ (by unfold wC; omega), hI 12 _ (by unfold wC; omega)]; exact a5 e he
  · rw [hI _ _ (by unfold wC; omega)]; exact a6 p e hp he
  · rw [hI _ _ (by unfold wC; omega)]; exact a7 p e hp hq he
  · exact hI _ _ (by unfold wC; omega)
  · exact hI _ _ (by unfold wC; omega)
  · rw [hI _ _ (by unfold wC; omega)]; exact u2
  · rw [runC_eq (fun k _ => hI 85 k (by unfold wC; omega))]; exact u4 hn fc
  · rw [hI _ _ (by unfold wC; omega)]; exact p1
  · rw [hR _ _ (by unfold wC; omega)]; exact (p2 j hj).2
  · exact hI _ _ (by have := (p2 j (by omega)).1; unfold wC; omega)
  · exact hI _ _ (by have := (p2 j (by omega)).1; unfold wC; omega)
  · exact hI _ _ (by unfold wC; omega)
  · exact hI _ _ (by unfold wC; omega)
  · rw [hI 95 _ (by unfold wC; omega), hI 96 _ (by unfold wC; omega)]; exact (hk i hi).2
  · rw [hI _ _ (by unfold wC; omega)]; exact s1
  · rw [hI 134 _ (by unfold wC; omega), hI 135 _ (by unfold wC; omega), hI 136 _ (by unfold wC; omega)]; exact s2 k hk
theorem RR.fr {s : St} {M M' : MM} (h : RR s M) (hf : Fr wR M M') (hs : Sh M') : RR s M' := by
  obtain ⟨h0, ⟨t1, t2⟩, ⟨r1, r2⟩, ⟨a1, a2, a3, a4, a5, a6⟩, hp, ⟨n, u1, u2, u3, u4⟩, ⟨p1, p4⟩, ⟨c, k1, k2, hk⟩, ⟨s1, s2⟩⟩ := h
  have hI : ∀ a k, ¬ wR a k → mI M' a k = mI M a k := hf.2.2.1
  have hL : ∀ a k, ¬ wR a k → mL M' a k = mL M a k := hf.2.2.2.1
  refine ⟨hs, ⟨?_, fun k hk => ?_⟩, ⟨?_, fun k hk => ?_⟩, ⟨?_, ?_, ?_, fun p hp => ?_, fun e he => ?_, fun p e hp he => ?_⟩, hp.fr (fun k => ?_), ⟨n, u1, ?_, u3, fun hn fc => ?_⟩, ⟨?_, fun j hj => (p4 j hj).fr (fun i => ?_)⟩, ⟨c, k1, ?_, fun i hi => ⟨(hk i hi).1.fr (fun j => ?_), ?_⟩⟩, ⟨?_, fun k hk => ?_⟩⟩
  · rw [hI _ _ (by unfold wR; omega)]; exact t1
  · rw [hI _ _ (by unfold wR; omega)]; exact t2 k hk
  · rw [hI _ _ (by unfold wR; omega)]; exact r1
  · rw [hL _ _ (by unfold wR; omega)]; exact r2 k hk
  · rw [hI _ _ (by unfold wR; omega)]; exact a1
  · rw [hI _ _ (by unfold wR; omega)]; exact a2
  · rw [hI _ _ (by unfold wR; omega)]; exact a3
  · rw [hI _ _ (by unfold wR; omega)]; exact a4 p hp
  · rw [hI 147 _ (by unfold wR; omega), hI 148 _ (by unfold wR; omega), hI 149 _ (by unfold wR; omega), hI 150 _ (by unfold wR; omega), hI 151 _ (by unfold wR; omega), hI 152 _ (by unfold wR; omega)]; exact a5 e he
  · rw [hI _ _ (by unfold wR; omega)]; exact a6 p e hp he
  · exact hI _ _ (by unfold wR; omega)
  · rw [hI _ _ (by unfold wR; omega)]; exact u2
  · rw [runR_eq (fun k _ => hI 159 k (by unfold wR; omega))]; exact u4 hn fc
  · rw [hI _ _ (by unfold wR; omega)]; exact p1
  · exact hI _ _ (by unfold wR; omega)
  · rw [hI _ _ (by unfold wR; omega)]; exact k2
  · exact hI _ _ (by unfold wR; omega)
  · rw [hI 180 _ (by unfold wR; omega), hI 181 _ (by unfold wR; omega)]; exact (hk i hi).2
  · rw [hI _ _ (by unfold wR; omega)]; exact s1
  · rw [hI 176 _ (by unfold wR; omega), hI 177 _ (by unfold wR; omega), hI 178 _ (by unfold wR; omega)]; exact s2 k hk
/-- both hold the same state -/
def Cp (M : MM) : Prop := ∃ s, WF s ∧ RC s M ∧ RR s M
def cW (a k : Nat) : Prop := a < 143
def rW (a k : Nat) : Prop := 143 ≤ a
/-- what a call of the class, of the reference, comes to -/
def OpC (f : MM → Option (Int32 × MM)) (s : St) (r : Int32) (s' : St) : Prop := ∀ M, RC s M → ∃ M', f M = some (r, M') ∧ RC s' M' ∧ Fr cW M M'
def OpR (f : MM → Option (Int32 × MM)) (s : St) (r : Int32) (s' : St) : Prop := ∀ M, RR s M → ∃ M', f M = some (r, M') ∧ RR s' M' ∧ Fr rW M M' ∧ mR M' = mR M
theorem asm {f g : MM → Option (Int32 × MM)} {s s' : St} {r : Int32} (hc : OpC f s r s') (hr : OpR g s r s') (hw : WF s') {M : MM} (h1 : RC s M) (h2 : RR s M) : ∃ M' M'', Cp M'' ∧ f M = some (r, M') ∧ g M' = some (r, M'') := by
  obtain ⟨M1, e1, c1, f1⟩ := hc M h1
  obtain ⟨M2, e2, c2, f2, f3⟩ := hr M1 (h2.fr (f1.mono (fun a k h => Or.inl h)) c1.1)
  exact ⟨M1, M2, ⟨s', hw, c1.fr (f2.mono (fun a k h => Or.inl h)) c2.1, c2⟩, e1, e2⟩
/-! THE SCRIPT -/
theorem scr_k {L : Nat} {xs : Nat → Int32} {j : Nat} (h : j < L) (hL : L ≤ 2560) : scr L xs (nI j) = some (xs j) := by
  unfold scr
  rw [if_pos (inb_n h (by omega)), nI_clamp (by omega)]

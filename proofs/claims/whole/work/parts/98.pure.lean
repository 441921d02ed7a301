theorem pure_law : ∀ (L : Nat) (xs : Nat → Int32), L ≤ 2560 → ∃ M, g_law L xs = some ((1 : Int32), M) := by
  sorry

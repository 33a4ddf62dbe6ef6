/-- PART II, wanting -/
theorem law_pure (L : Nat) (xs : Nat → Int32) (hL : L ≤ 3072) : ∃ M', f_law L xs M00 = some (1, M') := by
  sorry

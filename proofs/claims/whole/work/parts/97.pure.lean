def M00 : Mem := (fun _ => 0, fun _ => 0, fun _ _ => 0, fun _ _ => 0, fun _ _ => 0, 0)
/-- PART II, wanting -/
theorem law_pure (L : Nat) (xs : Nat → Int32) (hL : L ≤ 3072) : ∃ M', f_law L xs M00 = some (1, M') := by
  sorry

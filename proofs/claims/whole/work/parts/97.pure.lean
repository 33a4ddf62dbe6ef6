/-! PART II: the whole run answers 1 -/
theorem law_pure (L : Nat) (xs : Nat → Int32) (hL : L ≤ 3072) : ∃ M', f_law L xs M00 = some (1, M') := law_run L xs hL

/-- the law's function answers 1 on every script -/
theorem pure_all (xs : List Int32) (h : xs.length ≤ 3072) : ∃ (fu : Nat) (M9 : List Ob), f_L_law fu xs = some (1, M9) := by
  sorry

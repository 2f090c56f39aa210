/-- what is left: the law, run by 'ev', answers true on every script -/
theorem x_goal (L : Nat) (xs : Nat → Int32) (hL : L ≤ 4608) : ∃ (f : Nat) (h' : Hp), ev L xs f 200 0 (x_loc (ML 200) [.retAddr 0]) [] x_h0 = some (some (.int 1), h') ∧ h'.1 ≤ 452 := by
  sorry

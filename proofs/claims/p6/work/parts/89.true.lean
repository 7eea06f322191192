/-- pure: the law's function answers 1 (owed) -/
theorem law_true {L : Nat} (hL : L ≤ 1536) (xs : Nat → Int32) : ∃ w' : WW, f_lw_law L xs = some ((1 : Int32), w') := by
  sorry

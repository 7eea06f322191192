/-! The law, as a function, answers 1: out of an invariant that every call keeps. -/
theorem law_of {Inv : WW → Prop} (h0 : Inv W5) (H : Steps Inv) {L : Nat} (hL : L ≤ 1536) (xs : Nat → Int32) : ∃ w' : WW, f_lw_law L xs = some ((1 : Int32), w') := by
  unfold f_lw_law
  rw [pre_eq, Option.bind_some]
  exact law_ind H hL xs 513 0 (by decide) (by decide) W5 h0
/-- owed: an invariant -/
theorem law_true {L : Nat} (hL : L ≤ 1536) (xs : Nat → Int32) : ∃ w' : WW, f_lw_law L xs = some ((1 : Int32), w') := by
  sorry

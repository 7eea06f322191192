/-! The law, as a function, answers 1 on every script of at most three ints. -/
theorem loop_end (xs : Nat → Int32) (w : WW) : f_lw_loop 3 xs 1 0 373 416 ((0 : Int32) + 3) w = some (1, w) := by
  show f_lw_loop 3 xs (0 + 1) 0 373 416 ((0 : Int32) + 3) w = some (1, w)
  rw [f_lw_loop, if_pos (by decide)]
theorem sc0 (xs : Nat → Int32) : sc 3 xs 0 = some (xs 0) := by unfold sc; rw [if_pos (by decide)]; rfl
theorem sc1 (xs : Nat → Int32) : sc 3 xs (0 + 1) = some (xs 1) := by unfold sc; rw [if_pos (by decide)]; rfl
theorem sc2 (xs : Nat → Int32) : sc 3 xs (0 + 2) = some (xs 2) := by unfold sc; rw [if_pos (by decide)]; rfl
theorem fin {r : Option (Int32 × WW)} {G : WW → Option (Int32 × WW)} (h : (cmp r G).isSome = true) (xs : Nat → Int32) : ∃ w' : WW, (bd2 r fun k w1 => bd2 (G w1) fun b w2 => bd2 (f_q_thrown 373 w2) fun t w3 => if t = k then (if k = 0 then (rL w3 416 1 (0 : Int32)).bind fun v => (if v = Int32.toInt64 b then f_lw_loop 3 xs 1 0 373 416 ((0 : Int32) + 3) w3 else some ((0 : Int32), w3)) else f_lw_loop 3 xs 1 0 373 416 ((0 : Int32) + 3) w3) else some ((0 : Int32), w3)) = some ((1 : Int32), w') := by
  obtain ⟨w', hw⟩ := Option.isSome_iff_exists.mp h
  unfold cmp at hw
  replace hw := bs2 hw
  obtain ⟨k, w1, h1, hw⟩ := hw
  replace hw := bs2 hw
  obtain ⟨b, w2, h2, hw⟩ := hw
  replace hw := bs2 hw
  obtain ⟨t, w3, h3, hw⟩ := hw
  rw [h1, bd2_some, h2, bd2_some, h3, bd2_some]
  replace hw := its hw
  obtain ⟨c, hw⟩ := hw
  rw [if_pos c]
  by_cases c2 : k = 0
  · rw [if_pos c2] at hw
    rw [if_pos c2]
    replace hw := bs hw
    obtain ⟨v, h4, hw⟩ := hw
    rw [h4, Option.bind_some]
    replace hw := its hw
    rw [if_pos hw.1]
    exact ⟨w3, loop_end xs w3⟩
  · rw [if_neg c2]
    exact ⟨w3, loop_end xs w3⟩
theorem fin2 {r : Option (Int32 × WW)} {G : WW → Option (Int32 × WW)} (h : (cmp2 r G).isSome = true) (xs : Nat → Int32) : ∃ w' : WW, (bd2 r fun k w1 => bd2 (G w1) fun b w2 => if k = b then f_lw_loop 3 xs 1 0 373 416 ((0 : Int32) + 3) w2 else some ((0 : Int32), w2)) = some ((1 : Int32), w') := by
  obtain ⟨w', hw⟩ := Option.isSome_iff_exists.mp h
  unfold cmp2 at hw
  replace hw := bs2 hw
  obtain ⟨k, w1, h1, hw⟩ := hw
  replace hw := bs2 hw
  obtain ⟨b, w2, h2, hw⟩ := hw
  replace hw := its hw
  rw [h1, bd2_some, h2, bd2_some, if_pos hw.1]
  exact ⟨w2, loop_end xs w2⟩
theorem law_true {L : Nat} (hL : L ≤ 3) (xs : Nat → Int32) : ∃ w' : WW, f_lw_law L xs = some ((1 : Int32), w') := by
  unfold f_lw_law
  rw [pre_eq, Option.bind_some]
  have hcase : L = 0 ∨ L = 1 ∨ L = 2 ∨ L = 3 := by omega
  rcases hcase with rfl | rfl | rfl | rfl
  · exact ⟨W5, by show f_lw_loop 0 xs (1 + 1) 0 373 416 0 W5 = _; rw [f_lw_loop, if_pos (by decide)]⟩
  · exact ⟨W5, by show f_lw_loop 1 xs (1 + 1) 0 373 416 0 W5 = _; rw [f_lw_loop, if_pos (by decide)]⟩
  · exact ⟨W5, by show f_lw_loop 2 xs (1 + 1) 0 373 416 0 W5 = _; rw [f_lw_loop, if_pos (by decide)]⟩
  · show ∃ w', f_lw_loop 3 xs (1 + 1) 0 373 416 0 W5 = _
    rw [f_lw_loop, if_neg (by decide), sc0, Option.bind_some]
    by_cases c0 : xs 0 &&& 15 = 0
    · rw [if_pos c0]; simp only [sc1, sc2, Option.bind_some]; exact fin (ok_text _) xs
    rw [if_neg c0]
    by_cases c1 : xs 0 &&& 15 = 1
    · rw [if_pos c1]; exact fin2 ok_clear xs
    rw [if_neg c1]
    by_cases c2 : xs 0 &&& 15 = 2
    · rw [if_pos c2]; exact fin ok_parse xs
    rw [if_neg c2]
    by_cases c3 : xs 0 &&& 15 = 3
    · rw [if_pos c3]; exact fin2 ok_where xs
    rw [if_neg c3]
    by_cases c4 : xs 0 &&& 15 = 4
    · rw [if_pos c4]; simp only [sc1, sc2, Option.bind_some]; exact fin (ok_choose _ _) xs
    rw [if_neg c4]
    by_cases c5 : xs 0 &&& 15 = 5
    · rw [if_pos c5]; simp only [sc1, sc2, Option.bind_some]; exact fin (ok_input _) xs
    rw [if_neg c5]
    by_cases c6 : xs 0 &&& 15 = 6
    · rw [if_pos c6]; exact fin2 ok_forget xs
    rw [if_neg c6]
    by_cases c7 : xs 0 &&& 15 = 7
    · rw [if_pos c7]; simp only [sc1, sc2, Option.bind_some]; exact fin (ok_run _) xs
    rw [if_neg c7]
    by_cases c8 : xs 0 &&& 15 = 8
    · rw [if_pos c8]; simp only [sc1, sc2, Option.bind_some]; exact fin (ok_ran _) xs
    rw [if_neg c8]
    by_cases c9 : xs 0 &&& 15 = 9
    · rw [if_pos c9]; exact fin ok_analyse xs
    rw [if_neg c9]
    by_cases c10 : xs 0 &&& 15 = 10
    · rw [if_pos c10]; simp only [sc1, sc2, Option.bind_some]; exact fin (ok_warning _) xs
    rw [if_neg c10]
    by_cases c11 : xs 0 &&& 15 = 11
    · rw [if_pos c11]; simp only [sc1, sc2, Option.bind_some]; exact fin (ok_left _ _) xs
    rw [if_neg c11]
    by_cases c12 : xs 0 &&& 15 = 12
    · rw [if_pos c12]; simp only [sc1, sc2, Option.bind_some]; exact fin (ok_count _) xs
    rw [if_neg c12]
    exact ⟨W5, loop_end xs W5⟩

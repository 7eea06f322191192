/-! input: any number is stored alike. -/
theorem gv_c {w w2 : WW} {a : Nat} (h : w a = w2 a) (ci k : Nat) : gv w a ci k = gv w2 a ci k := by simp only [gv, h]
theorem gI_c {w w2 : WW} {a : Nat} (h : w a = w2 a) (ci k : Nat) : gI w a ci k = gI w2 a ci k := by simp only [gI, gv, h]
theorem gN_c {w w2 : WW} {a : Nat} (h : w a = w2 a) (ci k : Nat) : gN w a ci k = gN w2 a ci k := by simp only [gN, gv, h]
theorem kb_c {w w2 : WW} {a : Nat} (h : w a = w2 a) (ci : Nat) : kb w a ci = kb w2 a ci := by simp only [kb, h]
theorem lnI_c {w w2 : WW} {a : Nat} (h : w a = w2 a) (t : Nat) : lnI w a t = lnI w2 a t := by simp only [lnI, ga, h]
theorem lnL_c {w w2 : WW} {a : Nat} (h : w a = w2 a) (t : Nat) : lnL w a t = lnL w2 a t := by simp only [lnL, ga, h]
theorem rL_c {w w2 : WW} {a : Nat} (h : w a = w2 a) (t : Nat) (i : Int32) : rL w a t i = rL w2 a t i := by simp only [rL, ga, h]
theorem gN_of {w : WW} {a ci k x : Nat} (h : gv w a ci k = some (.ref x)) : gN w a ci k = some x := by simp [gN, h]
theorem gv_ofN {w : WW} {a ci k x : Nat} (h : gN w a ci k = some x) : gv w a ci k = some (.ref x) := by
  unfold gN at h
  split at h
  · rename_i y hy; cases h; exact hy
  · cases h
theorem sI_gI {w w' : WW} {a t : Nat} {i x : Int32} (h : sI w a t i x = some w') (b cj j : Nat) : gI w' b cj j = gI w b cj j := by simp only [gI, sI_gv h]
theorem sI_gN {w w' : WW} {a t : Nat} {i x : Int32} (h : sI w a t i x = some w') (b cj j : Nat) : gN w' b cj j = gN w b cj j := by simp only [gN, sI_gv h]
theorem pv_gI_ne {w w' : WW} {a ci k : Nat} {v : Value} (h : pv w a ci k v = some w') {b cj j : Nat} (hne : b ≠ a ∨ j ≠ k) : gI w' b cj j = gI w b cj j := by simp only [gI, pv_gv_ne h hne]
theorem pv_gN_ne {w w' : WW} {a ci k : Nat} {v : Value} (h : pv w a ci k v = some w') {b cj j : Nat} (hne : b ≠ a ∨ j ≠ k) : gN w' b cj j = gN w b cj j := by simp only [gN, pv_gv_ne h hne]
theorem pv_gI {w w' : WW} {a ci k : Nat} {x : Int32} (h : pv w a ci k (.int x) = some w') : gI w' a ci k = some x := gI_of (pv_gv h)
/-- where the runner and its row of inputs lie, and the reference's -/
def RU : Nat := (gN W5 0 0 7).getD 0
def IN : Nat := (gN W5 RU 5 4).getD 0
def QI : Nat := (gN W5 373 9 1).getD 0
theorem in_f : gN W5 0 0 7 = some RU ∧ kb W5 RU 5 = true ∧ gI W5 RU 5 5 = some 0 ∧ gN W5 RU 5 4 = some IN ∧ lnI W5 IN 0 = some 8 ∧ lnL W5 416 1 = some 1 ∧ gI W5 373 9 3 = some 0 ∧ gN W5 373 9 1 = some QI ∧ lnI W5 QI 0 = some 8 ∧ gI W5 373 9 5 = some 0 := by decide +kernel
theorem in_a : (0 ≠ RU ∧ RU ≠ 373 ∧ RU ≠ 416 ∧ IN ≠ 373 ∧ IN ≠ 416 ∧ IN ≠ RU ∧ IN ≠ 0) ∧ (QI ≠ RU ∧ QI ≠ IN ∧ QI ≠ 416 ∧ QI ≠ 373) := by decide +kernel
theorem ok_input (a : Int32) : (cmp (f_lw_input 0 a 416 W5) (f_q_input 373 a)).isSome = true := by
  obtain ⟨f1, f2, f3, f4, f5, f6, f7, f8, f9, f10⟩ := in_f
  obtain ⟨⟨n1, n2, n3, n4, n5, n6, n7⟩, m1, m2, m3, m4⟩ := in_a
  -- the object
  obtain ⟨wA, hA⟩ := sI_do f5 (i := 0) (by decide) a
  have gA : gI wA RU 5 5 = some 0 := by rw [sI_gI hA]; exact f3
  obtain ⟨wB, hB⟩ := pv_do (gv_of gA) (.int ((0 : Int32) + 1))
  have hadd : f_ru_addInput RU a W5 = some wB := by
    unfold f_ru_addInput
    rw [if_pos f2, f3, Option.bind_some, if_neg (by decide), f4, Option.bind_some, Option.bind_some, hA, Option.bind_some, gA, Option.bind_some, hB, Option.bind_some]
    rfl
  have g0 : gN wB 0 0 7 = some RU := by rw [pv_gN_ne hB (Or.inl n1), sI_gN hA]; exact f1
  have hin : f_a_input 0 a W5 = some (.inl 1, wB) := by
    unfold f_a_input
    rw [if_pos kb0, f1, Option.bind_some, f3, Option.bind_some, if_pos (by decide), Option.bind_some, hadd, Option.bind_some, g0, Option.bind_some, pv_gI hB, Option.bind_some]
    rfl
  have a416 : wB 416 = W5 416 := by rw [pv_at hB (Ne.symm n3), sI_at hA (Ne.symm n5)]
  obtain ⟨wC, hC⟩ := sL_do (w := wB) (a := 416) (t := 1) (n := 1) (by rw [lnL_c a416]; exact f6) (i := 0) (by decide) (Int32.toInt64 1)
  have hlw : f_lw_input 0 a 416 W5 = some (0, wC) := by
    unfold f_lw_input
    rw [hin]
    simp only [bdh]
    rw [hC]
    rfl
  -- the reference
  have a373 : wC 373 = W5 373 := by rw [sL_at hC (by decide), pv_at hB (Ne.symm n2), sI_at hA (Ne.symm n4)]
  have aQI : wC QI = W5 QI := by rw [sL_at hC m3, pv_at hB m1, sI_at hA m2]
  have q3 : gI wC 373 9 3 = some 0 := by rw [gI_c a373]; exact f7
  have q5 : gI wC 373 9 5 = some 0 := by rw [gI_c a373]; exact f10
  have qk : kb wC 373 9 = true := by rw [kb_c a373]; exact kbq
  obtain ⟨wD, hD⟩ := pv_do (gv_of q5) (.int (0 : Int32))
  have d1 : gN wD 373 9 1 = some QI := by rw [pv_gN_ne hD (Or.inr (by decide)), gN_c a373]; exact f8
  have d3 : gI wD 373 9 3 = some 0 := by rw [pv_gI_ne hD (Or.inr (by decide))]; exact q3
  have dl : lnI wD QI 0 = some 8 := by rw [lnI_c (pv_at hD m4), lnI_c aQI]; exact f9
  obtain ⟨wE, hE⟩ := sI_do dl (i := 0) (by decide) a
  have e3 : gI wE 373 9 3 = some 0 := by rw [sI_gI hE]; exact d3
  obtain ⟨wF, hF⟩ := pv_do (gv_of e3) (.int ((0 : Int32) + 1))
  have hq : f_q_input 373 a wC = some (1, wF) := by
    unfold f_q_input
    rw [if_pos qk, q3, Option.bind_some, if_neg (by decide), hD, Option.bind_some, d1, Option.bind_some, d3, Option.bind_some, hE, Option.bind_some, e3, Option.bind_some, hF, Option.bind_some, pv_gI hF, Option.bind_some]
    rfl
  have kF : kb wF 373 9 = true := by rw [pv_kb hF, sI_kb hE, pv_kb hD]; exact qk
  have tF : gI wF 373 9 5 = some 0 := by rw [pv_gI_ne hF (Or.inr (by decide)), sI_gI hE, pv_gI hD]
  have ht : f_q_thrown 373 wF = some (0, wF) := by
    unfold f_q_thrown
    rw [if_pos kF, tF, Option.bind_some]
  have a416b : wF 416 = wC 416 := by rw [pv_at hF (by decide), sI_at hE (Ne.symm m3), pv_at hD (by decide)]
  have hr : rL wF 416 1 0 = some (Int32.toInt64 1) := by rw [rL_c a416b]; exact sL_rL hC
  unfold cmp
  rw [hlw, bd2_some, hq, bd2_some, ht, bd2_some, if_pos rfl, if_pos rfl, hr, Option.bind_some, if_pos rfl]
  rfl

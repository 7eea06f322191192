/-! Calls with any argument: those that are refused, or that answer alike whatever it is. -/
theorem in_yes {a : Int32} {lo hi : Int64} {x y : Int} (w : WW) (hlo : lo.toInt = x) (hhi : hi.toInt = y) (h1 : x ≤ a.toInt) (h2 : a.toInt ≤ y) : f_q_in (Int32.toInt64 a) lo hi w = some (1, w) := by
  have e : (Int32.toInt64 a).toInt = a.toInt := Int32.toInt_toInt64 a
  unfold f_q_in
  rw [if_neg (by rw [Int64.lt_iff_toInt_lt, e]; omega), if_neg (by rw [Int64.lt_iff_toInt_lt, e]; omega)]
  simp [f_q_in_18]
theorem in_no {a : Int32} {lo hi : Int64} {x y : Int} (w : WW) (hlo : lo.toInt = x) (hhi : hi.toInt = y) (h : a.toInt < x ∨ y < a.toInt) : f_q_in (Int32.toInt64 a) lo hi w = some (0, w) := by
  have e : (Int32.toInt64 a).toInt = a.toInt := Int32.toInt_toInt64 a
  unfold f_q_in
  by_cases c : Int32.toInt64 a < lo
  · rw [if_pos c]; simp [f_q_in_17, f_q_in_18]
  · rw [if_neg c]
    rw [Int64.lt_iff_toInt_lt, e] at c
    rw [if_pos (by rw [Int64.lt_iff_toInt_lt, e]; omega)]
    simp [f_q_in_17, f_q_in_18]
theorem i_nat {a : Int32} {N : Nat} (h0 : 0 ≤ a.toInt) (h1 : a.toInt < N) : ∃ n, n < N ∧ a = Int32.ofNat n := by
  refine ⟨a.toInt.toNat, by omega, ?_⟩
  have h : ((a.toInt.toNat : Nat) : Int) = a.toInt := Int.toNat_of_nonneg h0
  have h2 : Int32.ofInt ((a.toInt.toNat : Nat) : Int) = a := by rw [h, Int32.ofInt_toInt]
  rw [← Int32.ofInt_eq_ofNat, h2]
theorem lt_k {a b : Int32} {y : Int} (hb : b.toInt = y) : a < b ↔ a.toInt < y := by rw [Int32.lt_iff_toInt_lt, hb]
theorem gt_k {a b : Int32} {y : Int} (hb : b.toInt = y) : b < a ↔ y < a.toInt := by rw [Int32.lt_iff_toInt_lt, hb]
theorem le_k {a b : Int32} {y : Int} (hb : b.toInt = y) : a ≤ b ↔ a.toInt ≤ y := by rw [Int32.le_iff_toInt_le, hb]
theorem ge_k {a b : Int32} {y : Int} (hb : b.toInt = y) : b ≤ a ↔ y ≤ a.toInt := by rw [Int32.le_iff_toInt_le, hb]
theorem eq_k {a b : Int32} {y : Int} (hb : b.toInt = y) : a = b ↔ a.toInt = y := by rw [← Int32.toInt_inj, hb]
theorem thr {r : Option (Int32 × WW)} {G : WW → Option (Int32 × WW)} {k : Int32} (hr : r = some (k, W5)) (hG : G W5 = f_q_fail 373 k W5) (hf : (cmp (some (k, W5)) (f_q_fail 373 k)).isSome = true) : (cmp r G).isSome = true := by
  rw [hr]
  have h : cmp (some (k, W5)) G = cmp (some (k, W5)) (f_q_fail 373 k) := by simp only [cmp, bd2, hG]
  rw [h]; exact hf
theorem gP : gI W5 0 0 6 = some 0 := by decide +kernel
theorem qP : gI W5 373 9 8 = some 0 := by decide +kernel
theorem ok_run (a : Int32) : (cmp (f_lw_run 0 a 416 W5) (f_q_run 373 a)).isSome = true := by
  by_cases h : 0 ≤ a.toInt ∧ a.toInt ≤ 500
  · refine thr (k := 2) ?_ ?_ fl_2
    · have h1 : f_a_run 0 a W5 = some (.inr "java/lang/IllegalStateException", W5) := by
        simp only [f_a_run, kb0, if_true]
        rw [if_neg (by rw [lt_k (y := 0) rfl]; omega), if_pos (by rw [le_k (y := 500) rfl]; omega), gP]
        simp
      unfold f_lw_run
      rw [h1]
      simp [bdh]
    · unfold f_q_run
      rw [if_pos kbq, in_yes (x := 0) (y := 500) W5 rfl rfl h.1 h.2]
      simp [bd2, qP]
      split <;> simp_all
  · refine thr (k := 1) ?_ ?_ fl_1
    · have h1 : f_a_run 0 a W5 = some (.inr "java/lang/IllegalArgumentException", W5) := by
        simp only [f_a_run, f_a_run_11, kb0, if_true]
        split
        · rfl
        · rename_i h2
          rw [lt_k (y := 0) rfl] at h2
          rw [if_neg (by rw [le_k (y := 500) rfl]; omega)]
      unfold f_lw_run
      rw [h1]
      simp [bdh]
    · unfold f_q_run
      rw [if_pos kbq, in_no (x := 0) (y := 500) W5 rfl rfl (by omega)]
      simp [bd2]
      split <;> simp_all
theorem ok_choose (a b : Int32) : (cmp (f_lw_choose 0 a b 416 W5) (f_q_choose 373 a b)).isSome = true := by
  by_cases h : (0 ≤ a.toInt ∧ a.toInt < (2 : Nat)) ∧ (0 ≤ b.toInt ∧ b.toInt < (6 : Nat))
  · obtain ⟨n, hn, rfl⟩ := i_nat h.1.1 h.1.2
    obtain ⟨m, hm, rfl⟩ := i_nat h.2.1 h.2.2
    exact ok_choose0 n hn m hm
  · refine thr (k := 1) ?_ ?_ fl_1
    · have h1 : f_a_choose 0 a b W5 = some (.inr "java/lang/IllegalArgumentException", W5) := by
        simp only [f_a_choose, f_a_choose_18, kb0, if_true]
        split
        · rfl
        · rename_i h1
          rw [lt_k (y := 0) rfl] at h1
          split
          · rfl
          · rename_i h2
            rw [gt_k (y := 1) rfl] at h2
            split
            · rfl
            · rename_i h3
              rw [lt_k (y := 0) rfl] at h3
              rw [if_neg (by rw [le_k (y := 5) rfl]; omega)]
      unfold f_lw_choose
      rw [h1]
      simp [bdh]
    · unfold f_q_choose
      rw [if_pos kbq]
      by_cases ha : 0 ≤ a.toInt ∧ a.toInt ≤ 1
      · rw [in_yes (x := 0) (y := 1) W5 rfl rfl ha.1 ha.2]
        rw [bd2_some, if_neg (by decide), in_no (x := 0) (y := 5) W5 rfl rfl (by omega), bd2_some, if_pos rfl]
        exact bd2_eta _
      · rw [in_no (x := 0) (y := 1) W5 rfl rfl (by omega), bd2_some, if_pos rfl]
        exact bd2_eta _
theorem ok_ran (a : Int32) : (cmp (f_lw_ran 0 a 416 W5) (f_q_ran 373 a)).isSome = true := by
  by_cases h : 0 ≤ a.toInt ∧ a.toInt < (40 : Nat)
  · obtain ⟨n, hn, rfl⟩ := i_nat h.1 h.2
    exact ok_ran0 n hn
  · refine thr (k := 1) ?_ ?_ fl_1
    · have h1 : f_a_ran 0 a W5 = some (.inr "java/lang/IllegalArgumentException", W5) := by
        have e0 : ¬ a = 0 := by rw [eq_k (y := 0) rfl]; omega
        have e1 : ¬ a = 1 := by rw [eq_k (y := 1) rfl]; omega
        have e2 : ¬ a = 2 := by rw [eq_k (y := 2) rfl]; omega
        have r3 : f_a_ran_88 0 a W5 = some (.inr "java/lang/IllegalArgumentException", W5) := by
          unfold f_a_ran_88
          by_cases c : a < 30
          · rw [if_pos c]; rfl
          · rw [if_neg c]
            rw [lt_k (y := 30) rfl] at c
            rw [if_pos (by rw [ge_k (y := 36) rfl]; omega)]; rfl
        have r2 : f_a_ran_63 0 a W5 = some (.inr "java/lang/IllegalArgumentException", W5) := by
          unfold f_a_ran_63
          by_cases c : a < 20
          · rw [if_pos c]; exact r3
          · rw [if_neg c]
            rw [lt_k (y := 20) rfl] at c
            rw [if_pos (by rw [ge_k (y := 28) rfl]; omega)]; exact r3
        unfold f_a_ran
        rw [if_pos kb0, if_neg e0, if_neg e1, if_neg e2]
        by_cases c : a < 10
        · rw [if_pos c]; exact r2
        · rw [if_neg c]
          rw [lt_k (y := 10) rfl] at c
          rw [if_pos (by rw [ge_k (y := 16) rfl]; omega)]; exact r2
      unfold f_lw_ran
      rw [h1]
      simp [bdh]
    · unfold f_q_ran
      rw [if_pos kbq, in_no (x := 0) (y := 2) W5 rfl rfl (by omega), bd2_some, if_pos rfl, in_no (x := 10) (y := 15) W5 rfl rfl (by omega), bd2_some, if_pos rfl, in_no (x := 20) (y := 27) W5 rfl rfl (by omega), bd2_some, if_pos rfl, in_no (x := 30) (y := 35) W5 rfl rfl (by omega), bd2_some, if_pos rfl]
      exact bd2_eta _
theorem ok_count (a : Int32) : (cmp (f_lw_count 0 a 416 W5) (f_q_count 373 a)).isSome = true := by
  by_cases h : 0 ≤ a.toInt ∧ a.toInt < (7 : Nat)
  · obtain ⟨n, hn, rfl⟩ := i_nat h.1 h.2
    exact ok_count0 n hn
  · refine thr (k := 1) ?_ ?_ fl_1
    · have h1 : f_a_count 0 a W5 = some (.inr "java/lang/IllegalArgumentException", W5) := by
        have e0 : ¬ a = 0 := by rw [eq_k (y := 0) rfl]; omega
        have e1 : ¬ a = 1 := by rw [eq_k (y := 1) rfl]; omega
        have e2 : ¬ a = 2 := by rw [eq_k (y := 2) rfl]; omega
        have e3 : ¬ a = 3 := by rw [eq_k (y := 3) rfl]; omega
        have e4 : ¬ a = 4 := by rw [eq_k (y := 4) rfl]; omega
        have e5 : ¬ a = 5 := by rw [eq_k (y := 5) rfl]; omega
        have e6 : ¬ a = 6 := by rw [eq_k (y := 6) rfl]; omega
        unfold f_a_count
        rw [if_pos kb0, if_neg e0, if_neg e1, if_neg e2, if_neg e3, if_neg e4, if_neg e5, if_neg e6]
      unfold f_lw_count
      rw [h1]
      simp [bdh]
    · unfold f_q_count
      rw [if_pos kbq, in_no (x := 0) (y := 6) W5 rfl rfl (by omega), bd2_some, if_pos rfl]
      exact bd2_eta _
theorem ok_left (a b : Int32) : (cmp (f_lw_left 0 a b 416 W5) (f_q_left_II 373 a b)).isSome = true := by
  by_cases hb : 0 ≤ b.toInt ∧ b.toInt < (5 : Nat)
  · by_cases ha : 0 ≤ a.toInt ∧ a.toInt < (18 : Nat)
    · obtain ⟨n, hn, rfl⟩ := i_nat ha.1 ha.2
      obtain ⟨m, hm, rfl⟩ := i_nat hb.1 hb.2
      exact ok_left0 n hn m hm
    · refine thr (k := 2) ?_ ?_ fl_2
      · have r1 : f_a_left_31 0 a b W5 = some (.inr "java/lang/IndexOutOfBoundsException", W5) := by
          unfold f_a_left_31 f_a_left_32
          by_cases c : a < 10
          · rw [if_pos c]; simp [f_a_left_49, f_a_left_50]
          · rw [if_neg c]
            rw [lt_k (y := 10) rfl] at c
            rw [if_pos (by rw [ge_k (y := 18) rfl]; omega)]; simp [f_a_left_49, f_a_left_50]
        have h1 : f_a_left 0 a b W5 = some (.inr "java/lang/IndexOutOfBoundsException", W5) := by
          unfold f_a_left
          rw [if_pos kb0, if_neg (by rw [lt_k (y := 0) rfl]; omega), if_pos (by rw [le_k (y := 4) rfl]; omega)]
          by_cases c : a < 0
          · rw [if_pos c]; exact r1
          · rw [if_neg c]
            rw [lt_k (y := 0) rfl] at c
            rw [if_pos (by rw [ge_k (y := 6) rfl]; omega)]; exact r1
        unfold f_lw_left
        rw [h1]
        simp [bdh]
      · unfold f_q_left_II
        rw [if_pos kbq, in_yes (x := 0) (y := 4) W5 rfl rfl hb.1 (by omega), bd2_some, if_neg (by decide), in_no (x := 0) (y := 5) W5 rfl rfl (by omega), bd2_some, if_pos rfl, in_no (x := 10) (y := 17) W5 rfl rfl (by omega), bd2_some, if_pos rfl]
        exact bd2_eta _
  · refine thr (k := 1) ?_ ?_ fl_1
    · have h1 : f_a_left 0 a b W5 = some (.inr "java/lang/IllegalArgumentException", W5) := by
        unfold f_a_left
        rw [if_pos kb0]
        by_cases c : b < 0
        · rw [if_pos c]; rfl
        · rw [if_neg c]
          rw [lt_k (y := 0) rfl] at c
          rw [if_neg (by rw [le_k (y := 4) rfl]; omega)]; rfl
      unfold f_lw_left
      rw [h1]
      simp [bdh]
    · unfold f_q_left_II
      rw [if_pos kbq, in_no (x := 0) (y := 4) W5 rfl rfl (by omega), bd2_some, if_pos rfl]
      exact bd2_eta _
theorem wA : ∃ x, gN W5 0 0 8 = some x ∧ gI W5 x 6 10 = some 0 := by
  have h : ((gN W5 0 0 8).bind fun x => gI W5 x 6 10) = some 0 := by decide +kernel
  exact bs h
theorem q_warn_w {y0 : Nat} {w : WW} : ∀ (n : Nat) (y1 y2 : Int32) {r : Int32} {w' : WW}, f_q_warnings_4 n y0 y1 y2 w = some (r, w') → w' = w := by
  intro n
  induction n with
  | zero => intro y1 y2 r w' h; cases h
  | succ n ih =>
    intro y1 y2 r w' h
    rw [f_q_warnings_4] at h
    by_cases c : (1200 : Int32) ≤ y2
    · rw [if_pos c] at h; cases h; rfl
    · rw [if_neg c] at h
      replace h := bs h
      obtain ⟨x2, hx2, h⟩ := h
      replace h := bs h
      obtain ⟨x3, hx3, h⟩ := h
      by_cases c3 : x3 = 0
      · rw [if_pos c3] at h; exact ih _ _ h
      · rw [if_neg c3] at h; exact ih _ _ h
theorem wQ : f_q_warnings 373 W5 = some (0, W5) := by
  have h : ((f_q_warnings 373 W5).map fun r => r.1) = some 0 := by decide +kernel
  cases hw : f_q_warnings 373 W5 with
  | none => rw [hw] at h; cases h
  | some p =>
    rw [hw] at h
    obtain ⟨r, w'⟩ := p
    have h1 : r = 0 := Option.some.inj h
    have h2 := hw
    unfold f_q_warnings at h2
    rw [if_pos kbq] at h2
    rw [h1, q_warn_w _ _ _ h2]
theorem ok_warning (a : Int32) : (cmp (f_lw_warning 0 a 416 W5) (f_q_warning 373 a)).isSome = true := by
  refine thr (k := 1) ?_ ?_ fl_1
  · have h1 : f_a_warning 0 a W5 = some (.inr "java/lang/IndexOutOfBoundsException", W5) := by
      obtain ⟨x, hx, hx2⟩ := wA
      unfold f_a_warning
      rw [if_pos kb0]
      by_cases c : a < 0
      · rw [if_pos c]; rfl
      · rw [if_neg c, hx, Option.bind_some, hx2, Option.bind_some, if_neg c]; rfl
    unfold f_lw_warning
    rw [h1]
    simp [bdh]
  · unfold f_q_warning
    rw [if_pos kbq]
    by_cases c : a < 0
    · rw [if_pos c]; exact bd2_eta _
    · rw [if_neg c, wQ, bd2_some, if_neg c]; exact bd2_eta _

/-! The world behind the constructors, and one call compared. -/
set_option maxRecDepth 100000 in
theorem pre_ok : f_lw_pre.isSome = true := by decide +kernel
def W5 : WW := f_lw_pre.get pre_ok
theorem pre_eq : f_lw_pre = some W5 := (Option.some_get pre_ok).symm
/-- what the law does with the answers of a call: of both sides -/
def cmp (r : Option (Int32 × WW)) (G : WW → Option (Int32 × WW)) : Option WW :=
  bd2 r fun k w1 => bd2 (G w1) fun b w2 => bd2 (f_q_thrown 373 w2) fun t w3 =>
  if t = k then
    if k = 0 then
      (rL w3 416 1 (0 : Int32)).bind fun v => if v = Int32.toInt64 b then some w3 else none
    else some w3
  else none
def cmp2 (r : Option (Int32 × WW)) (G : WW → Option (Int32 × WW)) : Option WW :=
  bd2 r fun k w1 => bd2 (G w1) fun b w2 => if k = b then some w2 else none
theorem bd2_eta {α β : Type} (o : Option (α × β)) : bd2 o (fun x w => some (x, w)) = o := by
  cases o with
  | none => rfl
  | some p => rfl
theorem bd2_some {α β γ : Type} (a : α) (b : β) (f : α → β → Option γ) : bd2 (some (a, b)) f = f a b := rfl
theorem kb0 : kb W5 0 0 = true := by decide +kernel
theorem kbq : kb W5 373 9 = true := by decide +kernel
theorem fl_1 : (cmp (some (1, W5)) (f_q_fail 373 1)).isSome = true := by decide +kernel
theorem fl_2 : (cmp (some (2, W5)) (f_q_fail 373 2)).isSome = true := by decide +kernel
theorem fl_3 : (cmp (some (3, W5)) (f_q_fail 373 3)).isSome = true := by decide +kernel
theorem ok_clear : (cmp2 (f_a_clear 0 W5) (f_q_clear 373)).isSome = true := by decide +kernel
theorem ok_where : (cmp2 (f_a_where 0 W5) (f_q_where 373)).isSome = true := by decide +kernel
theorem ok_forget : (cmp2 (f_a_forget 0 W5) (f_q_forget 373)).isSome = true := by decide +kernel
theorem ok_parse : (cmp (f_lw_parse 0 416 W5) (f_q_parse 373)).isSome = true := by decide +kernel
theorem ok_analyse : (cmp (f_lw_analyse 0 416 W5) (f_q_analyse 373)).isSome = true := by decide +kernel
theorem ok_choose0 : ∀ n, n < 2 → ∀ m, m < 6 → (cmp (f_lw_choose 0 (Int32.ofNat n) (Int32.ofNat m) 416 W5) (f_q_choose 373 (Int32.ofNat n) (Int32.ofNat m))).isSome = true := by decide +kernel
theorem ok_ran0 : ∀ n, n < 40 → (cmp (f_lw_ran 0 (Int32.ofNat n) 416 W5) (f_q_ran 373 (Int32.ofNat n))).isSome = true := by decide +kernel
theorem ok_count0 : ∀ n, n < 7 → (cmp (f_lw_count 0 (Int32.ofNat n) 416 W5) (f_q_count 373 (Int32.ofNat n))).isSome = true := by decide +kernel
theorem ok_left0 : ∀ n, n < 18 → ∀ m, m < 5 → (cmp (f_lw_left 0 (Int32.ofNat n) (Int32.ofNat m) 416 W5) (f_q_left_II 373 (Int32.ofNat n) (Int32.ofNat m))).isSome = true := by decide +kernel

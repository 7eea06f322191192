/-! The law as a function (by wip/gen/law.py). -/
def f_lw_pre : Option WW :=
  (some (wo_up (fun _ => none) 0 (.inr (0, [.int 0, .int 0, .null, .null, .null, .null, .int 0, .null, .null])))).bind fun w1 =>
  (f_a_init 0 1 373 w1).bind fun w2 =>
  (some (wo_up w2 373 (.inr (9, [.null, .null, .int 0, .int 0, .int 0, .int 0, .int 0, .int 0, .int 0, .null, .null, .null, .null, .null, .null, .null, .null, .null, .null, .null, .null, .null, .null, .null, .null, .null, .null, .int 0, .int 0, .int 0, .int 0, .int 0, .int 0, .int 0, .int 0, .null, .null, .null, .null, .null, .null, .null, .int 0, .int 0, .int 0, .null, .null, .null, .null, .null, .int 0, .int 0, .int 0, .int 0, .null, .null, .null, .null, .null, .null, .null, .null, .null, .null, .int 0, .int 0, .int 0, .int 0])))).bind fun w3 =>
  (f_q_init 373 374 416 w3).bind fun w4 =>
  some (wo_up w4 416 (.inl (1, 1, .inr (.inl (fun _ => 0)))))
def f_lw_law (L : Nat) (xs : Nat → Int32) : Option (Int32 × WW) := f_lw_pre.bind fun w => f_lw_loop L xs 513 0 373 416 0 w

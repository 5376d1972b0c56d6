/-! CONSTRUCTORS, 5: the kernel runs the class's -/
set_option maxRecDepth 1000000 in
theorem cn_run1 : (match cn_m 121 11000 [.ref 0] (1, [], [], []) with
    | some (none, T) => decide (T = cn_T1)
    | _ => false) = true := by decide +kernel

/-! CONSTRUCTORS, 9: the kernel runs the reference's -/
set_option maxRecDepth 1000000 in
theorem cn_run2 : (match cn_new cn_T1 12 195 with
    | some T0 => (match cn_m2 121 12000 [.ref 124] T0 with
      | some (none, T) => decide (T = cn_T2)
      | _ => false)
    | none => false) = true := by decide +kernel

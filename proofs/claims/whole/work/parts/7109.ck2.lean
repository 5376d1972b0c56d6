/-! CONSTRUCTORS, 7: what they leave is the first state -/
set_option maxRecDepth 1000000 in
theorem cn_ck2 : cn_all (q_fS, q_fL, q_fX, q_fY) (q_fS, q_fL, q_fU, q_fV) cn_T2 = true := by decide +kernel

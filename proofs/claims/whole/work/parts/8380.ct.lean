/-! CONSTRUCTORS, 7: st_Ct at the first state -/
set_option maxRecDepth 1000000 in
theorem cn_ck2 : cn_all (q_fS, q_fL, q_fX, q_fY) (q_fS, q_fL, q_fU, q_fV) cn_T2 = true := by decide +kernel
theorem cn_some {o : Option (Option Value × cn_T)} {T1 : cn_T} (h : (match o with
    | some (none, T) => decide (T = T1)
    | _ => false) = true) : o = some (none, T1) := by
  split at h
  · rename_i T
    rw [of_decide_eq_true h]
  · cases h
theorem cn_first : mj_new st_M0 11 17 = cn_A (1, [], [], []) := by
  have e0 : ∀ a b, cn_d (cn_g [] a) b = 0 := fun a b => cn_d0 b
  unfold mj_new cn_A st_M0
  refine Prod.ext (by decide +kernel) (Prod.ext ?_ (Prod.ext ?_ ?_))
  · funext a b
    show (if a = 0 then (fun _ => (0 : Int32)) else (fun _ => 0)) b = Int32.ofNat (cn_d (cn_g [] a) b)
    rw [e0]
    split <;> rfl
  · funext a b
    show (if a = 0 then (fun _ => (0 : Int64)) else (fun _ => 0)) b = Int64.ofNat (cn_d (cn_g [] a) b)
    rw [e0]
    split <;> rfl
  · funext a b
    show (if a = 0 then (fun _ => (none : Option Nat)) else (fun _ => none)) b = cn_o (cn_d (cn_g [] a) b)
    rw [e0]
    split <;> rfl
theorem st_Ct0 : st_Ct (q_fS, q_fL, q_fX, q_fY) (q_fS, q_fL, q_fU, q_fV) := by
  have h1 := cn_m_ok 121 (cn_some cn_run1)
  rw [← cn_first] at h1
  have h2 := cn_run2
  split at h2
  · rename_i T0 hT
    have h3 := cn_m_ok 121 (cn_some h2)
    rw [← cn_new_ok hT] at h3
    exact ⟨cn_A cn_T1, cn_A cn_T2, h1, by show (fm_sh.take 124).length = 124; decide +kernel, h3, by show (fm_sh.take 194).length = 194; decide +kernel, cn_fm cn_ck2 rfl (by decide +kernel) (by decide +kernel) (by decide +kernel)⟩
  · cases h2

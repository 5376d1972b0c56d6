/-! CONSTRUCTORS, 7: st_Ct at the first state -/
theorem cn_ok1 : cn_m 121 11000 [.ref 0] (1, [], [], []) = some (none, cn_T1) := by
  have h := cn_run1
  generalize cn_m 121 11000 [.ref 0] (1, [], [], []) = o at h ⊢
  split at h
  · rename_i T
    have e : T = cn_T1 := of_decide_eq_true h
    rw [e]
  · cases h
theorem cn_ok2 : ∃ T0, cn_new cn_T1 12 195 = some T0 ∧ cn_m2 121 12000 [.ref 124] T0 = some (none, cn_T2) := by
  have h := cn_run2
  generalize cn_new cn_T1 12 195 = a at h ⊢
  cases a with
  | none => cases h
  | some T0 =>
    refine ⟨T0, rfl, ?_⟩
    dsimp only at h
    generalize cn_m2 121 12000 [.ref 124] T0 = o at h ⊢
    split at h
    · rename_i T
      have e : T = cn_T2 := of_decide_eq_true h
      rw [e]
    · cases h
theorem cn_first : mj_new st_M0 11 17 = cn_A (1, [], [], []) := by
  have e0 : ∀ a b, cn_d (cn_g [] a) b = 0 := fun a b => cn_d0 b
  unfold mj_new cn_A st_M0
  refine Prod.ext (by decide +kernel) (Prod.ext ?_ (Prod.ext ?_ ?_))
  · funext a b
    show (if a = 0 then (fun _ => (0 : Int32)) else (fun _ => 0)) b = Int32.ofNat (cn_d (cn_g [] a) b)
    rw [e0]
    split <;> rfl
  · funext a b
    show (if a = 0 then (fun _ => (0 : Int64)) else (fun _ => 0)) b = Int64.ofNat (cn_d (cn_g [] a) b)
    rw [e0]
    split <;> rfl
  · funext a b
    show (if a = 0 then (fun _ => (none : Option Nat)) else (fun _ => none)) b = cn_o (cn_d (cn_g [] a) b)
    rw [e0]
    split <;> rfl
theorem st_Ct0 : st_Ct (q_fS, q_fL, q_fX, q_fY) (q_fS, q_fL, q_fU, q_fV) := by
  have h1 := cn_m_ok 121 cn_ok1
  rw [← cn_first] at h1
  obtain ⟨T0, hT, h2⟩ := cn_ok2
  have h3 := cn_m2_ok 121 h2
  rw [← cn_new_ok hT] at h3
  exact ⟨cn_A cn_T1, cn_A cn_T2, h1, by show (fm_sh.take 124).length = 124; decide +kernel, h3, by show (fm_sh.take 194).length = 194; decide +kernel, cn_fm cn_ck2 rfl (by decide +kernel) (by decide +kernel) (by decide +kernel)⟩

/-! PURE: the car rolls: the pair -/
section QRP
variable {s x u : Nat → Int32} {l y v : Nat → Int64} {fu : Nat}
theorem q_ifI {c : Prop} [Decidable c] {a b : Int32} : (if c then a else b).toInt = if c then a.toInt else b.toInt := by split <;> rfl
theorem q_ifL {c : Prop} [Decidable c] {a b : Int64} : (if c then a else b).toInt = if c then a.toInt else b.toInt := by split <;> rfl
theorem q_divI {a b : Int32} (h : 0 ≤ a.toInt) (hb : 0 < b.toInt) : (a / b).toInt = a.toInt / b.toInt := by
  rw [Int32.toInt_div_of_ne_right a b (by intro e; rw [e] at hb; exact absurd hb (by decide)), Int.tdiv_eq_ediv_of_nonneg h]
theorem q_divL {a b : Int64} (h : 0 ≤ a.toInt) (hb : 0 < b.toInt) : (a / b).toInt = a.toInt / b.toInt := by
  rw [Int64.toInt_div_of_ne_right a b (by intro e; rw [e] at hb; exact absurd hb (by decide)), Int.tdiv_eq_ediv_of_nonneg h]
def q_rat (g : Int32) : Int32 := if g = 1 then 75 else if g = 2 then 140 else if g = 3 then 210 else if g = 4 then 290 else if g = 5 then 370 else 450
theorem q_ratioR : pf_X12_ratio s l u v = some (q_rat (s 53), s, l, u, v) := by
  unfold pf_X12_ratio q_rat
  repeat' split
  all_goals rfl
theorem q_ratV (g : Int32) : 75 ≤ (q_rat g).toInt ∧ (q_rat g).toInt ≤ 450 := by
  unfold q_rat
  simp only [q_ifI, Int32.reduceToInt]
  repeat' split
  all_goals decide
theorem q_xf8 {g : Int32} (h1 : 1 ≤ g.toInt) (h2 : g.toInt ≤ 6) : pj_xf 8 ((g - 1).toNatClampNeg) = q_rat g := by
  obtain ⟨i, rfl, h3, h4⟩ := q_nat (a := g) (by omega)
  have : i = 1 ∨ i = 2 ∨ i = 3 ∨ i = 4 ∨ i = 5 ∨ i = 6 := by omega
  rcases this with rfl | rfl | rfl | rfl | rfl | rfl <;> decide
def q_gl (s : Nat → Int32) : Int32 := if 30000 < s 46 * q_rat (s 53) / 100 then 30000 else s 46 * q_rat (s 53) / 100
def q_vn (s : Nat → Int32) : Int32 := if s 49 = 0 then s 52 else if 0 < s 53 then q_tw (s 52) (q_gl s) 50 else if 5 < s 52 then s 52 - 5 else 0
theorem q_glV (hr : q_R s) : (s 46 * q_rat (s 53) / 100).toInt = (s 46).toInt * (q_rat (s 53)).toInt / 100 ∧ 0 ≤ (q_gl s).toInt ∧ (q_gl s).toInt ≤ 30000 := by
  have a := q_R46 hr
  have b := q_ratV (s 53)
  have m0 : 0 ≤ (s 46).toInt * (q_rat (s 53)).toInt := Int.mul_nonneg (by omega) (by omega)
  have m1 : (s 46).toInt * (q_rat (s 53)).toInt ≤ 9000 * 450 := Int.mul_le_mul (by omega) (by omega) (by omega) (by omega)
  have e : (s 46 * q_rat (s 53)).toInt = (s 46).toInt * (q_rat (s 53)).toInt := q_mul (by omega) (by omega)
  have e1 : (s 46 * q_rat (s 53) / 100).toInt = (s 46).toInt * (q_rat (s 53)).toInt / 100 := by
    rw [q_divI (by rw [e]; omega) (by decide), e]
    rfl
  refine ⟨e1, ?_⟩
  unfold q_gl
  simp only [q_ifI, Int32.lt_iff_toInt_lt, e1, Int32.reduceToInt]
  split <;> omega
theorem q_vnV (hr : q_R s) : 0 ≤ (q_vn s).toInt ∧ (q_vn s).toInt ≤ 30000 := by
  have a := q_R52 hr
  have b := (q_glV hr).2
  have e := q_twV (a := s 52) (b := q_gl s) (c := 50) (by omega) (by omega) (by decide) (by decide)
  have e1 : (5 : Int32) < s 52 → (s 52 - 5).toInt = (s 52).toInt - 5 := fun h => q_sub (by simp only [Int32.reduceToInt]; omega) (by simp only [Int32.reduceToInt]; omega)
  simp only [Int32.reduceToInt] at e
  unfold q_vn
  split
  · omega
  · split
    · rw [e]; repeat' split
      all_goals omega
    · split
      · rename_i h; rw [e1 h]; rw [Int32.lt_iff_toInt_lt] at h; simp only [Int32.reduceToInt] at h; omega
      · decide
theorem q_rollC (hr : q_R s) : pf_X5_roll s l x y = some ((), q_rl (pj_u s 52 (q_vn s)), l, x, y) := by
  have a := q_R52 hr
  have g := q_R53 hr
  have b := q_glV hr
  have z1 : (1 : Int32).toInt = 1 := rfl
  have z6 : (6 : Int32).toInt = 6 := rfl
  unfold pf_X5_roll q_vn pl_X5_roll_77
  by_cases c : s 49 = 0
  · rw [if_pos c, if_pos c, if_pos c, q_98C, q_ui]
  · rw [if_neg c, if_neg c, if_neg c, q_max, q_b, q_98C]
    by_cases c1 : s 53 < 1
    · have c2 : ¬ 0 < s 53 := by
        rw [Int32.lt_iff_toInt_lt] at c1 ⊢
        simp only [Int32.reduceToInt] at c1 ⊢
        omega
      have e1 : (s 52 - 5).toInt = (s 52).toInt - 5 := q_sub (by simp only [Int32.reduceToInt]; omega) (by simp only [Int32.reduceToInt]; omega)
      have e : (if 0 < s 52 - 5 then s 52 - 5 else 0) = (if 5 < s 52 then s 52 - 5 else 0) := by
        rw [← Int32.toInt_inj]
        simp only [q_ifI, Int32.lt_iff_toInt_lt, e1, Int32.reduceToInt]
        omega
      rw [if_pos c1, if_neg c2, e]
    · have c2 : 0 < s 53 := by
        rw [Int32.lt_iff_toInt_lt] at c1 ⊢
        simp only [Int32.reduceToInt] at c1 ⊢
        omega
      have c3 : ¬ 6 < s 53 := by
        rw [Int32.lt_iff_toInt_lt]
        simp only [Int32.reduceToInt]
        omega
      rw [Int32.lt_iff_toInt_lt, z1] at c1
      have e1 : (s 53 - 1).toInt = (s 53).toInt - 1 := q_sub (by rw [z1]; omega) (by rw [z1]; omega)
      have e : (if s 46 * q_rat (s 53) / 100 < 30000 then s 46 * q_rat (s 53) / 100 else 30000) = q_gl s := by
        unfold q_gl
        rw [← Int32.toInt_inj]
        simp only [q_ifI, Int32.lt_iff_toInt_lt, b.1, Int32.reduceToInt]
        omega
      rw [if_neg (by rw [Int32.lt_iff_toInt_lt, z1]; exact c1), if_neg c3, if_pos c2, q_gi (by rw [e1]; omega) (by rw [e1]; omega), q_xf8 (by omega) (by omega), q_min, q_b, e, q_clip, q_b, q_98C, q_tw_cl rfl (by omega) (by omega) (by decide) (by decide) (by omega) (by omega)]
def q_ro (s : Nat → Int32) : Nat → Int32 := q_rl (pj_u s 52 (q_vn s))
def q_br (s : Nat → Int32) : Nat → Int32 := pj_u (pj_u s 85 (q_bR s)) 86 (if q_bR s = 20 then 1 else s 86)
theorem q_86 (h : s 86 = 0 ∨ s 86 = 1) : pl_X12_drives_181 fu s l u v = some ((), pj_u s 86 (if s 85 = 20 then 1 else s 86), l, u, v) := by
  unfold pl_X12_drives_181 pl_X12_drives_198 pl_X12_drives_203
  rw [q_bz1, q_bz0]
  rcases h with h | h
  · rw [if_pos h]
    split
    · rfl
    · rw [h]
  · rw [if_neg (by rw [h]; decide)]
    split
    · rfl
    · rw [h]
theorem q_b01 {a : Int32} (h1 : 0 ≤ a.toInt) (h2 : a.toInt ≤ 1) : a = 0 ∨ a = 1 := by
  have : a.toInt = 0 ∨ a.toInt = 1 := by omega
  rcases this with h | h
  · left; rw [← Int32.toInt_inj, h]; rfl
  · right; rw [← Int32.toInt_inj, h]; rfl
theorem q_rl_out {w : Nat} (h1 : ¬ w = 54) (h2 : ¬ w = 55) : q_rl s w = s w := by
  unfold q_rl
  split
  · rw [q_un h2]
  · rw [q_un h1, q_un h2]
theorem q_drivesR (hr : q_R s) : pf_X12_drives s l u v = some ((), q_br (q_ro s), l, u, v) := by
  have a := q_R52 hr
  have hv := q_vnV hr
  have h86 := q_R86 hr
  have hr2 : q_R (pj_u s 52 (q_vn s)) := q_R_u hr hv
  have k : pl_X12_drives_86 1000 (pj_u s 52 (q_vn s)) l u v = some ((), q_br (q_ro s), l, u, v) := by
    unfold pl_X12_drives_86
    rw [q_99R (f := 998) hr2, q_86]
    · rw [q_ua, q_un (by omega)]
      rfl
    · rw [q_un (by omega), q_rl_out (by omega) (by omega), q_un (by omega)]
      exact q_b01 h86.1 h86.2
  unfold pf_X12_drives po_X12_drives pl_X12_drives_57 pl_X12_drives_83 pl_X12_drives_46
  rw [q_ratioR, q_b, q_toward, q_toward, q_b, q_b]
  by_cases c : s 49 = 0
  · rw [if_pos c, if_pos c]
    rw [q_vn, if_pos c, q_ui] at k
    exact k
  · rw [if_neg c, if_neg c]
    by_cases c2 : 0 < s 53
    · rw [q_vn, if_neg c, if_pos c2, q_gl] at k
      rw [if_pos c2]
      by_cases c3 : 30000 < s 46 * q_rat (s 53) / 100
      · rw [if_pos c3] at k ⊢
        exact k
      · rw [if_neg c3] at k ⊢
        exact k
    · rw [q_vn, if_neg c, if_neg c2] at k
      rw [if_neg c2]
      by_cases c3 : 5 < s 52
      · rw [if_pos c3] at k ⊢
        exact k
      · rw [if_neg c3] at k ⊢
        exact k
/-- the class's brake is the reference's -/
theorem q_brakeP (hr : q_R s) : pf_X9_feelBrake (if s 15000 = s 15001 then 0 else 1) s l x y = some ((), q_br s, l, x, y) := by
  have a := q_R85 hr
  have z1 : (1 : Int32).toInt = 1 := rfl
  have e1 : (s 85 + 1).toInt = (s 85).toInt + 1 := q_add (by rw [z1]; omega) (by rw [z1]; omega)
  have e : q_bk s (if s 15000 = s 15001 then 0 else 1) = q_bR s := by
    unfold q_bk q_bR
    by_cases c : s 15000 = s 15001
    · rw [if_pos c, if_pos c, if_pos rfl]
    · rw [if_neg c, if_neg c, if_neg (by decide), ← Int32.toInt_inj]
      simp only [q_ifI, Int32.lt_iff_toInt_lt, e1, Int32.reduceToInt]
      omega
  rw [q_brakeC, e]
  unfold q_br
  split
  · rfl
  · rw [show pj_u (pj_u s 85 (q_bR s)) 86 (s 86) = pj_u (pj_u s 85 (q_bR s)) 86 (pj_u s 85 (q_bR s) 86) by rw [q_un (f := s) (w := 86) (by omega)], q_ui]
theorem q_R_ro (hr : q_R s) : q_R (q_ro s) := by
  have hv := q_vnV hr
  have p := q_R55 hr
  have hr2 : q_R (pj_u s 52 (q_vn s)) := q_R_u hr hv
  unfold q_ro q_rl
  rw [q_un (f := s) (w := 55) (by omega), q_ua, q_un (f := s) (w := 54) (by omega)]
  have e : (s 55 + q_vn s).toInt = (s 55).toInt + (q_vn s).toInt := q_add (by omega) (by omega)
  split
  · rename_i h
    rw [Int32.lt_iff_toInt_lt, e] at h
    simp only [Int32.reduceToInt] at h
    refine q_R_u hr2 ?_
    rw [e]
    exact (by omega : 0 ≤ (s 55).toInt + (q_vn s).toInt ∧ (s 55).toInt + (q_vn s).toInt ≤ 35999)
  · rename_i h
    rw [Int32.lt_iff_toInt_lt, e] at h
    simp only [Int32.reduceToInt] at h
    refine q_R_u (q_R_u hr2 ?_) q_R_any
    rw [q_sub (by rw [e]; simp only [Int32.reduceToInt]; omega) (by rw [e]; simp only [Int32.reduceToInt]; omega), e]
    simp only [Int32.reduceToInt]
    exact (by omega : 0 ≤ (s 55).toInt + (q_vn s).toInt - 36000 ∧ (s 55).toInt + (q_vn s).toInt - 36000 ≤ 35999)
theorem q_R_br (hr : q_R s) : q_R (q_br s) := by
  have a := q_R85 hr
  have b := q_R86 hr
  have z1 : (1 : Int32).toInt = 1 := rfl
  have e1 : (s 85 + 1).toInt = (s 85).toInt + 1 := q_add (by rw [z1]; omega) (by rw [z1]; omega)
  unfold q_br
  refine q_R_u (q_R_u hr ?_) ?_
  · show 0 ≤ (q_bR s).toInt ∧ (q_bR s).toInt ≤ 20
    unfold q_bR
    simp only [q_ifI, Int32.lt_iff_toInt_lt, e1, Int32.reduceToInt]
    repeat' split
    all_goals omega
  · show 0 ≤ (if q_bR s = 20 then 1 else s 86).toInt ∧ (if q_bR s = 20 then 1 else s 86).toInt ≤ 1
    split
    · decide
    · exact b
theorem q_ro_out {w : Nat} (h : w < 52 ∨ 55 < w) : q_ro s w = s w := by
  unfold q_ro
  rw [q_rl_out (by omega) (by omega), q_un (by omega)]
theorem q_br_out {w : Nat} (h : w < 85 ∨ 86 < w) : q_br s w = s w := by
  unfold q_br
  rw [q_un (by omega), q_un (by omega)]
end QRP

/-! PURE: idling, the cruise, the throttle -/
section QDR
variable {s x u s' x' u' s2 u2 : Nat → Int32} {l y v l' y' v' l2 v2 : Nat → Int64} {D E W : Int}
def q_d1 (s : Nat → Int32) : Int32 := if 0 < s 76 then s 76 - 1 else 0
def q_iv (s : Nat → Int32) (p : Int32) : Int32 := if s 94 = 1 then (if s 10023 < s 71 then q_d1 s else if s 19 < 2 then q_d1 s else if s 29 = 0 then q_cl (s 76 + q_fi (s 10009 + q_cl (s 2000).toInt64 (-200) 200 - p) 32).toInt64 0 250 else q_d1 s) else q_d1 s
theorem q_d1C (hr : q_R s) : (if 0 < s 76 - 1 then s 76 - 1 else 0) = q_d1 s := by
  have a := q_R76 hr
  have e : (s 76 - 1).toInt = (s 76).toInt - 1 := q_sub (by simp only [Int32.reduceToInt]; omega) (by simp only [Int32.reduceToInt]; omega)
  unfold q_d1
  rw [← Int32.toInt_inj]
  simp only [q_ifI, Int32.lt_iff_toInt_lt, e, Int32.reduceToInt]
  omega
theorem q_ivV (hr : q_R s) (p : Int32) : 0 ≤ (q_iv s p).toInt ∧ (q_iv s p).toInt ≤ 250 := by
  have a := q_R76 hr
  have e : 0 < s 76 → (s 76 - 1).toInt = (s 76).toInt - 1 := fun _ => q_sub (by simp only [Int32.reduceToInt]; omega) (by simp only [Int32.reduceToInt]; omega)
  have d : 0 ≤ (q_d1 s).toInt ∧ (q_d1 s).toInt ≤ 250 := by
    unfold q_d1
    split
    · rename_i h
      rw [e h]
      rw [Int32.lt_iff_toInt_lt] at h
      simp only [Int32.reduceToInt] at h
      omega
    · decide
  have c : ∀ z : Int32, 0 ≤ (q_cl z.toInt64 0 250).toInt ∧ (q_cl z.toInt64 0 250).toInt ≤ 250 := fun z => q_clI (by decide)
  unfold q_iv
  split
  · split
    · exact d
    · split
      · exact d
      · split
        · exact c _
        · exact d
  · exact d
theorem q_idleC (hr : q_R s) : pf_X11_idle s l x y = some ((), pj_u s 76 (q_iv s (x 5)), l, x, y) := by
  have m0 : pl_X11_idle_54 0 s l x y = some ((), pj_u s 76 (q_d1 s), l, x, y) := by
    unfold pl_X11_idle_54 pl_X11_idle_140
    rw [q_clip, q_b, if_pos rfl, q_max, q_b, q_d1C hr]
  have m1 : pl_X11_idle_54 1 s l x y = some ((), pj_u s 76 (q_cl (s 76 + q_fi (s 10009 + q_cl (s 2000).toInt64 (-200) 200 - x 5) 32).toInt64 0 250), l, x, y) := by
    unfold pl_X11_idle_54 pl_X11_idle_140
    rw [q_clip, q_b, if_neg (by decide), q_floorI (by decide), q_b, q_clip, q_b]
  unfold pf_X11_idle pl_X11_idle_53 q_iv
  rw [m0, m1]
  split
  · split
    · rfl
    · split
      · rfl
      · split <;> rfl
  · rfl
theorem q_idleR (hr : q_R s) (hw : q_Wl D s l x u v) : pf_X12_drive s l u v = pl_X12_drive_116 (pj_u s 76 (q_iv s (x 5))) l u v := by
  have h5 := q_x5 hw
  have n9 : 400 ≤ (s 10009).toInt ∧ (s 10009).toInt ≤ 2000 := hr 10009
  have a76 := q_R76 hr
  have cz := q_clI (a := s 2000) (lo := -200) (hi := 200) (by decide)
  have z1 : (-200 : Int32).toInt = -200 := rfl
  have z2 : (200 : Int32).toInt = 200 := rfl
  have z3 : (32 : Int32).toInt = 32 := rfl
  rw [z1, z2] at cz
  have e1 : q_ct (s 2000).toInt64 (-200) 200 = (q_cl (s 2000).toInt64 (-200) 200).toInt64 := q_ct64 (s 2000) (-200) 200
  have e2 : (s 10009).toInt64 + (q_cl (s 2000).toInt64 (-200) 200).toInt64 - (x 5).toInt64 = (s 10009 + q_cl (s 2000).toInt64 (-200) 200 - x 5).toInt64 := by
    have k : (s 10009 + q_cl (s 2000).toInt64 (-200) 200).toInt = (s 10009).toInt + (q_cl (s 2000).toInt64 (-200) 200).toInt := q_add (by omega) (by omega)
    rw [q_add64 (by omega) (by omega), q_sub64 (by omega) (by omega)]
  have k : (s 10009 + q_cl (s 2000).toInt64 (-200) 200).toInt = (s 10009).toInt + (q_cl (s 2000).toInt64 (-200) 200).toInt := q_add (by omega) (by omega)
  have k2 : (s 10009 + q_cl (s 2000).toInt64 (-200) 200 - x 5).toInt = (s 10009).toInt + (q_cl (s 2000).toInt64 (-200) 200).toInt - (x 5).toInt := by
    rw [q_sub (by omega) (by omega), k]
  have e3 : q_fd (s 10009 + q_cl (s 2000).toInt64 (-200) 200 - x 5).toInt64 32 = (q_fi (s 10009 + q_cl (s 2000).toInt64 (-200) 200 - x 5) 32).toInt64 := (q_fiI (b := 32) (by decide)).2
  have k3 := (q_fiI (a := s 10009 + q_cl (s 2000).toInt64 (-200) 200 - x 5) (b := 32) (by decide)).1
  rw [k2, z3] at k3
  have e4 : (s 76).toInt64 + (q_fi (s 10009 + q_cl (s 2000).toInt64 (-200) 200 - x 5) 32).toInt64 = (s 76 + q_fi (s 10009 + q_cl (s 2000).toInt64 (-200) 200 - x 5) 32).toInt64 := q_add64 (by omega) (by omega)
  have e5 : (q_ct (s 76 + q_fi (s 10009 + q_cl (s 2000).toInt64 (-200) 200 - x 5) 32).toInt64 0 250).toInt32 = q_cl (s 76 + q_fi (s 10009 + q_cl (s 2000).toInt64 (-200) 200 - x 5) 32).toInt64 0 250 := q_cut_cl _ 0 250
  have m : pl_X12_drive_95 s l u v = pl_X12_drive_116 (pj_u s 76 (q_d1 s)) l u v := by
    unfold pl_X12_drive_95 pl_X12_drive_113 q_d1
    split <;> rfl
  unfold pf_X12_drive q_iv
  rw [m, q_cut, q_b, q_spd hw rfl rfl, q_b, e1, e2, q_down (by decide), q_b, e3, q_cut, q_b, e4, e5]
  split
  · split
    · rfl
    · split
      · rfl
      · split <;> rfl
  · rfl
-- the cruise
def q_bq (s : Nat → Int32) : Int32 := if s 15000 = 0 then (if s 15001 = 0 then (if s 86 = 0 then 0 else 1) else 1) else 1
theorem q_bqC : pf_X11_isBraking s l x y = some (q_bq s, s, l, x, y) := by
  unfold pf_X11_isBraking pl_X11_isBraking_34 q_bq
  repeat' split
  all_goals rfl
theorem q_bqR : pf_X12_braking s l u v = some (q_bq s, s, l, u, v) := by
  unfold pf_X12_braking pl_X12_braking_25 q_bq
  repeat' split
  all_goals rfl
def q_fit (s : Nat → Int32) : Int32 := if s 94 = 1 then (if s 52 < 2500 then 0 else if s 53 < 3 then 0 else if q_bq s = 0 then (if s 29 = 0 then (if s 36 = 0 then 1 else 0) else 0) else 0) else 0
def q_h1 (s : Nat → Int32) : Nat → Int32 := if s 81 = 2 then (if q_fit s = 0 then pj_u s 81 1 else s) else s
def q_h2 (s : Nat → Int32) : Nat → Int32 := if s 81 = 2 then pj_u (pj_u s 83 (q_cl (s 83 + q_fi (s 82 - s 52) 8).toInt64 0 16000)) 84 (q_cl (q_fi (s 82 - s 52) 4 + (q_cl (s 83 + q_fi (s 82 - s 52) 8).toInt64 0 16000) / 16).toInt64 0 800) else pj_u (pj_u s 83 0) 84 0
theorem q_h17 : pl_X9_holdRoadSpeed_17 (s 52) s l x y = some ((), q_h2 s, l, x, y) := by
  unfold pl_X9_holdRoadSpeed_17 q_h2
  rw [q_floorI (by decide), q_b, q_clip, q_b, q_floorI (by decide), q_b, q_clip, q_b, q_ua]
  split <;> rfl
theorem q_holdC : pf_X11_cruise s l x y = some ((), q_h2 (q_h1 s), l, x, y) := by
  have e52 : ∀ a, pl_X9_holdRoadSpeed_17 (s 52) (pj_u s 81 a) l x y = some ((), q_h2 (pj_u s 81 a), l, x, y) := by
    intro a
    have z := q_h17 (s := pj_u s 81 a) (l := l) (x := x) (y := y)
    rw [q_un (by omega)] at z
    exact z
  have m : ∀ b, pl_X11_cruise_78 b s l x y = some ((), q_h2 (if s 81 = 2 then (if b = 0 then pj_u s 81 1 else s) else s), l, x, y) := by
    intro b
    unfold pl_X11_cruise_78 pf_X9_holdRoadSpeed
    rw [e52, q_h17]
    split
    · split <;> rfl
    · rfl
  have n1 : ¬ (1 : Int32) = 0 := by decide
  unfold pf_X11_cruise pl_X11_cruise_36 pl_X11_cruise_37 pl_X11_cruise_77 q_h1 q_fit
  rw [if_pos rfl, if_neg n1, q_bqC, q_b, m, m]
  by_cases c1 : s 94 = 1
  · simp only [if_pos c1]
    by_cases c2 : s 52 < 2500
    · simp only [if_pos c2]
    · simp only [if_neg c2]
      by_cases c3 : s 53 < 3
      · simp only [if_pos c3]
      · simp only [if_neg c3]
        by_cases c4 : q_bq s = 0
        · simp only [if_pos c4]
          by_cases c5 : s 29 = 0
          · simp only [if_pos c5]
            by_cases c6 : s 36 = 0
            · simp only [if_pos c6]
            · simp only [if_neg c6]
          · simp only [if_neg c5]
        · simp only [if_neg c4]
  · simp only [if_neg c1]
theorem q_h60 (hr : q_R s) : pl_X12_hold_60 s l u v = some ((), q_h2 s, l, u, v) := by
  have a82 := q_R82 hr
  have a52 := q_R52 hr
  have a83 := q_R83 hr
  have z8 : (8 : Int32).toInt = 8 := rfl
  have z4 : (4 : Int32).toInt = 4 := rfl
  have z16 : (16 : Int32).toInt = 16 := rfl
  have k : (s 82 - s 52).toInt = (s 82).toInt - (s 52).toInt := q_sub (by omega) (by omega)
  have k8 := (q_fiI (a := s 82 - s 52) (b := 8) (by decide)).1
  have k4 := (q_fiI (a := s 82 - s 52) (b := 4) (by decide)).1
  rw [k, z8] at k8
  rw [k, z4] at k4
  have f8 : q_fd (s 82 - s 52).toInt64 8 = (q_fi (s 82 - s 52) 8).toInt64 := (q_fiI (b := 8) (by decide)).2
  have f4 : q_fd (s 82 - s 52).toInt64 4 = (q_fi (s 82 - s 52) 4).toInt64 := (q_fiI (b := 4) (by decide)).2
  have e1 : (s 83).toInt64 + (q_fi (s 82 - s 52) 8).toInt64 = (s 83 + q_fi (s 82 - s 52) 8).toInt64 := q_add64 (by omega) (by omega)
  have e2 : (q_ct (s 83 + q_fi (s 82 - s 52) 8).toInt64 0 16000).toInt32 = q_cl (s 83 + q_fi (s 82 - s 52) 8).toInt64 0 16000 := q_cut_cl _ 0 16000
  have c := q_clI (a := s 83 + q_fi (s 82 - s 52) 8) (lo := 0) (hi := 16000) (by decide)
  simp only [Int32.reduceToInt] at c
  unfold pl_X12_hold_60 q_h2
  rw [q_down (by decide), q_b, q_cut, q_b, f8, e1, e2]
  generalize q_cl (s 83 + q_fi (s 82 - s 52) 8).toInt64 0 16000 = N at c
  have f16 : q_fd N.toInt64 16 = (q_fi N 16).toInt64 := (q_fiI (b := 16) (by decide)).2
  have k16 := (q_fiI (a := N) (b := 16) (by decide)).1
  rw [z16] at k16
  have d16 : q_fi N 16 = N / 16 := by
    rw [← Int32.toInt_inj, k16, q_divI (by omega) (by decide), z16]
  have e3 : (q_fi (s 82 - s 52) 4).toInt64 + (q_fi N 16).toInt64 = (q_fi (s 82 - s 52) 4 + q_fi N 16).toInt64 := q_add64 (by omega) (by omega)
  have e4 : (q_ct (q_fi (s 82 - s 52) 4 + N / 16).toInt64 0 800).toInt32 = q_cl (q_fi (s 82 - s 52) 4 + N / 16).toInt64 0 800 := q_cut_cl _ 0 800
  rw [q_down (by decide), q_b, f4, q_ua, q_down (by decide), q_b, f16, e3, d16, q_cut, q_b, e4]
  split <;> rfl
theorem q_R_h1 (hr : q_R s) : q_R (q_h1 s) := by
  unfold q_h1
  repeat' split
  · exact q_R_u hr (by decide)
  · exact hr
  · exact hr
theorem q_holdR (hr : q_R s) : pf_X12_hold s l u v = some ((), q_h2 (q_h1 s), l, u, v) := by
  have r1 : q_R (pj_u s 81 1) := q_R_u hr (by decide)
  have n1 : ¬ (1 : Int32) = 0 := by decide
  unfold pf_X12_hold pl_X12_hold_55 q_h1 q_fit
  rw [q_bqR, q_b, q_h60 hr, q_h60 r1]
  by_cases c0 : s 81 = 2
  · simp only [if_pos c0]
    by_cases c1 : s 94 = 1
    · simp only [if_pos c1]
      by_cases c2 : s 52 < 2500
      · simp only [if_pos c2, if_true]
      · simp only [if_neg c2]
        by_cases c3 : s 53 < 3
        · simp only [if_pos c3, if_true]
        · simp only [if_neg c3]
          by_cases c4 : q_bq s = 0
          · simp only [if_pos c4]
            by_cases c5 : s 29 = 0
            · simp only [if_pos c5]
              by_cases c6 : s 36 = 0
              · simp only [if_pos c6, if_neg n1]
              · simp only [if_neg c6, if_true]
            · simp only [if_neg c5, if_true]
          · simp only [if_neg c4, if_true]
    · simp only [if_neg c1, if_true]
  · simp only [if_neg c0]
theorem q_R_h2 (hr : q_R s) : q_R (q_h2 s) := by
  unfold q_h2
  split
  · exact q_R_u (q_R_u hr (q_clI (by decide))) (q_clI (by decide))
  · exact q_R_u (q_R_u hr (by decide)) (by decide)
theorem q_h_out {w : Nat} (h : w < 81 ∨ 84 < w) : q_h2 (q_h1 s) w = s w := by
  have e : q_h1 s w = s w := by
    unfold q_h1
    repeat' split
    · rw [q_un (by omega)]
    · rfl
    · rfl
  unfold q_h2
  split
  · rw [q_un (by omega), q_un (by omega), e]
  · rw [q_un (by omega), q_un (by omega), e]
end QDR

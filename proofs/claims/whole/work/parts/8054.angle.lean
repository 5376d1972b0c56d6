/-! PURE: angles -/
section QA7
variable {s x u : Nat → Int32} {l y v : Nat → Int64} {fu : Nat}
theorem q_rem72 (a : Int32) : (pj_rem a 7200).toInt = if a.toInt < 0 then (if a.toInt % 7200 = 0 then 0 else a.toInt % 7200 - 7200) else a.toInt % 7200 := by
  have z : (7200 : Int32).toInt = 7200 := rfl
  have e1 := Int32.toInt_div_of_ne_right a 7200 (by decide)
  rw [z] at e1
  have e2 : a.toInt.tdiv 7200 = a.toInt / 7200 + if 0 ≤ a.toInt ∨ (7200 : Int) ∣ a.toInt then 0 else Int.sign 7200 := Int.tdiv_eq_ediv
  have e3 : Int.sign 7200 = 1 := rfl
  have a1 : a.toInt < 2147483648 := a.toInt_lt
  have a2 : -2147483648 ≤ a.toInt := a.le_toInt
  rw [e3] at e2
  rw [e2] at e1
  clear e2 e3
  have p : (a / 7200 * 7200).toInt = (a / 7200).toInt * 7200 := by
    have q := q_mul (a := a / 7200) (b := 7200) (by rw [z, e1]; split <;> omega) (by rw [z, e1]; split <;> omega)
    rw [q, z]
  unfold pj_rem
  rw [q_sub (by rw [p, e1]; split <;> omega) (by rw [p, e1]; split <;> omega), p, e1]
  split <;> split <;> (try split) <;> omega
/-- a modulo 7200 -/
def q_m72 (a : Int32) : Int32 := if pj_rem a 7200 < 0 then pj_rem a 7200 + 7200 else pj_rem a 7200
theorem q_m72I (a : Int32) : (q_m72 a).toInt = a.toInt % 7200 := by
  have h := q_rem72 a
  have z : (7200 : Int32).toInt = 7200 := rfl
  have z0 : (0 : Int32).toInt = 0 := rfl
  unfold q_m72
  by_cases c : pj_rem a 7200 < 0
  · rw [if_pos c]
    rw [Int32.lt_iff_toInt_lt, z0] at c
    by_cases c1 : a.toInt < 0
    · rw [if_pos c1] at h
      by_cases c2 : a.toInt % 7200 = 0
      · rw [if_pos c2] at h; omega
      · rw [if_neg c2] at h
        rw [q_add (by rw [z]; omega) (by rw [z]; omega), z]
        omega
    · rw [if_neg c1] at h; omega
  · rw [if_neg c]
    rw [Int32.lt_iff_toInt_lt, z0] at c
    by_cases c1 : a.toInt < 0
    · rw [if_pos c1] at h
      by_cases c2 : a.toInt % 7200 = 0
      · rw [if_pos c2] at h; omega
      · rw [if_neg c2] at h; omega
    · rw [if_neg c1] at h; omega
theorem q_modulo (a : Int32) : pf_X12_modulo a s l x y = some (q_m72 a, s, l, x, y) := by
  unfold pf_X12_modulo q_m72
  split <;> rfl
theorem q_angleC : pf_X2_angleNow s l x y = some (3600 * x 7 + 60 * x 6, s, l, x, y) := rfl
theorem q_angleR : pf_X12_angleNow s l u v = some (3600 * u 5 + 60 * u 4, s, l, u, v) := rfl
theorem q_speedR (h : ¬ v 6 = 0) : pf_X12_speed s l u v = some (if s 19 < 2 then 0 else (1000000 / v 6).toInt32, s, l, u, v) := by
  unfold pf_X12_speed
  rw [q_dl h]
  split <;> rfl
end QA7

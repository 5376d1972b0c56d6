/-! PURE: the car rolls -/
section QRO
variable {s x u : Nat → Int32} {l y v : Nat → Int64} {fu : Nat}
def q_rl (s : Nat → Int32) : Nat → Int32 := if s 55 + s 52 < 36000 then pj_u s 55 (s 55 + s 52) else pj_u (pj_u s 55 (s 55 + s 52 - 36000)) 54 (s 54 + 1)
theorem q_98C : pl_X5_roll_98 s l x y = some ((), q_rl s, l, x, y) := by
  unfold pl_X5_roll_98 q_rl
  split
  · rfl
  · rw [q_uu]
/-- the reference's brake -/
def q_bR (s : Nat → Int32) : Int32 := if s 15000 = s 15001 then 0 else if s 85 < 20 then s 85 + 1 else 20
theorem q_99a {f : Nat} (c : s 55 < 36000) : pl_X12_drives_99 fu (f + 1) s l u v = pl_X12_drives_181 fu (pj_u s 85 (q_bR s)) l u v := by
  rw [pl_X12_drives_99, if_pos c]
  unfold q_bR pl_X12_drives_170
  split
  · rfl
  · split <;> rfl
theorem q_99R {f : Nat} (hr : q_R s) : pl_X12_drives_99 fu (f + 2) (pj_u s 55 (s 55 + s 52)) l u v = pl_X12_drives_181 fu (pj_u (q_rl s) 85 (q_bR (q_rl s))) l u v := by
  have a : (0 : Int) ≤ (s 55).toInt ∧ (s 55).toInt ≤ 35999 := hr 55
  have b : (0 : Int) ≤ (s 52).toInt ∧ (s 52).toInt ≤ 30000 := hr 52
  have z : (36000 : Int32).toInt = 36000 := rfl
  have e : (s 55 + s 52).toInt = (s 55).toInt + (s 52).toInt := q_add (by omega) (by omega)
  unfold q_rl
  by_cases c : s 55 + s 52 < 36000
  · rw [if_pos c, q_99a (f := f + 1) (by rw [q_ua]; exact c)]
  · rw [if_neg c, pl_X12_drives_99, if_neg (by rw [q_ua]; exact c), q_ua, q_uu, q_un (f := s) (w := 54) (by omega)]
    refine q_99a ?_
    rw [Int32.lt_iff_toInt_lt, z] at c
    rw [q_un (by omega), q_ua, Int32.lt_iff_toInt_lt, q_sub (by rw [z]; omega) (by rw [z]; omega), z]
    omega
end QRO

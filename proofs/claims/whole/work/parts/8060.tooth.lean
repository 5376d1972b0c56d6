/-! PURE: the crank's edge, up to the plans: class -/
section QTO
variable {s x u : Nat → Int32} {l y v : Nat → Int64} {fu : Nat}
/-- the class's speed behind an edge -/
def q_sp (s x : Nat → Int32) : Int32 := if s 19 < 2 then 0 else if 0 < x 4 then 1000000 / x 4 else 0
theorem q_measure : pf_X2_measure s l x y = some ((), s, l, pj_u x 5 (q_sp s x), y) := by
  unfold pf_X2_measure pl_X2_measure_26 pl_X2_measure_27 q_sp
  by_cases c1 : s 19 < 2
  · rw [if_pos c1, if_pos c1]
  · rw [if_neg c1, if_neg c1]
    by_cases c2 : 0 < x 4
    · have n : ¬ x 4 = 0 := by
        intro e
        rw [e, Int32.lt_iff_toInt_lt] at c2
        exact Int.lt_irrefl _ c2
      rw [if_pos c2, if_pos c2, q_d n]
    · rw [if_neg c2, if_neg c2]
theorem q_t116 (a : Int32) : pl_X2_hearTooth_116 a s l x y = some (a, s, l, pj_u x 5 (q_sp s x), y) := by
  unfold pl_X2_hearTooth_116
  rw [q_measure, q_b]
theorem q_passGap (g : Int64) : pf_X2_passGap g s l x y = some ((), pj_u s 25 0, l, pj_u (pj_u x 6 0) 4 (q_mx (g / 3)).toInt32, y) := by
  unfold pf_X2_passGap
  rw [q_maxL, q_b, q_mxC]
theorem q_seek (g : Int64) (h : 0 ≤ (x 4).toInt) : pf_X2_seek g s l x y = if q_gap (x 4).toInt64 g = 0 then some ((), s, l, pj_u x 4 (q_mn g).toInt32, y) else some ((), pj_u (pj_u s 19 2) 25 0, l, pj_u (pj_u (pj_u x 7 0) 6 0) 4 (q_mx (g / 3)).toInt32, y) := by
  have n1 : ¬ (1 : Int32) = 0 := by decide
  have e : pl_X2_seek_53 g s l x y = some ((), s, l, pj_u x 4 (q_mn g).toInt32, y) := by
    unfold pl_X2_seek_53
    rw [q_minL, q_b, q_mnC]
  have z : (0 < x 4) ↔ (0 : Int64) < (x 4).toInt64 := by
    rw [Int32.lt_iff_toInt_lt, Int64.lt_iff_toInt_lt, Int32.toInt_toInt64]
    exact Iff.rfl
  unfold pf_X2_seek q_gap
  rw [e, q_passGap, q_b]
  by_cases c1 : 0 < x 4
  · have c1' := z.mp c1
    by_cases c2 : 2 * (x 4).toInt64 < g
    · by_cases c3 : 5 * (x 4).toInt64 < g
      · simp only [if_pos c1, if_pos c1', if_pos c2, if_pos c3, if_true]
      · simp only [if_pos c1, if_pos c1', if_pos c2, if_neg c3, if_neg n1]
    · simp only [if_pos c1, if_pos c1', if_neg c2, if_true]
  · have c1' : ¬ (0 : Int64) < (x 4).toInt64 := fun q => c1 (z.mpr q)
    simp only [if_neg c1, if_neg c1', if_true]
end QTO

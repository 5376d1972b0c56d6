/-! PURE: the crank's edge, up to the plans: class, all of it -/
section QTP
variable {s x u : Nat → Int32} {l y v : Nat → Int64} {fu : Nat}
def q_rt (c : Int32) (p g : Int64) : Int32 := if c = 57 then q_gap p g else if p < 2 * g then (if 2 * p < g then 0 else 1) else 0
theorem q_isRight (g : Int64) (h : 0 < x 4) : pf_X2_isRight g s l x y = some (q_rt (x 6) (x 4).toInt64 g, s, l, x, y) := by
  have z : (0 : Int64) < (x 4).toInt64 := by
    rw [Int32.lt_iff_toInt_lt] at h
    rw [Int64.lt_iff_toInt_lt, Int32.toInt_toInt64]
    exact h
  unfold pf_X2_isRight q_rt q_gap
  rw [if_pos z]
  split
  · split
    · split <;> rfl
    · rfl
  · split
    · split <;> rfl
    · rfl
/-- the class's counting at tooth 21 -/
def q_cnt (s : Nat → Int32) (c d : Int32) : Nat → Int32 := if s 19 = 3 then (if c = 21 then (if d = 0 then (if s 25 = 0 then pj_u s 22 (if s 22 + 1 < 100 then s 22 + 1 else 100) else s) else s) else s) else s
theorem q_goOn (g : Int64) : pf_X2_goOn g s l x y = if x 6 = 57 then some ((), pj_u (pj_u s 24 (s 24 + 1)) 25 0, l, pj_u (pj_u (pj_u x 7 (1 - x 7)) 6 0) 4 (q_mx (g / 3)).toInt32, y) else some ((), q_cnt s (x 6 + 1) (x 7), l, pj_u (pj_u x 6 (x 6 + 1)) 4 g.toInt32, y) := by
  unfold pf_X2_goOn q_cnt
  rw [q_passGap, q_b, q_min, q_b]
  split
  · rfl
  · split
    · split
      · split
        · split <;> rfl
        · rfl
      · rfl
    · rfl
theorem q_hear {t : Int64} (h : 0 ≤ (x 4).toInt) (h2 : ¬ s 19 = 0 → ¬ s 19 = 1 → 0 < x 4) : pf_X2_hearTooth t s l x y = if s 19 = 0 then pl_X2_hearTooth_116 0 (pj_u s 19 1) (pj_u l 20 t) (pj_u x 4 0) y else if s 19 = 1 then (if q_gap (x 4).toInt64 (q_mx (t - l 20)) = 0 then pl_X2_hearTooth_116 0 s (pj_u l 20 t) (pj_u x 4 (q_mn (q_mx (t - l 20))).toInt32) y else pl_X2_hearTooth_116 0 (pj_u (pj_u s 19 2) 25 0) (pj_u l 20 t) (pj_u (pj_u (pj_u x 7 0) 6 0) 4 (q_mx (q_mx (t - l 20) / 3)).toInt32) y) else if q_rt (x 6) (x 4).toInt64 (q_mx (t - l 20)) = 0 then pl_X2_hearTooth_116 2 (pj_u (pj_u s 21 (s 21 + 1)) 19 1) (pj_u l 20 t) (pj_u x 4 (q_mn (q_mx (t - l 20))).toInt32) y else pj_b (pf_X2_goOn (q_mx (t - l 20)) s (pj_u l 20 t) x y) (fun _ s5 l5 x5 y5 => if s5 19 = 3 then pl_X2_hearTooth_116 1 s5 l5 x5 y5 else pl_X2_hearTooth_116 0 s5 l5 x5 y5) := by
  unfold pf_X2_hearTooth
  rw [q_maxL, q_b, q_mxC]
  by_cases c0 : s 19 = 0
  · rw [if_pos c0, if_pos c0]
  · rw [if_neg c0, if_neg c0]
    by_cases c1 : s 19 = 1
    · rw [if_pos c1, if_pos c1, q_seek _ h]
      split
      · rw [q_b]
      · rw [q_b]
    · rw [if_neg c1, if_neg c1, q_isRight _ (h2 c0 c1), q_b, q_minL, q_b, q_mnC]
      rfl
end QTP

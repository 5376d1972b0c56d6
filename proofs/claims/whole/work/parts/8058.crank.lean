/-! PURE: the crank's edge, up to the plans: reference -/
section QCR
variable {s x u : Nat → Int32} {l y v : Nat → Int64} {fu : Nat}
def q_mx (d : Int64) : Int64 := if d < 1 then 1 else d
def q_mn (d : Int64) : Int64 := if 1000000 < d then 1000000 else d
/-- is it the gap: pitch p, time g -/
def q_gap (p g : Int64) : Int32 := if 0 < p then (if 2 * p < g then (if 5 * p < g then 0 else 1) else 0) else 0
theorem q_mxC (d : Int64) : (if 1 < d then d else 1) = q_mx d := by
  unfold q_mx
  by_cases c1 : 1 < d
  · rw [if_pos c1, if_neg]
    rw [Int64.lt_iff_toInt_lt] at c1 ⊢
    omega
  · rw [if_neg c1]
    by_cases c2 : d < 1
    · rw [if_pos c2]
    · rw [if_neg c2, ← Int64.toInt_inj]
      rw [Int64.lt_iff_toInt_lt] at c1 c2
      omega
theorem q_mnC (d : Int64) : (if d < 1000000 then d else 1000000) = q_mn d := by
  unfold q_mn
  by_cases c1 : d < 1000000
  · rw [if_pos c1, if_neg]
    rw [Int64.lt_iff_toInt_lt] at c1 ⊢
    omega
  · rw [if_neg c1]
    by_cases c2 : 1000000 < d
    · rw [if_pos c2]
    · rw [if_neg c2, ← Int64.toInt_inj]
      rw [Int64.lt_iff_toInt_lt] at c1 c2
      omega
theorem q_crank1 : pf_X12_crank s l u v = if s 94 = 0 then some ((), s, l, u, v) else pl_X12_crank_121 (q_mx (l 93 - l 20)) (q_mn (q_mx (l 93 - l 20))) (q_gap (v 6) (q_mx (l 93 - l 20))) (q_mx (q_mx (l 93 - l 20) / 3)) s (pj_u l 20 (l 93)) u v := by
  have e1 : ∀ (g m : Int64) (b : Int32) (s : Nat → Int32) (l : Nat → Int64) (u : Nat → Int32) (v : Nat → Int64), pl_X12_crank_100 g m b s l u v = pl_X12_crank_121 g m b (q_mx (g / 3)) s l u v := by
    intro g m b s l u v
    unfold pl_X12_crank_100 q_mx
    split <;> rfl
  have e2 : ∀ (g m : Int64) (s : Nat → Int32) (l : Nat → Int64) (u : Nat → Int32) (v : Nat → Int64), pl_X12_crank_59 g m s l u v = pl_X12_crank_100 g m (q_gap (v 6) g) s l u v := by
    intro g m s l u v
    unfold pl_X12_crank_59 pl_X12_crank_99 q_gap
    split
    · split
      · split <;> rfl
      · rfl
    · rfl
  have e3 : ∀ (g : Int64) (s : Nat → Int32) (l : Nat → Int64) (u : Nat → Int32) (v : Nat → Int64), pl_X12_crank_35 g s l u v = pl_X12_crank_59 g (q_mn g) s (pj_u l 20 (l 93)) u v := by
    intro g s l u v
    unfold pl_X12_crank_35 q_mn
    split <;> rfl
  unfold pf_X12_crank
  by_cases c : s 94 = 0
  · rw [if_pos c, if_pos c]
  · rw [if_neg c, if_neg c, ← e1, ← e2, ← e3]
    unfold q_mx
    split <;> rfl
theorem q_crank0 : pl_X12_crank_340 0 s l u v = some ((), s, l, u, v) := by
  unfold pl_X12_crank_340
  exact if_pos rfl
theorem q_crank2 (g m : Int64) (b : Int32) (t : Int64) : pl_X12_crank_121 g m b t s l u v = if s 19 = 0 then some ((), pj_u s 19 1, l, u, pj_u v 6 0) else if s 19 = 1 then (if b = 0 then some ((), s, l, u, pj_u v 6 m) else some ((), pj_u (pj_u s 19 2) 25 0, l, pj_u (pj_u u 4 0) 5 0, pj_u v 6 t)) else if u 4 = 57 then (if b = 0 then pl_X12_crank_316 m s l u v else pl_X12_crank_340 1 (pj_u (pj_u s 24 (s 24 + 1)) 25 0) l (pj_u (pj_u u 4 0) 5 (1 - u 5)) (pj_u v 6 t)) else if v 6 < 2 * g then (if 2 * v 6 < g then pl_X12_crank_316 m s l u v else pl_X12_crank_340 1 s l (pj_u u 4 (u 4 + 1)) (pj_u v 6 g)) else pl_X12_crank_316 m s l u v := by
  unfold pl_X12_crank_121 pl_X12_crank_188 pl_X12_crank_260
  by_cases c0 : s 19 = 0
  · rw [if_pos c0, if_pos c0, q_crank0]
  · rw [if_neg c0, if_neg c0]
    by_cases c1 : s 19 = 1
    · by_cases c2 : b = 0
      · simp only [if_pos c1, if_pos c2, q_crank0]
      · simp only [if_pos c1, if_neg c2, q_crank0]
    · rw [if_neg c1, if_neg c1, if_neg c1]
      by_cases c3 : u 4 = 57
      · rw [if_pos c3, if_pos c3, if_pos c3]
      · rw [if_neg c3, if_neg c3, if_neg c3]
end QCR

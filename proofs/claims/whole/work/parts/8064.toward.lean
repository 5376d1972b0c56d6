/-! PURE: toward, in both; the brake -/
section QTW
variable {s x u : Nat → Int32} {l y v : Nat → Int64} {fu : Nat}
theorem q_clV {a lo hi : Int32} : (q_cl a.toInt64 lo hi).toInt = if a.toInt < lo.toInt then lo.toInt else if hi.toInt < a.toInt then hi.toInt else a.toInt := by
  unfold q_cl
  by_cases c1 : a.toInt < lo.toInt
  · rw [if_pos c1, if_pos (by rw [Int64.lt_iff_toInt_lt, Int32.toInt_toInt64, Int32.toInt_toInt64]; exact c1)]
  · rw [if_neg c1, if_neg (by rw [Int64.lt_iff_toInt_lt, Int32.toInt_toInt64, Int32.toInt_toInt64]; exact c1)]
    by_cases c2 : hi.toInt < a.toInt
    · rw [if_pos c2, if_pos (by rw [Int64.lt_iff_toInt_lt, Int32.toInt_toInt64, Int32.toInt_toInt64]; exact c2)]
    · rw [if_neg c2, if_neg (by rw [Int64.lt_iff_toInt_lt, Int32.toInt_toInt64, Int32.toInt_toInt64]; exact c2), Int32.toInt32_toInt64]
/-- from a toward b by at most c -/
def q_tw (a b c : Int32) : Int32 := if b < a then (if a - c < b then b else a - c) else (if b < a + c then b else a + c)
theorem q_toward (a b c : Int32) : pf_X12_toward a b c s l u v = some (q_tw a b c, s, l, u, v) := by
  unfold pf_X12_toward q_tw
  split
  · split <;> rfl
  · split <;> rfl
theorem q_twV {a b c : Int32} (h1 : -1000000 ≤ a.toInt) (h2 : a.toInt ≤ 1000000) (h3 : 0 ≤ c.toInt) (h4 : c.toInt ≤ 1000) : (q_tw a b c).toInt = if b.toInt < a.toInt then (if a.toInt - c.toInt < b.toInt then b.toInt else a.toInt - c.toInt) else (if b.toInt < a.toInt + c.toInt then b.toInt else a.toInt + c.toInt) := by
  have e1 : (a - c).toInt = a.toInt - c.toInt := q_sub (by omega) (by omega)
  have e2 : (a + c).toInt = a.toInt + c.toInt := q_add (by omega) (by omega)
  unfold q_tw
  simp only [Int32.lt_iff_toInt_lt, e1, e2]
  split
  · split
    · rfl
    · exact e1
  · split
    · rfl
    · exact e2
/-- the class's way to it: what is wanted more, cut to c -/
theorem q_tw_cl {a b c d : Int32} (hd : d.toInt = -c.toInt) (h1 : -1000000 ≤ a.toInt) (h2 : a.toInt ≤ 1000000) (h3 : 0 ≤ c.toInt) (h4 : c.toInt ≤ 1000) (h5 : -1000000 ≤ b.toInt) (h6 : b.toInt ≤ 1000000) : a + q_cl (b - a).toInt64 d c = q_tw a b c := by
  have e1 : (b - a).toInt = b.toInt - a.toInt := q_sub (by omega) (by omega)
  have e2 := q_clV (a := b - a) (lo := d) (hi := c)
  rw [e1, hd] at e2
  rw [← Int32.toInt_inj, q_twV h1 h2 h3 h4]
  rw [q_add (by rw [e2]; split <;> (try split) <;> omega) (by rw [e2]; split <;> (try split) <;> omega), e2]
  repeat' split
  all_goals omega
/-- the brake -/
def q_bk (s : Nat → Int32) (a : Int32) : Int32 := if a = 0 then 0 else if s 85 + 1 < 20 then s 85 + 1 else 20
theorem q_brakeC (a : Int32) : pf_X9_feelBrake a s l x y = some ((), (if q_bk s a = 20 then pj_u (pj_u s 85 (q_bk s a)) 86 1 else pj_u s 85 (q_bk s a)), l, x, y) := by
  have e : ∀ (b : Int32) (s : Nat → Int32), pl_X9_feelBrake_20 b s l x y = some ((), (if b = 20 then pj_u (pj_u s 85 b) 86 1 else pj_u s 85 b), l, x, y) := by
    intro b s
    unfold pl_X9_feelBrake_20
    split <;> rfl
  unfold pf_X9_feelBrake q_bk
  rw [q_min, q_b, e, e]
  split <;> rfl
end QTW

/-! PURE: when an angle comes; the tops -/
section QA8
variable {s x u : Nat → Int32} {l y v : Nat → Int64} {fu : Nat}
theorem q_neg32 (c : Int32) : (c < 0) ↔ c.toBitVec.msb = true := by
  rw [BitVec.msb_eq_toInt, decide_eq_true_iff, Int32.lt_iff_toInt_lt]
  exact Iff.rfl
theorem q_xor32 {a b : Int32} (h : 0 < b) : (a ^^^ b < 0) ↔ a < 0 := by
  rw [q_neg32, q_neg32, Int32.toBitVec_xor, BitVec.msb_xor]
  have hb : b.toBitVec.msb = false := by
    cases h9 : b.toBitVec.msb with
    | false => rfl
    | true =>
      have h1 := (q_neg32 b).mpr h9
      rw [Int32.lt_iff_toInt_lt] at h h1
      omega
  rw [hb, Bool.xor_false]
theorem q_floorMod (a : Int32) : pf_J9_floorMod_7cf53 a 7200 s l x y = some (q_m72 a, s, l, x, y) := by
  have h := q_rem72 a
  have z0 : (0 : Int32).toInt = 0 := rfl
  have n0 : ¬ (7200 : Int32) = 0 := by decide
  have n1 : (0 : Int32) < 7200 := by decide
  unfold pf_J9_floorMod_7cf53 q_m72 pj_d
  rw [if_neg n0]
  by_cases c : a < 0
  · rw [if_pos ((q_xor32 n1).mpr c)]
    rw [Int32.lt_iff_toInt_lt, z0] at c
    rw [if_pos c] at h
    by_cases c2 : a.toInt % 7200 = 0
    · rw [if_pos c2] at h
      have e : pj_rem a 7200 = 0 := by rw [← Int32.toInt_inj, z0]; exact h
      rw [if_pos e, e]
      rfl
    · rw [if_neg c2] at h
      have e : ¬ pj_rem a 7200 = 0 := by rw [← Int32.toInt_inj, z0]; omega
      have e2 : pj_rem a 7200 < 0 := by rw [Int32.lt_iff_toInt_lt, z0]; omega
      rw [if_neg e, if_pos e2]
  · rw [if_neg (fun q => c ((q_xor32 n1).mp q))]
    rw [Int32.lt_iff_toInt_lt, z0] at c
    rw [if_neg c] at h
    have e2 : ¬ pj_rem a 7200 < 0 := by rw [Int32.lt_iff_toInt_lt, z0]; omega
    rw [if_neg e2]
theorem q_m72_nn {a : Int32} (g : 0 ≤ a.toInt) : q_m72 a = pj_rem a 7200 := by
  have h := q_rem72 a
  have z0 : (0 : Int32).toInt = 0 := rfl
  rw [if_neg (by omega)] at h
  unfold q_m72
  rw [if_neg (by rw [Int32.lt_iff_toInt_lt, z0]; omega)]
theorem q_fd_nn {a b : Int64} (g : 0 ≤ a.toInt) : q_fd a b = a / b := by
  have z0 : (0 : Int64).toInt = 0 := rfl
  have n : ¬ a < 0 := by rw [Int64.lt_iff_toInt_lt, z0]; omega
  unfold q_fd
  rw [if_neg n]
  split <;> rfl
/-- when the angle a comes -/
theorem q_comesC (a : Int32) : pf_X2_comesAt a s l x y = some (l 20 + (q_m72 (a - (3600 * x 7 + 60 * x 6))).toInt64 * (x 4).toInt64 / 60, s, l, x, y) := by
  unfold pf_X2_comesAt
  rw [q_angleC, q_b, q_floorMod, q_b]
theorem q_comesR (a : Int32) (h1 : 0 ≤ (x 4).toInt) (h6 : v 6 = (x 4).toInt64) (e4 : u 4 = x 6) (e5 : u 5 = x 7) : pf_X12_comesAt a s l u v = some (l 20 + (q_m72 (a - (3600 * x 7 + 60 * x 6))).toInt64 * (x 4).toInt64 / 60, s, l, u, v) := by
  have n0 : ¬ (60 : Int64) = 0 := by decide
  have m := q_m72I (a - (3600 * x 7 + 60 * x 6))
  have p0 : 0 ≤ (q_m72 (a - (3600 * x 7 + 60 * x 6))).toInt := by omega
  have p1 : (q_m72 (a - (3600 * x 7 + 60 * x 6))).toInt ≤ 7199 := by omega
  have p2 := (x 4).toInt_lt
  have p3 := Int.mul_nonneg p0 h1
  have p4 : (q_m72 (a - (3600 * x 7 + 60 * x 6))).toInt * (x 4).toInt ≤ 7199 * 2147483648 := Int.mul_le_mul p1 (by omega) h1 (by omega)
  have g : 0 ≤ ((q_m72 (a - (3600 * x 7 + 60 * x 6))).toInt64 * (x 4).toInt64).toInt := by
    rw [q_mulL (by rw [Int32.toInt_toInt64, Int32.toInt_toInt64]; omega) (by rw [Int32.toInt_toInt64, Int32.toInt_toInt64]; omega), Int32.toInt_toInt64, Int32.toInt_toInt64]
    exact p3
  unfold pf_X12_comesAt
  rw [q_angleR, q_b, q_modulo, q_b, q_down n0, q_b, h6, e4, e5, q_fd_nn g]
/-- the top of a cylinder -/
def q_top (s : Nat → Int32) (c : Nat) : Int32 := pj_rem (s 10001 + 7200 * Int32.ofNat c / s 10000) 7200
theorem q_topC {c : Nat} (h0 : 1 ≤ (s 10000).toInt) : pf_X11_topOf (Int32.ofNat c) s l x y = some (q_top s c, s, l, x, y) := by
  have z0 : (0 : Int32).toInt = 0 := rfl
  have n : (0 : Int32) < s 10000 := by rw [Int32.lt_iff_toInt_lt, z0]; omega
  have n2 : ¬ s 10000 = 0 := by rw [← Int32.toInt_inj, z0]; omega
  unfold pf_X11_topOf pj_d
  rw [if_pos n, if_neg n2]
  rfl
theorem q_topR {c : Nat} (hc : c < 8) (h0 : 1 ≤ (s 10000).toInt) (h1 : 0 ≤ (s 10001).toInt) (h2 : (s 10001).toInt ≤ 7199) : pf_X12_topOf (Int32.ofNat c) s l u v = some (q_top s c, s, l, u, v) := by
  have z0 : (0 : Int32).toInt = 0 := rfl
  have n2 : ¬ s 10000 = 0 := by rw [← Int32.toInt_inj, z0]; omega
  have n3 : s 10000 ≠ -1 := by
    intro q
    rw [q] at h0
    exact absurd h0 (by decide)
  have z7 : (7200 : Int32).toInt = 7200 := rfl
  have m : (7200 * Int32.ofNat c).toInt = 7200 * c := by
    rw [q_mul (by rw [z7, q_onI (by omega)]; omega) (by rw [z7, q_onI (by omega)]; omega), z7, q_onI (by omega)]
  have d := Int32.toInt_div_of_ne_right (7200 * Int32.ofNat c) (s 10000) n3
  rw [m, Int.tdiv_eq_ediv_of_nonneg (by omega)] at d
  have d1 := Int.ediv_nonneg (a := 7200 * (c : Int)) (b := (s 10000).toInt) (by omega) (by omega)
  have d2 := Int.ediv_le_self (a := 7200 * (c : Int)) (s 10000).toInt (by omega)
  have g : 0 ≤ (s 10001 + 7200 * Int32.ofNat c / s 10000).toInt := by
    rw [q_add (by rw [d]; omega) (by rw [d]; omega), d]
    omega
  unfold pf_X12_topOf pj_d
  rw [if_neg n2, q_modulo, q_b, q_m72_nn g]
  rfl
end QA8

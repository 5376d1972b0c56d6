/-! PURE 0: numbers, guards, reading and writing -/
theorem q_bm {n : Int} (h1 : -2147483648 ≤ n) (h2 : n ≤ 2147483647) : n.bmod (2 ^ 32) = n := Int.bmod_eq_of_le_mul_two (show -((4294967296 : Nat) : Int) ≤ n * 2 by omega) (show n * 2 < ((4294967296 : Nat) : Int) by omega)
theorem q_bmL {n : Int} (h1 : -9223372036854775808 ≤ n) (h2 : n ≤ 9223372036854775807) : n.bmod (2 ^ 64) = n := Int.bmod_eq_of_le_mul_two (show -((18446744073709551616 : Nat) : Int) ≤ n * 2 by omega) (show n * 2 < ((18446744073709551616 : Nat) : Int) by omega)
theorem q_add {a b : Int32} (h1 : -2147483648 ≤ a.toInt + b.toInt) (h2 : a.toInt + b.toInt ≤ 2147483647) : (a + b).toInt = a.toInt + b.toInt := by rw [Int32.toInt_add, q_bm h1 h2]
theorem q_sub {a b : Int32} (h1 : -2147483648 ≤ a.toInt - b.toInt) (h2 : a.toInt - b.toInt ≤ 2147483647) : (a - b).toInt = a.toInt - b.toInt := by rw [Int32.toInt_sub, q_bm h1 h2]
theorem q_mul {a b : Int32} (h1 : -2147483648 ≤ a.toInt * b.toInt) (h2 : a.toInt * b.toInt ≤ 2147483647) : (a * b).toInt = a.toInt * b.toInt := by rw [Int32.toInt_mul, q_bm h1 h2]
theorem q_addL {a b : Int64} (h1 : -9223372036854775808 ≤ a.toInt + b.toInt) (h2 : a.toInt + b.toInt ≤ 9223372036854775807) : (a + b).toInt = a.toInt + b.toInt := by rw [Int64.toInt_add, q_bmL h1 h2]
theorem q_subL {a b : Int64} (h1 : -9223372036854775808 ≤ a.toInt - b.toInt) (h2 : a.toInt - b.toInt ≤ 9223372036854775807) : (a - b).toInt = a.toInt - b.toInt := by rw [Int64.toInt_sub, q_bmL h1 h2]
theorem q_mulL {a b : Int64} (h1 : -9223372036854775808 ≤ a.toInt * b.toInt) (h2 : a.toInt * b.toInt ≤ 9223372036854775807) : (a * b).toInt = a.toInt * b.toInt := by rw [Int64.toInt_mul, q_bmL h1 h2]
theorem q_32 {a : Int64} (h1 : -2147483648 ≤ a.toInt) (h2 : a.toInt ≤ 2147483647) : a.toInt32.toInt = a.toInt := by rw [Int64.toInt_toInt32, q_bm h1 h2]
theorem q_clampI {a : Int32} (h : 0 ≤ a.toInt) : (a.toNatClampNeg : Int) = a.toInt := Int.toNat_of_nonneg h
-- a number that is a natural one
theorem q_onI {i : Nat} (h : i < 2147483648) : (Int32.ofNat i).toInt = i := Int32.toInt_ofNat_of_lt h
theorem q_onC {i : Nat} (h : i < 2147483648) : (Int32.ofNat i).toNatClampNeg = i := Int32.toNatClampNeg_ofNat_of_lt h
theorem q_onlt {i j : Nat} (h1 : i < 2147483648) (h2 : j < 2147483648) : (Int32.ofNat i < Int32.ofNat j) = (i < j) := by
  rw [Int32.lt_iff_toInt_lt, q_onI h1, q_onI h2, Int.ofNat_lt]
theorem q_oneq {i j : Nat} (h1 : i < 2147483648) (h2 : j < 2147483648) : (Int32.ofNat i = Int32.ofNat j) = (i = j) := by
  rw [← Int32.toInt_inj, q_onI h1, q_onI h2, Int.ofNat_inj]
theorem q_onltL {i n : Nat} (h1 : i < 2147483648) (h2 : (OfNat.ofNat n : Nat) < 2147483648) : (Int32.ofNat i < (no_index (OfNat.ofNat n : Int32))) = (i < (OfNat.ofNat n : Nat)) := q_onlt h1 h2
theorem q_onltR {i n : Nat} (h1 : i < 2147483648) (h2 : (OfNat.ofNat n : Nat) < 2147483648) : ((no_index (OfNat.ofNat n : Int32)) < Int32.ofNat i) = ((OfNat.ofNat n : Nat) < i) := q_onlt h2 h1
theorem q_oneqL {i n : Nat} (h1 : i < 2147483648) (h2 : (OfNat.ofNat n : Nat) < 2147483648) : (Int32.ofNat i = (no_index (OfNat.ofNat n : Int32))) = (i = (OfNat.ofNat n : Nat)) := q_oneq h1 h2
theorem q_onaL (i n : Nat) : Int32.ofNat i + (no_index (OfNat.ofNat n : Int32)) = Int32.ofNat (i + (OfNat.ofNat n : Nat)) := (Int32.ofNat_add i n).symm
theorem q_onsL {i n : Nat} (h : (OfNat.ofNat n : Nat) ≤ i) : Int32.ofNat i - (no_index (OfNat.ofNat n : Int32)) = Int32.ofNat (i - (OfNat.ofNat n : Nat)) := (Int32.ofNat_sub i n h).symm
theorem q_onmL (i n : Nat) : (no_index (OfNat.ofNat n : Int32)) * Int32.ofNat i = Int32.ofNat ((OfNat.ofNat n : Nat) * i) := (Int32.ofNat_mul n i).symm
theorem q_ona (i j : Nat) : Int32.ofNat i + Int32.ofNat j = Int32.ofNat (i + j) := (Int32.ofNat_add i j).symm
/-- an int from 0 on is a natural number's -/
theorem q_nat {a : Int32} (h : 0 ≤ a.toInt) : ∃ i : Nat, a = Int32.ofNat i ∧ (i : Int) = a.toInt ∧ i < 2147483648 := by
  have h2 : a.toInt < 2147483648 := a.toInt_lt
  have e : ((a.toInt.toNat : Nat) : Int) = a.toInt := Int.toNat_of_nonneg h
  refine ⟨a.toInt.toNat, ?_, e, by omega⟩
  rw [← Int32.toInt_inj, q_onI (by omega), e]
-- guards
section QG
variable {A : Type} {k : Option A}
theorem q_g {i n : Nat} (h : i < n) (hn : n < 2147483648) : pj_g (Int32.ofNat i) n k = k := by
  unfold pj_g
  rw [if_neg]
  rintro (h1 | h1)
  · rw [Int32.lt_iff_toInt_lt, q_onI (by omega)] at h1
    have h1 : (i : Int) < 0 := h1
    omega
  · rw [q_onC (by omega)] at h1
    omega
theorem q_gL {i n : Nat} (h : (OfNat.ofNat i : Nat) < n) (hn : n < 2147483648) : pj_g (no_index (OfNat.ofNat i : Int32)) n k = k := q_g h hn
theorem q_gi {j : Int32} {n : Nat} (h0 : 0 ≤ j.toInt) (h1 : j.toInt < n) : pj_g j n k = k := by
  unfold pj_g
  rw [if_neg]
  rintro (h | h)
  · rw [Int32.lt_iff_toInt_lt] at h
    have h : j.toInt < 0 := h
    omega
  · have := q_clampI h0
    omega
theorem q_r {n m : Nat} (h : n < m) : pj_r n m k = k := if_pos h
theorem q_d {y : Int32} (h : ¬ y = 0) : pj_d y k = k := if_neg h
theorem q_dl {y : Int64} (h : ¬ y = 0) : pj_dl y k = k := if_neg h
theorem q_bz {x : Int32} (h : x = 0 ∨ x = 1) : pj_bz x k = k := if_pos h
theorem q_bz0 : pj_bz 0 k = k := if_pos (Or.inl rfl)
theorem q_bz1 : pj_bz 1 k = k := if_pos (Or.inr rfl)
theorem q_b {R : Type} (r : R) (s : Nat → Int32) (l : Nat → Int64) (x : Nat → Int32) (y : Nat → Int64) (f : R → (Nat → Int32) → (Nat → Int64) → (Nat → Int32) → (Nat → Int64) → Option A) : pj_b (some (r, s, l, x, y)) f = f r s l x y := rfl
end QG
-- writes
section QU
variable {α : Type} {f : Nat → α} {v w : Nat} {a b : α}
theorem q_ua : pj_u f v a v = a := if_pos rfl
theorem q_un (h : ¬ w = v) : pj_u f v a w = f w := if_neg h
theorem q_uu : pj_u (pj_u f v a) v b = pj_u f v b := by
  funext z
  unfold pj_u
  split <;> rfl
theorem q_us (h : v < w) : pj_u (pj_u f w a) v b = pj_u (pj_u f v b) w a := by
  funext z
  unfold pj_u
  by_cases h1 : z = v
  · rw [if_pos h1, if_neg (by omega), if_pos h1]
  · rw [if_neg h1]
    split
    · rfl
    · rfl
theorem q_ui : pj_u f v (f v) = f := by
  funext z
  unfold pj_u
  split
  · rename_i h; rw [h]
  · rfl
end QU
-- small methods
def q_cl (v : Int64) (lo hi : Int32) : Int32 := if v < lo.toInt64 then lo else if hi.toInt64 < v then hi else v.toInt32
def q_ct (v lo hi : Int64) : Int64 := if v < lo then lo else if hi < v then hi else v
/-- the quotient, rounded down -/
def q_fd (a b : Int64) : Int64 := if pj_reml a b = 0 then a / b else if a < 0 then a / b - 1 else a / b
section QM
variable {s x : Nat → Int32} {l y : Nat → Int64}
theorem q_clip (v : Int64) (lo hi : Int32) : pf_X11_clip v lo hi s l x y = some (q_cl v lo hi, s, l, x, y) := by
  unfold pf_X11_clip q_cl
  split
  · rfl
  · split <;> rfl
theorem q_cut (v lo hi : Int64) : pf_X12_cutTo v lo hi s l x y = some (q_ct v lo hi, s, l, x, y) := by
  unfold pf_X12_cutTo q_ct
  split
  · rfl
  · split <;> rfl
theorem q_cut_cl (v : Int64) (lo hi : Int32) : (q_ct v lo.toInt64 hi.toInt64).toInt32 = q_cl v lo hi := by
  unfold q_ct q_cl
  split
  · exact Int32.toInt32_toInt64 lo
  · split
    · exact Int32.toInt32_toInt64 hi
    · rfl
theorem q_down {a b : Int64} (h : ¬ b = 0) : pf_X12_down a b s l x y = some (q_fd a b, s, l, x, y) := by
  unfold pf_X12_down pl_X12_down_26 q_fd
  rw [q_dl h, q_dl h]
  split
  · rfl
  · split <;> rfl
theorem q_neg64 (c : Int64) : (c < 0) ↔ c.toBitVec.msb = true := by
  rw [BitVec.msb_eq_toInt, decide_eq_true_iff, Int64.lt_iff_toInt_lt]
  exact Iff.rfl
theorem q_xor64 {a b : Int64} (h : 0 < b) : (a ^^^ b < 0) ↔ a < 0 := by
  rw [q_neg64, q_neg64, Int64.toBitVec_xor, BitVec.msb_xor]
  have hb : b.toBitVec.msb = false := by
    cases h9 : b.toBitVec.msb with
    | false => rfl
    | true =>
      have h1 := (q_neg64 b).mpr h9
      rw [Int64.lt_iff_toInt_lt] at h h1
      omega
  rw [hb, Bool.xor_false]
theorem q_floorDiv {a b : Int64} (h : 0 < b) : pf_J9_floorDiv_f86c9 a b s l x y = some (q_fd a b, s, l, x, y) := by
  have h0 : ¬ b = 0 := by
    intro e
    rw [e, Int64.lt_iff_toInt_lt] at h
    exact Int.lt_irrefl _ h
  unfold pf_J9_floorDiv_f86c9 pl_J9_floorDiv_f86c9_27 q_fd pj_reml
  rw [q_dl h0]
  have e1 : (a / b * b = a) ↔ (a - a / b * b = 0) := by
    rw [← Int64.toInt_inj, ← Int64.toInt_inj, Int64.toInt_sub]
    have h1 := a.toInt_lt
    have h2 := a.le_toInt
    have h3 := (a / b * b).toInt_lt
    have h4 := (a / b * b).le_toInt
    constructor
    · intro e
      rw [e, Int.sub_self]
      rfl
    · intro e
      have e : (a.toInt - (a / b * b).toInt).bmod (2 ^ 64) = 0 := e
      rw [Int.bmod_def] at e
      omega
  by_cases c1 : a < 0
  · rw [if_pos ((q_xor64 h).mpr c1)]
    by_cases c2 : a / b * b = a
    · rw [if_pos c2, if_pos (e1.mp c2)]
    · rw [if_neg c2, if_neg (fun q => c2 (e1.mpr q)), if_pos c1]
  · rw [if_neg (fun q => c1 ((q_xor64 h).mp q)), if_neg c1]
    split <;> rfl
theorem q_isIn (v lo hi : Int64) : pf_X12_isIn v lo hi s l x y = some (if v < lo then 0 else if hi < v then 0 else 1, s, l, x, y) := by
  unfold pf_X12_isIn
  split
  · rfl
  · split <;> rfl
theorem q_bit (a : Int32) : pf_X11_bit a s l x y = some (if a = 0 then 0 else 1, s, l, x, y) := by
  unfold pf_X11_bit
  split <;> rfl
theorem q_min (a b : Int32) : pf_J9_min_7cf53 a b s l x y = some (if b < a then b else a, s, l, x, y) := by
  unfold pf_J9_min_7cf53
  split <;> rfl
theorem q_max (a b : Int32) : pf_J9_max_7cf53 a b s l x y = some (if a < b then b else a, s, l, x, y) := by
  unfold pf_J9_max_7cf53
  split <;> rfl
theorem q_minL (a b : Int64) : pf_J9_min_f86c9 a b s l x y = some (if b < a then b else a, s, l, x, y) := by
  unfold pf_J9_min_f86c9
  split <;> rfl
theorem q_maxL (a b : Int64) : pf_J9_max_f86c9 a b s l x y = some (if a < b then b else a, s, l, x, y) := by
  unfold pf_J9_max_f86c9
  split <;> rfl
theorem q_abs (a : Int32) : pf_J9_abs_0f7a4 a s l x y = some (if a < 0 then -a else a, s, l, x, y) := by
  unfold pf_J9_abs_0f7a4
  split <;> rfl
theorem q_fdI {a b : Int64} (h : 0 < b.toInt) : (q_fd a b).toInt = a.toInt / b.toInt := by
  have hb : b ≠ -1 := by
    intro e
    rw [e] at h
    exact absurd h (by decide)
  have e1 := Int64.toInt_div_of_ne_right a b hb
  have e2 : a.toInt.tdiv b.toInt = a.toInt / b.toInt + if 0 ≤ a.toInt ∨ b.toInt ∣ a.toInt then 0 else Int.sign b.toInt := Int.tdiv_eq_ediv
  rw [Int.sign_eq_one_of_pos h] at e2
  have d1 := Int.mul_ediv_add_emod a.toInt b.toInt
  have d2 := Int.emod_nonneg a.toInt (b := b.toInt) (by omega)
  have d3 := Int.emod_lt_of_pos a.toInt h
  have a1 : a.toInt < 9223372036854775808 := a.toInt_lt
  have a2 : -9223372036854775808 ≤ a.toInt := a.le_toInt
  have n0 : a < 0 ↔ a.toInt < 0 := Int64.lt_iff_toInt_lt
  have z0 : pj_reml a b = 0 ↔ (pj_reml a b).toInt = 0 := Int64.toInt_inj.symm
  by_cases c : 0 ≤ a.toInt ∨ b.toInt ∣ a.toInt
  · rw [if_pos c, Int.add_zero] at e2
    rw [e2] at e1
    have p1 : (a / b).toInt * b.toInt = a.toInt - a.toInt % b.toInt := by
      rw [e1, Int.mul_comm]
      omega
    have p0 : 0 ≤ a.toInt ∨ a.toInt % b.toInt = 0 := c.imp id (fun q => Int.emod_eq_zero_of_dvd q)
    have q0 : 0 ≤ a.toInt → a.toInt % b.toInt ≤ a.toInt := fun q => by
      have := Int.mul_nonneg (Int.le_of_lt h) (Int.ediv_nonneg q (Int.le_of_lt h))
      omega
    have p2 := q_mulL (a := a / b) (b := b) (by rw [p1]; omega) (by rw [p1]; omega)
    have p3 : (pj_reml a b).toInt = a.toInt % b.toInt := by
      unfold pj_reml
      rw [q_subL (by rw [p2, p1]; omega) (by rw [p2, p1]; omega), p2, p1]
      omega
    unfold q_fd
    split
    · exact e1
    · rename_i nz
      rw [z0, p3] at nz
      rw [if_neg (by rw [n0]; omega)]
      exact e1
  · have c1 : ¬ 0 ≤ a.toInt := fun q => c (Or.inl q)
    have c2 : ¬ a.toInt % b.toInt = 0 := fun q => c (Or.inr (Int.dvd_of_emod_eq_zero q))
    rw [if_neg c] at e2
    rw [e2] at e1
    have p1 : (a / b).toInt * b.toInt = a.toInt - a.toInt % b.toInt + b.toInt := by
      rw [e1, Int.add_mul, Int.one_mul, Int.mul_comm]
      omega
    have p4 : (a / b).toInt * b.toInt ≤ 0 := by
      have : a.toInt / b.toInt < 0 := by
        rcases Int.lt_or_le (a.toInt / b.toInt) 0 with q | q
        · exact q
        · have := (Int.ediv_nonneg_iff_of_pos h).mp q
          omega
      exact Int.mul_nonpos_of_nonpos_of_nonneg (by omega) (Int.le_of_lt h)
    have p2 := q_mulL (a := a / b) (b := b) (by rw [p1]; omega) (by omega)
    have p3 : (pj_reml a b).toInt = a.toInt % b.toInt - b.toInt := by
      unfold pj_reml
      rw [q_subL (by rw [p2, p1]; omega) (by rw [p2, p1]; omega), p2, p1]
      omega
    unfold q_fd
    rw [if_neg (by rw [z0, p3]; omega), if_pos (by rw [n0]; omega)]
    have b9 := (a / b).toInt_lt
    have b8 := (a / b).le_toInt
    have o1 : (1 : Int64).toInt = 1 := by decide
    have m0 : a.toInt ≤ a.toInt / b.toInt := by
      have : a.toInt * b.toInt ≤ a.toInt := by
        have := Int.mul_nonpos_of_nonpos_of_nonneg (a := a.toInt) (b := b.toInt - 1) (by omega) (by omega)
        rw [Int.mul_sub, Int.mul_one] at this
        omega
      exact Int.le_ediv_of_mul_le h this
    rw [q_subL (by rw [o1, e1]; omega) (by rw [o1]; omega), o1, e1]
    omega
end QM

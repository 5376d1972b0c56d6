/-! PURE: the face: rows kept, the buttons -/
section QPR
variable {s x u s' x' u' : Nat → Int32} {l y v l' y' v' : Nat → Int64} {D E W : Int} {fu f k n c : Nat} {t : Int64} {a b d e : Int32}
theorem q_F_row (hV : q_V k s l x y u v) (h1 : ¬ a < 0) (h2 : a < x 27) (h3 : ¬ b < 0) (h4 : ¬ 2 < b) : q_Fa (k + 1) (pf_X11_row a b s l x y) (pf_X12_row a b s l u v) := by
  obtain ⟨r1, r2, r3, r4⟩ := hV.1.2.2.2.2.2.2.2.2.1
  have tl := hV.1.2.2.1.2.2.2.2
  have q2 : pf_X12_isIn b.toInt64 0 2 s l u v = some (if b < 0 then 0 else if 2 < b then 0 else 1, s, l, u, v) := q_isI b 0 2
  have o128 : (128 : Int64).toInt = 128 := rfl
  have o1 : (1 : Int64).toInt = 1 := rfl
  have o : (0 : Int32).toInt = 0 := rfl
  have kI : (if v 30 < 128 then v 30 else 128 : Int64).toInt = (x 27).toInt := by
    rw [r3]
    by_cases c : v 30 < 128
    · have c1 := c
      rw [Int64.lt_iff_toInt_lt, o128] at c1
      rw [if_pos c, if_pos c1]
    · have c1 := c
      rw [Int64.lt_iff_toInt_lt, o128] at c1
      rw [if_neg c, if_neg c1]; rfl
  have x27 : 0 ≤ (x 27).toInt ∧ (x 27).toInt ≤ 128 ∧ (x 27).toInt ≤ (v 30).toInt := by rw [r3]; split <;> omega
  have av : 0 ≤ a.toInt ∧ a.toInt < (x 27).toInt := by
    rw [Int32.lt_iff_toInt_lt] at h1 h2
    rw [o] at h1
    omega
  have aI : a.toInt64.toInt = a.toInt := Int32.toInt_toInt64 a
  have e1 : (if a < 0 then (0 : Int32) else if (if v 30 < 128 then v 30 else 128) - 1 < a.toInt64 then 0 else 1) = 1 := by
    rw [if_neg h1, if_neg]
    rw [Int64.lt_iff_toInt_lt, q_subL (by rw [kI, o1]; omega) (by rw [kI, o1]; omega), kI, o1, aI]
    omega
  have x28 : 0 ≤ (x 28).toInt ∧ (x 28).toInt < 128 := by rw [r4]; omega
  have s1 : (x 28 + a).toInt = (x 28).toInt + a.toInt := q_add (by omega) (by omega)
  have s2 : ((v 30 - (if v 30 < 128 then v 30 else 128)) + a.toInt64).toInt = (v 30).toInt - (x 27).toInt + a.toInt := by
    have z : (v 30 - (if v 30 < 128 then v 30 else 128)).toInt = (v 30).toInt - (x 27).toInt := by rw [q_subL (by rw [kI]; omega) (by rw [kI]; omega), kI]
    rw [q_addL (by rw [z, aI]; omega) (by rw [z, aI]; omega), z, aI]
  have i1 := q_rmI (z := x 28 + a) (n := 128) (by omega) (by decide)
  have i2 := q_rmlI (z := (v 30 - (if v 30 < 128 then v 30 else 128)) + a.toInt64) (n := 128) (by rw [s2]; omega) (by decide)
  have o32 : (128 : Int32).toInt = 128 := rfl
  rw [s1, o32] at i1
  rw [s2, o128] at i2
  have same : (pj_reml ((v 30 - (if v 30 < 128 then v 30 else 128)) + a.toInt64) 128).toInt32 = pj_rem (x 28 + a) 128 := by
    rw [← Int32.toInt_inj, q_32 (by rw [i2]; omega) (by rw [i2]; omega), i1, i2]
    omega
  unfold pf_X12_row pl_X12_row_33
  rw [q_rows, q_b, q_isInL, q_b, e1, if_neg q_n10, q2, q_b, q_in1 h3 h4, if_neg q_n10, if_neg q_l00, q_rows, q_b, same]
  unfold pf_X11_row
  rw [if_neg h1, if_pos h2, if_neg h3, if_neg h4]
  have j1 : 0 ≤ (pj_rem (x 28 + a) 128).toInt ∧ (pj_rem (x 28 + a) 128).toInt < 128 := by rw [i1]; omega
  obtain ⟨i, hi, ei⟩ : ∃ i : Nat, i < 128 ∧ pj_rem (x 28 + a) 128 = Int32.ofNat i := ⟨(pj_rem (x 28 + a) 128).toInt.toNat, by omega, by rw [← Int32.toInt_inj, q_onI (by omega)]; omega⟩
  rw [ei]
  obtain ⟨j, hj, rfl⟩ := q_in2 h3 h4
  have em : (3 : Int32) * Int32.ofNat i + Int32.ofNat j = Int32.ofNat (3 * i + j) := by
    show Int32.ofNat 3 * Int32.ofNat i + Int32.ofNat j = _
    rw [← Int32.ofNat_mul, ← Int32.ofNat_add]
  rw [em, q_g hj (by omega), q_onC (by omega), q_r hj, q_g hi (by omega), q_onC (by omega), q_g (by omega) (by omega), q_onC (by omega), show 4000 + (3 * i + j) = 4000 + j + 3 * i by omega]
  exact q_Fa_s _ s rfl rfl (q_V_s hV)
theorem q_F_row0 (hV : q_V k s l x y u v) (h : (a < 0 ∨ ¬ a < x 27) ∨ (b < 0 ∨ 2 < b)) : q_Rf (k + 1) 1 s l x y (pf_X12_row a b s l u v) := by
  obtain ⟨r1, r2, r3, r4⟩ := hV.1.2.2.2.2.2.2.2.2.1
  have q2 : pf_X12_isIn b.toInt64 0 2 s l u v = some (if b < 0 then 0 else if 2 < b then 0 else 1, s, l, u, v) := q_isI b 0 2
  have o128 : (128 : Int64).toInt = 128 := rfl
  have o1 : (1 : Int64).toInt = 1 := rfl
  have o : (0 : Int32).toInt = 0 := rfl
  have kI : (if v 30 < 128 then v 30 else 128 : Int64).toInt = (x 27).toInt := by
    rw [r3]
    by_cases c : v 30 < 128
    · have c1 := c
      rw [Int64.lt_iff_toInt_lt, o128] at c1
      rw [if_pos c, if_pos c1]
    · have c1 := c
      rw [Int64.lt_iff_toInt_lt, o128] at c1
      rw [if_neg c, if_neg c1]; rfl
  have x27 : 0 ≤ (x 27).toInt ∧ (x 27).toInt ≤ 128 := by rw [r3]; split <;> omega
  have aI : a.toInt64.toInt = a.toInt := Int32.toInt_toInt64 a
  unfold pf_X12_row pl_X12_row_28 pl_X12_row_33
  rw [q_rows, q_b, q_isInL, q_b, if_pos q_l01]
  by_cases c : (if a < 0 then (0 : Int32) else if (if v 30 < 128 then v 30 else 128) - 1 < a.toInt64 then 0 else 1) = 0
  · rw [if_pos c]
    exact q_Rf_s 0 1 rfl hV
  · have h' := h.resolve_left (fun z => c (by
      by_cases d : a < 0
      · rw [if_pos d]
      · rw [if_neg d, if_pos]
        have z := z.resolve_left d
        rw [Int32.lt_iff_toInt_lt] at z
        rw [Int64.lt_iff_toInt_lt, q_subL (by rw [kI, o1]; omega) (by rw [kI, o1]; omega), kI, o1, aI]
        omega))
    rw [if_neg c, q2, q_b, q_in0 h', if_pos rfl]
    exact q_Rf_s 0 1 rfl hV
end QPR

/-! PURE: fuel and spark of a PLANNING -/
section QFU
variable {s x u s' x' u' : Nat → Int32} {l y v l' y' v' : Nat → Int64} {D E W : Int} {fu k n : Nat}
theorem q_clG {a : Int64} {lo hi : Int32} (h : lo.toInt ≤ hi.toInt) : lo.toInt ≤ (q_cl a lo hi).toInt ∧ (q_cl a lo hi).toInt ≤ hi.toInt := by
  unfold q_cl
  by_cases c : a < lo.toInt64
  · rw [if_pos c]; omega
  · rw [if_neg c]
    by_cases d : hi.toInt64 < a
    · rw [if_pos d]; omega
    · rw [if_neg d]
      rw [Int64.lt_iff_toInt_lt, Int32.toInt_toInt64] at c d
      have := Int32.toInt_lt hi
      have := Int32.le_toInt lo
      rw [q_32 (by omega) (by omega)]
      omega
/-- the fuel, as both reckon it -/
def q_fuv (r1 r2 r7 : Int32) (s x : Nat → Int32) : Int32 :=
  q_cl (if 0 < q_fd (q_fd (q_fd (r1.toInt64 * r2.toInt64) 1000 * (1000 + s 75).toInt64) 1000 * ((1000 + s 43) + s (9000 + (q_ca (x 5) (s 34004)).toNatClampNeg)).toInt64) 1000 then q_fd (q_fd (q_fd (r1.toInt64 * r2.toInt64) 1000 * (1000 + s 75).toInt64) 1000 * ((1000 + s 43) + s (9000 + (q_ca (x 5) (s 34004)).toNatClampNeg)).toInt64) 1000 + r7.toInt64 else q_fd (q_fd (q_fd (r1.toInt64 * r2.toInt64) 1000 * (1000 + s 75).toInt64) 1000 * ((1000 + s 43) + s (9000 + (q_ca (x 5) (s 34004)).toNatClampNeg)).toInt64) 1000) 0 25000
theorem q_gI {A : Type} {a : Int32} {n : Nat} {k : Option A} (h1 : 0 ≤ a.toInt) (h2 : a.toInt < n) (hn : n < 2147483648) : pj_g a n k = k := by
  have e : a = Int32.ofNat a.toInt.toNat := by
    rw [← Int32.toInt_inj, q_onI (by omega)]; omega
  rw [e, q_g (by omega) hn]
theorem q_fuelP (hI : q_I D E W s l x y u v) : ∃ r, pf_X11_fuelNow s l x y = some (r, s, l, x, y) ∧ pf_X12_fuelNow (x 5) s l u v = some (r, s, l, u, v) ∧ 0 ≤ r.toInt ∧ r.toInt ≤ 25000 := by
  have hr := hI.1
  have hL := hI.2.1
  have hw := hI.2.2.2.1
  obtain ⟨r1, c1, d1, -⟩ := q_mapP (s := s) (l := l) (x := x) (y := y) (u := u) (v := v) (m := 0) (by omega) hL hr (x 5) (s 34004)
  obtain ⟨n2, l2⟩ := hL.1 10 (by omega)
  obtain ⟨n3, l3⟩ := hL.1 11 (by omega)
  obtain ⟨r2, c2, d2, -⟩ := q_lineValue (l := l) (x := x) (y := y) (u := u) (v := v) (by omega) (by omega) l2 (s 34005)
  obtain ⟨r7, c7, d7, -⟩ := q_lineValue (l := l) (x := x) (y := y) (u := u) (v := v) (by omega) (by omega) l3 (s 34008)
  have c1 : pf_X4_mapValue 0 (x 5) (s 34004) s l x y = some (r1, s, l, x, y) := c1
  have d1 : pf_X12_mapValue 0 (x 5) (s 34004) s l u v = some (r1, s, l, u, v) := d1
  have c2 : pf_X7_lineValue 10 (s 34005) s l x y = some (r2, s, l, x, y) := c2
  have d2 : pf_X12_lineValue 10 (s 34005) s l u v = some (r2, s, l, u, v) := d2
  have c7 : pf_X7_lineValue 11 (s 34008) s l x y = some (r7, s, l, x, y) := c7
  have d7 : pf_X12_lineValue 11 (s 34008) s l u v = some (r7, s, l, u, v) := d7
  have p1000 : (0 : Int64) < 1000 := by decide
  have z1000 : ¬ (1000 : Int64) = 0 := by decide
  have r75 := q_R75 hr
  have r43 : -250 ≤ (s 43).toInt ∧ (s 43).toInt ≤ 250 := hr 43
  have r9 : ∀ j, j < 1000 → -100 ≤ (s (9000 + j)).toInt ∧ (s (9000 + j)).toInt ≤ 100 := by
    intro j hj
    have z := hr (9000 + j)
    have g : q_rg (9000 + j) = (-100, 100) := by
      unfold q_rg
      rw [show (9000 + j) / 1000 = 9 by omega]
      rfl
    rw [g] at z; exact z
  have hx5 := q_x5 hw
  have cv := q_caV (x 5) (s 34004) hx5.1
  have cl : (q_ca (x 5) (s 34004)).toNatClampNeg < 1000 := by
    have : (q_ca (x 5) (s 34004)).toNatClampNeg = (q_ca (x 5) (s 34004)).toInt.toNat := rfl
    omega
  have r9 := r9 _ cl
  have o : (1000 : Int32).toInt = 1000 := rfl
  have e1 : (1000 : Int64) + (s 75).toInt64 = (1000 + s 75).toInt64 := q_add64 (a := 1000) (by rw [o]; omega) (by rw [o]; omega)
  have e3 : (1000 + s 43).toInt = 1000 + (s 43).toInt := by rw [q_add (by rw [o]; omega) (by rw [o]; omega), o]
  have e2 : (1000 : Int64) + (s 43).toInt64 + (s (9000 + (q_ca (x 5) (s 34004)).toNatClampNeg)).toInt64 = ((1000 + s 43) + s (9000 + (q_ca (x 5) (s 34004)).toNatClampNeg)).toInt64 := by
    have a : (1000 : Int64) + (s 43).toInt64 = (1000 + s 43).toInt64 := q_add64 (a := 1000) (by rw [o]; omega) (by rw [o]; omega)
    rw [a, q_add64 (by rw [e3]; omega) (by rw [e3]; omega)]
  have cl0 : ∀ b : Int64, (q_ct b 0 25000).toInt32 = q_cl b 0 25000 := fun b => q_cut_cl b 0 25000
  have R : pf_X12_fuelNow (x 5) s l u v = pl_X12_fuelNow_109 (if 0 < q_fd (q_fd (q_fd (r1.toInt64 * r2.toInt64) 1000 * (1000 + s 75).toInt64) 1000 * ((1000 + s 43) + s (9000 + (q_ca (x 5) (s 34004)).toNatClampNeg)).toInt64) 1000 then q_fd (q_fd (q_fd (r1.toInt64 * r2.toInt64) 1000 * (1000 + s 75).toInt64) 1000 * ((1000 + s 43) + s (9000 + (q_ca (x 5) (s 34004)).toNatClampNeg)).toInt64) 1000 + r7.toInt64 else q_fd (q_fd (q_fd (r1.toInt64 * r2.toInt64) 1000 * (1000 + s 75).toInt64) 1000 * ((1000 + s 43) + s (9000 + (q_ca (x 5) (s 34004)).toNatClampNeg)).toInt64) 1000) s l u v := by
    unfold pf_X12_fuelNow
    rw [d1, q_b, d2, q_b, q_down z1000, q_b, q_down z1000, q_b, q_cellR hw rfl rfl, q_b, q_gI cv.1 (by omega) (by omega), q_down z1000, q_b, e1, e2]
    generalize q_fd (q_fd (q_fd (r1.toInt64 * r2.toInt64) 1000 * (1000 + s 75).toInt64) 1000 * ((1000 + s 43) + s (9000 + (q_ca (x 5) (s 34004)).toNatClampNeg)).toInt64) 1000 = b
    by_cases c : 0 < b
    · rw [if_pos c, if_pos c, d7, q_b]
    · rw [if_neg c, if_neg c]
  have C : s 28 = 0 → s 36 = 0 → s 13 = 0 → pf_X11_fuelNow s l x y = some (q_fuv r1 r2 r7 s x, s, l, x, y) := by
    intro a b c
    unfold pf_X11_fuelNow pl_X11_fuelNow_170 q_fuv
    rw [if_pos a, if_pos b, if_pos c, c1, q_b, c2, q_b, q_floorDiv p1000, q_b, q_floorDiv p1000, q_b, q_cellC, q_b, q_gI cv.1 (by omega) (by omega), q_floorDiv p1000, q_b]
    generalize q_fd (q_fd (q_fd (r1.toInt64 * r2.toInt64) 1000 * (1000 + s 75).toInt64) 1000 * ((1000 + s 43) + s (9000 + (q_ca (x 5) (s 34004)).toNatClampNeg)).toInt64) 1000 = b
    by_cases c : 0 < b
    · rw [if_pos c, if_pos c, c7, q_b, q_clip, q_b]
    · rw [if_neg c, if_neg c, q_clip, q_b]
  by_cases a : s 28 = 0
  · by_cases b : s 36 = 0
    · by_cases c : s 13 = 0
      · refine ⟨_, C a b c, ?_, ?_⟩
        · rw [R]
          unfold pl_X12_fuelNow_109 q_fuv
          rw [if_pos a, if_pos b, if_pos c, q_cut, q_b, cl0]
        · unfold q_fuv
          exact q_clG (lo := 0) (hi := 25000) (by decide)
      · refine ⟨0, ?_, ?_, by decide, by decide⟩
        · unfold pf_X11_fuelNow; rw [if_pos a, if_pos b, if_neg c]
        · rw [R]; unfold pl_X12_fuelNow_109 pl_X12_fuelNow_131; rw [if_pos a, if_pos b, if_neg c]
    · refine ⟨0, ?_, ?_, by decide, by decide⟩
      · unfold pf_X11_fuelNow; rw [if_pos a, if_neg b]
      · rw [R]; unfold pl_X12_fuelNow_109 pl_X12_fuelNow_131; rw [if_pos a, if_neg b]
  · refine ⟨0, ?_, ?_, by decide, by decide⟩
    · unfold pf_X11_fuelNow; rw [if_neg a]
    · rw [R]; unfold pl_X12_fuelNow_109 pl_X12_fuelNow_131; rw [if_neg a]
end QFU

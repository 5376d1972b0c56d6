/-! PURE: MAPS -/
/-- the greatest place (2 at most) whose point isn't above a -/
def q_ax (A : Nat → Int32) (a : Int32) : Nat := if a < A 2 then (if a < A 1 then 0 else 1) else 2
/-- an axis rises from 0 to 10000 -/
def q_isAx (A : Nat → Int32) : Prop := 0 ≤ (A 0).toInt ∧ (A 0).toInt < (A 1).toInt ∧ (A 1).toInt < (A 2).toInt ∧ (A 2).toInt < (A 3).toInt ∧ (A 3).toInt ≤ 10000
/-- VALUE, with the numbers cut to the axes and their places -/
def q_mv (A C Z : Nat → Int32) (a c : Int32) (i j : Nat) : Int32 := (q_fd ((((Z (4 * i + j)).toInt64 * (A (i + 1) - a).toInt64 * (C (j + 1) - c).toInt64 + (Z (4 * i + j + 4)).toInt64 * (a - A i).toInt64 * (C (j + 1) - c).toInt64) + (Z (4 * i + j + 1)).toInt64 * (A (i + 1) - a).toInt64 * (c - C j).toInt64) + (Z (4 * i + j + 5)).toInt64 * (a - A i).toInt64 * (c - C j).toInt64) (((a - A i).toInt64 + (A (i + 1) - a).toInt64) * ((c - C j).toInt64 + (C (j + 1) - c).toInt64))).toInt32
section QMP
variable {s x u : Nat → Int32} {l y v : Nat → Int64}
theorem q_clI {a : Int32} {lo hi : Int32} (h : lo.toInt ≤ hi.toInt) : lo.toInt ≤ (q_cl a.toInt64 lo hi).toInt ∧ (q_cl a.toInt64 lo hi).toInt ≤ hi.toInt := by
  unfold q_cl
  split
  · exact ⟨Int.le_refl _, h⟩
  · rename_i c1
    split
    · exact ⟨h, Int.le_refl _⟩
    · rename_i c2
      rw [Int64.lt_iff_toInt_lt, Int32.toInt_toInt64, Int32.toInt_toInt64] at c1 c2
      rw [Int32.toInt32_toInt64]
      omega
/-- where a, cut to the axis, lies -/
theorem q_seg {A : Nat → Int32} (h : q_isAx A) {a : Int32} (h0 : (A 0).toInt ≤ a.toInt) (h3 : a.toInt ≤ (A 3).toInt) : (A (q_ax A a)).toInt ≤ a.toInt ∧ a.toInt ≤ (A (q_ax A a + 1)).toInt ∧ (A (q_ax A a)).toInt < (A (q_ax A a + 1)).toInt ∧ 0 ≤ (A (q_ax A a)).toInt ∧ (A (q_ax A a + 1)).toInt ≤ 10000 := by
  obtain ⟨a1, a2, a3, a4, a5⟩ := h
  unfold q_ax
  split
  · rename_i c1
    rw [Int32.lt_iff_toInt_lt] at c1
    split
    · rename_i c2
      rw [Int32.lt_iff_toInt_lt] at c2
      exact ⟨h0, by show a.toInt ≤ (A 1).toInt; omega, a2, a1, by show (A 1).toInt ≤ 10000; omega⟩
    · rename_i c2
      rw [Int32.lt_iff_toInt_lt] at c2
      exact ⟨by omega, by show a.toInt ≤ (A 2).toInt; omega, a3, by omega, by show (A 2).toInt ≤ 10000; omega⟩
  · rename_i c1
    rw [Int32.lt_iff_toInt_lt] at c1
    exact ⟨by omega, h3, a4, by omega, a5⟩
theorem q_span {p a q : Int32} (h1 : p.toInt ≤ a.toInt) (h2 : a.toInt ≤ q.toInt) (h3 : 0 ≤ p.toInt) (h4 : q.toInt ≤ 10000) : ((a - p).toInt64 + (q - a).toInt64).toInt = q.toInt - p.toInt ∧ (a - p).toInt64.toInt = a.toInt - p.toInt ∧ (q - a).toInt64.toInt = q.toInt - a.toInt := by
  have e1 : (a - p).toInt64.toInt = a.toInt - p.toInt := by rw [Int32.toInt_toInt64, q_sub (by omega) (by omega)]
  have e2 : (q - a).toInt64.toInt = q.toInt - a.toInt := by rw [Int32.toInt_toInt64, q_sub (by omega) (by omega)]
  refine ⟨?_, e1, e2⟩
  rw [q_addL (by rw [e1, e2]; omega) (by rw [e1, e2]; omega), e1, e2]
  omega
theorem q_area {p a q p' c q' : Int32} (h1 : p.toInt ≤ a.toInt) (h2 : a.toInt ≤ q.toInt) (h5 : p.toInt < q.toInt) (h3 : 0 ≤ p.toInt) (h4 : q.toInt ≤ 10000) (k1 : p'.toInt ≤ c.toInt) (k2 : c.toInt ≤ q'.toInt) (k5 : p'.toInt < q'.toInt) (k3 : 0 ≤ p'.toInt) (k4 : q'.toInt ≤ 10000) : 0 < ((a - p).toInt64 + (q - a).toInt64) * ((c - p').toInt64 + (q' - c).toInt64) := by
  obtain ⟨e1, -, -⟩ := q_span h1 h2 h3 h4
  obtain ⟨e2, -, -⟩ := q_span k1 k2 k3 k4
  have m1 := Int.mul_pos (a := q.toInt - p.toInt) (b := q'.toInt - p'.toInt) (by omega) (by omega)
  have m2 := Int.mul_le_mul (a := q.toInt - p.toInt) (b := q'.toInt - p'.toInt) (c := 10000) (d := 10000) (by omega) (by omega) (by omega) (by omega)
  rw [Int64.lt_iff_toInt_lt, q_mulL (by rw [e1, e2]; omega) (by rw [e1, e2]; omega), e1, e2]
  exact m1
theorem q_map119 {m : Nat} (hm : m < 2) {a c : Int32} {i j : Nat} (hi : i < 3) (hj : j < 3) (ha : 0 < ((a - s (11000 + 4 * (2 * m) + i)).toInt64 + (s (11000 + 4 * (2 * m) + (i + 1)) - a).toInt64) * ((c - s (11000 + 4 * (2 * m + 1) + j)).toInt64 + (s (11000 + 4 * (2 * m + 1) + (j + 1)) - c).toInt64)) : pl_X4_mapValue_119 (Int32.ofNat m) (2 * m) (2 * m + 1) a c (Int32.ofNat i) (Int32.ofNat j) s l x y = some (q_mv (fun k => s (11000 + 4 * (2 * m) + k)) (fun k => s (11000 + 4 * (2 * m + 1) + k)) (fun k => s (12000 + 16 * m + k)) a c i j, s, l, x, y) := by
  simp (disch := omega) only [pl_X4_mapValue_119, q_r, q_g, q_onC, q_onaL, q_onmL, q_ona]
  rw [if_pos ha, q_floorDiv ha, q_b]
  rfl
theorem q_mapC {m : Nat} (hm : m < 2) (hA : q_isAx (fun k => s (11000 + 4 * (2 * m) + k))) (hC : q_isAx (fun k => s (11000 + 4 * (2 * m + 1) + k))) (a0 c0 : Int32) : pf_X4_mapValue (Int32.ofNat m) a0 c0 s l x y = some (q_mv (fun k => s (11000 + 4 * (2 * m) + k)) (fun k => s (11000 + 4 * (2 * m + 1) + k)) (fun k => s (12000 + 16 * m + k)) (q_cl a0.toInt64 (s (11000 + 4 * (2 * m) + 0)) (s (11000 + 4 * (2 * m) + 3))) (q_cl c0.toInt64 (s (11000 + 4 * (2 * m + 1) + 0)) (s (11000 + 4 * (2 * m + 1) + 3))) (q_ax (fun k => s (11000 + 4 * (2 * m) + k)) (q_cl a0.toInt64 (s (11000 + 4 * (2 * m) + 0)) (s (11000 + 4 * (2 * m) + 3)))) (q_ax (fun k => s (11000 + 4 * (2 * m + 1) + k)) (q_cl c0.toInt64 (s (11000 + 4 * (2 * m + 1) + 0)) (s (11000 + 4 * (2 * m + 1) + 3)))), s, l, x, y) := by
  have b1 := q_clI (a := a0) (lo := s (11000 + 4 * (2 * m) + 0)) (hi := s (11000 + 4 * (2 * m) + 3)) (by obtain ⟨g1, g2, g3, g4, g5⟩ := hA; exact Int.le_of_lt (Int.lt_trans g2 (Int.lt_trans g3 g4)))
  have b2 := q_clI (a := c0) (lo := s (11000 + 4 * (2 * m + 1) + 0)) (hi := s (11000 + 4 * (2 * m + 1) + 3)) (by obtain ⟨g1, g2, g3, g4, g5⟩ := hC; exact Int.le_of_lt (Int.lt_trans g2 (Int.lt_trans g3 g4)))
  have n1 : ¬ Int32.ofNat m < 0 := by rw [show (0 : Int32) = Int32.ofNat 0 from rfl, q_onlt (by omega) (by omega)]; omega
  have n2 : ¬ 1 < Int32.ofNat m := by rw [show (1 : Int32) = Int32.ofNat 1 from rfl, q_onlt (by omega) (by omega)]; omega
  simp (disch := omega) only [pf_X4_mapValue, if_neg n1, if_neg n2, q_g, q_r, q_onC, q_onaL, q_onmL, q_clip, q_b]
  generalize q_cl a0.toInt64 (s (11000 + 4 * (2 * m) + 0)) (s (11000 + 4 * (2 * m) + 3)) = a at *
  generalize q_cl c0.toInt64 (s (11000 + 4 * (2 * m + 1) + 0)) (s (11000 + 4 * (2 * m + 1) + 3)) = c at *
  have g1 := q_seg hA b1.1 b1.2
  have g2 := q_seg hC b2.1 b2.2
  have key : ∀ i j : Nat, i < 3 → j < 3 → q_ax (fun k => s (11000 + 4 * (2 * m) + k)) a = i → q_ax (fun k => s (11000 + 4 * (2 * m + 1) + k)) c = j → pl_X4_mapValue_119 (Int32.ofNat m) (2 * m) (2 * m + 1) a c (Int32.ofNat i) (Int32.ofNat j) s l x y = some (q_mv (fun k => s (11000 + 4 * (2 * m) + k)) (fun k => s (11000 + 4 * (2 * m + 1) + k)) (fun k => s (12000 + 16 * m + k)) a c i j, s, l, x, y) := by
    intro i j hi hj e1 e2
    rw [e1] at g1
    rw [e2] at g2
    exact q_map119 hm hi hj (q_area g1.1 g1.2.1 g1.2.2.1 g1.2.2.2.1 g1.2.2.2.2 g2.1 g2.2.1 g2.2.2.1 g2.2.2.2.1 g2.2.2.2.2)
  have key90 : ∀ i : Nat, i < 3 → q_ax (fun k => s (11000 + 4 * (2 * m) + k)) a = i → pl_X4_mapValue_90 (Int32.ofNat m) (2 * m) (2 * m + 1) a c (Int32.ofNat i) s l x y = some (q_mv (fun k => s (11000 + 4 * (2 * m) + k)) (fun k => s (11000 + 4 * (2 * m + 1) + k)) (fun k => s (12000 + 16 * m + k)) a c i (q_ax (fun k => s (11000 + 4 * (2 * m + 1) + k)) c), s, l, x, y) := by
    intro i hi e1
    simp (disch := omega) only [pl_X4_mapValue_90, q_r]
    by_cases c1 : c < s (11000 + 4 * (2 * m + 1) + 2)
    · rw [if_pos c1]
      by_cases c2 : c < s (11000 + 4 * (2 * m + 1) + 1)
      · rw [if_pos c2]
        have e2 : q_ax (fun k => s (11000 + 4 * (2 * m + 1) + k)) c = 0 := by unfold q_ax; rw [if_pos c1, if_pos c2]
        rw [e2]
        exact key i 0 hi (by omega) e1 e2
      · rw [if_neg c2]
        have e2 : q_ax (fun k => s (11000 + 4 * (2 * m + 1) + k)) c = 1 := by unfold q_ax; rw [if_pos c1, if_neg c2]
        rw [e2]
        exact key i 1 hi (by omega) e1 e2
    · rw [if_neg c1]
      have e2 : q_ax (fun k => s (11000 + 4 * (2 * m + 1) + k)) c = 2 := by unfold q_ax; rw [if_neg c1]
      rw [e2]
      exact key i 2 hi (by omega) e1 e2
  by_cases c1 : a < s (11000 + 4 * (2 * m) + 2)
  · rw [if_pos c1]
    by_cases c2 : a < s (11000 + 4 * (2 * m) + 1)
    · rw [if_pos c2]
      have e1 : q_ax (fun k => s (11000 + 4 * (2 * m) + k)) a = 0 := by unfold q_ax; rw [if_pos c1, if_pos c2]
      rw [e1]
      exact key90 0 (by omega) e1
    · rw [if_neg c2]
      have e1 : q_ax (fun k => s (11000 + 4 * (2 * m) + k)) a = 1 := by unfold q_ax; rw [if_pos c1, if_neg c2]
      rw [e1]
      exact key90 1 (by omega) e1
  · rw [if_neg c1]
    have e1 : q_ax (fun k => s (11000 + 4 * (2 * m) + k)) a = 2 := by unfold q_ax; rw [if_neg c1]
    rw [e1]
    exact key90 2 (by omega) e1
theorem q_ax_lt (A : Nat → Int32) (a : Int32) : q_ax A a < 3 := by
  unfold q_ax
  split
  · split <;> omega
  · omega
theorem q_gb1 {fu f b k : Nat} (hb : b + 3 < 16) (hk : k ≤ 2) (a : Int32) : pl_X12_greatestBelow_2 fu (f + 1) (Int32.ofNat b) a (Int32.ofNat k) s l u v = if k < 2 then (if a < s (11000 + (b + k + 1)) then some (Int32.ofNat k, s, l, u, v) else pl_X12_greatestBelow_2 fu f (Int32.ofNat b) a (Int32.ofNat (k + 1)) s l u v) else some (Int32.ofNat k, s, l, u, v) := by
  have e : (Int32.ofNat k < (2 : Int32)) = (k < 2) := q_onltL (by omega) (by omega)
  rw [pl_X12_greatestBelow_2]
  simp only [e]
  by_cases c : k < 2
  · simp (disch := omega) only [if_pos c, q_ona, q_onaL, q_g, q_onC]
  · simp only [if_neg c]
theorem q_gb {b : Nat} (hb : b + 3 < 16) (a : Int32) (h : (s (11000 + b + 1)).toInt < (s (11000 + b + 2)).toInt) : pf_X12_greatestBelow (Int32.ofNat b) a s l u v = some (Int32.ofNat (q_ax (fun k => s (11000 + b + k)) a), s, l, u, v) := by
  have g0 := q_gb1 (s := s) (l := l) (u := u) (v := v) (fu := 1000) (f := 999) (k := 0) hb (by omega) a
  have g1 := q_gb1 (s := s) (l := l) (u := u) (v := v) (fu := 1000) (f := 998) (k := 1) hb (by omega) a
  have g2 := q_gb1 (s := s) (l := l) (u := u) (v := v) (fu := 1000) (f := 997) (k := 2) hb (by omega) a
  rw [if_pos (show (0 : Nat) < 2 by omega)] at g0
  rw [if_pos (show (1 : Nat) < 2 by omega)] at g1
  rw [if_neg (show ¬ (2 : Nat) < 2 by omega)] at g2
  have e1 : 11000 + (b + 0 + 1) = 11000 + b + 1 := by omega
  have e2 : 11000 + (b + 1 + 1) = 11000 + b + 2 := by omega
  rw [e1] at g0
  rw [e2] at g1
  have g0 : pf_X12_greatestBelow (Int32.ofNat b) a s l u v = if a < s (11000 + b + 1) then some (Int32.ofNat 0, s, l, u, v) else pl_X12_greatestBelow_2 1000 (998 + 1) (Int32.ofNat b) a (Int32.ofNat 1) s l u v := g0
  have g1 : pl_X12_greatestBelow_2 1000 (998 + 1) (Int32.ofNat b) a (Int32.ofNat 1) s l u v = if a < s (11000 + b + 2) then some (Int32.ofNat 1, s, l, u, v) else pl_X12_greatestBelow_2 1000 (997 + 1) (Int32.ofNat b) a (Int32.ofNat 2) s l u v := g1
  rw [g0, g1, g2]
  unfold q_ax
  by_cases c1 : a < s (11000 + b + 1)
  · have c2 : a < s (11000 + b + 2) := by
      rw [Int32.lt_iff_toInt_lt] at c1 ⊢
      omega
    rw [if_pos c1, if_pos c2, if_pos c1]
  · rw [if_neg c1]
    by_cases c2 : a < s (11000 + b + 2)
    · rw [if_pos c2, if_pos c2, if_neg c1]
    · rw [if_neg c2, if_neg c2]
theorem q_mapR {m : Nat} (hm : m < 2) (hA : q_isAx (fun k => s (11000 + 8 * m + k))) (hC : q_isAx (fun k => s (11000 + (8 * m + 4) + k))) (a0 c0 : Int32) : pf_X12_mapValue (Int32.ofNat m) a0 c0 s l u v = some (q_mv (fun k => s (11000 + 8 * m + k)) (fun k => s (11000 + (8 * m + 4) + k)) (fun k => s (12000 + 16 * m + k)) (q_cl a0.toInt64 (s (11000 + 8 * m)) (s (11000 + (8 * m + 3)))) (q_cl c0.toInt64 (s (11000 + (8 * m + 4))) (s (11000 + (8 * m + 4 + 3)))) (q_ax (fun k => s (11000 + 8 * m + k)) (q_cl a0.toInt64 (s (11000 + 8 * m)) (s (11000 + (8 * m + 3))))) (q_ax (fun k => s (11000 + (8 * m + 4) + k)) (q_cl c0.toInt64 (s (11000 + (8 * m + 4))) (s (11000 + (8 * m + 4 + 3))))), s, l, u, v) := by
  have b1 := q_clI (a := a0) (lo := s (11000 + 8 * m)) (hi := s (11000 + (8 * m + 3))) (by obtain ⟨g1, g2, g3, g4, g5⟩ := hA; exact Int.le_of_lt (Int.lt_trans g2 (Int.lt_trans g3 g4)))
  have b2 := q_clI (a := c0) (lo := s (11000 + (8 * m + 4))) (hi := s (11000 + (8 * m + 4 + 3))) (by obtain ⟨g1, g2, g3, g4, g5⟩ := hC; exact Int.le_of_lt (Int.lt_trans g2 (Int.lt_trans g3 g4)))
  simp (disch := omega) only [pf_X12_mapValue, q_g, q_onC, q_onaL, q_onmL, q_cut, q_b, q_cut_cl]
  generalize q_cl a0.toInt64 (s (11000 + 8 * m)) (s (11000 + (8 * m + 3))) = a at *
  generalize q_cl c0.toInt64 (s (11000 + (8 * m + 4))) (s (11000 + (8 * m + 4 + 3))) = c at *
  have g1 := q_seg hA b1.1 b1.2
  have g2 := q_seg hC b2.1 b2.2
  rw [q_gb (b := 8 * m) (by omega) a hA.2.2.1, q_b, q_gb (b := 8 * m + 4) (by omega) c hC.2.2.1, q_b]
  have i3 := q_ax_lt (fun k => s (11000 + 8 * m + k)) a
  have j3 := q_ax_lt (fun k => s (11000 + (8 * m + 4) + k)) c
  generalize q_ax (fun k => s (11000 + 8 * m + k)) a = i at *
  generalize q_ax (fun k => s (11000 + (8 * m + 4) + k)) c = j at *
  have ha := q_area g1.1 g1.2.1 g1.2.2.1 g1.2.2.2.1 g1.2.2.2.2 g2.1 g2.2.1 g2.2.2.1 g2.2.2.2.1 g2.2.2.2.2
  have hz : ¬ ((a - s (11000 + 8 * m + i)).toInt64 + (s (11000 + 8 * m + (i + 1)) - a).toInt64) * ((c - s (11000 + (8 * m + 4) + j)).toInt64 + (s (11000 + (8 * m + 4) + (j + 1)) - c).toInt64) = 0 := by
    intro e
    rw [e] at ha
    exact Int64.lt_irrefl ha
  simp (disch := omega) only [q_g, q_onC, q_onaL, q_onmL, q_ona, ← Nat.add_assoc]
  simp only [← Nat.add_assoc] at hz
  rw [q_down hz, q_b]
  unfold q_mv
  simp only [← Nat.add_assoc]
end QMP

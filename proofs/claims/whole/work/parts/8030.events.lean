/-! PURE: the LOG -/
section QE
variable {s x u : Nat → Int32} {l y v : Nat → Int64}
theorem q_tdivI {a b : Int32} (h : 0 ≤ a.toInt) (hb : 0 < b.toInt) : (a / b).toInt = a.toInt / b.toInt := by
  have h1 : b ≠ -1 := by
    intro e
    rw [e] at hb
    exact absurd hb (by decide)
  rw [Int32.toInt_div_of_ne_right a b h1, Int.tdiv_eq_ediv_of_nonneg h]
theorem q_tdivIL {a b : Int64} (h : 0 ≤ a.toInt) (hb : 0 < b.toInt) : (a / b).toInt = a.toInt / b.toInt := by
  have h1 : b ≠ -1 := by
    intro e
    rw [e] at hb
    exact absurd hb (by decide)
  rw [Int64.toInt_div_of_ne_right a b h1, Int.tdiv_eq_ediv_of_nonneg h]
theorem q_remI {a b : Int32} (h : 0 ≤ a.toInt) (hb : 0 < b.toInt) : (pj_rem a b).toInt = a.toInt % b.toInt := by
  have e1 := q_tdivI h hb
  have d1 := Int.mul_ediv_add_emod a.toInt b.toInt
  have d2 := Int.emod_nonneg a.toInt (b := b.toInt) (by omega)
  have d3 := Int.emod_lt_of_pos a.toInt hb
  have a1 : a.toInt < 2147483648 := a.toInt_lt
  have d4 : 0 ≤ b.toInt * (a.toInt / b.toInt) := Int.mul_nonneg (Int.le_of_lt hb) (Int.ediv_nonneg h (Int.le_of_lt hb))
  have p1 : (a / b).toInt * b.toInt = a.toInt - a.toInt % b.toInt := by
    rw [e1, Int.mul_comm]
    omega
  have p2 := q_mul (a := a / b) (b := b) (by rw [p1]; omega) (by rw [p1]; omega)
  unfold pj_rem
  rw [q_sub (by rw [p2, p1]; omega) (by rw [p2, p1]; omega), p2, p1]
  omega
theorem q_remIL {a b : Int64} (h : 0 ≤ a.toInt) (hb : 0 < b.toInt) : (pj_reml a b).toInt = a.toInt % b.toInt := by
  have e1 := q_tdivIL h hb
  have d1 := Int.mul_ediv_add_emod a.toInt b.toInt
  have d2 := Int.emod_nonneg a.toInt (b := b.toInt) (by omega)
  have d3 := Int.emod_lt_of_pos a.toInt hb
  have a1 : a.toInt < 9223372036854775808 := a.toInt_lt
  have d4 : 0 ≤ b.toInt * (a.toInt / b.toInt) := Int.mul_nonneg (Int.le_of_lt hb) (Int.ediv_nonneg h (Int.le_of_lt hb))
  have p1 : (a / b).toInt * b.toInt = a.toInt - a.toInt % b.toInt := by
    rw [e1, Int.mul_comm]
    omega
  have p2 := q_mulL (a := a / b) (b := b) (by rw [p1]; omega) (by rw [p1]; omega)
  unfold pj_reml
  rw [q_subL (by rw [p2, p1]; omega) (by rw [p2, p1]; omega), p2, p1]
  omega
/-- class and reference count the EDGES alike -/
def q_edge (x : Nat → Int32) (v : Nat → Int64) (n : Int) : Prop := v 3 = (x 11).toInt64 ∧ 0 ≤ (x 11).toInt ∧ (x 11).toInt ≤ n
/-- where the next EDGE is kept -/
def q_slot (x : Nat → Int32) : Nat := ((x 11).toInt % 200).toNat
theorem q_slot_lt : q_slot x < 200 := by
  unfold q_slot
  omega
theorem q_slotC {n : Int} (h : q_edge x v n) : pj_rem (x 11) 200 = Int32.ofNat (q_slot x) := by
  have e := q_remI h.2.1 (b := 200) (by decide)
  have o : (200 : Int32).toInt = 200 := by decide
  rw [o] at e
  rw [← Int32.toInt_inj, e, q_onI (by have := q_slot_lt (x := x); omega)]
  unfold q_slot
  omega
theorem q_slotR {n : Int} (h : q_edge x v n) : (pj_reml (v 3) 200).toInt32 = Int32.ofNat (q_slot x) := by
  have o : (200 : Int64).toInt = 200 := by decide
  have e := q_remIL (a := v 3) (b := 200) (by rw [h.1, Int32.toInt_toInt64]; exact h.2.1) (by decide)
  rw [o, h.1, Int32.toInt_toInt64] at e
  rw [← Int32.toInt_inj, h.1, q_32 (by rw [e]; omega) (by rw [e]; omega), e, q_onI (by have := q_slot_lt (x := x); omega)]
  unfold q_slot
  omega
theorem q_logC {n : Int} (h : q_edge x v n) (t : Int64) (k c : Int32) : pf_X6_keepEdge t k c s l x y = some ((), pj_u (pj_u s (21000 + q_slot x) k) (22000 + q_slot x) c, pj_u l (20000 + q_slot x) t, pj_u x 11 (x 11 + 1), y) := by
  have hs := q_slot_lt (x := x)
  simp (disch := omega) only [pf_X6_keepEdge, q_slotC h, q_g, q_onC]
theorem q_logR {n : Int} (h : q_edge x v n) (k c : Int32) : pf_X12_log k c s l u v = some ((), pj_u (pj_u s (21000 + q_slot x) k) (22000 + q_slot x) c, pj_u l (20000 + q_slot x) (l 93), u, pj_u v 3 (v 3 + 1)) := by
  have hs := q_slot_lt (x := x)
  simp (disch := omega) only [pf_X12_log, q_slotR h, q_g, q_onC]
theorem q_edge_up {n : Int} (h : q_edge x v n) (hn : n < 2147483647) : q_edge (pj_u x 11 (x 11 + 1)) (pj_u v 3 (v 3 + 1)) (n + 1) := by
  obtain ⟨h1, h2, h3⟩ := h
  have o : (1 : Int32).toInt = 1 := by decide
  have oL : (1 : Int64).toInt = 1 := by decide
  have e : (x 11 + 1).toInt = (x 11).toInt + 1 := by rw [q_add (by rw [o]; omega) (by rw [o]; omega), o]
  unfold q_edge
  rw [q_ua, q_ua]
  refine ⟨?_, by omega, by omega⟩
  rw [← Int64.toInt_inj, Int32.toInt_toInt64, e, h1, q_addL (by rw [oL, Int32.toInt_toInt64]; omega) (by rw [oL, Int32.toInt_toInt64]; omega), oL, Int32.toInt_toInt64]
end QE

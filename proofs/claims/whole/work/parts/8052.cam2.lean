/-! PURE: the cam's edge, reference, and the pair -/
section QD
variable {s x u : Nat → Int32} {l y v : Nat → Int64} {fu : Nat}
theorem q_camR (hr : q_R s) : pf_X12_camEdge s l u v = if s 94 = 0 then some ((), s, l, u, v) else if s 19 < 2 then some ((), s, l, u, v) else if s 19 = 3 then (if u 4 < 10 then pj_b (pf_X12_allOff (pj_u s 23 (s 23 + 1)) l u v) (fun r1 s1 l1 x1 y1 => some ((), (pj_u s1 19 2), l1, x1, y1)) else if 20 < u 4 then pj_b (pf_X12_allOff (pj_u s 23 (s 23 + 1)) l u v) (fun r1 s1 l1 x1 y1 => some ((), (pj_u s1 19 2), l1, x1, y1)) else if u 5 = 0 then some ((), pj_u (pj_u s 22 0) 25 1, l, u, v) else pj_b (pf_X12_allOff (pj_u s 23 (s 23 + 1)) l u v) (fun r1 s1 l1 x1 y1 => some ((), (pj_u s1 19 2), l1, x1, y1))) else (if u 4 < 10 then some ((), s, l, u, v) else if 20 < u 4 then some ((), s, l, u, v) else some ((), pj_u (pj_u (pj_u s 19 3) 22 0) 25 1, l, pj_u u 5 0, v)) := by
  have n1 : ¬ (1 : Int32) = 0 := by decide
  have n2 : ¬ (3 : Int32) < 2 := by decide
  have n3 : ¬ (2 : Int32) < 2 := by decide
  have n4 : ¬ (3 : Int32) = 2 := by decide
  unfold pf_X12_camEdge
  by_cases c0 : s 94 = 0
  · rw [if_pos c0, if_pos c0]
  rw [if_neg c0, if_neg c0]
  unfold pl_X12_camEdge_30 pl_X12_camEdge_31 pl_X12_camEdge_67 pl_X12_camEdge_99
  by_cases c1 : s 19 < 2
  · have c2 : ¬ s 19 = 3 := fun q => n2 (by rw [← q]; exact c1)
    have c6 : ¬ s 19 = 2 := fun q => n3 (by rw [q] at c1; exact c1)
    simp only [if_neg c2, if_neg c6, if_pos c1, ite_self]
  · by_cases c2 : s 19 = 3
    · have c6 : ¬ s 19 = 2 := fun q => n4 (by rw [← q]; exact c2.symm)
      simp only [if_pos c2, if_neg c6, if_neg c1, if_true, if_neg n1]
    · have c6 : s 19 = 2 := by
        have a := q_R19 hr
        rw [Int32.lt_iff_toInt_lt] at c1
        rw [← Int32.toInt_inj] at c2 ⊢
        have z2 : (2 : Int32).toInt = 2 := rfl
        have z3 : (3 : Int32).toInt = 3 := rfl
        omega
      simp only [if_neg c2, if_pos c6, if_neg c1, if_true, if_neg n1]
/-- ALL OFF in both: what it gives (the class's x: q_nw behind it) -/
theorem q_offs (h1 : 0 ≤ (x 11).toInt) (h2 : (x 11).toInt + 16 < 2147483647) (hv : v 3 = (x 11).toInt64) : pf_X11_allOff (pj_u (pj_u s 23 (s 23 + 1)) 19 2) l x y = some ((), pj_u (q_ao (pj_u s 23 (s 23 + 1)) l (q_nw x)).1 19 2, (q_ao (pj_u s 23 (s 23 + 1)) l (q_nw x)).2.1, (q_ao (pj_u s 23 (s 23 + 1)) l (q_nw x)).2.2, pj_u (pj_u y 8 (-1)) 9 (-1)) ∧ pj_b (pf_X12_allOff (pj_u s 23 (s 23 + 1)) l u v) (fun r1 s1 l1 x1 y1 => some ((), (pj_u s1 19 2), l1, x1, y1)) = some ((), pj_u (q_ao (pj_u s 23 (s 23 + 1)) l (q_nw x)).1 19 2, (q_ao (pj_u s 23 (s 23 + 1)) l (q_nw x)).2.1, q_fl 3000 0 8 0 (pj_u (pj_u u 7 0) 10 0), pj_u v 3 ((q_ao (pj_u s 23 (s 23 + 1)) l (q_nw x)).2.2 11).toInt64) := by
  have h3 : 0 ≤ (q_nw x 11).toInt := by rw [q_nw_11]; exact h1
  have h4 : (q_nw x 11).toInt + 16 < 2147483647 := by rw [q_nw_11]; exact h2
  have h5 : v 3 = (q_nw x 11).toInt64 := by rw [q_nw_11]; exact hv
  refine ⟨?_, ?_⟩
  · rw [q_allOffC h1 h2, q_ao_w (by omega)]
  · rw [q_allOffR h3 h4 h5, q_b]
end QD

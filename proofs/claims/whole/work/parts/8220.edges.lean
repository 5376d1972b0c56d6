/-! PURE: the face: edges, frames sent, rows kept -/
section QED
variable {s x u s' x' u' : Nat → Int32} {l y v l' y' v' : Nat → Int64} {D E W : Int} {fu f k n c : Nat} {t : Int64} {a b d e : Int32}
theorem q_rmI {z n : Int32} (h : 0 ≤ z.toInt) (hn : 0 < n.toInt) : (pj_rem z n).toInt = z.toInt % n.toInt := by
  have dv := q_divI h hn
  have l1 := Int.mul_ediv_add_emod z.toInt n.toInt
  have l2 := Int.emod_nonneg z.toInt (b := n.toInt) (by omega)
  have l3 : 0 ≤ z.toInt / n.toInt := Int.ediv_nonneg h (by omega)
  have l4 : 0 ≤ z.toInt / n.toInt * n.toInt := Int.mul_nonneg l3 (by omega)
  rw [Int.mul_comm] at l1
  have := Int32.toInt_lt z
  unfold pj_rem
  have m : (z / n * n).toInt = z.toInt / n.toInt * n.toInt := by rw [q_mul (by rw [dv]; omega) (by rw [dv]; omega), dv]
  rw [q_sub (by rw [m]; omega) (by rw [m]; omega), m]
  omega
theorem q_rmlI {z n : Int64} (h : 0 ≤ z.toInt) (hn : 0 < n.toInt) : (pj_reml z n).toInt = z.toInt % n.toInt := by
  have dv := q_divL h hn
  have l1 := Int.mul_ediv_add_emod z.toInt n.toInt
  have l2 := Int.emod_nonneg z.toInt (b := n.toInt) (by omega)
  have l3 : 0 ≤ z.toInt / n.toInt := Int.ediv_nonneg h (by omega)
  have l4 : 0 ≤ z.toInt / n.toInt * n.toInt := Int.mul_nonneg l3 (by omega)
  rw [Int.mul_comm] at l1
  have := Int64.toInt_lt z
  unfold pj_reml
  have m : (z / n * n).toInt = z.toInt / n.toInt * n.toInt := by rw [q_mulL (by rw [dv]; omega) (by rw [dv]; omega), dv]
  rw [q_subL (by rw [m]; omega) (by rw [m]; omega), m]
  omega
/-- the place in a ring of N: the class's and the reference's -/
theorem q_ring {p a N : Int32} {b N64 : Int64} (hN : N64 = N.toInt64) (h1 : 1 ≤ N.toInt) (h2 : N.toInt ≤ 1000) (hp : 0 ≤ p.toInt) (hp2 : p.toInt < 2000000000) (hb : b = p.toInt64) (ha : 0 ≤ a.toInt) (ha2 : a.toInt < N.toInt) : (pj_reml ((b - (if b < N64 then b else N64)) + a.toInt64) N64).toInt32 = pj_rem ((if 0 < p - N then p - N else 0) + a) N ∧ 0 ≤ (pj_rem ((if 0 < p - N then p - N else 0) + a) N).toInt ∧ (pj_rem ((if 0 < p - N then p - N else 0) + a) N).toInt < N.toInt ∧ 0 ≤ ((if 0 < p - N then p - N else 0) + a).toInt := by
  have o : (0 : Int32).toInt = 0 := rfl
  have o6 : (0 : Int64).toInt = 0 := rfl
  have bI : b.toInt = p.toInt := by rw [hb, Int32.toInt_toInt64]
  have nI : N64.toInt = N.toInt := by rw [hN, Int32.toInt_toInt64]
  have aI : a.toInt64.toInt = a.toInt := Int32.toInt_toInt64 a
  have e1 : (p - N).toInt = p.toInt - N.toInt := q_sub (by omega) (by omega)
  have k : ((if 0 < p - N then p - N else 0) + a).toInt = (if 0 < p.toInt - N.toInt then p.toInt - N.toInt else 0) + a.toInt := by
    by_cases c : 0 < p - N
    · have c1 := c
      rw [Int32.lt_iff_toInt_lt, o, e1] at c1
      rw [if_pos c, if_pos c1, q_add (by omega) (by omega), e1]
    · have c1 := c
      rw [Int32.lt_iff_toInt_lt, o, e1] at c1
      rw [if_neg c, if_neg c1, q_add (by omega) (by omega), o]
  have kL : ((b - (if b < N64 then b else N64)) + a.toInt64).toInt = (if 0 < p.toInt - N.toInt then p.toInt - N.toInt else 0) + a.toInt := by
    by_cases c : b < N64
    · have c1 := c
      rw [Int64.lt_iff_toInt_lt, bI, nI] at c1
      rw [if_pos c, if_neg (by omega)]
      have z : (b - b).toInt = 0 := by rw [q_subL (by omega) (by omega)]; omega
      rw [q_addL (by omega) (by omega), z, aI]
    · have c1 := c
      rw [Int64.lt_iff_toInt_lt, bI, nI] at c1
      rw [if_neg c]
      have z : (b - N64).toInt = p.toInt - N.toInt := by rw [q_subL (by omega) (by omega), bI, nI]
      rw [q_addL (by omega) (by omega), z, aI]
      by_cases c2 : 0 < p.toInt - N.toInt
      · rw [if_pos c2]
      · rw [if_neg c2]; omega
  have nn : 0 ≤ ((if 0 < p - N then p - N else 0) + a).toInt := by rw [k]; split <;> omega
  have r1 := q_rmI (z := (if 0 < p - N then p - N else 0) + a) (n := N) nn (by omega)
  have r2 := q_rmlI (z := (b - (if b < N64 then b else N64)) + a.toInt64) (n := N64) (by rw [kL]; split <;> omega) (by omega)
  rw [kL, nI, ← k, ← r1] at r2
  have m1 := Int.emod_nonneg ((if 0 < p - N then p - N else 0) + a).toInt (b := N.toInt) (by omega)
  have m2 := Int.emod_lt_of_pos ((if 0 < p - N then p - N else 0) + a).toInt (b := N.toInt) (by omega)
  rw [← r1] at m1 m2
  refine ⟨?_, m1, m2, nn⟩
  rw [← Int32.toInt_inj, q_32 (by omega) (by omega), r2]
theorem q_in2 (h1 : ¬ a < 0) (h2 : ¬ 2 < a) : ∃ j : Nat, j < 3 ∧ a = Int32.ofNat j := by
  rw [Int32.lt_iff_toInt_lt] at h1 h2
  have o : (0 : Int32).toInt = 0 := rfl
  have o7 : (2 : Int32).toInt = 2 := rfl
  exact ⟨a.toInt.toNat, by omega, by rw [← Int32.toInt_inj, q_onI (by omega)]; omega⟩
theorem q_isInL {m : Int64} : pf_X12_isIn a.toInt64 0 m s l u v = some (if a < 0 then 0 else if m < a.toInt64 then 0 else 1, s, l, u, v) := by
  rw [q_isIn]
  have e1 : (a.toInt64 < 0) ↔ a < 0 := by
    rw [Int64.lt_iff_toInt_lt, Int32.toInt_toInt64, Int32.lt_iff_toInt_lt]; exact Iff.rfl
  by_cases c : a < 0
  · rw [if_pos c, if_pos (e1.mpr c)]
  · rw [if_neg c, if_neg (fun z => c (e1.mp z))]
/-- the bound of a ring: min there, min - 1 here -/
theorem q_rb {p N : Int32} {b N64 : Int64} (hN : N64 = N.toInt64) (h1 : 1 ≤ N.toInt) (h2 : N.toInt ≤ 1000) (hp : 0 ≤ p.toInt) (hb : b = p.toInt64) : ((if b < N64 then b else N64) - 1 < a.toInt64) ↔ ¬ a < (if N < p then N else p) := by
  have bI : b.toInt = p.toInt := by rw [hb, Int32.toInt_toInt64]
  have nI : N64.toInt = N.toInt := by rw [hN, Int32.toInt_toInt64]
  have o : (1 : Int64).toInt = 1 := rfl
  have pl := Int32.toInt_lt p
  have e : (if b < N64 then b else N64).toInt = (if N < p then N else p).toInt := by
    by_cases c : b < N64
    · rw [if_pos c]
      rw [Int64.lt_iff_toInt_lt] at c
      rw [if_neg, bI]
      rw [Int32.lt_iff_toInt_lt]; omega
    · rw [if_neg c]
      rw [Int64.lt_iff_toInt_lt] at c
      by_cases d : N < p
      · rw [if_pos d, nI]
      · rw [if_neg d]
        rw [Int32.lt_iff_toInt_lt] at d
        omega
  have lo : 0 ≤ (if N < p then N else p).toInt ∧ (if N < p then N else p).toInt < 2147483648 := by split <;> omega
  rw [Int64.lt_iff_toInt_lt, Int32.toInt_toInt64, Int32.lt_iff_toInt_lt, q_subL (by rw [e, o]; omega) (by rw [e, o]; omega), e, o]
  omega
theorem q_F_edge (hV : q_V k s l x y u v) (hk : k ≤ 512) (h1 : ¬ a < 0) (h2 : a < (if 200 < x 11 then 200 else x 11)) (h3 : ¬ b < 0) (h4 : ¬ 2 < b) : q_Fa (k + 1) (pf_X11_edge a b s l x y) (pf_X12_edge a b s l u v) := by
  have c3 := hV.1.2.2.1.2.2.1
  have q2 : pf_X12_isIn b.toInt64 0 2 s l u v = some (if b < 0 then 0 else if 2 < b then 0 else 1, s, l, u, v) := q_isI b 0 2
  have o2 : (200 : Int32).toInt = 200 := rfl
  have av : 0 ≤ a.toInt ∧ a.toInt < 200 := by
    rw [Int32.lt_iff_toInt_lt] at h1 h2
    have o : (0 : Int32).toInt = 0 := rfl
    rw [o] at h1
    refine ⟨by omega, ?_⟩
    by_cases c : (200 : Int32) < x 11
    · rw [if_pos c, o2] at h2; exact h2
    · rw [if_neg c] at h2
      rw [Int32.lt_iff_toInt_lt] at c
      omega
  have rb := q_rb (a := a) (p := x 11) (N := 200) (b := v 3) (N64 := 200) rfl (by decide) (by decide) c3.2.1 c3.1
  obtain ⟨g1, g2, g3, g4⟩ := q_ring (p := x 11) (a := a) (N := 200) (b := v 3) (N64 := 200) rfl (by decide) (by decide) c3.2.1 (by omega) c3.1 av.1 av.2
  have eR : pf_X12_edge a b s l u v = pl_X12_edge_21 a b (if v 3 < 200 then v 3 else 200) s l u v := by
    unfold pf_X12_edge
    split <;> rfl
  rw [eR]
  unfold pl_X12_edge_21
  have e1 : (if a < 0 then (0 : Int32) else if (if v 3 < 200 then v 3 else 200) - 1 < a.toInt64 then 0 else 1) = 1 := by rw [if_neg h1, if_neg (fun z => rb.mp z h2)]
  rw [q_isInL, q_b, e1, if_neg q_n10, q2, q_b, q_in1 h3 h4, if_neg q_n10]
  unfold pl_X12_edge_52 pf_X11_edge pf_X6_edgeNumber
  rw [if_neg q_l00, g1, if_neg h1, q_min, q_b, if_pos h2, if_neg h3, if_neg h4, q_max, q_b, q_fmod g4 (by decide), q_b]
  generalize pj_rem ((if 0 < x 11 - 200 then x 11 - 200 else 0) + a) 200 = r at g2 g3
  rw [o2] at g3
  simp only [q_gI g2 g3 (show 200 < 2147483648 by omega)]
  obtain ⟨j, hj, rfl⟩ := q_in2 h3 h4
  have fin : ∀ r : Int64, q_Fa (k + 1) (some (r, s, l, x, y)) (some (r, s, l, pj_u u 1 0, v)) := fun r => q_Fa_s r s rfl rfl (q_V_s hV)
  match j, hj with
  | 0, _ => exact fin _
  | 1, _ => exact fin _
  | 2, _ => exact fin _
theorem q_F_edge0 (hV : q_V k s l x y u v) (h : (a < 0 ∨ ¬ a < (if 200 < x 11 then 200 else x 11)) ∨ (b < 0 ∨ 2 < b)) : q_Rf (k + 1) 1 s l x y (pf_X12_edge a b s l u v) := by
  have c3 := hV.1.2.2.1.2.2.1
  have q2 : pf_X12_isIn b.toInt64 0 2 s l u v = some (if b < 0 then 0 else if 2 < b then 0 else 1, s, l, u, v) := q_isI b 0 2
  have rb := q_rb (a := a) (p := x 11) (N := 200) (b := v 3) (N64 := 200) rfl (by decide) (by decide) c3.2.1 c3.1
  have eR : pf_X12_edge a b s l u v = pl_X12_edge_21 a b (if v 3 < 200 then v 3 else 200) s l u v := by
    unfold pf_X12_edge
    split <;> rfl
  rw [eR]
  unfold pl_X12_edge_21 pl_X12_edge_47 pl_X12_edge_52
  rw [q_isInL, q_b, if_pos q_l01]
  by_cases c : (if a < 0 then (0 : Int32) else if (if v 3 < 200 then v 3 else 200) - 1 < a.toInt64 then 0 else 1) = 0
  · rw [if_pos c]
    exact q_Rf_s 0 1 rfl hV
  · have h' := h.resolve_left (fun z => c (by
      by_cases d : a < 0
      · rw [if_pos d]
      · rw [if_neg d, if_pos (rb.mpr (z.resolve_left d))]))
    rw [if_neg c, q2, q_b, q_in0 h', if_pos rfl]
    exact q_Rf_s 0 1 rfl hV
theorem q_F_sent (hV : q_V k s l x y u v) (hk : k ≤ 512) (h1 : ¬ a < 0) (h2 : a < (if 64 < x 22 then 64 else x 22)) (h3 : ¬ b < 0) (h4 : ¬ 2 < b) : q_Fa (k + 1) (pf_X11_sent a b s l x y) (pf_X12_sent a b s l u v) := by
  have c3 := hV.1.2.2.1.2.2.2.1
  have c1 := hV.1.2.2.1.1
  have tl := hV.1.2.2.1.2.2.2.2
  have q2 : pf_X12_isIn b.toInt64 0 2 s l u v = some (if b < 0 then 0 else if 2 < b then 0 else 1, s, l, u, v) := q_isI b 0 2
  have o2 : (64 : Int32).toInt = 64 := rfl
  have av : 0 ≤ a.toInt ∧ a.toInt < 64 := by
    rw [Int32.lt_iff_toInt_lt] at h1 h2
    have o : (0 : Int32).toInt = 0 := rfl
    rw [o] at h1
    refine ⟨by omega, ?_⟩
    by_cases c : (64 : Int32) < x 22
    · rw [if_pos c, o2] at h2; exact h2
    · rw [if_neg c] at h2
      rw [Int32.lt_iff_toInt_lt] at c
      omega
  have rb := q_rb (a := a) (p := x 22) (N := 64) (b := v 20) (N64 := 64) rfl (by decide) (by decide) c3.2.1 c3.1
  obtain ⟨g1, g2, g3, g4⟩ := q_ring (p := x 22) (a := a) (N := 64) (b := v 20) (N64 := 64) rfl (by decide) (by decide) c3.2.1 (by omega) c3.1 av.1 av.2
  have eR : pf_X12_sent a b s l u v = pl_X12_sent_21 a b (if v 20 < 64 then v 20 else 64) s l u v := by
    unfold pf_X12_sent
    split <;> rfl
  rw [eR]
  unfold pl_X12_sent_21
  have e1 : (if a < 0 then (0 : Int32) else if (if v 20 < 64 then v 20 else 64) - 1 < a.toInt64 then 0 else 1) = 1 := by rw [if_neg h1, if_neg (fun z => rb.mp z h2)]
  rw [q_isInL, q_b, e1, if_neg q_n10, q2, q_b, q_in1 h3 h4, if_neg q_n10]
  unfold pl_X12_sent_52 pf_X11_sent pf_X1_sentNumber
  rw [if_neg q_l00, g1, if_neg h1, q_min, q_b, if_pos h2, if_neg h3, if_neg h4, q_max, q_b, q_fmod g4 (by decide), q_b]
  generalize pj_rem ((if 0 < x 22 - 64 then x 22 - 64 else 0) + a) 64 = r at g2 g3
  rw [o2] at g3
  simp only [q_gI g2 g3 (show 64 < 2147483648 by omega)]
  obtain ⟨j, hj, rfl⟩ := q_in2 h3 h4
  have fin : ∀ r : Int32, q_Fa (k + 1) (some (r, s, l, x, y)) (some (r, s, l, pj_u u 1 0, v)) := fun r => q_Fa_s r s rfl rfl (q_V_s hV)
  match j, hj with
  | 0, _ => exact fin _
  | 1, _ => exact fin _
  | 2, _ => exact fin _
theorem q_F_sent0 (hV : q_V k s l x y u v) (h : (a < 0 ∨ ¬ a < (if 64 < x 22 then 64 else x 22)) ∨ (b < 0 ∨ 2 < b)) : q_Rf (k + 1) 1 s l x y (pf_X12_sent a b s l u v) := by
  have c3 := hV.1.2.2.1.2.2.2.1
  have q2 : pf_X12_isIn b.toInt64 0 2 s l u v = some (if b < 0 then 0 else if 2 < b then 0 else 1, s, l, u, v) := q_isI b 0 2
  have rb := q_rb (a := a) (p := x 22) (N := 64) (b := v 20) (N64 := 64) rfl (by decide) (by decide) c3.2.1 c3.1
  have eR : pf_X12_sent a b s l u v = pl_X12_sent_21 a b (if v 20 < 64 then v 20 else 64) s l u v := by
    unfold pf_X12_sent
    split <;> rfl
  rw [eR]
  unfold pl_X12_sent_21 pl_X12_sent_47 pl_X12_sent_52
  rw [q_isInL, q_b, if_pos q_l01]
  by_cases c : (if a < 0 then (0 : Int32) else if (if v 20 < 64 then v 20 else 64) - 1 < a.toInt64 then 0 else 1) = 0
  · rw [if_pos c]
    exact q_Rf_s 0 1 rfl hV
  · have h' := h.resolve_left (fun z => c (by
      by_cases d : a < 0
      · rw [if_pos d]
      · rw [if_neg d, if_pos (rb.mpr (z.resolve_left d))]))
    rw [if_neg c, q2, q_b, q_in0 h', if_pos rfl]
    exact q_Rf_s 0 1 rfl hV
end QED

/-! PURE: the face: cylinders, edges, frames sent, rows kept -/
section QCY
variable {s x u s' x' u' : Nat → Int32} {l y v l' y' v' : Nat → Int64} {D E W : Int} {fu f k n c : Nat} {t : Int64} {a b d e : Int32}
theorem q_wbits (h : q_Wt s x u) (hc : c < 8) : pf_X2_waitingBits (Int32.ofNat c) s l x y = some (u (3000 + c), s, l, x, y) := by
  have gc : ∀ {A : Type} (K : Option A), pj_g (Int32.ofNat c) 8 K = K := fun K => q_g (by omega) (by omega)
  have n1 : ¬ Int32.ofNat c < 0 := q_onnn (by omega)
  have n2 : Int32.ofNat c < 8 := by rw [q_onltL (by omega) (by omega)]; omega
  have z := (h.1 c hc).1
  rw [z]
  unfold pf_X2_waitingBits pl_X2_waitingBits_29 pl_X2_waitingBits_50 pl_X2_waitingBits_73
  simp only [gc, q_onC (show c < 2147483648 by omega), q_bit, q_b]
  rw [if_neg n1, if_pos n2]
  by_cases c1 : x (4000 + c) = -1 <;> by_cases c2 : x (4008 + c) = -1 <;> by_cases c3 : x (4016 + c) = -1 <;> simp only [c1, c2, c3, if_true, if_false] <;> rfl
theorem q_in7 (h1 : ¬ a < 0) (h2 : ¬ 7 < a) : ∃ j : Nat, j < 8 ∧ a = Int32.ofNat j := by
  rw [Int32.lt_iff_toInt_lt] at h1 h2
  have o : (0 : Int32).toInt = 0 := rfl
  have o7 : (7 : Int32).toInt = 7 := rfl
  exact ⟨a.toInt.toNat, by omega, by rw [← Int32.toInt_inj, q_onI (by omega)]; omega⟩
theorem q_ch01 (hr : q_R s) (hc : c < 8) : (s (18000 + c) = 0 ∨ s (18000 + c) = 1) ∧ (s (19000 + c) = 0 ∨ s (19000 + c) = 1) := by
  have z := q_rgB (k := c) (by omega)
  have a := hr (18000 + c)
  have b := hr (19000 + c)
  rw [z.2.1] at a
  rw [z.2.2.1] at b
  exact ⟨q_b01 a.1 a.2, q_b01 b.1 b.2⟩
theorem q_F_cylinder (hV : q_V k s l x y u v) (h1 : ¬ a < 0) (h2 : a < s 10000) (h3 : a < 8) (h4 : ¬ b < 0) (h5 : ¬ 7 < b) : q_Fa (k + 1) (pf_X11_cylinder a b s l x y) (pf_X12_cylinder a b s l u v) := by
  have q2 : pf_X12_isIn b.toInt64 0 7 s l u v = some (if b < 0 then 0 else if 7 < b then 0 else 1, s, l, u, v) := q_isI b 0 7
  have rN : 1 ≤ (s 10000).toInt ∧ (s 10000).toInt ≤ 8 := hV.1.1 10000
  have rT : 0 ≤ (s 10001).toInt ∧ (s 10001).toInt ≤ 7199 := hV.1.1 10001
  have e1 : (if a < 0 then (0 : Int32) else if ¬ a < s 10000 then 0 else 1) = 1 := by rw [if_neg h1, if_neg (fun z => z h2)]
  unfold pf_X11_cylinder pf_X12_cylinder pl_X12_cylinder_36
  rw [q_isIn0 (by omega), q_b, e1, if_neg q_n10, q2, q_b, q_in1 h4 h5, if_neg q_n10, if_neg q_l00, if_neg h1, if_pos h2, if_pos h3, if_neg h4, if_neg h5]
  obtain ⟨i, hi, rfl⟩ := q_inN (n := 8) h1 h3 (by omega)
  obtain ⟨j, hj, rfl⟩ := q_in7 h4 h5
  have tC := q_topC (s := s) (l := l) (x := x) (y := y) (c := i) rN.1
  have tR := q_topR (s := s) (l := l) (u := pj_u u 1 0) (v := v) (c := i) hi rN.1 rT.1 rT.2
  have hw := q_wbits (l := l) (y := y) hV.1.2.2.2.2.2.1 hi
  obtain ⟨p1, p2⟩ := q_ch01 hV.1.1 hi
  rw [tC, q_b, tR, q_b, hw, q_b, q_bit, q_b, q_bit, q_b]
  simp only [q_g hi (show 8 < 2147483648 by omega), q_onC (show i < 2147483648 by omega)]
  have bo : ∀ w : Int32, (if w = 0 then some ((0 : Int32), s, l, pj_u u 1 0, v) else some (1, s, l, pj_u u 1 0, v)) = some ((if w = 0 then (0 : Int32) else 1), s, l, pj_u u 1 0, v) := by
    intro w
    split <;> rfl
  rw [bo, bo]
  have fin : ∀ r : Int32, q_Fa (k + 1) (some (r, s, l, x, y)) (some (r, s, l, pj_u u 1 0, v)) := fun r => q_Fa_s r s rfl rfl (q_V_s hV)
  match j, hj with
  | 0, _ => exact fin _
  | 1, _ => exact fin _
  | 2, _ => exact fin _
  | 3, _ => exact fin _
  | 4, _ => exact fin _
  | 5, _ => exact fin _
  | 6, _ => exact fin _
  | 7, _ => exact fin _
theorem q_F_cylinder0 (hV : q_V k s l x y u v) (h : (a < 0 ∨ ¬ a < s 10000 ∨ ¬ a < 8) ∨ (b < 0 ∨ 7 < b)) : q_Rf (k + 1) 1 s l x y (pf_X12_cylinder a b s l u v) := by
  have q2 : pf_X12_isIn b.toInt64 0 7 s l u v = some (if b < 0 then 0 else if 7 < b then 0 else 1, s, l, u, v) := q_isI b 0 7
  have rN : 1 ≤ (s 10000).toInt ∧ (s 10000).toInt ≤ 8 := hV.1.1 10000
  unfold pf_X12_cylinder pl_X12_cylinder_31 pl_X12_cylinder_36
  rw [q_isIn0 (by omega), q_b, if_pos q_l01]
  by_cases c : (if a < 0 then (0 : Int32) else if ¬ a < s 10000 then 0 else 1) = 0
  · rw [if_pos c]
    exact q_Rf_s 0 1 rfl hV
  · have h' : b < 0 ∨ 7 < b := by
      refine h.resolve_left (fun z => c ?_)
      by_cases d : a < 0
      · rw [if_pos d]
      · rw [if_neg d]
        have n : ¬ a < s 10000 := by
          rcases z with z | z | z
          · exact absurd z d
          · exact z
          · intro q
            apply z
            rw [Int32.lt_iff_toInt_lt] at q ⊢
            have o : (8 : Int32).toInt = 8 := rfl
            rw [o]; omega
        rw [if_pos n]
    rw [if_neg c, q2, q_b, q_in0 h', if_pos rfl]
    exact q_Rf_s 0 1 rfl hV
end QCY

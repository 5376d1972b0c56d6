/-! PURE: the face: pass, tooth, cam, turn -/
section QTI
variable {s x u s' x' u' : Nat → Int32} {l y v l' y' v' : Nat → Int64} {D E W : Int} {fu f k n c : Nat} {t : Int64} {a b : Int32}
theorem q_isI (w lo hi : Int32) : pf_X12_isIn w.toInt64 lo.toInt64 hi.toInt64 s l u v = some (if w < lo then 0 else if hi < w then 0 else 1, s, l, u, v) := q_isInI w lo hi
/-- from a LOOP-like pair to what holds between calls -/
theorem q_V_L (hI : q_I 0 E W s l x y u v) (hK : q_Kl x v) (hA : q_Af s) (hE : E ≤ 500000 * (k : Int)) (hW : W ≤ 200000 * (k : Int)) (ht : (l 93).toInt ≤ 24000000 * (k : Int)) : u 1 = 0 ∧ q_V k s l x y u v := by
  have e := q_V_0 hI
  exact ⟨e.1, by rw [e.2]; exact q_I_mono hI hE hW, hK, hA, ht⟩
theorem q_V_t (hV : q_V k s l x y u v) (hk : k < 512) : 0 ≤ (l 93).toInt ∧ (l 93).toInt ≤ 24000000 * (k : Int) ∧ (k : Int) < 512 := ⟨hV.1.2.2.1.2.2.2.2.1, hV.2.2.2, by omega⟩
theorem q_diff (h : v 3 = (x 11).toInt64) (h' : v' 3 = (x' 11).toInt64) : (v' 3 - v 3).toInt32 = x' 11 - x 11 := by
  rw [h, h', Int64.toInt32_sub, Int32.toInt32_toInt64, Int32.toInt32_toInt64]
theorem q_inr {hi : Int32} (h1 : ¬ a < 0) (h2 : ¬ hi < a) : 0 ≤ a.toInt ∧ a.toInt ≤ hi.toInt ∧ a.toInt64.toInt = a.toInt := by
  rw [Int32.lt_iff_toInt_lt] at h1 h2
  have o : (0 : Int32).toInt = 0 := rfl
  rw [o] at h1
  exact ⟨by omega, by omega, Int32.toInt_toInt64 a⟩
theorem q_F_pass (hV : q_V k s l x y u v) (hk : k < 512) (h1 : ¬ a < 0) (h2 : ¬ 2000000 < a) : q_Fa (k + 1) (pf_X11_pass a s l x y) (pf_X12_pass a s l u v) := by
  obtain ⟨t1, t2, t3⟩ := q_V_t hV hk
  obtain ⟨a1, a2, a3⟩ := q_inr h1 h2
  have o : (2000000 : Int32).toInt = 2000000 := rfl
  rw [o] at a2
  obtain ⟨hI, hK, hA, -⟩ := hV
  obtain ⟨s1, l1, x1, y1, u1, v1, F, G, hI1, hK1, hA1, e1⟩ := q_pass2 hI hK hA (a := a.toInt64) (by omega) 200 (by omega) (by omega) (by omega) (by omega) (by omega)
  have e2 : (l 93 + a.toInt64).toInt = (l 93).toInt + a.toInt := by rw [q_addL (by omega) (by omega), a3]
  obtain ⟨z1, z2⟩ := q_V_L (k := k + 1) hI1 hK1 hA1 (by omega) (by omega) (by rw [e1, e2]; omega)
  refine ⟨x1 11 - x 11, s1, l1, x1, y1, u1, v1, ?_, ?_, z1, z2⟩
  · unfold pf_X11_pass
    rw [if_neg h1, if_neg h2, F, q_b]
  · have q : pf_X12_isIn a.toInt64 0 2000000 s l u v = some (if a < 0 then 0 else if 2000000 < a then 0 else 1, s, l, u, v) := q_isI a 0 2000000
    unfold pf_X12_pass pl_X12_pass_18
    rw [q, q_b, if_neg h1, if_neg h2, if_neg (show ¬ (1 : Int32) = 0 by decide), if_neg (show ¬ (0 : Int32) < 0 by decide), G, q_b, q_diff hI.2.2.1.2.2.1.1 hI1.2.2.1.2.2.1.1]
theorem q_F_pass0 (hV : q_V k s l x y u v) (h : a < 0 ∨ (2000000 : Int32) < a) : q_Rf (k + 1) 1 s l x y (pf_X12_pass a s l u v) := by
  have q : pf_X12_isIn a.toInt64 0 2000000 s l u v = some (if a < 0 then 0 else if 2000000 < a then 0 else 1, s, l, u, v) := q_isI a 0 2000000
  have e : (if a < 0 then (0 : Int32) else if 2000000 < a then 0 else 1) = 0 := by
    by_cases c : a < 0
    · rw [if_pos c]
    · rw [if_neg c, if_pos (h.resolve_left c)]
  unfold pf_X12_pass pl_X12_pass_18
  rw [q, q_b, e, if_pos rfl, if_pos (show (0 : Int32) < 1 by decide)]
  exact ⟨_, _, _, rfl, q_ua, q_V_u1 (q_V_m hV) 1⟩
theorem q_F_tooth (hV : q_V k s l x y u v) (hk : k < 512) (h1 : ¬ a < 1) (h2 : ¬ 1000000 < a) : q_Fa (k + 1) (pf_X11_tooth a s l x y) (pf_X12_tooth a s l u v) := by
  obtain ⟨t1, t2, t3⟩ := q_V_t hV hk
  have a1 : 1 ≤ a.toInt ∧ a.toInt ≤ 1000000 := by
    rw [Int32.lt_iff_toInt_lt] at h1 h2
    have o : (1 : Int32).toInt = 1 := rfl
    have o2 : (1000000 : Int32).toInt = 1000000 := rfl
    rw [o] at h1; rw [o2] at h2
    omega
  have a3 : a.toInt64.toInt = a.toInt := Int32.toInt_toInt64 a
  obtain ⟨hI, hK, hA, -⟩ := hV
  obtain ⟨s1, l1, x1, y1, u1, v1, F, G, hI1, hK1, hA1, e1⟩ := q_pass2 hI hK hA (a := a.toInt64) (by omega) 100 (by omega) (by omega) (by omega) (by omega) (by omega)
  have e2 : (l 93 + a.toInt64).toInt = (l 93).toInt + a.toInt := by rw [q_addL (by omega) (by omega), a3]
  obtain ⟨s2, l2, x2, y2, u2, v2, F2, G2, hI2, k2⟩ := q_crankP hI1 (by omega)
  obtain ⟨z1, z2⟩ := q_V_L (k := k + 1) hI2 (q_Kl_4 k2 hK1) (q_Af_4 k2 hA1) (by omega) (by omega) (by rw [k2.2.2.1, e1, e2]; omega)
  refine ⟨s2 19, s2, l2, x2, y2, u2, v2, ?_, ?_, z1, z2⟩
  · unfold pf_X11_tooth
    rw [if_neg h1, if_neg h2, F, q_b, F2, q_b]
  · have q : pf_X12_isIn a.toInt64 1 1000000 s l u v = some (if a < 1 then 0 else if 1000000 < a then 0 else 1, s, l, u, v) := q_isI a 1 1000000
    unfold pf_X12_tooth pl_X12_tooth_18
    rw [q, q_b, if_neg h1, if_neg h2, if_neg (show ¬ (1 : Int32) = 0 by decide), if_neg (show ¬ (0 : Int32) < 0 by decide), G, q_b, G2, q_b]
theorem q_F_tooth0 (hV : q_V k s l x y u v) (h : a < 1 ∨ (1000000 : Int32) < a) : q_Rf (k + 1) 1 s l x y (pf_X12_tooth a s l u v) := by
  have q : pf_X12_isIn a.toInt64 1 1000000 s l u v = some (if a < 1 then 0 else if 1000000 < a then 0 else 1, s, l, u, v) := q_isI a 1 1000000
  have e : (if a < 1 then (0 : Int32) else if 1000000 < a then 0 else 1) = 0 := by
    by_cases c : a < 1
    · rw [if_pos c]
    · rw [if_neg c, if_pos (h.resolve_left c)]
  unfold pf_X12_tooth pl_X12_tooth_18
  rw [q, q_b, e, if_pos rfl, if_pos (show (0 : Int32) < 1 by decide)]
  exact ⟨_, _, _, rfl, q_ua, q_V_u1 (q_V_m hV) 1⟩
theorem q_F_cam (hV : q_V k s l x y u v) (hk : k < 512) (h1 : ¬ a < 0) (h2 : ¬ 1000000 < a) : q_Fa (k + 1) (pf_X11_cam a s l x y) (pf_X12_cam a s l u v) := by
  obtain ⟨t1, t2, t3⟩ := q_V_t hV hk
  obtain ⟨a1, a2, a3⟩ := q_inr h1 h2
  have o : (1000000 : Int32).toInt = 1000000 := rfl
  rw [o] at a2
  obtain ⟨hI, hK, hA, -⟩ := hV
  obtain ⟨s1, l1, x1, y1, u1, v1, F, G, hI1, hK1, hA1, e1⟩ := q_pass2 hI hK hA (a := a.toInt64) (by omega) 100 (by omega) (by omega) (by omega) (by omega) (by omega)
  have e2 : (l 93 + a.toInt64).toInt = (l 93).toInt + a.toInt := by rw [q_addL (by omega) (by omega), a3]
  obtain ⟨s2, l2, x2, y2, u2, v2, F2, G2, hI2, k2⟩ := q_camQ hI1 (by omega)
  obtain ⟨z1, z2⟩ := q_V_L (k := k + 1) hI2 (q_Kl_4 k2 hK1) (q_Af_4 k2 hA1) (by omega) (by omega) (by rw [k2.2.2.1, e1, e2]; omega)
  refine ⟨s2 19, s2, l2, x2, y2, u2, v2, ?_, ?_, z1, z2⟩
  · unfold pf_X11_cam
    rw [if_neg h1, if_neg h2, F, q_b, F2, q_b]
  · have q : pf_X12_isIn a.toInt64 0 1000000 s l u v = some (if a < 0 then 0 else if 1000000 < a then 0 else 1, s, l, u, v) := q_isI a 0 1000000
    unfold pf_X12_cam pl_X12_cam_18
    rw [q, q_b, if_neg h1, if_neg h2, if_neg (show ¬ (1 : Int32) = 0 by decide), if_neg (show ¬ (0 : Int32) < 0 by decide), G, q_b, G2, q_b]
theorem q_F_cam0 (hV : q_V k s l x y u v) (h : a < 0 ∨ (1000000 : Int32) < a) : q_Rf (k + 1) 1 s l x y (pf_X12_cam a s l u v) := by
  have q : pf_X12_isIn a.toInt64 0 1000000 s l u v = some (if a < 0 then 0 else if 1000000 < a then 0 else 1, s, l, u, v) := q_isI a 0 1000000
  have e : (if a < 0 then (0 : Int32) else if 1000000 < a then 0 else 1) = 0 := by
    by_cases c : a < 0
    · rw [if_pos c]
    · rw [if_neg c, if_pos (h.resolve_left c)]
  unfold pf_X12_cam pl_X12_cam_18
  rw [q, q_b, e, if_pos rfl, if_pos (show (0 : Int32) < 1 by decide)]
  exact ⟨_, _, _, rfl, q_ua, q_V_u1 (q_V_m hV) 1⟩
/-- a step: time, then the wheel's next place -/
theorem q_stepQ (hI : q_I 0 E W s l x y u v) (hK : q_Kl x v) (hA : q_Af s) {a : Int64} (h1 : 0 ≤ a.toInt) (h2 : a.toInt ≤ 100000) (h3 : (l 93).toInt + a.toInt ≤ 20000000000) (hE : E + 1760 < 2147483647) (hW : W + 600 < 2147483647) : q_Lp (E + 1760) (W + 600) (l 93 + a) (pj_b (pf_X11_passTo (l 93 + a) s l x y) (fun _ s1 l1 x1 y1 => pf_X11_arrive s1 l1 x1 y1)) (pf_X12_step a s l u v) := by
  obtain ⟨s1, l1, x1, y1, u1, v1, F, G, hI1, hK1, hA1, e1⟩ := q_pass2 hI hK hA h1 10 (by omega) (by omega) h3 (by omega) (by omega)
  obtain ⟨s2, l2, x2, y2, u2, v2, F2, G2, hI2, k2⟩ := q_arrP hI1 (by omega)
  unfold pf_X12_step
  rw [F, q_b, G, q_b]
  refine ⟨s2, l2, x2, y2, u2, v2, F2, G2, q_I_mono hI2 (by omega) (by omega), q_Kl_4 k2 hK1, q_Af_4 k2 hA1, ?_⟩
  rw [k2.2.2.1, e1]
end QTI

/-! PURE: the face: pass, tooth, cam; a step of the wheel -/
section QTE
variable {s x u s' x' u' : Nat → Int32} {l y v l' y' v' : Nat → Int64} {D E W : Int} {fu f k n c : Nat} {t : Int64}
theorem q_Kl_4 {s x s1 x1 : Nat → Int32} {l v l1 v1 : Nat → Int64} (h : q_K4 s l x v s1 l1 x1 v1) (hK : q_Kl x v) : q_Kl x1 v1 := by
  obtain ⟨-, -, -, a, b, c⟩ := h
  unfold q_Kl at hK ⊢
  rw [a, b, c]; exact hK
theorem q_Af_4 {s x s1 x1 : Nat → Int32} {l v l1 v1 : Nat → Int64} (h : q_K4 s l x v s1 l1 x1 v1) (hA : q_Af s) : q_Af s1 := by
  obtain ⟨a, b, -⟩ := h
  unfold q_Af at hA ⊢
  rw [a, b]; exact hA
theorem q_camQ (hI : q_I D E W s l x y u v) (hE : E + 16 < 2147483647) : q_Pq D (E + 16) W s l x v (pf_X11_camEdge s l x y) (pf_X12_camEdge s l u v) := by
  by_cases h0 : s 94 = 0
  · rw [q_camC, q_camR hI.1, if_pos h0, if_pos h0]
    exact ⟨s, l, x, y, u, v, rfl, rfl, q_I_mono hI (by omega) (by omega), rfl, rfl, rfl, rfl, rfl, rfl⟩
  · obtain ⟨s1, l1, x1, y1, u1, v1, F, G, hI1, k1, k2, k3, k4, -, k6, -, k8⟩ := q_camP hI h0 hE
    exact ⟨s1, l1, x1, y1, u1, v1, F, G, hI1, k1, k8, k2, k3, k4, k6⟩
/-- the reference's u 1 is left alone by time, teeth and the cam -/
def q_Tp (E W : Int) (t : Int64) (F G : Option (Unit × pj_Z)) : Prop := q_Lp E W t F G
theorem q_pass2 (hI : q_I 0 E W s l x y u v) (hK : q_Kl x v) (hA : q_Af s) {a : Int64} (h1 : 0 ≤ a.toInt) (K : Nat) (h2 : a.toInt ≤ 10000 * K) (hK2 : K ≤ 5000) (h3 : (l 93).toInt + a.toInt ≤ 20000000000) (hE : E + 128 + 160 * K < 2147483647) (hW : W + 60 * K < 2147483647) : q_Lp (E + 128 + 160 * K) (W + 60 * K) (l 93 + a) (pf_X11_passTo (l 93 + a) s l x y) (pf_X12_passTo (l 93 + a) s l u v) := by
  have tl := hI.2.2.1.2.2.2.2
  have e : (l 93 + a).toInt = (l 93).toInt + a.toInt := q_addL (by omega) (by omega)
  exact q_passP hI hK hA (by omega) (by omega) K hK2 (by omega) hE hW
/-- the wheel comes to its next place -/
theorem q_arrP (hI : q_I 0 E W s l x y u v) (hE : E + 32 < 2147483647) : q_Pq 0 (E + 32) W s l x v (pf_X11_arrive s l x y) (if 57 < (pj_rem (pj_rem (s 45 + 1) 120) 60) then pl_X12_step_39 (pj_u s 45 (pj_rem (s 45 + 1) 120)) l u v else pj_b (pf_X12_crank (pj_u s 45 (pj_rem (s 45 + 1) 120)) l u v) (fun _ s2 l2 x2 y2 => pl_X12_step_39 s2 l2 x2 y2)) := by
  have r45 : 0 ≤ (s 45).toInt ∧ (s 45).toInt ≤ 119 := hI.1 45
  have e1 : (s 45 + 1).toInt = (s 45).toInt + 1 := q_one (by omega) (by omega)
  have o120 : (120 : Int32).toInt = 120 := rfl
  have er : 0 ≤ (pj_rem (s 45 + 1) 120).toInt ∧ (pj_rem (s 45 + 1) 120).toInt ≤ 119 := by
    have d : ((s 45 + 1) / 120).toInt = (s 45 + 1).toInt / 120 := by rw [q_divI (by omega) (by decide), o120]
    unfold pj_rem
    have m : ((s 45 + 1) / 120 * 120).toInt = (s 45 + 1).toInt / 120 * 120 := by rw [q_mul (by rw [d, o120]; omega) (by rw [d, o120]; omega), d, o120]
    rw [q_sub (by rw [m]; omega) (by rw [m]; omega), m]
    omega
  have hJ : q_I 0 E W (pj_u s 45 (pj_rem (s 45 + 1) 120)) l x y u v := by
    refine q_I_fo hI (q_R_u hI.1 er) (fun w hw => q_un (by unfold q_Ss at hw; omega)) (fun _ w a e => q_un ?_) (fun _ _ => rfl) (fun _ _ => rfl)
    intro z
    rw [z] at e
    have e : (none : Option Int32) = some a := e
    cases e
  unfold pf_X11_arrive
  have k45 : q_K4 s l x v (pj_u s 45 (pj_rem (s 45 + 1) 120)) l x v := ⟨q_un (by omega), q_un (by omega), rfl, rfl, rfl, rfl⟩
  generalize pj_u s 45 (pj_rem (s 45 + 1) 120) = s1 at hJ k45
  have cam : ∀ {s2 x2 u2 : Nat → Int32} {l2 y2 v2 : Nat → Int64}, q_I 0 (E + 16) W s2 l2 x2 y2 u2 v2 → q_K4 s l x v s2 l2 x2 v2 → q_Pq 0 (E + 32) W s l x v (pl_X11_arrive_38 s2 l2 x2 y2) (pl_X12_step_39 s2 l2 u2 v2) := by
    intro s2 x2 u2 l2 y2 v2 h2 k2
    unfold pl_X11_arrive_38 pl_X12_step_39
    by_cases c : s2 45 = 15
    · rw [if_pos c, if_pos c]
      obtain ⟨s3, l3, x3, y3, u3, v3, F, G, hI3, k3⟩ := q_camQ h2 (by omega)
      rw [F, q_b, G, q_b]
      refine q_Pq_t k2 ⟨s3, l3, x3, y3, u3, v3, rfl, rfl, ?_, k3⟩
      rw [show E + 32 = E + 16 + 16 by omega]; exact hI3
    · rw [if_neg c, if_neg c]
      exact ⟨s2, l2, x2, y2, u2, v2, rfl, rfl, q_I_mono h2 (by omega) (by omega), k2⟩
  by_cases c : 57 < (pj_rem (pj_rem (s 45 + 1) 120) 60)
  · rw [if_pos c, if_pos c]
    exact cam (q_I_mono hJ (by omega) (by omega)) k45
  · rw [if_neg c, if_neg c]
    obtain ⟨s2, l2, x2, y2, u2, v2, F, G, hI2, k2⟩ := q_crankP hJ (by omega)
    rw [F, q_b, G, q_b]
    refine cam hI2 ?_
    obtain ⟨a1, a2, a3, a4, a5, a6⟩ := k2
    obtain ⟨b1, b2, b3, b4, b5, b6⟩ := k45
    exact ⟨by rw [a1, b1], by rw [a2, b2], by rw [a3, b3], by rw [a4, b4], by rw [a5, b5], by rw [a6, b6]⟩
end QTE

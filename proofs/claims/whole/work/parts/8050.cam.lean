/-! PURE: the cam's edge -/
section QC
variable {s x u : Nat → Int32} {l y v : Nat → Int64} {fu : Nat}
theorem q_off_w (base : Nat) (kd : Int32) (t : Int64) (hb : base = 18000 ∨ base = 19000) {z : Nat} (hz : z < 57) (a : Int32) : ∀ (m i : Nat) (s : Nat → Int32) (l : Nat → Int64) (x : Nat → Int32), q_off base kd t m i (pj_u s z a, l, x) = (pj_u (q_off base kd t m i (s, l, x)).1 z a, (q_off base kd t m i (s, l, x)).2.1, (q_off base kd t m i (s, l, x)).2.2) := by
  intro m
  induction m with
  | zero =>
    intro i s l x
    simp only [q_off]
  | succ m ih =>
    intro i s l x
    simp only [q_off]
    rw [q_un (f := s) (by omega)]
    by_cases c : s (base + i) = 0
    · rw [if_pos c, if_pos c]
      exact ih (i + 1) s l x
    · rw [if_neg c, if_neg c]
      have e : pj_u (pj_u (pj_u (pj_u s z a) (base + i) 0) (21000 + q_slot x) kd) (22000 + q_slot x) (Int32.ofNat i) = pj_u (pj_u (pj_u (pj_u s (base + i) 0) (21000 + q_slot x) kd) (22000 + q_slot x) (Int32.ofNat i)) z a := by
        rw [q_us (v := z) (w := 22000 + q_slot x) (by omega), q_us (v := z) (w := 21000 + q_slot x) (by omega), q_us (v := z) (w := base + i) (by omega)]
      rw [e]
      exact ih (i + 1) _ _ _
theorem q_ao_w {z : Nat} (hz : z < 57) (a : Int32) : q_ao (pj_u s z a) l x = (pj_u (q_ao s l x).1 z a, (q_ao s l x).2.1, (q_ao s l x).2.2) := by
  unfold q_ao
  rw [← q_us (f := s) (v := z) (w := 57) hz, q_off_w 18000 1 (l 93) (Or.inl rfl) hz, q_off_w 19000 4 (l 93) (Or.inr rfl) hz]
/-- the wheel's place is the same while the wheel is known -/
def q_wh (s x u : Nat → Int32) : Prop := (¬ s 19 < 2 → x 6 = u 4 ∧ x 7 = u 5)
theorem q_camC : pf_X11_camEdge s l x y = if s 94 = 0 then some ((), s, l, x, y) else if s 19 < 2 then some ((), s, l, x, y) else if s 19 = 3 then (if x 6 < 10 then pf_X11_allOff (pj_u (pj_u s 23 (s 23 + 1)) 19 2) l x y else if 20 < x 6 then pf_X11_allOff (pj_u (pj_u s 23 (s 23 + 1)) 19 2) l x y else if x 7 = 0 then some ((), pj_u (pj_u s 22 0) 25 1, l, x, y) else pf_X11_allOff (pj_u (pj_u s 23 (s 23 + 1)) 19 2) l x y) else (if x 6 < 10 then some ((), s, l, x, y) else if 20 < x 6 then some ((), s, l, x, y) else some ((), pj_u (pj_u (pj_u s 19 3) 22 0) 25 1, l, pj_u x 7 0, y)) := by
  have id9 : ∀ o : Option (Unit × pj_Z), pj_b o (fun _ s2 l2 x2 y2 => some ((), s2, l2, x2, y2)) = o := by
    intro o
    rcases o with - | ⟨⟨⟩, s2, l2, x2, y2⟩
    · rfl
    · rfl
  have n1 : ¬ (1 : Int32) = 0 := by decide
  have n2 : ¬ (3 : Int32) < 2 := by decide
  unfold pf_X11_camEdge
  by_cases c0 : s 94 = 0
  · rw [if_pos c0, if_pos c0]
  rw [if_neg c0, if_neg c0]
  unfold pf_X2_hearCam pl_X2_hearCam_22 pl_X2_hearCam_23 pl_X2_hearCam_60 pl_X2_hearCam_43
  by_cases c1 : s 19 < 2
  · have c2 : ¬ s 19 = 3 := fun q => n2 (by rw [← q]; exact c1)
    by_cases c3 : x 6 < 10
    · simp only [if_pos c3, if_neg c2, if_pos c1, if_true, q_b]
    · by_cases c4 : 20 < x 6
      · simp only [if_neg c3, if_pos c4, if_neg c2, if_pos c1, if_true, q_b]
      · simp only [if_neg c3, if_neg c4, if_neg c2, if_pos c1, if_true, if_neg n1, q_b]
  · by_cases c2 : s 19 = 3
    · have w19 : pj_u s 19 3 = s := by rw [← c2]; exact q_ui
      by_cases c3 : x 6 < 10
      · simp only [if_pos c3, if_pos c2, if_neg c1, if_true, if_neg n1, q_b, id9]
      · by_cases c4 : 20 < x 6
        · simp only [if_neg c3, if_pos c4, if_pos c2, if_neg c1, if_true, if_neg n1, q_b, id9]
        · by_cases c5 : x 7 = 0
          · have w7 : pj_u x 7 0 = x := by rw [← c5]; exact q_ui
            simp only [if_neg c3, if_neg c4, if_pos c2, if_neg c1, if_true, if_neg n1, if_pos c5, q_b, w19, w7]
          · simp only [if_neg c3, if_neg c4, if_pos c2, if_neg c1, if_true, if_neg n1, if_neg c5, q_b, id9]
    · by_cases c3 : x 6 < 10
      · simp only [if_pos c3, if_neg c2, if_neg c1, if_true, q_b]
      · by_cases c4 : 20 < x 6
        · simp only [if_neg c3, if_pos c4, if_neg c2, if_neg c1, if_true, q_b]
        · simp only [if_neg c3, if_neg c4, if_neg c2, if_neg c1, if_true, if_neg n1, q_b]
end QC

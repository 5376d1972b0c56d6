/-! PURE: the face: the buttons, the RECORDER is set -/
section QBT
variable {s x u s' x' u' : Nat → Int32} {l y v l' y' v' : Nat → Int64} {D E W : Int} {fu f k n c : Nat} {t : Int64} {a b d e p r : Int32}
def q_mh (s : Nat → Int32) : Int32 := if s 52 < 3000 then 0 else if s 53 < 3 then 0 else if q_bq s = 0 then (if s 29 = 0 then (if s 36 = 0 then 1 else 0) else 0) else 0
theorem q_mhC : pf_X11_mayHold s l x y = some (q_mh s, s, l, x, y) := by
  unfold pf_X11_mayHold q_mh
  rw [q_bqC, q_b]
  repeat' split
  all_goals rfl
theorem q_mhR : pf_X12_mayHold s l u v = some (q_mh s, s, l, u, v) := by
  unfold pf_X12_mayHold q_mh
  rw [q_bqR, q_b]
  repeat' split
  all_goals rfl
theorem q_R_81 (hr : q_R s) (h1 : 0 ≤ a.toInt) (h2 : a.toInt ≤ 2) : q_R (pj_u s 81 a) := q_R_u hr ⟨h1, h2⟩
theorem q_R_82 (hr : q_R s) (h1 : 0 ≤ a.toInt) (h2 : a.toInt ≤ 30000) : q_R (pj_u s 82 a) := q_R_u hr ⟨h1, h2⟩
theorem q_R_83 (hr : q_R s) : q_R (pj_u s 83 0) := q_R_u hr (by decide)
/-- what a button does -/
def q_Bt (F : Option (Unit × pj_Z)) (G : Option (Int32 × pj_Z)) (s : Nat → Int32) (l : Nat → Int64) (x : Nat → Int32) (y : Nat → Int64) (u : Nat → Int32) (v : Nat → Int64) : Prop := ∃ s', F = some ((), s', l, x, y) ∧ G = some (s' 81, s', l, u, v) ∧ q_R s' ∧ ∀ w, ¬ (81 ≤ w ∧ w ≤ 83) → s' w = s w
theorem q_Bt_s (hr : q_R s) {F : Option (Unit × pj_Z)} {G : Option (Int32 × pj_Z)} (hF : F = some ((), s, l, x, y)) (hG : G = some (s 81, s, l, u, v)) : q_Bt F G s l x y u v := ⟨s, hF, hG, hr, fun _ _ => rfl⟩
theorem q_button0 (hr : q_R s) (h : s 94 = 1) : q_Bt (pf_X9_feelButton 0 (s 52) (q_mh s) s l x y) (pl_X12_press_18 0 0 s l u v) s l x y (pj_u u 1 0) v := by
  have r81 := q_R81 hr
  have r82 := q_R82 hr
  have r52 : 0 ≤ (s 52).toInt ∧ (s 52).toInt ≤ 30000 := hr 52
  have o0 : (0 : Int32).toInt = 0 := rfl
  have o100 : (100 : Int32).toInt = 100 := rfl
  have o2 : (20000 : Int32).toInt = 20000 := rfl
  have o3 : (3000 : Int32).toInt = 3000 := rfl
  have F : pf_X9_feelButton 0 (s 52) (q_mh s) s l x y = (if s 81 = 0 then pl_X9_feelButton_20 (s 82) s l x y else pl_X9_feelButton_20 0 s l x y) := rfl
  have G : pl_X12_press_18 0 0 s l u v = (if s 94 = 1 then (if s 81 = 0 then pl_X12_press_63 (s 82) s l (pj_u u 1 0) v else pl_X12_press_63 0 s l (pj_u u 1 0) v) else some (s 81, s, l, pj_u u 1 0, v)) := rfl
  rw [F, G, if_pos h]
  unfold pl_X9_feelButton_20 pl_X12_press_63 pl_X9_feelButton_36 pl_X12_press_79
  by_cases c : s 81 = 0
  · rw [if_pos c, if_pos c, if_pos c, if_pos c]
    refine ⟨_, rfl, by rw [q_ua], q_R_81 (q_R_82 hr r82.1 r82.2) (by decide) (by decide), ?_⟩
    intro w hw; rw [q_un (by omega), q_un (by omega)]
  · rw [if_neg c, if_neg c, if_neg c, if_neg c]
    refine ⟨_, rfl, by rw [q_ua], q_R_81 (q_R_82 hr (by decide) (by decide)) (by decide) (by decide), ?_⟩
    intro w hw; rw [q_un (by omega), q_un (by omega)]
theorem q_button1 (hr : q_R s) (h : s 94 = 1) : q_Bt (pf_X9_feelButton 1 (s 52) (q_mh s) s l x y) (pl_X12_press_18 1 0 s l u v) s l x y (pj_u u 1 0) v := by
  have r81 := q_R81 hr
  have r82 := q_R82 hr
  have r52 : 0 ≤ (s 52).toInt ∧ (s 52).toInt ≤ 30000 := hr 52
  have o0 : (0 : Int32).toInt = 0 := rfl
  have o100 : (100 : Int32).toInt = 100 := rfl
  have o2 : (20000 : Int32).toInt = 20000 := rfl
  have o3 : (3000 : Int32).toInt = 3000 := rfl
  have F : pf_X9_feelButton 1 (s 52) (q_mh s) s l x y = (if s 81 = 0 then some ((), s, l, x, y) else (if q_mh s = 0 then some ((), s, l, x, y) else pj_b (pf_X9_hold (pj_u s 82 (s 52)) l x y) (fun _ s1 l1 x1 y1 => some ((), s1, l1, x1, y1)))) := by
    unfold pf_X9_feelButton pl_X9_feelButton_70 pl_X9_feelButton_101 pl_X9_feelButton_122 pl_X9_feelButton_155
    rw [if_neg (show ¬ (1 : Int32) = 0 by decide), if_pos rfl, if_neg (show ¬ (1 : Int32) = 2 by decide), if_neg (show ¬ (1 : Int32) = 3 by decide), if_neg (show ¬ (1 : Int32) = 4 by decide), if_neg (show ¬ (1 : Int32) = 5 by decide)]
  have G : pl_X12_press_18 1 0 s l u v = (if s 94 = 1 then (if 0 < s 81 then pj_b (pf_X12_mayHold s l (pj_u u 1 0) v) (fun r1 s1 l1 x1 y1 => (if r1 = 0 then pl_X12_press_125 1 s1 l1 x1 y1 else some (2, (pj_u (pj_u (pj_u s1 82 (s1 52)) 81 2) 83 0), l1, x1, y1))) else pl_X12_press_125 1 s l (pj_u u 1 0) v) else some (s 81, s, l, pj_u u 1 0, v)) := by
    unfold pl_X12_press_18
    rw [if_neg q_l00, if_neg (show ¬ (1 : Int32) = 0 by decide), if_pos rfl]
  have G2 : pl_X12_press_125 1 s l (pj_u u 1 0) v = some (s 81, s, l, pj_u u 1 0, v) := by
    unfold pl_X12_press_125 pl_X12_press_165 pl_X12_press_186 pl_X12_press_232
    rw [if_neg (show ¬ (1 : Int32) = 2 by decide), if_neg (show ¬ (1 : Int32) = 3 by decide), if_neg (show ¬ (1 : Int32) = 4 by decide), if_neg (show ¬ (1 : Int32) = 5 by decide)]
  rw [F, G, if_pos h, q_mhR, q_b, G2]
  by_cases c : s 81 = 0
  · have c1 : ¬ 0 < s 81 := by rw [c]; decide
    rw [if_pos c, if_neg c1]
    exact q_Bt_s hr rfl rfl
  · have c1 : 0 < s 81 := by
      rw [Int32.lt_iff_toInt_lt, o0]
      have : ¬ (s 81).toInt = 0 := fun q => c (by rw [← Int32.toInt_inj, q]; rfl)
      omega
    rw [if_neg c, if_pos c1]
    by_cases m : q_mh s = 0
    · rw [if_pos m, if_pos m]
      exact q_Bt_s hr rfl rfl
    · rw [if_neg m, if_neg m]
      unfold pf_X9_hold
      rw [q_b]
      refine ⟨_, rfl, by rw [q_un (by omega), q_ua], q_R_83 (q_R_81 (q_R_82 hr r52.1 r52.2) (by decide) (by decide)), ?_⟩
      intro w hw; rw [q_un (by omega), q_un (by omega), q_un (by omega)]
theorem q_button2 (hr : q_R s) (h : s 94 = 1) : q_Bt (pf_X9_feelButton 2 (s 52) (q_mh s) s l x y) (pl_X12_press_18 2 0 s l u v) s l x y (pj_u u 1 0) v := by
  have r81 := q_R81 hr
  have r82 := q_R82 hr
  have r52 : 0 ≤ (s 52).toInt ∧ (s 52).toInt ≤ 30000 := hr 52
  have o0 : (0 : Int32).toInt = 0 := rfl
  have o100 : (100 : Int32).toInt = 100 := rfl
  have o2 : (20000 : Int32).toInt = 20000 := rfl
  have o3 : (3000 : Int32).toInt = 3000 := rfl
  have F : pf_X9_feelButton 2 (s 52) (q_mh s) s l x y = (if s 81 = 1 then (if 0 < s 82 then (if q_mh s = 0 then some ((), s, l, x, y) else pj_b (pf_X9_hold s l x y) (fun _ s1 l1 x1 y1 => some ((), s1, l1, x1, y1))) else some ((), s, l, x, y)) else some ((), s, l, x, y)) := rfl
  have G : pl_X12_press_18 2 0 s l u v = (if s 94 = 1 then (if s 81 = 1 then (if 0 < s 82 then pj_b (pf_X12_mayHold s l (pj_u u 1 0) v) (fun r1 s1 l1 x1 y1 => (if r1 = 0 then some (s1 81, s1, l1, x1, y1) else some (2, (pj_u (pj_u s1 81 2) 83 0), l1, x1, y1))) else some (s 81, s, l, pj_u u 1 0, v)) else some (s 81, s, l, pj_u u 1 0, v)) else some (s 81, s, l, pj_u u 1 0, v)) := rfl
  rw [F, G, if_pos h, q_mhR, q_b]
  by_cases c : s 81 = 1
  · rw [if_pos c, if_pos c]
    by_cases c2 : 0 < s 82
    · rw [if_pos c2, if_pos c2]
      by_cases m : q_mh s = 0
      · rw [if_pos m, if_pos m]
        exact q_Bt_s hr rfl rfl
      · rw [if_neg m, if_neg m]
        unfold pf_X9_hold
        rw [q_b]
        refine ⟨_, rfl, by rw [q_un (by omega), q_ua], q_R_83 (q_R_81 hr (by decide) (by decide)), ?_⟩
        intro w hw; rw [q_un (by omega), q_un (by omega)]
    · rw [if_neg c2, if_neg c2]
      exact q_Bt_s hr rfl rfl
  · rw [if_neg c, if_neg c]
    exact q_Bt_s hr rfl rfl
theorem q_button3 (hr : q_R s) (h : s 94 = 1) : q_Bt (pf_X9_feelButton 3 (s 52) (q_mh s) s l x y) (pl_X12_press_18 3 0 s l u v) s l x y (pj_u u 1 0) v := by
  have r81 := q_R81 hr
  have r82 := q_R82 hr
  have r52 : 0 ≤ (s 52).toInt ∧ (s 52).toInt ≤ 30000 := hr 52
  have o0 : (0 : Int32).toInt = 0 := rfl
  have o100 : (100 : Int32).toInt = 100 := rfl
  have o2 : (20000 : Int32).toInt = 20000 := rfl
  have o3 : (3000 : Int32).toInt = 3000 := rfl
  have F : pf_X9_feelButton 3 (s 52) (q_mh s) s l x y = (if s 81 = 2 then some ((), pj_u s 81 1, l, x, y) else some ((), s, l, x, y)) := rfl
  have G : pl_X12_press_18 3 0 s l u v = (if s 94 = 1 then (if s 81 = 2 then some (1, pj_u s 81 1, l, pj_u u 1 0, v) else some (s 81, s, l, pj_u u 1 0, v)) else some (s 81, s, l, pj_u u 1 0, v)) := rfl
  rw [F, G, if_pos h]
  by_cases c : s 81 = 2
  · rw [if_pos c, if_pos c]
    refine ⟨_, rfl, by rw [q_ua], q_R_81 hr (by decide) (by decide), ?_⟩
    intro w hw; rw [q_un (by omega)]
  · rw [if_neg c, if_neg c]
    exact q_Bt_s hr rfl rfl
theorem q_button4 (hr : q_R s) (h : s 94 = 1) : q_Bt (pf_X9_feelButton 4 (s 52) (q_mh s) s l x y) (pl_X12_press_18 4 0 s l u v) s l x y (pj_u u 1 0) v := by
  have r81 := q_R81 hr
  have r82 := q_R82 hr
  have r52 : 0 ≤ (s 52).toInt ∧ (s 52).toInt ≤ 30000 := hr 52
  have o0 : (0 : Int32).toInt = 0 := rfl
  have o100 : (100 : Int32).toInt = 100 := rfl
  have o2 : (20000 : Int32).toInt = 20000 := rfl
  have o3 : (3000 : Int32).toInt = 3000 := rfl
  have F : pf_X9_feelButton 4 (s 52) (q_mh s) s l x y = (if s 81 = 2 then pj_b (pf_J9_min_7cf53 20000 (s 82 + 100) s l x y) (fun r1 s1 l1 x1 y1 => some ((), (pj_u s1 82 r1), l1, x1, y1)) else some ((), s, l, x, y)) := rfl
  have G : pl_X12_press_18 4 0 s l u v = (if s 94 = 1 then (if s 81 = 2 then (if 20000 < (s 82 + 100) then pl_X12_press_226 20000 s l (pj_u u 1 0) v else pl_X12_press_226 (s 82 + 100) s l (pj_u u 1 0) v) else some (s 81, s, l, pj_u u 1 0, v)) else some (s 81, s, l, pj_u u 1 0, v)) := rfl
  rw [F, G, if_pos h]
  by_cases c : s 81 = 2
  · rw [if_pos c, if_pos c, q_min, q_b]
    unfold pl_X12_press_226
    have e : (s 82 + 100).toInt = (s 82).toInt + 100 := by rw [q_add (by rw [o100]; omega) (by rw [o100]; omega), o100]
    by_cases c2 : 20000 < s 82 + 100
    · have c3 : ¬ s 82 + 100 < 20000 := by rw [Int32.lt_iff_toInt_lt] at c2 ⊢; omega
      rw [if_pos c2, if_neg c3]
      refine ⟨_, rfl, by rw [q_un (by omega)], q_R_82 hr (by decide) (by decide), ?_⟩
      intro w hw; rw [q_un (by omega)]
    · rw [if_neg c2]
      have c4 : (if s 82 + 100 < 20000 then s 82 + 100 else 20000) = s 82 + 100 := by
        by_cases q : s 82 + 100 < 20000
        · rw [if_pos q]
        · rw [if_neg q]
          rw [Int32.lt_iff_toInt_lt] at c2 q
          rw [← Int32.toInt_inj]; omega
      rw [c4]
      rw [Int32.lt_iff_toInt_lt, o2] at c2
      refine ⟨_, rfl, by rw [q_un (by omega)], q_R_82 hr (by omega) (by omega), ?_⟩
      intro w hw; rw [q_un (by omega)]
  · rw [if_neg c, if_neg c]
    exact q_Bt_s hr rfl rfl
theorem q_button5 (hr : q_R s) (h : s 94 = 1) : q_Bt (pf_X9_feelButton 5 (s 52) (q_mh s) s l x y) (pl_X12_press_18 5 0 s l u v) s l x y (pj_u u 1 0) v := by
  have r81 := q_R81 hr
  have r82 := q_R82 hr
  have r52 : 0 ≤ (s 52).toInt ∧ (s 52).toInt ≤ 30000 := hr 52
  have o0 : (0 : Int32).toInt = 0 := rfl
  have o100 : (100 : Int32).toInt = 100 := rfl
  have o2 : (20000 : Int32).toInt = 20000 := rfl
  have o3 : (3000 : Int32).toInt = 3000 := rfl
  have F : pf_X9_feelButton 5 (s 52) (q_mh s) s l x y = (if s 81 = 2 then pj_b (pf_J9_max_7cf53 3000 (s 82 - 100) s l x y) (fun r1 s1 l1 x1 y1 => some ((), (pj_u s1 82 r1), l1, x1, y1)) else some ((), s, l, x, y)) := rfl
  have G : pl_X12_press_18 5 0 s l u v = (if s 94 = 1 then (if s 81 = 2 then (if (s 82 - 100) < 3000 then pl_X12_press_272 3000 s l (pj_u u 1 0) v else pl_X12_press_272 (s 82 - 100) s l (pj_u u 1 0) v) else some (s 81, s, l, pj_u u 1 0, v)) else some (s 81, s, l, pj_u u 1 0, v)) := rfl
  rw [F, G, if_pos h]
  by_cases c : s 81 = 2
  · rw [if_pos c, if_pos c, q_max, q_b]
    unfold pl_X12_press_272
    have e : (s 82 - 100).toInt = (s 82).toInt - 100 := by rw [q_sub (by rw [o100]; omega) (by rw [o100]; omega), o100]
    by_cases c2 : s 82 - 100 < 3000
    · have c3 : ¬ 3000 < s 82 - 100 := by rw [Int32.lt_iff_toInt_lt] at c2 ⊢; omega
      rw [if_pos c2, if_neg c3]
      refine ⟨_, rfl, by rw [q_un (by omega)], q_R_82 hr (by decide) (by decide), ?_⟩
      intro w hw; rw [q_un (by omega)]
    · rw [if_neg c2]
      have c4 : (if 3000 < s 82 - 100 then s 82 - 100 else 3000) = s 82 - 100 := by
        by_cases q : 3000 < s 82 - 100
        · rw [if_pos q]
        · rw [if_neg q]
          rw [Int32.lt_iff_toInt_lt] at c2 q
          rw [← Int32.toInt_inj]; omega
      rw [c4]
      rw [Int32.lt_iff_toInt_lt, o3] at c2
      refine ⟨_, rfl, by rw [q_un (by omega)], q_R_82 hr (by omega) (by omega), ?_⟩
      intro w hw; rw [q_un (by omega)]
  · rw [if_neg c, if_neg c]
    exact q_Bt_s hr rfl rfl
theorem q_button (hr : q_R s) (h : s 94 = 1) (ha : a = 0 ∨ a = 1 ∨ a = 2 ∨ a = 3 ∨ a = 4 ∨ a = 5) : q_Bt (pf_X9_feelButton a (s 52) (q_mh s) s l x y) (pl_X12_press_18 a 0 s l u v) s l x y (pj_u u 1 0) v := by
  rcases ha with z | z | z | z | z | z
  · rw [z]; exact q_button0 hr h
  · rw [z]; exact q_button1 hr h
  · rw [z]; exact q_button2 hr h
  · rw [z]; exact q_button3 hr h
  · rw [z]; exact q_button4 hr h
  · rw [z]; exact q_button5 hr h
theorem q_in5 (h1 : ¬ a < 0) (h2 : ¬ 5 < a) : a = 0 ∨ a = 1 ∨ a = 2 ∨ a = 3 ∨ a = 4 ∨ a = 5 := by
  rw [Int32.lt_iff_toInt_lt] at h1 h2
  have o : (0 : Int32).toInt = 0 := rfl
  have o5 : (5 : Int32).toInt = 5 := rfl
  have : a.toInt = 0 ∨ a.toInt = 1 ∨ a.toInt = 2 ∨ a.toInt = 3 ∨ a.toInt = 4 ∨ a.toInt = 5 := by omega
  rcases this with z | z | z | z | z | z
  · exact Or.inl (by rw [← Int32.toInt_inj, z]; rfl)
  · exact Or.inr (Or.inl (by rw [← Int32.toInt_inj, z]; rfl))
  · exact Or.inr (Or.inr (Or.inl (by rw [← Int32.toInt_inj, z]; rfl)))
  · exact Or.inr (Or.inr (Or.inr (Or.inl (by rw [← Int32.toInt_inj, z]; rfl))))
  · exact Or.inr (Or.inr (Or.inr (Or.inr (Or.inl (by rw [← Int32.toInt_inj, z]; rfl)))))
  · exact Or.inr (Or.inr (Or.inr (Or.inr (Or.inr (by rw [← Int32.toInt_inj, z]; rfl)))))
theorem q_F_press (hV : q_V k s l x y u v) (h1 : ¬ a < 0) (h2 : ¬ 5 < a) : q_Fa (k + 1) (pf_X11_press a s l x y) (pf_X12_press a s l u v) := by
  have q1 : pf_X12_isIn a.toInt64 0 5 s l u v = some (if a < 0 then 0 else if 5 < a then 0 else 1, s, l, u, v) := q_isI a 0 5
  unfold pf_X11_press pf_X12_press
  rw [q1, q_b, q_in1 h1 h2, if_neg q_n10, if_neg h1, if_neg h2]
  by_cases c : s 94 = 1
  · obtain ⟨s1, F, G, r1, g⟩ := q_button (l := l) (x := x) (y := y) (u := u) (v := v) hV.1.1 c (q_in5 h1 h2)
    rw [if_pos c, q_mhC, q_b, F, q_b, G]
    have n0 : ¬ s 94 = 0 := by rw [c]; decide
    exact q_Fa_s _ s1 rfl rfl (q_V_fo hV r1 (fun w hw => g w (by unfold q_Ss at hw; omega)) (fun z => absurd z n0))
  · unfold pl_X12_press_18
    rw [if_neg c, if_neg q_l00, if_neg c]
    exact q_Fa_s _ s rfl rfl (q_V_s hV)
theorem q_F_press0 (hV : q_V k s l x y u v) (h : a < 0 ∨ 5 < a) : q_Rf (k + 1) 1 s l x y (pf_X12_press a s l u v) := by
  have q1 : pf_X12_isIn a.toInt64 0 5 s l u v = some (if a < 0 then 0 else if 5 < a then 0 else 1, s, l, u, v) := q_isI a 0 5
  unfold pf_X12_press pl_X12_press_18
  rw [q1, q_b, q_in0 h, if_pos rfl, if_pos q_l01]
  exact q_Rf_s 0 1 rfl hV
end QBT

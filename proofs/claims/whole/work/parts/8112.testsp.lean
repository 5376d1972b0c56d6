/-! PURE: the tests: the pair, joined -/
section QTF
variable {s x u s' x' u' s1 x1 u1 s2 u2 : Nat → Int32} {l y v l' y' v' l2 v2 : Nat → Int64} {D E W : Int} {fu : Nat}
theorem q_bb {A R R2 : Type} (o : Option (R × pj_Z)) (f : R → (Nat → Int32) → (Nat → Int64) → (Nat → Int32) → (Nat → Int64) → Option (R2 × pj_Z)) (g : R2 → (Nat → Int32) → (Nat → Int64) → (Nat → Int32) → (Nat → Int64) → Option A) : pj_b (pj_b o f) g = pj_b o (fun r s l x y => pj_b (f r s l x y) g) := by
  cases o <;> rfl
theorem q_fin (h0 : ¬ s 94 = 0) (hJ : q_J D E W l y v s x u s1 x1 u1) : q_Go D E W l y v s x u (some ((), (pj_u (pj_u (pj_u (pj_u s1 89 (s1 21)) 90 (s1 23)) 91 (s1 60)) 92 (s1 59)), l, x1, y)) (some ((), (pj_u (pj_u (pj_u (pj_u s1 89 (s1 21)) 90 (s1 23)) 91 (s1 60)) 92 (s1 59)), l, u1, v)) := by
  obtain ⟨h1, h2, h3, h4⟩ := hJ
  refine ⟨_, _, _, rfl, rfl, q_I_s h1 (by rw [h2 94 (by omega) (by omega) (by omega)]; exact h0) (q_R_u (q_R_u (q_R_u (q_R_u h1.1 q_R_any) q_R_any) q_R_any) q_R_any) ?_, ?_, h3, h4⟩
  · intro w hw
    unfold q_Ss at hw
    rw [q_un (by omega), q_un (by omega), q_un (by omega), q_un (by omega)]
  · intro w a b c
    rw [q_un (by omega), q_un (by omega), q_un (by omega), q_un (by omega), h2 w a b c]
theorem q_rest (h0 : ¬ s 94 = 0) (hJ : q_J D E W l y v s x u s1 x1 u1) : q_Go D E W l y v s x u (pf_X11_testRest s1 l x1 y) (pl_X12_tests_159 fu (x1 15) (if s1 30 = 0 then (if x1 14 = 0 then 0 else 1) else 0) s1 l u1 v) := by
  have e14 : (if x1 14 = 0 then (0 : Int32) else if s1 30 = 0 then 1 else 0) = (if s1 30 = 0 then (if x1 14 = 0 then 0 else 1) else 0) := by
    by_cases a : x1 14 = 0
    · by_cases b : s1 30 = 0
      · simp only [if_pos a, if_pos b]
      · simp only [if_pos a, if_neg b]
    · by_cases b : s1 30 = 0
      · simp only [if_neg a, if_pos b]
      · simp only [if_neg a, if_neg b]
  have t19 : ∀ (s2 : Nat → Int32), (∀ w, w < 40000 → ¬ w = 87 → (w < 89 ∨ 92 < w) → s2 w = s w) → (if s2 19 = 3 then (1 : Int32) else 0) = (if s1 19 = 3 then 1 else 0) := by
    intro s2 h
    rw [h 19 (by omega) (by omega) (by omega), hJ.2.1 19 (by omega) (by omega) (by omega)]
  rw [q_c16, q_c52, q_r159, e14]
  refine q_js h0 hJ (k := 12) (by omega) rfl rfl rfl ?_
  intro s2 x2 u2 j2
  rw [q_c90, q_r188]
  refine q_js h0 j2 (k := 13) (by omega) rfl rfl rfl ?_
  intro s3 x3 u3 j3
  refine q_js h0 j3 (k := 14) (by omega) rfl rfl rfl ?_
  intro s4 x4 u4 j4
  rw [q_c132, q_r234]
  refine q_js h0 j4 (k := 15) (by omega) rfl rfl (t19 s4 j4.2.1) ?_
  intro s5 x5 u5 j5
  rw [q_c193, q_r284]
  refine q_js h0 j5 (k := 16) (by omega) rfl rfl ?_ ?_
  · rw [← t19 s5 j5.2.1]
    by_cases a : s5 19 = 3
    · simp only [if_pos a]
      by_cases b : s5 22 = 0
      · simp only [if_pos b]; rfl
      · simp only [if_neg b]; rfl
    · simp only [if_neg a]; rfl
  intro s6 x6 u6 j6
  have r41 := q_R41 j6.1.1
  have e17 : (if s6 41 = 1000 then (1 : Int32) else 0) = (if s6 41 < 1000 then 0 else 1) := by
    by_cases a : s6 41 = 1000
    · rw [if_pos a, if_neg (by rw [a]; decide)]
    · have b : s6 41 < 1000 := by
        rw [← Int32.toInt_inj] at a
        rw [Int32.lt_iff_toInt_lt]
        simp only [Int32.reduceToInt] at a ⊢
        omega
      rw [if_neg a, if_pos b]
  unfold pl_X11_testRest_242 pl_X12_tests_324
  refine q_js h0 j6 (k := 17) (by omega) rfl e17 rfl ?_
  intro s7 x7 u7 j7
  have hw := j7.1.2.2.2.1
  have h5 := (q_x5 hw).1
  have cv := q_caV (x7 5) (s7 34004) h5
  rw [q_cellC, q_b, q_cellR hw rfl rfl, q_b, q_gi cv.1 (by omega), q_gi cv.1 (by omega)]
  have kk : ∀ b, q_Go D E W l y v s x u (pl_X11_testRest_294 b s7 l x7 y) (pl_X12_tests_371 fu b s7 l u7 v) := by
    intro b
    rw [q_c294, q_r371]
    refine q_js h0 j7 (k := 18) (by omega) rfl rfl rfl ?_
    intro s8 x8 u8 j8
    refine q_js h0 j8 (k := 19) (by omega) rfl rfl rfl ?_
    intro s9 x9 u9 j9
    exact q_fin h0 j9
  unfold pl_X11_testRest_293 pl_X12_tests_370 pl_X12_tests_366
  rw [q_abs, q_b]
  by_cases c40 : s7 40 = 0
  · rw [if_pos c40, if_pos c40]
    exact kk 0
  · rw [if_neg c40, if_neg c40]
    have a43 := q_R43 j7.1.1
    have a9 := j7.1.1 (9000 + (q_ca (x7 5) (s7 34004)).toNatClampNeg)
    have cn := q_clampI cv.1
    have z9 : q_rg (9000 + (q_ca (x7 5) (s7 34004)).toNatClampNeg) = (-100, 100) := by
      unfold q_rg
      rw [show (9000 + (q_ca (x7 5) (s7 34004)).toNatClampNeg) / 1000 = 9 by omega]
      rfl
    rw [z9] at a9
    generalize s7 (9000 + (q_ca (x7 5) (s7 34004)).toNatClampNeg) = B at a9
    have e : (s7 43 + B).toInt = (s7 43).toInt + B.toInt := q_add (by omega) (by omega)
    have en : (-(s7 43 + B)).toInt = -((s7 43).toInt + B.toInt) := by
      rw [Int32.toInt_neg, e, q_bm (by omega) (by omega)]
    have zm : (-240 : Int32).toInt = -240 := rfl
    by_cases d1 : s7 43 + B < 240
    · rw [if_pos d1]
      by_cases d2 : -240 < s7 43 + B
      · have d3 : (if s7 43 + B < 0 then -(s7 43 + B) else s7 43 + B) < 240 := by
          rw [Int32.lt_iff_toInt_lt] at d1 d2 ⊢
          rw [e] at d1 d2
          rw [zm] at d2
          simp only [q_ifI, Int32.lt_iff_toInt_lt, e, en, Int32.reduceToInt] at d1 d2 ⊢
          split <;> omega
        rw [if_pos d2, if_pos d3]
        exact kk 0
      · have d3 : ¬ (if s7 43 + B < 0 then -(s7 43 + B) else s7 43 + B) < 240 := by
          rw [Int32.lt_iff_toInt_lt] at d1 d2 ⊢
          rw [e] at d1 d2
          rw [zm] at d2
          simp only [q_ifI, Int32.lt_iff_toInt_lt, e, en, Int32.reduceToInt] at d1 d2 ⊢
          split <;> omega
        rw [if_neg d2, if_neg d3]
        exact kk 1
    · have d3 : ¬ (if s7 43 + B < 0 then -(s7 43 + B) else s7 43 + B) < 240 := by
        rw [Int32.lt_iff_toInt_lt] at d1 ⊢
        rw [e] at d1
        simp only [q_ifI, Int32.lt_iff_toInt_lt, e, en, Int32.reduceToInt] at d1 ⊢
        split <;> omega
      rw [if_neg d1, if_neg d3]
      exact kk 1
theorem q_chan (h0 : ¬ s 94 = 0) (hJ : q_J D E W l y v s x u s1 x1 u1) : q_Go D E W l y v s x u (pj_b (pl_X11_testChannels_74 fu (if s1 36000 = 0 then (if s1 36001 = 0 then 1 else 0) else 0) s1 l x1 y) (fun _ s2 l2 x2 y2 => pf_X11_testRest s2 l2 x2 y2)) (pl_X12_tests_86 fu (x 14) (x 15) (if s1 73 < 10 then 0 else 1) (if s1 73 = 0 then (if s1 36000 = 0 then (if s1 36001 = 0 then 1 else 0) else 0) else 0) s1 l u1 v) := by
  have n1 : ¬ (1 : Int32) = 0 := by decide
  rw [q_c74, q_c104, q_c144, q_r86, q_bb]
  refine q_js h0 hJ (k := 10) (by omega) rfl rfl ?_ ?_
  · by_cases a : s1 73 = 0
    · simp only [if_pos a]
      by_cases b : s1 36000 = 0
      · simp only [if_pos b]
        by_cases c : s1 36001 = 0
        · simp only [if_pos c, if_neg n1]
        · simp only [if_neg c, if_true]
      · simp only [if_neg b, if_true]
    · simp only [if_neg a]
  intro s2 x2 u2 j2
  rw [q_c167, q_r136, q_bb]
  have f2 : s2 36002 = s1 36002 := by rw [j2.2.1 _ (by omega) (by omega) (by omega), hJ.2.1 _ (by omega) (by omega) (by omega)]
  have f3 : s2 36003 = s1 36003 := by rw [j2.2.1 _ (by omega) (by omega) (by omega), hJ.2.1 _ (by omega) (by omega) (by omega)]
  refine q_js h0 j2 (k := 11) (by omega) rfl rfl ?_ ?_
  · rw [f2, f3]
    by_cases a : s2 74 = 0
    · simp only [if_pos a]
      by_cases b : s1 36002 = 0
      · simp only [if_pos b]
        by_cases c : s1 36003 = 0
        · simp only [if_pos c, if_neg n1]
        · simp only [if_neg c, if_true]
      · simp only [if_neg b, if_true]
    · simp only [if_neg a]
  intro s3 x3 u3 j3
  have g14 : x 14 = x3 14 := (j3.2.2.1 14 (by omega)).symm
  have g15 : x 15 = x3 15 := (j3.2.2.1 15 (by omega)).symm
  rw [q_b, g14, g15]
  exact q_rest h0 j3
theorem q_ten (h0 : ¬ s 94 = 0) : ∀ (m k f : Nat) (s1 x1 u1 : Nat → Int32), k + m = 10 → m < f → q_J D E W l y v s x u s1 x1 u1 → q_Go D E W l y v s x u (pj_b (pl_X11_testChannels_2 fu f (Int32.ofNat k) s1 l x1 y) (fun _ s2 l2 x2 y2 => pf_X11_testRest s2 l2 x2 y2)) (pl_X12_tests_2 fu f (x 14) (x 15) (Int32.ofNat k) s1 l u1 v) := by
  intro m
  induction m with
  | zero =>
    intro k f s1 x1 u1 hk hf hJ
    obtain ⟨f, rfl⟩ : ∃ f9, f = f9 + 1 := ⟨f - 1, by omega⟩
    obtain rfl : k = 10 := by omega
    rw [q_c2b, q_r2b]
    exact q_chan h0 hJ
  | succ m ih =>
    intro k f s1 x1 u1 hk hf hJ
    obtain ⟨f, rfl⟩ : ∃ f9, f = f9 + 1 := ⟨f - 1, by omega⟩
    rw [q_c2a (by omega), q_r2a (by omega), q_bb]
    refine q_js h0 hJ (k := k) (by omega) rfl rfl rfl ?_
    intro s2 x2 u2 j2
    exact ih (k + 1) f s2 x2 u2 (by omega) (by omega) j2
theorem q_testsP (hI : q_I D E W s l x y u v) (h0 : ¬ s 94 = 0) : q_Go D E W l y v s x u (pj_b (pf_X11_testChannels s l x y) (fun _ s2 l2 x2 y2 => pf_X11_testRest s2 l2 x2 y2)) (pf_X12_tests (x 14) (x 15) s l u v) :=
  q_ten (fu := 1000) h0 10 0 1000 s x u (by omega) (by omega) ⟨hI, fun _ _ _ _ => rfl, fun _ _ => rfl, fun _ _ => rfl⟩
end QTF

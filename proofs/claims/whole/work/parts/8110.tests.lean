/-! PURE: the tests: the pair -/
section QTE
variable {s x u s' x' u' s1 x1 u1 s2 u2 : Nat → Int32} {l y v l' y' v' l2 v2 : Nat → Int64} {D E W : Int} {fu : Nat}
/-- behind some tests -/
def q_J (D E W : Int) (l y v : Nat → Int64) (s x u s' x' u' : Nat → Int32) : Prop := q_I D E W s' l x' y u' v ∧ (∀ w, w < 40000 → ¬ w = 87 → (w < 89 ∨ 92 < w) → s' w = s w) ∧ (∀ w, w < 8000 ∨ 8008 ≤ w → x' w = x w) ∧ (∀ w, w < 10000 ∨ 10008 ≤ w → u' w = u w)
def q_Go (D E W : Int) (l y v : Nat → Int64) (s x u : Nat → Int32) (F G : Option (Unit × pj_Z)) : Prop := ∃ s' x' u', F = some ((), s', l, x', y) ∧ G = some ((), s', l, u', v) ∧ q_J D E W l y v s x u s' x' u'
theorem q_js (h0 : ¬ s 94 = 0) (hJ : q_J D E W l y v s x u s1 x1 u1) {k : Nat} (hk : k < 28) {kk a2 a3 b2 b3 : Int32} (hkk : kk = Int32.ofNat k) (e2 : b2 = a2) (e3 : b3 = a3) {F G : Unit → (Nat → Int32) → (Nat → Int64) → (Nat → Int32) → (Nat → Int64) → Option (Unit × pj_Z)} (h : ∀ s2 x2 u2, q_J D E W l y v s x u s2 x2 u2 → q_Go D E W l y v s x u (F () s2 l x2 y) (G () s2 l u2 v)) : q_Go D E W l y v s x u (pj_b (pf_X11_judge kk a2 a3 s1 l x1 y) F) (pj_b (pf_X12_test kk b2 b3 s1 l u1 v) G) := by
  obtain ⟨h1, h2, h3, h4⟩ := hJ
  obtain ⟨s', x', u', f1, f2, f3, f4, f5, f6⟩ := q_judgeP (k := k) h1 (by rw [h2 94 (by omega) (by omega) (by omega)]; exact h0) hk a2 a3
  rw [hkk, e2, e3, f1, f2, q_b, q_b]
  refine h s' x' u' ⟨f3, ?_, ?_, ?_⟩
  · intro w a b c; rw [f4 w a b, h2 w a b c]
  · intro w a; rw [f5 w a, h3 w a]
  · intro w a; rw [f6 w a, h4 w a]
-- class, stage by stage
theorem q_c167 (a2 b2 : Int32) : pl_X11_testChannels_167 fu a2 b2 s l x y = pj_b (pf_X11_judge 11 b2 (if s 74 = 0 then (if a2 = 0 then 0 else 1) else 0) s l x y) (fun _ s1 l1 x1 y1 => some ((), s1, l1, x1, y1)) := by
  unfold pl_X11_testChannels_167 pl_X11_testChannels_185 pl_X11_testChannels_186
  split
  · split <;> rfl
  · rfl
theorem q_c144 (a2 b2 b3 : Int32) : pl_X11_testChannels_144 fu a2 b2 b3 s l x y = pj_b (pf_X11_judge 10 b2 b3 s l x y) (fun _ s1 l1 x1 y1 => pl_X11_testChannels_167 fu a2 (if s1 74 < 10 then 0 else 1) s1 l1 x1 y1) := by
  unfold pl_X11_testChannels_144
  congr 1
  funext r s1 l1 x1 y1
  split <;> rfl
theorem q_c104 (a1 a2 : Int32) : pl_X11_testChannels_104 fu a1 a2 s l x y = pl_X11_testChannels_144 fu a2 (if s 73 < 10 then 0 else 1) (if s 73 = 0 then (if a1 = 0 then 0 else 1) else 0) s l x y := by
  unfold pl_X11_testChannels_104 pl_X11_testChannels_125 pl_X11_testChannels_143
  split
  · split
    · split <;> rfl
    · rfl
  · split
    · split <;> rfl
    · rfl
theorem q_c74 (a1 : Int32) : pl_X11_testChannels_74 fu a1 s l x y = pl_X11_testChannels_104 fu a1 (if s 36002 = 0 then (if s 36003 = 0 then 1 else 0) else 0) s l x y := by
  unfold pl_X11_testChannels_74 pl_X11_testChannels_103
  split
  · split <;> rfl
  · rfl
theorem q_c2a {k f : Nat} (hk : k < 10) : pl_X11_testChannels_2 fu (f + 1) (Int32.ofNat k) s l x y = pj_b (pf_X11_judge (Int32.ofNat k) (s (36000 + k)) (if s (35000 + k) = 0 then 1 else 0) s l x y) (fun _ s1 l1 x1 y1 => pl_X11_testChannels_2 fu f (Int32.ofNat (k + 1)) s1 l1 x1 y1) := by
  rw [pl_X11_testChannels_2]
  unfold pl_X11_testChannels_36
  simp (disch := omega) only [q_g, q_onC, q_onltL, if_pos hk, q_onaL]
  split <;> rfl
theorem q_c2b {f : Nat} : pl_X11_testChannels_2 fu (f + 1) (Int32.ofNat 10) s l x y = pl_X11_testChannels_74 fu (if s 36000 = 0 then (if s 36001 = 0 then 1 else 0) else 0) s l x y := by
  have c : ¬ Int32.ofNat 10 < 10 := by decide
  rw [pl_X11_testChannels_2, if_neg c]
  unfold pl_X11_testChannels_73
  split
  · split <;> rfl
  · rfl
-- reference
theorem q_r2a {k f : Nat} (hk : k < 10) (a1 a2 : Int32) : pl_X12_tests_2 fu (f + 1) a1 a2 (Int32.ofNat k) s l u v = pj_b (pf_X12_test (Int32.ofNat k) (s (36000 + k)) (if s (35000 + k) = 0 then 1 else 0) s l u v) (fun _ s1 l1 x1 y1 => pl_X12_tests_2 fu f a1 a2 (Int32.ofNat (k + 1)) s1 l1 x1 y1) := by
  rw [pl_X12_tests_2]
  unfold pl_X12_tests_30
  simp (disch := omega) only [q_g, q_onC, q_onltL, if_pos hk, q_onaL]
  split <;> rfl
theorem q_r2b {f : Nat} (a1 a2 : Int32) : pl_X12_tests_2 fu (f + 1) a1 a2 (Int32.ofNat 10) s l u v = pl_X12_tests_86 fu a1 a2 (if s 73 < 10 then 0 else 1) (if s 73 = 0 then (if s 36000 = 0 then (if s 36001 = 0 then 1 else 0) else 0) else 0) s l u v := by
  have c : ¬ Int32.ofNat 10 < 10 := by decide
  rw [pl_X12_tests_2, if_neg c]
  unfold pl_X12_tests_56 pl_X12_tests_85
  split
  · split
    · split
      · split <;> rfl
      · rfl
    · rfl
  · split
    · split
      · split <;> rfl
      · rfl
    · rfl
theorem q_r86 (a1 a2 b2 b3 : Int32) : pl_X12_tests_86 fu a1 a2 b2 b3 s l u v = pj_b (pf_X12_test 10 b2 b3 s l u v) (fun _ s1 l1 x1 y1 => pl_X12_tests_136 fu a1 a2 (if s1 74 < 10 then 0 else 1) (if s1 74 = 0 then (if s1 36002 = 0 then (if s1 36003 = 0 then 1 else 0) else 0) else 0) s1 l1 x1 y1) := by
  unfold pl_X12_tests_86 pl_X12_tests_106 pl_X12_tests_135
  congr 1
  funext r s1 l1 x1 y1
  split
  · split
    · split
      · split <;> rfl
      · rfl
    · rfl
  · split
    · split
      · split <;> rfl
      · rfl
    · rfl
theorem q_r136 (a1 a2 b2 b3 : Int32) : pl_X12_tests_136 fu a1 a2 b2 b3 s l u v = pj_b (pf_X12_test 11 b2 b3 s l u v) (fun _ s1 l1 x1 y1 => pl_X12_tests_159 fu a2 (if s1 30 = 0 then (if a1 = 0 then 0 else 1) else 0) s1 l1 x1 y1) := by
  unfold pl_X12_tests_136 pl_X12_tests_158
  congr 1
  funext r s1 l1 x1 y1
  split
  · split <;> rfl
  · rfl
theorem q_r159 (b2 b3 : Int32) : pl_X12_tests_159 fu b2 b3 s l u v = pj_b (pf_X12_test 12 b2 b3 s l u v) (fun _ s1 l1 x1 y1 => pl_X12_tests_188 fu (s1 36) (if s1 31 = 0 then 0 else if s1 35 = 0 then 1 else 0) s1 l1 x1 y1) := by
  unfold pl_X12_tests_159 pl_X12_tests_187
  congr 1
  funext r s1 l1 x1 y1
  split
  · rfl
  · split <;> rfl
theorem q_r188 (b2 b3 : Int32) : pl_X12_tests_188 fu b2 b3 s l u v = pj_b (pf_X12_test 13 b2 b3 s l u v) (fun _ s1 l1 x1 y1 => pj_b (pf_X12_test 14 (s1 37) 1 s1 l1 x1 y1) (fun _ s2 l2 x2 y2 => pl_X12_tests_234 fu (if s2 89 < s2 21 then 1 else 0) (if s2 19 = 3 then 1 else 0) s2 l2 x2 y2)) := by
  unfold pl_X12_tests_188 pl_X12_tests_221
  congr 1
  funext r s1 l1 x1 y1
  congr 1
  funext r s1 l1 x1 y1
  split
  · split <;> rfl
  · split <;> rfl
def q_cb (s : Nat → Int32) : Int32 := if s 22 < 3 then (if s 90 < s 23 then 1 else 0) else 1
theorem q_r234 (b2 b3 : Int32) : pl_X12_tests_234 fu b2 b3 s l u v = pj_b (pf_X12_test 15 b2 b3 s l u v) (fun _ s1 l1 x1 y1 => pl_X12_tests_284 fu (q_cb s1) (if s1 19 = 3 then (if s1 22 = 0 then 1 else 0) else 0) s1 l1 x1 y1) := by
  unfold pl_X12_tests_234 pl_X12_tests_259 pl_X12_tests_264 pl_X12_tests_283 q_cb
  congr 1
  funext r s1 l1 x1 y1
  split
  · split
    · split
      · split <;> rfl
      · rfl
    · split
      · split <;> rfl
      · rfl
  · split
    · split <;> rfl
    · rfl
theorem q_r284 (b2 b3 : Int32) : pl_X12_tests_284 fu b2 b3 s l u v = pj_b (pf_X12_test 16 b2 b3 s l u v) (fun _ s1 l1 x1 y1 => pl_X12_tests_324 fu (if s1 41 = 1000 then 1 else 0) (if s1 40 = 0 then 0 else if s1 41 = 0 then 1 else 0) s1 l1 x1 y1) := by
  unfold pl_X12_tests_284 pl_X12_tests_305 pl_X12_tests_323
  congr 1
  funext r s1 l1 x1 y1
  split
  · split
    · rfl
    · split <;> rfl
  · split
    · rfl
    · split <;> rfl
theorem q_r371 (b2 : Int32) : pl_X12_tests_371 fu b2 s l u v = pj_b (pf_X12_test 18 b2 (s 40) s l u v) (fun _ s1 l1 x1 y1 => pj_b (pf_X12_test 19 (if s1 91 < s1 60 then 1 else 0) (if s1 92 < s1 59 then 1 else 0) s1 l1 x1 y1) (fun _ s1 l1 x1 y1 => some ((), (pj_u (pj_u (pj_u (pj_u s1 89 (s1 21)) 90 (s1 23)) 91 (s1 60)) 92 (s1 59)), l1, x1, y1))) := by
  unfold pl_X12_tests_371 pl_X12_tests_397 pl_X12_tests_413
  congr 1
  funext r s1 l1 x1 y1
  split
  · split <;> rfl
  · split <;> rfl
-- class: the rest
theorem q_c294 (b2 : Int32) : pl_X11_testRest_294 b2 s l x y = pj_b (pf_X11_judge 18 b2 (s 40) s l x y) (fun _ s1 l1 x1 y1 => pj_b (pf_X11_judge 19 (if s1 91 < s1 60 then 1 else 0) (if s1 92 < s1 59 then 1 else 0) s1 l1 x1 y1) (fun _ s1 l1 x1 y1 => some ((), (pj_u (pj_u (pj_u (pj_u s1 89 (s1 21)) 90 (s1 23)) 91 (s1 60)) 92 (s1 59)), l1, x1, y1))) := by
  unfold pl_X11_testRest_294 pl_X11_testRest_329 pl_X11_testRest_351
  congr 1
  funext r s1 l1 x1 y1
  split
  · split <;> rfl
  · split <;> rfl
theorem q_c193 (b2 b3 : Int32) : pl_X11_testRest_193 b2 b3 s l x y = pj_b (pf_X11_judge 16 b2 b3 s l x y) (fun _ s1 l1 x1 y1 => pl_X11_testRest_242 (if s1 41 < 1000 then 0 else 1) (if s1 40 = 0 then 0 else if s1 41 = 0 then 1 else 0) s1 l1 x1 y1) := by
  unfold pl_X11_testRest_193 pl_X11_testRest_217 pl_X11_testRest_241
  congr 1
  funext r s1 l1 x1 y1
  split
  · split
    · rfl
    · split <;> rfl
  · split
    · rfl
    · split <;> rfl
theorem q_c132 (a1 b2 : Int32) : pl_X11_testRest_132 a1 b2 s l x y = pj_b (pf_X11_judge 15 b2 a1 s l x y) (fun _ s1 l1 x1 y1 => pl_X11_testRest_193 (q_cb s1) (if a1 = 0 then 0 else if s1 22 = 0 then 1 else 0) s1 l1 x1 y1) := by
  unfold pl_X11_testRest_132 pl_X11_testRest_164 pl_X11_testRest_169 pl_X11_testRest_192 q_cb
  congr 1
  funext r s1 l1 x1 y1
  split
  · split
    · split
      · rfl
      · split <;> rfl
    · split
      · rfl
      · split <;> rfl
  · split
    · rfl
    · split <;> rfl
theorem q_c90 (a1 b2 b3 : Int32) : pl_X11_testRest_90 a1 b2 b3 s l x y = pj_b (pf_X11_judge 13 b2 b3 s l x y) (fun _ s1 l1 x1 y1 => pj_b (pf_X11_judge 14 (s1 37) 1 s1 l1 x1 y1) (fun _ s2 l2 x2 y2 => pl_X11_testRest_132 a1 (if s2 89 < s2 21 then 1 else 0) s2 l2 x2 y2)) := by
  unfold pl_X11_testRest_90
  congr 1
  funext r s1 l1 x1 y1
  congr 1
  funext r s1 l1 x1 y1
  split <;> rfl
theorem q_c52 (a1 b2 b3 : Int32) : pl_X11_testRest_52 a1 b2 b3 s l x y = pj_b (pf_X11_judge 12 b2 b3 s l x y) (fun _ s1 l1 x1 y1 => pl_X11_testRest_90 a1 (s1 36) (if s1 31 = 0 then 0 else if s1 35 = 0 then 1 else 0) s1 l1 x1 y1) := by
  unfold pl_X11_testRest_52 pl_X11_testRest_89
  congr 1
  funext r s1 l1 x1 y1
  split
  · rfl
  · split <;> rfl
theorem q_c16 : pf_X11_testRest s l x y = pl_X11_testRest_52 (if s 19 = 3 then 1 else 0) (x 15) (if x 14 = 0 then 0 else if s 30 = 0 then 1 else 0) s l x y := by
  unfold pf_X11_testRest pl_X11_testRest_16 pl_X11_testRest_51
  split
  · split
    · rfl
    · split <;> rfl
  · split
    · rfl
    · split <;> rfl
end QTE

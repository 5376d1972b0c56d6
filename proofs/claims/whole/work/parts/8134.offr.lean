/-! PURE: going OFF, reference -/
section QZ2
variable {s x u s' x' u' f f1 f2 : Nat → Int32} {l y v l' y' v' l2 v2 : Nat → Int64} {D E W : Int} {fu : Nat} {T : Nat → Option Int32} {K K1 K2 : Nat → Bool}
abbrev q_oRA : List (Nat × Int32) := [(19, 0), (21, 0), (22, 0), (23, 0), (24, 0), (25, 0), (27, 0), (28, 0), (26, 0), (57, 0), (58, 0), (59, 0), (60, 0)]
abbrev q_oRB : List (Nat × Int32) := [(95, 0), (73, 0), (74, 0), (71, 0), (72, 0), (75, 0), (76, 0), (77, 0), (80, 0), (78, 0), (79, 0), (29, 0), (30, 0), (31, 0), (34, 0), (35, 0), (32, 0), (33, 0), (36, 0), (37, 0), (38, 0), (39, 0), (40, 0), (41, 0), (42, 0), (96, 0), (89, 0), (90, 0), (91, 0), (92, 0)]
abbrev q_oRC : List (Nat × Int32) := [(87, 0), (43, 0)]
abbrev q_oRD : List (Nat × Int32) := [(88, 0), (62, 0), (66, 0), (63, 0), (64, 0), (65, 0), (67, 0), (68, 0)]
abbrev q_oRE : List (Nat × Int32) := [(85, 0), (86, 0), (81, 0), (82, 0), (83, 0), (84, 0), (6, 0), (7, 0), (8, 0), (16, 0), (17, 0), (9, 1000), (10, 20), (11, 0), (13, 0), (18, 0), (14, 0), (15, 0), (70, (-1))]
abbrev q_oUA : List (Nat × Int32) := [(4, 0), (5, 0), (7, 0), (10, 0)]
theorem q_t82 : ∀ (m i f : Nat) (s : Nat → Int32), i + m = 16 → m < f → ∃ g, pl_X12_forgetTrouble_82 fu f (Int32.ofNat i) s l u v = some ((), g, l, u, v) ∧ q_Z q_rz (fun w => decide ((9000 + i ≤ w ∧ w < 9016))) s g := by
  intro m
  induction m with
  | zero =>
    intro i f s e hf
    obtain ⟨f, rfl⟩ : ∃ f9, f = f9 + 1 := ⟨f - 1, by omega⟩
    have c1 : ¬ i < 16 := by omega
    refine ⟨s, by simp (disch := omega) only [pl_X12_forgetTrouble_82, q_onltL, if_neg c1], ?_⟩
    · intro w; rw [if_neg (by simp <;> omega)]
  | succ m ih =>
    intro i f s e hf
    obtain ⟨f, rfl⟩ : ∃ f9, f = f9 + 1 := ⟨f - 1, by omega⟩
    have c1 : i < 16 := by omega
    obtain ⟨g, e1, e2⟩ := ih (i + 1) f (pj_u (s) (9000 + i) 0) (by omega) (by omega)
    have z0 := q_Z_1 (T := q_rz) (f := s) (z := 9000 + i) (b := 0) (q_rz_9000 (by omega))
    refine ⟨g, ?_, q_Z_s z0 e2 (fun w => q_orD (by omega))⟩
    simp (disch := omega) only [pl_X12_forgetTrouble_82, q_onltL, if_pos c1, q_g, q_onC, q_onaL]
    exact e1
theorem q_t2 : ∀ (m i f : Nat) (s : Nat → Int32), i + m = 28 → m < f → ∃ g, pl_X12_forgetTrouble_2 fu f (Int32.ofNat i) s l u v = pl_X12_forgetTrouble_82 fu fu 0 (pj_u (pj_u g 87 0) 43 0) l u v ∧ q_Z q_rz (fun w => decide ((40000 + i ≤ w ∧ w < 40028) ∨ (40028 + i ≤ w ∧ w < 40056) ∨ (40140 + i ≤ w ∧ w < 40168) ∨ (40168 + i ≤ w ∧ w < 40196) ∨ (40196 + i ≤ w ∧ w < 40224) ∨ (40056 + i ≤ w ∧ w < 40084) ∨ (40084 + i ≤ w ∧ w < 40112) ∨ (40112 + i ≤ w ∧ w < 40140))) s g := by
  intro m
  induction m with
  | zero =>
    intro i f s e hf
    obtain ⟨f, rfl⟩ : ∃ f9, f = f9 + 1 := ⟨f - 1, by omega⟩
    have c1 : ¬ i < 28 := by omega
    refine ⟨s, by simp (disch := omega) only [pl_X12_forgetTrouble_2, q_onltL, if_neg c1], ?_⟩
    · intro w; rw [if_neg (by simp <;> omega)]
  | succ m ih =>
    intro i f s e hf
    obtain ⟨f, rfl⟩ : ∃ f9, f = f9 + 1 := ⟨f - 1, by omega⟩
    have c1 : i < 28 := by omega
    obtain ⟨g, e1, e2⟩ := ih (i + 1) f (pj_u (pj_u (pj_u (pj_u (pj_u (pj_u (pj_u (pj_u (s) (40000 + i) 0) (40028 + i) 0) (40140 + i) 0) (40168 + i) 0) (40196 + i) 0) (40056 + i) 0) (40084 + i) 0) (40112 + i) 0) (by omega) (by omega)
    have z0 := q_Z_1 (T := q_rz) (f := s) (z := 40000 + i) (b := 0) (q_rz_40000 (by omega))
    have z1 := q_Z_1 (T := q_rz) (f := pj_u (s) (40000 + i) 0) (z := 40028 + i) (b := 0) (by rw [show 40028 + i = 40000 + (28 + i) by omega]; exact q_rz_40000 (by omega))
    have y1 := q_Z_s (K := fun w => decide ((w = 40000 + i) ∨ w = 40028 + i)) z0 z1 (fun w => q_orD (by omega))
    have z2 := q_Z_1 (T := q_rz) (f := pj_u (pj_u (s) (40000 + i) 0) (40028 + i) 0) (z := 40140 + i) (b := 0) (by rw [show 40140 + i = 40000 + (140 + i) by omega]; exact q_rz_40000 (by omega))
    have y2 := q_Z_s (K := fun w => decide (((w = 40000 + i) ∨ w = 40028 + i) ∨ w = 40140 + i)) y1 z2 (fun w => q_orD (by omega))
    have z3 := q_Z_1 (T := q_rz) (f := pj_u (pj_u (pj_u (s) (40000 + i) 0) (40028 + i) 0) (40140 + i) 0) (z := 40168 + i) (b := 0) (by rw [show 40168 + i = 40000 + (168 + i) by omega]; exact q_rz_40000 (by omega))
    have y3 := q_Z_s (K := fun w => decide ((((w = 40000 + i) ∨ w = 40028 + i) ∨ w = 40140 + i) ∨ w = 40168 + i)) y2 z3 (fun w => q_orD (by omega))
    have z4 := q_Z_1 (T := q_rz) (f := pj_u (pj_u (pj_u (pj_u (s) (40000 + i) 0) (40028 + i) 0) (40140 + i) 0) (40168 + i) 0) (z := 40196 + i) (b := 0) (by rw [show 40196 + i = 40000 + (196 + i) by omega]; exact q_rz_40000 (by omega))
    have y4 := q_Z_s (K := fun w => decide (((((w = 40000 + i) ∨ w = 40028 + i) ∨ w = 40140 + i) ∨ w = 40168 + i) ∨ w = 40196 + i)) y3 z4 (fun w => q_orD (by omega))
    have z5 := q_Z_1 (T := q_rz) (f := pj_u (pj_u (pj_u (pj_u (pj_u (s) (40000 + i) 0) (40028 + i) 0) (40140 + i) 0) (40168 + i) 0) (40196 + i) 0) (z := 40056 + i) (b := 0) (by rw [show 40056 + i = 40000 + (56 + i) by omega]; exact q_rz_40000 (by omega))
    have y5 := q_Z_s (K := fun w => decide ((((((w = 40000 + i) ∨ w = 40028 + i) ∨ w = 40140 + i) ∨ w = 40168 + i) ∨ w = 40196 + i) ∨ w = 40056 + i)) y4 z5 (fun w => q_orD (by omega))
    have z6 := q_Z_1 (T := q_rz) (f := pj_u (pj_u (pj_u (pj_u (pj_u (pj_u (s) (40000 + i) 0) (40028 + i) 0) (40140 + i) 0) (40168 + i) 0) (40196 + i) 0) (40056 + i) 0) (z := 40084 + i) (b := 0) (by rw [show 40084 + i = 40000 + (84 + i) by omega]; exact q_rz_40000 (by omega))
    have y6 := q_Z_s (K := fun w => decide (((((((w = 40000 + i) ∨ w = 40028 + i) ∨ w = 40140 + i) ∨ w = 40168 + i) ∨ w = 40196 + i) ∨ w = 40056 + i) ∨ w = 40084 + i)) y5 z6 (fun w => q_orD (by omega))
    have z7 := q_Z_1 (T := q_rz) (f := pj_u (pj_u (pj_u (pj_u (pj_u (pj_u (pj_u (s) (40000 + i) 0) (40028 + i) 0) (40140 + i) 0) (40168 + i) 0) (40196 + i) 0) (40056 + i) 0) (40084 + i) 0) (z := 40112 + i) (b := 0) (by rw [show 40112 + i = 40000 + (112 + i) by omega]; exact q_rz_40000 (by omega))
    have y7 := q_Z_s (K := fun w => decide ((((((((w = 40000 + i) ∨ w = 40028 + i) ∨ w = 40140 + i) ∨ w = 40168 + i) ∨ w = 40196 + i) ∨ w = 40056 + i) ∨ w = 40084 + i) ∨ w = 40112 + i)) y6 z7 (fun w => q_orD (by omega))
    refine ⟨g, ?_, q_Z_s y7 e2 (fun w => q_orD (by omega))⟩
    simp (disch := omega) only [pl_X12_forgetTrouble_2, q_onltL, if_pos c1, q_g, q_onC, q_onaL]
    exact e1
theorem q_ro4 : ∀ (m i f : Nat) (s : Nat → Int32), i + m = 4 → m < f → ∃ g, pl_X12_forgetRoad_115 fu f (Int32.ofNat i) s l u v = some ((), g, l, pj_u u 29 0, v) ∧ q_Z q_rz (fun w => decide (2000 + i ≤ w ∧ w < 2004)) s g := by
  intro m
  induction m with
  | zero =>
    intro i f s e hf
    obtain ⟨f, rfl⟩ : ∃ f9, f = f9 + 1 := ⟨f - 1, by omega⟩
    have c1 : ¬ i < 4 := by omega
    refine ⟨s, by simp (disch := omega) only [pl_X12_forgetRoad_115, q_onltL, if_neg c1], ?_⟩
    intro w
    rw [if_neg (by simp <;> omega)]
  | succ m ih =>
    intro i f s e hf
    obtain ⟨f, rfl⟩ : ∃ f9, f = f9 + 1 := ⟨f - 1, by omega⟩
    have c1 : i < 4 := by omega
    obtain ⟨g, e1, e2⟩ := ih (i + 1) f (pj_u s (2000 + i) 0) (by omega) (by omega)
    refine ⟨g, ?_, q_Z_s (q_Z_1 (z := 2000 + i) (q_rz_2000 (by omega))) e2 (fun w => q_orD (by omega))⟩
    simp (disch := omega) only [pl_X12_forgetRoad_115, q_onltL, if_pos c1, q_g, q_onC, q_onaL]
    exact e1
theorem q_f97 : ∀ (m i f : Nat) (s u : Nat → Int32), i + m = 8 → m < f → ∃ g h, pl_X12_forget_97 fu f (Int32.ofNat i) s l u v = pl_X12_forget_160 fu fu 0 g l h v ∧ q_Z q_rz (fun w => decide ((8008 + i ≤ w ∧ w < 8016) ∨ (8000 + i ≤ w ∧ w < 8008) ∨ (8016 + i ≤ w ∧ w < 8024) ∨ (8024 + i ≤ w ∧ w < 8032) ∨ (18000 + i ≤ w ∧ w < 18008) ∨ (19000 + i ≤ w ∧ w < 19008))) s g ∧ q_Z q_ru (fun w => decide (3000 + i ≤ w ∧ w < 3008)) u h := by
  intro m
  induction m with
  | zero =>
    intro i f s u e hf
    obtain ⟨f, rfl⟩ : ∃ f9, f = f9 + 1 := ⟨f - 1, by omega⟩
    have c1 : ¬ i < 8 := by omega
    refine ⟨s, u, by simp (disch := omega) only [pl_X12_forget_97, q_onltL, if_neg c1], ?_, ?_⟩
    · intro w; rw [if_neg (by simp <;> omega)]
    · intro w; rw [if_neg (by simp <;> omega)]
  | succ m ih =>
    intro i f s u e hf
    obtain ⟨f, rfl⟩ : ∃ f9, f = f9 + 1 := ⟨f - 1, by omega⟩
    have c1 : i < 8 := by omega
    obtain ⟨g, h, e1, e2, e3⟩ := ih (i + 1) f (pj_u (pj_u (pj_u (pj_u (pj_u (pj_u (s) (8008 + i) 0) (8000 + i) 0) (8016 + i) 0) (8024 + i) 0) (18000 + i) 0) (19000 + i) 0) (pj_u u (3000 + i) 0) (by omega) (by omega)
    have z0 := q_Z_1 (T := q_rz) (f := s) (z := 8008 + i) (b := 0) (by rw [show 8008 + i = 8000 + (8 + i) by omega]; exact q_rz_8000 (by omega))
    have z1 := q_Z_1 (T := q_rz) (f := pj_u (s) (8008 + i) 0) (z := 8000 + i) (b := 0) (q_rz_8000 (by omega))
    have y1 := q_Z_s (K := fun w => decide ((w = 8008 + i) ∨ w = 8000 + i)) z0 z1 (fun w => q_orD (by omega))
    have z2 := q_Z_1 (T := q_rz) (f := pj_u (pj_u (s) (8008 + i) 0) (8000 + i) 0) (z := 8016 + i) (b := 0) (by rw [show 8016 + i = 8000 + (16 + i) by omega]; exact q_rz_8000 (by omega))
    have y2 := q_Z_s (K := fun w => decide (((w = 8008 + i) ∨ w = 8000 + i) ∨ w = 8016 + i)) y1 z2 (fun w => q_orD (by omega))
    have z3 := q_Z_1 (T := q_rz) (f := pj_u (pj_u (pj_u (s) (8008 + i) 0) (8000 + i) 0) (8016 + i) 0) (z := 8024 + i) (b := 0) (by rw [show 8024 + i = 8000 + (24 + i) by omega]; exact q_rz_8000 (by omega))
    have y3 := q_Z_s (K := fun w => decide ((((w = 8008 + i) ∨ w = 8000 + i) ∨ w = 8016 + i) ∨ w = 8024 + i)) y2 z3 (fun w => q_orD (by omega))
    have z4 := q_Z_1 (T := q_rz) (f := pj_u (pj_u (pj_u (pj_u (s) (8008 + i) 0) (8000 + i) 0) (8016 + i) 0) (8024 + i) 0) (z := 18000 + i) (b := 0) (q_rz_18000 (by omega))
    have y4 := q_Z_s (K := fun w => decide (((((w = 8008 + i) ∨ w = 8000 + i) ∨ w = 8016 + i) ∨ w = 8024 + i) ∨ w = 18000 + i)) y3 z4 (fun w => q_orD (by omega))
    have z5 := q_Z_1 (T := q_rz) (f := pj_u (pj_u (pj_u (pj_u (pj_u (s) (8008 + i) 0) (8000 + i) 0) (8016 + i) 0) (8024 + i) 0) (18000 + i) 0) (z := 19000 + i) (b := 0) (q_rz_19000 (by omega))
    have y5 := q_Z_s (K := fun w => decide ((((((w = 8008 + i) ∨ w = 8000 + i) ∨ w = 8016 + i) ∨ w = 8024 + i) ∨ w = 18000 + i) ∨ w = 19000 + i)) y4 z5 (fun w => q_orD (by omega))
    refine ⟨g, h, ?_, q_Z_s y5 e2 (fun w => q_orD (by omega)), q_Z_s (q_Z_1 (z := 3000 + i) (q_ru_3000 (by omega))) e3 (fun w => q_orD (by omega))⟩
    simp (disch := omega) only [pl_X12_forget_97, q_onltL, if_pos c1, q_g, q_onC, q_onaL]
    exact e1
theorem q_Z_n {z : Nat} {b : Int32} (h : T z = some b) (hz : f z = b) : q_Z T (fun w => decide (w = z)) f f := by
  intro w
  by_cases c : w = z
  · rw [c, if_pos (by simp), h, hz]
    rfl
  · rw [if_neg (by simp [c])]
theorem q_f160 : ∀ (m i f : Nat) (s : Nat → Int32), i + m = 10 → m < f → ∃ g, pl_X12_forget_160 fu f (Int32.ofNat i) s l u v = pl_X12_forget_160 fu (f - m) (Int32.ofNat 10) g l u v ∧ q_Z q_rz (fun w => decide ((30000 + i ≤ w ∧ w < 30010) ∨ (34000 + i ≤ w ∧ w < 34010) ∨ (35000 + i ≤ w ∧ w < 35010) ∨ (36000 + i ≤ w ∧ w < 36010))) s g := by
  intro m
  induction m with
  | zero =>
    intro i f s e hf
    obtain rfl : i = 10 := by omega
    refine ⟨s, rfl, ?_⟩
    intro w
    rw [if_neg (by simp <;> omega)]
  | succ m ih =>
    intro i f s e hf
    obtain ⟨f, rfl⟩ : ∃ f9, f = f9 + 1 := ⟨f - 1, by omega⟩
    have c1 : i < 10 := by omega
    obtain ⟨g, e1, e2⟩ := ih (i + 1) f (pj_u (pj_u (pj_u (pj_u s (30000 + i) 0) (34000 + i) (pj_xf 6 i)) (35000 + i) 0) (36000 + i) 0) (by omega) (by omega)
    have z0 := q_Z_1 (T := q_rz) (f := s) (z := 30000 + i) (b := 0) (q_rz_30000 (by omega))
    have z1 := q_Z_1 (T := q_rz) (f := pj_u s (30000 + i) 0) (z := 34000 + i) (b := pj_xf 6 i) (q_rz_34000 (by omega))
    have z2 := q_Z_1 (T := q_rz) (f := pj_u (pj_u s (30000 + i) 0) (34000 + i) (pj_xf 6 i)) (z := 35000 + i) (b := 0) (q_rz_35000 (by omega))
    have z3 := q_Z_1 (T := q_rz) (f := pj_u (pj_u (pj_u s (30000 + i) 0) (34000 + i) (pj_xf 6 i)) (35000 + i) 0) (z := 36000 + i) (b := 0) (q_rz_36000 (by omega))
    have y1 := q_Z_s (K := fun w => decide (w = 30000 + i ∨ w = 34000 + i)) z0 z1 (fun w => q_orD (by omega))
    have y2 := q_Z_s (K := fun w => decide ((w = 30000 + i ∨ w = 34000 + i) ∨ w = 35000 + i)) y1 z2 (fun w => q_orD (by omega))
    have y3 := q_Z_s (K := fun w => decide (((w = 30000 + i ∨ w = 34000 + i) ∨ w = 35000 + i) ∨ w = 36000 + i)) y2 z3 (fun w => q_orD (by omega))
    refine ⟨g, ?_, q_Z_s y3 e2 (fun w => q_orD (by omega))⟩
    rw [show f + 1 - (m + 1) = f - m by omega, ← e1, pl_X12_forget_160]
    simp (disch := omega) only [q_onltL, if_pos c1, q_g, q_onC, q_onaL, q_sub6, q_b]
theorem q_forget : pf_X12_forget s l u v = some ((), q_off0 q_rs s, pj_u (pj_u l 20 0) 61 0, q_off0 q_ru u, pj_u (pj_u (pj_u (pj_u v 6 0) 12 0) 13 0) 20 0) := by
  have a1 := q_Z_ws (T := q_rz) q_oRA s (by decide)
  have b1 := q_Z_ws (T := q_ru) q_oUA u (by decide)
  have e0 : pf_X12_forget s l u v = pl_X12_forget_97 1000 1000 (Int32.ofNat 0) (q_ws q_oRA s) (pj_u l 20 0) (q_ws q_oUA u) (pj_u v 6 0) := rfl
  rw [e0]
  clear e0
  generalize q_ws q_oRA s = S1 at a1
  generalize q_ws q_oUA u = U1 at b1
  obtain ⟨S2, U2, c1, c2, c3⟩ := q_f97 (fu := 1000) (l := pj_u l 20 0) (v := pj_u v 6 0) 8 0 1000 S1 U1 (by omega) (by omega)
  have a2 := q_Z_s a1 c2 (fun w => rfl)
  have b2 := q_Z_s b1 c3 (fun w => rfl)
  rw [c1]
  clear c1 c2 c3 a1 b1
  obtain ⟨S3, c1, c2⟩ := q_f160 (fu := 1000) (l := pj_u l 20 0) (u := U2) (v := pj_u v 6 0) 10 0 1000 S2 (by omega) (by omega)
  have c1 : pl_X12_forget_160 1000 1000 0 S2 (pj_u l 20 0) U2 (pj_u v 6 0) = pl_X12_forget_160 1000 (989 + 1) (Int32.ofNat 10) S3 (pj_u l 20 0) U2 (pj_u v 6 0) := c1
  have a3 := q_Z_s a2 c2 (fun w => rfl)
  rw [c1, pl_X12_forget_160, if_neg (by decide)]
  clear c1 c2 a2
  have a4 := q_Z_s a3 (q_Z_ws (T := q_rz) q_oRB S3 (by decide)) (fun w => rfl)
  have b4 := q_Z_s b2 (q_Z_1 (T := q_ru) (z := 14) (b := 1) (by decide)) (fun w => rfl)
  have e4 : pf_X12_forgetLoop S3 (pj_u l 20 0) U2 (pj_u v 6 0) = some ((), q_ws q_oRB S3, pj_u l 20 0, pj_u U2 14 1, pj_u (pj_u (pj_u v 6 0) 12 0) 13 0) := rfl
  rw [e4, q_b]
  clear e4 a3 b2
  generalize q_ws q_oRB S3 = S4 at a4
  generalize pj_u U2 14 1 = U4 at b4
  obtain ⟨S5, c1, c2⟩ := q_t2 (fu := 1000) (l := pj_u l 20 0) (u := U4) (v := pj_u (pj_u (pj_u v 6 0) 12 0) 13 0) 28 0 1000 S4 (by omega) (by omega)
  have a5 := q_Z_s (q_Z_s a4 c2 (fun w => rfl)) (q_Z_ws (T := q_rz) q_oRC S5 (by decide)) (fun w => rfl)
  have e5 : pj_u (pj_u S5 87 0) 43 0 = q_ws q_oRC S5 := rfl
  rw [e5] at c1
  clear a4 c2 e5
  generalize q_ws q_oRC S5 = S6 at a5 c1
  obtain ⟨S7, c3, c4⟩ := q_t82 (fu := 1000) (l := pj_u l 20 0) (u := U4) (v := pj_u (pj_u (pj_u v 6 0) 12 0) 13 0) 16 0 1000 S6 (by omega) (by omega)
  have c5 : pf_X12_forgetTrouble S4 (pj_u l 20 0) U4 (pj_u (pj_u (pj_u v 6 0) 12 0) 13 0) = some ((), S7, pj_u l 20 0, U4, pj_u (pj_u (pj_u v 6 0) 12 0) 13 0) := c1.trans c3
  have a7 := q_Z_s (q_Z_s a5 c4 (fun w => rfl)) (q_Z_ws (T := q_rz) q_oRD S7 (by decide)) (fun w => rfl)
  rw [c5, q_b]
  clear c1 c3 c4 c5 a5
  have e7 : pj_u (pj_u (pj_u (pj_u (pj_u (pj_u (pj_u (pj_u S7 88 0) 62 0) 66 0) 63 0) 64 0) 65 0) 67 0) 68 0 = q_ws q_oRD S7 := rfl
  rw [e7]
  clear e7
  generalize q_ws q_oRD S7 = S8 at a7
  have a8 := q_Z_s a7 (q_Z_ws (T := q_rz) q_oRE S8 (by decide)) (fun w => rfl)
  have b8 := q_Z_s (q_Z_s b4 (q_Z_1 (T := q_ru) (z := 21) (b := 0) (by decide)) (fun w => rfl)) (q_Z_1 (T := q_ru) (z := 29) (b := 0) (by decide)) (fun w => rfl)
  have e8 : pf_X12_forgetRoad S8 (pj_u l 20 0) U4 (pj_u (pj_u (pj_u v 6 0) 12 0) 13 0) = pl_X12_forgetRoad_115 1000 1000 (Int32.ofNat 0) (q_ws q_oRE S8) (pj_u (pj_u l 20 0) 61 0) (pj_u U4 21 0) (pj_u (pj_u (pj_u (pj_u v 6 0) 12 0) 13 0) 20 0) := rfl
  rw [e8]
  clear e8 a7 b4
  generalize q_ws q_oRE S8 = S9 at a8
  obtain ⟨S10, c1, c2⟩ := q_ro4 (fu := 1000) (l := pj_u (pj_u l 20 0) 61 0) (u := pj_u U4 21 0) (v := pj_u (pj_u (pj_u (pj_u v 6 0) 12 0) 13 0) 20 0) 4 0 1000 S9 (by omega) (by omega)
  have a10 := q_Z_s a8 c2 (fun w => rfl)
  rw [c1, q_b]
  have fs : S10 = q_off0 q_rs s := by
    have k : q_Z q_rz (fun w => (q_rs w).isSome) s S10 := by
      refine q_Z_c a10 (fun w => ?_)
      by_cases c : w < 97
      · clear a8 a10 b8 c1 c2
        revert c
        revert w
        decide
      · have z := fun L h => q_in_ge (n := 97) (w := w) L h (by omega)
        rw [z q_oRA rfl, z q_oRB rfl, z q_oRC rfl, z q_oRD rfl, z q_oRE rfl]
        unfold q_rs
        rw [if_neg c]
        repeat' split
        all_goals simp
        all_goals omega
    funext w
    have e : S10 w = if (q_rs w).isSome = true then (q_rz w).getD 0 else s w := k w
    rw [e]
    unfold q_off0
    by_cases c : w = 94
    · rw [c]
      rfl
    · have e2 : q_rz w = q_rs w := by unfold q_rz; rw [if_neg c]
      rw [e2]
      cases q_rs w <;> rfl
  have fu9 : pj_u (pj_u U4 21 0) 29 0 = q_off0 q_ru u := by
    apply q_Z_off
    refine q_Z_c b8 (fun w => ?_)
    by_cases c : w < 30
    · clear a8 a10 b8 c1 c2 fs
      revert c
      revert w
      decide
    · have z := fun L h => q_in_ge (n := 30) (w := w) L h (by omega)
      rw [z q_oUA rfl, decide_eq_false (p := w = 14) (by omega), decide_eq_false (p := w = 21) (by omega), decide_eq_false (p := w = 29) (by omega)]
      unfold q_ru
      rw [if_neg c]
      repeat' split
      all_goals simp
      all_goals omega
  rw [fs, fu9]
end QZ2

/-! PURE: going OFF, class -/
section QZ1
variable {s x u s' x' u' f f1 f2 : Nat → Int32} {l y v l' y' v' l2 v2 : Nat → Int64} {D E W : Int} {fu : Nat} {T : Nat → Option Int32} {K K1 K2 : Nat → Bool}
theorem q_Z_c (h : q_Z T K f f1) (e : ∀ w, K1 w = K w) : q_Z T K1 f f1 := by
  intro w
  rw [h w, e w]
theorem q_in_ge {n w : Nat} : ∀ (L : List (Nat × Int32)), L.all (fun p => decide (p.1 < n)) = true → n ≤ w → q_in L w = false := by
  intro L
  induction L with
  | nil => intro _ _; rfl
  | cons p L ih =>
    intro h hw
    rw [List.all_cons, Bool.and_eq_true] at h
    have h1 : p.1 < n := by simpa using h.1
    unfold q_in
    rw [ih h.2 hw, decide_eq_false (by omega)]
    rfl
/-- OFF: shared ints, the class's ints -/
def q_off0 (T : Nat → Option Int32) (f : Nat → Int32) : Nat → Int32 := fun w => (T w).getD (f w)
theorem q_Z_off (h : q_Z T (fun w => (T w).isSome) f f1) : f1 = q_off0 T f := by
  funext w
  have e : f1 w = if (T w).isSome = true then (T w).getD 0 else f w := h w
  rw [e]
  unfold q_off0
  cases T w <;> rfl
abbrev q_oL1 : List (Nat × Int32) := [(94, 0), (95, 0), (96, 0)]
abbrev q_oLA : List (Nat × Int32) := [(19, 0), (21, 0), (22, 0), (23, 0), (24, 0), (25, 0)]
abbrev q_oLB : List (Nat × Int32) := [(26, 0), (27, 0), (28, 0)]
abbrev q_oLC : List (Nat × Int32) := [(57, 0), (58, 0), (59, 0), (60, 0)]
abbrev q_oLD : List (Nat × Int32) := [(71, 0), (72, 0), (73, 0), (74, 0), (75, 0), (76, 0), (77, 0), (78, 0), (79, 0), (80, 0), (81, 0), (82, 0), (83, 0), (84, 0), (85, 0), (86, 0)]
abbrev q_oLE : List (Nat × Int32) := [(29, 0), (30, 0), (31, 0), (32, 0), (33, 0), (34, 0), (35, 0), (36, 0), (37, 0), (38, 0), (39, 0), (40, 0), (41, 0), (42, 0), (43, 0)]
abbrev q_oLF : List (Nat × Int32) := [(88, 0), (89, 0), (90, 0), (91, 0), (92, 0)]
abbrev q_oLG : List (Nat × Int32) := [(62, 0), (63, 0), (64, 0), (65, 0), (66, 0), (67, 0), (68, 0), (70, (-1))]
abbrev q_oLH : List (Nat × Int32) := [(16, 0), (17, 0), (6, 0), (7, 0), (8, 0), (9, 1000), (10, 20), (11, 0), (13, 0), (18, 0), (14, 0), (15, 0)]
abbrev q_oX1 : List (Nat × Int32) := [(1, 0), (2, 0)]
abbrev q_oXA : List (Nat × Int32) := [(4, 0), (5, 0), (6, 0), (7, 0)]
abbrev q_oXD : List (Nat × Int32) := [(12, 0), (13, 0)]
abbrev q_oXE : List (Nat × Int32) := [(14, 0), (15, 0), (16, 0), (17, 0)]
abbrev q_oXG : List (Nat × Int32) := [(19, 0), (21, 0)]
abbrev q_oXH : List (Nat × Int32) := [(22, 0), (23, (-1))]
theorem q_goOff : pf_X11_goOff s l x y = some ((), q_off0 q_rz s, pj_u (pj_u l 20 0) 61 0, q_off0 q_zx x, pj_u (pj_u (pj_u y 8 (-1)) 9 (-1)) 18 0) := by
  -- X7
  have a1 := q_Z_ws (T := q_rz) q_oL1 s (by decide)
  have b1 := q_Z_ws (T := q_zx) q_oX1 x (by decide)
  have e0 : pf_X11_goOff s l x y = pj_b (pf_X7_reset (q_ws q_oL1 s) l (q_ws q_oX1 x) y) (fun r1 s1 l1 x1 y1 => pj_b (pf_X2_reset  s1 l1 x1 y1) (fun r2 s2 l2 x2 y2 => pj_b (pf_X6_reset  s2 l2 x2 y2) (fun r3 s3 l3 x3 y3 => pj_b (pf_X9_reset  s3 l3 x3 y3) (fun r4 s4 l4 x4 y4 => pj_b (pf_X3_reset  s4 l4 x4 y4) (fun r5 s5 l5 x5 y5 => pj_b (pf_X10_reset  s5 l5 x5 y5) (fun r6 s6 l6 x6 y6 => pj_b (pf_X8_reset  s6 l6 x6 y6) (fun r7 s7 l7 x7 y7 => pj_b (pf_X1_reset  s7 l7 x7 y7) (fun r8 s8 l8 x8 y8 => pj_b (pf_X0_reset  s8 l8 x8 y8) (fun r9 s9 l9 x9 y9 => some ((), s9, l9, x9, y9)))))))))) := rfl
  rw [e0]
  clear e0
  generalize q_ws q_oL1 s = S1 at a1
  generalize q_ws q_oX1 x = X1 at b1
  obtain ⟨S2, c1, c2⟩ := q_r7 (fu := 1000) (l := l) (x := X1) (y := y) 10 0 1000 (pj_y S1 34000 10 (fun k => ([0, 0, 60, 60, 60, 90, 20, 450, 130, 0] : List Int32).getD k 0) 0) (by omega) (by omega)
  have c3 : pf_X7_reset S1 l X1 y = some ((), S2, l, X1, y) := c1
  have a2 := q_Z_s (q_Z_s a1 (q_subZ (s := S1)) (fun w => rfl)) c2 (fun w => rfl)
  rw [c3, q_b]
  clear c1 c2 c3 a1
  -- X2
  have a3 := q_Z_s a2 (q_Z_ws (T := q_rz) q_oLA S2 (by decide)) (fun w => rfl)
  have b3 := q_Z_s b1 (q_Z_ws (T := q_zx) q_oXA X1 (by decide)) (fun w => rfl)
  have e2 : pf_X2_reset S2 l X1 y = pl_X2_reset_57 1000 1000 (Int32.ofNat 0) (q_ws q_oLA S2) (pj_u l 20 0) (q_ws q_oXA X1) y := rfl
  rw [e2]
  clear e2 a2 b1
  generalize q_ws q_oLA S2 = S3 at a3
  generalize q_ws q_oXA X1 = X3 at b3
  obtain ⟨S4, c1, c2⟩ := q_rows4 (fu := 1000) (l := pj_u l 20 0) (x := X3) (y := y) 4 0 1000 S3 (by omega) (by omega)
  have a4 := q_Z_s (q_Z_s a3 c2 (fun w => rfl)) (q_Z_ws (T := q_rz) q_oLB S4 (by decide)) (fun w => rfl)
  have b4 := q_Z_s (q_Z_s b3 (q_Z_1 (T := q_zx) (z := 10) (b := 0) (by decide)) (fun w => rfl)) (q_nwZ (x := pj_u X3 10 0)) (fun w => rfl)
  rw [c1, q_b]
  have e4 : pj_u (pj_u (pj_u S4 26 0) 27 0) 28 0 = q_ws q_oLB S4 := rfl
  rw [e4]
  clear c1 c2 a3 b3 e4
  generalize q_ws q_oLB S4 = S5 at a4
  generalize q_nw (pj_u X3 10 0) = X5 at b4
  -- X6
  have a5 := q_Z_s a4 (q_Z_ws (T := q_rz) q_oLC S5 (by decide)) (fun w => rfl)
  have e5 : pf_X6_reset S5 (pj_u l 20 0) X5 (pj_u (pj_u y 8 (-1)) 9 (-1)) = pl_X6_reset_27 1000 1000 (Int32.ofNat 0) (q_ws q_oLC S5) (pj_u (pj_u l 20 0) 61 0) X5 (pj_u (pj_u y 8 (-1)) 9 (-1)) := rfl
  rw [e5]
  clear e5 a4
  generalize q_ws q_oLC S5 = S6 at a5
  obtain ⟨S7, X7, c1, c2, c3⟩ := q_r6 (fu := 1000) (l := pj_u (pj_u l 20 0) 61 0) (y := pj_u (pj_u y 8 (-1)) 9 (-1)) 8 0 1000 S6 X5 (by omega) (by omega)
  have a7 := q_Z_s a5 c2 (fun w => rfl)
  have b7 := q_Z_s b4 c3 (fun w => rfl)
  rw [c1, q_b]
  clear c1 c2 c3 a5 b4
  -- X9
  have a8 := q_Z_s a7 (q_Z_ws (T := q_rz) q_oLD S7 (by decide)) (fun w => rfl)
  have b8 := q_Z_s b7 (q_Z_ws (T := q_zx) q_oXD X7 (by decide)) (fun w => rfl)
  have e8 : ∀ L Y, pf_X9_reset S7 L X7 Y = some ((), q_ws q_oLD S7, L, q_ws q_oXD X7, Y) := fun _ _ => rfl
  rw [e8, q_b]
  clear e8 a7 b7
  generalize q_ws q_oLD S7 = S8 at a8
  generalize q_ws q_oXD X7 = X8 at b8
  -- X3
  have a9 := q_Z_s a8 (q_Z_ws (T := q_rz) q_oLE S8 (by decide)) (fun w => rfl)
  have b9 := q_Z_s b8 (q_Z_ws (T := q_zx) q_oXE X8 (by decide)) (fun w => rfl)
  have e9 : ∀ L Y, pf_X3_reset S8 L X8 Y = pj_b (pf_J7_fill_53178_v5 0 (q_ws q_oLE S8) L (q_ws q_oXE X8) Y) (fun r1 s1 l1 x1 y1 => some ((), s1, l1, x1, y1)) := fun _ _ => rfl
  rw [e9]
  clear e9 a8 b8
  generalize q_ws q_oLE S8 = S9 at a9
  generalize q_ws q_oXE X8 = X9 at b9
  obtain ⟨S10, c1, c2⟩ := q_fill5 (fu := 1000) (l := pj_u (pj_u l 20 0) 61 0) (x := X9) (y := pj_u (pj_u y 8 (-1)) 9 (-1)) 16 0 1000 S9 (by omega) (by omega)
  have c1 : pf_J7_fill_53178_v5 0 S9 (pj_u (pj_u l 20 0) 61 0) X9 (pj_u (pj_u y 8 (-1)) 9 (-1)) = some ((), S10, pj_u (pj_u l 20 0) 61 0, X9, pj_u (pj_u y 8 (-1)) 9 (-1)) := c1
  have a10 := q_Z_s a9 c2 (fun w => rfl)
  rw [c1, q_b, q_b]
  clear c1 c2 a9
  -- X10
  obtain ⟨S11, X11, c1, c2, c3⟩ := q_rows8 (fu := 1000) (l := pj_u (pj_u l 20 0) 61 0) (y := pj_u (pj_u y 8 (-1)) 9 (-1)) 8 0 1000 S10 X9 (by omega) (by omega)
  have c1 : pf_X10_clearMarks S10 (pj_u (pj_u l 20 0) 61 0) X9 (pj_u (pj_u y 8 (-1)) 9 (-1)) = some ((), pj_u S11 87 0, pj_u (pj_u l 20 0) 61 0, X11, pj_u (pj_u y 8 (-1)) 9 (-1)) := c1
  have a11 := q_Z_s (q_Z_s (q_Z_s a10 c2 (fun w => rfl)) (q_Z_1 (T := q_rz) (z := 87) (b := 0) (by decide)) (fun w => rfl)) (q_Z_ws (T := q_rz) q_oLF (pj_u S11 87 0) (by decide)) (fun w => rfl)
  have b11 := q_Z_s b9 c3 (fun w => rfl)
  have e11 : pf_X10_reset S10 (pj_u (pj_u l 20 0) 61 0) X9 (pj_u (pj_u y 8 (-1)) 9 (-1)) = some ((), q_ws q_oLF (pj_u S11 87 0), pj_u (pj_u l 20 0) 61 0, X11, pj_u (pj_u y 8 (-1)) 9 (-1)) := by
    unfold pf_X10_reset
    rw [c1, q_b]
    rfl
  rw [e11, q_b]
  clear c1 c2 c3 a10 b9 e11
  generalize q_ws q_oLF (pj_u S11 87 0) = S12 at a11
  -- X8, X1
  have a13 := q_Z_s a11 (q_Z_ws (T := q_rz) q_oLG S12 (by decide)) (fun w => rfl)
  have b13 := q_Z_s b11 (q_Z_ws (T := q_zx) q_oXG X11 (by decide)) (fun w => rfl)
  have e13 : ∀ L Y, pf_X8_reset S12 L X11 Y = some ((), q_ws q_oLG S12, L, q_ws q_oXG X11, pj_u Y 18 0) := fun _ _ => rfl
  rw [e13, q_b]
  clear e13 a11 b11
  generalize q_ws q_oLG S12 = S13 at a13
  generalize q_ws q_oXG X11 = X13 at b13
  have a14 := q_Z_s a13 (q_Z_ws (T := q_rz) q_oLH S13 (by decide)) (fun w => rfl)
  have b14 := q_Z_s b13 (q_Z_ws (T := q_zx) q_oXH X13 (by decide)) (fun w => rfl)
  have e14 : ∀ L Y, pf_X1_reset S13 L X13 Y = some ((), q_ws q_oLH S13, L, q_ws q_oXH X13, Y) := fun _ _ => rfl
  rw [e14, q_b]
  clear e14 a13 b13
  generalize q_ws q_oLH S13 = S14 at a14
  generalize q_ws q_oXH X13 = X14 at b14
  -- X0
  obtain ⟨S15, c1, c2⟩ := q_fill8 (fu := 1000) (l := pj_u (pj_u l 20 0) 61 0) (x := X14) (y := pj_u (pj_u (pj_u y 8 (-1)) 9 (-1)) 18 0) 4 0 1000 S14 (by omega) (by omega)
  have c1 : pf_J7_fill_53178_v8 0 S14 (pj_u (pj_u l 20 0) 61 0) X14 (pj_u (pj_u (pj_u y 8 (-1)) 9 (-1)) 18 0) = some ((), S15, pj_u (pj_u l 20 0) 61 0, X14, pj_u (pj_u (pj_u y 8 (-1)) 9 (-1)) 18 0) := c1
  have a15 := q_Z_s a14 c2 (fun w => rfl)
  have b15 := q_Z_s b14 (q_Z_1 (T := q_zx) (z := 29) (b := 0) (by decide)) (fun w => rfl)
  unfold pf_X0_reset
  rw [c1, q_b, q_b]
  have fs : S15 = q_off0 q_rz s := by
    apply q_Z_off
    refine q_Z_c a15 (fun w => ?_)
    by_cases c : w < 97
    · clear a14 a15 b14 b15 c1 c2
      revert c
      revert w
      decide
    · have z := fun L h => q_in_ge (n := 97) (w := w) L h (by omega)
      rw [z q_oL1 rfl, z q_oLA rfl, z q_oLB rfl, z q_oLC rfl, z q_oLD rfl, z q_oLE rfl, z q_oLF rfl, z q_oLG rfl, z q_oLH rfl, decide_eq_false (p := w = 87) (by omega)]
      unfold q_rz q_rs
      rw [if_neg (by omega), if_neg c]
      repeat' split
      all_goals simp
      all_goals omega
  have fx : pj_u X14 29 0 = q_off0 q_zx x := by
    apply q_Z_off
    refine q_Z_c b15 (fun w => ?_)
    by_cases c : w < 30
    · clear a14 a15 b14 b15 c1 c2 fs
      revert c
      revert w
      decide
    · have z := fun L h => q_in_ge (n := 30) (w := w) L h (by omega)
      rw [z q_oX1 rfl, z q_oXA rfl, z q_oXD rfl, z q_oXE rfl, z q_oXG rfl, z q_oXH rfl, decide_eq_false (p := w = 10) (by omega), decide_eq_false (p := w = 29) (by omega)]
      unfold q_zx
      rw [if_neg c]
      repeat' split
      all_goals simp
      all_goals omega
  rw [fs, fx]
end QZ1

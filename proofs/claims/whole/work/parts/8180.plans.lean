/-! PURE: the cylinders are planned -/
section QPN
variable {s x u s' x' u' : Nat → Int32} {l y v l' y' v' : Nat → Int64} {D E W : Int} {fu k n c : Nat}
/-- what a PLANNING leaves alone -/
def q_Pn (D E W : Int) (l : Nat → Int64) (s x : Nat → Int32) (v : Nat → Int64) (F G : Option (Unit × pj_Z)) : Prop := ∃ s' x' y' u' v', F = some ((), s', l, x', y') ∧ G = some ((), s', l, u', v') ∧ q_I D E W s' l x' y' u' v' ∧ (∀ w, w < 40000 → ¬ w = 87 → ¬ w = 26 → (w < 8000 ∨ 8032 ≤ w) → s' w = s w) ∧ (∀ w, w < 8000 → ¬ w = 10 → (w < 4000 ∨ 4024 ≤ w) → x' w = x w) ∧ (∀ w, ¬ w = 8 → ¬ w = 11 → v' w = v w)
theorem q_I_8 (hI : q_I D E W s l x y u v) (h0 : ¬ s 94 = 0) {r : Nat} {a : Int32} (h : r < 4) (hc : c < 8) (ha : (if r = 0 then (0 : Int) else if r = 2 then 0 else if r = 3 then -100 else -2147483648) ≤ a.toInt ∧ a.toInt ≤ (if r = 0 then (150 : Int) else if r = 2 then 25000 else if r = 3 then 450 else 2147483647)) : q_I D E W (pj_u s (8000 + 8 * r + c) a) l x y u v := q_I_s hI h0 (q_R_8 hI.1 h hc ha) (fun w hw => q_un (by unfold q_Ss at hw; omega))
theorem q_oneP (hI : q_I D E W s l x y u v) (h0 : ¬ s 94 = 0) (h19 : ¬ s 19 < 2) (hc : c < 8) (hcN : (c : Int) < (s 10000).toInt) : q_Pn D E W l s x v (pf_X11_planCylinder (Int32.ofNat c) s l x y) (pf_X12_planOne (Int32.ofNat c) (x 5) s l u v) := by
  obtain ⟨s1, x1, y1, u1, v1, f1, f2, hI1, g1, k1, m1⟩ := q_segP hI h0 hc
  unfold pf_X11_planCylinder pf_X12_planOne
  rw [q_bif2 (B := pf_X11_testMisfires) (k := pl_X11_planCylinder_34 (Int32.ofNat c)), f1, q_b, f2, q_b, q_knRf _ hc, q_knC hI1.1 hc]
  have e0 : ¬ s1 94 = 0 := by rw [g1 _ (by omega) (by omega) (by omega) (by omega)]; exact h0
  have e19 : ¬ s1 19 < 2 := by rw [g1 _ (by omega) (by omega) (by omega) (by omega)]; exact h19
  have eN : (c : Int) < (s1 10000).toInt := by rw [g1 _ (by omega) (by omega) (by omega) (by omega)]; exact hcN
  have e5 : x1 5 = x 5 := k1 5 (by omega) (by omega)
  rw [← e5]
  have kI := q_knI hI1.1 hc
  have hI2 := q_I_8 hI1 e0 (r := 0) (a := q_kn s1 c) (by omega) hc kI
  rw [show 8000 + 8 * 0 + c = 8000 + c by omega] at hI2
  have o2 : ∀ w, ¬ w = 8000 + c → pj_u s1 (8000 + c) (q_kn s1 c) w = s1 w := fun w h => q_un h
  generalize pj_u s1 (8000 + c) (q_kn s1 c) = s2 at hI2 o2
  obtain ⟨r, p1, p2, r1, r2⟩ := q_fuelP hI2
  rw [p1, q_b]
  unfold pl_X12_planOne_81
  rw [p2, q_b, q_g (by omega) (by omega), q_onC (by omega)]
  have n2 : ¬ s2 94 = 0 := by rw [o2 _ (by omega)]; exact e0
  have hI3 := q_I_8 hI2 n2 (r := 2) (a := r) (by omega) hc ⟨r1, r2⟩
  rw [show 8000 + 8 * 2 + c = 8016 + c by omega] at hI3
  have o3 : ∀ w, ¬ w = 8016 + c → pj_u s2 (8016 + c) r w = s2 w := fun w h => q_un h
  generalize pj_u s2 (8016 + c) r = s3 at hI3 o3
  obtain ⟨a, a1, a2, q1, q2⟩ := q_advP hI3 hc
  rw [q1]
  have q2 := q2
  rw [q_onC (by omega)] at q2
  rw [q2]
  have n3 : ¬ s3 94 = 0 := by rw [o3 _ (by omega)]; exact n2
  have hI4 := q_I_8 hI3 n3 (r := 3) (a := a) (by omega) hc ⟨a1, a2⟩
  rw [show 8000 + 8 * 3 + c = 8024 + c by omega] at hI4
  have o4 : ∀ w, ¬ w = 8024 + c → pj_u s3 (8024 + c) a w = s3 w := fun w h => q_un h
  generalize pj_u s3 (8024 + c) a = s4 at hI4 o4
  have o : ∀ w, (w < 8000 ∨ 8032 ≤ w) → s4 w = s1 w := fun w h => by rw [o4 _ (by omega), o3 _ (by omega), o2 _ (by omega)]
  obtain ⟨x5, u5, w1, w2, hI5, kx, ku⟩ := q_awP hI4 (by rw [o _ (by omega)]; exact e0) (by rw [o _ (by omega)]; exact e19) hc (by rw [o _ (by omega)]; exact eN)
  refine ⟨s4, x5, y1, u5, v1, w1, w2, hI5, ?_, ?_, m1⟩
  · intro w b1 b2 b3 b4
    rw [o w b4, g1 w b1 b2 b3 (by omega)]
  · intro w b1 b2 b3
    rw [kx w b3, k1 w b1 b2]
theorem q_topB (hr : q_R s) : 0 ≤ (q_top s c).toInt ∧ (q_top s c).toInt < 7200 ∨ -7200 < (q_top s c).toInt ∧ (q_top s c).toInt < 7200 := by
  have z := q_rem72 (s 10001 + 7200 * Int32.ofNat c / s 10000)
  unfold q_top
  rw [z]
  split
  · split <;> omega
  · omega
/-- the loop over the cylinders, up to what waits -/
theorem q_planI (h8 : 8 < fu) {N : Nat} (hN : N ≤ 8) (sp : Int32) : ∀ (m i f1 f2 : Nat) (s x u : Nat → Int32) (y v : Nat → Int64), i + m = N → m < f1 → m < f2 → q_I D E W s l x y u v → ¬ s 94 = 0 → ¬ s 19 < 2 → s 10000 = Int32.ofNat N → x 5 = sp → ∃ s' x' y' u' v', pl_X11_crankEdge_59 fu f1 (Int32.ofNat N) (Int32.ofNat i) s l x y = pl_X11_crankEdge_100 fu (Int32.ofNat N) s' l x' y' ∧ pl_X12_plan_87 fu f2 sp (Int32.ofNat i) s l u v = pl_X12_plan_130 fu fu 0 s' l u' v' ∧ q_I D E W s' l x' y' u' v' ∧ (∀ w, w < 40000 → ¬ w = 87 → ¬ w = 26 → (w < 8000 ∨ 8032 ≤ w) → s' w = s w) ∧ (∀ w, w < 8000 → ¬ w = 10 → (w < 4000 ∨ 4024 ≤ w) → x' w = x w) ∧ (∀ w, ¬ w = 8 → ¬ w = 11 → v' w = v w) := by
  intro m
  induction m with
  | zero =>
    intro i f1 f2 s x u y v hi hf1 hf2 hI h0 h19 e0 e5
    obtain ⟨f1, rfl⟩ : ∃ f9, f1 = f9 + 1 := ⟨f1 - 1, by omega⟩
    obtain ⟨f2, rfl⟩ : ∃ f9, f2 = f9 + 1 := ⟨f2 - 1, by omega⟩
    have c : ¬ Int32.ofNat i < Int32.ofNat N := by rw [q_onlt (by omega) (by omega)]; omega
    refine ⟨s, x, y, u, v, ?_, ?_, hI, fun _ _ _ _ _ => rfl, fun _ _ _ _ => rfl, fun _ _ _ => rfl⟩
    · rw [pl_X11_crankEdge_59, if_neg c]
    · rw [pl_X12_plan_87, e0, if_neg c]
  | succ m ih =>
    intro i f1 f2 s x u y v hi hf1 hf2 hI h0 h19 e0 e5
    obtain ⟨f1, rfl⟩ : ∃ f9, f1 = f9 + 1 := ⟨f1 - 1, by omega⟩
    obtain ⟨f2, rfl⟩ : ∃ f9, f2 = f9 + 1 := ⟨f2 - 1, by omega⟩
    have c : Int32.ofNat i < Int32.ofNat N := by rw [q_onlt (by omega) (by omega)]; omega
    have c8 : Int32.ofNat i < 8 := by rw [q_onltL (by omega) (by omega)]; omega
    have ej : Int32.ofNat i + 1 = Int32.ofNat (i + 1) := q_onaL i 1
    have rN : 1 ≤ (s 10000).toInt ∧ (s 10000).toInt ≤ 8 := hI.1 10000
    have rT : 0 ≤ (s 10001).toInt ∧ (s 10001).toInt ≤ 7199 := hI.1 10001
    have hw := hI.2.2.2.1
    obtain ⟨e6, e7⟩ := hw.2.2.2.1 h19
    have b6 := hw.2.2.2.2.1
    have b7 := hw.2.2.2.2.2.1
    have tC := q_topC (s := s) (l := l) (x := x) (y := y) (c := i) rN.1
    have tR := q_topR (s := s) (l := l) (u := u) (v := v) (c := i) (by omega) rN.1 rT.1 rT.2
    have tB := q_topB (s := s) (c := i) hI.1
    have o : (1800 : Int32).toInt = 1800 := rfl
    have es : (q_top s i - 1800).toInt = (q_top s i).toInt - 1800 := by rw [q_sub (by rw [o]; omega) (by rw [o]; omega), o]
    have st := q_st_m b6 b7 (a := q_top s i - 1800) (by omega) (by omega)
    have hC : pl_X11_crankEdge_59 fu (f1 + 1) (Int32.ofNat N) (Int32.ofNat i) s l x y = if q_st x (q_top s i - 1800) = 0 then pl_X11_crankEdge_59 fu f1 (Int32.ofNat N) (Int32.ofNat (i + 1)) s l x y else pj_b (pf_X11_planCylinder (Int32.ofNat i) s l x y) (fun _ s3 l3 x3 y3 => pl_X11_crankEdge_59 fu f1 (Int32.ofNat N) (Int32.ofNat (i + 1)) s3 l3 x3 y3) := by
      rw [pl_X11_crankEdge_59, if_pos c, if_pos c8, tC, q_b, q_stC, q_b]
      unfold pl_X11_crankEdge_94
      rw [ej]
    have hR : pl_X12_plan_87 fu (f2 + 1) sp (Int32.ofNat i) s l u v = if q_st x (q_top s i - 1800) = 0 then pl_X12_plan_87 fu f2 sp (Int32.ofNat (i + 1)) s l u v else pj_b (pf_X12_planOne (Int32.ofNat i) sp s l u v) (fun _ s3 l3 x3 y3 => pl_X12_plan_87 fu f2 sp (Int32.ofNat (i + 1)) s3 l3 x3 y3) := by
      rw [pl_X12_plan_87, e0, if_pos c, tR, q_b, q_modulo, q_b, q_stR e6.symm e7.symm, q_b, st]
      unfold pl_X12_plan_122
      rw [ej]
    rw [hC, hR]
    by_cases d : q_st x (q_top s i - 1800) = 0
    · rw [if_pos d, if_pos d]
      exact ih (i + 1) f1 f2 s x u y v (by omega) (by omega) (by omega) hI h0 h19 e0 e5
    · rw [if_neg d, if_neg d]
      have eN : (i : Int) < (s 10000).toInt := by rw [e0, q_onI (by omega)]; omega
      obtain ⟨s1, x1, y1, u1, v1, F, G, hI1, g1, k1, m1⟩ := q_oneP hI h0 h19 (c := i) (by omega) eN
      rw [e5] at G
      rw [F, q_b, G, q_b]
      obtain ⟨s2, x2, y2, u2, v2, F2, G2, hI2, g2, k2, m2⟩ := ih (i + 1) f1 f2 s1 x1 u1 y1 v1 (by omega) (by omega) (by omega) hI1 (by rw [g1 _ (by omega) (by omega) (by omega) (by omega)]; exact h0) (by rw [g1 _ (by omega) (by omega) (by omega) (by omega)]; exact h19) (by rw [g1 _ (by omega) (by omega) (by omega) (by omega)]; exact e0) (by rw [k1 _ (by omega) (by omega) (by omega)]; exact e5)
      refine ⟨s2, x2, y2, u2, v2, F2, G2, hI2, ?_, ?_, ?_⟩
      · intro w b1 b2 b3 b4; rw [g2 w b1 b2 b3 b4, g1 w b1 b2 b3 b4]
      · intro w b1 b2 b3; rw [k2 w b1 b2 b3, k1 w b1 b2 b3]
      · intro w b1 b2; rw [m2 w b1 b2, m1 w b1 b2]
end QPN

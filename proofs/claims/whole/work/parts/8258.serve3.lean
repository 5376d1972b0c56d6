/-! PURE: the TESTER: loading, calibration -/
section QSX
variable {s x u s' x' u' x2 u2 : Nat → Int32} {l y v l' y' v' : Nat → Int64} {D E W : Int} {fu f k n m : Nat} {t : Int64} {a b d e p r : Int32}
theorem q_I_70 (hI : q_I 0 E W s l x y u v) (h0 : ¬ s 94 = 0) (hr : q_R s') (g : ∀ w, q_Ss w → ¬ w = 70 → ¬ (39000 ≤ w ∧ w < 39016) → s' w = s w) (hl : q_Ld s' x') (h : ¬ s' 70 = -1 → x' 21 = u' 23 ∧ 0 ≤ (x' 21).toInt ∧ (x' 21).toInt ≤ 16) (kx : ∀ w, ¬ w = 21 → x' w = x w) (m : ∀ w, ¬ w = 23 → u' w = u w) : q_I 0 E W s' l x' y u' v := by
  have hf := hI.2.2.2.2.2.2.1
  refine q_I_g hI h0 hr ?_ (fun w hw n => g w hw (by omega) (by omega)) (fun w hw n => kx w (by omega)) (fun _ _ => rfl) (fun w hw n => m w (by omega)) (fun _ _ => rfl) (fun _ => hl)
  obtain ⟨f1, f2, f3, f4, f5, f6, f7⟩ := hf
  have G : ∀ w, (w = 40 ∨ w = 67 ∨ w = 62) → s' w = s w := fun w hw => g w (by unfold q_Ss; omega) (by omega) (by omega)
  refine ⟨?_, ?_, ?_, h, ?_, f6, ?_⟩
  · rw [kx 13 (by omega), m 14 (by omega)]; exact f1
  · rw [G 40 (by omega), kx 16 (by omega), kx 17 (by omega), m 15 (by omega), m 16 (by omega)]; exact f2
  · rw [G 67 (by omega), kx 19 (by omega), m 18 (by omega)]; exact f3
  · rw [G 62 (by omega)]; exact f5
  · rw [kx 23 (by omega), m 21 (by omega), m 22 (by omega)]; exact f7
theorem q_Sy_x {n : Nat} (hS : q_Sy n x u) (k20 : x' 20 = x 20) (k19 : u' 19 = u 19) (kx : ∀ i, i < 63 → x' (9000 + i) = x (9000 + i)) (ku : ∀ i, i < 63 → u' (11000 + i) = u (11000 + i)) : q_Sy n x' u' := by
  obtain ⟨h1, h2, h3, h4⟩ := hS
  refine ⟨h1, by rw [k20, h2], by rw [k19, h3], ?_⟩
  intro i hi
  rw [kx i (by omega), ku i (by omega)]
  exact h4 i hi
theorem q_Kl_k (h : q_Kl x v) (k1 : x' 1 = x 1) (k2 : x' 2 = x 2) : q_Kl x' v := by
  unfold q_Kl at h ⊢
  rw [k1, k2]; exact h
-- 52
theorem q_S52 (h : q_S0 E W s l x y u v) (hc : s 37003 = 52) : q_Sv E W (s 37003) (l 93) (pf_X11_serveLoading (s 37004) s l x y) (pf_X12_loadMap 2 s l u v) := by
  obtain ⟨hI, h0, hK, hA, hS, h65⟩ := h
  have hr := hI.1
  have no : ∀ r : Int32, ¬ r = -1 → ¬ r = 0 → q_Sv E W (s 37003) (l 93) (some (r, s, l, x, y)) (pf_X12_refuse 52 r s l u v) := fun r p q => q_Sv_no (r := r) hI h0 hK hA q_Fx0 q_Fu0 p q rfl (by rw [hc])
  have rw4 : 0 ≤ (s 37004).toInt ∧ _ := q_row (i := 4) hr (by omega)
  have n0 : ¬ s 37004 < 0 := by
    rw [Int32.lt_iff_toInt_lt]
    have o : (0 : Int32).toInt = 0 := rfl
    omega
  unfold pf_X11_serveLoading pf_X12_loadMap pl_X11_serveLoading_35
  rw [if_pos rfl]
  simp only [q_bU]
  by_cases c1 : s 64 = 0
  · rw [if_pos c1, if_pos c1]; exact no 51 (by decide) (by decide)
  rw [if_neg c1, if_neg c1]
  by_cases c2 : s 19 = 0
  · rw [if_pos c2, if_pos c2, if_neg n0]
    by_cases c3 : 1 < s 37004
    · rw [if_pos c3, if_pos c3]; exact no 49 (by decide) (by decide)
    · rw [if_neg c3, if_neg c3]
      have c3' := c3
      rw [Int32.lt_iff_toInt_lt] at c3'
      have o1 : (1 : Int32).toInt = 1 := rfl
      have J := q_I_70 (s' := pj_u s 70 (s 37004)) (x' := pj_u x 21 0) (u' := pj_u u 23 0) hI h0 (q_R_u hr (by exact (show (-1 : Int) ≤ (s 37004).toInt ∧ (s 37004).toInt ≤ 1 by omega))) (fun w hw n _ => q_un n) (fun _ j _ z => absurd z (by rw [q_ua]; have o : (0 : Int32).toInt = 0 := rfl; omega)) (fun _ => by rw [q_ua, q_ua]; exact ⟨rfl, by decide, by decide⟩) (fun w n => q_un n) (fun w n => q_un n)
      have hS' : q_Sy 0 (pj_u x 21 0) (pj_u u 23 0) := q_Sy_x hS (q_un (by omega)) (q_un (by omega)) (fun i hi => q_un (by omega)) (fun i hi => q_un (by omega))
      have hK' : q_Kl (pj_u x 21 0) v := q_Kl_k hK (q_un (by omega)) (q_un (by omega))
      generalize hs : pj_u s 70 (s 37004) = S at J
      have g : ∀ w, ¬ w = 70 → S w = s w := fun w p => by rw [← hs, q_un p]
      obtain ⟨x1, u1, f1, g1, s1, a1, b1⟩ := q_say (s := S) (l := l) (y := y) (v := v) (a := 116) (b := 116) hS' (by omega) rfl
      obtain ⟨x2, u2, f2, g2, s2, a2, b2⟩ := q_say (s := S) (l := l) (y := y) (v := v) (a := s 37004) (b := s 37004) s1 (by omega) rfl
      rw [f1, g1, q_b, q_b, g 37004 (by omega), f2, g2, q_b]
      have z := q_Sv_ok J (by rw [g 94 (by omega)]; exact h0) hK' (q_Af_s hA (g 94 (by omega)) (g 95 (by omega))) (q_Fx_t a1 a2) (q_Fu_t b1 b2) s2 (by omega) rfl rfl
      rw [g 37003 (by omega)] at z
      exact z
  · rw [if_neg c2, if_neg c2]; exact no 34 (by decide) (by decide)
-- 54
theorem q_i16 (h : 0 ≤ a.toInt ∧ a.toInt ≤ 65535) : a.toInt16.toInt32 = if 32767 < a then a - 65536 else a := by
  have o : (32767 : Int32).toInt = 32767 := rfl
  have o2 : (65536 : Int32).toInt = 65536 := rfl
  have e : (a - 65536).toInt = a.toInt - 65536 := by rw [q_sub (by rw [o2]; omega) (by rw [o2]; omega), o2]
  have p : (2 : Nat) ^ 16 = 65536 := by decide
  rw [← Int32.toInt_inj, Int16.toInt_toInt32, Int32.toInt_toInt16, Int.bmod_def, p]
  by_cases c : 32767 < a
  · rw [if_pos c, e]
    rw [Int32.lt_iff_toInt_lt] at c
    split <;> omega
  · rw [if_neg c]
    rw [Int32.lt_iff_toInt_lt] at c
    split <;> omega
theorem q_S54 (h : q_S0 E W s l x y u v) (hc : s 37003 = 54) : q_Sv E W (s 37003) (l 93) (pf_X8_servePlace s l x y) (pf_X12_loadCell 4 s l u v) := by
  obtain ⟨hI, h0, hK, hA, hS, h65⟩ := h
  have hr := hI.1
  have f4 := hI.2.2.2.2.2.2.1.2.2.2.1
  have no : ∀ r : Int32, ¬ r = -1 → ¬ r = 0 → q_Sv E W (s 37003) (l 93) (some (r, s, l, x, y)) (pf_X12_refuse 54 r s l u v) := fun r p q => q_Sv_no (r := r) hI h0 hK hA q_Fx0 q_Fu0 p q rfl (by rw [hc])
  have b5 := q_row (i := 5) hr (by omega)
  have b6 := q_row (i := 6) hr (by omega)
  have w := q_2bI b5 b6
  have w16 := q_i16 (a := 256 * s (37000 + 5) + s (37000 + 6)) (by rw [w]; omega)
  have e0 : ((s 37005 <<< (8 : Int32)) ||| s 37006).toInt16.toInt32 = if 32767 < 256 * s 37005 + s 37006 then 256 * s 37005 + s 37006 - 65536 else 256 * s 37005 + s 37006 := by
    rw [← w16]
    exact congrArg (fun z => z.toInt16.toInt32) (q_2b b5 b6)
  unfold pf_X8_servePlace pf_X12_loadCell pl_X8_servePlace_70
  rw [if_pos rfl, e0]
  have G : (if 32767 < 256 * s 37005 + s 37006 then pl_X12_loadCell_49 (256 * s 37005 + s 37006 - 65536) s l u v else pl_X12_loadCell_49 (256 * s 37005 + s 37006) s l u v) = pl_X12_loadCell_49 (if 32767 < 256 * s 37005 + s 37006 then 256 * s 37005 + s 37006 - 65536 else 256 * s 37005 + s 37006) s l u v := by
    split <;> rfl
  rw [G]
  generalize (if 32767 < 256 * s 37005 + s 37006 then 256 * s 37005 + s 37006 - 65536 else 256 * s 37005 + s 37006) = q
  unfold pl_X12_loadCell_49 pl_X12_loadCell_102
  simp only [q_bU]
  by_cases c1 : s 70 = -1
  · rw [if_pos c1, if_pos c1]; exact no 36 (by decide) (by decide)
  rw [if_neg c1, if_neg c1]
  obtain ⟨p1, p2, p3⟩ := f4 c1
  have n0 : ¬ x 21 < 0 := by
    rw [Int32.lt_iff_toInt_lt]
    have o : (0 : Int32).toInt = 0 := rfl
    omega
  rw [if_neg n0, ← p1]
  by_cases c2 : 15 < x 21
  · rw [if_pos c2]
    by_cases c3 : s 37004 = x 21
    · rw [if_pos c3, if_pos c2]; exact no 49 (by decide) (by decide)
    · rw [if_neg c3]; exact no 49 (by decide) (by decide)
  rw [if_neg c2]
  by_cases c3 : s 37004 = x 21
  · rw [if_pos c3, if_pos c3, if_neg c2, q_isCellC, q_isCellR, q_b, q_b]
    by_cases c4 : q_ic (s 70) q = 0
    · rw [if_pos c4, if_pos c4]; exact no 49 (by decide) (by decide)
    · rw [if_neg c4, if_neg c4, ← p1]
      obtain ⟨i, ei, hi, -⟩ := q_nat p2
      have o15 : (15 : Int32).toInt = 15 := rfl
      have i16 : i < 16 := by
        rw [Int32.lt_iff_toInt_lt] at c2
        omega
      rw [ei, q_g i16 (by omega), q_g i16 (by omega), q_onC (by omega)]
      have ic := q_icI c4
      have rg : q_rg (39000 + i) = (-100, 20000) := by
        unfold q_rg
        rw [show (39000 + i) / 1000 = 39 by omega]
        rfl
      have qr : -100 ≤ q.toInt ∧ q.toInt ≤ 20000 := by
        by_cases z : s 70 = 0
        · have := ic.1 z; omega
        · have := ic.2 z; omega
      have e1 : Int32.ofNat i + 1 = Int32.ofNat (i + 1) := q_onaL i 1
      have ld := hI.2.2.2.2.2.2.2.2.2.2.2.2.1.2.2.2.2.2.2.2.2
      have hl : q_Ld (pj_u s (39000 + i) q) (pj_u x 21 (Int32.ofNat (i + 1))) := by
        intro _ j hj hlt
        rw [q_un (show ¬ 70 = 39000 + i by omega)]
        rw [q_ua, q_onI (by omega)] at hlt
        by_cases z : j = i
        · subst z; rw [q_ua]; exact c4
        · rw [q_un (by omega)]
          exact ld c1 j hj (by omega)
      have J := q_I_70 (s' := pj_u s (39000 + i) q) (x' := pj_u x 21 (Int32.ofNat (i + 1))) (u' := pj_u u 23 (Int32.ofNat (i + 1))) hI h0 (q_R_u hr (by rw [rg]; exact qr)) (fun w hw n n2 => q_un (by unfold q_Ss at hw; omega)) hl (fun _ => by rw [q_ua, q_ua, q_onI (by omega)]; exact ⟨rfl, by omega, by omega⟩) (fun w n => q_un n) (fun w n => q_un n)
      have hS' : q_Sy 0 (pj_u x 21 (Int32.ofNat (i + 1))) u := q_Sy_x hS (q_un (by omega)) rfl (fun i hi => q_un (by omega)) (fun i hi => rfl)
      have hK' : q_Kl (pj_u x 21 (Int32.ofNat (i + 1))) v := q_Kl_k hK (q_un (by omega)) (q_un (by omega))
      generalize hs : pj_u s (39000 + i) q = S at J
      have g : ∀ w, ¬ (39000 ≤ w ∧ w < 39016) → S w = s w := fun w p => by rw [← hs, q_un (by omega)]
      obtain ⟨x1, u1, f1, g1, s1, a1, b1⟩ := q_say (s := S) (l := l) (y := y) (v := v) (a := 118) (b := 118) hS' (by omega) rfl
      have u123 : u1 23 = Int32.ofNat i := by rw [b1 23 (by omega) (by omega), ← p1, ei]
      obtain ⟨x2, u2, f2, g2, s2, a2, b2⟩ := q_say (s := S) (l := l) (y := y) (v := v) (a := s 37004) (b := Int32.ofNat i) s1 (by omega) (by rw [c3, ei])
      have u223 : u2 23 = Int32.ofNat i := by rw [b2 23 (by omega) (by omega), u123]
      rw [e1, f1, g1, q_b, q_b, g 37004 (by omega), f2, u123, g2, q_b, q_b, u223, e1]
      have fu9 : q_Fu (pj_u u 23 (Int32.ofNat (i + 1))) (pj_u u2 23 (Int32.ofNat (i + 1))) := by
        intro w p q
        by_cases z : w = 23
        · rw [z, q_ua, q_ua]
        · rw [q_un z, q_un z, b2 w p q, b1 w p q]
      have s2' : q_Sy (0 + 1 + 1) x2 (pj_u u2 23 (Int32.ofNat (i + 1))) := q_Sy_x s2 rfl (q_un (by omega)) (fun i hi => rfl) (fun i hi => q_un (by omega))
      have z := q_Sv_ok J (by rw [g 94 (by omega)]; exact h0) hK' (q_Af_s hA (g 94 (by omega)) (g 95 (by omega))) (q_Fx_t a1 a2) fu9 s2' (by omega) rfl rfl
      rw [g 37003 (by omega)] at z
      exact z
  · rw [if_neg c3, if_neg c3]; exact no 49 (by decide) (by decide)
-- 59
theorem q_I_num (hI : q_I 0 E W s l x y u v) (h0 : ¬ s 94 = 0) (h19 : s 19 = 0) (hr : q_R s') (g : ∀ w, ¬ (10000 ≤ w ∧ w < 10024) → s' w = s w) : q_I 0 E W s' l x y u v := by
  obtain ⟨-, h2, h3, h4, h5, h6, h7, h8, h9, h10, h11, h12, h13, h14⟩ := hI
  refine ⟨hr, q_Ln_c h2 (fun w _ _ => g w (by omega)) (fun w _ _ => g w (by omega)), h3, ?_, h5, ⟨h6.1, ?_⟩, q_Fg_c h7 (g _ (by omega)) (g _ (by omega)) (g _ (by omega)) (g _ (by omega)) rfl rfl rfl rfl rfl rfl rfl rfl rfl rfl rfl rfl rfl rfl rfl rfl, q_Fm_c h8 (g _ (by omega)) (fun _ _ _ => rfl) (fun _ _ _ => rfl), h9, q_Vd_c h10 (fun w _ _ => g w (by omega)) (fun _ _ _ => rfl), h11, h12, q_Es_c h13 (g _ (by omega)) (fun w hw => g w (by omega)) (fun w _ _ => g w (by omega)) rfl (fun _ _ _ => rfl) (fun _ _ _ => rfl) (fun _ _ _ => rfl) (q_Ld_i (g 70 (by omega)) (fun j _ => g _ (by omega)) rfl), ?_⟩
  · unfold q_Wl q_wh at h4 ⊢
    rw [q_sp_c (x' := x) (g 19 (by omega)) rfl, g 19 (by omega)]
    exact ⟨h4.1, h4.2.1, h4.2.2.1, h4.2.2.2.1, h4.2.2.2.2.1, h4.2.2.2.2.2.1, h4.2.2.2.2.2.2.1, h4.2.2.2.2.2.2.2.1, h4.2.2.2.2.2.2.2.2.1, h4.2.2.2.2.2.2.2.2.2.1, fun _ z => absurd h19 z⟩
  · intro c hc _
    exact h6.2 c hc (Or.inl h19)
  · intro z
    rw [g 94 (by omega)] at z
    exact absurd z h0
theorem q_S59 (h : q_S0 E W s l x y u v) (hc : s 37003 = 59) : q_Sv E W (s 37003) (l 93) (pf_X11_serveCalibration (s 37004) s l x y) (pf_X12_change 5 s l u v) := by
  obtain ⟨hI, h0, hK, hA, hS, h65⟩ := h
  have hr := hI.1
  have no : ∀ r : Int32, ¬ r = -1 → ¬ r = 0 → q_Sv E W (s 37003) (l 93) (some (r, s, l, x, y)) (pf_X12_refuse 59 r s l u v) := fun r p q => q_Sv_no (r := r) hI h0 hK hA q_Fx0 q_Fu0 p q rfl (by rw [hc])
  have rw4 : 0 ≤ (s 37004).toInt ∧ _ := q_row (i := 4) hr (by omega)
  have n0 : ¬ s 37004 < 0 := by
    rw [Int32.lt_iff_toInt_lt]
    have o : (0 : Int32).toInt = 0 := rfl
    omega
  have e3 : ((s 37005 <<< (16 : Int32)) ||| (s 37006 <<< (8 : Int32))) ||| s 37007 = 65536 * s 37005 + 256 * s 37006 + s 37007 := q_3b (q_row (i := 5) hr (by omega)) (q_row (i := 6) hr (by omega)) (q_row (i := 7) hr (by omega))
  unfold pf_X11_serveCalibration pf_X12_change pl_X11_serveCalibration_82 pl_X12_change_116
  rw [if_pos rfl, e3]
  simp only [q_bU]
  generalize 65536 * s 37005 + 256 * s 37006 + s 37007 = q
  by_cases c1 : s 64 = 0
  · rw [if_pos c1, if_pos c1]; exact no 51 (by decide) (by decide)
  rw [if_neg c1, if_neg c1]
  by_cases c2 : s 19 = 0
  · rw [if_pos c2, if_pos c2, if_neg n0]
    by_cases c3 : 23 < s 37004
    · have n24 : ¬ s 37004 < 24 := by
        rw [Int32.lt_iff_toInt_lt] at c3 ⊢
        have o : (24 : Int32).toInt = 24 := rfl
        have o23 : (23 : Int32).toInt = 23 := rfl
        omega
      rw [if_pos c3, if_neg n24]; exact no 49 (by decide) (by decide)
    · have c24 : s 37004 < 24 := by
        rw [Int32.lt_iff_toInt_lt] at c3 ⊢
        have o : (24 : Int32).toInt = 24 := rfl
        have o23 : (23 : Int32).toInt = 23 := rfl
        omega
      rw [if_neg c3, if_pos c24]
      obtain ⟨i, hi, ei⟩ := q_inN (n := 24) n0 c24 (by omega)
      rw [ei]
      have kn := hI.2.2.2.2.2.2.2.2.2.2.1.1 i hi
      simp only [q_g hi (show 24 < 2147483648 by omega), q_onC (show i < 2147483648 by omega)]
      rw [q_calC hi, q_b, kn.1, kn.2, q_isI, q_b]
      by_cases c4 : (if q < pj_xf 3 i then (0 : Int32) else if pj_xf 4 i < q then 0 else 1) = 0
      · rw [if_pos c4, if_pos c4]; exact no 49 (by decide) (by decide)
      · rw [if_neg c4, if_neg c4]
        have d1 : ¬ q < pj_xf 3 i := fun z => c4 (if_pos z)
        have d2 : ¬ pj_xf 4 i < q := fun z => c4 (by rw [if_neg d1, if_pos z])
        rw [Int32.lt_iff_toInt_lt] at d1 d2
        have J := q_I_num (s' := pj_u s (10000 + i) q) hI h0 c2 (q_R_u hr (by rw [q_rg10 (by omega)]; exact ⟨by omega, by omega⟩)) (fun w n => q_un (by omega))
        generalize hs : pj_u s (10000 + i) q = S at J
        have g : ∀ w, ¬ (10000 ≤ w ∧ w < 10024) → S w = s w := fun w p => by rw [← hs, q_un (by omega)]
        obtain ⟨x1, u1, f1, g1, s1, a1, b1⟩ := q_say (s := S) (l := l) (y := y) (v := v) (a := 123) (b := 123) hS (by omega) rfl
        obtain ⟨x2, u2, f2, g2, s2, a2, b2⟩ := q_say (s := S) (l := l) (y := y) (v := v) (a := Int32.ofNat i) (b := Int32.ofNat i) s1 (by omega) rfl
        rw [f1, g1, q_b, q_b, f2, g2, q_b]
        have z := q_Sv_ok J (by rw [g 94 (by omega)]; exact h0) hK (q_Af_s hA (g 94 (by omega)) (g 95 (by omega))) (q_Fx_t a1 a2) (q_Fu_t b1 b2) s2 (by omega) rfl rfl
        rw [g 37003 (by omega)] at z
        exact z
  · rw [if_neg c2, if_neg c2]; exact no 34 (by decide) (by decide)
end QSX

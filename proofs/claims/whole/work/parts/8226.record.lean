/-! PURE: the face: the RECORDER is set -/
section QRE
variable {s x u s' x' u' : Nat → Int32} {l y v l' y' v' : Nat → Int64} {D E W : Int} {fu f k n c : Nat} {t : Int64} {a b d e p r : Int32}
theorem q_I_ro (h : q_I D E W s l x y u v) (hr : q_R s') (hx : q_Ex s' l x') (hc : q_Rc l x' u' v') (g : ∀ w, q_Ss w → ¬ (w = 3 ∨ w = 4) → s' w = s w) (go : ∀ w a, q_rs w = some a → s' w = s w) (kx : ∀ w, ¬ (w = 27 ∨ w = 28 ∨ w = 29) → x' w = x w) (ku : ∀ w, ¬ w = 29 → u' w = u w) (k29 : u' 29 = 0) (kv : ∀ w, ¬ w = 30 → v' w = v w) : q_I D E W s' l x' y u' v' := by
  obtain ⟨-, h2, h3, h4, h5, h6, h7, h8, h9, h10, h11, h12, h13, h14⟩ := h
  obtain ⟨⟨n, ev, tm⟩, -⟩ := h13
  refine ⟨hr, q_Ln_c h2 ?_ ?_, q_Ct_c h3 rfl ?_ ?_ ?_ ?_ ?_ ?_ ?_ ?_, q_Wl_c h4 ?_ ?_ ?_ rfl rfl ?_ ?_ ?_ ?_ ?_ ?_ ?_, q_Pl_c h5 rfl ?_ rfl rfl ?_ ?_ ?_ ?_ ?_, q_Wt_c h6 ?_ ?_ ?_ ?_, q_Fg_c h7 ?_ ?_ ?_ ?_ rfl ?_ ?_ ?_ ?_ ?_ ?_ rfl ?_ ?_ ?_ ?_ ?_ ?_ ?_ ?_, q_Fm_c h8 ?_ ?_ ?_, hc, q_Vd_c h10 ?_ ?_, q_Kn_c h11 ?_, q_Pg_c h12 ?_ ?_ ?_ ?_, ⟨⟨n, q_Ev_c ev ?_ (fun i hi => g _ (by unfold q_Ss; omega) (by omega)) (fun i hi => kx _ (by omega)) (fun i hi => kx _ (by omega)) (fun i hi => ku _ (by omega)) (fun i hi => ku _ (by omega)) (fun c hc => by rw [kx _ (by omega), ku _ (by omega), Int32.sub_self, Int32.sub_self]), tm⟩, hx⟩, ?_⟩
  all_goals try (intro w a b)
  all_goals first
    | (apply g; (unfold q_Ss; omega); omega)
    | (apply kx; omega)
    | (apply ku; omega)
    | (apply kv; omega)
    | skip
  intro z
  rw [g 94 (by unfold q_Ss; omega) (by omega)] at z
  obtain ⟨o1, o2, o3, o4, o5, o6, o7, o8, o9, o10, o11, o12, o13, o14, o15⟩ := h14 z
  refine ⟨fun w a e => by rw [go w a e]; exact o1 w a e, o2, o3, ?_, ?_, ?_, ?_, ?_, ?_, ?_, ?_, ?_, ?_, ?_, k29⟩
  · rw [ku 4 (by omega)]; exact o4
  · rw [ku 5 (by omega)]; exact o5
  · rw [kv 6 (by omega)]; exact o6
  · rw [ku 7 (by omega)]; exact o7
  · rw [ku 10 (by omega)]; exact o8
  · intro c hc; rw [ku _ (by omega)]; exact o9 c hc
  · rw [kv 12 (by omega)]; exact o10
  · rw [kv 13 (by omega)]; exact o11
  · rw [ku 14 (by omega)]; exact o12
  · rw [kv 20 (by omega)]; exact o13
  · rw [ku 21 (by omega)]; exact o14
theorem q_rg3 {i : Nat} (h : i < 1000) : q_rg (3000 + i) = (0, 79) := by
  unfold q_rg
  rw [show (3000 + i) / 1000 = 3 by omega]
  rfl
theorem q_lt80 (h1 : ¬ a < 0) (h2 : a < 80) : 0 ≤ a.toInt ∧ a.toInt ≤ 79 := by
  rw [Int32.lt_iff_toInt_lt] at h1 h2
  have o : (0 : Int32).toInt = 0 := rfl
  have o8 : (80 : Int32).toInt = 80 := rfl
  omega
theorem q_F_record (hV : q_V k s l x y u v) (b1 : ¬ b < 0) (b2 : b < 80) (d1 : ¬ d < 0) (d2 : d < 80) (e1 : ¬ e < 0) (e2 : e < 80) (h1 : ¬ a < 1) (h2 : ¬ 100 < a) : q_Fa (k + 1) (pf_X11_record a b d e s l x y) (pf_X12_record a b d e s l u v) := by
  have q1 : pf_X12_isIn a.toInt64 1 100 s l u v = some (if a < 1 then 0 else if 100 < a then 0 else 1, s, l, u, v) := q_isI a 1 100
  have qb : pf_X12_isIn b.toInt64 0 79 s l u v = some (if b < 0 then 0 else if 79 < b then 0 else 1, s, l, u, v) := q_isI b 0 79
  have qd : pf_X12_isIn d.toInt64 0 79 s l u v = some (if d < 0 then 0 else if 79 < d then 0 else 1, s, l, u, v) := q_isI d 0 79
  have qe : pf_X12_isIn e.toInt64 0 79 s l u v = some (if e < 0 then 0 else if 79 < e then 0 else 1, s, l, u, v) := q_isI e 0 79
  have b3 : ¬ 79 < b := q_ltM (n := 79) rfl (by omega) rfl b2
  have d3 : ¬ 79 < d := q_ltM (n := 79) rfl (by omega) rfl d2
  have e3 : ¬ 79 < e := q_ltM (n := 79) rfl (by omega) rfl e2
  have a1 : 1 ≤ a.toInt ∧ a.toInt ≤ 100 := by
    rw [Int32.lt_iff_toInt_lt] at h1 h2
    have o : (1 : Int32).toInt = 1 := rfl
    have o2 : (100 : Int32).toInt = 100 := rfl
    omega
  unfold pf_X11_record pf_X12_record pl_X12_record_59 pf_X0_beginRows
  rw [if_neg b1, if_pos b2, if_neg d1, if_pos d2, if_neg e1, if_pos e2, if_neg h1, if_neg h2, q_b]
  rw [qb, q_b, q_in1 b1 b3, if_neg q_n10, qd, q_b, q_in1 d1 d3, if_neg q_n10, qe, q_b, q_in1 e1 e3, if_neg q_n10, q1, q_b, q_in1 h1 h2, if_neg q_n10, if_neg q_l00]
  have hx := hV.1.2.2.2.2.2.2.2.2.2.2.2.2.1.2
  have tl := hV.1.2.2.1.2.2.2.2
  have r0 := q_rg3 (i := 0) (by omega)
  have r1 := q_rg3 (i := 1) (by omega)
  have r2 := q_rg3 (i := 2) (by omega)
  have hR : q_R (pj_u (pj_u (pj_u (pj_u (pj_u (pj_u s 3 a) 3000 b) 3001 d) 3002 e) 4 1) 5 (-1)) := by
    refine q_R_u (q_R_u (q_R_u (q_R_u (q_R_u (q_R_u hV.1.1 ⟨by have := a1.1; show (0 : Int) ≤ _; omega, a1.2⟩) ?_) ?_) ?_) (by decide)) (by decide)
    · rw [show q_rg 3000 = (0, 79) from r0]; exact q_lt80 b1 b2
    · rw [show q_rg 3001 = (0, 79) from r1]; exact q_lt80 d1 d2
    · rw [show q_rg 3002 = (0, 79) from r2]; exact q_lt80 e1 e2
  have g : ∀ w, ¬ (w = 3 ∨ w = 4 ∨ w = 5 ∨ w = 3000 ∨ w = 3001 ∨ w = 3002) → pj_u (pj_u (pj_u (pj_u (pj_u (pj_u s 3 a) 3000 b) 3001 d) 3002 e) 4 1) 5 (-1) w = s w := by
    intro w h
    rw [q_un (by omega), q_un (by omega), q_un (by omega), q_un (by omega), q_un (by omega), q_un (by omega)]
  have g3 : pj_u (pj_u (pj_u (pj_u (pj_u (pj_u s 3 a) 3000 b) 3001 d) 3002 e) 4 1) 5 (-1) 3 = a := by
    rw [q_un (by omega), q_un (by omega), q_un (by omega), q_un (by omega), q_un (by omega), q_ua]
  have hE : q_Ex (pj_u (pj_u (pj_u (pj_u (pj_u (pj_u s 3 a) 3000 b) 3001 d) 3002 e) 4 1) 5 (-1)) l (pj_u (pj_u (pj_u x 27 0) 28 0) 29 0) := by
    unfold q_Ex at hx ⊢
    rw [g 54 (by omega), g 7 (by omega), g 8 (by omega), g 6 (by omega), g 94 (by omega), g 95 (by omega), g 63 (by omega), g 65 (by omega), g 44 (by omega), g 62 (by omega), g 37000 (by omega), q_Ld_c (x := x) (g 70 (by omega)) (fun j _ => g _ (by omega)) (by rw [q_un (by omega), q_un (by omega), q_un (by omega)]), g3]
    exact ⟨hx.1, hx.2.1, hx.2.2.1, hx.2.2.2.1, fun _ => by omega, hx.2.2.2.2.2⟩
  generalize pj_u (pj_u (pj_u (pj_u (pj_u (pj_u s 3 a) 3000 b) 3001 d) 3002 e) 4 1) 5 (-1) = S at hR g hE
  have eu : pj_u (pj_u (pj_u u 1 0) 29 0) 1 0 = pj_u (pj_u u 1 0) 29 0 := q_uv (by rw [q_un (by omega), q_ua])
  refine ⟨(), S, l, pj_u (pj_u (pj_u x 27 0) 28 0) 29 0, y, pj_u (pj_u u 1 0) 29 0, pj_u v 30 0, rfl, rfl, by rw [q_un (by omega), q_ua], q_V_m ⟨?_, ?_, ?_, hV.2.2.2⟩⟩
  · rw [eu]
    refine q_I_ro hV.1 hR hE ?_ ?_ ?_ ?_ ?_ q_ua ?_
    · unfold q_Rc
      have x27 : pj_u (pj_u (pj_u x 27 0) 28 0) 29 0 27 = 0 := by rw [q_un (by omega), q_un (by omega), q_ua]
      have x28 : pj_u (pj_u (pj_u x 27 0) 28 0) 29 0 28 = 0 := by rw [q_un (by omega), q_ua]
      rw [q_ua, q_ua, q_ua, x27, x28]
      exact ⟨Or.inl ⟨rfl, rfl⟩, ⟨by decide, tl.1⟩, by decide, by decide⟩
    · intro w hw h
      unfold q_Ss at hw
      exact g w (by omega)
    · intro w a h
      have h3 := q_rsN h 3 rfl
      have h4 := q_rsN h 4 rfl
      have h5 := q_rsN h 5 rfl
      have h6 := q_rsN h 3000 rfl
      have h7 := q_rsN h 3001 rfl
      have h8 := q_rsN h 3002 rfl
      exact g w (by omega)
    · intro w h; rw [q_un (by omega), q_un (by omega), q_un (by omega)]
    · intro w h; rw [q_un h]
    · intro w h; rw [q_un h]
  · have hK := hV.2.1
    unfold q_Kl at hK ⊢
    rw [q_un (by omega), q_un (by omega), q_un (by omega), q_un (by omega), q_un (by omega), q_un (by omega), q_un (by omega)]; exact hK
  · have hA := hV.2.2.1
    unfold q_Af at hA ⊢
    rw [g 94 (by omega), g 95 (by omega)]; exact hA
theorem q_recR : pf_X12_record a b d e s l u v = if (b < 0 ∨ 79 < b) ∨ (d < 0 ∨ 79 < d) ∨ (e < 0 ∨ 79 < e) then pl_X12_record_59 a b d e 1 s l u v else if a < 1 ∨ 100 < a then pl_X12_record_59 a b d e 2 s l u v else pl_X12_record_59 a b d e 0 s l u v := by
  have q1 : pf_X12_isIn a.toInt64 1 100 s l u v = some (if a < 1 then 0 else if 100 < a then 0 else 1, s, l, u, v) := q_isI a 1 100
  have qb : pf_X12_isIn b.toInt64 0 79 s l u v = some (if b < 0 then 0 else if 79 < b then 0 else 1, s, l, u, v) := q_isI b 0 79
  have qd : pf_X12_isIn d.toInt64 0 79 s l u v = some (if d < 0 then 0 else if 79 < d then 0 else 1, s, l, u, v) := q_isI d 0 79
  have qe : pf_X12_isIn e.toInt64 0 79 s l u v = some (if e < 0 then 0 else if 79 < e then 0 else 1, s, l, u, v) := q_isI e 0 79
  unfold pf_X12_record pl_X12_record_38
  rw [qb, q_b]
  by_cases c1 : b < 0 ∨ 79 < b
  · rw [q_in0 c1, if_pos rfl, if_pos (Or.inl c1)]
  · rw [q_in1 (fun z => c1 (Or.inl z)) (fun z => c1 (Or.inr z)), if_neg q_n10, qd, q_b]
    by_cases c2 : d < 0 ∨ 79 < d
    · rw [q_in0 c2, if_pos rfl, if_pos (Or.inr (Or.inl c2))]
    · rw [q_in1 (fun z => c2 (Or.inl z)) (fun z => c2 (Or.inr z)), if_neg q_n10, qe, q_b]
      by_cases c3 : e < 0 ∨ 79 < e
      · rw [q_in0 c3, if_pos rfl, if_pos (Or.inr (Or.inr c3))]
      · have n : ¬ ((b < 0 ∨ 79 < b) ∨ (d < 0 ∨ 79 < d) ∨ (e < 0 ∨ 79 < e)) := by
          rintro (z | z | z)
          · exact c1 z
          · exact c2 z
          · exact c3 z
        rw [q_in1 (fun z => c3 (Or.inl z)) (fun z => c3 (Or.inr z)), if_neg q_n10, q1, q_b, if_neg n]
        by_cases c4 : a < 1 ∨ 100 < a
        · rw [q_in0 c4, if_pos rfl, if_pos c4]
        · rw [q_in1 (fun z => c4 (Or.inl z)) (fun z => c4 (Or.inr z)), if_neg q_n10, if_neg c4]
theorem q_F_record1 (hV : q_V k s l x y u v) (h : (b < 0 ∨ ¬ b < 80) ∨ (d < 0 ∨ ¬ d < 80) ∨ (e < 0 ∨ ¬ e < 80)) : q_Rf (k + 1) 1 s l x y (pf_X12_record a b d e s l u v) := by
  have t : ∀ {w : Int32}, (w < 0 ∨ ¬ w < 80) → (w < 0 ∨ 79 < w) := fun h => q_ltN (n := 79) (m := 79) rfl (by omega) (N := 80) rfl h
  rw [q_recR, if_pos (h.imp t (Or.imp t t))]
  unfold pl_X12_record_59
  rw [if_pos q_l01]
  exact q_Rf_s () 1 rfl hV
theorem q_F_record2 (hV : q_V k s l x y u v) (b1 : ¬ b < 0) (b2 : b < 80) (d1 : ¬ d < 0) (d2 : d < 80) (e1 : ¬ e < 0) (e2 : e < 80) (h : a < 1 ∨ 100 < a) : q_Rf (k + 1) 2 s l x y (pf_X12_record a b d e s l u v) := by
  have t : ∀ {w : Int32}, ¬ w < 0 → w < 80 → ¬ (w < 0 ∨ 79 < w) := fun h1 h2 z => z.elim h1 (q_ltM (n := 79) rfl (by omega) rfl h2)
  have n : ¬ ((b < 0 ∨ 79 < b) ∨ (d < 0 ∨ 79 < d) ∨ (e < 0 ∨ 79 < e)) := by
    rintro (z | z | z)
    · exact t b1 b2 z
    · exact t d1 d2 z
    · exact t e1 e2 z
  rw [q_recR, if_neg n, if_pos h]
  unfold pl_X12_record_59
  rw [if_pos q_l02]
  exact q_Rf_s () 2 rfl hV
end QRE

/-! PURE: time passes: an EVENT happens, the clock is moved -/
section QPA
variable {s x u s' x' u' : Nat → Int32} {l y v l' y' v' : Nat → Int64} {D D' E W : Int} {t : Int64} {n : Nat}
theorem q_I_hE {E' : Int} (hI : q_I D E W s l x y u v) (h0 : ¬ s 94 = 0) (fr : q_Fr s l x u v s' l' x' u' v') (ev : q_Ev s' x' u' n) (tm : q_Tm l' n) (hE : (x' 11).toInt ≤ E') : q_I D E' W s' l' x' y u' v' := by
  obtain ⟨h1, h2, h3, h4, h5, h6, h7, h8, h9, h10, h11, h12, h13, h14⟩ := hI
  obtain ⟨g, gl, k, m, mv, m3, m4, m5, gr⟩ := fr
  obtain ⟨c1, c2, c3, c4, c5⟩ := h3
  refine ⟨gr h1, q_Ln_c h2 ?_ ?_, ⟨?_, ?_, ?_, ?_, ?_⟩, q_Wl_c h4 ?_ ?_ ?_ ?_ ?_ ?_ ?_ ?_ ?_ ?_ ?_ ?_, q_Pl_c h5 ?_ ?_ rfl rfl ?_ ?_ ?_ ?_ ?_, q_Wt_c h6 ?_ ?_ ?_ ?_, q_Fg_c h7 ?_ ?_ ?_ ?_ ?_ ?_ ?_ ?_ ?_ ?_ ?_ rfl ?_ ?_ ?_ ?_ ?_ ?_ ?_ ?_, q_Fm_c h8 ?_ ?_ ?_, q_Rc_c h9 ?_ ?_ ?_ ?_ ?_ ?_, q_Vd_c h10 ?_ ?_, q_Kn_c h11 ?_, q_Pg_c h12 ?_ ?_ ?_ ?_, ⟨⟨n, ev, tm⟩, ?_⟩, ?_⟩
  all_goals try (intro w a b)
  all_goals first
    | (apply g; omega; omega)
    | (apply gl; omega; omega)
    | (apply k; omega; omega)
    | (apply m; omega)
    | (apply mv; omega)
    | skip
  · rw [k 1 (by omega) (by omega), mv 12 (by omega), gl 93 (by omega) (by omega)]; exact c1
  · rw [k 3 (by omega) (by omega), mv 2 (by omega)]; exact c2
  · exact ⟨m3, by omega, by omega⟩
  · rw [k 22 (by omega) (by omega), k 1 (by omega) (by omega), mv 20 (by omega)]; exact c4
  · rw [gl 93 (by omega) (by omega)]; exact c5
  · have hx := h13.2
    unfold q_Ex at hx ⊢
    rw [g 54 (by omega) (by omega), g 7 (by omega) (by omega), g 6 (by omega) (by omega), g 8 (by omega) (by omega), g 94 (by omega) (by omega), g 95 (by omega) (by omega), g 63 (by omega) (by omega), g 65 (by omega) (by omega), g 3 (by omega) (by omega), g 4 (by omega) (by omega), g 44 (by omega) (by omega), g 62 (by omega) (by omega), g 37000 (by omega) (by omega), q_Ld_c (x := x) (g 70 (by omega) (by omega)) (fun j _ => g _ (by omega) (by omega)) (k 21 (by omega) (by omega)), gl 93 (by omega) (by omega)]
    exact hx
  · intro z
    rw [g 94 (by omega) (by omega)] at z
    exact absurd z h0
theorem q_I_h (hI : q_I D E W s l x y u v) (h0 : ¬ s 94 = 0) (fr : q_Fr s l x u v s' l' x' u' v') (ev : q_Ev s' x' u' n) (tm : q_Tm l' n) : q_I D (E + 1) W s' l' x' y u' v' := q_I_hE hI h0 fr ev tm (by have a := fr.2.2.2.2.2.2.2.1; have b := hI.2.2.1.2.2.1.2.2; omega)
theorem q_I_t (hI : q_I D E W s l x y u v) (ev : q_Ev s x u n) (tm : q_Tm l n) (h1 : (l 93).toInt ≤ t.toInt) (h2 : t.toInt ≤ 20000000000) (hT : ∀ i, i < n → t.toInt ≤ (l (16000 + i)).toInt) (hD : ¬ s 94 = 0 → t.toInt / 10000 * 10000 + D ≤ (l 93).toInt / 10000 * 10000 + D') : q_I D' E W s (pj_u l 93 t) x y u v := by
  obtain ⟨p1, p2, p3, p4, p5, p6, p7, p8, p9, p10, p11, p12, p13, p14⟩ := hI
  have e93 : pj_u l 93 t 93 = t := q_ua
  have el : ∀ w, ¬ w = 93 → pj_u l 93 t w = l w := fun w h => q_un h
  refine ⟨p1, p2, ?_, ?_, ?_, p6, ?_, p8, ?_, p10, p11, p12, ⟨⟨n, ev, ?_⟩, ?_⟩, ?_⟩
  · unfold q_Ct at p3 ⊢
    rw [e93]
    exact ⟨⟨p3.1.1, p3.1.2.1, by omega⟩, p3.2.1, p3.2.2.1, p3.2.2.2.1, by omega, h2⟩
  · unfold q_Wl at p4 ⊢
    rw [e93, el 20 (by omega)]
    obtain ⟨a1, a2, a3, a4, a5, a6, a7, a8, a9, a10, a11⟩ := p4
    refine ⟨a1, a2, a3, a4, a5, a6, a7, a8, a9, by omega, ?_⟩
    intro z1 z2
    have z := a11 z1 z2
    have w := hD z1
    omega
  · unfold q_Pl at p5 ⊢
    rw [e93]
    obtain ⟨a1, a2, a3, a4, a5, a6, a7, a8⟩ := p5
    exact ⟨a1, a2, a3, fun z => ⟨(a4 z).1, (a4 z).2.1, Int.le_trans (a4 z).2.2.1 h1, (a4 z).2.2.2⟩, a5, fun z => ⟨(a6 z).1, (a6 z).2.1, Int.le_trans (a6 z).2.2 h1⟩, a7, a8⟩
  · unfold q_Fg at p7 ⊢
    rw [e93]
    obtain ⟨a1, a2, a3, a4, a5, a6, a7⟩ := p7
    exact ⟨a1, a2, a3, a4, fun z => ⟨(a5 z).1, (a5 z).2.1, Int.le_trans (a5 z).2.2 h1⟩, ⟨a6.1, Int.le_trans a6.2 h1⟩, a7⟩
  · unfold q_Rc at p9 ⊢
    rw [e93]
    exact ⟨p9.1, ⟨p9.2.1.1, Int.le_trans p9.2.1.2 h1⟩, p9.2.2⟩
  · obtain ⟨b1, b2, b3⟩ := tm
    refine ⟨?_, ?_, ?_⟩
    · rw [e93]; omega
    · rw [e93]; omega
    · intro i hi
      rw [e93, el _ (by omega)]
      exact ⟨hT i hi, (b3 i hi).2⟩
  · have hx := p13.2
    unfold q_Ex at hx ⊢
    rw [e93]
    exact ⟨⟨hx.1.1, Int.le_trans hx.1.2 h1⟩, hx.2⟩
  · intro z
    have w := p14 z
    rw [el 20 (by omega), el 61 (by omega)]
    exact w
theorem q_R_rg (h : q_R s) (w : Nat) : (q_rg w).1 ≤ (s w).toInt ∧ (s w).toInt ≤ (q_rg w).2 := h w
/-- the next LOOP's time -/
theorem q_nl {a : Int64} (h1 : 0 ≤ a.toInt) (h2 : a.toInt ≤ 20000000000) : ((a / 10000 + 1) * 10000).toInt = a.toInt / 10000 * 10000 + 10000 := by
  have z : (10000 : Int64).toInt = 10000 := rfl
  have o : (1 : Int64).toInt = 1 := rfl
  have d : (a / 10000).toInt = a.toInt / 10000 := by rw [q_divL h1 (by rw [z]; omega), z]
  have e : (a / 10000 + 1).toInt = a.toInt / 10000 + 1 := by rw [q_addL (by rw [d, o]; omega) (by rw [d, o]; omega), d, o]
  rw [q_mulL (by rw [e, z]; omega) (by rw [e, z]; omega), e, z]
  omega
end QPA

/-! PURE: the face: the power is cut -/
section QCU
variable {s x u s' x' u' : Nat → Int32} {l y v l' y' v' : Nat → Int64} {D E W : Int} {fu f k n c : Nat} {t : Int64} {a b d e p r : Int32}
theorem q_I_44 (h : q_I D E W s l x y u v) (h1 : -1 ≤ a.toInt) (h2 : a.toInt ≤ 1000) (hn : ¬ a = 0) : q_I D E W (pj_u s 44 a) l x y u v := by
  obtain ⟨hr, h2', h3, h4, h5, h6, h7, h8, h9, h10, h11, h12, h13, h14⟩ := h
  obtain ⟨⟨n, ev, tm⟩, hx⟩ := h13
  have g : ∀ w, ¬ w = 44 → pj_u s 44 a w = s w := fun w h => q_un h
  refine ⟨q_R_u hr ⟨h1, h2⟩, q_Ln_c h2' (fun w _ _ => g w (by omega)) (fun w _ _ => g w (by omega)), h3, q_Wl_c h4 (g _ (by omega)) (g _ (by omega)) (g _ (by omega)) rfl rfl rfl rfl rfl rfl rfl rfl rfl, h5, q_Wt_c h6 (g _ (by omega)) (g _ (by omega)) (fun _ _ _ => rfl) (fun _ _ _ => rfl), q_Fg_c h7 (g _ (by omega)) (g _ (by omega)) (g _ (by omega)) (g _ (by omega)) rfl rfl rfl rfl rfl rfl rfl rfl rfl rfl rfl rfl rfl rfl rfl rfl, q_Fm_c h8 (g _ (by omega)) (fun _ _ _ => rfl) (fun _ _ _ => rfl), h9, q_Vd_c h10 (fun w _ _ => g w (by omega)) (fun _ _ _ => rfl), h11, h12, ⟨⟨n, q_Ev_c ev (g _ (by omega)) (fun i _ => g _ (by omega)) (fun _ _ => rfl) (fun _ _ => rfl) (fun _ _ => rfl) (fun _ _ => rfl) (fun c _ => by rw [Int32.sub_self, Int32.sub_self]), tm⟩, ?_⟩, ?_⟩
  · unfold q_Ex at hx ⊢
    rw [q_ua, g 54 (by omega), g 7 (by omega), g 8 (by omega), g 6 (by omega), g 94 (by omega), g 95 (by omega), g 63 (by omega), g 65 (by omega), g 3 (by omega), g 4 (by omega), g 62 (by omega), g 37000 (by omega), q_Ld_c (x' := x) (x := x) (g 70 (by omega)) (fun j _ => g _ (by omega)) rfl]
    exact ⟨hx.1, hx.2.1, hx.2.2.1, hx.2.2.2.1, hx.2.2.2.2.1, hn, hx.2.2.2.2.2.2⟩
  · intro z
    rw [g 94 (by omega)] at z
    obtain ⟨o1, o2⟩ := h14 z
    exact ⟨fun w a e => by rw [g w (q_rsN e 44 rfl)]; exact o1 w a e, o2⟩
theorem q_off_94 : q_off0 q_rz s 94 = 0 := rfl
/-- OFF, from any power: what holds then -/
theorem q_V_off (hI : q_I D E W s l x y u v) (h1 : E ≤ 500000 * ((k + 1 : Nat) : Int)) (h2 : W ≤ 200000 * ((k + 1 : Nat) : Int)) (ht : (l 93).toInt ≤ 24000000 * ((k + 1 : Nat) : Int)) : (q_off0 q_ru u) 1 = 0 ∧ q_V (k + 1) (q_off0 q_rz s) (pj_u (pj_u l 20 0) 61 0) (q_off0 q_zx x) (pj_u (pj_u (pj_u y 8 (-1)) 9 (-1)) 18 0) (q_off0 q_ru u) (pj_u (pj_u (pj_u (pj_u v 6 0) 12 0) 13 0) 20 0) := by
  obtain ⟨hJ, hK⟩ := q_offJ hI
  have hA : q_Af (q_off0 q_rz s) := by
    intro z
    rw [q_off_94] at z
    exact absurd z (by decide)
  exact q_V_L hJ hK hA h1 h2 (by rw [q_un (by omega), q_un (by omega)]; exact ht)
theorem q_F_cut (hV : q_V k s l x y u v) (h1 : ¬ a < -1) (h2 : ¬ 1000 < a) : q_Fa (k + 1) (pf_X11_cut a s l x y) (pf_X12_cut a s l u v) := by
  have q1 : pf_X12_isIn a.toInt64 (-1) 1000 s l u v = some (if a < -1 then 0 else if 1000 < a then 0 else 1, s, l, u, v) := q_isI a (-1) 1000
  have av : -1 ≤ a.toInt ∧ a.toInt ≤ 1000 := by
    rw [Int32.lt_iff_toInt_lt] at h1 h2
    have o : (-1 : Int32).toInt = -1 := rfl
    have o2 : (1000 : Int32).toInt = 1000 := rfl
    omega
  unfold pf_X11_cut pf_X12_cut pl_X12_cut_20
  rw [q1, q_b, q_in1 h1 h2, if_neg q_n10, if_neg q_l00, if_neg h1, if_neg h2]
  have n0 : ∀ b : Int32, ¬ b = 0 → -1 ≤ b.toInt → b.toInt ≤ 1000 → q_I 0 (500000 * k) (200000 * k) (pj_u s 44 b) l x y (pj_u u 1 0) v := fun b p q r => q_I_44 hV.1 q r p
  by_cases c : a = 0
  · have c1 : ¬ 0 < a := by rw [c]; decide
    unfold pl_X11_cut_35
    rw [if_neg c1, if_pos c, if_pos c, q_goOff, q_b]
    have hJ := n0 (-1) (by decide) (by decide) (by decide)
    obtain ⟨z1, z2⟩ := q_V_off (k := k) hJ (by omega) (by omega) (by have := hV.2.2.2; omega)
    unfold pf_X12_cutNow
    by_cases c0 : s 94 = 0
    · rw [if_pos c0, q_b]
      have o14 := hJ.2.2.2.2.2.2.2.2.2.2.2.2.2
      obtain ⟨e1, e2, e3, e4⟩ := q_offK o14 (by rw [q_un (by omega)]; exact c0)
      rw [e1, e2, e3, e4] at z2
      rw [e3] at z1
      rw [e1, e2]
      exact ⟨_, _, _, _, _, _, _, rfl, rfl, z1, z2⟩
    · rw [if_neg c0, q_forget, q_b, q_b, q_rs_rz]
      exact ⟨_, _, _, _, _, _, _, rfl, rfl, z1, z2⟩
  · have hb : (if 0 < a then pl_X11_cut_35 a a s l x y else pl_X11_cut_35 a (-1) s l x y) = pl_X11_cut_35 a a s l x y := by
      by_cases c1 : 0 < a
      · rw [if_pos c1]
      · rw [if_neg c1]
        have : a = -1 := by
          rw [Int32.lt_iff_toInt_lt] at c1
          have o : (0 : Int32).toInt = 0 := rfl
          have c : ¬ a.toInt = 0 := fun z => c (by rw [← Int32.toInt_inj, z]; rfl)
          have o1 : (-1 : Int32).toInt = -1 := rfl
          rw [← Int32.toInt_inj]; omega
        rw [this]
    rw [hb]
    unfold pl_X11_cut_35
    rw [if_neg c, if_neg c]
    exact q_Fa_s _ _ rfl rfl (q_V_I hV (n0 a c av.1 av.2) (q_un (by omega)) (q_un (by omega)))
theorem q_F_cut0 (hV : q_V k s l x y u v) (h : a < -1 ∨ 1000 < a) : q_Rf (k + 1) 1 s l x y (pf_X12_cut a s l u v) := by
  have q1 : pf_X12_isIn a.toInt64 (-1) 1000 s l u v = some (if a < -1 then 0 else if 1000 < a then 0 else 1, s, l, u, v) := q_isI a (-1) 1000
  unfold pf_X12_cut pl_X12_cut_20
  rw [q1, q_b, q_in0 h, if_pos rfl, if_pos q_l01]
  exact q_Rf_s 0 1 rfl hV
end QCU

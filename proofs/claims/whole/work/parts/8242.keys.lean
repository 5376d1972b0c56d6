/-! PURE: the face: the KEY -/
section QKZ
variable {s x u s' x' u' : Nat → Int32} {l y v l' y' v' : Nat → Int64} {D E W : Int} {fu f k n : Nat} {t : Int64} {a b d e p r g : Int32}
theorem q_I_pw (hI : q_I D E W s l x y u v) (h0 : ¬ s 94 = 0) {S X : Nat → Int32} (hr : q_R S) (g : ∀ w, q_Ss w → ¬ w = 94 → ¬ w = 95 → S w = s w) (g94 : S 94 = 1 ∨ (S 94 = 2 ∧ S 95 = 0)) (kx : ∀ w, q_Xs w → X w = x w) (V : ∀ w, ¬ w = 13 → v' w = v w) : q_I D E W S l X y u v' := by
  obtain ⟨-, h2, h3, h4, h5, h6, h7, h8, h9, h10, h11, h12, h13, h14⟩ := hI
  obtain ⟨⟨n, ev, tm⟩, hx⟩ := h13
  have hn := ev.2.1
  have n94 : ¬ S 94 = 0 := by
    rcases g94 with z | z
    · rw [z]; decide
    · rw [z.1]; decide
  have G : ∀ w, (w = 37000 ∨ (39000 ≤ w ∧ w < 39016) ∨ w = 6 ∨ w = 19 ∨ w = 40 ∨ w = 44 ∨ w = 3 ∨ w = 4 ∨ w = 7 ∨ w = 8 ∨ w = 54 ∨ w = 63 ∨ w = 65 ∨ w = 87 ∨ w = 57 ∨ w = 62 ∨ w = 67 ∨ w = 70 ∨ (10000 ≤ w ∧ w < 10024) ∨ (11000 ≤ w ∧ w < 11016) ∨ (13000 ≤ w ∧ w < 15000) ∨ (17000 ≤ w ∧ w < 17064) ∨ (26000 ≤ w ∧ w < 29000)) → S w = s w := fun w hw => g w (by unfold q_Ss; omega) (by omega) (by omega)
  have K : ∀ w, (w = 1 ∨ (3 ≤ w ∧ w ≤ 7) ∨ w = 10 ∨ w = 11 ∨ w = 13 ∨ w = 16 ∨ w = 17 ∨ w = 19 ∨ (21 ≤ w ∧ w ≤ 24) ∨ (27 ≤ w ∧ w ≤ 29) ∨ (2000 ≤ w ∧ w < 8008) ∨ (11000 ≤ w ∧ w < 11512)) → X w = x w := fun w hw => kx w (by unfold q_Xs; omega)
  refine ⟨hr, q_Ln_c h2 (fun w _ _ => G w (by omega)) (fun w _ _ => G w (by omega)), q_Ct_c h3 rfl (K _ (by omega)) (K _ (by omega)) (K _ (by omega)) (K _ (by omega)) (V _ (by omega)) (V _ (by omega)) (V _ (by omega)) (V _ (by omega)), ?_, q_Pl_c h5 rfl (K _ (by omega)) rfl rfl rfl rfl rfl (V _ (by omega)) (V _ (by omega)), q_Wt_c h6 (G _ (by omega)) (G _ (by omega)) (fun w _ _ => K w (by omega)) (fun w _ _ => rfl), q_Fg_c h7 (G _ (by omega)) (G _ (by omega)) (G _ (by omega)) (G _ (by omega)) rfl (K _ (by omega)) (K _ (by omega)) (K _ (by omega)) (K _ (by omega)) (K _ (by omega)) (K _ (by omega)) rfl rfl rfl rfl rfl rfl rfl rfl (V _ (by omega)), q_Fm_c h8 (G _ (by omega)) (fun w _ _ => K w (by omega)) (fun _ _ _ => rfl), q_Rc_c h9 rfl (K _ (by omega)) (K _ (by omega)) (K _ (by omega)) rfl (V _ (by omega)), q_Vd_c h10 (fun w _ _ => G w (by omega)) (fun w _ _ => K w (by omega)), h11, q_Pg_c h12 (K _ (by omega)) (fun w _ _ => K w (by omega)) rfl (fun w _ _ => rfl), ⟨⟨n, q_Ev_c ev (G _ (by omega)) (fun i _ => G _ (by omega)) (fun _ _ => K _ (by omega)) (fun _ _ => K _ (by omega)) (fun _ _ => rfl) (fun _ _ => rfl) (fun c _ => by rw [K _ (by omega), Int32.sub_self, Int32.sub_self]), tm⟩, ?_⟩, ?_⟩
  · unfold q_Wl q_wh at h4 ⊢
    rw [q_sp_c (G 19 (by omega)) (K 4 (by omega)), G 19 (by omega), G 10002 (by omega), K 4 (by omega), K 5 (by omega), K 6 (by omega), K 7 (by omega), V 6 (by omega)]
    exact ⟨h4.1, h4.2.1, h4.2.2.1, h4.2.2.2.1, h4.2.2.2.2.1, h4.2.2.2.2.2.1, h4.2.2.2.2.2.2.1, h4.2.2.2.2.2.2.2.1, h4.2.2.2.2.2.2.2.2.1, h4.2.2.2.2.2.2.2.2.2.1, fun _ => h4.2.2.2.2.2.2.2.2.2.2 h0⟩
  · unfold q_Ex at hx ⊢
    rw [G 54 (by omega), G 7 (by omega), G 8 (by omega), G 6 (by omega), G 63 (by omega), G 65 (by omega), G 3 (by omega), G 4 (by omega), G 44 (by omega), G 62 (by omega), G 37000 (by omega), q_Ld_c (x' := X) (x := x) (G 70 (by omega)) (fun j _ => G _ (by omega)) (K 21 (by omega))]
    refine ⟨hx.1, hx.2.1, fun z => ?_, hx.2.2.2.1, hx.2.2.2.2.1, hx.2.2.2.2.2⟩
    rcases g94 with q | q
    · rw [q] at z; exact absurd z (by decide)
    · rw [q.2]; decide
  · intro z
    exact absurd z n94
theorem q_F_key (hV : q_V k s l x y u v) (hk : k < 512) (ha : a = 0 ∨ a = 1) : q_Fa (k + 1) (pf_X11_key a s l x y) (pf_X12_key a s l u v) := by
  have hI := hV.1
  have hr := hI.1
  have r94 := q_R94 hr
  unfold pf_X11_key pf_X12_key
  generalize hu : pj_u u 1 0 = u0 at hI
  have V0 : q_V (k + 1) s l x y u0 v := by rw [← hu]; exact q_V_s hV
  have u01 : u0 1 = 0 := by rw [← hu]; exact q_ua
  by_cases c1 : s 94 = 1
  · rw [if_pos c1, if_pos c1]
    unfold pl_X11_key_14 pl_X12_key_19
    rcases ha with z | z
    · subst z
      rw [if_neg (by decide), if_pos rfl, if_neg (by decide), if_pos rfl, if_pos c1]
      unfold pl_X12_key_38
      have h0 : ¬ s 94 = 0 := by rw [c1]; decide
      have h3 := hI.2.2.1
      have kk : (500000 * (k : Int)) + 16 < 2147483647 := by omega
      have k2 := h3.2.2.1.2.2
      obtain ⟨e1, e2⟩ := q_offE (s := s) (l := l) (x := x) (y := y) (u := u0) (v := v) h3.2.2.1.2.1 (by omega) h3.2.2.1.1
      rw [if_pos rfl, e1, e2, q_b, q_b]
      have J := q_offI hI h0 kk
      obtain ⟨a1, a2, a3, a4, a5, a6, a7⟩ := q_ao_k (s := s) (l := l) (x := x) h3.2.2.1.2.1 (by omega)
      have l93 : (q_ao s l x).2.1 93 = l 93 := a1 _ (by omega)
      have s94 : (q_ao s l x).1 94 = 1 := by rw [← c1]; exact a5 _ (by omega) (by omega)
      have J2 := q_I_pw (v' := pj_u v 3 (q_ne s l x).toInt64) (S := pj_u (pj_u (q_ao s l x).1 95 0) 94 2) (X := pj_u (q_nw x) 11 (q_ne s l x)) J (by rw [s94]; decide) (q_R_u (q_R_u J.1 (by exact (show (0 : Int) ≤ 0 ∧ (0 : Int) ≤ 100 by decide))) (by exact (show (0 : Int) ≤ 2 ∧ (2 : Int) ≤ 2 by decide))) (fun w _ p q => by rw [q_un p, q_un q]) (Or.inr ⟨q_ua, by rw [q_un (by omega), q_ua]⟩) (fun _ _ => rfl) (fun _ _ => rfl)
      have hK : q_Kl (pj_u (q_nw x) 11 (q_ne s l x)) (pj_u v 3 (q_ne s l x).toInt64) := by
        have := hV.2.1
        unfold q_Kl at this ⊢
        rw [q_un (by omega), q_un (by omega), q_un (by omega), q_nw_out (by omega), q_nw_out (by omega)]
        exact this
      have hA : q_Af (pj_u (pj_u (q_ao s l x).1 95 0) 94 2) := by
        intro _
        rw [q_un (by omega), q_ua]; decide
      obtain ⟨z1, z2⟩ := q_V_L (k := k + 1) J2 hK hA (by omega) (by omega) (by rw [l93]; have := hV.2.2.2; omega)
      exact ⟨_, _, _, _, _, _, _, rfl, rfl, z1, z2⟩
    · subst z
      rw [if_pos rfl, if_pos rfl]
      exact ⟨_, _, _, _, _, _, _, rfl, rfl, u01, V0⟩
  · rw [if_neg c1, if_neg c1]
    unfold pl_X11_key_14 pl_X12_key_19
    rcases ha with z | z
    · subst z
      rw [if_pos rfl, if_pos rfl]
      exact ⟨_, _, _, _, _, _, _, rfl, rfl, u01, V0⟩
    · subst z
      have n10 : ¬ (1 : Int32) = 0 := by decide
      unfold pl_X12_key_38
      rw [if_neg n10, if_neg n10, if_neg n10, if_neg n10, if_neg n10]
      by_cases c0 : s 94 = 0
      · rw [if_pos c0, if_pos c0]
        obtain ⟨S, X, U, e1, e2, hR, g1, g2, kx, m, hfm⟩ := q_bootP hI c0
        rw [e1, e2, q_b, q_b]
        unfold pl_X11_key_50 pl_X12_key_69
        have G : ∀ w, q_Ss w → ¬ w = 87 → ¬ w = 94 → pj_u S 94 1 w = s w := by
          intro w hw p q
          rw [q_un q]
          unfold q_Ss at hw
          by_cases c : w < 97
          · exact g1 w c (by omega) (by omega) (by omega) p (by omega)
          · exact g2 w (by omega) (by omega) (by omega) (by omega)
        have J := q_bootI (S := pj_u S 94 1) (X := pj_u X 2 0) (U := U) hI c0 (q_R_u hR (by exact (show (0 : Int) ≤ 1 ∧ (1 : Int) ≤ 2 by decide))) G q_ua (fun w hw p => by rw [q_un (by unfold q_Xs at hw; omega)]; exact kx w p) (fun w _ p => m w p) (q_Fm_c hfm (q_un (by omega)) (fun w _ _ => q_un (by omega)) (fun _ _ _ => rfl))
        have hK : q_Kl (pj_u X 2 0) (pj_u v 13 0) := by
          have h1 := hI.2.2.1.1.2.1
          unfold q_Kl
          rw [q_ua, q_ua, q_un (by omega), kx 1 (by omega)]
          exact ⟨rfl, by decide, h1⟩
        have hA : q_Af (pj_u S 94 1) := by
          intro z
          rw [q_ua] at z
          exact absurd z (by decide)
        obtain ⟨z1, z2⟩ := q_V_L (k := k + 1) J hK hA (by omega) (by omega) (by have := hV.2.2.2; omega)
        exact ⟨_, _, _, _, _, _, _, rfl, rfl, z1, z2⟩
      · rw [if_neg c0, if_neg c0]
        unfold pl_X11_key_50 pl_X12_key_69
        have J := q_I_pw (v' := pj_u v 13 0) (S := pj_u s 94 1) (X := pj_u x 2 0) hI c0 (q_R_u hr (by exact (show (0 : Int) ≤ 1 ∧ (1 : Int) ≤ 2 by decide))) (fun w _ p _ => q_un p) (Or.inl q_ua) (fun w hw => q_un (by unfold q_Xs at hw; omega)) (fun w p => q_un p)
        have hK : q_Kl (pj_u x 2 0) (pj_u v 13 0) := by
          have h1 := hI.2.2.1.1.2.1
          unfold q_Kl
          rw [q_ua, q_ua, q_un (by omega)]
          exact ⟨rfl, by decide, h1⟩
        have hA : q_Af (pj_u s 94 1) := by
          intro z
          rw [q_ua] at z
          exact absurd z (by decide)
        obtain ⟨z1, z2⟩ := q_V_L (k := k + 1) J hK hA (by omega) (by omega) (by have := hV.2.2.2; omega)
        exact ⟨_, _, _, _, _, _, _, rfl, rfl, z1, z2⟩
end QKZ

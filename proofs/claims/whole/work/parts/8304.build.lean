/-! PURE: the face: build -/
section QBLD
variable {s x u s' x' u' x2 u2 : Nat → Int32} {l y v l' y' v' : Nat → Int64} {D E W : Int} {fu f k n m N p K : Nat} {t : Int64} {a b d e r c w : Int32}
theorem q_I_pg (h : q_I D E W s l x y u v) (hr : q_R s') (hpg : q_Pg x' u') (g : ∀ w, q_Ss w → s' w = s w) (go : s 94 = 0 → ∀ w a, q_rs w = some a → s' w = s w) (k : ∀ w, q_Xs w → ¬ (w = 24 ∨ (11000 ≤ w ∧ w < 11512)) → x' w = x w) (m : ∀ w, q_Us w → ¬ (w = 25 ∨ (13000 ≤ w ∧ w < 14600)) → u' w = u w) : q_I D E W s' l x' y u' v := by
  obtain ⟨-, h2, h3, h4, h5, h6, h7, h8, h9, h10, h11, h12, h13, h14⟩ := h
  refine ⟨hr, q_Ln_c h2 ?_ ?_, q_Ct_c h3 rfl ?_ ?_ ?_ ?_ rfl rfl rfl rfl, q_Wl_c h4 ?_ ?_ ?_ rfl rfl ?_ ?_ ?_ ?_ ?_ ?_ rfl, q_Pl_c h5 rfl ?_ rfl rfl ?_ ?_ ?_ rfl rfl, q_Wt_c h6 ?_ ?_ ?_ ?_, q_Fg_c h7 ?_ ?_ ?_ ?_ rfl ?_ ?_ ?_ ?_ ?_ ?_ rfl ?_ ?_ ?_ ?_ ?_ ?_ ?_ rfl, q_Fm_c h8 ?_ ?_ ?_, q_Rc_c h9 rfl ?_ ?_ ?_ ?_ rfl, q_Vd_c h10 ?_ ?_, q_Kn_c h11 ?_, hpg, q_Es_c h13 ?_ (fun w hw => g w (by unfold q_Ss; omega)) ?_ rfl ?_ ?_ ?_ (q_Ld_i (g 70 (by unfold q_Ss; omega)) (fun j _ => g _ (by unfold q_Ss; omega)) (k 21 (by unfold q_Xs; omega) (by omega))), ?_⟩
  all_goals try (intro w a b)
  all_goals first
    | (apply g; unfold q_Ss; omega)
    | (apply k _ (by unfold q_Xs; omega); omega)
    | (apply m _ (by unfold q_Us; omega); omega)
    | rfl
    | skip
  intro z
  rw [g 94 (by unfold q_Ss; omega)] at z
  obtain ⟨o1, o2, o3, o4, o5, o6, o7, o8, o9, o10, o11, o12, o13, o14, o15⟩ := h14 z
  refine ⟨fun w a e => by rw [go z w a e]; exact o1 w a e, o2, o3, ?_, ?_, o6, ?_, ?_, ?_, o10, o11, ?_, o13, ?_, ?_⟩
  · rw [m 4 (by unfold q_Us; omega) (by omega)]; exact o4
  · rw [m 5 (by unfold q_Us; omega) (by omega)]; exact o5
  · rw [m 7 (by unfold q_Us; omega) (by omega)]; exact o7
  · rw [m 10 (by unfold q_Us; omega) (by omega)]; exact o8
  · intro c hc; rw [m _ (by unfold q_Us; omega) (by omega)]; exact o9 c hc
  · rw [m 14 (by unfold q_Us; omega) (by omega)]; exact o12
  · rw [m 21 (by unfold q_Us; omega) (by omega)]; exact o14
  · rw [m 29 (by unfold q_Us; omega) (by omega)]; exact o15
/-- the reference copies its code -/
theorem q_cpy : ∀ (R2 R1 : q_Cd) (f : Nat) (u : Nat → Int32), R1.length + R2.length ≤ 300 → R2.length < f → u 25 = Int32.ofNat (R1.length + R2.length) → q_cdA 15000 16000 u (R1 ++ R2) 0 → q_cdA 13000 14000 u R1 0 → ∃ u', pl_X12_build_34 1000 f (Int32.ofNat R1.length) s l u v = some (s 2, s, l, u', v) ∧ q_cdA 13000 14000 u' (R1 ++ R2) 0 ∧ ∀ w, ¬ (13000 ≤ w ∧ w < 14600) → u' w = u w := by
  intro R2
  induction R2 with
  | nil =>
    intro R1 f u hl hf h25 h1 h2
    obtain ⟨f, rfl⟩ : ∃ f9, f = f9 + 1 := ⟨f - 1, by omega⟩
    have n : ¬ Int32.ofNat R1.length < u 25 := by rw [h25, q_onlt (by omega) (by simp at hl ⊢; omega)]; simp
    refine ⟨u, ?_, by simpa using h2, fun _ _ => rfl⟩
    rw [pl_X12_build_34, if_neg n]
  | cons q r ih =>
    intro R1 f u hl hf h25 h1 h2
    have e : (q :: r).length = r.length + 1 := rfl
    rw [e] at hl hf h25
    obtain ⟨f, rfl⟩ : ∃ f9, f = f9 + 1 := ⟨f - 1, by omega⟩
    have c1 : Int32.ofNat R1.length < u 25 := by rw [h25, q_onlt (by omega) (by omega)]; omega
    have h1' := h1
    rw [q_cdA_ap] at h1'
    obtain ⟨-, k1, k2, -⟩ := h1'
    rw [Nat.zero_add] at k1 k2
    have A : q_cdA 13000 14000 (pj_u (pj_u u (13000 + R1.length) q.1) (14000 + R1.length) q.2) (R1 ++ [q]) 0 := q_cdA_add h2 (by omega) q.1 q.2
    obtain ⟨u', e1, h3, g3⟩ := ih (R1 ++ [q]) f (pj_u (pj_u u (13000 + R1.length) q.1) (14000 + R1.length) q.2) (by simp; omega) (by omega) (by rw [q_un (by omega), q_un (by omega), h25]; exact congrArg Int32.ofNat (by simp; omega)) (by
      rw [List.append_assoc]
      refine q_cdA_c _ 0 (fun w hw => ?_) h1
      have el : (R1 ++ q :: r).length = R1.length + (r.length + 1) := by simp
      have el2 : (R1 ++ ([q] ++ r)).length = R1.length + (r.length + 1) := by simp
      rw [q_un (by omega), q_un (by omega)]) A
    refine ⟨u', ?_, by rw [List.append_assoc] at h3; exact h3, fun w hw => by rw [g3 w hw, q_un (by omega), q_un (by omega)]⟩
    have el : (R1 ++ [q]).length = R1.length + 1 := by simp
    rw [el] at e1
    rw [pl_X12_build_34, if_pos c1]
    unfold pl_X12_build_54
    rw [q_g (by omega) (by omega), q_g (by omega) (by omega), q_g (by omega) (by omega), q_g (by omega) (by omega), q_onC (by omega), q_un (show ¬ 16000 + R1.length = 13000 + R1.length by omega), k1, k2, show Int32.ofNat R1.length + 1 = Int32.ofNat (R1.length + 1) from q_onaL _ 1, e1]
theorem q_cdA_y {bo bn b1 b2 : Nat} {X : Nat → Int32} : ∀ (C : q_Cd) (i : Nat), (∀ j, i ≤ j → j < i + C.length → X (b1 + j) = x (bo + j) ∧ X (b2 + j) = x (bn + j)) → q_cdA bo bn x C i → q_cdA b1 b2 X C i := by
  intro C
  induction C with
  | nil => intro i _ _; trivial
  | cons q r ih =>
    intro i h hc
    have e : (q :: r).length = r.length + 1 := rfl
    rw [e] at h
    obtain ⟨h1, h2, h3⟩ := hc
    exact ⟨by rw [(h i (by omega) (by omega)).1]; exact h1, by rw [(h i (by omega) (by omega)).2]; exact h2, ih (i + 1) (fun j a1 a2 => h j (by omega) (by omega)) h3⟩
theorem q_c0 {K : Option (Int32 × pj_Z)} : pj_c 0 0 256 256 256 K = K := by
  unfold pj_c
  exact if_neg (by decide)
theorem q_F_build (hV : q_V k s l x y u v) : q_Fa (k + 1) (pf_X11_build s l x y) (pf_X12_build s l u v) := by
  obtain ⟨hI, hk, ha, ht⟩ := hV
  have hr := hI.1
  have r1 : 0 ≤ (s 1).toInt ∧ (s 1).toInt ≤ 200 := hr 1
  have rT : ∀ i, i < 200 → 0 ≤ (s (1000 + i)).toInt ∧ (s (1000 + i)).toInt ≤ 126 := by
    intro i hi
    have q := hr (1000 + i)
    have e : q_rg (1000 + i) = (0, 126) := by
      unfold q_rg
      rw [show (1000 + i) / 1000 = 1 by omega]
      rfl
    rw [e] at q
    exact q
  obtain ⟨N, hN, hs⟩ : ∃ N : Nat, N ≤ 200 ∧ s 1 = Int32.ofNat N := by
    refine ⟨(s 1).toInt.toNat, by omega, ?_⟩
    apply Int32.toInt_inj.mp
    rw [q_onI (by omega)]
    omega
  have hI' := q_I_mono (E' := 500000 * ((k + 1 : Nat) : Int)) (W' := 200000 * ((k + 1 : Nat) : Int)) hI (by omega) (by omega)
  have hpg := hI.2.2.2.2.2.2.2.2.2.2.2.1
  unfold pf_X11_build pf_X0_readText po_X0_readText pf_X12_build po_X12_build pf_X12_readText po_X12_readText
  generalize hu0 : pj_u u 1 0 = u0 at *
  have u01 : u0 1 = 0 := by rw [← hu0]; exact q_ua
  have hx : q_CSt 0 [] (pj_u (pj_u x 26 0) 25 0) := ⟨by rw [q_un (by omega), q_ua]; rfl, by rw [q_ua]; rfl, trivial⟩
  have hu : q_RS 0 [] [] 0 (pj_u (pj_u (pj_u (pj_u u0 24 0) 26 0) 27 0) 28 0) := ⟨by rw [q_un (by omega), q_un (by omega), q_un (by omega), q_ua]; rfl, by rw [q_un (by omega), q_un (by omega), q_ua]; rfl, trivial, by rw [q_un (by omega), q_ua]; rfl, trivial, by rw [q_ua]; rfl⟩
  have gx : q_Gx x (pj_u (pj_u x 26 0) 25 0) := fun w a1 a2 => by rw [q_un (by omega), q_un (by omega)]
  have gu : q_Gu u0 (pj_u (pj_u (pj_u (pj_u u0 24 0) 26 0) 27 0) 28 0) := fun w a1 a2 => by rw [q_un (by omega), q_un (by omega), q_un (by omega), q_un (by omega)]
  have nrs1 : q_rs 1 = none := by decide
  have nrs2 : q_rs 2 = none := by decide
  rcases q_txtP (y := y) (l := l) (v := v) hN hs rT 7 0 0 1000 1000 [] [] _ _ 0 1 (by omega) (by omega) hx hu q_PW_0 (by omega) (by simp) (by simp) (by omega) with ⟨i, pc, pr, x', u', C, R, i8, eF, eG, hC, g1, hR, g2, hw, lC, lR⟩ | ⟨a1, pf, x', u', hp, eF, eG, h26, g1, g2⟩
  · have g1' := q_Gx_t gx g1
    have g2' := q_Gu_t gu g2
    have eF' : pl_X0_readText_16 1000 1000 0 1 1 s l (pj_u (pj_u x 26 0) 25 0) y = _ := eF
    have eG' : pl_X12_readText_26 1000 1000 0 0 0 s l (pj_u (pj_u (pj_u (pj_u u0 24 0) 26 0) 27 0) 28 0) v = _ := eG
    rw [eF', eG', q_b, if_pos rfl]
    unfold pl_X0_readText_79
    rw [if_neg q_n10, q_c0, q_c0, q_b]
    obtain ⟨u9, e9, h9, g9⟩ := q_cpy (s := pj_u (pj_u s 2 (Int32.ofNat i)) 1 0) (l := l) (v := v) R [] 1000 (pj_u u' 25 (u' 26)) (by simp; omega) (by omega) (by rw [q_ua, hR.2.1]; simp) (by
      refine q_cdA_c _ 0 (fun w hw => q_un ?_) hR.2.2.1
      simp at hw
      omega) trivial
    have e9' : pl_X12_build_34 1000 1000 0 (pj_u (pj_u s 2 (Int32.ofNat i)) 1 0) l (pj_u u' 25 (u' 26)) v = some (Int32.ofNat i, pj_u (pj_u s 2 (Int32.ofNat i)) 1 0, l, u9, v) := by
      have z : (pj_u (pj_u s 2 (Int32.ofNat i)) 1 0) 2 = Int32.ofNat i := by rw [q_un (by omega), q_ua]
      rw [z] at e9
      exact e9
    have es : pj_u (pj_u s 1 0) 2 (Int32.ofNat i) = pj_u (pj_u s 2 (Int32.ofNat i)) 1 0 := q_u2 (by omega)
    rw [e9', es]
    have hX : ∀ w, ¬ (w = 24 ∨ (11000 ≤ w ∧ w < 11512)) → (pj_u (pj_y (pj_y x' 11000 256 x' 12000) 11256 256 (pj_y x' 11000 256 x' 12000) 12256) 24 ((pj_y (pj_y x' 11000 256 x' 12000) 11256 256 (pj_y x' 11000 256 x' 12000) 12256) 25)) w = x' w := by
      intro w hw
      rw [q_un (by omega), q_y_out (by omega), q_y_out (by omega)]
    have hX24 : (pj_u (pj_y (pj_y x' 11000 256 x' 12000) 11256 256 (pj_y x' 11000 256 x' 12000) 12256) 24 ((pj_y (pj_y x' 11000 256 x' 12000) 11256 256 (pj_y x' 11000 256 x' 12000) 12256) 25)) 24 = Int32.ofNat C.length := by
      rw [q_ua, q_y_out (by omega), q_y_out (by omega), hC.2.1]
    have hXc : q_cdA 11000 11256 (pj_u (pj_y (pj_y x' 11000 256 x' 12000) 11256 256 (pj_y x' 11000 256 x' 12000) 12256) 24 ((pj_y (pj_y x' 11000 256 x' 12000) 11256 256 (pj_y x' 11000 256 x' 12000) 12256) 25)) C 0 := by
      refine q_cdA_y C 0 (fun j a1 a2 => ⟨?_, ?_⟩) hC.2.2
      · rw [q_un (by omega), q_y_out (by omega), q_y_at (by omega)]
        exact congrArg x' (by omega)
      · rw [q_un (by omega), q_y_at (by omega), q_y_out (by omega)]
        exact congrArg x' (by omega)
    generalize pj_u (pj_y (pj_y x' 11000 256 x' 12000) 11256 256 (pj_y x' 11000 256 x' 12000) 12256) 24 ((pj_y (pj_y x' 11000 256 x' 12000) 11256 256 (pj_y x' 11000 256 x' 12000) 12256) 25) = X at *
    have hi : (Int32.ofNat i).toInt = i := q_onI (by omega)
    have hu9 : ∀ w, q_Us w → ¬ (w = 25 ∨ (13000 ≤ w ∧ w < 14600)) → u9 w = u0 w := by
      intro w h1 h2
      unfold q_Us at h1
      rw [g9 w (by omega), q_un (by omega), g2' w (by omega) (by omega)]
    have u91 : u9 1 = 0 := by rw [hu9 1 (by unfold q_Us; omega) (by omega), u01]
    refine ⟨Int32.ofNat i, _, l, X, y, u9, v, rfl, rfl, u91, ?_, ?_, ?_, by omega⟩
    · rw [q_uv u91]
      refine q_I_pg hI' (q_R_u (q_R_u hr (by rw [hi]; exact ⟨by show (0 : Int) ≤ _; omega, by show _ ≤ (8 : Int); omega⟩)) (by decide)) (q_Pg_mk (q_PW_G hw) (by omega) (by omega) hXc h9 hX24 ?_) ?_ ?_ ?_ hu9
      · rw [g9 25 (by omega), q_ua, hR.2.1]
      · intro w hw
        unfold q_Ss at hw
        rw [q_un (by omega), q_un (by omega)]
      · intro _ w a e
        have w1 : ¬ w = 1 := fun z => by rw [z, nrs1] at e; exact absurd e (by simp)
        have w2 : ¬ w = 2 := fun z => by rw [z, nrs2] at e; exact absurd e (by simp)
        rw [q_un w1, q_un w2]
      · intro w h1 h2
        unfold q_Xs at h1
        rw [hX w h2, g1' w (by omega) (by omega)]
    · unfold q_Kl at hk ⊢
      rw [hX 1 (by omega), hX 2 (by omega), g1' 1 (by omega) (by omega), g1' 2 (by omega) (by omega)]
      exact hk
    · unfold q_Af at ha ⊢
      rw [q_un (by omega), q_un (by omega), q_un (by omega), q_un (by omega)]
      exact ha
  · have g1' := q_Gx_t gx g1
    have g2' := q_Gu_t gu g2
    have eF' : pl_X0_readText_16 1000 1000 0 1 1 s l (pj_u (pj_u x 26 0) 25 0) y = _ := eF
    have eG' : pl_X12_readText_26 1000 1000 0 0 0 s l (pj_u (pj_u (pj_u (pj_u u0 24 0) 26 0) 27 0) 28 0) v = _ := eG
    have nf : ¬ Int32.ofNat pf = -1 := fun z => by
      have q : (Int32.ofNat pf).toInt = -1 := by rw [z]; rfl
      rw [q_onI (by omega)] at q
      omega
    rw [eF', eG', q_b, if_neg nf]
    unfold pl_X0_readText_79
    rw [if_pos rfl, q_b, h26]
    have hu9 : ∀ w, q_Us w → u' w = u0 w := by
      intro w h1
      unfold q_Us at h1
      exact g2' w (by omega) (by omega)
    have u91 : u' 1 = 0 := by rw [hu9 1 (by unfold q_Us; omega), u01]
    refine ⟨_, _, l, x', y, u', v, rfl, rfl, u91, ?_, ?_, ?_, by omega⟩
    · rw [q_uv u91]
      refine q_I_fo hI' (q_R_u hr (by decide)) ?_ ?_ ?_ hu9
      · intro w hw
        unfold q_Ss at hw
        rw [q_un (by omega)]
      · intro _ w a e
        have w1 : ¬ w = 1 := fun z => by rw [z, nrs1] at e; exact absurd e (by simp)
        rw [q_un w1]
      · intro w h1
        unfold q_Xs at h1
        exact g1' w (by omega) (by omega)
    · unfold q_Kl at hk ⊢
      rw [g1' 1 (by omega) (by omega), g1' 2 (by omega) (by omega)]
      exact hk
    · unfold q_Af at ha ⊢
      rw [q_un (by omega), q_un (by omega)]
      exact ha
end QBLD

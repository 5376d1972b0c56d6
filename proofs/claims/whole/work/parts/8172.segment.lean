/-! PURE: a SEGMENT ends: the pair -/
section QSG
variable {s x u s' x' u' : Nat → Int32} {l y v l' y' v' : Nat → Int64} {D E W : Int} {fu k n : Nat}
theorem q_I_pl (hI : q_I D E W s l x y u v) (h0 : ¬ s 94 = 0) (hr : q_R s') (hp : q_Pl l x' y' u' v') (g : ∀ w, q_Ss w → s' w = s w) (kx : ∀ w, ¬ w = 10 → x' w = x w) (ky : ∀ w, ¬ w = 8 → ¬ w = 9 → y' w = y w) (ku : ∀ w, ¬ w = 7 → ¬ w = 9 → ¬ w = 10 → u' w = u w) (kv : ∀ w, ¬ w = 8 → ¬ w = 11 → v' w = v w) : q_I D E W s' l x' y' u' v' := by
  obtain ⟨-, h2, h3, h4, h5, h6, h7, h8, h9, h10, h11, h12, h13, -⟩ := hI
  refine ⟨hr, q_Ln_c h2 ?_ ?_, q_Ct_c h3 rfl ?_ ?_ ?_ ?_ ?_ ?_ ?_ ?_, q_Wl_c h4 ?_ ?_ ?_ rfl rfl ?_ ?_ ?_ ?_ ?_ ?_ ?_, hp, q_Wt_c h6 ?_ ?_ ?_ ?_, q_Fg_c h7 ?_ ?_ ?_ ?_ rfl ?_ ?_ ?_ ?_ ?_ ?_ ?_ ?_ ?_ ?_ ?_ ?_ ?_ ?_ ?_, q_Fm_c h8 ?_ ?_ ?_, q_Rc_c h9 rfl ?_ ?_ ?_ ?_ ?_, q_Vd_c h10 ?_ ?_, q_Kn_c h11 ?_, q_Pg_c h12 ?_ ?_ ?_ ?_, q_Es_c h13 ?_ (fun w hw => g w (by unfold q_Ss; omega)) ?_ rfl ?_ ?_ ?_ (q_Ld_i (g 70 (by unfold q_Ss; omega)) (fun j _ => g _ (by unfold q_Ss; omega)) (kx 21 (by omega))), ?_⟩
  all_goals try (intro w a b)
  all_goals first
    | (apply g; unfold q_Ss; omega)
    | (apply kx; omega)
    | (apply ky; omega; omega)
    | (apply ku; omega; omega; omega)
    | (apply kv; omega; omega)
    | rfl
    | skip
  intro z
  rw [g 94 (by unfold q_Ss; omega)] at z
  exact absurd z h0
theorem q_r200 {a : Int32} (h1 : 0 ≤ a.toInt) (h2 : a.toInt ≤ 199) : pj_rem (a + 1) 200 = if a + 1 = 200 then 0 else a + 1 := by
  have e : (a + 1).toInt = a.toInt + 1 := q_one (by omega) (by omega)
  by_cases c : a + 1 = 200
  · rw [if_pos c, c]; rfl
  · rw [if_neg c]
    have c2 : ¬ (a + 1).toInt = 200 := fun z => c (by rw [← Int32.toInt_inj, z]; rfl)
    have z : (200 : Int32).toInt = 200 := rfl
    have d : (a + 1) / 200 = 0 := by
      rw [← Int32.toInt_inj, q_divI (by omega) (by rw [z]; omega), z]
      show (a + 1).toInt / 200 = 0
      omega
    unfold pj_rem
    rw [d, Int32.zero_mul, Int32.sub_zero]
def q_Sg (D E W : Int) (l : Nat → Int64) (s x : Nat → Int32) (v : Nat → Int64) (F G : Option (Unit × pj_Z)) : Prop := ∃ s' x' y' u' v', F = some ((), s', l, x', y') ∧ G = some ((), s', l, u', v') ∧ q_I D E W s' l x' y' u' v' ∧ (∀ w, w < 40000 → ¬ w = 87 → ¬ w = 26 → (w < 8008 ∨ 8016 ≤ w) → s' w = s w) ∧ (∀ w, w < 8000 → ¬ w = 10 → x' w = x w) ∧ (∀ w, ¬ w = 8 → ¬ w = 11 → v' w = v w)
theorem q_segP (hI : q_I D E W s l x y u v) (h0 : ¬ s 94 = 0) {c : Nat} (hc : c < 8) : q_Sg D E W l s x v (pj_b (pf_X2_countMiss (Int32.ofNat c) (l 93) s l x y) (fun _ s1 l1 x1 y1 => if s1 26 = 0 then pf_X11_testMisfires s1 l1 x1 y1 else some ((), s1, l1, x1, y1))) (pf_X12_segment (Int32.ofNat c) s l u v) := by
  have hr := hI.1
  obtain ⟨a1, a2, a3, a4, a5, a6, a7, a8⟩ := hI.2.2.2.2.1
  have r26 : 0 ≤ (s 26).toInt ∧ (s 26).toInt ≤ 199 := hr 26
  have tl := hI.2.2.1.2.2.2.2
  -- both to one state
  have key : ∃ (S : Nat → Int32) (Y : Nat → Int64) (b : Int64), q_R S ∧ (∀ w, (w < 8008 ∨ 8016 ≤ w) → S w = s w) ∧ Y = pj_u (pj_u y 9 b) 8 (l 93) ∧ pf_X2_countMiss (Int32.ofNat c) (l 93) s l x y = some ((), pj_u S 26 (pj_rem (S 26 + 1) 200), l, pj_u x 10 (Int32.ofNat c), Y) ∧ (∀ fu, po_X12_segment fu (Int32.ofNat c) s l u v = pl_X12_segment_55 fu (Int32.ofNat c) (l 93 - v 8) S l u v) ∧ (u 7 = 0 → b = -1) ∧ (u 7 = 1 → b = l 93 - v 8 ∧ 0 ≤ (l 93 - v 8).toInt ∧ (l 93 - v 8).toInt ≤ (l 93).toInt) := by
    have m1 : (-1 : Int64).toInt = -1 := rfl
    rcases a1 with z | z
    · obtain ⟨y8, u10⟩ := a3 z
      refine ⟨s, _, -1, hr, fun _ _ => rfl, rfl, ?_, ?_, fun _ => rfl, fun q => ?_⟩
      · unfold pf_X2_countMiss pl_X2_countMiss_23 pl_X2_countMiss_95
        rw [if_pos y8, if_pos rfl]
      · intro fu; unfold po_X12_segment; rw [if_pos z]
      · rw [z] at q; exact absurd q (by decide)
    · obtain ⟨y8, v8, v8b, x10⟩ := a4 z
      have z0 : ¬ u 7 = 0 := by rw [z]; decide
      have ny8 : ¬ y 8 = -1 := by
        intro q
        rw [y8] at q
        rw [q, m1] at v8
        omega
      have eb : (l 93 - v 8).toInt = (l 93).toInt - (v 8).toInt := q_subL (by omega) (by omega)
      have nb : ¬ l 93 - v 8 = -1 := by
        intro q
        rw [q, m1] at eb
        omega
      have hb : u 7 = 1 → l 93 - v 8 = l 93 - v 8 ∧ 0 ≤ (l 93 - v 8).toInt ∧ (l 93 - v 8).toInt ≤ (l 93).toInt := fun _ => ⟨rfl, by omega, by omega⟩
      rcases a2 with w | w
      · have y9 := a5 w
        refine ⟨s, _, l 93 - v 8, hr, fun _ _ => rfl, rfl, ?_, ?_, fun q => absurd q z0, hb⟩
        · unfold pf_X2_countMiss pl_X2_countMiss_23 pl_X2_countMiss_95
          rw [if_neg ny8, y8, if_neg nb, if_pos y9]
        · intro fu; unfold po_X12_segment; rw [if_neg z0, if_pos w]
      · obtain ⟨y9, v11, v11b⟩ := a6 w
        have w0 : ¬ u 10 = 0 := by rw [w]; decide
        have ny9 : ¬ y 9 = -1 := by
          intro q
          rw [y9] at q
          rw [q, m1] at v11
          omega
        by_cases d : v 11 + v 11 / 8 < l 93 - v 8
        · have n1 : ¬ x 10 < 0 := by rw [Int32.lt_iff_toInt_lt]; have o : (0 : Int32).toInt = 0 := rfl; rw [o]; omega
          have n2 : x 10 < 8 := by rw [Int32.lt_iff_toInt_lt]; have o : (8 : Int32).toInt = 8 := rfl; rw [o]; omega
          have ec : (x 10).toNatClampNeg = (x 10).toInt.toNat := rfl
          refine ⟨pj_u s (8008 + (x 10).toNatClampNeg) (s (8008 + (x 10).toNatClampNeg) + 1), _, l 93 - v 8, q_R_u hr ?_, fun w h => q_un (by omega), rfl, ?_, ?_, fun q => absurd q z0, hb⟩
          · have q := q_rg8 (r := 1) (k := (x 10).toNatClampNeg) (by omega) (by omega)
            rw [show 8000 + 8 * 1 + (x 10).toNatClampNeg = 8008 + (x 10).toNatClampNeg by omega] at q
            rw [q]
            exact q_R_any
          · unfold pf_X2_countMiss pl_X2_countMiss_23 pl_X2_countMiss_95
            rw [if_neg ny8, y8, if_neg nb, if_neg ny9, y9, if_pos d, if_neg n1, if_pos n2, q_gI (by omega) (by omega) (by omega), q_gI (by omega) (by omega) (by omega)]
          · intro fu; unfold po_X12_segment
            rw [if_neg z0, if_neg w0, if_pos d, ← x10, q_gI (by omega) (by omega) (by omega), q_gI (by omega) (by omega) (by omega)]
        · refine ⟨s, _, l 93 - v 8, hr, fun _ _ => rfl, rfl, ?_, ?_, fun q => absurd q z0, hb⟩
          · unfold pf_X2_countMiss pl_X2_countMiss_23 pl_X2_countMiss_95
            rw [if_neg ny8, y8, if_neg nb, if_neg ny9, y9, if_neg d]
          · intro fu; unfold po_X12_segment; rw [if_neg z0, if_neg w0, if_neg d]
  obtain ⟨S, Y, b, hS, gS, eY, f1, f2, b0, b1⟩ := key
  have S26 : S 26 = s 26 := gS 26 (by omega)
  have e1 : (s 26 + 1).toInt = (s 26).toInt + 1 := q_one (by omega) (by omega)
  rw [f1, q_b]
  unfold pf_X12_segment
  rw [f2]
  unfold pl_X12_segment_55
  rw [q_bz a1, S26]
  have hp : q_Pl l (pj_u x 10 (Int32.ofNat c)) Y (pj_u (pj_u (pj_u u 10 (u 7)) 7 1) 9 (Int32.ofNat c)) (pj_u (pj_u v 11 (l 93 - v 8)) 8 (l 93)) := by
    unfold q_Pl
    have k1 : pj_u (pj_u (pj_u u 10 (u 7)) 7 1) 9 (Int32.ofNat c) 7 = 1 := by rw [q_un (by omega), q_ua]
    have k2 : pj_u (pj_u (pj_u u 10 (u 7)) 7 1) 9 (Int32.ofNat c) 9 = Int32.ofNat c := q_ua
    have k3 : pj_u (pj_u (pj_u u 10 (u 7)) 7 1) 9 (Int32.ofNat c) 10 = u 7 := by rw [q_un (by omega), q_un (by omega), q_ua]
    have k4 : pj_u (pj_u v 11 (l 93 - v 8)) 8 (l 93) 8 = l 93 := q_ua
    have k5 : pj_u (pj_u v 11 (l 93 - v 8)) 8 (l 93) 11 = l 93 - v 8 := by rw [q_un (by omega), q_ua]
    have k6 : Y 8 = l 93 := by rw [eY, q_ua]
    have k7 : Y 9 = b := by rw [eY, q_un (by omega), q_ua]
    have k8 : pj_u x 10 (Int32.ofNat c) 10 = Int32.ofNat c := q_ua
    rw [k1, k2, k3, k4, k5, k6, k7, k8, q_onI (by omega)]
    refine ⟨Or.inr rfl, a1, fun q => absurd q (by decide), fun _ => ⟨rfl, tl.1, Int.le_refl _, rfl⟩, b0, fun q => ?_, by omega, by omega⟩
    obtain ⟨p1, p2, p3⟩ := b1 q
    exact ⟨p1, p2, p3⟩
  have mkI : ∀ a : Int32, 0 ≤ a.toInt → a.toInt ≤ 199 → q_I D E W (pj_u S 26 a) l (pj_u x 10 (Int32.ofNat c)) Y (pj_u (pj_u (pj_u u 10 (u 7)) 7 1) 9 (Int32.ofNat c)) (pj_u (pj_u v 11 (l 93 - v 8)) 8 (l 93)) := by
    intro a p q
    refine q_I_pl hI h0 (q_R_u hS ⟨p, q⟩) hp ?_ ?_ ?_ ?_ ?_
    · intro w hw
      unfold q_Ss at hw
      rw [q_un (by omega), gS w (by omega)]
    · intro w h; rw [q_un h]
    · intro w h1 h2; rw [eY, q_un h1, q_un h2]
    · intro w h1 h2 h3; rw [q_un h2, q_un h1, q_un h3]
    · intro w h1 h2; rw [q_un h1, q_un h2]
  have fv : ∀ w, ¬ w = 8 → ¬ w = 11 → pj_u (pj_u v 11 (l 93 - v 8)) 8 (l 93) w = v w := fun w h1 h2 => by rw [q_un h1, q_un h2]
  rw [q_r200 r26.1 r26.2]
  by_cases d : s 26 + 1 = 200
  · rw [if_pos d, if_pos d]
    have eu : pj_u (pj_u S 26 (s 26 + 1)) 26 0 = pj_u S 26 0 := by funext w; unfold pj_u; split <;> rfl
    rw [eu, if_pos q_ua]
    have hI1 := mkI 0 (by decide) (by decide)
    have n94 : ¬ pj_u S 26 0 94 = 0 := by rw [q_un (by omega), gS _ (by omega)]; exact h0
    have rN : 1 ≤ (s 10000).toInt ∧ (s 10000).toInt ≤ 8 := hr 10000
    have eN : s 10000 = Int32.ofNat (s 10000).toInt.toNat := by rw [← Int32.toInt_inj, q_onI (by omega)]; omega
    have eN1 : pj_u S 26 0 10000 = Int32.ofNat (s 10000).toInt.toNat := by rw [q_un (by omega), gS _ (by omega)]; exact eN
    obtain ⟨s2, x2, u2, F, G, hI2, k1, k2, k3⟩ := q_misI (fu := 1000) (N := (s 10000).toInt.toNat) (by omega) (by omega) (s 10000).toInt.toNat 0 1000 1000 (pj_u S 26 0) (pj_u x 10 (Int32.ofNat c)) (pj_u (pj_u (pj_u u 10 (u 7)) 7 1) 9 (Int32.ofNat c)) (by omega) (by omega) (by omega) hI1 n94 eN1
    refine ⟨s2, x2, _, u2, _, ?_, G, hI2, ?_, ?_, fv⟩
    · unfold pf_X11_testMisfires po_X11_testMisfires
      rw [eN1]
      exact F
    · intro w p q r t
      rw [k1 w p q t, q_un r, gS w t]
    · intro w p q
      rw [k2 w p, q_un q]
  · rw [if_neg d, if_neg d]
    have nd : ¬ pj_u S 26 (s 26 + 1) 26 = 0 := by
      rw [q_ua]
      intro q
      rw [q] at e1
      have o : (0 : Int32).toInt = 0 := rfl
      rw [o] at e1
      omega
    have d2 : ¬ (s 26 + 1).toInt = 200 := fun z => d (by rw [← Int32.toInt_inj, z]; rfl)
    rw [if_neg nd]
    refine ⟨_, _, _, _, _, rfl, rfl, mkI _ (by omega) (by omega), ?_, ?_, fv⟩
    · intro w p q r t
      rw [q_un r, gS w t]
    · intro w p q
      rw [q_un q]
end QSG

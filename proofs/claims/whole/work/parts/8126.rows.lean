/-! PURE: RULES and the RECORDER in the LOOP: pairs -/
section QRW
variable {s x u s' x' u' s1 x1 u1 s2 u2 : Nat → Int32} {l y v l' y' v' l2 v2 : Nat → Int64} {D E W : Int} {fu : Nat}
theorem q_rulesP (hI : q_I D E W s l x y u v) (h0 : ¬ s 94 = 0) : ∃ (X : Nat → Int32) (s' x' u' : Nat → Int32), pf_X11_setRuleInputs s l x y = some ((), s, l, X, y) ∧ pf_X0_followProgram s l X y = some ((), s', l, x', y) ∧ pf_X12_work s l u v = some ((), s', l, u', v) ∧ q_I D E W s' l x' y u' v ∧ (∀ w, w < 2000 ∨ 2004 ≤ w → s' w = s w) ∧ (∀ w, w < 13000 → x' w = x w) := by
  have hw := hI.2.2.2.1
  have h12 := hI.2.2.1.1
  have hp := hI.2.2.2.2.2.2.2.2.2.2.2.1
  have X : ∃ X : Nat → Int32, X = pj_u (pj_u (pj_u (pj_u (pj_u (pj_u (pj_u (pj_u x 13000 (x 5)) 13001 (s 34004)) 13002 (s 34005)) 13003 (s 72)) 13004 (s 52)) 13005 (s 34009)) 13006 (s 54)) 13007 (x 1) := ⟨_, rfl⟩
  obtain ⟨X, hX⟩ := X
  have xo : ∀ w, w < 13000 ∨ 13008 ≤ w → X w = x w := by
    intro w hw
    rw [hX]
    simp (disch := omega) only [q_un]
  have q := hp s l X y u v (xo _ (by omega)) (fun w _ _ => xo w (by omega)) rfl (fun _ _ _ => rfl) ?_
  · obtain ⟨s', x', u', e1, e2, e3, e4, e5⟩ := q
    refine ⟨X, s', x', u', by rw [hX]; rfl, e1, e2, q_I_f hI h0 ?_ ?_ ?_ ?_, e3, fun w hw => by rw [e4 w (by omega), xo w (by omega)]⟩
    · intro w
      by_cases c : w < 2000 ∨ 2004 ≤ w
      · rw [e3 w c]; exact hI.1 w
      · have z : q_rg w = (-2147483648, 2147483647) := by
          unfold q_rg
          rw [show w / 1000 = 2 by omega]
          rfl
        rw [z]
        exact q_R_any
    · intro w hw; exact e3 w (by unfold q_Ss at hw; omega)
    · intro w hw; rw [e4 w (by unfold q_Xs at hw; omega), xo w (by unfold q_Xs at hw; omega)]
    · intro w hw; exact e5 w (by unfold q_Us at hw; omega)
  · intro s2 u2 i g hi
    have : i = 0 ∨ i = 1 ∨ i = 2 ∨ i = 3 ∨ i = 4 ∨ i = 5 ∨ i = 6 ∨ i = 7 := by omega
    unfold pf_X12_input
    rw [q_spd (s2 := s2) (l2 := l) (u2 := u2) (v2 := v) hw (g 19 (by omega)) rfl, q_b, hX]
    rcases this with rfl | rfl | rfl | rfl | rfl | rfl | rfl | rfl
    · rw [if_pos (show Int32.ofNat 0 = 0 from rfl)]; simp (disch := omega) only [q_un, q_ua, Nat.reduceAdd]
    · rw [if_neg (show ¬ Int32.ofNat 1 = 0 by decide), if_pos (show Int32.ofNat 1 = 1 from rfl), g _ (by omega)]; simp (disch := omega) only [q_un, q_ua, Nat.reduceAdd]
    · rw [if_neg (show ¬ Int32.ofNat 2 = 0 by decide), if_neg (show ¬ Int32.ofNat 2 = 1 by decide), if_pos (show Int32.ofNat 2 = 2 from rfl), g _ (by omega)]; simp (disch := omega) only [q_un, q_ua, Nat.reduceAdd]
    · rw [if_neg (show ¬ Int32.ofNat 3 = 0 by decide), if_neg (show ¬ Int32.ofNat 3 = 1 by decide), if_neg (show ¬ Int32.ofNat 3 = 2 by decide), if_pos (show Int32.ofNat 3 = 3 from rfl), g _ (by omega)]; simp (disch := omega) only [q_un, q_ua, Nat.reduceAdd]
    · rw [if_neg (show ¬ Int32.ofNat 4 = 0 by decide), if_neg (show ¬ Int32.ofNat 4 = 1 by decide), if_neg (show ¬ Int32.ofNat 4 = 2 by decide), if_neg (show ¬ Int32.ofNat 4 = 3 by decide), if_pos (show Int32.ofNat 4 = 4 from rfl), g _ (by omega)]; simp (disch := omega) only [q_un, q_ua, Nat.reduceAdd]
    · rw [if_neg (show ¬ Int32.ofNat 5 = 0 by decide), if_neg (show ¬ Int32.ofNat 5 = 1 by decide), if_neg (show ¬ Int32.ofNat 5 = 2 by decide), if_neg (show ¬ Int32.ofNat 5 = 3 by decide), if_neg (show ¬ Int32.ofNat 5 = 4 by decide), if_pos (show Int32.ofNat 5 = 5 from rfl), g _ (by omega)]; simp (disch := omega) only [q_un, q_ua, Nat.reduceAdd]
    · rw [if_neg (show ¬ Int32.ofNat 6 = 0 by decide), if_neg (show ¬ Int32.ofNat 6 = 1 by decide), if_neg (show ¬ Int32.ofNat 6 = 2 by decide), if_neg (show ¬ Int32.ofNat 6 = 3 by decide), if_neg (show ¬ Int32.ofNat 6 = 4 by decide), if_neg (show ¬ Int32.ofNat 6 = 5 by decide), if_pos (show Int32.ofNat 6 = 6 from rfl), g _ (by omega)]; simp (disch := omega) only [q_un, q_ua, Nat.reduceAdd]
    · rw [if_neg (show ¬ Int32.ofNat 7 = 0 by decide), if_neg (show ¬ Int32.ofNat 7 = 1 by decide), if_neg (show ¬ Int32.ofNat 7 = 2 by decide), if_neg (show ¬ Int32.ofNat 7 = 3 by decide), if_neg (show ¬ Int32.ofNat 7 = 4 by decide), if_neg (show ¬ Int32.ofNat 7 = 5 by decide), if_neg (show ¬ Int32.ofNat 7 = 6 by decide), h12.1, Int32.toInt32_toInt64]; simp (disch := omega) only [q_ua, Nat.reduceAdd]
/-- rows that are kept don't matter -/
theorem q_I_l (h : q_I D E W s l x y u v) (g : ∀ w, w < 4000 ∨ 4384 ≤ w → l' w = l w) : q_I D E W s l' x y u v := by
  obtain ⟨h1, h2, h3, h4, h5, h6, h7, h8, h9, h10, h11, h12, h13, h14⟩ := h
  refine ⟨h1, h2, q_Ct_c h3 (g _ (by omega)) rfl rfl rfl rfl rfl rfl rfl rfl, q_Wl_c h4 rfl rfl rfl (g _ (by omega)) (g _ (by omega)) rfl rfl rfl rfl rfl rfl rfl, q_Pl_c h5 (g _ (by omega)) rfl rfl rfl rfl rfl rfl rfl rfl, h6, q_Fg_c h7 rfl rfl rfl rfl (g _ (by omega)) rfl rfl rfl rfl rfl rfl rfl rfl rfl rfl rfl rfl rfl rfl rfl, h8, q_Rc_c h9 (g _ (by omega)) rfl rfl rfl rfl rfl, h10, h11, h12, q_Es_c h13 rfl (fun _ _ => rfl) (fun _ _ _ => rfl) (g _ (by omega)) (fun w _ _ => g w (by omega)) (fun _ _ _ => rfl) (fun _ _ _ => rfl) id, ?_⟩
  intro z
  rw [g 20 (by omega), g 61 (by omega)]
  exact h14 z
/-- the RECORDER is changed -/
theorem q_I_rc (h : q_I D E W s l x y u v) (h0 : ¬ s 94 = 0) (hr : q_R s') (hx : q_Ex s' l x') (hc : q_Rc l x' u' v') (g : ∀ w, q_Ss w → ¬ (w = 3 ∨ w = 4) → s' w = s w) (kx : ∀ w, q_Xs w → ¬ (w = 27 ∨ w = 28 ∨ w = 29) → x' w = x w) (m : ∀ w, q_Us w → ¬ w = 29 → u' w = u w) (mv : ∀ w, ¬ w = 30 → v' w = v w) : q_I D E W s' l x' y u' v' := by
  obtain ⟨-, h2, h3, h4, h5, h6, h7, h8, h9, h10, h11, h12, h13, -⟩ := h
  obtain ⟨⟨n, a, b⟩, -⟩ := h13
  refine ⟨hr, q_Ln_c h2 ?_ ?_, q_Ct_c h3 rfl ?_ ?_ ?_ ?_ ?_ ?_ ?_ ?_, q_Wl_c h4 ?_ ?_ ?_ rfl rfl ?_ ?_ ?_ ?_ ?_ ?_ ?_, q_Pl_c h5 rfl ?_ rfl rfl ?_ ?_ ?_ ?_ ?_, q_Wt_c h6 ?_ ?_ ?_ ?_, q_Fg_c h7 ?_ ?_ ?_ ?_ rfl ?_ ?_ ?_ ?_ ?_ ?_ rfl ?_ ?_ ?_ ?_ ?_ ?_ ?_ ?_, q_Fm_c h8 ?_ ?_ ?_, hc, q_Vd_c h10 ?_ ?_, q_Kn_c h11 ?_, q_Pg_c h12 ?_ ?_ ?_ ?_, ⟨⟨n, q_Ev_c a ?_ (fun i hi => g _ (by unfold q_Ss; omega) (by omega)) (fun i hi => kx _ (by unfold q_Xs; omega) (by omega)) (fun i hi => kx _ (by unfold q_Xs; omega) (by omega)) (fun i hi => m _ (by unfold q_Us; omega) (by omega)) (fun i hi => m _ (by unfold q_Us; omega) (by omega)) (fun c hc => by rw [kx _ (by unfold q_Xs; omega) (by omega), m _ (by unfold q_Us; omega) (by omega), Int32.sub_self, Int32.sub_self]), b⟩, hx⟩, ?_⟩
  all_goals try (intro w p q)
  all_goals first
    | (apply g; (unfold q_Ss; omega); omega)
    | (apply kx; (unfold q_Xs; omega); omega)
    | (apply m; (unfold q_Us; omega); omega)
    | (apply mv; omega)
    | skip
  intro z
  rw [g 94 (by unfold q_Ss; omega) (by omega)] at z
  exact absurd z h0
def q_Rp (D E W : Int) (F G : Option (Unit × pj_Z)) (s : Nat → Int32) (l : Nat → Int64) (x : Nat → Int32) (y : Nat → Int64) (v : Nat → Int64) : Prop := ∃ s' l' x' u' v', F = some ((), s', l', x', y) ∧ G = some ((), s', l', u', v') ∧ q_I D E W s' l' x' y u' v' ∧ s' 94 = s 94 ∧ s' 95 = s 95 ∧ l' 93 = l 93 ∧ x' 1 = x 1 ∧ x' 2 = x 2 ∧ x' 22 = x 22 ∧ v' 13 = v 13
theorem q_trig (hI : q_I D E W s l x y u v) (h0 : ¬ s 94 = 0) : q_Rp D E W (pl_X11_recordRow_87 fu s l x y) (pl_X12_keepRow_108 fu s l u v) s l x y v := by
  have hr := hI.1
  have hc := hI.2.2.2.2.2.2.2.2.1
  have hx := hI.2.2.2.2.2.2.2.2.2.2.2.2.1.2
  have n1 : ¬ (1 : Int32) = 0 := by decide
  have k : ∀ b, (b = 0 ∨ b = 1) → (s 2003 = 0 ↔ b = 0) → ∀ S : Nat → Int32, q_R S → (∀ w, ¬ w = 5 → S w = s w) → ∃ s' l' x' u' v', pl_X0_watchTrigger_37 S l x y = some ((), s', l', x', y) ∧ pl_X12_keepRow_155 fu b S l u v = some ((), s', l', u', v') ∧ q_I D E W s' l' x' y u' v' ∧ s' 94 = s 94 ∧ s' 95 = s 95 ∧ l' 93 = l 93 ∧ x' 1 = x 1 ∧ x' 2 = x 2 ∧ x' 22 = x 22 ∧ v' 13 = v 13 := by
    intro b hb hd S hR gS
    unfold pl_X0_watchTrigger_37 pl_X12_keepRow_155
    rw [q_bz hb]
    refine ⟨_, _, _, _, _, rfl, rfl, q_I_rc hI h0 hR ?_ ?_ ?_ ?_ ?_ (fun _ _ => rfl), gS _ (by omega), gS _ (by omega), rfl, q_un (by omega), q_un (by omega), q_un (by omega), rfl⟩
    · unfold q_Ex at hx ⊢
      rw [gS 54 (by omega), gS 94 (by omega), gS 95 (by omega), gS 7 (by omega), gS 6 (by omega), gS 8 (by omega), gS 63 (by omega), gS 65 (by omega), gS 3 (by omega), gS 4 (by omega), gS 44 (by omega), gS 62 (by omega), gS 37000 (by omega), q_Ld_c (x := x) (gS 70 (by omega)) (fun j _ => gS _ (by omega)) (q_un (by omega))]
      exact hx
    · unfold q_Rc
      rw [q_ua, q_ua, q_un (by omega), q_un (by omega), gS 2003 (by omega)]
      refine ⟨?_, hc.2⟩
      by_cases c : s 2003 = 0
      · exact Or.inl ⟨c, hd.mp c⟩
      · refine Or.inr ⟨c, ?_⟩
        rcases hb with z | z
        · exact absurd (hd.mpr z) c
        · exact z
    · intro w hw hn; exact gS w (by unfold q_Ss at hw; omega)
    · intro w hw hn; rw [q_un (by omega)]
    · intro w hw hn; rw [q_un (by omega)]
  unfold pl_X11_recordRow_87 pl_X12_keepRow_108
  have id9 : ∀ o : Option (Unit × pj_Z), pj_b o (fun _ s2 l2 x2 y2 => some ((), s2, l2, x2, y2)) = o := by
    intro o
    rcases o with - | ⟨⟨⟩, s2, l2, x2, y2⟩
    · rfl
    · rfl
  rw [id9]
  unfold pf_X0_watchTrigger pl_X12_keepRow_122
  have r5 : q_R (pj_u s 5 64) := q_R_u hr (by decide)
  have g5 : ∀ w, ¬ w = 5 → (pj_u s 5 64) w = s w := fun w hw => q_un hw
  by_cases d : s 2003 = 0
  · simp only [if_pos d, if_true]
    have kk := k 0 (Or.inl rfl) ⟨fun _ => rfl, fun _ => d⟩
    by_cases c1 : s 4 = 0
    · simp only [if_pos c1]; exact kk s hr (fun _ _ => rfl)
    · simp only [if_neg c1]
      by_cases c2 : s 5 = -1
      · simp only [if_pos c2]; exact kk s hr (fun _ _ => rfl)
      · simp only [if_neg c2]; exact kk s hr (fun _ _ => rfl)
  · simp only [if_neg d, if_neg n1]
    have kk := k 1 (Or.inr rfl) ⟨fun z => absurd z d, fun z => absurd z n1⟩
    by_cases c1 : s 4 = 0
    · simp only [if_pos c1]; exact kk s hr (fun _ _ => rfl)
    · simp only [if_neg c1]
      by_cases c2 : s 5 = -1
      · simp only [if_pos c2]
        rcases hc.1 with ⟨z1, z2⟩ | ⟨z1, z2⟩
        · simp only [if_pos z1, if_pos z2]; exact kk _ r5 g5
        · have z3 : ¬ u 29 = 0 := by rw [z2]; exact n1
          simp only [if_neg z1, if_neg z3]; exact kk s hr (fun _ _ => rfl)
      · simp only [if_neg c2]; exact kk s hr (fun _ _ => rfl)
end QRW

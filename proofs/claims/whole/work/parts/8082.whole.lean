/-! PURE: what holds between class and reference, all of it -/
section QIW
variable {s x u s' x' u' : Nat → Int32} {l y v l' y' v' : Nat → Int64} {D E W : Int}
/-- what OFF gives the single shared ints -/
def q_rsS (w : Nat) : Option Int32 :=
  if w = 9 then some 1000 else if w = 10 then some 20 else if w = 70 then some (-1)
  else if 6 ≤ w ∧ w ≤ 8 then some 0 else if w = 11 then some 0 else if 13 ≤ w ∧ w ≤ 19 then some 0
  else if 21 ≤ w ∧ w ≤ 43 then some 0 else if 57 ≤ w ∧ w ≤ 60 then some 0 else if 62 ≤ w ∧ w ≤ 68 then some 0
  else if 71 ≤ w ∧ w ≤ 92 then some 0 else if 95 ≤ w ∧ w ≤ 96 then some 0 else none
/-- what OFF gives the shared ints -/
def q_rs (w : Nat) : Option Int32 :=
  if w < 97 then q_rsS w else if 2000 ≤ w ∧ w < 2004 then some 0 else if 8000 ≤ w ∧ w < 8032 then some 0
  else if 9000 ≤ w ∧ w < 9016 then some 0 else if 18000 ≤ w ∧ w < 18008 then some 0 else if 19000 ≤ w ∧ w < 19008 then some 0
  else if 30000 ≤ w ∧ w < 30010 then some 0 else if 34000 ≤ w ∧ w < 34010 then some (pj_xf 6 (w - 34000))
  else if 35000 ≤ w ∧ w < 35010 then some 0 else if 36000 ≤ w ∧ w < 36010 then some 0 else if 40000 ≤ w ∧ w < 40224 then some 0 else none
/-- OFF: all is forgotten -/
def q_Of (s : Nat → Int32) (l : Nat → Int64) (u : Nat → Int32) (v : Nat → Int64) : Prop := s 94 = 0 → (∀ w a, q_rs w = some a → s w = a) ∧ l 20 = 0 ∧ l 61 = 0 ∧ u 4 = 0 ∧ u 5 = 0 ∧ v 6 = 0 ∧ u 7 = 0 ∧ u 10 = 0 ∧ (∀ c, c < 8 → u (3000 + c) = 0) ∧ v 12 = 0 ∧ v 13 = 0 ∧ u 14 = 1 ∧ v 20 = 0 ∧ u 21 = 0 ∧ u 29 = 0
def q_I (D E W : Int) (s : Nat → Int32) (l : Nat → Int64) (x : Nat → Int32) (y : Nat → Int64) (u : Nat → Int32) (v : Nat → Int64) : Prop := q_R s ∧ q_Ln s ∧ q_Ct E W l x v ∧ q_Wl D s l x u v ∧ q_Pl l x y u v ∧ q_Wt s x u ∧ q_Fg s l x y u v ∧ q_Fm s x u ∧ q_Rc l x u v ∧ q_Vd s x ∧ q_Kn u ∧ q_Pg x u ∧ q_Es s l x u ∧ q_Of s l u v
/-- numbers of shared ints, class's, reference's ints of which it speaks -/
def q_Ss (w : Nat) : Prop := w = 37000 ∨ (39000 ≤ w ∧ w < 39016) ∨ w = 6 ∨ w = 19 ∨ w = 40 ∨ w = 44 ∨ w = 3 ∨ w = 4 ∨ w = 7 ∨ w = 8 ∨ w = 54 ∨ w = 63 ∨ w = 65 ∨ w = 95 ∨ w = 57 ∨ w = 62 ∨ w = 67 ∨ w = 70 ∨ w = 87 ∨ w = 94 ∨ (10000 ≤ w ∧ w < 10024) ∨ (11000 ≤ w ∧ w < 11016) ∨ (13000 ≤ w ∧ w < 15000) ∨ (17000 ≤ w ∧ w < 17064) ∨ (26000 ≤ w ∧ w < 29000)
def q_Xs (w : Nat) : Prop := w = 1 ∨ (3 ≤ w ∧ w ≤ 7) ∨ w = 10 ∨ w = 11 ∨ w = 13 ∨ w = 16 ∨ w = 17 ∨ w = 19 ∨ (21 ≤ w ∧ w ≤ 24) ∨ (27 ≤ w ∧ w ≤ 29) ∨ (2000 ≤ w ∧ w < 8008) ∨ (11000 ≤ w ∧ w < 11512)
def q_Us (w : Nat) : Prop := w = 1 ∨ (4 ≤ w ∧ w ≤ 18) ∨ (21 ≤ w ∧ w ≤ 23) ∨ w = 25 ∨ w = 29 ∨ (1000 ≤ w ∧ w < 10008) ∨ (13000 ≤ w ∧ w < 14600)
theorem q_I_f (h : q_I D E W s l x y u v) (h0 : ¬ s 94 = 0) (hr : q_R s') (g : ∀ w, q_Ss w → s' w = s w) (k : ∀ w, q_Xs w → x' w = x w) (m : ∀ w, q_Us w → u' w = u w) : q_I D E W s' l x' y u' v := by
  obtain ⟨-, h2, h3, h4, h5, h6, h7, h8, h9, h10, h11, h12, h13, -⟩ := h
  refine ⟨hr, q_Ln_c h2 ?_ ?_, q_Ct_c h3 rfl ?_ ?_ ?_ ?_ rfl rfl rfl rfl, q_Wl_c h4 ?_ ?_ ?_ rfl rfl ?_ ?_ ?_ ?_ ?_ ?_ rfl, q_Pl_c h5 rfl ?_ rfl rfl ?_ ?_ ?_ rfl rfl, q_Wt_c h6 ?_ ?_ ?_ ?_, q_Fg_c h7 ?_ ?_ ?_ ?_ rfl ?_ ?_ ?_ ?_ ?_ ?_ rfl ?_ ?_ ?_ ?_ ?_ ?_ ?_ rfl, q_Fm_c h8 ?_ ?_ ?_, q_Rc_c h9 rfl ?_ ?_ ?_ ?_ rfl, q_Vd_c h10 ?_ ?_, q_Kn_c h11 ?_, q_Pg_c h12 ?_ ?_ ?_ ?_, q_Es_c h13 ?_ (fun w hw => g w (by unfold q_Ss; omega)) ?_ rfl ?_ ?_ ?_ (q_Ld_i (g 70 (by unfold q_Ss; omega)) (fun j _ => g _ (by unfold q_Ss; omega)) (k 21 (by unfold q_Xs; omega))), ?_⟩
  all_goals try (intro w a b)
  all_goals first
    | (apply g; unfold q_Ss; omega)
    | (apply k; unfold q_Xs; omega)
    | (apply m; unfold q_Us; omega)
    | rfl
    | skip
  intro z
  rw [g 94 (by unfold q_Ss; omega)] at z
  exact absurd z h0
theorem q_I_54 (h : q_I D E W s l x y u v) (h0 : ¬ s 94 = 0) (hr : q_R s') (g : ∀ w, q_Ss w → ¬ w = 54 → s' w = s w) (h54 : 0 ≤ (s' 54).toInt ∧ (s' 54).toInt * 10000 ≤ (l 93).toInt) : q_I D E W s' l x y u v := by
  have hx := h.2.2.2.2.2.2.2.2.2.2.2.2.1.2
  have hx' : q_Ex s' l x := by
    unfold q_Ex at hx ⊢
    rw [g 7 (by unfold q_Ss; omega) (by omega), g 6 (by unfold q_Ss; omega) (by omega), g 8 (by unfold q_Ss; omega) (by omega), g 94 (by unfold q_Ss; omega) (by omega), g 95 (by unfold q_Ss; omega) (by omega), g 63 (by unfold q_Ss; omega) (by omega), g 65 (by unfold q_Ss; omega) (by omega), g 3 (by unfold q_Ss; omega) (by omega), g 4 (by unfold q_Ss; omega) (by omega), g 44 (by unfold q_Ss; omega) (by omega), g 62 (by unfold q_Ss; omega) (by omega), g 37000 (by unfold q_Ss; omega) (by omega), q_Ld_c (x' := x) (x := x) (g 70 (by unfold q_Ss; omega) (by omega)) (fun j _ => g _ (by unfold q_Ss; omega) (by omega)) rfl]
    exact ⟨h54, hx.2⟩
  have q := q_I_f (s' := pj_u s' 54 (s 54)) (x' := x) (u' := u) h h0 (q_R_u hr (h.1 54)) ?_ (fun _ _ => rfl) (fun _ _ => rfl)
  · obtain ⟨p1, p2, p3, p4, p5, p6, p7, p8, p9, p10, p11, p12, p13, p14⟩ := q
    have e : ∀ w, ¬ w = 54 → s' w = pj_u s' 54 (s 54) w := fun w hw => (q_un hw).symm
    obtain ⟨⟨n, a, b⟩, c⟩ := p13
    refine ⟨hr, q_Ln_c p2 (fun w _ _ => e w (by omega)) (fun w _ _ => e w (by omega)), p3, q_Wl_c p4 (e _ (by omega)) (e _ (by omega)) (e _ (by omega)) rfl rfl rfl rfl rfl rfl rfl rfl rfl, p5, q_Wt_c p6 (e _ (by omega)) (e _ (by omega)) (fun _ _ _ => rfl) (fun _ _ _ => rfl), q_Fg_c p7 (e _ (by omega)) (e _ (by omega)) (e _ (by omega)) (e _ (by omega)) rfl rfl rfl rfl rfl rfl rfl rfl rfl rfl rfl rfl rfl rfl rfl rfl, q_Fm_c p8 (e _ (by omega)) (fun _ _ _ => rfl) (fun _ _ _ => rfl), p9, q_Vd_c p10 (fun w _ _ => e w (by omega)) (fun _ _ _ => rfl), p11, p12, ⟨⟨n, q_Ev_c a (e _ (by omega)) (fun i _ => e _ (by omega)) (fun _ _ => rfl) (fun _ _ => rfl) (fun _ _ => rfl) (fun _ _ => rfl) (fun c _ => by rw [Int32.sub_self, Int32.sub_self]), b⟩, hx'⟩, ?_⟩
    intro z
    rw [g 94 (by unfold q_Ss; omega) (by omega)] at z
    exact absurd z h0
  · intro w hw
    by_cases c : w = 54
    · rw [c, q_ua]
    · rw [q_un c]; exact g w hw c
theorem q_I_s (h : q_I D E W s l x y u v) (h0 : ¬ s 94 = 0) (hr : q_R s') (g : ∀ w, q_Ss w → s' w = s w) : q_I D E W s' l x y u v := q_I_f h h0 hr g (fun _ _ => rfl) (fun _ _ => rfl)
end QIW

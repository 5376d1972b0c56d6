/-! PURE: the face: time, teeth -/
section QFC
variable {s x u s' x' u' : Nat → Int32} {l y v l' y' v' : Nat → Int64} {D E W : Int} {fu f k n c : Nat} {t : Int64}
/-- what a call may change in any power -/
theorem q_I_fo (h : q_I D E W s l x y u v) (hr : q_R s') (g : ∀ w, q_Ss w → s' w = s w) (go : s 94 = 0 → ∀ w a, q_rs w = some a → s' w = s w) (k : ∀ w, q_Xs w → x' w = x w) (m : ∀ w, q_Us w → u' w = u w) : q_I D E W s' l x' y u' v := by
  obtain ⟨-, h2, h3, h4, h5, h6, h7, h8, h9, h10, h11, h12, h13, h14⟩ := h
  refine ⟨hr, q_Ln_c h2 ?_ ?_, q_Ct_c h3 rfl ?_ ?_ ?_ ?_ rfl rfl rfl rfl, q_Wl_c h4 ?_ ?_ ?_ rfl rfl ?_ ?_ ?_ ?_ ?_ ?_ rfl, q_Pl_c h5 rfl ?_ rfl rfl ?_ ?_ ?_ rfl rfl, q_Wt_c h6 ?_ ?_ ?_ ?_, q_Fg_c h7 ?_ ?_ ?_ ?_ rfl ?_ ?_ ?_ ?_ ?_ ?_ rfl ?_ ?_ ?_ ?_ ?_ ?_ ?_ rfl, q_Fm_c h8 ?_ ?_ ?_, q_Rc_c h9 rfl ?_ ?_ ?_ ?_ rfl, q_Vd_c h10 ?_ ?_, q_Kn_c h11 ?_, q_Pg_c h12 ?_ ?_ ?_ ?_, q_Es_c h13 ?_ (fun w hw => g w (by unfold q_Ss; omega)) ?_ rfl ?_ ?_ ?_ (q_Ld_i (g 70 (by unfold q_Ss; omega)) (fun j _ => g _ (by unfold q_Ss; omega)) (k 21 (by unfold q_Xs; omega))), ?_⟩
  all_goals try (intro w a b)
  all_goals first
    | (apply g; unfold q_Ss; omega)
    | (apply k; unfold q_Xs; omega)
    | (apply m; unfold q_Us; omega)
    | rfl
    | skip
  intro z
  rw [g 94 (by unfold q_Ss; omega)] at z
  obtain ⟨o1, o2, o3, o4, o5, o6, o7, o8, o9, o10, o11, o12, o13, o14, o15⟩ := h14 z
  refine ⟨fun w a e => by rw [go z w a e]; exact o1 w a e, o2, o3, ?_, ?_, o6, ?_, ?_, ?_, o10, o11, ?_, o13, ?_, ?_⟩
  · rw [m 4 (by unfold q_Us; omega)]; exact o4
  · rw [m 5 (by unfold q_Us; omega)]; exact o5
  · rw [m 7 (by unfold q_Us; omega)]; exact o7
  · rw [m 10 (by unfold q_Us; omega)]; exact o8
  · intro c hc; rw [m _ (by unfold q_Us; omega)]; exact o9 c hc
  · rw [m 14 (by unfold q_Us; omega)]; exact o12
  · rw [m 21 (by unfold q_Us; omega)]; exact o14
  · rw [m 29 (by unfold q_Us; omega)]; exact o15
/-- between calls: k of them were -/
def q_V (k : Nat) (s : Nat → Int32) (l : Nat → Int64) (x : Nat → Int32) (y : Nat → Int64) (u : Nat → Int32) (v : Nat → Int64) : Prop := q_I 0 (500000 * k) (200000 * k) s l x y (pj_u u 1 0) v ∧ q_Kl x v ∧ q_Af s ∧ (l 93).toInt ≤ 24000000 * k
theorem q_V_u1 (h : q_V k s l x y u v) (b : Int32) : q_V k s l x y (pj_u u 1 b) v := ⟨by rw [q_uu]; exact h.1, h.2.1, h.2.2.1, h.2.2.2⟩
theorem q_V_m (h : q_V k s l x y u v) : q_V (k + 1) s l x y u v := ⟨q_I_mono h.1 (by omega) (by omega), h.2.1, h.2.2.1, by have := h.2.2.2; omega⟩
theorem q_V_0 (h : q_I D E W s l x y u v) : u 1 = 0 ∧ pj_u u 1 0 = u := by
  have e : u 1 = 0 := h.2.2.2.2.2.2.2.2.2.2.1.2
  exact ⟨e, q_uv e⟩
/-- an answer of both -/
def q_Fa {A : Type} (k : Nat) (F G : Option (A × pj_Z)) : Prop := ∃ r s' l' x' y' u' v', F = some (r, s', l', x', y') ∧ G = some (r, s', l', u', v') ∧ u' 1 = 0 ∧ q_V k s' l' x' y' u' v'
/-- a refusal: the reference says which -/
def q_Rf {A : Type} (k : Nat) (b : Int32) (s : Nat → Int32) (l : Nat → Int64) (x : Nat → Int32) (y : Nat → Int64) (G : Option (A × pj_Z)) : Prop := ∃ r u' v', G = some (r, s, l, u', v') ∧ u' 1 = b ∧ q_V k s l x y u' v'
-- time
end QFC

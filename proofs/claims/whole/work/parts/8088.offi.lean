/-! PURE: ALL OFF keeps what holds; the wheel is changed -/
section QOI
variable {s x u s' x' u' : Nat → Int32} {l y v l' y' v' : Nat → Int64} {D E W : Int}
theorem q_R_off (base : Nat) (kd : Int32) (t : Int64) (hb : base = 18000 ∨ base = 19000) (hkd : 0 ≤ kd.toInt ∧ kd.toInt ≤ 4) : ∀ (m i : Nat) (s : Nat → Int32) (l : Nat → Int64) (x : Nat → Int32), i + m = 8 → q_R s → q_R (q_off base kd t m i (s, l, x)).1 := by
  intro m
  induction m with
  | zero => intro i s l x _ h; exact h
  | succ m ih =>
    intro i s l x e h
    have hs := q_slot_lt (x := x)
    unfold q_off
    by_cases c : s (base + i) = 0
    · have c' : (s, l, x).1 (base + i) = 0 := c
      rw [if_pos c']
      exact ih (i + 1) s l x (by omega) h
    · have c' : ¬ (s, l, x).1 (base + i) = 0 := c
      rw [if_neg c']
      have g := q_rgB (k := q_slot x) (by omega)
      have g2 := q_rgB (k := i) (by omega)
      refine ih (i + 1) (pj_u (pj_u (pj_u s (base + i) 0) (21000 + q_slot x) kd) (22000 + q_slot x) (Int32.ofNat i)) (pj_u l (20000 + q_slot x) t) (pj_u x 11 (x 11 + 1)) (by omega) (q_R_u (q_R_u (q_R_u h ?_) ?_) ?_)
      · rcases hb with rfl | rfl
        · rw [g2.2.1]; decide
        · rw [g2.2.2.1]; decide
      · rw [g.2.2.2.1]; exact hkd
      · rw [g.2.2.2.2.1]; exact q_R_nat (c := 7) (by omega) (by omega)
theorem q_ao_k (h1 : 0 ≤ (x 11).toInt) (h2 : (x 11).toInt + 16 < 2147483647) : (∀ w, w < 20000 ∨ 20200 ≤ w → (q_ao s l x).2.1 w = l w) ∧ (∀ w, ¬ w = 11 → (q_ao s l x).2.2 w = x w) ∧ (x 11).toInt ≤ ((q_ao s l x).2.2 11).toInt ∧ ((q_ao s l x).2.2 11).toInt ≤ (x 11).toInt + 16 ∧ (∀ w, ¬ w = 57 → w < 18000 ∨ 23000 ≤ w → (q_ao s l x).1 w = s w) ∧ (q_ao s l x).1 57 = 0 ∧ (q_R s → q_R (q_ao s l x).1) := by
  have k := q_off_keeps 18000 1 (l 93) (Or.inl rfl) 8 0 (pj_u s 57 0) l x (by omega) h1 (by omega)
  obtain ⟨a1, a2, a3, a4, a5, a6⟩ := k
  have k := q_off_keeps 19000 4 (l 93) (Or.inr rfl) 8 0 (q_off 18000 1 (l 93) 8 0 (pj_u s 57 0, l, x)).1 (q_off 18000 1 (l 93) 8 0 (pj_u s 57 0, l, x)).2.1 (q_off 18000 1 (l 93) 8 0 (pj_u s 57 0, l, x)).2.2 (by omega) (by omega) (by omega)
  obtain ⟨b1, b2, b3, b4, b5, b6⟩ := k
  rw [q_eta] at b1 b2 b3 b4 b5 b6
  unfold q_ao
  refine ⟨?_, ?_, by omega, by omega, ?_, ?_, ?_⟩
  · intro w hw; rw [b1 w hw, a1 w hw]
  · intro w hw; rw [b2 w hw, a2 w hw]
  · intro w h hw; rw [b5 w (by omega), a5 w (by omega), q_un h]
  · rw [b5 57 (by omega), a5 57 (by omega), q_ua]
  · intro hr
    have r1 := q_R_off 18000 1 (l 93) (Or.inl rfl) (by decide) 8 0 (pj_u s 57 0) l x (by omega) (q_R_u hr (by decide))
    have r2 := q_R_off 19000 4 (l 93) (Or.inr rfl) (by decide) 8 0 (q_off 18000 1 (l 93) 8 0 (pj_u s 57 0, l, x)).1 (q_off 18000 1 (l 93) 8 0 (pj_u s 57 0, l, x)).2.1 (q_off 18000 1 (l 93) 8 0 (pj_u s 57 0, l, x)).2.2 (by omega) r1
    rw [q_eta] at r2
    exact r2
def q_nu (u : Nat → Int32) : Nat → Int32 := q_fl 3000 0 8 0 (pj_u (pj_u u 7 0) 10 0)
/-- the edges then -/
def q_ne (s : Nat → Int32) (l : Nat → Int64) (x : Nat → Int32) : Int32 := (q_ao s l x).2.2 11
theorem q_offE (h1 : 0 ≤ (x 11).toInt) (h2 : (x 11).toInt + 16 < 2147483647) (hv : v 3 = (x 11).toInt64) : pf_X11_allOff s l x y = some ((), (q_ao s l x).1, (q_ao s l x).2.1, pj_u (q_nw x) 11 (q_ne s l x), pj_u (pj_u y 8 (-1)) 9 (-1)) ∧ pf_X12_allOff s l u v = some ((), (q_ao s l x).1, (q_ao s l x).2.1, q_nu u, pj_u v 3 (q_ne s l x).toInt64) := by
  obtain ⟨a, b, c⟩ := q_allOff (s := s) (l := l) (y := y) (u := u) h1 h2 hv
  have n1 : 0 ≤ (q_nw x 11).toInt := by rw [q_nw_11]; exact h1
  have n2 : (q_nw x 11).toInt + 16 < 2147483647 := by rw [q_nw_11]; exact h2
  have e : (q_ao s l (q_nw x)).2.2 = pj_u (q_nw x) 11 (q_ne s l x) := by
    funext w
    by_cases hw : w = 11
    · rw [hw, q_ua]; exact c
    · rw [q_un hw]
      exact (q_ao_k (s := s) (l := l) n1 n2).2.1 w hw
  rw [e] at a
  exact ⟨a, b⟩
theorem q_nw_out {w : Nat} (h : w < 4000 ∨ 4024 ≤ w) : q_nw x w = x w := by
  unfold q_nw
  rw [q_fl_at, if_neg (by omega), q_fl_at, if_neg (by omega), q_fl_at, if_neg (by omega)]
theorem q_nw_in {w : Nat} (h : 4000 ≤ w ∧ w < 4024) : q_nw x w = -1 := by
  unfold q_nw
  rw [q_fl_at]
  split
  · rfl
  · rw [q_fl_at]
    split
    · rfl
    · rw [q_fl_at, if_pos (by omega)]
theorem q_nu_in {c : Nat} (h : c < 8) : q_nu u (3000 + c) = 0 := by
  unfold q_nu
  rw [q_fl_at, if_pos (by omega)]
theorem q_nu_out {w : Nat} (h : w < 3000 ∨ 3008 ≤ w) (h7 : ¬ w = 7) (h10 : ¬ w = 10) : q_nu u w = u w := by
  unfold q_nu
  rw [q_fl_at, if_neg (by omega), q_un h10, q_un h7]
theorem q_nu_7 : q_nu u 7 = 0 ∧ q_nu u 10 = 0 := by
  unfold q_nu
  rw [q_fl_at, if_neg (by omega), q_un (by omega), q_ua, q_fl_at, if_neg (by omega), q_ua]
  exact ⟨rfl, rfl⟩
theorem q_offI (hI : q_I D E W s l x y u v) (h0 : ¬ s 94 = 0) (hE : E + 16 < 2147483647) : q_I D (E + 16) W (q_ao s l x).1 (q_ao s l x).2.1 (pj_u (q_nw x) 11 (q_ne s l x)) (pj_u (pj_u y 8 (-1)) 9 (-1)) (q_nu u) (pj_u v 3 (q_ne s l x).toInt64) := by
  obtain ⟨h1, h2, h3, h4, h5, h6, h7, h8, h9, h10, h11, h12, h13, h14⟩ := hI
  obtain ⟨c1, c2, c3, c4, c5⟩ := h3
  obtain ⟨a1, a2, a3, a4, a5, a6, a7⟩ := q_ao_k (s := s) (l := l) (x := x) c3.2.1 (by omega)
  refine ⟨a7 h1, q_Ln_c h2 ?_ ?_, ⟨?_, ?_, ?_, ?_, ?_⟩, q_Wl_c h4 ?_ ?_ ?_ ?_ ?_ ?_ ?_ ?_ ?_ ?_ ?_ ?_, ⟨?_, ?_, ?_, ?_, ?_, ?_, ?_, ?_⟩, ⟨?_, ?_⟩, q_Fg_c h7 ?_ ?_ ?_ ?_ ?_ ?_ ?_ ?_ ?_ ?_ ?_ ?_ ?_ ?_ ?_ ?_ ?_ ?_ ?_ ?_, q_Fm_c h8 ?_ ?_ ?_, q_Rc_c h9 ?_ ?_ ?_ ?_ ?_ ?_, q_Vd_c h10 ?_ ?_, q_Kn_c h11 ?_, q_Pg_c h12 ?_ ?_ ?_ ?_, ?_, ?_⟩
  all_goals try (intro w b b')
  all_goals first
    | (rw [a5 _ (by omega) (by omega)]; done)
    | (rw [a1 _ (by omega)]; done)
    | (rw [q_un (by omega), q_nw_out (by omega)]; done)
    | (rw [q_nu_out (by omega) (by omega) (by omega)]; done)
    | (rw [q_un (by omega)]; done)
    | (rw [q_un (by omega), q_un (by omega)]; done)
    | skip
  · rw [q_un (by omega), q_un (by omega), q_nw_out (by omega), a1 _ (by omega)]; exact c1
  · rw [q_un (by omega), q_un (by omega), q_nw_out (by omega)]; exact c2
  · rw [q_ua, q_ua]; unfold q_ne; exact ⟨rfl, by omega, by omega⟩
  · rw [q_un (by omega), q_un (by omega), q_un (by omega), q_nw_out (by omega), q_nw_out (by omega)]; exact c4
  · rw [a1 _ (by omega)]; exact c5
  · exact Or.inl q_nu_7.1
  · exact Or.inl q_nu_7.2
  · intro _; rw [q_un (by omega), q_ua]; exact ⟨rfl, q_nu_7.2⟩
  · intro z; rw [q_nu_7.1] at z; exact absurd z (by decide)
  · intro _; rw [q_ua]
  · intro z; rw [q_nu_7.2] at z; exact absurd z (by decide)
  · rw [q_un (by omega), q_nw_out (by omega)]; exact h5.2.2.2.2.2.2.1
  · rw [q_nu_out (by omega) (by omega) (by omega)]; exact h5.2.2.2.2.2.2.2
  · intro c hc
    rw [q_un (by omega), q_un (by omega), q_un (by omega), q_nw_in (by omega), q_nw_in (by omega), q_nw_in (by omega), q_nu_in hc]
    exact ⟨by decide, fun z => absurd rfl z, fun z => absurd rfl z, fun z => absurd rfl z⟩
  · exact q_nu_in b
  · refine ⟨⟨0, ⟨a6, by omega, fun i hi => by omega⟩, ?_, ?_, fun i hi => by omega⟩, ?_⟩
    · rw [a1 _ (by omega)]; omega
    · rw [a1 _ (by omega)]; omega
    · have h := h13.2
      unfold q_Ex at h ⊢
      rw [a1 _ (by omega), a5 54 (by omega) (by omega), a5 7 (by omega) (by omega), a5 6 (by omega) (by omega), a5 8 (by omega) (by omega), a5 94 (by omega) (by omega), a5 95 (by omega) (by omega), a5 63 (by omega) (by omega), a5 65 (by omega) (by omega), a5 3 (by omega) (by omega), a5 4 (by omega) (by omega), a5 44 (by omega) (by omega), a5 62 (by omega) (by omega), a5 37000 (by omega) (by omega), q_Ld_c (x := x) (a5 70 (by omega) (by omega)) (fun j _ => a5 _ (by omega) (by omega)) (by rw [q_un (by omega), q_nw_out (by omega)])]
      exact h
  · intro z
    rw [a5 _ (by omega) (by omega)] at z
    exact absurd z h0
theorem q_I_mono {E' W' : Int} (hI : q_I D E W s l x y u v) (hE : E ≤ E') (hW : W ≤ W') : q_I D E' W' s l x y u v := by
  obtain ⟨h1, h2, ⟨c1, c2, c3, c4⟩, h4⟩ := hI
  exact ⟨h1, h2, ⟨c1, ⟨c2.1, c2.2.1, by omega⟩, ⟨c3.1, c3.2.1, by omega⟩, c4⟩, h4⟩
/-- the wheel's own numbers are changed -/
theorem q_I_wl (hI : q_I D E W s l x y u v) (h0 : ¬ s 94 = 0) (hr : q_R s') (hw : q_Wl D s' l' x' u' v') (g : ∀ w, ¬ w = 19 → (w < 21 ∨ 25 < w) → s' w = s w) (g2 : ∀ w, ¬ w = 20 → l' w = l w) (k : ∀ w, (w < 4 ∨ 7 < w) → x' w = x w) (m : ∀ w, (w < 4 ∨ 5 < w) → u' w = u w) (n : ∀ w, ¬ w = 6 → v' w = v w) (hz : s' 19 = 0 → ∀ c, c < 8 → u (3000 + c) = 0) : q_I D E W s' l' x' y u' v' := by
  obtain ⟨h1, h2, h3, h4, h5, h6, h7, h8, h9, h10, h11, h12, h13, h14⟩ := hI
  refine ⟨hr, q_Ln_c h2 ?_ ?_, q_Ct_c h3 ?_ ?_ ?_ ?_ ?_ ?_ ?_ ?_ ?_, hw, q_Pl_c h5 ?_ ?_ rfl rfl ?_ ?_ ?_ ?_ ?_, ⟨?_, ?_⟩, q_Fg_c h7 ?_ ?_ ?_ ?_ ?_ ?_ ?_ ?_ ?_ ?_ ?_ rfl ?_ ?_ ?_ ?_ ?_ ?_ ?_ ?_, q_Fm_c h8 ?_ ?_ ?_, q_Rc_c h9 ?_ ?_ ?_ ?_ ?_ ?_, q_Vd_c h10 ?_ ?_, q_Kn_c h11 ?_, q_Pg_c h12 ?_ ?_ ?_ ?_, q_Es_c h13 ?_ (fun w hw => g w (by omega) (by omega)) ?_ ?_ ?_ ?_ ?_ (q_Ld_i (g 70 (by omega) (by omega)) (fun j _ => g _ (by omega) (by omega)) (k 21 (by omega))), ?_⟩
  all_goals try (intro w b b')
  all_goals first
    | (rw [g _ (by omega) (by omega)]; done)
    | (rw [g2 _ (by omega)]; done)
    | (rw [k _ (by omega)]; done)
    | (rw [m _ (by omega)]; done)
    | (rw [n _ (by omega)]; done)
    | skip
  · intro c hc
    rw [k _ (by omega), k _ (by omega), k _ (by omega), m _ (by omega), m _ (by omega), m _ (by omega), m _ (by omega)]
    exact h6.1 c hc
  · rw [m _ (by omega)]
    rcases b' with z | z
    · exact hz z w b
    · rw [g 10000 (by omega) (by omega)] at z
      exact h6.2 w b (Or.inr z)
  · intro z
    rw [g 94 (by omega) (by omega)] at z
    exact absurd z h0
end QOI

/-! PURE: the throttle: the pair -/
section QTH
variable {s x u s' x' u' s2 u2 : Nat → Int32} {l y v l' y' v' l2 v2 : Nat → Int64} {D E W : Int}
/-- single things are changed -/
theorem q_I_g (h : q_I D E W s l x y u v) (h0 : ¬ s 94 = 0) (hr : q_R s') (hf : q_Fg s' l x' y' u' v') (g : ∀ w, q_Ss w → ¬ (w = 40 ∨ w = 67 ∨ w = 70 ∨ (39000 ≤ w ∧ w < 39016)) → s' w = s w) (kx : ∀ w, q_Xs w → ¬ (w = 13 ∨ w = 16 ∨ w = 17 ∨ w = 19 ∨ w = 21 ∨ w = 23) → x' w = x w) (ky : ∀ w, ¬ w = 18 → y' w = y w) (m : ∀ w, q_Us w → ¬ (w = 14 ∨ w = 15 ∨ w = 16 ∨ w = 18 ∨ w = 21 ∨ w = 22 ∨ w = 23) → u' w = u w) (mv : ∀ w, ¬ w = 17 → v' w = v w) (hl : q_Ld s x → q_Ld s' x') : q_I D E W s' l x' y' u' v' := by
  obtain ⟨-, h2, h3, h4, h5, h6, h7, h8, h9, h10, h11, h12, h13, -⟩ := h
  refine ⟨hr, q_Ln_c h2 ?_ ?_, q_Ct_c h3 rfl ?_ ?_ ?_ ?_ ?_ ?_ ?_ ?_, q_Wl_c h4 ?_ ?_ ?_ rfl rfl ?_ ?_ ?_ ?_ ?_ ?_ ?_, q_Pl_c h5 rfl ?_ ?_ ?_ ?_ ?_ ?_ ?_ ?_, q_Wt_c h6 ?_ ?_ ?_ ?_, hf, q_Fm_c h8 ?_ ?_ ?_, q_Rc_c h9 rfl ?_ ?_ ?_ ?_ ?_, q_Vd_c h10 ?_ ?_, q_Kn_c h11 ?_, q_Pg_c h12 ?_ ?_ ?_ ?_, q_Es_c h13 ?_ (fun w hw => g w (by unfold q_Ss; omega) (by omega)) ?_ rfl ?_ ?_ ?_ hl, ?_⟩
  all_goals try (intro w a b)
  all_goals first
    | (apply g; (unfold q_Ss; omega); omega)
    | (apply kx; (unfold q_Xs; omega); omega)
    | (apply m; (unfold q_Us; omega); omega)
    | (apply ky; omega)
    | (apply mv; omega)
    | rfl
    | skip
  intro z
  rw [g 94 (by unfold q_Ss; omega) (by omega)] at z
  exact absurd z h0
def q_t0 (s : Nat → Int32) : Int32 := s 76 + (if s 84 < s 71 then s 71 else s 84)
def q_t1 (s : Nat → Int32) : Int32 := if 1000 < q_t0 s then 1000 else q_t0 s
def q_tg (s : Nat → Int32) : Int32 := if s 9 < q_t1 s then s 9 else q_t1 s
def q_er (s : Nat → Int32) : Int32 := q_tg s - s 72
def q_su (s : Nat → Int32) : Int32 := q_cl (s 79 + q_er s * s 10017).toInt64 (-16000) 16000
def q_du (s : Nat → Int32) : Int32 := q_cl (q_er s * s 10016 + q_fi (q_su s) 16).toInt64 (-1000) 1000
def q_on (s : Nat → Int32) : Nat → Int32 := pj_u (pj_u (pj_u (pj_u s 77 (q_tg s)) 80 (q_er s)) 79 (q_su s)) 78 (q_du s)
def q_of (s : Nat → Int32) : Nat → Int32 := pj_u (pj_u (pj_u s 77 60) 78 0) 79 0
def q_pw (s : Nat → Int32) : Int32 := if s 94 = 1 then (if s 29 = 0 then (if s 36 = 0 then 1 else 0) else 0) else 0
theorem q_tgV (hr : q_R s) : 0 ≤ (q_tg s).toInt ∧ (q_tg s).toInt ≤ 1000 ∧ 0 ≤ (q_t0 s).toInt ∧ (q_t0 s).toInt ≤ 40000 := by
  have a9 := q_R9 hr
  have a76 := q_R76 hr
  have a71 := q_R71 hr
  have a84 := q_R84 hr
  have m : 0 ≤ (if s 84 < s 71 then s 71 else s 84).toInt ∧ (if s 84 < s 71 then s 71 else s 84).toInt ≤ 30000 := by
    simp only [q_ifI, Int32.lt_iff_toInt_lt]
    split <;> omega
  have e : 0 ≤ (q_t0 s).toInt ∧ (q_t0 s).toInt ≤ 40000 := by
    unfold q_t0
    rw [q_add (by omega) (by omega)]
    omega
  have h : 0 ≤ (q_tg s).toInt ∧ (q_tg s).toInt ≤ 1000 := by
    unfold q_tg q_t1
    simp only [q_ifI, Int32.lt_iff_toInt_lt, Int32.reduceToInt]
    repeat' split
    all_goals omega
  exact ⟨h.1, h.2, e⟩
theorem q_erV (hr : q_R s) : (q_er s).toInt = (q_tg s).toInt - (s 72).toInt ∧ -30000 ≤ (q_er s).toInt ∧ (q_er s).toInt ≤ 11000 ∧ (∀ k, k = 10016 ∨ k = 10017 → -1500000 ≤ (q_er s).toInt * (s k).toInt ∧ (q_er s).toInt * (s k).toInt ≤ 1500000 ∧ (q_er s * s k).toInt = (q_er s).toInt * (s k).toInt) := by
  have t := q_tgV hr
  have a72 := q_R72 hr
  have e : (q_er s).toInt = (q_tg s).toInt - (s 72).toInt := q_sub (by omega) (by omega)
  have b : -30000 ≤ (q_er s).toInt ∧ (q_er s).toInt ≤ 11000 := by omega
  refine ⟨e, b.1, b.2, ?_⟩
  intro k hk
  have n : 0 ≤ (s k).toInt ∧ (s k).toInt ≤ 50 := by
    rcases hk with rfl | rfl
    · exact hr 10016
    · exact hr 10017
  have m1 : -1500000 ≤ (q_er s).toInt * (s k).toInt := by
    rcases Int.lt_or_le (q_er s).toInt 0 with c | c
    · have p := Int.mul_le_mul (a := -(q_er s).toInt) (b := (s k).toInt) (c := 30000) (d := 50) (by omega) (by omega) (by omega) (by omega)
      rw [Int.neg_mul] at p
      omega
    · have p := Int.mul_nonneg c n.1
      omega
  have m2 : (q_er s).toInt * (s k).toInt ≤ 1500000 := by
    rcases Int.lt_or_le (q_er s).toInt 0 with c | c
    · have p := Int.mul_nonpos_of_nonpos_of_nonneg (Int.le_of_lt c) n.1
      omega
    · have p := Int.mul_le_mul (a := (q_er s).toInt) (b := (s k).toInt) (c := 11000) (d := 50) (by omega) (by omega) (by omega) (by omega)
      omega
  exact ⟨m1, m2, q_mul (by omega) (by omega)⟩
theorem q_drvC (hr : q_R s) : pf_X9_drive (s 9) (s 10016) (s 10017) s l x y = some ((), q_on s, l, x, y) := by
  have t := q_tgV hr
  have r := q_erV hr
  have a79 := q_R79 hr
  have a9 := q_R9 hr
  have p16 := r.2.2.2 10016 (Or.inl rfl)
  have p17 := r.2.2.2 10017 (Or.inr rfl)
  have z16 : (16 : Int32).toInt = 16 := rfl
  have zm : (-16000 : Int32).toInt = -16000 := rfl
  have zp : (16000 : Int32).toInt = 16000 := rfl
  have su := q_clI (a := s 79 + q_er s * s 10017) (lo := -16000) (hi := 16000) (by decide)
  rw [zm, zp] at su
  have su : -16000 ≤ (q_su s).toInt ∧ (q_su s).toInt ≤ 16000 := su
  have k16 := (q_fiI (a := q_su s) (b := 16) (by decide)).1
  rw [z16] at k16
  have e0 : s 76 + (if s 71 < s 84 then s 84 else s 71) = q_t0 s := by
    unfold q_t0
    rw [show (if s 71 < s 84 then s 84 else s 71) = (if s 84 < s 71 then s 71 else s 84) by
      rw [← Int32.toInt_inj]
      simp only [q_ifI, Int32.lt_iff_toInt_lt]
      omega]
  have e1 : (if q_t0 s < (if s 9 < 1000 then s 9 else 1000) then q_t0 s else (if s 9 < 1000 then s 9 else 1000)) = q_tg s := by
    unfold q_tg q_t1
    rw [← Int32.toInt_inj]
    simp only [q_ifI, Int32.lt_iff_toInt_lt, Int32.reduceToInt]
    omega
  have e2 : (s 79).toInt64 + (q_er s).toInt64 * (s 10017).toInt64 = (s 79 + q_er s * s 10017).toInt64 := by
    rw [q_mul64 (by omega) (by omega), q_add64 (by omega) (by omega)]
  have e3 : (q_er s).toInt64 * (s 10016).toInt64 + (q_fi (q_su s) 16).toInt64 = (q_er s * s 10016 + q_fi (q_su s) 16).toInt64 := by
    rw [q_mul64 (by omega) (by omega), q_add64 (by omega) (by omega)]
  unfold pf_X9_drive
  rw [q_min, q_b, q_max, q_b, q_min, q_b, e0, e1]
  show pj_b (pf_X11_clip ((s 79).toInt64 + (q_er s).toInt64 * (s 10017).toInt64) (-16000) 16000 (pj_u (pj_u s 77 (q_tg s)) 80 (q_er s)) l x y) _ = _
  rw [q_clip, q_b, e2]
  show pj_b (pf_J9_floorDiv_7cf53 (q_su s) 16 (pj_u (pj_u (pj_u s 77 (q_tg s)) 80 (q_er s)) 79 (q_su s)) l x y) _ = _
  rw [q_floorI (by decide), q_b, q_ua, e3, q_clip, q_b]
  rfl
theorem q_thC (hr : q_R s) : pf_X11_driveThrottle s l x y = some ((), (if q_pw s = 0 then q_of s else q_on s), l, pj_u x 13 (q_pw s), y) := by
  have n1 : ¬ (1 : Int32) = 0 := by decide
  have m0 : pl_X11_driveThrottle_37 0 s l x y = some ((), q_of s, l, pj_u x 13 0, y) := by
    unfold pl_X11_driveThrottle_37 pf_X9_letGo
    rw [q_bz0, if_pos rfl, q_b]
    rfl
  have m1 : pl_X11_driveThrottle_37 1 s l x y = some ((), q_on s, l, pj_u x 13 1, y) := by
    unfold pl_X11_driveThrottle_37
    rw [q_bz1, if_neg n1, q_drvC hr, q_b]
  unfold pf_X11_driveThrottle pl_X11_driveThrottle_36 q_pw
  rw [m0, m1]
  by_cases c1 : s 94 = 1
  · simp only [if_pos c1]
    by_cases c2 : s 29 = 0
    · simp only [if_pos c2]
      by_cases c3 : s 36 = 0
      · simp only [if_pos c3, if_neg n1]
      · simp only [if_neg c3, if_true]
    · simp only [if_neg c2, if_true]
  · simp only [if_neg c1, if_true]
theorem q_drvR (hr : q_R s) (b : Int32) (hb : b = q_tg s) (s1 : Nat → Int32) (h1 : s1 = pj_u s 77 (s1 77)) : pl_X12_drive_253 b s1 l u v = some ((), q_on s, l, u, v) := by
  have t := q_tgV hr
  have r := q_erV hr
  have a79 := q_R79 hr
  have p16 := r.2.2.2 10016 (Or.inl rfl)
  have p17 := r.2.2.2 10017 (Or.inr rfl)
  have z16 : (16 : Int32).toInt = 16 := rfl
  have zm : (-16000 : Int32).toInt = -16000 := rfl
  have zp : (16000 : Int32).toInt = 16000 := rfl
  have su := q_clI (a := s 79 + q_er s * s 10017) (lo := -16000) (hi := 16000) (by decide)
  rw [zm, zp] at su
  have su : -16000 ≤ (q_su s).toInt ∧ (q_su s).toInt ≤ 16000 := su
  have k16 := (q_fiI (a := q_su s) (b := 16) (by decide)).1
  rw [z16] at k16
  have f16 : q_fd (q_su s).toInt64 16 = (q_fi (q_su s) 16).toInt64 := (q_fiI (b := 16) (by decide)).2
  have g : ∀ w, ¬ w = 77 → s1 w = s w := by
    intro w hw
    rw [h1, q_un hw]
  have c1 : (q_ct (s 79 + q_er s * s 10017).toInt64 (-16000) 16000).toInt32 = q_su s := q_cut_cl _ (-16000) 16000
  have c2 : (q_ct (q_er s * s 10016 + q_fi (q_su s) 16).toInt64 (-1000) 1000).toInt32 = q_du s := q_cut_cl _ (-1000) 1000
  have e3 : (q_er s * s 10016).toInt64 + (q_fi (q_su s) 16).toInt64 = (q_er s * s 10016 + q_fi (q_su s) 16).toInt64 := q_add64 (by omega) (by omega)
  have e0 : pj_u s1 77 (q_tg s) = pj_u s 77 (q_tg s) := by rw [h1, q_uu]
  unfold pl_X12_drive_253
  rw [g 79 (by omega), g 72 (by omega), g 10017 (by omega), hb, e0]
  show pj_b (pf_X12_cutTo (s 79 + q_er s * s 10017).toInt64 (-16000) 16000 (pj_u (pj_u s 77 (q_tg s)) 80 (q_er s)) l u v) _ = _
  rw [q_cut, q_b, c1, q_down (by decide), q_b, f16]
  simp (disch := omega) only [q_un, q_ua]
  rw [e3, q_cut, q_b, c2]
  rfl
theorem q_thR (hr : q_R s) : pl_X12_drive_116 s l u v = some ((), (if q_pw (q_h2 (q_h1 s)) = 0 then q_of (q_h2 (q_h1 s)) else q_on (q_h2 (q_h1 s))), l, pj_u u 14 (if q_pw (q_h2 (q_h1 s)) = 0 then 1 else 0), v) := by
  have n1 : ¬ (1 : Int32) = 0 := by decide
  have hr2 := q_R_h2 (q_R_h1 hr)
  unfold pl_X12_drive_116
  rw [q_holdR hr, q_b]
  generalize q_h2 (q_h1 s) = S at hr2
  have m1 : pl_X12_drive_148 1 S l u v = some ((), q_of S, l, pj_u u 14 1, v) := by
    unfold pl_X12_drive_148
    rw [q_bz1, if_neg n1]
    rfl
  have k1 : ∀ c u2, pl_X12_drive_227 (q_t1 S) (pj_u S 77 c) l u2 v = some ((), q_on S, l, u2, v) := by
    intro c u2
    unfold pl_X12_drive_227
    rw [q_un (by omega)]
    have e := fun b (hb : b = q_tg S) => q_drvR (l := l) (u := u2) (v := v) hr2 b hb (pj_u (pj_u S 77 c) 77 (q_t1 S)) (by rw [q_ua, q_uu])
    split
    · rename_i h
      exact e _ (by unfold q_tg; rw [if_pos h])
    · rename_i h
      exact e _ (by unfold q_tg; rw [if_neg h])
  have k2 : ∀ b u2, S 76 + b = q_t0 S → pl_X12_drive_202 (S 76) b S l u2 v = some ((), q_on S, l, u2, v) := by
    intro b u2 hb
    unfold pl_X12_drive_202
    rw [hb]
    have e := fun c => k1 c u2
    unfold q_t1 at e
    split
    · rename_i h
      rw [if_pos h] at e
      exact e _
    · rename_i h
      rw [if_neg h] at e
      exact e _
  have m0 : pl_X12_drive_148 0 S l u v = some ((), q_on S, l, pj_u u 14 0, v) := by
    unfold pl_X12_drive_148
    rw [q_bz0, if_pos rfl]
    split
    · rename_i h
      exact k2 _ _ (by unfold q_t0; rw [if_pos h])
    · rename_i h
      exact k2 _ _ (by unfold q_t0; rw [if_neg h])
  unfold pl_X12_drive_143 q_pw
  rw [m0, m1]
  by_cases c1 : S 94 = 1
  · simp only [if_pos c1]
    by_cases c2 : S 29 = 0
    · simp only [if_pos c2]
      by_cases c3 : S 36 = 0
      · simp only [if_pos c3, if_neg n1]
      · simp only [if_neg c3, if_true]
    · simp only [if_neg c2, if_true]
  · simp only [if_neg c1, if_true, ite_self]
theorem q_R_on (hr : q_R s) : q_R (q_on s) := by
  have t := q_tgV hr
  have r := q_erV hr
  refine q_R_u (q_R_u (q_R_u (q_R_u hr ?_) ?_) (q_clI (by decide))) (q_clI (by decide))
  · exact (by omega : -10000 ≤ (q_tg s).toInt ∧ (q_tg s).toInt ≤ 1000)
  · exact (by omega : -50000 ≤ (q_er s).toInt ∧ (q_er s).toInt ≤ 50000)
theorem q_R_of (hr : q_R s) : q_R (q_of s) := q_R_u (q_R_u (q_R_u hr (by decide)) (by decide)) (by decide)
theorem q_driveP (hI : q_I D E W s l x y u v) (h0 : ¬ s 94 = 0) : ∃ S1 S2 S3 p b, pf_X11_idle s l x y = some ((), S1, l, x, y) ∧ pf_X11_cruise S1 l x y = some ((), S2, l, x, y) ∧ pf_X11_driveThrottle S2 l x y = some ((), S3, l, pj_u x 13 p, y) ∧ pf_X12_drive s l u v = some ((), S3, l, pj_u u 14 b, v) ∧ q_I D E W S3 l (pj_u x 13 p) y (pj_u u 14 b) v ∧ S3 94 = s 94 ∧ S3 95 = s 95 := by
  have hr := hI.1
  have hw := hI.2.2.2.1
  have hf := hI.2.2.2.2.2.2.1
  have r1 : q_R (pj_u s 76 (q_iv s (x 5))) := q_R_u hr (q_ivV hr _)
  have r2 := q_R_h2 (q_R_h1 r1)
  have o : ∀ w, (w < 76 ∨ 84 < w) → (if q_pw (q_h2 (q_h1 (pj_u s 76 (q_iv s (x 5))))) = 0 then q_of (q_h2 (q_h1 (pj_u s 76 (q_iv s (x 5))))) else q_on (q_h2 (q_h1 (pj_u s 76 (q_iv s (x 5)))))) w = s w := by
    intro w hw
    split
    · unfold q_of
      rw [q_un (by omega), q_un (by omega), q_un (by omega), q_h_out (by omega), q_un (by omega)]
    · unfold q_on
      rw [q_un (by omega), q_un (by omega), q_un (by omega), q_un (by omega), q_h_out (by omega), q_un (by omega)]
  refine ⟨_, _, _, _, _, q_idleC hr, q_holdC, q_thC r2, by rw [q_idleR hr hw, q_thR r1], ?_, o 94 (by omega), o 95 (by omega)⟩
  refine q_I_g hI h0 ?_ ?_ ?_ ?_ (fun _ _ => rfl) ?_ (fun _ _ => rfl) (q_Ld_i (o 70 (by omega)) (fun j _ => o _ (by omega)) (q_un (by omega)))
  · split
    · exact q_R_of r2
    · exact q_R_on r2
  · unfold q_Fg
    rw [o 40 (by omega), o 62 (by omega), o 67 (by omega), o 70 (by omega), q_ua, q_ua]
    simp (disch := omega) only [q_un]
    refine ⟨?_, hf.2⟩
    unfold q_pw
    repeat' split
    all_goals simp_all
  · intro w hw hn
    unfold q_Ss at hw
    exact o w (by omega)
  · intro w hw hn
    rw [q_un (by omega)]
  · intro w hw hn
    rw [q_un (by omega)]
end QTH

/-! PURE: the face: more of it -/
section QTL
variable {s x u s' x' u' : Nat → Int32} {l y v l' y' v' : Nat → Int64} {D E W : Int} {fu f k n c : Nat} {t : Int64} {a b d : Int32}
theorem q_r2 {r k : Nat} : True := trivial
theorem q_01 (h1 : ¬ a < 0) (h2 : ¬ 1 < a) : a = 0 ∨ a = 1 := by
  rw [Int32.lt_iff_toInt_lt] at h1 h2
  have o : (0 : Int32).toInt = 0 := rfl
  have o1 : (1 : Int32).toInt = 1 := rfl
  exact q_b01 (by omega) (by omega)
-- car
theorem q_F_car (hV : q_V k s l x y u v) (h1 : ¬ a < 0) (h2 : ¬ 1 < a) (h3 : ¬ b < 0) (h4 : ¬ (if a = 0 then (30000 : Int32) else 6) < b) : q_Fa (k + 1) (pf_X11_car a b s l x y) (pf_X12_car a b s l u v) := by
  have q1 : pf_X12_isIn a.toInt64 0 1 s l u v = some (if a < 0 then 0 else if 1 < a then 0 else 1, s, l, u, v) := q_isI a 0 1
  unfold pf_X11_car pf_X12_car pl_X11_car_36 pl_X12_car_25
  rcases q_01 h1 h2 with c | c
  · have q2 : pf_X12_isIn b.toInt64 0 30000 s l u v = some (if b < 0 then 0 else if 30000 < b then 0 else 1, s, l, u, v) := q_isI b 0 30000
    rw [if_pos c] at h4
    obtain ⟨b1, b2, -⟩ := q_inr h3 h4
    have n : ¬ a = 1 := by rw [c]; decide
    rw [if_neg h1, if_neg h2, if_neg h3, if_pos c, if_neg h4, if_pos c, if_pos c, q2, q_b, q_in1 h3 h4, q1, q_b, q_in1 h1 h2, if_neg q_n10, if_neg q_n10]
    unfold pl_X11_car_70 pl_X12_car_50 pl_X12_car_77 pl_X12_car_92 pl_X12_car_109
    rw [if_pos c, if_neg q_l00, if_pos c, if_pos c, if_neg n]
    have e : pj_u (pj_u s 52 b) 53 (s 53) = pj_u s 52 b := q_uv (q_un (by omega))
    rw [e]
    exact q_Fa_s (s 52) (pj_u s 52 b) rfl rfl (q_V_fo hV (q_R_u hV.1.1 ⟨b1, b2⟩) (fun w hw => q_un (by unfold q_Ss at hw; omega)) (fun _ w a h => q_un (q_rsN h 52 rfl)))
  · have n : ¬ a = 0 := by rw [c]; decide
    have q2 : pf_X12_isIn b.toInt64 0 6 s l u v = some (if b < 0 then 0 else if 6 < b then 0 else 1, s, l, u, v) := q_isI b 0 6
    rw [if_neg n] at h4
    obtain ⟨b1, b2, -⟩ := q_inr h3 h4
    rw [if_neg h1, if_neg h2, if_neg h3, if_neg n, if_neg h4, if_neg n, if_neg n, q2, q_b, q_in1 h3 h4, q1, q_b, q_in1 h1 h2, if_neg q_n10, if_neg q_n10]
    unfold pl_X11_car_70 pl_X12_car_50 pl_X12_car_77 pl_X12_car_92 pl_X12_car_109
    rw [if_neg n, if_neg q_l00, if_neg n, if_neg n, if_pos c]
    have e : pj_u s 52 (s 52) = s := q_uv rfl
    rw [e]
    exact q_Fa_s (s 53) (pj_u s 53 b) rfl rfl (q_V_fo hV (q_R_u hV.1.1 ⟨b1, b2⟩) (fun w hw => q_un (by unfold q_Ss at hw; omega)) (fun _ w a h => q_un (q_rsN h 53 rfl)))
theorem q_F_car1 (hV : q_V k s l x y u v) (h : a < 0 ∨ 1 < a) : q_Rf (k + 1) 1 s l x y (pf_X12_car a b s l u v) := by
  have q1 : pf_X12_isIn a.toInt64 0 1 s l u v = some (if a < 0 then 0 else if 1 < a then 0 else 1, s, l, u, v) := q_isI a 0 1
  have n : ¬ a = 0 := by
    intro z
    rw [z] at h
    exact absurd h (by decide)
  have q2 : pf_X12_isIn b.toInt64 0 6 s l u v = some (if b < 0 then 0 else if 6 < b then 0 else 1, s, l, u, v) := q_isI b 0 6
  unfold pf_X12_car pl_X12_car_25 pl_X12_car_50
  rw [if_neg n, q2, q_b, q1, q_b, q_in0 h, if_pos rfl, if_pos q_l01]
  exact q_Rf_s 0 1 rfl hV
theorem q_F_car2 (hV : q_V k s l x y u v) (h1 : ¬ a < 0) (h2 : ¬ 1 < a) (h : b < 0 ∨ (if a = 0 then (30000 : Int32) else 6) < b) : q_Rf (k + 1) 2 s l x y (pf_X12_car a b s l u v) := by
  have q1 : pf_X12_isIn a.toInt64 0 1 s l u v = some (if a < 0 then 0 else if 1 < a then 0 else 1, s, l, u, v) := q_isI a 0 1
  unfold pf_X12_car pl_X12_car_25 pl_X12_car_50
  by_cases c : a = 0
  · have q2 : pf_X12_isIn b.toInt64 0 30000 s l u v = some (if b < 0 then 0 else if 30000 < b then 0 else 1, s, l, u, v) := q_isI b 0 30000
    rw [if_pos c] at h
    rw [if_pos c, q2, q_b, q_in0 h, q1, q_b, q_in1 h1 h2, if_neg q_n10, if_pos rfl, if_pos q_l02]
    exact q_Rf_s 0 2 rfl hV
  · have q2 : pf_X12_isIn b.toInt64 0 6 s l u v = some (if b < 0 then 0 else if 6 < b then 0 else 1, s, l, u, v) := q_isI b 0 6
    rw [if_neg c] at h
    rw [if_neg c, q2, q_b, q_in0 h, q1, q_b, q_in1 h1 h2, if_neg q_n10, if_pos rfl, if_pos q_l02]
    exact q_Rf_s 0 2 rfl hV
-- brake
theorem q_rg15 {i : Nat} (h : i < 1000) : q_rg (15000 + i) = (0, 1) := by
  unfold q_rg
  rw [show (15000 + i) / 1000 = 15 by omega]
  rfl
theorem q_F_brake (hV : q_V k s l x y u v) (hb : b = 0 ∨ b = 1) (h1 : ¬ a < 0) (h2 : ¬ 1 < a) : q_Fa (k + 1) (pf_X11_brake a b s l x y) (pf_X12_brake a b s l u v) := by
  have q1 : pf_X12_isIn a.toInt64 0 1 s l u v = some (if a < 0 then 0 else if 1 < a then 0 else 1, s, l, u, v) := q_isI a 0 1
  have rb : 0 ≤ b.toInt ∧ b.toInt ≤ 1 := by rcases hb with z | z <;> rw [z] <;> decide
  obtain ⟨i, hi, rfl⟩ : ∃ i : Nat, i < 2 ∧ a = Int32.ofNat i := by
    rcases q_01 h1 h2 with c | c
    · exact ⟨0, by omega, c⟩
    · exact ⟨1, by omega, c⟩
  unfold pf_X11_brake pf_X12_brake pl_X12_brake_16 pl_X11_brake_39 pl_X12_brake_42
  rw [q1, q_b, q_in1 h1 h2, if_neg q_n10, if_neg h1, if_neg h2, if_neg q_l00, q_g hi (by omega), q_g hi (by omega), q_g hi (by omega), q_g hi (by omega), q_bz hb, q_bz hb, q_onC (by omega)]
  refine q_Fa_s (if s (15000 + i) = b then 0 else 1) (pj_u s (15000 + i) b) ?_ ?_ (q_V_fo hV (q_R_u hV.1.1 (by rw [q_rg15 (by omega)]; exact rb)) (fun w hw => q_un (by unfold q_Ss at hw; omega)) (fun _ w a h => q_un (by have := (q_rsF h).1; omega)))
  · split <;> rfl
  · split <;> rfl
theorem q_F_brake0 (hV : q_V k s l x y u v) (h : a < 0 ∨ 1 < a) : q_Rf (k + 1) 1 s l x y (pf_X12_brake a b s l u v) := by
  have q1 : pf_X12_isIn a.toInt64 0 1 s l u v = some (if a < 0 then 0 else if 1 < a then 0 else 1, s, l, u, v) := q_isI a 0 1
  unfold pf_X12_brake pl_X12_brake_16
  rw [q1, q_b, q_in0 h, if_pos rfl, if_pos q_l01]
  exact q_Rf_s 0 1 rfl hV
-- lock
theorem q_F_lock (hV : q_V k s l x y u v) (h : s 94 = 0) : q_Fa (k + 1) (pf_X11_lock a s l x y) (pf_X12_lock a s l u v) := by
  unfold pf_X11_lock pf_X12_lock pl_X12_lock_13 pl_X12_lock_37
  rw [if_pos h, if_pos h, if_pos rfl, q_ua, if_neg q_l00]
  exact q_Fa_s (s 12) (pj_u s 12 a) rfl rfl (q_V_fo hV (q_R_u hV.1.1 q_R_any) (fun w hw => q_un (by unfold q_Ss at hw; omega)) (fun _ w a h => q_un (q_rsN h 12 rfl)))
theorem q_F_lock0 (hV : q_V k s l x y u v) (h : ¬ s 94 = 0) : q_Rf (k + 1) 1 s l x y (pf_X12_lock a s l u v) := by
  unfold pf_X12_lock pl_X12_lock_13 pl_X12_lock_37
  rw [if_neg h, if_neg q_n10, q_ua, if_pos q_l01]
  have e : pj_u s 12 (s 12) = s := q_uv rfl
  rw [e]
  exact q_Rf_s 0 1 rfl hV
-- watch
theorem q_F_watch (hV : q_V k s l x y u v) (hb : a = 0 ∨ a = 1) (h : s 94 = 1) : q_Fa (k + 1) (pf_X11_watch a s l x y) (pf_X12_watch a s l u v) := by
  have h0 : ¬ s 94 = 0 := by rw [h]; decide
  have rb : 0 ≤ a.toInt ∧ a.toInt ≤ 1 := by rcases hb with z | z <;> rw [z] <;> decide
  unfold pf_X11_watch pf_X12_watch pl_X12_watch_14 pl_X12_watch_61 pf_X3_arm pl_X3_arm_15
  rw [if_pos h, if_pos h, if_neg q_l00, q_bz hb, q_bz hb]
  have go : ∀ b9 : Int32, 0 ≤ b9.toInt → b9.toInt ≤ 15 → q_V (k + 1) (pj_u (pj_u (pj_u (pj_u (pj_u (pj_u s 31 a) 32 b9) 33 0) 34 0) 35 0) 36 0) l x y (pj_u u 1 0) v := by
    intro b9 p q
    refine q_V_fo hV (q_R_u (q_R_u (q_R_u (q_R_u (q_R_u (q_R_u hV.1.1 rb) ⟨p, q⟩) (by decide)) (by decide)) (by decide)) (by decide)) (fun w hw => ?_) (fun z => absurd z h0)
    unfold q_Ss at hw
    rw [q_un (by omega), q_un (by omega), q_un (by omega), q_un (by omega), q_un (by omega), q_un (by omega)]
  have eq : ∀ b9 : Int32, pj_u (pj_u (pj_u (pj_u (pj_u (pj_u s 31 a) 34 0) 35 0) 36 0) 32 b9) 33 0 = pj_u (pj_u (pj_u (pj_u (pj_u (pj_u s 31 a) 32 b9) 33 0) 34 0) 35 0) 36 0 := by
    intro b9
    rw [q_u2 (show ¬ 36 = 32 by omega), q_u2 (show ¬ 35 = 32 by omega), q_u2 (show ¬ 34 = 32 by omega), q_u2 (show ¬ 36 = 33 by omega), q_u2 (show ¬ 35 = 33 by omega), q_u2 (show ¬ 34 = 33 by omega)]
  by_cases c : a = 0
  · rw [if_pos c, if_pos c, q_b, eq]
    refine q_Fa_s (if s 31 = a then 0 else 1) _ ?_ ?_ (go 0 (by decide) (by decide))
    · split <;> rfl
    · split <;> rfl
  · rw [if_neg c, if_neg c, q_b, eq]
    refine q_Fa_s (if s 31 = a then 0 else 1) _ ?_ ?_ (go 1 (by decide) (by decide))
    · split <;> rfl
    · split <;> rfl
theorem q_F_watch0 (hV : q_V k s l x y u v) (h : ¬ s 94 = 1) : q_Rf (k + 1) 1 s l x y (pf_X12_watch a s l u v) := by
  unfold pf_X12_watch pl_X12_watch_14
  rw [if_neg h, if_pos q_l01]
  exact q_Rf_s 0 1 rfl hV
-- answer
theorem q_F_answer (hV : q_V k s l x y u v) (h : ¬ s 31 = 0) : q_Fa (k + 1) (pf_X11_answer a s l x y) (pf_X12_answer a s l u v) := by
  have h0 : ¬ s 94 = 0 := by
    intro z
    exact h ((hV.1.2.2.2.2.2.2.2.2.2.2.2.2.2 z).1 31 0 rfl)
  unfold pf_X11_answer pf_X12_answer pl_X12_answer_13 pl_X11_answer_55 pl_X12_answer_50
  rw [if_neg h, if_neg h, if_neg q_l00, q_bz1, q_bz1, q_bz1, q_bz0, q_bz0, q_bz0]
  have go : ∀ b9 : Int32, 0 ≤ b9.toInt → b9.toInt ≤ 1 → q_V (k + 1) (pj_u s 33 b9) l x y (pj_u u 1 0) v := fun b9 p q => q_V_fo hV (q_R_u hV.1.1 ⟨p, q⟩) (fun w hw => q_un (by unfold q_Ss at hw; omega)) (fun z => absurd z h0)
  by_cases c : a = pj_rem (s 32 * s 32 + 7) 16
  · rw [if_pos c, if_pos c]
    exact q_Fa_s 1 (pj_u s 33 1) rfl rfl (go 1 (by decide) (by decide))
  · rw [if_neg c, if_neg c]
    exact q_Fa_s 0 (pj_u s 33 0) rfl rfl (go 0 (by decide) (by decide))
theorem q_F_answer0 (hV : q_V k s l x y u v) (h : s 31 = 0) : q_Rf (k + 1) 1 s l x y (pf_X12_answer a s l u v) := by
  unfold pf_X12_answer pl_X12_answer_13
  rw [if_pos h, if_pos q_l01]
  exact q_Rf_s 0 1 rfl hV
-- drain
theorem q_F_drain (hV : q_V k s l x y u v) : q_Fa (k + 1) (pf_X11_drain s l x y) (pf_X12_drain s l u v) := by
  unfold pf_X11_drain pf_X12_drain
  exact q_Fa_s (s 69) (pj_u s 69 0) rfl rfl (q_V_fo hV (q_R_u hV.1.1 (by decide)) (fun w hw => q_un (by unfold q_Ss at hw; omega)) (fun _ w a h => q_un (q_rsN h 69 rfl)))
end QTL

/-! REFUSALS: where the class throws -/
section QT
variable {s : Nat → Int32} {l : Nat → Int64} {x : Nat → Int32} {y : Nat → Int64} {a b d e p r : Int32}
theorem q_T_pass1 (h : a < 0 ∨ (2000000 : Int32) < a) : pf_X11_pass_t1 a s l x y = some ((), s, l, x, y) := by
  simp only [pf_X11_pass_t1, q_b]
  grind
theorem q_T_tooth1 (h : a < 1 ∨ (1000000 : Int32) < a) : pf_X11_tooth_t1 a s l x y = some ((), s, l, x, y) := by
  simp only [pf_X11_tooth_t1, q_b]
  grind
theorem q_T_cam1 (h : a < 0 ∨ (1000000 : Int32) < a) : pf_X11_cam_t1 a s l x y = some ((), s, l, x, y) := by
  simp only [pf_X11_cam_t1, q_b]
  grind
theorem q_T_turn1 (h : (a < 1 ∨ (240 : Int32) < a) ∨ (b < 20 ∨ (100000 : Int32) < b)) : pf_X11_turn_t1 a b s l x y = some ((), s, l, x, y) := by
  simp only [pf_X11_turn_t1, q_b]
  grind
theorem q_T_run1 (h : a < 1 ∨ (240 : Int32) < a) : pf_X11_run_t1 a s l x y = some ((), s, l, x, y) := by
  simp only [pf_X11_run_t1, q_b]
  grind
theorem q_T_set1 (h : a < 0 ∨ 1 < a) : pf_X11_set_t2 a b s l x y = some ((), s, l, x, y) := by
  simp only [pf_X11_set_t2, q_b]
  grind
theorem q_T_load1 (h : a < 0 ∨ 400 < a) : pf_X11_load_t1 a s l x y = some ((), s, l, x, y) := by
  simp only [pf_X11_load_t1, q_b]
  grind
theorem q_T_pin1 (h : a < 0 ∨ ¬ a < 10) : pf_X11_pin_t2 a b s l x y = some ((), s, l, x, y) := by
  simp only [pf_X11_pin_t2, q_b]
  grind
theorem q_T_pin2 (h1 : ¬ a < 0) (h2 : a < 10) (h : b < 0 ∨ 1023 < b) : pf_X11_pin_t1 a b s l x y = some ((), s, l, x, y) := by
  simp only [pf_X11_pin_t1, pl_X11_pin_t1_10, q_raw, q_b]
  grind
theorem q_T_car1 (h : a < 0 ∨ 1 < a) : pf_X11_car_t2 a b s l x y = some ((), s, l, x, y) := by
  simp only [pf_X11_car_t2, q_b]
  grind
theorem q_T_car2 (h1 : ¬ a < 0) (h2 : ¬ 1 < a) (h : b < 0 ∨ (if a = 0 then (30000 : Int32) else 6) < b) : pf_X11_car_t1 a b s l x y = some ((), s, l, x, y) := by
  simp only [pf_X11_car_t1, pl_X11_car_t1_36, pl_X11_car_t1_9, q_b]
  grind
theorem q_T_brake1 (h : a < 0 ∨ 1 < a) : pf_X11_brake_t2 a b s l x y = some ((), s, l, x, y) := by
  simp only [pf_X11_brake_t2, q_b]
  grind
theorem q_T_lock1 (h : ¬ s 94 = 0) : pf_X11_lock_t3 a s l x y = some ((), s, l, x, y) := by
  simp only [pf_X11_lock_t3, q_b]
  grind
theorem q_T_watch1 (h : ¬ s 94 = 1) : pf_X11_watch_t3 a s l x y = some ((), s, l, x, y) := by
  simp only [pf_X11_watch_t3, q_b]
  grind
theorem q_T_answer1 (h : s 31 = 0) : pf_X11_answer_t3 a s l x y = some ((), s, l, x, y) := by
  simp only [pf_X11_answer_t3, q_b]
  grind
theorem q_T_word1 (h : (a < 0 ∨ 1 < a) ∨ (b < 0 ∨ ¬ b < 55)) : pf_X11_word_t2 a b s l x y = some ((), s, l, x, y) := by
  simp only [pf_X11_word_t2, q_b]
  grind
theorem q_T_page1 (h : (a < 0 ∨ 1 < a) ∨ (b < 0 ∨ ¬ b < 34)) : pf_X11_page_t2 a b s l x y = some ((), s, l, x, y) := by
  simp only [pf_X11_page_t2, q_b]
  grind
theorem q_T_lineAt1 (h : a < 0 ∨ ¬ a < 13) : pf_X11_lineAt_t2 a b s l x y = some ((), s, l, x, y) := by
  simp only [pf_X11_lineAt_t2, q_b]
  grind
theorem q_T_value1 (h : a < 0 ∨ 1 < a) : pf_X11_value_t2 a b d s l x y = some ((), s, l, x, y) := by
  simp only [pf_X11_value_t2, q_b]
  grind
theorem q_T_about1 (h : a < 0 ∨ ¬ a < 80) : pf_X11_about_t2 a s l x y = some ((), s, l, x, y) := by
  simp only [pf_X11_about_t2, q_b]
  grind
theorem q_T_comes1 (h : a < 0 ∨ ¬ a < 7200) : pf_X11_comes_t1 a s l x y = some ((), s, l, x, y) := by
  simp only [pf_X11_comes_t1, q_b]
  grind
theorem q_T_comes2 (h1 : ¬ a < 0) (h2 : a < 7200) (h19 : ¬ s 19 = 3) : pf_X11_comes_t3 a s l x y = some ((), s, l, x, y) := by
  simp only [pf_X11_comes_t3, pl_X11_comes_t3_11, q_b]
  grind
theorem q_T_byteOf1 (h : (a < 0 ∨ ¬ a < s 69) ∨ ¬ a < 600) : pf_X11_byteOf_t2 a s l x y = some ((), s, l, x, y) := by
  simp only [pf_X11_byteOf_t2, q_b]
  grind
theorem q_T_channel1 (h : (a < 0 ∨ ¬ a < 10) ∨ (b < 0 ∨ 3 < b)) : pf_X11_channel_t2 a b s l x y = some ((), s, l, x, y) := by
  simp only [pf_X11_channel_t2, q_b]
  grind
theorem q_T_frame1 (h : a < 0 ∨ 7 < a) : pf_X11_frame_t2 a s l x y = some ((), s, l, x, y) := by
  simp only [pf_X11_frame_t2, q_b]
  grind
theorem q_T_noise1 (h : a < 0 ∨ 300 < a) : pf_X11_noise_t1 a s l x y = some ((), s, l, x, y) := by
  simp only [pf_X11_noise_t1, q_b]
  grind
theorem q_T_trouble1 (h : (a < 0 ∨ ¬ a < 28) ∨ (b < 0 ∨ 6 < b)) : pf_X11_trouble_t2 a b s l x y = some ((), s, l, x, y) := by
  simp only [pf_X11_trouble_t2, q_b]
  grind
theorem q_T_limits1 (h : a < 0 ∨ ¬ a < 10) : pf_X11_limits_t2 a b d e s l x y = some ((), s, l, x, y) := by
  simp only [pf_X11_limits_t2, q_b]
  grind
theorem q_T_limits2 (h1 : ¬ a < 0) (h2 : a < 10) (h : (b < 0 ∨ 1023 < b) ∨ (d < 0 ∨ 1023 < d) ∨ (e < 0 ∨ 1023 < e) ∨ d < b) : pf_X11_limits_t1 a b d e s l x y = some ((), s, l, x, y) := by
  simp only [pf_X11_limits_t1, pl_X11_limits_t1_10, q_raw, q_b]
  grind
theorem q_T_limits3 (h1 : ¬ a < 0) (h2 : a < 10) (h : ¬ ((b < 0 ∨ 1023 < b) ∨ (d < 0 ∨ 1023 < d) ∨ (e < 0 ∨ 1023 < e) ∨ d < b)) (h0 : ¬ s 94 = 0) : pf_X11_limits_t3 a b d e s l x y = some ((), s, l, x, y) := by
  simp only [pf_X11_limits_t3, pl_X11_limits_t3_10, pl_X11_limits_t3_47, q_raw, q_b]
  grind
theorem q_T_spoil1 (h : (a < 0 ∨ 1 < a) ∨ (b < 0 ∨ ¬ b < 55)) : pf_X11_spoil_t2 a b d s l x y = some ((), s, l, x, y) := by
  simp only [pf_X11_spoil_t2, q_b]
  grind
theorem q_T_spoil2 (h1 : ¬ a < 0) (h2 : ¬ 1 < a) (h3 : ¬ b < 0) (h4 : b < 55) (h0 : ¬ s 94 = 0) : pf_X11_spoil_t3 a b d s l x y = some ((), s, l, x, y) := by
  simp only [pf_X11_spoil_t3, pl_X11_spoil_t3_19, q_b]
  grind
theorem q_T_tear1 (h : (a < 0 ∨ 1 < a) ∨ (b < 0 ∨ ¬ b < 34)) : pf_X11_tear_t2 a b d s l x y = some ((), s, l, x, y) := by
  simp only [pf_X11_tear_t2, q_b]
  grind
theorem q_T_tear2 (h1 : ¬ a < 0) (h2 : ¬ 1 < a) (h3 : ¬ b < 0) (h4 : b < 34) (h0 : ¬ s 94 = 0) : pf_X11_tear_t3 a b d s l x y = some ((), s, l, x, y) := by
  simp only [pf_X11_tear_t3, pl_X11_tear_t3_19, q_b]
  grind
theorem q_T_cylinder1 (h : (a < 0 ∨ ¬ a < s 10000 ∨ ¬ a < 8) ∨ (b < 0 ∨ 7 < b)) : pf_X11_cylinder_t2 a b s l x y = some ((), s, l, x, y) := by
  simp only [pf_X11_cylinder_t2, q_b]
  grind
theorem q_T_edge1 (h : (a < 0 ∨ ¬ a < (if 200 < x 11 then 200 else x 11)) ∨ (b < 0 ∨ 2 < b)) : pf_X11_edge_t2 a b s l x y = some ((), s, l, x, y) := by
  simp only [pf_X11_edge_t2, q_min, q_b]
  grind
theorem q_T_sent1 (h : (a < 0 ∨ ¬ a < (if 64 < x 22 then 64 else x 22)) ∨ (b < 0 ∨ 2 < b)) : pf_X11_sent_t2 a b s l x y = some ((), s, l, x, y) := by
  simp only [pf_X11_sent_t2, q_min, q_b]
  grind
theorem q_T_row1 (h : (a < 0 ∨ ¬ a < x 27) ∨ (b < 0 ∨ 2 < b)) : pf_X11_row_t2 a b s l x y = some ((), s, l, x, y) := by
  simp only [pf_X11_row_t2, q_b]
  grind
theorem q_T_press1 (h : a < 0 ∨ 5 < a) : pf_X11_press_t2 a s l x y = some ((), s, l, x, y) := by
  simp only [pf_X11_press_t2, q_b]
  grind
theorem q_T_record1 (h : (b < 0 ∨ ¬ b < 80) ∨ (d < 0 ∨ ¬ d < 80) ∨ (e < 0 ∨ ¬ e < 80)) : pf_X11_record_t2 a b d e s l x y = some ((), s, l, x, y) := by
  simp only [pf_X11_record_t2, q_b]
  grind
theorem q_T_record2 (b1 : ¬ b < 0) (b2 : b < 80) (d1 : ¬ d < 0) (d2 : d < 80) (e1 : ¬ e < 0) (e2 : e < 80) (h : a < 1 ∨ 100 < a) : pf_X11_record_t1 a b d e s l x y = some ((), s, l, x, y) := by
  simp only [pf_X11_record_t1, pl_X11_record_t1_32, q_b]
  grind
theorem q_T_cut1 (h : a < -1 ∨ 1000 < a) : pf_X11_cut_t1 a s l x y = some ((), s, l, x, y) := by
  simp only [pf_X11_cut_t1, q_b]
  grind
theorem q_T_frameComes1 (h : a < 0 ∨ 2047 < a) : pf_X11_frameComes_t1 a b d s l x y = some ((), s, l, x, y) := by
  simp only [pf_X11_frameComes_t1, q_b]
  grind
theorem q_T_calibrate1 (h : a < 0 ∨ ¬ a < 24) : pf_X11_calibrate_t2 a b s l x y = some ((), s, l, x, y) := by
  simp only [pf_X11_calibrate_t2, q_b]
  grind
theorem q_T_calibrate2 (h1 : ¬ a < 0) (h2 : a < 24) (h3 : (if b < pj_xf 3 a.toNatClampNeg then (0 : Int32) else if pj_xf 4 a.toNatClampNeg < b then 0 else 1) = 0) : pf_X11_calibrate_t1 a b s l x y = some ((), s, l, x, y) := by
  obtain ⟨i, hi, rfl⟩ := q_inN (n := 24) h1 h2 (by omega)
  rw [q_onC (by omega)] at h3
  simp only [pf_X11_calibrate_t1, pl_X11_calibrate_t1_10, q_calC hi, q_b]
  grind
theorem q_T_calibrate3 (h1 : ¬ a < 0) (h2 : a < 24) (h3 : ¬ (if b < pj_xf 3 a.toNatClampNeg then (0 : Int32) else if pj_xf 4 a.toNatClampNeg < b then 0 else 1) = 0) (h4 : ¬ s 94 = 0) : pf_X11_calibrate_t3 a b s l x y = some ((), s, l, x, y) := by
  obtain ⟨i, hi, rfl⟩ := q_inN (n := 24) h1 h2 (by omega)
  rw [q_onC (by omega)] at h3
  simp only [pf_X11_calibrate_t3, pl_X11_calibrate_t3_10, q_calC hi, q_b]
  grind
theorem q_T_cell1 (h : (a < 0 ∨ 1 < a) ∨ (b < 0 ∨ 3 < b) ∨ (d < 0 ∨ 3 < d)) : pf_X11_cell_t2 a b d e s l x y = some ((), s, l, x, y) := by
  simp only [pf_X11_cell_t2, q_b]
  grind
theorem q_T_cell2 (h : ¬ ((a < 0 ∨ 1 < a) ∨ (b < 0 ∨ 3 < b) ∨ (d < 0 ∨ 3 < d))) (h7 : q_ic a e = 0) : pf_X11_cell_t1 a b d e s l x y = some ((), s, l, x, y) := by
  simp only [pf_X11_cell_t1, pl_X11_cell_t1_27, q_isCellC, q_b]
  grind
theorem q_T_cell3 (h : ¬ ((a < 0 ∨ 1 < a) ∨ (b < 0 ∨ 3 < b) ∨ (d < 0 ∨ 3 < d))) (h7 : ¬ q_ic a e = 0) (h8 : ¬ s 94 = 0) : pf_X11_cell_t3 a b d e s l x y = some ((), s, l, x, y) := by
  simp only [pf_X11_cell_t3, pl_X11_cell_t3_27, q_isCellC, q_b]
  grind
theorem q_T_axis1 (h1 : ((a < 0 ∨ 1 < a) ∨ (b < 0 ∨ 1 < b))) : pf_X11_axis_t2 a b d e p r s l x y = some ((), s, l, x, y) := by
  simp only [pf_X11_axis_t2, q_b]
  grind
theorem q_T_axis2 (h1 : ¬ ((a < 0 ∨ 1 < a) ∨ (b < 0 ∨ 1 < b))) (h2 : (d < 0 ∨ 10000 < r ∨ ¬ d < e ∨ ¬ e < p ∨ ¬ p < r)) : pf_X11_axis_t1 a b d e p r s l x y = some ((), s, l, x, y) := by
  simp only [pf_X11_axis_t1, pl_X11_axis_t1_18, q_b]
  grind
theorem q_T_axis3 (h1 : ¬ ((a < 0 ∨ 1 < a) ∨ (b < 0 ∨ 1 < b))) (h2 : ¬ (d < 0 ∨ 10000 < r ∨ ¬ d < e ∨ ¬ e < p ∨ ¬ p < r)) (h3 : ¬ s 94 = 0) : pf_X11_axis_t3 a b d e p r s l x y = some ((), s, l, x, y) := by
  simp only [pf_X11_axis_t3, pl_X11_axis_t3_18, pl_X11_axis_t3_60, q_b]
  grind
theorem q_T_line1 (h : a < 0 ∨ ¬ a < 13) : pf_X11_line_t2 a b d e p s l x y = some ((), s, l, x, y) := by
  simp only [pf_X11_line_t2, q_b]
  grind
theorem q_T_line2 (h1 : ¬ a < 0) (h2 : a < 13) (h3 : q_isp a b d = 0 ∨ q_isp a e p = 0 ∨ ¬ b < e) : pf_X11_line_t1 a b d e p s l x y = some ((), s, l, x, y) := by
  simp only [pf_X11_line_t1, pl_X11_line_t1_10, q_ispC, q_b]
  grind
theorem q_T_line3 (h1 : ¬ a < 0) (h2 : a < 13) (h3 : ¬ (q_isp a b d = 0 ∨ q_isp a e p = 0 ∨ ¬ b < e)) (h4 : ¬ s 94 = 0) : pf_X11_line_t3 a b d e p s l x y = some ((), s, l, x, y) := by
  simp only [pf_X11_line_t3, pl_X11_line_t3_10, pl_X11_line_t3_46, q_ispC, q_b]
  grind
theorem q_T_point1 (h : a < 0 ∨ ¬ a < 13) : pf_X11_point_t2 a b d s l x y = some ((), s, l, x, y) := by
  simp only [pf_X11_point_t2, q_b]
  grind
theorem q_T_point2 {k : Nat} {u : Nat → Int32} {v : Nat → Int64} (hV : q_V k s l x y u v) (h1 : ¬ a < 0) (h2 : a < 13) (h3 : q_isp a b d = 0 ∨ ¬ q_lx s a < b) : pf_X11_point_t1 a b d s l x y = some ((), s, l, x, y) := by
  obtain ⟨i, hi, rfl⟩ := q_inN (n := 13) h1 h2 (by omega)
  obtain ⟨m, hm1, hm, hs, hln⟩ := q_lnN hV hi
  unfold q_lx at h3
  rw [q_onC (show i < 2147483648 by omega), hs, q_onC (by omega), show m + 1 - 1 = m by omega] at h3
  simp only [pf_X11_point_t1, pl_X11_point_t1_10, q_ispC, q_lastC hi hm hs, q_b]
  grind
theorem q_T_point3 {k : Nat} {u : Nat → Int32} {v : Nat → Int64} (hV : q_V k s l x y u v) (h1 : ¬ a < 0) (h2 : a < 13) (h3 : ¬ (q_isp a b d = 0 ∨ ¬ q_lx s a < b)) (h4 : ¬ s 94 = 0 ∨ ¬ s (28000 + a.toNatClampNeg) < 8) : pf_X11_point_t3 a b d s l x y = some ((), s, l, x, y) := by
  obtain ⟨i, hi, rfl⟩ := q_inN (n := 13) h1 h2 (by omega)
  obtain ⟨m, hm1, hm, hs, hln⟩ := q_lnN hV hi
  unfold q_lx at h3
  rw [q_onC (show i < 2147483648 by omega), hs, q_onC (by omega), show m + 1 - 1 = m by omega] at h3
  rw [q_onC (by omega)] at h4
  have gg : ∀ (k9 : Option (Unit × pj_Z)), pj_g (Int32.ofNat i) 13 k9 = k9 := fun k9 => q_g (by omega) (by omega)
  have tn : (Int32.ofNat i).toNatClampNeg = i := q_onC (by omega)
  simp only [pf_X11_point_t3, pl_X11_point_t3_10, pl_X11_point_t3_41, q_ispC, q_lastC hi hm hs, q_b, gg, tn]
  grind
theorem q_T_hear1 (h : b < 0 ∨ (1000000 : Int32) < b) : pf_X11_hear_t1 a b s l x y = some ((), s, l, x, y) := by
  simp only [pf_X11_hear_t1, q_b]
  grind
theorem q_T_ask1 {a2 a3 a4 a5 a6 : Int32} (h : a < 1 ∨ (5 : Int32) < a) : pf_X11_ask_t1 a a2 a3 a4 a5 a6 s l x y = some ((), s, l, x, y) := by
  simp only [pf_X11_ask_t1, q_b]
  grind
end QT

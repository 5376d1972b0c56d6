/-! EACH OPERATION: both answer, or the class throws and the reference says which -/
section QO
variable {k : Nat} {s : Nat → Int32} {l : Nat → Int64} {x : Nat → Int32} {y : Nat → Int64} {u : Nat → Int32} {v : Nat → Int64} {a b d e p r : Int32}
theorem q_O_pass (hV : q_V k s l x y u v) (hk : k < 512) : q_Fa (k + 1) (pf_X11_pass a s l x y) (pf_X12_pass a s l u v) ∨ (q_Rf (k + 1) 1 s l x y (pf_X12_pass a s l u v) ∧ pf_X11_pass_t1 a s l x y = some ((), s, l, x, y)) := by
  by_cases c0 : (a < 0 ∨ (2000000 : Int32) < a)
  · exact Or.inr (⟨q_F_pass0 hV c0, q_T_pass1 c0⟩)
  exact Or.inl (q_F_pass hV (by omega) (by grind) (by grind))
theorem q_O_tooth (hV : q_V k s l x y u v) (hk : k < 512) : q_Fa (k + 1) (pf_X11_tooth a s l x y) (pf_X12_tooth a s l u v) ∨ (q_Rf (k + 1) 1 s l x y (pf_X12_tooth a s l u v) ∧ pf_X11_tooth_t1 a s l x y = some ((), s, l, x, y)) := by
  by_cases c0 : (a < 1 ∨ (1000000 : Int32) < a)
  · exact Or.inr (⟨q_F_tooth0 hV c0, q_T_tooth1 c0⟩)
  exact Or.inl (q_F_tooth hV (by omega) (by grind) (by grind))
theorem q_O_cam (hV : q_V k s l x y u v) (hk : k < 512) : q_Fa (k + 1) (pf_X11_cam a s l x y) (pf_X12_cam a s l u v) ∨ (q_Rf (k + 1) 1 s l x y (pf_X12_cam a s l u v) ∧ pf_X11_cam_t1 a s l x y = some ((), s, l, x, y)) := by
  by_cases c0 : (a < 0 ∨ (1000000 : Int32) < a)
  · exact Or.inr (⟨q_F_cam0 hV c0, q_T_cam1 c0⟩)
  exact Or.inl (q_F_cam hV (by omega) (by grind) (by grind))
theorem q_O_turn (hV : q_V k s l x y u v) (hk : k < 512) : q_Fa (k + 1) (pf_X11_turn a b s l x y) (pf_X12_turn a b s l u v) ∨ (q_Rf (k + 1) 1 s l x y (pf_X12_turn a b s l u v) ∧ pf_X11_turn_t1 a b s l x y = some ((), s, l, x, y)) := by
  by_cases c0 : ((a < 1 ∨ (240 : Int32) < a) ∨ (b < 20 ∨ (100000 : Int32) < b))
  · exact Or.inr (⟨q_F_turn0 hV c0, q_T_turn1 c0⟩)
  exact Or.inl (q_F_turn hV (by omega) (by grind) (by grind) (by grind) (by grind))
theorem q_O_run (hV : q_V k s l x y u v) (hk : k < 512) : q_Fa (k + 1) (pf_X11_run a s l x y) (pf_X12_run a s l u v) ∨ (q_Rf (k + 1) 1 s l x y (pf_X12_run a s l u v) ∧ pf_X11_run_t1 a s l x y = some ((), s, l, x, y)) := by
  by_cases c0 : (a < 1 ∨ (240 : Int32) < a)
  · exact Or.inr (⟨q_F_run0 hV c0, q_T_run1 c0⟩)
  exact Or.inl (q_F_run hV (by omega) (by grind) (by grind))
theorem q_O_set (hV : q_V k s l x y u v) (hk : k < 512) (hb : b = 0 ∨ b = 1) : q_Fa (k + 1) (pf_X11_set a b s l x y) (pf_X12_set a b s l u v) ∨ (q_Rf (k + 1) 1 s l x y (pf_X12_set a b s l u v) ∧ pf_X11_set_t2 a b s l x y = some ((), s, l, x, y)) := by
  by_cases c0 : (a < 0 ∨ 1 < a)
  · exact Or.inr (⟨q_F_set0 hV c0, q_T_set1 c0⟩)
  exact Or.inl (q_F_set hV hb (by grind) (by grind))
theorem q_O_load (hV : q_V k s l x y u v) (hk : k < 512) : q_Fa (k + 1) (pf_X11_load a s l x y) (pf_X12_load a s l u v) ∨ (q_Rf (k + 1) 1 s l x y (pf_X12_load a s l u v) ∧ pf_X11_load_t1 a s l x y = some ((), s, l, x, y)) := by
  by_cases c0 : (a < 0 ∨ 400 < a)
  · exact Or.inr (⟨q_F_load0 hV c0, q_T_load1 c0⟩)
  exact Or.inl (q_F_load hV (by grind) (by grind))
theorem q_O_pin (hV : q_V k s l x y u v) (hk : k < 512) : q_Fa (k + 1) (pf_X11_pin a b s l x y) (pf_X12_pin a b s l u v) ∨ (q_Rf (k + 1) 1 s l x y (pf_X12_pin a b s l u v) ∧ pf_X11_pin_t2 a b s l x y = some ((), s, l, x, y)) ∨ (q_Rf (k + 1) 2 s l x y (pf_X12_pin a b s l u v) ∧ pf_X11_pin_t1 a b s l x y = some ((), s, l, x, y)) := by
  by_cases c0 : (a < 0 ∨ ¬ a < 10)
  · exact Or.inr (Or.inl ⟨q_F_pin1 hV c0, q_T_pin1 c0⟩)
  by_cases c1 : (¬ a < 0) ∧ (a < 10) ∧ (b < 0 ∨ 1023 < b)
  · exact Or.inr (Or.inr (⟨q_F_pin2 hV c1.1 c1.2.1 c1.2.2, q_T_pin2 c1.1 c1.2.1 c1.2.2⟩))
  exact Or.inl (q_F_pin hV (by grind) (by grind) (by grind) (by grind))
theorem q_O_car (hV : q_V k s l x y u v) (hk : k < 512) : q_Fa (k + 1) (pf_X11_car a b s l x y) (pf_X12_car a b s l u v) ∨ (q_Rf (k + 1) 1 s l x y (pf_X12_car a b s l u v) ∧ pf_X11_car_t2 a b s l x y = some ((), s, l, x, y)) ∨ (q_Rf (k + 1) 2 s l x y (pf_X12_car a b s l u v) ∧ pf_X11_car_t1 a b s l x y = some ((), s, l, x, y)) := by
  by_cases c0 : (a < 0 ∨ 1 < a)
  · exact Or.inr (Or.inl ⟨q_F_car1 hV c0, q_T_car1 c0⟩)
  by_cases c1 : (¬ a < 0) ∧ (¬ 1 < a) ∧ (b < 0 ∨ (if a = 0 then (30000 : Int32) else 6) < b)
  · exact Or.inr (Or.inr (⟨q_F_car2 hV c1.1 c1.2.1 c1.2.2, q_T_car2 c1.1 c1.2.1 c1.2.2⟩))
  exact Or.inl (q_F_car hV (by grind) (by grind) (by grind) (by grind))
theorem q_O_brake (hV : q_V k s l x y u v) (hk : k < 512) (hb : b = 0 ∨ b = 1) : q_Fa (k + 1) (pf_X11_brake a b s l x y) (pf_X12_brake a b s l u v) ∨ (q_Rf (k + 1) 1 s l x y (pf_X12_brake a b s l u v) ∧ pf_X11_brake_t2 a b s l x y = some ((), s, l, x, y)) := by
  by_cases c0 : (a < 0 ∨ 1 < a)
  · exact Or.inr (⟨q_F_brake0 hV c0, q_T_brake1 c0⟩)
  exact Or.inl (q_F_brake hV hb (by grind) (by grind))
theorem q_O_lock (hV : q_V k s l x y u v) (hk : k < 512) : q_Fa (k + 1) (pf_X11_lock a s l x y) (pf_X12_lock a s l u v) ∨ (q_Rf (k + 1) 1 s l x y (pf_X12_lock a s l u v) ∧ pf_X11_lock_t3 a s l x y = some ((), s, l, x, y)) := by
  by_cases c0 : (¬ s 94 = 0)
  · exact Or.inr (⟨q_F_lock0 hV c0, q_T_lock1 c0⟩)
  exact Or.inl (q_F_lock hV (by grind))
theorem q_O_watch (hV : q_V k s l x y u v) (hk : k < 512) (hb : a = 0 ∨ a = 1) : q_Fa (k + 1) (pf_X11_watch a s l x y) (pf_X12_watch a s l u v) ∨ (q_Rf (k + 1) 1 s l x y (pf_X12_watch a s l u v) ∧ pf_X11_watch_t3 a s l x y = some ((), s, l, x, y)) := by
  by_cases c0 : (¬ s 94 = 1)
  · exact Or.inr (⟨q_F_watch0 hV c0, q_T_watch1 c0⟩)
  exact Or.inl (q_F_watch hV hb (by grind))
theorem q_O_answer (hV : q_V k s l x y u v) (hk : k < 512) : q_Fa (k + 1) (pf_X11_answer a s l x y) (pf_X12_answer a s l u v) ∨ (q_Rf (k + 1) 1 s l x y (pf_X12_answer a s l u v) ∧ pf_X11_answer_t3 a s l x y = some ((), s, l, x, y)) := by
  by_cases c0 : (s 31 = 0)
  · exact Or.inr (⟨q_F_answer0 hV c0, q_T_answer1 c0⟩)
  exact Or.inl (q_F_answer hV (by grind))
theorem q_O_drain (hV : q_V k s l x y u v) (hk : k < 512) : q_Fa (k + 1) (pf_X11_drain  s l x y) (pf_X12_drain  s l u v) := by
  exact (q_F_drain hV )
theorem q_O_word (hV : q_V k s l x y u v) (hk : k < 512) : q_Fa (k + 1) (pf_X11_word a b s l x y) (pf_X12_word a b s l u v) ∨ (q_Rf (k + 1) 1 s l x y (pf_X12_word a b s l u v) ∧ pf_X11_word_t2 a b s l x y = some ((), s, l, x, y)) := by
  by_cases c0 : ((a < 0 ∨ 1 < a) ∨ (b < 0 ∨ ¬ b < 55))
  · exact Or.inr (⟨q_F_word0 hV c0, q_T_word1 c0⟩)
  exact Or.inl (q_F_word hV (by grind) (by grind) (by grind) (by grind))
theorem q_O_page (hV : q_V k s l x y u v) (hk : k < 512) : q_Fa (k + 1) (pf_X11_page a b s l x y) (pf_X12_page a b s l u v) ∨ (q_Rf (k + 1) 1 s l x y (pf_X12_page a b s l u v) ∧ pf_X11_page_t2 a b s l x y = some ((), s, l, x, y)) := by
  by_cases c0 : ((a < 0 ∨ 1 < a) ∨ (b < 0 ∨ ¬ b < 34))
  · exact Or.inr (⟨q_F_page0 hV c0, q_T_page1 c0⟩)
  exact Or.inl (q_F_page hV (by grind) (by grind) (by grind) (by grind))
theorem q_O_lineAt (hV : q_V k s l x y u v) (hk : k < 512) : q_Fa (k + 1) (pf_X11_lineAt a b s l x y) (pf_X12_lineAt a b s l u v) ∨ (q_Rf (k + 1) 1 s l x y (pf_X12_lineAt a b s l u v) ∧ pf_X11_lineAt_t2 a b s l x y = some ((), s, l, x, y)) := by
  by_cases c0 : (a < 0 ∨ ¬ a < 13)
  · exact Or.inr (⟨q_F_lineAt0 hV c0, q_T_lineAt1 c0⟩)
  exact Or.inl (q_F_lineAt hV (by grind) (by grind))
theorem q_O_value (hV : q_V k s l x y u v) (hk : k < 512) : q_Fa (k + 1) (pf_X11_value a b d s l x y) (pf_X12_value a b d s l u v) ∨ (q_Rf (k + 1) 1 s l x y (pf_X12_value a b d s l u v) ∧ pf_X11_value_t2 a b d s l x y = some ((), s, l, x, y)) := by
  by_cases c0 : (a < 0 ∨ 1 < a)
  · exact Or.inr (⟨q_F_value0 hV c0, q_T_value1 c0⟩)
  exact Or.inl (q_F_value hV (by grind) (by grind))
theorem q_O_about (hV : q_V k s l x y u v) (hk : k < 512) : q_Fa (k + 1) (pf_X11_about a s l x y) (pf_X12_about a s l u v) ∨ (q_Rf (k + 1) 1 s l x y (pf_X12_about a s l u v) ∧ pf_X11_about_t2 a s l x y = some ((), s, l, x, y)) := by
  by_cases c0 : (a < 0 ∨ ¬ a < 80)
  · exact Or.inr (⟨q_F_about0 hV c0, q_T_about1 c0⟩)
  exact Or.inl (q_F_about hV (by grind) (by grind))
theorem q_O_comes (hV : q_V k s l x y u v) (hk : k < 512) : q_Fa (k + 1) (pf_X11_comes a s l x y) (pf_X12_comes a s l u v) ∨ (q_Rf (k + 1) 1 s l x y (pf_X12_comes a s l u v) ∧ pf_X11_comes_t1 a s l x y = some ((), s, l, x, y)) ∨ (q_Rf (k + 1) 2 s l x y (pf_X12_comes a s l u v) ∧ pf_X11_comes_t3 a s l x y = some ((), s, l, x, y)) := by
  by_cases c0 : (a < 0 ∨ ¬ a < 7200)
  · exact Or.inr (Or.inl ⟨q_F_comes1 hV c0, q_T_comes1 c0⟩)
  by_cases c1 : (¬ a < 0) ∧ (a < 7200) ∧ (¬ s 19 = 3)
  · exact Or.inr (Or.inr (⟨q_F_comes2 hV c1.1 c1.2.1 c1.2.2, q_T_comes2 c1.1 c1.2.1 c1.2.2⟩))
  exact Or.inl (q_F_comes hV (by grind) (by grind) (by grind))
theorem q_O_byteOf (hV : q_V k s l x y u v) (hk : k < 512) : q_Fa (k + 1) (pf_X11_byteOf a s l x y) (pf_X12_byteOf a s l u v) ∨ (q_Rf (k + 1) 1 s l x y (pf_X12_byteOf a s l u v) ∧ pf_X11_byteOf_t2 a s l x y = some ((), s, l, x, y)) := by
  by_cases c0 : ((a < 0 ∨ ¬ a < s 69) ∨ ¬ a < 600)
  · exact Or.inr (⟨q_F_byteOf0 hV c0, q_T_byteOf1 c0⟩)
  exact Or.inl (q_F_byteOf hV (by grind) (by grind) (by grind))
theorem q_O_channel (hV : q_V k s l x y u v) (hk : k < 512) : q_Fa (k + 1) (pf_X11_channel a b s l x y) (pf_X12_channel a b s l u v) ∨ (q_Rf (k + 1) 1 s l x y (pf_X12_channel a b s l u v) ∧ pf_X11_channel_t2 a b s l x y = some ((), s, l, x, y)) := by
  by_cases c0 : ((a < 0 ∨ ¬ a < 10) ∨ (b < 0 ∨ 3 < b))
  · exact Or.inr (⟨q_F_channel0 hV c0, q_T_channel1 c0⟩)
  exact Or.inl (q_F_channel hV (by grind) (by grind) (by grind) (by grind))
theorem q_O_frame (hV : q_V k s l x y u v) (hk : k < 512) : q_Fa (k + 1) (pf_X11_frame a s l x y) (pf_X12_frame a s l u v) ∨ (q_Rf (k + 1) 1 s l x y (pf_X12_frame a s l u v) ∧ pf_X11_frame_t2 a s l x y = some ((), s, l, x, y)) := by
  by_cases c0 : (a < 0 ∨ 7 < a)
  · exact Or.inr (⟨q_F_frame0 hV c0, q_T_frame1 c0⟩)
  exact Or.inl (q_F_frame hV (by grind) (by grind))
theorem q_O_noise (hV : q_V k s l x y u v) (hk : k < 512) : q_Fa (k + 1) (pf_X11_noise a s l x y) (pf_X12_noise a s l u v) ∨ (q_Rf (k + 1) 1 s l x y (pf_X12_noise a s l u v) ∧ pf_X11_noise_t1 a s l x y = some ((), s, l, x, y)) := by
  by_cases c0 : (a < 0 ∨ 300 < a)
  · exact Or.inr (⟨q_F_noise0 hV c0, q_T_noise1 c0⟩)
  exact Or.inl (q_F_noise hV (by grind) (by grind))
theorem q_O_trouble (hV : q_V k s l x y u v) (hk : k < 512) : q_Fa (k + 1) (pf_X11_trouble a b s l x y) (pf_X12_trouble a b s l u v) ∨ (q_Rf (k + 1) 1 s l x y (pf_X12_trouble a b s l u v) ∧ pf_X11_trouble_t2 a b s l x y = some ((), s, l, x, y)) := by
  by_cases c0 : ((a < 0 ∨ ¬ a < 28) ∨ (b < 0 ∨ 6 < b))
  · exact Or.inr (⟨q_F_trouble0 hV c0, q_T_trouble1 c0⟩)
  exact Or.inl (q_F_trouble hV (by grind) (by grind) (by grind) (by grind))
theorem q_O_limits (hV : q_V k s l x y u v) (hk : k < 512) : q_Fa (k + 1) (pf_X11_limits a b d e s l x y) (pf_X12_limits a b d e s l u v) ∨ (q_Rf (k + 1) 1 s l x y (pf_X12_limits a b d e s l u v) ∧ pf_X11_limits_t2 a b d e s l x y = some ((), s, l, x, y)) ∨ (q_Rf (k + 1) 2 s l x y (pf_X12_limits a b d e s l u v) ∧ pf_X11_limits_t1 a b d e s l x y = some ((), s, l, x, y)) ∨ (q_Rf (k + 1) 3 s l x y (pf_X12_limits a b d e s l u v) ∧ pf_X11_limits_t3 a b d e s l x y = some ((), s, l, x, y)) := by
  by_cases c0 : (a < 0 ∨ ¬ a < 10)
  · exact Or.inr (Or.inl ⟨q_F_limits1 hV c0, q_T_limits1 c0⟩)
  by_cases c1 : (¬ a < 0) ∧ (a < 10) ∧ ((b < 0 ∨ 1023 < b) ∨ (d < 0 ∨ 1023 < d) ∨ (e < 0 ∨ 1023 < e) ∨ d < b)
  · exact Or.inr (Or.inr (Or.inl ⟨q_F_limits2 hV c1.1 c1.2.1 c1.2.2, q_T_limits2 c1.1 c1.2.1 c1.2.2⟩))
  by_cases c2 : (¬ a < 0) ∧ (a < 10) ∧ (¬ ((b < 0 ∨ 1023 < b) ∨ (d < 0 ∨ 1023 < d) ∨ (e < 0 ∨ 1023 < e) ∨ d < b)) ∧ (¬ s 94 = 0)
  · exact Or.inr (Or.inr (Or.inr (⟨q_F_limits3 hV c2.1 c2.2.1 c2.2.2.1 c2.2.2.2, q_T_limits3 c2.1 c2.2.1 c2.2.2.1 c2.2.2.2⟩)))
  exact Or.inl (q_F_limits hV (by grind) (by grind) (by grind) (by grind) (by grind) (by grind) (by grind) (by grind) (by grind) (by grind))
theorem q_O_unit (hV : q_V k s l x y u v) (hk : k < 512) : q_Fa (k + 1) (pf_X11_unit a s l x y) (pf_X12_unit a s l u v) := by
  exact (q_F_unit hV )
theorem q_O_spoil (hV : q_V k s l x y u v) (hk : k < 512) : q_Fa (k + 1) (pf_X11_spoil a b d s l x y) (pf_X12_spoil a b d s l u v) ∨ (q_Rf (k + 1) 1 s l x y (pf_X12_spoil a b d s l u v) ∧ pf_X11_spoil_t2 a b d s l x y = some ((), s, l, x, y)) ∨ (q_Rf (k + 1) 2 s l x y (pf_X12_spoil a b d s l u v) ∧ pf_X11_spoil_t3 a b d s l x y = some ((), s, l, x, y)) := by
  by_cases c0 : ((a < 0 ∨ 1 < a) ∨ (b < 0 ∨ ¬ b < 55))
  · exact Or.inr (Or.inl ⟨q_F_spoil1 hV c0, q_T_spoil1 c0⟩)
  by_cases c1 : (¬ a < 0) ∧ (¬ 1 < a) ∧ (¬ b < 0) ∧ (b < 55) ∧ (¬ s 94 = 0)
  · exact Or.inr (Or.inr (⟨q_F_spoil2 hV c1.1 c1.2.1 c1.2.2.1 c1.2.2.2.1 c1.2.2.2.2, q_T_spoil2 c1.1 c1.2.1 c1.2.2.1 c1.2.2.2.1 c1.2.2.2.2⟩))
  exact Or.inl (q_F_spoil hV (by grind) (by grind) (by grind) (by grind) (by grind))
theorem q_O_tear (hV : q_V k s l x y u v) (hk : k < 512) : q_Fa (k + 1) (pf_X11_tear a b d s l x y) (pf_X12_tear a b d s l u v) ∨ (q_Rf (k + 1) 1 s l x y (pf_X12_tear a b d s l u v) ∧ pf_X11_tear_t2 a b d s l x y = some ((), s, l, x, y)) ∨ (q_Rf (k + 1) 2 s l x y (pf_X12_tear a b d s l u v) ∧ pf_X11_tear_t3 a b d s l x y = some ((), s, l, x, y)) := by
  by_cases c0 : ((a < 0 ∨ 1 < a) ∨ (b < 0 ∨ ¬ b < 34))
  · exact Or.inr (Or.inl ⟨q_F_tear1 hV c0, q_T_tear1 c0⟩)
  by_cases c1 : (¬ a < 0) ∧ (¬ 1 < a) ∧ (¬ b < 0) ∧ (b < 34) ∧ (¬ s 94 = 0)
  · exact Or.inr (Or.inr (⟨q_F_tear2 hV c1.1 c1.2.1 c1.2.2.1 c1.2.2.2.1 c1.2.2.2.2, q_T_tear2 c1.1 c1.2.1 c1.2.2.1 c1.2.2.2.1 c1.2.2.2.2⟩))
  exact Or.inl (q_F_tear hV (by grind) (by grind) (by grind) (by grind) (by grind))
theorem q_O_cylinder (hV : q_V k s l x y u v) (hk : k < 512) : q_Fa (k + 1) (pf_X11_cylinder a b s l x y) (pf_X12_cylinder a b s l u v) ∨ (q_Rf (k + 1) 1 s l x y (pf_X12_cylinder a b s l u v) ∧ pf_X11_cylinder_t2 a b s l x y = some ((), s, l, x, y)) := by
  by_cases c0 : ((a < 0 ∨ ¬ a < s 10000 ∨ ¬ a < 8) ∨ (b < 0 ∨ 7 < b))
  · exact Or.inr (⟨q_F_cylinder0 hV c0, q_T_cylinder1 c0⟩)
  exact Or.inl (q_F_cylinder hV (by grind) (by grind) (by grind) (by grind) (by grind))
theorem q_O_edge (hV : q_V k s l x y u v) (hk : k < 512) : q_Fa (k + 1) (pf_X11_edge a b s l x y) (pf_X12_edge a b s l u v) ∨ (q_Rf (k + 1) 1 s l x y (pf_X12_edge a b s l u v) ∧ pf_X11_edge_t2 a b s l x y = some ((), s, l, x, y)) := by
  by_cases c0 : ((a < 0 ∨ ¬ a < (if 200 < x 11 then 200 else x 11)) ∨ (b < 0 ∨ 2 < b))
  · exact Or.inr (⟨q_F_edge0 hV c0, q_T_edge1 c0⟩)
  exact Or.inl (q_F_edge hV (by omega) (by grind) (by grind) (by grind) (by grind))
theorem q_O_sent (hV : q_V k s l x y u v) (hk : k < 512) : q_Fa (k + 1) (pf_X11_sent a b s l x y) (pf_X12_sent a b s l u v) ∨ (q_Rf (k + 1) 1 s l x y (pf_X12_sent a b s l u v) ∧ pf_X11_sent_t2 a b s l x y = some ((), s, l, x, y)) := by
  by_cases c0 : ((a < 0 ∨ ¬ a < (if 64 < x 22 then 64 else x 22)) ∨ (b < 0 ∨ 2 < b))
  · exact Or.inr (⟨q_F_sent0 hV c0, q_T_sent1 c0⟩)
  exact Or.inl (q_F_sent hV (by omega) (by grind) (by grind) (by grind) (by grind))
theorem q_O_row (hV : q_V k s l x y u v) (hk : k < 512) : q_Fa (k + 1) (pf_X11_row a b s l x y) (pf_X12_row a b s l u v) ∨ (q_Rf (k + 1) 1 s l x y (pf_X12_row a b s l u v) ∧ pf_X11_row_t2 a b s l x y = some ((), s, l, x, y)) := by
  by_cases c0 : ((a < 0 ∨ ¬ a < x 27) ∨ (b < 0 ∨ 2 < b))
  · exact Or.inr (⟨q_F_row0 hV c0, q_T_row1 c0⟩)
  exact Or.inl (q_F_row hV (by grind) (by grind) (by grind) (by grind))
theorem q_O_press (hV : q_V k s l x y u v) (hk : k < 512) : q_Fa (k + 1) (pf_X11_press a s l x y) (pf_X12_press a s l u v) ∨ (q_Rf (k + 1) 1 s l x y (pf_X12_press a s l u v) ∧ pf_X11_press_t2 a s l x y = some ((), s, l, x, y)) := by
  by_cases c0 : (a < 0 ∨ 5 < a)
  · exact Or.inr (⟨q_F_press0 hV c0, q_T_press1 c0⟩)
  exact Or.inl (q_F_press hV (by grind) (by grind))
theorem q_O_record (hV : q_V k s l x y u v) (hk : k < 512) : q_Fa (k + 1) (pf_X11_record a b d e s l x y) (pf_X12_record a b d e s l u v) ∨ (q_Rf (k + 1) 1 s l x y (pf_X12_record a b d e s l u v) ∧ pf_X11_record_t2 a b d e s l x y = some ((), s, l, x, y)) ∨ (q_Rf (k + 1) 2 s l x y (pf_X12_record a b d e s l u v) ∧ pf_X11_record_t1 a b d e s l x y = some ((), s, l, x, y)) := by
  by_cases c0 : ((b < 0 ∨ ¬ b < 80) ∨ (d < 0 ∨ ¬ d < 80) ∨ (e < 0 ∨ ¬ e < 80))
  · exact Or.inr (Or.inl ⟨q_F_record1 hV c0, q_T_record1 c0⟩)
  by_cases c1 : (¬ b < 0) ∧ (b < 80) ∧ (¬ d < 0) ∧ (d < 80) ∧ (¬ e < 0) ∧ (e < 80) ∧ (a < 1 ∨ 100 < a)
  · exact Or.inr (Or.inr (⟨q_F_record2 hV c1.1 c1.2.1 c1.2.2.1 c1.2.2.2.1 c1.2.2.2.2.1 c1.2.2.2.2.2.1 c1.2.2.2.2.2.2, q_T_record2 c1.1 c1.2.1 c1.2.2.1 c1.2.2.2.1 c1.2.2.2.2.1 c1.2.2.2.2.2.1 c1.2.2.2.2.2.2⟩))
  exact Or.inl (q_F_record hV (by grind) (by grind) (by grind) (by grind) (by grind) (by grind) (by grind) (by grind))
theorem q_O_cut (hV : q_V k s l x y u v) (hk : k < 512) : q_Fa (k + 1) (pf_X11_cut a s l x y) (pf_X12_cut a s l u v) ∨ (q_Rf (k + 1) 1 s l x y (pf_X12_cut a s l u v) ∧ pf_X11_cut_t1 a s l x y = some ((), s, l, x, y)) := by
  by_cases c0 : (a < -1 ∨ 1000 < a)
  · exact Or.inr (⟨q_F_cut0 hV c0, q_T_cut1 c0⟩)
  exact Or.inl (q_F_cut hV (by grind) (by grind))
theorem q_O_key (hV : q_V k s l x y u v) (hk : k < 512) (ha : a = 0 ∨ a = 1) : q_Fa (k + 1) (pf_X11_key a s l x y) (pf_X12_key a s l u v) := by
  exact (q_F_key hV (by omega) ha)
theorem q_O_frameComes (hV : q_V k s l x y u v) (hk : k < 512) : q_Fa (k + 1) (pf_X11_frameComes a b d s l x y) (pf_X12_frameComes a b d s l u v) ∨ (q_Rf (k + 1) 1 s l x y (pf_X12_frameComes a b d s l u v) ∧ pf_X11_frameComes_t1 a b d s l x y = some ((), s, l, x, y)) := by
  by_cases c0 : (a < 0 ∨ 2047 < a)
  · exact Or.inr (⟨q_F_frameComes0 hV c0, q_T_frameComes1 c0⟩)
  exact Or.inl (q_F_frameComes hV (by grind) (by grind))
theorem q_O_calibrate (hV : q_V k s l x y u v) (hk : k < 512) : q_Fa (k + 1) (pf_X11_calibrate a b s l x y) (pf_X12_calibrate a b s l u v) ∨ (q_Rf (k + 1) 1 s l x y (pf_X12_calibrate a b s l u v) ∧ pf_X11_calibrate_t2 a b s l x y = some ((), s, l, x, y)) ∨ (q_Rf (k + 1) 2 s l x y (pf_X12_calibrate a b s l u v) ∧ pf_X11_calibrate_t1 a b s l x y = some ((), s, l, x, y)) ∨ (q_Rf (k + 1) 3 s l x y (pf_X12_calibrate a b s l u v) ∧ pf_X11_calibrate_t3 a b s l x y = some ((), s, l, x, y)) := by
  by_cases c0 : (a < 0 ∨ ¬ a < 24)
  · exact Or.inr (Or.inl ⟨q_F_calibrate1 hV c0, q_T_calibrate1 c0⟩)
  by_cases c1 : (¬ a < 0) ∧ (a < 24) ∧ ((if b < pj_xf 3 a.toNatClampNeg then (0 : Int32) else if pj_xf 4 a.toNatClampNeg < b then 0 else 1) = 0)
  · exact Or.inr (Or.inr (Or.inl ⟨q_F_calibrate2 hV c1.1 c1.2.1 c1.2.2, q_T_calibrate2 c1.1 c1.2.1 c1.2.2⟩))
  by_cases c2 : (¬ a < 0) ∧ (a < 24) ∧ (¬ (if b < pj_xf 3 a.toNatClampNeg then (0 : Int32) else if pj_xf 4 a.toNatClampNeg < b then 0 else 1) = 0) ∧ (¬ s 94 = 0)
  · exact Or.inr (Or.inr (Or.inr (⟨q_F_calibrate3 hV c2.1 c2.2.1 c2.2.2.1 c2.2.2.2, q_T_calibrate3 c2.1 c2.2.1 c2.2.2.1 c2.2.2.2⟩)))
  exact Or.inl (q_F_calibrate hV (by grind) (by grind) (by grind) (by grind))
theorem q_O_cell (hV : q_V k s l x y u v) (hk : k < 512) : q_Fa (k + 1) (pf_X11_cell a b d e s l x y) (pf_X12_cell a b d e s l u v) ∨ (q_Rf (k + 1) 1 s l x y (pf_X12_cell a b d e s l u v) ∧ pf_X11_cell_t2 a b d e s l x y = some ((), s, l, x, y)) ∨ (q_Rf (k + 1) 2 s l x y (pf_X12_cell a b d e s l u v) ∧ pf_X11_cell_t1 a b d e s l x y = some ((), s, l, x, y)) ∨ (q_Rf (k + 1) 3 s l x y (pf_X12_cell a b d e s l u v) ∧ pf_X11_cell_t3 a b d e s l x y = some ((), s, l, x, y)) := by
  by_cases c0 : ((a < 0 ∨ 1 < a) ∨ (b < 0 ∨ 3 < b) ∨ (d < 0 ∨ 3 < d))
  · exact Or.inr (Or.inl ⟨q_F_cell1 hV c0, q_T_cell1 c0⟩)
  by_cases c1 : (¬ ((a < 0 ∨ 1 < a) ∨ (b < 0 ∨ 3 < b) ∨ (d < 0 ∨ 3 < d))) ∧ (q_ic a e = 0)
  · exact Or.inr (Or.inr (Or.inl ⟨q_F_cell2 hV c1.1 c1.2, q_T_cell2 c1.1 c1.2⟩))
  by_cases c2 : (¬ ((a < 0 ∨ 1 < a) ∨ (b < 0 ∨ 3 < b) ∨ (d < 0 ∨ 3 < d))) ∧ (¬ q_ic a e = 0) ∧ (¬ s 94 = 0)
  · exact Or.inr (Or.inr (Or.inr (⟨q_F_cell3 hV c2.1 c2.2.1 c2.2.2, q_T_cell3 c2.1 c2.2.1 c2.2.2⟩)))
  exact Or.inl (q_F_cell hV (by grind) (by grind) (by grind) (by grind) (by grind) (by grind) (by grind) (by grind))
theorem q_O_axis (hV : q_V k s l x y u v) (hk : k < 512) : q_Fa (k + 1) (pf_X11_axis a b d e p r s l x y) (pf_X12_axis a b d e p r s l u v) ∨ (q_Rf (k + 1) 1 s l x y (pf_X12_axis a b d e p r s l u v) ∧ pf_X11_axis_t2 a b d e p r s l x y = some ((), s, l, x, y)) ∨ (q_Rf (k + 1) 2 s l x y (pf_X12_axis a b d e p r s l u v) ∧ pf_X11_axis_t1 a b d e p r s l x y = some ((), s, l, x, y)) ∨ (q_Rf (k + 1) 3 s l x y (pf_X12_axis a b d e p r s l u v) ∧ pf_X11_axis_t3 a b d e p r s l x y = some ((), s, l, x, y)) := by
  by_cases c0 : (((a < 0 ∨ 1 < a) ∨ (b < 0 ∨ 1 < b)))
  · exact Or.inr (Or.inl ⟨q_F_axis1 hV c0, q_T_axis1 c0⟩)
  by_cases c1 : (¬ ((a < 0 ∨ 1 < a) ∨ (b < 0 ∨ 1 < b))) ∧ ((d < 0 ∨ 10000 < r ∨ ¬ d < e ∨ ¬ e < p ∨ ¬ p < r))
  · exact Or.inr (Or.inr (Or.inl ⟨q_F_axis2 hV c1.1 c1.2, q_T_axis2 c1.1 c1.2⟩))
  by_cases c2 : (¬ ((a < 0 ∨ 1 < a) ∨ (b < 0 ∨ 1 < b))) ∧ (¬ (d < 0 ∨ 10000 < r ∨ ¬ d < e ∨ ¬ e < p ∨ ¬ p < r)) ∧ (¬ s 94 = 0)
  · exact Or.inr (Or.inr (Or.inr (⟨q_F_axis3 hV c2.1 c2.2.1 c2.2.2, q_T_axis3 c2.1 c2.2.1 c2.2.2⟩)))
  exact Or.inl (q_F_axis hV (by grind) (by grind) (by grind))
theorem q_O_line (hV : q_V k s l x y u v) (hk : k < 512) : q_Fa (k + 1) (pf_X11_line a b d e p s l x y) (pf_X12_line a b d e p s l u v) ∨ (q_Rf (k + 1) 1 s l x y (pf_X12_line a b d e p s l u v) ∧ pf_X11_line_t2 a b d e p s l x y = some ((), s, l, x, y)) ∨ (q_Rf (k + 1) 2 s l x y (pf_X12_line a b d e p s l u v) ∧ pf_X11_line_t1 a b d e p s l x y = some ((), s, l, x, y)) ∨ (q_Rf (k + 1) 3 s l x y (pf_X12_line a b d e p s l u v) ∧ pf_X11_line_t3 a b d e p s l x y = some ((), s, l, x, y)) := by
  by_cases c0 : (a < 0 ∨ ¬ a < 13)
  · exact Or.inr (Or.inl ⟨q_F_line1 hV c0, q_T_line1 c0⟩)
  by_cases c1 : (¬ a < 0) ∧ (a < 13) ∧ (q_isp a b d = 0 ∨ q_isp a e p = 0 ∨ ¬ b < e)
  · exact Or.inr (Or.inr (Or.inl ⟨q_F_line2 hV c1.1 c1.2.1 c1.2.2, q_T_line2 c1.1 c1.2.1 c1.2.2⟩))
  by_cases c2 : (¬ a < 0) ∧ (a < 13) ∧ (¬ (q_isp a b d = 0 ∨ q_isp a e p = 0 ∨ ¬ b < e)) ∧ (¬ s 94 = 0)
  · exact Or.inr (Or.inr (Or.inr (⟨q_F_line3 hV c2.1 c2.2.1 c2.2.2.1 c2.2.2.2, q_T_line3 c2.1 c2.2.1 c2.2.2.1 c2.2.2.2⟩)))
  exact Or.inl (q_F_line hV (by grind) (by grind) (by grind) (by grind))
theorem q_O_point (hV : q_V k s l x y u v) (hk : k < 512) : q_Fa (k + 1) (pf_X11_point a b d s l x y) (pf_X12_point a b d s l u v) ∨ (q_Rf (k + 1) 1 s l x y (pf_X12_point a b d s l u v) ∧ pf_X11_point_t2 a b d s l x y = some ((), s, l, x, y)) ∨ (q_Rf (k + 1) 2 s l x y (pf_X12_point a b d s l u v) ∧ pf_X11_point_t1 a b d s l x y = some ((), s, l, x, y)) ∨ (q_Rf (k + 1) 3 s l x y (pf_X12_point a b d s l u v) ∧ pf_X11_point_t3 a b d s l x y = some ((), s, l, x, y)) := by
  by_cases c0 : (a < 0 ∨ ¬ a < 13)
  · exact Or.inr (Or.inl ⟨q_F_point1 hV c0, q_T_point1 c0⟩)
  by_cases c1 : (¬ a < 0) ∧ (a < 13) ∧ (q_isp a b d = 0 ∨ ¬ q_lx s a < b)
  · exact Or.inr (Or.inr (Or.inl ⟨q_F_point2 hV c1.1 c1.2.1 c1.2.2, q_T_point2 hV c1.1 c1.2.1 c1.2.2⟩))
  by_cases c2 : (¬ a < 0) ∧ (a < 13) ∧ (¬ (q_isp a b d = 0 ∨ ¬ q_lx s a < b)) ∧ (¬ s 94 = 0 ∨ ¬ s (28000 + a.toNatClampNeg) < 8)
  · exact Or.inr (Or.inr (Or.inr (⟨q_F_point3 hV c2.1 c2.2.1 c2.2.2.1 c2.2.2.2, q_T_point3 hV c2.1 c2.2.1 c2.2.2.1 c2.2.2.2⟩)))
  exact Or.inl (q_F_point hV (by grind) (by grind) (by grind) (by grind) (by grind))
theorem q_O_hear (hV : q_V k s l x y u v) (hk : k < 512) : q_Fa (k + 1) (pf_X11_hear a b s l x y) (pf_X12_hear a b s l u v) ∨ (q_Rf (k + 1) 1 s l x y (pf_X12_hear a b s l u v) ∧ pf_X11_hear_t1 a b s l x y = some ((), s, l, x, y)) := by
  by_cases c0 : (b < 0 ∨ (1000000 : Int32) < b)
  · exact Or.inr (⟨q_F_hear0 hV c0, q_T_hear1 c0⟩)
  exact Or.inl (q_F_hear hV (by omega) (by grind) (by grind))
theorem q_O_ask {a2 a3 a4 a5 a6 : Int32} (hV : q_V k s l x y u v) (hk : k < 512) : q_Fa (k + 1) (pf_X11_ask a a2 a3 a4 a5 a6 s l x y) (pf_X12_ask a a2 a3 a4 a5 a6 s l u v) ∨ (q_Rf (k + 1) 1 s l x y (pf_X12_ask a a2 a3 a4 a5 a6 s l u v) ∧ pf_X11_ask_t1 a a2 a3 a4 a5 a6 s l x y = some ((), s, l, x, y)) := by
  by_cases c0 : (a < 1 ∨ (5 : Int32) < a)
  · exact Or.inr (⟨q_F_ask0 hV c0, q_T_ask1 c0⟩)
  exact Or.inl (q_F_ask hV (by omega) (by grind) (by grind))
theorem q_O_build (hV : q_V k s l x y u v) (hk : k < 512) : q_Fa (k + 1) (pf_X11_build  s l x y) (pf_X12_build  s l u v) := by
  exact (q_F_build hV )
end QO

/-! PURE: what about() tells -/
section QAB
variable {s x u s' x' u' s1 x1 u1 s2 u2 : Nat → Int32} {l y v l' y' v' l2 v2 : Nat → Int64} {D E W : Int} {fu : Nat}
def q_Tl (s : Nat → Int32) (l : Nat → Int64) (x : Nat → Int32) (y : Nat → Int64) (u : Nat → Int32) (v : Nat → Int64) (w : Int32) : Prop := ∃ r, pf_X11_tell w s l x y = some (r, s, l, x, y) ∧ pf_X12_aboutOf w s l u v = some (r, s, l, u, v)
theorem q_tlB {w a : Int32} (h1 : pf_X11_tell w s l x y = pj_b (pj_b (pf_X11_bit a s l x y) (fun r1 s1 l1 x1 y1 => some (r1.toInt64, s1, l1, x1, y1))) (fun r s l x y => some (r, s, l, x, y))) (h2 : pf_X12_aboutOf w s l u v = pj_b (if a = 0 then some (0, s, l, u, v) else some (1, s, l, u, v)) (fun r s l x y => some (r, s, l, x, y))) : q_Tl s l x y u v w := by
  unfold q_Tl
  rw [h1, h2, q_bit, q_b, q_b]
  by_cases c : a = 0
  · rw [if_pos c, if_pos c]; exact ⟨_, rfl, rfl⟩
  · rw [if_neg c, if_neg c]; exact ⟨_, rfl, rfl⟩
theorem q_tlE {w : Int32} {a b : Int64} (h1 : pf_X11_tell w s l x y = some (a, s, l, x, y)) (h2 : pf_X12_aboutOf w s l u v = some (b, s, l, u, v)) (e : b = a) : q_Tl s l x y u v w := ⟨a, h1, by rw [h2, e]⟩
theorem q_rows : pf_X12_rowsKept s l u v = some ((if v 30 < 128 then v 30 else 128), s, l, u, v) := by
  unfold pf_X12_rowsKept
  split <;> rfl
theorem q_hd : (if q_val s = -1 then (0 : Int32) else s (13000 + (55 * q_val s).toNatClampNeg)) = q_head s ∧ (q_val s = -1 ∨ q_val s = 0 ∨ q_val s = 1) := by
  unfold q_val q_head
  by_cases c1 : q_ok s 13055 = 0
  · by_cases c2 : q_ok s 13000 = 0
    · simp only [if_pos c1, if_pos c2, if_true]; exact ⟨trivial, Or.inl trivial⟩
    · simp only [if_pos c1, if_neg c2]; exact ⟨rfl, by simp⟩
  · by_cases c2 : q_ok s 13000 = 0
    · simp only [if_neg c1, if_pos c2]; exact ⟨rfl, by simp⟩
    · by_cases c3 : s 13000 < s 13055
      · simp only [if_neg c1, if_neg c2, if_pos c3]; exact ⟨rfl, by simp⟩
      · simp only [if_neg c1, if_neg c2, if_neg c3]; exact ⟨rfl, by simp⟩
theorem q_hdB : (if q_valB s = -1 then (0 : Int32) else s (14000 + (34 * q_valB s).toNatClampNeg)) = q_headB s ∧ (q_valB s = -1 ∨ q_valB s = 0 ∨ q_valB s = 1) := by
  unfold q_valB q_headB
  by_cases c1 : q_okB s 14034 = 0
  · by_cases c2 : q_okB s 14000 = 0
    · simp only [if_pos c1, if_pos c2, if_true]; exact ⟨trivial, Or.inl trivial⟩
    · simp only [if_pos c1, if_neg c2]; exact ⟨rfl, by simp⟩
  · by_cases c2 : q_okB s 14000 = 0
    · simp only [if_neg c1, if_pos c2]; exact ⟨rfl, by simp⟩
    · by_cases c3 : s 14000 < s 14034
      · simp only [if_neg c1, if_neg c2, if_pos c3]; exact ⟨rfl, by simp⟩
      · simp only [if_neg c1, if_neg c2, if_neg c3]; exact ⟨rfl, by simp⟩
theorem q_tl_0 (hI : q_I D E W s l x y u v) : q_Tl s l x y u v 0 := ⟨l 93, rfl, rfl⟩
theorem q_tl_1 (hI : q_I D E W s l x y u v) : q_Tl s l x y u v 1 := ⟨(s 94).toInt64, rfl, rfl⟩
theorem q_tl_2 (hI : q_I D E W s l x y u v) : q_Tl s l x y u v 2 := ⟨(s 19).toInt64, rfl, rfl⟩
theorem q_tl_7 (hI : q_I D E W s l x y u v) : q_Tl s l x y u v 7 := ⟨(s 21).toInt64, rfl, rfl⟩
theorem q_tl_8 (hI : q_I D E W s l x y u v) : q_Tl s l x y u v 8 := ⟨(s 22).toInt64, rfl, rfl⟩
theorem q_tl_9 (hI : q_I D E W s l x y u v) : q_Tl s l x y u v 9 := ⟨(s 23).toInt64, rfl, rfl⟩
theorem q_tl_10 (hI : q_I D E W s l x y u v) : q_Tl s l x y u v 10 := ⟨(s 24).toInt64, rfl, rfl⟩
theorem q_tl_12 (hI : q_I D E W s l x y u v) : q_Tl s l x y u v 12 := ⟨(s 57).toInt64, rfl, rfl⟩
theorem q_tl_13 (hI : q_I D E W s l x y u v) : q_Tl s l x y u v 13 := ⟨(s 58).toInt64, rfl, rfl⟩
theorem q_tl_15 (hI : q_I D E W s l x y u v) : q_Tl s l x y u v 15 := ⟨(s 59).toInt64, rfl, rfl⟩
theorem q_tl_16 (hI : q_I D E W s l x y u v) : q_Tl s l x y u v 16 := ⟨(s 60).toInt64, rfl, rfl⟩
theorem q_tl_17 (hI : q_I D E W s l x y u v) : q_Tl s l x y u v 17 := ⟨(s 26).toInt64, rfl, rfl⟩
theorem q_tl_18 (hI : q_I D E W s l x y u v) : q_Tl s l x y u v 18 := ⟨(s 27).toInt64, rfl, rfl⟩
theorem q_tl_20 (hI : q_I D E W s l x y u v) : q_Tl s l x y u v 20 := ⟨(s 71).toInt64, rfl, rfl⟩
theorem q_tl_21 (hI : q_I D E W s l x y u v) : q_Tl s l x y u v 21 := ⟨(s 72).toInt64, rfl, rfl⟩
theorem q_tl_22 (hI : q_I D E W s l x y u v) : q_Tl s l x y u v 22 := ⟨(s 75).toInt64, rfl, rfl⟩
theorem q_tl_23 (hI : q_I D E W s l x y u v) : q_Tl s l x y u v 23 := ⟨(s 76).toInt64, rfl, rfl⟩
theorem q_tl_24 (hI : q_I D E W s l x y u v) : q_Tl s l x y u v 24 := ⟨(s 77).toInt64, rfl, rfl⟩
theorem q_tl_25 (hI : q_I D E W s l x y u v) : q_Tl s l x y u v 25 := ⟨(s 78).toInt64, rfl, rfl⟩
theorem q_tl_26 (hI : q_I D E W s l x y u v) : q_Tl s l x y u v 26 := ⟨(s 79).toInt64, rfl, rfl⟩
theorem q_tl_32 (hI : q_I D E W s l x y u v) : q_Tl s l x y u v 32 := ⟨(s 43).toInt64, rfl, rfl⟩
theorem q_tl_37 (hI : q_I D E W s l x y u v) : q_Tl s l x y u v 37 := ⟨(s 35).toInt64, rfl, rfl⟩
theorem q_tl_39 (hI : q_I D E W s l x y u v) : q_Tl s l x y u v 39 := ⟨(s 88).toInt64, rfl, rfl⟩
theorem q_tl_42 (hI : q_I D E W s l x y u v) : q_Tl s l x y u v 42 := ⟨(s 66).toInt64, rfl, rfl⟩
theorem q_tl_43 (hI : q_I D E W s l x y u v) : q_Tl s l x y u v 43 := ⟨(s 69).toInt64, rfl, rfl⟩
theorem q_tl_44 (hI : q_I D E W s l x y u v) : q_Tl s l x y u v 44 := ⟨(s 46).toInt64, rfl, rfl⟩
theorem q_tl_45 (hI : q_I D E W s l x y u v) : q_Tl s l x y u v 45 := ⟨(s 45).toInt64, rfl, rfl⟩
theorem q_tl_46 (hI : q_I D E W s l x y u v) : q_Tl s l x y u v 46 := ⟨(s 50).toInt64, rfl, rfl⟩
theorem q_tl_47 (hI : q_I D E W s l x y u v) : q_Tl s l x y u v 47 := ⟨(s 51).toInt64, rfl, rfl⟩
theorem q_tl_50 (hI : q_I D E W s l x y u v) : q_Tl s l x y u v 50 := ⟨(s 52).toInt64, rfl, rfl⟩
theorem q_tl_51 (hI : q_I D E W s l x y u v) : q_Tl s l x y u v 51 := ⟨(s 53).toInt64, rfl, rfl⟩
theorem q_tl_52 (hI : q_I D E W s l x y u v) : q_Tl s l x y u v 52 := ⟨(s 54).toInt64, rfl, rfl⟩
theorem q_tl_55 (hI : q_I D E W s l x y u v) : q_Tl s l x y u v 55 := ⟨(s 81).toInt64, rfl, rfl⟩
theorem q_tl_56 (hI : q_I D E W s l x y u v) : q_Tl s l x y u v 56 := ⟨(s 82).toInt64, rfl, rfl⟩
theorem q_tl_57 (hI : q_I D E W s l x y u v) : q_Tl s l x y u v 57 := ⟨(s 84).toInt64, rfl, rfl⟩
theorem q_tl_58 (hI : q_I D E W s l x y u v) : q_Tl s l x y u v 58 := ⟨(s 9).toInt64, rfl, rfl⟩
theorem q_tl_59 (hI : q_I D E W s l x y u v) : q_Tl s l x y u v 59 := ⟨(s 10).toInt64, rfl, rfl⟩
theorem q_tl_60 (hI : q_I D E W s l x y u v) : q_Tl s l x y u v 60 := ⟨(s 11).toInt64, rfl, rfl⟩
theorem q_tl_61 (hI : q_I D E W s l x y u v) : q_Tl s l x y u v 61 := ⟨(s 6).toInt64, rfl, rfl⟩
theorem q_tl_64 (hI : q_I D E W s l x y u v) : q_Tl s l x y u v 64 := ⟨l 61, rfl, rfl⟩
theorem q_tl_67 (hI : q_I D E W s l x y u v) : q_Tl s l x y u v 67 := ⟨(s 14).toInt64, rfl, rfl⟩
theorem q_tl_68 (hI : q_I D E W s l x y u v) : q_Tl s l x y u v 68 := ⟨(s 15).toInt64, rfl, rfl⟩
theorem q_tl_69 (hI : q_I D E W s l x y u v) : q_Tl s l x y u v 69 := ⟨(s 56).toInt64, rfl, rfl⟩
theorem q_tl_76 (hI : q_I D E W s l x y u v) : q_Tl s l x y u v 76 := ⟨(s 2).toInt64, rfl, rfl⟩
theorem q_tl_77 (hI : q_I D E W s l x y u v) : q_Tl s l x y u v 77 := ⟨(s 1).toInt64, rfl, rfl⟩
theorem q_tl34C (a1 : Int32) (h1 : ¬ a1 < 20) (h2 : a1 < 36) (n20 : ¬ a1 = 20) (n21 : ¬ a1 = 21) (n22 : ¬ a1 = 22) (n23 : ¬ a1 = 23) (n24 : ¬ a1 = 24) (n25 : ¬ a1 = 25) (n26 : ¬ a1 = 26) (n27 : ¬ a1 = 27) (n28 : ¬ a1 = 28) (n29 : ¬ a1 = 29) (n30 : ¬ a1 = 30) (n31 : ¬ a1 = 31) (n32 : ¬ a1 = 32) (n33 : ¬ a1 = 33) (e : a1 = 34) (hc : 0 ≤ (q_ca (x 5) (s 34004)).toInt ∧ (q_ca (x 5) (s 34004)).toInt ≤ 15) : pf_X11_tell a1 s l x y = some ((s (9000 + (q_ca (x 5) (s 34004)).toNatClampNeg)).toInt64, s, l, x, y) := by
  unfold pf_X11_tell
  rw [if_neg h1, if_pos h2]
  unfold pf_X11_tellLoop
  rw [if_neg n20, if_neg n21, if_neg n22, if_neg n23, if_neg n24, if_neg n25, if_neg n26, if_neg n27, if_neg n28, if_neg n29, if_neg n30, if_neg n31, if_neg n32, if_neg n33, if_pos e, q_cellC, q_b, q_gi hc.1 (by omega), q_b]
theorem q_tl34R (hw : q_Wl D s l x u v) (a1 : Int32) (h1 : ¬ a1 < 20) (h2 : a1 < 36) (n20 : ¬ a1 = 20) (n21 : ¬ a1 = 21) (n22 : ¬ a1 = 22) (n23 : ¬ a1 = 23) (n24 : ¬ a1 = 24) (n25 : ¬ a1 = 25) (n26 : ¬ a1 = 26) (n27 : ¬ a1 = 27) (n28 : ¬ a1 = 28) (n29 : ¬ a1 = 29) (n30 : ¬ a1 = 30) (n31 : ¬ a1 = 31) (n32 : ¬ a1 = 32) (n33 : ¬ a1 = 33) (e : a1 = 34) (hc : 0 ≤ (q_ca (x 5) (s 34004)).toInt ∧ (q_ca (x 5) (s 34004)).toInt ≤ 15) : pf_X12_aboutOf a1 s l u v = some ((s (9000 + (q_ca (x 5) (s 34004)).toNatClampNeg)).toInt64, s, l, u, v) := by
  unfold pf_X12_aboutOf
  rw [if_neg h1, if_pos h2]
  unfold pf_X12_aboutLoop
  rw [if_neg n20, if_neg n21, if_neg n22, if_neg n23, if_neg n24, if_neg n25, if_neg n26, if_neg n27, if_neg n28, if_neg n29, if_neg n30, if_neg n31, if_neg n32, if_neg n33, if_pos e, q_cellR hw rfl rfl, q_b, q_gi hc.1 (by omega), q_b]
theorem q_tl36V (a1 : Int32) (h1 : ¬ a1 < 20) (h2 : ¬ a1 < 36) (h3 : a1 < 50) (e : a1 = 36) : q_Tl s l x y u v a1 := by
  unfold q_Tl pf_X11_tell pf_X12_aboutOf
  rw [if_neg h1, if_neg h1, if_neg h2, if_neg h2, if_pos h3, if_pos h3]
  unfold pf_X11_tellKept pf_X12_aboutRest
  rw [if_pos e, if_pos e]
  by_cases c : s 31 = 0
  · rw [if_pos c, if_pos c, q_b, q_b]; exact ⟨_, rfl, rfl⟩
  · rw [if_neg c, if_neg c, q_b, q_b]; exact ⟨_, rfl, rfl⟩
theorem q_tl66V (a1 : Int32) (h1 : ¬ a1 < 20) (h2 : ¬ a1 < 36) (h3 : ¬ a1 < 50) (h4 : ¬ a1 < 64) (h5 : ¬ a1 < 66) (n1 : ¬ a1 = 64) (n2 : ¬ a1 = 65) (e : a1 = 66) : q_Tl s l x y u v a1 := by
  unfold q_Tl pf_X11_tell pf_X12_aboutOf
  rw [if_neg h1, if_neg h1, if_neg h2, if_neg h2, if_neg h3, if_neg h3, if_neg h4, if_neg h5]
  unfold pf_X11_tellBench pf_X12_aboutBench
  rw [if_neg n1, if_neg n2, if_pos e, if_pos e]
  by_cases c : s 13 = 0
  · rw [if_pos c, if_pos c, q_b, q_b]; exact ⟨_, rfl, rfl⟩
  · rw [if_neg c, if_neg c, q_b, q_b]; exact ⟨_, rfl, rfl⟩
theorem q_tl_3 (hI : q_I D E W s l x y u v) : q_Tl s l x y u v 3 := by
  have h1 : pf_X11_tell 3 s l x y = pj_b ((if s 19 < 2 then some (0, s, l, x, y) else some ((x 6).toInt64, s, l, x, y))) (fun r s l x y => some (r, s, l, x, y)) := rfl
  have h2 : pf_X12_aboutOf 3 s l u v = pj_b ((if s 19 < 2 then some (0, s, l, u, v) else some ((u 4).toInt64, s, l, u, v))) (fun r s l x y => some (r, s, l, x, y)) := rfl
  unfold q_Tl
  rw [h1, h2]
  by_cases c : s 19 < 2
  · rw [if_pos c, if_pos c]; exact ⟨_, rfl, rfl⟩
  · rw [if_neg c, if_neg c, (hI.2.2.2.1.2.2.2.1 c).1]; exact ⟨_, rfl, rfl⟩
theorem q_tl_4 (hI : q_I D E W s l x y u v) : q_Tl s l x y u v 4 := by
  have h1 : pf_X11_tell 4 s l x y = pj_b ((if s 19 < 2 then some (0, s, l, x, y) else some ((x 7).toInt64, s, l, x, y))) (fun r s l x y => some (r, s, l, x, y)) := rfl
  have h2 : pf_X12_aboutOf 4 s l u v = pj_b ((if s 19 < 2 then some (0, s, l, u, v) else some ((u 5).toInt64, s, l, u, v))) (fun r s l x y => some (r, s, l, x, y)) := rfl
  unfold q_Tl
  rw [h1, h2]
  by_cases c : s 19 < 2
  · rw [if_pos c, if_pos c]; exact ⟨_, rfl, rfl⟩
  · rw [if_neg c, if_neg c, (hI.2.2.2.1.2.2.2.1 c).2]; exact ⟨_, rfl, rfl⟩
theorem q_tl_5 (hI : q_I D E W s l x y u v) : q_Tl s l x y u v 5 := q_tlE (a := (x 4).toInt64) (b := v 6) rfl rfl hI.2.2.2.1.1.1
theorem q_tl_6 (hI : q_I D E W s l x y u v) : q_Tl s l x y u v 6 := by
  have h1 : pf_X11_tell 6 s l x y = pj_b (some ((x 5).toInt64, s, l, x, y)) (fun r s l x y => some (r, s, l, x, y)) := rfl
  have h2 : pf_X12_aboutOf 6 s l u v = pj_b (pj_b (pf_X12_speed  s l u v) (fun r1 s1 l1 x1 y1 => some (r1.toInt64, s1, l1, x1, y1))) (fun r s l x y => some (r, s, l, x, y)) := rfl
  unfold q_Tl
  rw [h1, h2, q_spd hI.2.2.2.1 rfl rfl]
  exact ⟨_, rfl, rfl⟩
theorem q_tl_11 (hI : q_I D E W s l x y u v) : q_Tl s l x y u v 11 := q_tlE (a := (x 1).toInt64) (b := v 12) rfl rfl hI.2.2.1.1.1
theorem q_tl_14 (hI : q_I D E W s l x y u v) : q_Tl s l x y u v 14 := q_tlE (a := (x 11).toInt64) (b := v 3) rfl rfl hI.2.2.1.2.2.1.1
theorem q_tl_19 (hI : q_I D E W s l x y u v) : q_Tl s l x y u v 19 := q_tlB (a := s 28) rfl rfl
theorem q_tl_27 (hI : q_I D E W s l x y u v) : q_Tl s l x y u v 27 := q_tlB (a := s 29) rfl rfl
theorem q_tl_28 (hI : q_I D E W s l x y u v) : q_Tl s l x y u v 28 := q_tlB (a := s 36) rfl rfl
theorem q_tl_29 (hI : q_I D E W s l x y u v) : q_Tl s l x y u v 29 := q_tlB (a := s 37) rfl rfl
theorem q_tl_30 (hI : q_I D E W s l x y u v) : q_Tl s l x y u v 30 := by
  have h1 : pf_X11_tell 30 s l x y = pj_b (pj_b (pf_X11_bit (s 38) s l x y) (fun r4 s4 l4 x4 y4 => pj_b (pf_X11_bit (s4 39) s4 l4 x4 y4) (fun r5 s5 l5 x5 y5 => some ((r4 + (2 * r5)).toInt64, s5, l5, x5, y5)))) (fun r s l x y => some (r, s, l, x, y)) := rfl
  have h2 : pf_X12_aboutOf 30 s l u v = pj_b ((if s 38 = 0 then pl_X12_aboutLoop_169 0 s l u v else pl_X12_aboutLoop_169 1 s l u v)) (fun r s l x y => some (r, s, l, x, y)) := rfl
  unfold q_Tl
  rw [h1, h2, q_bit, q_b, q_bit, q_b, q_b]
  unfold pl_X12_aboutLoop_169 pl_X12_aboutLoop_183
  by_cases c : s 38 = 0
  · by_cases c2 : s 39 = 0
    · simp only [if_pos c, if_pos c2]; exact ⟨_, rfl, rfl⟩
    · simp only [if_pos c, if_neg c2]; exact ⟨_, rfl, rfl⟩
  · by_cases c2 : s 39 = 0
    · simp only [if_neg c, if_pos c2]; exact ⟨_, rfl, rfl⟩
    · simp only [if_neg c, if_neg c2]; exact ⟨_, rfl, rfl⟩
theorem q_tl_31 (hI : q_I D E W s l x y u v) : q_Tl s l x y u v 31 := q_tlB (a := s 40) rfl rfl
theorem q_tl_33 (hI : q_I D E W s l x y u v) : q_Tl s l x y u v 33 := by
  have h1 : pf_X11_tell 33 s l x y = pj_b (pj_b (pf_X11_cellAtHand  s l x y) (fun r7 s7 l7 x7 y7 => some (r7.toInt64, s7, l7, x7, y7))) (fun r s l x y => some (r, s, l, x, y)) := rfl
  have h2 : pf_X12_aboutOf 33 s l u v = pj_b (pj_b (pf_X12_cellNow  s l u v) (fun r1 s1 l1 x1 y1 => some (r1.toInt64, s1, l1, x1, y1))) (fun r s l x y => some (r, s, l, x, y)) := rfl
  unfold q_Tl
  rw [h1, h2, q_cellC, q_cellR hI.2.2.2.1 rfl rfl]
  exact ⟨_, rfl, rfl⟩
theorem q_tl_34 (hI : q_I D E W s l x y u v) : q_Tl s l x y u v 34 := by
  have cv := q_caV (x 5) (s 34004) (q_x5 hI.2.2.2.1).1
  exact ⟨_, q_tl34C 34 (by decide) (by decide) (by decide) (by decide) (by decide) (by decide) (by decide) (by decide) (by decide) (by decide) (by decide) (by decide) (by decide) (by decide) (by decide) (by decide) rfl cv, q_tl34R hI.2.2.2.1 34 (by decide) (by decide) (by decide) (by decide) (by decide) (by decide) (by decide) (by decide) (by decide) (by decide) (by decide) (by decide) (by decide) (by decide) (by decide) (by decide) rfl cv⟩
theorem q_tl_35 (hI : q_I D E W s l x y u v) : q_Tl s l x y u v 35 := q_tlB (a := s 96) rfl rfl
theorem q_tl_36 (hI : q_I D E W s l x y u v) : q_Tl s l x y u v 36 := q_tl36V 36 (by decide) (by decide) (by decide) rfl
theorem q_tl_38 (hI : q_I D E W s l x y u v) : q_Tl s l x y u v 38 := by
  have h1 : pf_X11_tell 38 s l x y = pj_b (pj_b (pf_X11_isLampOn  s l x y) (fun r1 s1 l1 x1 y1 => pj_b (pf_X11_bit r1 s1 l1 x1 y1) (fun r2 s2 l2 x2 y2 => some (r2.toInt64, s2, l2, x2, y2)))) (fun r s l x y => some (r, s, l, x, y)) := rfl
  have h2 : pf_X12_aboutOf 38 s l u v = pj_b (pj_b (pf_X12_lamp  s l u v) (fun r1 s1 l1 x1 y1 => (if r1 = 0 then some (0, s1, l1, x1, y1) else some (1, s1, l1, x1, y1)))) (fun r s l x y => some (r, s, l, x, y)) := rfl
  unfold q_Tl
  rw [h1, h2, q_lmC, q_b, q_lmR, q_b, q_bit, q_b]
  by_cases c : q_lm s = 0
  · rw [if_pos c, if_pos c]; exact ⟨_, rfl, rfl⟩
  · rw [if_neg c, if_neg c]; exact ⟨_, rfl, rfl⟩
theorem q_tl_40 (hI : q_I D E W s l x y u v) : q_Tl s l x y u v 40 := q_tlB (a := s 63) rfl rfl
theorem q_tl_41 (hI : q_I D E W s l x y u v) : q_Tl s l x y u v 41 := q_tlB (a := s 64) rfl rfl
theorem q_tl_48 (hI : q_I D E W s l x y u v) : q_Tl s l x y u v 48 := q_tlE (a := (x 3).toInt64) (b := v 2) rfl rfl hI.2.2.1.2.1.1
theorem q_tl_49 (hI : q_I D E W s l x y u v) : q_Tl s l x y u v 49 := by
  have h1 : pf_X11_tell 49 s l x y = pj_b (some ((x 3000).toInt64, s, l, x, y)) (fun r s l x y => some (r, s, l, x, y)) := rfl
  have h2 : pf_X12_aboutOf 49 s l u v = pj_b (pj_b (pf_X12_validCopy  s l u v) (fun r2 s2 l2 x2 y2 => (if r2 = (-1) then some (0, s2, l2, x2, y2) else pj_b (pf_X12_validCopy  s2 l2 x2 y2) (fun r3 s3 l3 x3 y3 => pj_g (55 * r3) 110 (some ((s3 (13000 + (55 * r3).toNatClampNeg)).toInt64, s3, l3, x3, y3)))))) (fun r s l x y => some (r, s, l, x, y)) := rfl
  have hd := q_hd (s := s)
  have vd := hI.2.2.2.2.2.2.2.2.2.1
  unfold q_Tl
  rw [h1, h2, q_b, q_validCopy, q_b, vd.2.1, ← hd.1]
  rcases hd.2 with c | c | c
  · rw [if_pos c, if_pos c]; exact ⟨_, rfl, rfl⟩
  · have n : ¬ q_val s = -1 := by rw [c]; decide
    rw [if_neg n, if_neg n, q_validCopy, q_b, c]; exact ⟨_, rfl, rfl⟩
  · have n : ¬ q_val s = -1 := by rw [c]; decide
    rw [if_neg n, if_neg n, q_validCopy, q_b, c]; exact ⟨_, rfl, rfl⟩
theorem q_tl_53 (hI : q_I D E W s l x y u v) : q_Tl s l x y u v 53 := by
  have h1 : pf_X11_tell 53 s l x y = pj_b (pj_b (pf_X11_isBraking  s l x y) (fun r1 s1 l1 x1 y1 => pj_b (pf_X11_bit r1 s1 l1 x1 y1) (fun r2 s2 l2 x2 y2 => some (r2.toInt64, s2, l2, x2, y2)))) (fun r s l x y => some (r, s, l, x, y)) := rfl
  have h2 : pf_X12_aboutOf 53 s l u v = pj_b (pj_b (pf_X12_braking  s l u v) (fun r1 s1 l1 x1 y1 => (if r1 = 0 then some (0, s1, l1, x1, y1) else some (1, s1, l1, x1, y1)))) (fun r s l x y => some (r, s, l, x, y)) := rfl
  unfold q_Tl
  rw [h1, h2, q_bqC, q_b, q_bqR, q_b, q_bit, q_b]
  by_cases c : q_bq s = 0
  · rw [if_pos c, if_pos c]; exact ⟨_, rfl, rfl⟩
  · rw [if_neg c, if_neg c]; exact ⟨_, rfl, rfl⟩
theorem q_tl_54 (hI : q_I D E W s l x y u v) : q_Tl s l x y u v 54 := q_tlB (a := s 86) rfl rfl
theorem q_tl_62 (hI : q_I D E W s l x y u v) : q_Tl s l x y u v 62 := q_tlB (a := s 7) rfl rfl
theorem q_tl_63 (hI : q_I D E W s l x y u v) : q_Tl s l x y u v 63 := q_tlE (a := (x 22).toInt64) (b := v 20) rfl rfl hI.2.2.1.2.2.2.1.1
theorem q_tl_65 (hI : q_I D E W s l x y u v) : q_Tl s l x y u v 65 := q_tlB (a := s 13) rfl rfl
theorem q_tl_66 (hI : q_I D E W s l x y u v) : q_Tl s l x y u v 66 := q_tl66V 66 (by decide) (by decide) (by decide) (by decide) (by decide) (by decide) (by decide) rfl
theorem q_tl_70 (hI : q_I D E W s l x y u v) : q_Tl s l x y u v 70 := by
  have h1 : pf_X11_tell 70 s l x y = pj_b (some ((x 3001).toInt64, s, l, x, y)) (fun r s l x y => some (r, s, l, x, y)) := rfl
  have h2 : pf_X12_aboutOf 70 s l u v = pj_b (pj_b (pf_X12_validBook  s l u v) (fun r1 s1 l1 x1 y1 => (if r1 = (-1) then some (0, s1, l1, x1, y1) else pj_b (pf_X12_validBook  s1 l1 x1 y1) (fun r2 s2 l2 x2 y2 => pj_g (34 * r2) 68 (some ((s2 (14000 + (34 * r2).toNatClampNeg)).toInt64, s2, l2, x2, y2)))))) (fun r s l x y => some (r, s, l, x, y)) := rfl
  have hd := q_hdB (s := s)
  have vd := hI.2.2.2.2.2.2.2.2.2.1
  unfold q_Tl
  rw [h1, h2, q_b, q_validBook, q_b, vd.2.2.2, ← hd.1]
  rcases hd.2 with c | c | c
  · rw [if_pos c, if_pos c]; exact ⟨_, rfl, rfl⟩
  · have n : ¬ q_valB s = -1 := by rw [c]; decide
    rw [if_neg n, if_neg n, q_validBook, q_b, c]; exact ⟨_, rfl, rfl⟩
  · have n : ¬ q_valB s = -1 := by rw [c]; decide
    rw [if_neg n, if_neg n, q_validBook, q_b, c]; exact ⟨_, rfl, rfl⟩
theorem q_tl_71 (hI : q_I D E W s l x y u v) : q_Tl s l x y u v 71 := by
  have a := q_R70 hI.1
  have z : (1 : Int32).toInt = 1 := rfl
  exact q_tlE (a := (s 70 + 1).toInt64) (b := (s 70).toInt64 + 1) rfl rfl (q_add64 (a := s 70) (b := 1) (by rw [z]; omega) (by rw [z]; omega))
theorem q_tl_72 (hI : q_I D E W s l x y u v) : q_Tl s l x y u v 72 := q_tlE (a := (s 2000).toInt64) (b := (s 2000).toInt64) rfl rfl rfl
theorem q_tl_73 (hI : q_I D E W s l x y u v) : q_Tl s l x y u v 73 := q_tlE (a := (s 2001).toInt64) (b := (s 2001).toInt64) rfl rfl rfl
theorem q_tl_74 (hI : q_I D E W s l x y u v) : q_Tl s l x y u v 74 := q_tlE (a := (s 2002).toInt64) (b := (s 2002).toInt64) rfl rfl rfl
theorem q_tl_75 (hI : q_I D E W s l x y u v) : q_Tl s l x y u v 75 := q_tlE (a := (s 2003).toInt64) (b := (s 2003).toInt64) rfl rfl rfl
theorem q_tl_78 (hI : q_I D E W s l x y u v) : q_Tl s l x y u v 78 := by
  have h1 : pf_X11_tell 78 s l x y = pj_b (some ((x 27).toInt64, s, l, x, y)) (fun r s l x y => some (r, s, l, x, y)) := rfl
  have h2 : pf_X12_aboutOf 78 s l u v = pj_b (pj_b (pf_X12_rowsKept  s l u v) (fun r3 s3 l3 x3 y3 => some (r3, s3, l3, x3, y3))) (fun r s l x y => some (r, s, l, x, y)) := rfl
  have rc := hI.2.2.2.2.2.2.2.2.1
  have z : (128 : Int64).toInt = 128 := rfl
  have e : (if v 30 < 128 then v 30 else 128) = (x 27).toInt64 := by
    rw [← Int64.toInt_inj, Int32.toInt_toInt64, rc.2.2.1]
    simp only [q_ifL, Int64.lt_iff_toInt_lt, z]
  unfold q_Tl
  rw [h1, h2, q_rows, e]
  exact ⟨_, rfl, rfl⟩
theorem q_tl_79 (hI : q_I D E W s l x y u v) : q_Tl s l x y u v 79 := q_tlB (a := s 4) rfl rfl
theorem q_tellP (hI : q_I D E W s l x y u v) {w : Nat} (hw : w < 80) : q_Tl s l x y u v (Int32.ofNat w) := by
  by_cases c0_80 : w < 40
  · skip
    by_cases c0_40 : w < 20
    · skip
      by_cases c0_20 : w < 10
      · skip
        by_cases c0_10 : w < 5
        · skip
          by_cases c0_5 : w < 2
          · skip
            by_cases c0_2 : w < 1
            · skip
              obtain rfl : w = 0 := by omega
              exact q_tl_0 hI
            · skip
              obtain rfl : w = 1 := by omega
              exact q_tl_1 hI
          · skip
            by_cases c2_5 : w < 3
            · skip
              obtain rfl : w = 2 := by omega
              exact q_tl_2 hI
            · skip
              by_cases c3_5 : w < 4
              · skip
                obtain rfl : w = 3 := by omega
                exact q_tl_3 hI
              · skip
                obtain rfl : w = 4 := by omega
                exact q_tl_4 hI
        · skip
          by_cases c5_10 : w < 7
          · skip
            by_cases c5_7 : w < 6
            · skip
              obtain rfl : w = 5 := by omega
              exact q_tl_5 hI
            · skip
              obtain rfl : w = 6 := by omega
              exact q_tl_6 hI
          · skip
            by_cases c7_10 : w < 8
            · skip
              obtain rfl : w = 7 := by omega
              exact q_tl_7 hI
            · skip
              by_cases c8_10 : w < 9
              · skip
                obtain rfl : w = 8 := by omega
                exact q_tl_8 hI
              · skip
                obtain rfl : w = 9 := by omega
                exact q_tl_9 hI
      · skip
        by_cases c10_20 : w < 15
        · skip
          by_cases c10_15 : w < 12
          · skip
            by_cases c10_12 : w < 11
            · skip
              obtain rfl : w = 10 := by omega
              exact q_tl_10 hI
            · skip
              obtain rfl : w = 11 := by omega
              exact q_tl_11 hI
          · skip
            by_cases c12_15 : w < 13
            · skip
              obtain rfl : w = 12 := by omega
              exact q_tl_12 hI
            · skip
              by_cases c13_15 : w < 14
              · skip
                obtain rfl : w = 13 := by omega
                exact q_tl_13 hI
              · skip
                obtain rfl : w = 14 := by omega
                exact q_tl_14 hI
        · skip
          by_cases c15_20 : w < 17
          · skip
            by_cases c15_17 : w < 16
            · skip
              obtain rfl : w = 15 := by omega
              exact q_tl_15 hI
            · skip
              obtain rfl : w = 16 := by omega
              exact q_tl_16 hI
          · skip
            by_cases c17_20 : w < 18
            · skip
              obtain rfl : w = 17 := by omega
              exact q_tl_17 hI
            · skip
              by_cases c18_20 : w < 19
              · skip
                obtain rfl : w = 18 := by omega
                exact q_tl_18 hI
              · skip
                obtain rfl : w = 19 := by omega
                exact q_tl_19 hI
    · skip
      by_cases c20_40 : w < 30
      · skip
        by_cases c20_30 : w < 25
        · skip
          by_cases c20_25 : w < 22
          · skip
            by_cases c20_22 : w < 21
            · skip
              obtain rfl : w = 20 := by omega
              exact q_tl_20 hI
            · skip
              obtain rfl : w = 21 := by omega
              exact q_tl_21 hI
          · skip
            by_cases c22_25 : w < 23
            · skip
              obtain rfl : w = 22 := by omega
              exact q_tl_22 hI
            · skip
              by_cases c23_25 : w < 24
              · skip
                obtain rfl : w = 23 := by omega
                exact q_tl_23 hI
              · skip
                obtain rfl : w = 24 := by omega
                exact q_tl_24 hI
        · skip
          by_cases c25_30 : w < 27
          · skip
            by_cases c25_27 : w < 26
            · skip
              obtain rfl : w = 25 := by omega
              exact q_tl_25 hI
            · skip
              obtain rfl : w = 26 := by omega
              exact q_tl_26 hI
          · skip
            by_cases c27_30 : w < 28
            · skip
              obtain rfl : w = 27 := by omega
              exact q_tl_27 hI
            · skip
              by_cases c28_30 : w < 29
              · skip
                obtain rfl : w = 28 := by omega
                exact q_tl_28 hI
              · skip
                obtain rfl : w = 29 := by omega
                exact q_tl_29 hI
      · skip
        by_cases c30_40 : w < 35
        · skip
          by_cases c30_35 : w < 32
          · skip
            by_cases c30_32 : w < 31
            · skip
              obtain rfl : w = 30 := by omega
              exact q_tl_30 hI
            · skip
              obtain rfl : w = 31 := by omega
              exact q_tl_31 hI
          · skip
            by_cases c32_35 : w < 33
            · skip
              obtain rfl : w = 32 := by omega
              exact q_tl_32 hI
            · skip
              by_cases c33_35 : w < 34
              · skip
                obtain rfl : w = 33 := by omega
                exact q_tl_33 hI
              · skip
                obtain rfl : w = 34 := by omega
                exact q_tl_34 hI
        · skip
          by_cases c35_40 : w < 37
          · skip
            by_cases c35_37 : w < 36
            · skip
              obtain rfl : w = 35 := by omega
              exact q_tl_35 hI
            · skip
              obtain rfl : w = 36 := by omega
              exact q_tl_36 hI
          · skip
            by_cases c37_40 : w < 38
            · skip
              obtain rfl : w = 37 := by omega
              exact q_tl_37 hI
            · skip
              by_cases c38_40 : w < 39
              · skip
                obtain rfl : w = 38 := by omega
                exact q_tl_38 hI
              · skip
                obtain rfl : w = 39 := by omega
                exact q_tl_39 hI
  · skip
    by_cases c40_80 : w < 60
    · skip
      by_cases c40_60 : w < 50
      · skip
        by_cases c40_50 : w < 45
        · skip
          by_cases c40_45 : w < 42
          · skip
            by_cases c40_42 : w < 41
            · skip
              obtain rfl : w = 40 := by omega
              exact q_tl_40 hI
            · skip
              obtain rfl : w = 41 := by omega
              exact q_tl_41 hI
          · skip
            by_cases c42_45 : w < 43
            · skip
              obtain rfl : w = 42 := by omega
              exact q_tl_42 hI
            · skip
              by_cases c43_45 : w < 44
              · skip
                obtain rfl : w = 43 := by omega
                exact q_tl_43 hI
              · skip
                obtain rfl : w = 44 := by omega
                exact q_tl_44 hI
        · skip
          by_cases c45_50 : w < 47
          · skip
            by_cases c45_47 : w < 46
            · skip
              obtain rfl : w = 45 := by omega
              exact q_tl_45 hI
            · skip
              obtain rfl : w = 46 := by omega
              exact q_tl_46 hI
          · skip
            by_cases c47_50 : w < 48
            · skip
              obtain rfl : w = 47 := by omega
              exact q_tl_47 hI
            · skip
              by_cases c48_50 : w < 49
              · skip
                obtain rfl : w = 48 := by omega
                exact q_tl_48 hI
              · skip
                obtain rfl : w = 49 := by omega
                exact q_tl_49 hI
      · skip
        by_cases c50_60 : w < 55
        · skip
          by_cases c50_55 : w < 52
          · skip
            by_cases c50_52 : w < 51
            · skip
              obtain rfl : w = 50 := by omega
              exact q_tl_50 hI
            · skip
              obtain rfl : w = 51 := by omega
              exact q_tl_51 hI
          · skip
            by_cases c52_55 : w < 53
            · skip
              obtain rfl : w = 52 := by omega
              exact q_tl_52 hI
            · skip
              by_cases c53_55 : w < 54
              · skip
                obtain rfl : w = 53 := by omega
                exact q_tl_53 hI
              · skip
                obtain rfl : w = 54 := by omega
                exact q_tl_54 hI
        · skip
          by_cases c55_60 : w < 57
          · skip
            by_cases c55_57 : w < 56
            · skip
              obtain rfl : w = 55 := by omega
              exact q_tl_55 hI
            · skip
              obtain rfl : w = 56 := by omega
              exact q_tl_56 hI
          · skip
            by_cases c57_60 : w < 58
            · skip
              obtain rfl : w = 57 := by omega
              exact q_tl_57 hI
            · skip
              by_cases c58_60 : w < 59
              · skip
                obtain rfl : w = 58 := by omega
                exact q_tl_58 hI
              · skip
                obtain rfl : w = 59 := by omega
                exact q_tl_59 hI
    · skip
      by_cases c60_80 : w < 70
      · skip
        by_cases c60_70 : w < 65
        · skip
          by_cases c60_65 : w < 62
          · skip
            by_cases c60_62 : w < 61
            · skip
              obtain rfl : w = 60 := by omega
              exact q_tl_60 hI
            · skip
              obtain rfl : w = 61 := by omega
              exact q_tl_61 hI
          · skip
            by_cases c62_65 : w < 63
            · skip
              obtain rfl : w = 62 := by omega
              exact q_tl_62 hI
            · skip
              by_cases c63_65 : w < 64
              · skip
                obtain rfl : w = 63 := by omega
                exact q_tl_63 hI
              · skip
                obtain rfl : w = 64 := by omega
                exact q_tl_64 hI
        · skip
          by_cases c65_70 : w < 67
          · skip
            by_cases c65_67 : w < 66
            · skip
              obtain rfl : w = 65 := by omega
              exact q_tl_65 hI
            · skip
              obtain rfl : w = 66 := by omega
              exact q_tl_66 hI
          · skip
            by_cases c67_70 : w < 68
            · skip
              obtain rfl : w = 67 := by omega
              exact q_tl_67 hI
            · skip
              by_cases c68_70 : w < 69
              · skip
                obtain rfl : w = 68 := by omega
                exact q_tl_68 hI
              · skip
                obtain rfl : w = 69 := by omega
                exact q_tl_69 hI
      · skip
        by_cases c70_80 : w < 75
        · skip
          by_cases c70_75 : w < 72
          · skip
            by_cases c70_72 : w < 71
            · skip
              obtain rfl : w = 70 := by omega
              exact q_tl_70 hI
            · skip
              obtain rfl : w = 71 := by omega
              exact q_tl_71 hI
          · skip
            by_cases c72_75 : w < 73
            · skip
              obtain rfl : w = 72 := by omega
              exact q_tl_72 hI
            · skip
              by_cases c73_75 : w < 74
              · skip
                obtain rfl : w = 73 := by omega
                exact q_tl_73 hI
              · skip
                obtain rfl : w = 74 := by omega
                exact q_tl_74 hI
        · skip
          by_cases c75_80 : w < 77
          · skip
            by_cases c75_77 : w < 76
            · skip
              obtain rfl : w = 75 := by omega
              exact q_tl_75 hI
            · skip
              obtain rfl : w = 76 := by omega
              exact q_tl_76 hI
          · skip
            by_cases c77_80 : w < 78
            · skip
              obtain rfl : w = 77 := by omega
              exact q_tl_77 hI
            · skip
              by_cases c78_80 : w < 79
              · skip
                obtain rfl : w = 78 := by omega
                exact q_tl_78 hI
              · skip
                obtain rfl : w = 79 := by omega
                exact q_tl_79 hI
end QAB

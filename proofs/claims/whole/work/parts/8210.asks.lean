/-! PURE: the face: what is told -/
section QAS
variable {s x u s' x' u' : Nat → Int32} {l y v l' y' v' : Nat → Int64} {D E W : Int} {fu f k n c : Nat} {t : Int64} {a b d : Int32}
theorem q_ltN {n : Nat} {m : Int32} (hm : m.toInt = (n : Int)) (hn : n + 1 < 2147483648) {N : Int32} (hN : N = Int32.ofNat (n + 1)) (h : a < 0 ∨ ¬ a < N) : a < 0 ∨ m < a := h.imp id (fun z => (q_lt9 hm hn).mpr (by rw [← hN]; exact z))
theorem q_ltM {n : Nat} {m : Int32} (hm : m.toInt = (n : Int)) (hn : n + 1 < 2147483648) {N : Int32} (hN : N = Int32.ofNat (n + 1)) (h : a < N) : ¬ m < a := fun z => (q_lt9 hm hn).mp z (by rw [← hN]; exact h)
-- word, page
theorem q_mul55 {m i j : Nat} (hi : i < 2) (hj : j < m) (hm : m < 1000) : Int32.ofNat m * Int32.ofNat i + Int32.ofNat j = Int32.ofNat (m * i + j) := by
  rw [← Int32.ofNat_mul, ← Int32.ofNat_add]
theorem q_noW : pf_X12_noWord a b s l u v = some (if (if a < 0 then (0 : Int32) else if 1 < a then 0 else 1) = 0 then 1 else if (if b < 0 then (0 : Int32) else if 54 < b then 0 else 1) = 0 then 1 else 0, s, l, u, v) := by
  have q1 : pf_X12_isIn a.toInt64 0 1 s l u v = some (if a < 0 then 0 else if 1 < a then 0 else 1, s, l, u, v) := q_isI a 0 1
  have q2 : pf_X12_isIn b.toInt64 0 54 s l u v = some (if b < 0 then 0 else if 54 < b then 0 else 1, s, l, u, v) := q_isI b 0 54
  unfold pf_X12_noWord pl_X12_noWord_22
  rw [q1, q_b, q2, q_b]
  generalize (if a < 0 then (0 : Int32) else if 1 < a then 0 else 1) = p
  generalize (if b < 0 then (0 : Int32) else if 54 < b then 0 else 1) = q
  by_cases c : p = 0
  · rw [if_pos c, if_pos c]
  · rw [if_neg c, if_neg c]
    by_cases d : q = 0
    · rw [if_pos d, if_pos d]
    · rw [if_neg d, if_neg d]
theorem q_noP : pf_X12_noPage a b s l u v = some (if (if a < 0 then (0 : Int32) else if 1 < a then 0 else 1) = 0 then 1 else if (if b < 0 then (0 : Int32) else if 33 < b then 0 else 1) = 0 then 1 else 0, s, l, u, v) := by
  have q1 : pf_X12_isIn a.toInt64 0 1 s l u v = some (if a < 0 then 0 else if 1 < a then 0 else 1, s, l, u, v) := q_isI a 0 1
  have q2 : pf_X12_isIn b.toInt64 0 33 s l u v = some (if b < 0 then 0 else if 33 < b then 0 else 1, s, l, u, v) := q_isI b 0 33
  unfold pf_X12_noPage pl_X12_noPage_22
  rw [q1, q_b, q2, q_b]
  generalize (if a < 0 then (0 : Int32) else if 1 < a then 0 else 1) = p
  generalize (if b < 0 then (0 : Int32) else if 33 < b then 0 else 1) = q
  by_cases c : p = 0
  · rw [if_pos c, if_pos c]
  · rw [if_neg c, if_neg c]
    by_cases d : q = 0
    · rw [if_pos d, if_pos d]
    · rw [if_neg d, if_neg d]
theorem q_2N (h1 : ¬ a < 0) (h2 : ¬ 1 < a) : ∃ i : Nat, i < 2 ∧ a = Int32.ofNat i := by
  rcases q_01 h1 h2 with c | c
  · exact ⟨0, by omega, c⟩
  · exact ⟨1, by omega, c⟩
theorem q_F_word (hV : q_V k s l x y u v) (h1 : ¬ a < 0) (h2 : ¬ 1 < a) (h3 : ¬ b < 0) (h4 : b < 55) : q_Fa (k + 1) (pf_X11_word a b s l x y) (pf_X12_word a b s l u v) := by
  have h5 : ¬ 54 < b := q_ltM (n := 54) rfl (by omega) rfl h4
  unfold pf_X12_word pf_X11_word pl_X12_word_14
  rw [q_noW, q_b, q_in1 h1 h2, if_neg q_n10, q_in1 h3 h5, if_neg q_n10, if_pos rfl, if_neg q_l00, if_neg h1, if_neg h2, if_neg h3, if_pos h4]
  obtain ⟨i, hi, rfl⟩ := q_2N h1 h2
  obtain ⟨j, hj, rfl⟩ := q_inN (n := 55) h3 h4 (by omega)
  have e : (55 : Int32) * Int32.ofNat i + Int32.ofNat j = Int32.ofNat (55 * i + j) := q_mul55 (m := 55) hi hj (by omega)
  rw [e, q_g hi (by omega), q_onC (by omega), q_r hi, q_g hj (by omega), q_onC (by omega), q_g (by omega) (by omega), q_onC (by omega), show 13000 + (55 * i + j) = 13000 + 55 * i + j by omega]
  exact q_Fa_s _ s rfl rfl (q_V_s hV)
theorem q_F_word0 (hV : q_V k s l x y u v) (h : (a < 0 ∨ 1 < a) ∨ (b < 0 ∨ ¬ b < 55)) : q_Rf (k + 1) 1 s l x y (pf_X12_word a b s l u v) := by
  unfold pf_X12_word pl_X12_word_14
  have e : (if (if a < 0 then (0 : Int32) else if 1 < a then 0 else 1) = 0 then (1 : Int32) else if (if b < 0 then (0 : Int32) else if 54 < b then 0 else 1) = 0 then 1 else 0) = 1 := by
    rcases h with h | h
    · rw [q_in0 h, if_pos rfl]
    · rw [q_in0 (q_ltN (n := 54) (m := 54) rfl (by omega) (N := 55) rfl h)]
      generalize (if a < 0 then (0 : Int32) else if 1 < a then 0 else 1) = p
      rw [if_pos rfl]; split <;> rfl
  rw [q_noW, q_b, e, if_neg q_n10, if_pos q_l01]
  exact q_Rf_s 0 1 rfl hV
theorem q_F_page (hV : q_V k s l x y u v) (h1 : ¬ a < 0) (h2 : ¬ 1 < a) (h3 : ¬ b < 0) (h4 : b < 34) : q_Fa (k + 1) (pf_X11_page a b s l x y) (pf_X12_page a b s l u v) := by
  have h5 : ¬ 33 < b := q_ltM (n := 33) rfl (by omega) rfl h4
  unfold pf_X12_page pf_X11_page pl_X12_page_14
  rw [q_noP, q_b, q_in1 h1 h2, if_neg q_n10, q_in1 h3 h5, if_neg q_n10, if_pos rfl, if_neg q_l00, if_neg h1, if_neg h2, if_neg h3, if_pos h4]
  obtain ⟨i, hi, rfl⟩ := q_2N h1 h2
  obtain ⟨j, hj, rfl⟩ := q_inN (n := 34) h3 h4 (by omega)
  have e : (34 : Int32) * Int32.ofNat i + Int32.ofNat j = Int32.ofNat (34 * i + j) := q_mul55 (m := 34) hi hj (by omega)
  rw [e, q_g hi (by omega), q_onC (by omega), q_r hi, q_g hj (by omega), q_onC (by omega), q_g (by omega) (by omega), q_onC (by omega), show 14000 + (34 * i + j) = 14000 + 34 * i + j by omega]
  exact q_Fa_s _ s rfl rfl (q_V_s hV)
theorem q_F_page0 (hV : q_V k s l x y u v) (h : (a < 0 ∨ 1 < a) ∨ (b < 0 ∨ ¬ b < 34)) : q_Rf (k + 1) 1 s l x y (pf_X12_page a b s l u v) := by
  unfold pf_X12_page pl_X12_page_14
  have e : (if (if a < 0 then (0 : Int32) else if 1 < a then 0 else 1) = 0 then (1 : Int32) else if (if b < 0 then (0 : Int32) else if 33 < b then 0 else 1) = 0 then 1 else 0) = 1 := by
    rcases h with h | h
    · rw [q_in0 h, if_pos rfl]
    · rw [q_in0 (q_ltN (n := 33) (m := 33) rfl (by omega) (N := 34) rfl h)]
      generalize (if a < 0 then (0 : Int32) else if 1 < a then 0 else 1) = p
      rw [if_pos rfl]; split <;> rfl
  rw [q_noP, q_b, e, if_neg q_n10, if_pos q_l01]
  exact q_Rf_s 0 1 rfl hV
-- lineAt
theorem q_F_lineAt (hV : q_V k s l x y u v) (h1 : ¬ a < 0) (h2 : a < 13) : q_Fa (k + 1) (pf_X11_lineAt a b s l x y) (pf_X12_lineAt a b s l u v) := by
  have h3 : ¬ 12 < a := q_ltM (n := 12) rfl (by omega) rfl h2
  have q1 : pf_X12_isIn a.toInt64 0 12 s l u v = some (if a < 0 then 0 else if 12 < a then 0 else 1, s, l, u, v) := q_isI a 0 12
  unfold pf_X11_lineAt pf_X12_lineAt pl_X12_lineAt_18
  rw [q1, q_b, q_in1 h1 h3, if_neg q_n10, if_neg q_l00, if_neg h1, if_pos h2]
  obtain ⟨i, hi, rfl⟩ := q_inN (n := 13) h1 h2 (by omega)
  have hL := hV.1.2.1
  have hl : ∃ n, q_isLn s i n (-10000) := by
    by_cases c : i < 12
    · exact hL.1 i c
    · have e : i = 12 := by omega
      obtain ⟨n, m1, m2, m3, m4, m5⟩ := hL.2.1
      rw [e]
      exact ⟨n, m1, m2, m3, m4, fun j hj => ⟨(m5 j hj).1, (m5 j hj).2.1, by have := (m5 j hj).2.2.1; omega, (m5 j hj).2.2.2⟩⟩
  obtain ⟨n, hl⟩ := hl
  obtain ⟨r, F, G, -⟩ := q_lineValue (l := l) (x := x) (y := y) (u := pj_u u 1 0) (v := v) (by omega) hi hl b
  rw [F, q_b, G, q_b]
  exact q_Fa_s r s rfl rfl (q_V_s hV)
theorem q_F_lineAt0 (hV : q_V k s l x y u v) (h : a < 0 ∨ ¬ a < 13) : q_Rf (k + 1) 1 s l x y (pf_X12_lineAt a b s l u v) := by
  have h := q_ltN (n := 12) (m := 12) rfl (by omega) (N := 13) rfl h
  have q1 : pf_X12_isIn a.toInt64 0 12 s l u v = some (if a < 0 then 0 else if 12 < a then 0 else 1, s, l, u, v) := q_isI a 0 12
  unfold pf_X12_lineAt pl_X12_lineAt_18
  rw [q1, q_b, q_in0 h, if_pos rfl, if_pos q_l01]
  exact q_Rf_s 0 1 rfl hV
-- value
theorem q_F_value (hV : q_V k s l x y u v) (h1 : ¬ a < 0) (h2 : ¬ 1 < a) : q_Fa (k + 1) (pf_X11_value a b d s l x y) (pf_X12_value a b d s l u v) := by
  have q1 : pf_X12_isIn a.toInt64 0 1 s l u v = some (if a < 0 then 0 else if 1 < a then 0 else 1, s, l, u, v) := q_isI a 0 1
  unfold pf_X11_value pf_X12_value pl_X12_value_16
  rw [q1, q_b, q_in1 h1 h2, if_neg q_n10, if_neg q_l00, if_neg h1, if_neg h2]
  obtain ⟨i, hi, rfl⟩ := q_2N h1 h2
  obtain ⟨r, F, G, -⟩ := q_mapP (s := s) (l := l) (x := x) (y := y) (u := pj_u u 1 0) (v := v) hi hV.1.2.1 hV.1.1 b d
  rw [F, q_b, G, q_b]
  exact q_Fa_s r s rfl rfl (q_V_s hV)
theorem q_F_value0 (hV : q_V k s l x y u v) (h : a < 0 ∨ 1 < a) : q_Rf (k + 1) 1 s l x y (pf_X12_value a b d s l u v) := by
  have q1 : pf_X12_isIn a.toInt64 0 1 s l u v = some (if a < 0 then 0 else if 1 < a then 0 else 1, s, l, u, v) := q_isI a 0 1
  unfold pf_X12_value pl_X12_value_16
  rw [q1, q_b, q_in0 h, if_pos rfl, if_pos q_l01]
  exact q_Rf_s 0 1 rfl hV
-- about
theorem q_F_about (hV : q_V k s l x y u v) (h1 : ¬ a < 0) (h2 : a < 80) : q_Fa (k + 1) (pf_X11_about a s l x y) (pf_X12_about a s l u v) := by
  have h3 : ¬ 79 < a := q_ltM (n := 79) rfl (by omega) rfl h2
  have q1 : pf_X12_isIn a.toInt64 0 79 s l u v = some (if a < 0 then 0 else if 79 < a then 0 else 1, s, l, u, v) := q_isI a 0 79
  unfold pf_X11_about pf_X12_about pl_X12_about_18
  rw [q1, q_b, q_in1 h1 h3, if_neg q_n10, if_neg q_l00, if_neg h1, if_pos h2]
  obtain ⟨i, hi, rfl⟩ := q_inN (n := 80) h1 h2 (by omega)
  obtain ⟨r, F, G⟩ := q_tellP hV.1 hi
  rw [F, q_b, G, q_b]
  exact q_Fa_s r s rfl rfl (q_V_s hV)
theorem q_F_about0 (hV : q_V k s l x y u v) (h : a < 0 ∨ ¬ a < 80) : q_Rf (k + 1) 1 s l x y (pf_X12_about a s l u v) := by
  have h := q_ltN (n := 79) (m := 79) rfl (by omega) (N := 80) rfl h
  have q1 : pf_X12_isIn a.toInt64 0 79 s l u v = some (if a < 0 then 0 else if 79 < a then 0 else 1, s, l, u, v) := q_isI a 0 79
  unfold pf_X12_about pl_X12_about_18
  rw [q1, q_b, q_in0 h, if_pos rfl, if_pos q_l01]
  exact q_Rf_s 0 1 rfl hV
-- comes
theorem q_F_comes (hV : q_V k s l x y u v) (h1 : ¬ a < 0) (h2 : a < 7200) (h19 : s 19 = 3) : q_Fa (k + 1) (pf_X11_comes a s l x y) (pf_X12_comes a s l u v) := by
  have h3 : ¬ 7199 < a := q_ltM (n := 7199) rfl (by omega) rfl h2
  have q1 : pf_X12_isIn a.toInt64 0 7199 s l u v = some (if a < 0 then 0 else if 7199 < a then 0 else 1, s, l, u, v) := q_isI a 0 7199
  have w := hV.1.2.2.2.1
  obtain ⟨e6, e7⟩ := w.2.2.2.1 (by rw [h19]; decide)
  unfold pf_X11_comes pf_X12_comes pl_X12_comes_30
  rw [q1, q_b, q_in1 h1 h3, if_neg q_n10, if_pos h19, if_neg q_l00, if_neg h1, if_pos h2, if_pos h19, q_comesC, q_b, q_comesR (x := x) a w.1.2.1 w.1.1 e6.symm e7.symm, q_b]
  exact q_Fa_s _ s rfl rfl (q_V_s hV)
theorem q_F_comes1 (hV : q_V k s l x y u v) (h : a < 0 ∨ ¬ a < 7200) : q_Rf (k + 1) 1 s l x y (pf_X12_comes a s l u v) := by
  have h := q_ltN (n := 7199) (m := 7199) rfl (by omega) (N := 7200) rfl h
  have q1 : pf_X12_isIn a.toInt64 0 7199 s l u v = some (if a < 0 then 0 else if 7199 < a then 0 else 1, s, l, u, v) := q_isI a 0 7199
  unfold pf_X12_comes pl_X12_comes_30
  rw [q1, q_b, q_in0 h, if_pos rfl, if_pos q_l01]
  exact q_Rf_s 0 1 rfl hV
theorem q_F_comes2 (hV : q_V k s l x y u v) (h1 : ¬ a < 0) (h2 : a < 7200) (h19 : ¬ s 19 = 3) : q_Rf (k + 1) 2 s l x y (pf_X12_comes a s l u v) := by
  have h3 : ¬ 7199 < a := q_ltM (n := 7199) rfl (by omega) rfl h2
  have q1 : pf_X12_isIn a.toInt64 0 7199 s l u v = some (if a < 0 then 0 else if 7199 < a then 0 else 1, s, l, u, v) := q_isI a 0 7199
  unfold pf_X12_comes pl_X12_comes_30
  rw [q1, q_b, q_in1 h1 h3, if_neg q_n10, if_neg h19, if_pos q_l02]
  exact q_Rf_s 0 2 rfl hV
end QAS

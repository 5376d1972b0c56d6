/-! PURE: the face: rows of numbers -/
section QRW
variable {s x u s' x' u' : Nat → Int32} {l y v l' y' v' : Nat → Int64} {D E W : Int} {fu f k n c : Nat} {t : Int64} {a b d e : Int32}
-- byteOf
theorem q_subOne {n : Int32} (h : 0 ≤ n.toInt) : ((n - 1).toInt64 < a.toInt64) ↔ ¬ a < n := by
  have o : (1 : Int32).toInt = 1 := rfl
  have := Int32.toInt_lt n
  rw [Int64.lt_iff_toInt_lt, Int32.toInt_toInt64, Int32.toInt_toInt64, Int32.lt_iff_toInt_lt, q_sub (by rw [o]; omega) (by rw [o]; omega), o]
  omega
theorem q_isIn0 {n : Int32} (hn : 0 ≤ n.toInt) : pf_X12_isIn a.toInt64 0 (n - 1).toInt64 s l u v = some (if a < 0 then 0 else if ¬ a < n then 0 else 1, s, l, u, v) := by
  rw [q_isIn]
  have e1 : (a.toInt64 < 0) ↔ a < 0 := by
    rw [Int64.lt_iff_toInt_lt, Int32.toInt_toInt64, Int32.lt_iff_toInt_lt]; exact Iff.rfl
  have e2 := q_subOne (a := a) hn
  by_cases c : a < 0
  · rw [if_pos c, if_pos (e1.mpr c)]
  · rw [if_neg c, if_neg (fun z => c (e1.mp z))]
    by_cases d : a < n
    · rw [if_neg (fun z => (e2.mp z) d), if_neg (fun z => z d)]
    · rw [if_pos (e2.mpr d), if_pos d]
theorem q_F_byteOf (hV : q_V k s l x y u v) (h1 : ¬ a < 0) (h2 : a < s 69) (h3 : a < 600) : q_Fa (k + 1) (pf_X11_byteOf a s l x y) (pf_X12_byteOf a s l u v) := by
  unfold pf_X11_byteOf pf_X12_byteOf pl_X12_byteOf_22
  have e1 : (if a < 0 then (0 : Int32) else if ¬ a < s 69 then 0 else 1) = 1 := by rw [if_neg h1, if_neg (fun z => z h2)]
  rw [q_isIn0 (q_R69 hV.1.1).1, q_b, e1, if_neg q_n10, if_neg q_l00, if_neg h1, if_pos h2, if_pos h3]
  obtain ⟨i, hi, rfl⟩ := q_inN (n := 600) h1 h3 (by omega)
  rw [q_g hi (by omega), q_g hi (by omega)]
  exact q_Fa_s _ s rfl rfl (q_V_s hV)
theorem q_F_byteOf0 (hV : q_V k s l x y u v) (h : (a < 0 ∨ ¬ a < s 69) ∨ ¬ a < 600) : q_Rf (k + 1) 1 s l x y (pf_X12_byteOf a s l u v) := by
  have r := q_R69 hV.1.1
  have h : a < 0 ∨ ¬ a < s 69 := by
    rcases h with h | h
    · exact h
    · refine Or.inr (fun z => h ?_)
      rw [Int32.lt_iff_toInt_lt] at z ⊢
      have o : (600 : Int32).toInt = 600 := rfl
      rw [o]; omega
  unfold pf_X12_byteOf pl_X12_byteOf_22
  have e : (if a < 0 then (0 : Int32) else if ¬ a < s 69 then 0 else 1) = 0 := by
    by_cases c : a < 0
    · rw [if_pos c]
    · rw [if_neg c, if_pos (h.resolve_left c)]
  rw [q_isIn0 r.1, q_b, e, if_pos rfl, if_pos q_l01]
  exact q_Rf_s 0 1 rfl hV
-- channel
theorem q_in3 (h1 : ¬ a < 0) (h2 : ¬ 3 < a) : a = 0 ∨ a = 1 ∨ a = 2 ∨ a = 3 := by
  rw [Int32.lt_iff_toInt_lt] at h1 h2
  have o : (0 : Int32).toInt = 0 := rfl
  have o3 : (3 : Int32).toInt = 3 := rfl
  have : a.toInt = 0 ∨ a.toInt = 1 ∨ a.toInt = 2 ∨ a.toInt = 3 := by omega
  rcases this with z | z | z | z
  · exact Or.inl (by rw [← Int32.toInt_inj, z]; rfl)
  · exact Or.inr (Or.inl (by rw [← Int32.toInt_inj, z]; rfl))
  · exact Or.inr (Or.inr (Or.inl (by rw [← Int32.toInt_inj, z]; rfl)))
  · exact Or.inr (Or.inr (Or.inr (by rw [← Int32.toInt_inj, z]; rfl)))
theorem q_F_channel (hV : q_V k s l x y u v) (h1 : ¬ a < 0) (h2 : a < 10) (h3 : ¬ b < 0) (h4 : ¬ 3 < b) : q_Fa (k + 1) (pf_X11_channel a b s l x y) (pf_X12_channel a b s l u v) := by
  have h9 : ¬ 9 < a := q_ltM (n := 9) rfl (by omega) rfl h2
  have q1 : pf_X12_isIn a.toInt64 0 9 s l u v = some (if a < 0 then 0 else if 9 < a then 0 else 1, s, l, u, v) := q_isI a 0 9
  have q2 : pf_X12_isIn b.toInt64 0 3 s l u v = some (if b < 0 then 0 else if 3 < b then 0 else 1, s, l, u, v) := q_isI b 0 3
  unfold pf_X11_channel pf_X12_channel pl_X12_channel_30
  rw [q1, q_b, q_in1 h1 h9, if_neg q_n10, q2, q_b, q_in1 h3 h4, if_neg q_n10, if_neg q_l00, if_neg h1, if_pos h2, if_neg h3, if_neg h4]
  obtain ⟨i, hi, rfl⟩ := q_inN (n := 10) h1 h2 (by omega)
  simp only [q_g hi (show 10 < 2147483648 by omega), q_onC (show i < 2147483648 by omega)]
  rcases q_in3 h3 h4 with z | z | z | z
  · rw [if_pos z, if_pos z]
    exact q_Fa_s _ s rfl rfl (q_V_s hV)
  · have n0 : ¬ b = 0 := by rw [z]; decide
    rw [if_neg n0, if_neg n0, if_pos z, if_pos z]
    exact q_Fa_s _ s rfl rfl (q_V_s hV)
  · have n0 : ¬ b = 0 := by rw [z]; decide
    have n1 : ¬ b = 1 := by rw [z]; decide
    rw [if_neg n0, if_neg n0, if_neg n1, if_neg n1, if_pos z, if_pos z]
    exact q_Fa_s _ s rfl rfl (q_V_s hV)
  · have n0 : ¬ b = 0 := by rw [z]; decide
    have n1 : ¬ b = 1 := by rw [z]; decide
    have n2 : ¬ b = 2 := by rw [z]; decide
    rw [if_neg n0, if_neg n0, if_neg n1, if_neg n1, if_neg n2, if_neg n2]
    unfold pf_X11_bit
    by_cases c : s (36000 + i) = 0
    · rw [if_pos c, if_pos c, q_b]
      exact q_Fa_s _ s rfl rfl (q_V_s hV)
    · rw [if_neg c, if_neg c, q_b]
      exact q_Fa_s _ s rfl rfl (q_V_s hV)
theorem q_F_channel0 (hV : q_V k s l x y u v) (h : (a < 0 ∨ ¬ a < 10) ∨ (b < 0 ∨ 3 < b)) : q_Rf (k + 1) 1 s l x y (pf_X12_channel a b s l u v) := by
  have q1 : pf_X12_isIn a.toInt64 0 9 s l u v = some (if a < 0 then 0 else if 9 < a then 0 else 1, s, l, u, v) := q_isI a 0 9
  have q2 : pf_X12_isIn b.toInt64 0 3 s l u v = some (if b < 0 then 0 else if 3 < b then 0 else 1, s, l, u, v) := q_isI b 0 3
  unfold pf_X12_channel pl_X12_channel_25 pl_X12_channel_30
  rw [q1, q_b, if_pos q_l01]
  by_cases c : (if a < 0 then (0 : Int32) else if 9 < a then 0 else 1) = 0
  · rw [if_pos c]
    exact q_Rf_s 0 1 rfl hV
  · rw [if_neg c, q2, q_b, q_in0 (h.resolve_left (fun z => c (q_in0 (q_ltN (n := 9) (m := 9) rfl (by omega) (N := 10) rfl z)))), if_pos rfl]
    exact q_Rf_s 0 1 rfl hV
-- frame
theorem q_F_frame (hV : q_V k s l x y u v) (h1 : ¬ a < 0) (h2 : ¬ 7 < a) : q_Fa (k + 1) (pf_X11_frame a s l x y) (pf_X12_frame a s l u v) := by
  have q1 : pf_X12_isIn a.toInt64 0 7 s l u v = some (if a < 0 then 0 else if 7 < a then 0 else 1, s, l, u, v) := q_isI a 0 7
  have h8 : a < Int32.ofNat 8 := by
    rw [Int32.lt_iff_toInt_lt] at h2 ⊢
    have o : (7 : Int32).toInt = 7 := rfl
    rw [q_onI (by omega)]; omega
  unfold pf_X11_frame pf_X12_frame pl_X12_frame_18
  rw [q1, q_b, q_in1 h1 h2, if_neg q_n10, if_neg q_l00, if_neg h1, if_neg h2]
  obtain ⟨i, hi, rfl⟩ := q_inN (n := 8) h1 h8 (by omega)
  by_cases c : s 87 = 0
  · rw [if_pos c, if_pos c]
    exact q_Fa_s _ s rfl rfl (q_V_s hV)
  · rw [if_neg c, if_neg c, q_g hi (by omega), q_g hi (by omega), q_onC (by omega)]
    have e := ((hV.1.2.2.2.2.2.2.2.1).1 c).1 i hi
    rw [e]
    exact q_Fa_s _ s rfl rfl (q_V_s hV)
theorem q_F_frame0 (hV : q_V k s l x y u v) (h : a < 0 ∨ 7 < a) : q_Rf (k + 1) 1 s l x y (pf_X12_frame a s l u v) := by
  have q1 : pf_X12_isIn a.toInt64 0 7 s l u v = some (if a < 0 then 0 else if 7 < a then 0 else 1, s, l, u, v) := q_isI a 0 7
  unfold pf_X12_frame pl_X12_frame_18
  rw [q1, q_b, q_in0 h, if_pos rfl, if_pos q_l01]
  exact q_Rf_s 0 1 rfl hV
-- noise
theorem q_F_noise (hV : q_V k s l x y u v) (h1 : ¬ a < 0) (h2 : ¬ 300 < a) : q_Fa (k + 1) (pf_X11_noise a s l x y) (pf_X12_noise a s l u v) := by
  have q1 : pf_X12_isIn a.toInt64 0 300 s l u v = some (if a < 0 then 0 else if 300 < a then 0 else 1, s, l, u, v) := q_isI a 0 300
  obtain ⟨a1, a2, -⟩ := q_inr h1 h2
  have o3 : (300 : Int32).toInt = 300 := rfl
  rw [o3] at a2
  unfold pf_X11_noise pf_X12_noise pl_X12_noise_18
  rw [q1, q_b, q_in1 h1 h2, if_neg q_n10, if_neg q_l00, if_neg h1, if_neg h2]
  by_cases c : s 94 = 0
  · rw [if_pos c, if_pos c]
    exact q_Fa_s _ s rfl rfl (q_V_s hV)
  · rw [if_neg c, if_neg c]
    unfold pf_X1_disturb
    by_cases c7 : s 7 = 0
    · rw [if_pos c7, if_pos c7]
      have r6 : 0 ≤ (s 6).toInt ∧ (s 6).toInt ≤ 600 := hV.1.1 6
      have hx := hV.1.2.2.2.2.2.2.2.2.2.2.2.2.1.2
      have b6 := hx.2.1.2 c7
      have e : (s 6 + a).toInt = (s 6).toInt + a.toInt := q_add (by omega) (by omega)
      have o2 : (256 : Int32).toInt = 256 := rfl
      have rr : q_R (pj_u s 6 (s 6 + a)) := q_R_u hV.1.1 (by rw [e]; exact (by omega : 0 ≤ (s 6).toInt + a.toInt ∧ (s 6).toInt + a.toInt ≤ 600))
      by_cases c9 : s 6 + a < 256
      · rw [if_pos c9, if_pos c9, q_b]
        have e6 : pj_u s 6 (s 6 + a) 6 = s 6 + a := q_ua
        rw [e6]
        rw [Int32.lt_iff_toInt_lt, o2] at c9
        refine q_Fa_s _ _ rfl rfl (q_V_I hV (q_I_x hV.1 c rr ?_ (q_Fg_c hV.1.2.2.2.2.2.2.1 ?_ ?_ ?_ ?_ rfl rfl rfl rfl rfl rfl rfl rfl rfl rfl rfl rfl rfl rfl rfl rfl) ?_) ?_ ?_)
        · unfold q_Ex at hx ⊢
          rw [q_Ld_c (s := s) (x' := x) (x := x) (q_un (by omega)) (fun j _ => q_un (by omega)) rfl]
          simp (disch := omega) only [q_un, q_ua]
          exact ⟨hx.1, ⟨hx.2.1.1, fun _ => by omega⟩, hx.2.2⟩
        · rw [q_un (by omega)]
        · rw [q_un (by omega)]
        · rw [q_un (by omega)]
        · rw [q_un (by omega)]
        · intro w _ n; rw [q_un (by omega)]
        · rw [q_un (by omega)]
        · rw [q_un (by omega)]
      · rw [if_neg c9, if_neg c9, q_b]
        have e6 : pj_u (pj_u (pj_u s 6 (s 6 + a)) 7 1) 8 0 6 = s 6 + a := by rw [q_un (by omega), q_un (by omega), q_ua]
        rw [e6]
        refine q_Fa_s _ _ rfl rfl (q_V_I hV (q_I_x hV.1 c (q_R_u (q_R_u rr (by decide)) (by decide)) ?_ (q_Fg_c hV.1.2.2.2.2.2.2.1 ?_ ?_ ?_ ?_ rfl rfl rfl rfl rfl rfl rfl rfl rfl rfl rfl rfl rfl rfl rfl rfl) ?_) ?_ ?_)
        · unfold q_Ex at hx ⊢
          rw [q_Ld_c (s := s) (x' := x) (x := x) (by rw [q_un (by omega), q_un (by omega), q_un (by omega)]) (fun j _ => by rw [q_un (by omega), q_un (by omega), q_un (by omega)]) rfl]
          simp (disch := omega) only [q_un, q_ua]
          exact ⟨hx.1, ⟨fun _ => by decide, fun z => absurd z (by decide)⟩, hx.2.2⟩
        · rw [q_un (by omega), q_un (by omega), q_un (by omega)]
        · rw [q_un (by omega), q_un (by omega), q_un (by omega)]
        · rw [q_un (by omega), q_un (by omega), q_un (by omega)]
        · rw [q_un (by omega), q_un (by omega), q_un (by omega)]
        · intro w _ n; rw [q_un (by omega), q_un (by omega), q_un (by omega)]
        · rw [q_un (by omega), q_un (by omega), q_un (by omega)]
        · rw [q_un (by omega), q_un (by omega), q_un (by omega)]
    · rw [if_neg c7, if_neg c7, q_b]
      exact q_Fa_s _ s rfl rfl (q_V_s hV)
theorem q_F_noise0 (hV : q_V k s l x y u v) (h : a < 0 ∨ 300 < a) : q_Rf (k + 1) 1 s l x y (pf_X12_noise a s l u v) := by
  have q1 : pf_X12_isIn a.toInt64 0 300 s l u v = some (if a < 0 then 0 else if 300 < a then 0 else 1, s, l, u, v) := q_isI a 0 300
  unfold pf_X12_noise pl_X12_noise_18
  rw [q1, q_b, q_in0 h, if_pos rfl, if_pos q_l01]
  exact q_Rf_s 0 1 rfl hV
end QRW

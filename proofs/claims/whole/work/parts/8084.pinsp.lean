/-! PURE: the model's pins: the pair; reading the pins -/
section QPP
variable {s x u : Nat → Int32} {l y v : Nat → Int64} {fu : Nat} {D E W : Int}
theorem q_rem50 {c : Int32} {b : Int64} (h : b = c.toInt64) (h0 : 0 ≤ c.toInt) {n : Int32} {m : Int64} (hm : m = n.toInt64) (hn : 0 < n.toInt) : (pj_rem c n = 0) ↔ (pj_reml b m = 0) := by
  have e1 := q_remI (a := c) (b := n) h0 hn
  have e2 := q_remIL (a := b) (b := m) (by rw [h, Int32.toInt_toInt64]; exact h0) (by rw [hm, Int32.toInt_toInt64]; exact hn)
  rw [h, hm, Int32.toInt_toInt64, Int32.toInt_toInt64] at e2
  rw [← Int32.toInt_inj, ← Int64.toInt_inj, e1, h, hm, e2]
  exact Iff.rfl
theorem q_wnV (hr : q_R s) : 20 ≤ (q_wn s).toInt ∧ (q_wn s).toInt ≤ 130 := by
  have a := q_R51 hr
  have e1 : 20 < s 51 → (s 51 - 1).toInt = (s 51).toInt - 1 := fun _ => q_sub (by simp only [Int32.reduceToInt]; omega) (by simp only [Int32.reduceToInt]; omega)
  have e2 : (s 51 + 1).toInt = (s 51).toInt + 1 := q_add (by simp only [Int32.reduceToInt]; omega) (by simp only [Int32.reduceToInt]; omega)
  have m : 20 ≤ (q_wm s).toInt ∧ (q_wm s).toInt ≤ 130 := by
    unfold q_wm
    split
    · split
      · rename_i h
        rw [e1 h]
        rw [Int32.lt_iff_toInt_lt] at h
        simp only [Int32.reduceToInt] at h
        omega
      · decide
    · split
      · rename_i h
        rw [e2]
        rw [Int32.lt_iff_toInt_lt] at h
        simp only [Int32.reduceToInt] at h
        omega
      · decide
  unfold q_wn
  split
  · exact m
  · split
    · rename_i h
      rw [Int32.lt_iff_toInt_lt] at h
      simp only [Int32.reduceToInt] at h
      rw [q_sub (by simp only [Int32.reduceToInt]; omega) (by simp only [Int32.reduceToInt]; omega)]
      simp only [Int32.reduceToInt]
      omega
    · exact m
theorem q_flV (hr : q_R s) (a : Int32) : 0 ≤ (if a = 0 then q_tw (s 50) 60 10 else q_cl (s 50 + s 78 / 20).toInt64 0 1000).toInt ∧ (if a = 0 then q_tw (s 50) 60 10 else q_cl (s 50 + s 78 / 20).toInt64 0 1000).toInt ≤ 1000 := by
  have b := q_R50 hr
  have w := q_twV (a := s 50) (b := 60) (c := 10) (by omega) (by omega) (by decide) (by decide)
  simp only [Int32.reduceToInt] at w
  split
  · rw [w]
    repeat' split
    all_goals omega
  · have c := q_clI (a := s 50 + s 78 / 20) (lo := 0) (hi := 1000) (by decide)
    simp only [Int32.reduceToInt] at c
    exact c
theorem q_rgC {k : Nat} (h : k < 1000) : q_rg (29000 + k) = (0, 1023) ∧ q_rg (30000 + k) = (0, 1023) ∧ q_rg (31000 + k) = (0, 1023) ∧ q_rg (32000 + k) = (0, 1023) ∧ q_rg (33000 + k) = (0, 1023) ∧ q_rg (34000 + k) = (-10000, 30000) ∧ q_rg (35000 + k) = (0, 100) ∧ q_rg (36000 + k) = (0, 1) := by
  unfold q_rg
  rw [show (29000 + k) / 1000 = 29 by omega, show (30000 + k) / 1000 = 30 by omega, show (31000 + k) / 1000 = 31 by omega, show (32000 + k) / 1000 = 32 by omega, show (33000 + k) / 1000 = 33 by omega, show (34000 + k) / 1000 = 34 by omega, show (35000 + k) / 1000 = 35 by omega, show (36000 + k) / 1000 = 36 by omega]
  exact ⟨rfl, rfl, rfl, rfl, rfl, rfl, rfl, rfl⟩
theorem q_R_pn (hr : q_R s) : q_R (q_pn s) := by
  have a := q_R50 hr
  have b := q_R51 hr
  have c := q_R46 hr
  have m1 : (s 50 * 1023).toInt = (s 50).toInt * 1023 := q_mul (by simp only [Int32.reduceToInt]; omega) (by simp only [Int32.reduceToInt]; omega)
  have m2 : (s 50 * 1023 / 1000).toInt = (s 50).toInt * 1023 / 1000 := by
    rw [q_divI (by rw [m1]; omega) (by decide), m1]; rfl
  have n1 : (s 50 * 70).toInt = (s 50).toInt * 70 := q_mul (by simp only [Int32.reduceToInt]; omega) (by simp only [Int32.reduceToInt]; omega)
  have n2 : (s 50 * 70 / 1000).toInt = (s 50).toInt * 70 / 1000 := by
    rw [q_divI (by rw [n1]; omega) (by decide), n1]; rfl
  have n3 : (s 46 / 200).toInt = (s 46).toInt / 200 := by
    rw [q_divI (by omega) (by decide)]; rfl
  have n4 : (30 + s 50 * 70 / 1000).toInt = 30 + (s 50).toInt * 70 / 1000 := by
    rw [q_add (by rw [n2]; simp only [Int32.reduceToInt]; omega) (by rw [n2]; simp only [Int32.reduceToInt]; omega), n2]; rfl
  have n5 : (30 + s 50 * 70 / 1000 - s 46 / 200).toInt = 30 + (s 50).toInt * 70 / 1000 - (s 46).toInt / 200 := by
    rw [q_sub (by rw [n4, n3]; omega) (by rw [n4, n3]; omega), n4, n3]
  have n6 : 12 ≤ (q_load s).toInt ∧ (q_load s).toInt ≤ 100 := by
    unfold q_load
    simp only [q_ifI, Int32.lt_iff_toInt_lt, n5, Int32.reduceToInt]
    split <;> omega
  have n7 : (q_load s - 10).toInt = (q_load s).toInt - 10 := q_sub (by simp only [Int32.reduceToInt]; omega) (by simp only [Int32.reduceToInt]; omega)
  have n8 : ((q_load s - 10) * 1023).toInt = ((q_load s).toInt - 10) * 1023 := by
    rw [q_mul (by rw [n7]; simp only [Int32.reduceToInt]; omega) (by rw [n7]; simp only [Int32.reduceToInt]; omega), n7]; rfl
  have n9 : ((q_load s - 10) * 1023 / 100).toInt = ((q_load s).toInt - 10) * 1023 / 100 := by
    rw [q_divI (by rw [n8]; omega) (by decide), n8]; rfl
  have k1 : (140 - s 51).toInt = 140 - (s 51).toInt := q_sub (by simp only [Int32.reduceToInt]; omega) (by simp only [Int32.reduceToInt]; omega)
  have k2 : ((140 - s 51) * 1023).toInt = (140 - (s 51).toInt) * 1023 := by
    rw [q_mul (by rw [k1]; simp only [Int32.reduceToInt]; omega) (by rw [k1]; simp only [Int32.reduceToInt]; omega), k1]; rfl
  have k3 : ((140 - s 51) * 1023 / 180).toInt = (140 - (s 51).toInt) * 1023 / 180 := by
    rw [q_divI (by rw [k2]; omega) (by decide), k2]; rfl
  unfold q_pn
  refine q_R_u (q_R_u (q_R_u (q_R_u hr ?_) ?_) ?_) ?_
  · rw [(q_rgC (k := 2) (by omega)).1, m2]; omega
  · rw [(q_rgC (k := 3) (by omega)).1, m2]; omega
  · rw [(q_rgC (k := 4) (by omega)).1, n9]; omega
  · rw [(q_rgC (k := 5) (by omega)).1, k3]; omega
theorem q_pn_out {w : Nat} (h : w < 29002 ∨ 29005 < w) : q_pn s w = s w := by
  unfold q_pn
  rw [q_un (by omega), q_un (by omega), q_un (by omega), q_un (by omega)]
theorem q_pinsP (hI : q_I D E W s l x y u v) (h0 : ¬ s 94 = 0) : ∃ s', pf_X11_moveModelPins s l x y = some ((), s', l, x, y) ∧ pf_X12_modelPins s l u v = some ((), s', l, u, v) ∧ q_I D E W s' l x y u v ∧ s' 94 = s 94 ∧ s' 95 = s 95 := by
  have hr := hI.1
  have h12 := hI.2.2.1.1
  have hp := hI.2.2.2.2.2.2.1.1
  have c := q_rem50 (n := 50) (m := 50) h12.1 h12.2.1 rfl (by decide)
  have n1 : ¬ (1 : Int32) = 0 := by decide
  have e : (if u 14 = 0 then q_cl (s 50 + s 78 / 20).toInt64 0 1000 else q_tw (s 50) 60 10) = (if x 13 = 0 then q_tw (s 50) 60 10 else q_cl (s 50 + s 78 / 20).toInt64 0 1000) := by
    rcases hp with ⟨a, b⟩ | ⟨a, b⟩
    · rw [a, b, if_pos rfl, if_neg n1]
    · rw [a, b, if_neg n1, if_pos rfl]
  have hC := q_pinsC (l := l) (x := x) (y := y) hr
  have hR := q_pinsR (s := s) (l := l) (u := u) (v := v)
  rw [e] at hR
  have hf := q_flV hr (x 13)
  generalize (if x 13 = 0 then q_tw (s 50) 60 10 else q_cl (s 50 + s 78 / 20).toInt64 0 1000) = f at hC hR hf
  have hr2 : q_R (pj_u s 50 f) := q_R_u hr hf
  by_cases c1 : pj_rem (x 1) 50 = 0
  · rw [if_pos c1] at hC
    rw [if_pos (c.mp c1)] at hR
    refine ⟨_, hC, hR, q_I_s hI h0 (q_R_pn (q_R_u hr2 (q_wnV hr))) ?_, ?_, ?_⟩
    · intro w hw
      unfold q_Ss at hw
      rw [q_pn_out (by omega), q_un (by omega), q_un (by omega)]
    · rw [q_pn_out (by omega), q_un (by omega), q_un (by omega)]
    · rw [q_pn_out (by omega), q_un (by omega), q_un (by omega)]
  · rw [if_neg c1] at hC
    rw [if_neg (fun z => c1 (c.mpr z))] at hR
    refine ⟨_, hC, hR, q_I_s hI h0 (q_R_pn hr2) ?_, ?_, ?_⟩
    · intro w hw
      unfold q_Ss at hw
      rw [q_pn_out (by omega), q_un (by omega)]
    · rw [q_pn_out (by omega), q_un (by omega)]
    · rw [q_pn_out (by omega), q_un (by omega)]
theorem q_rollP (hI : q_I D E W s l x y u v) (h0 : ¬ s 94 = 0) (hm : (s 54).toInt * 10000 + 10000 ≤ (l 93).toInt) : pf_X5_roll s l x y = some ((), q_ro s, l, x, y) ∧ pf_X9_feelBrake (if q_ro s 15000 = q_ro s 15001 then 0 else 1) (q_ro s) l x y = some ((), q_br (q_ro s), l, x, y) ∧ pf_X12_drives s l u v = some ((), q_br (q_ro s), l, u, v) ∧ q_I D E W (q_br (q_ro s)) l x y u v ∧ q_br (q_ro s) 94 = s 94 := by
  have hr := hI.1
  have h54 := hI.2.2.2.2.2.2.2.2.2.2.2.2.1.2.1
  have ht := hI.2.2.1.2.2.2.2
  have e54 : (s 54 + 1).toInt = (s 54).toInt + 1 := q_add (by simp only [Int32.reduceToInt]; omega) (by simp only [Int32.reduceToInt]; omega)
  refine ⟨q_rollC hr, q_brakeP (q_R_ro hr), q_drivesR hr, q_I_54 hI h0 (q_R_br (q_R_ro hr)) ?_ ?_, ?_⟩
  · intro w hw h5
    unfold q_Ss at hw
    rw [q_br_out (by omega), q_ro_out (by omega)]
  · rw [q_br_out (by omega)]
    unfold q_ro q_rl
    split
    · rw [q_un (by omega), q_un (by omega)]
      omega
    · rw [q_ua, q_un (by omega), e54]
      omega
  · rw [q_br_out (by omega), q_ro_out (by omega)]
end QPP

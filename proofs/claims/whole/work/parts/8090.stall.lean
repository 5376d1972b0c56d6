/-! PURE: the stall, the cam's edge: pairs -/
section QST
variable {s x u s' x' u' : Nat → Int32} {l y v l' y' v' : Nat → Int64} {D E W : Int}
/-- power, time and two counts are the same -/
def q_K (s : Nat → Int32) (l : Nat → Int64) (x : Nat → Int32) (v : Nat → Int64) (s' : Nat → Int32) (l' : Nat → Int64) (x' : Nat → Int32) (v' : Nat → Int64) : Prop := s' 94 = s 94 ∧ l' 93 = l 93 ∧ x' 1 = x 1 ∧ x' 2 = x 2 ∧ x' 22 = x 22 ∧ v' 13 = v 13 ∧ v' 30 = v 30 ∧ s' 95 = s 95
theorem q_fl_w {b : Nat} {c : Int32} {m i z : Nat} {a : Int32} (h : z < b + i ∨ b + i + m ≤ z) : q_fl b c m i (pj_u x z a) = pj_u (q_fl b c m i x) z a := by
  funext w
  rw [q_fl_at]
  by_cases hw : w = z
  · rw [hw, if_neg (by omega), q_ua, q_ua]
  · rw [q_un hw, q_un hw, q_fl_at]
theorem q_nw_w {z : Nat} {a : Int32} (h : z < 4000) : q_nw (pj_u x z a) = pj_u (q_nw x) z a := by
  unfold q_nw
  rw [q_fl_w (by omega), q_fl_w (by omega), q_fl_w (by omega)]
theorem q_nu_w {z : Nat} {a : Int32} (h : z < 7) : q_nu (pj_u u z a) = pj_u (q_nu u) z a := by
  unfold q_nu
  rw [← q_us (f := u) (v := z) (w := 7) (by omega), ← q_us (f := pj_u u 7 0) (v := z) (w := 10) (by omega), q_fl_w (by omega)]
theorem q_ao_w1 {z : Nat} {a : Int32} (h : z < 57) : (q_ao (pj_u s z a) l x).1 = pj_u (q_ao s l x).1 z a := by rw [q_ao_w h]
theorem q_ao_w2 {z : Nat} {a : Int32} (h : z < 57) : (q_ao (pj_u s z a) l x).2.1 = (q_ao s l x).2.1 := by rw [q_ao_w h]
theorem q_ne_w {z : Nat} {a : Int32} (h : z < 57) : q_ne (pj_u s z a) l x = q_ne s l x := by
  unfold q_ne
  rw [q_ao_w h]
theorem q_ne_x {x' : Nat → Int32} (h : x' 11 = x 11) : (q_ao s l x').1 = (q_ao s l x).1 ∧ (q_ao s l x').2.1 = (q_ao s l x).2.1 ∧ q_ne s l x' = q_ne s l x := q_ao_x h
theorem q_u2 {α : Type} {f : Nat → α} {v w : Nat} {a b : α} (h : ¬ v = w) : pj_u (pj_u f v a) w b = pj_u (pj_u f w b) v a := by
  by_cases c : v < w
  · rw [q_us c]
  · rw [q_us (by omega)]
theorem q_sp0 (h : s 19 < 2) : q_sp s x = 0 := by
  unfold q_sp
  rw [if_pos h]
/-- the wheel is lost -/
theorem q_lost (hI : q_I D E W s l x y u v) (h0 : ¬ s 94 = 0) (hz : ∀ c, c < 8 → u (3000 + c) = 0) : q_I 0 E W (pj_u s 19 0) l (pj_u (pj_u x 4 0) 5 0) y (pj_u (pj_u u 4 0) 5 0) (pj_u v 6 0) := by
  have nl : (pj_u s 19 0) 19 < 2 := by rw [q_ua]; decide
  have w := hI.2.2.2.1
  have hJ : q_I 0 E W (pj_u s 19 0) l (pj_u (pj_u x 4 0) 5 0) y (pj_u (pj_u u 4 0) 5 0) (pj_u v 6 0) := by
    have q : q_I D E W (pj_u s 19 0) l (pj_u (pj_u x 4 0) 5 0) y (pj_u (pj_u u 4 0) 5 0) (pj_u v 6 0) := by
      refine q_I_wl hI h0 (q_R_u hI.1 (by decide)) ?_ ?_ (fun _ _ => rfl) ?_ ?_ ?_ (fun _ => hz)
      · unfold q_Wl
        rw [q_sp0 nl]
        simp (disch := omega) only [q_ua, q_un]
        exact ⟨by decide, fun z => absurd (by decide) z, trivial, fun z => absurd nl z, w.2.2.2.2.1, w.2.2.2.2.2.1, by decide, by decide, w.2.2.2.2.2.2.2.2.1, w.2.2.2.2.2.2.2.2.2.1, fun _ z => absurd trivial z⟩
      · intro w a b; rw [q_un a]
      · intro w a; rw [q_un (by omega), q_un (by omega)]
      · intro w a; rw [q_un (by omega), q_un (by omega)]
      · intro w a; rw [q_un a]
    obtain ⟨p1, p2, p3, p4, p5⟩ := q
    refine ⟨p1, p2, p3, ?_, p5⟩
    obtain ⟨r1, r2, r3, r4, r5, r6, r7, r8, r9, r10, r11⟩ := p4
    exact ⟨r1, r2, r3, r4, r5, r6, r7, r8, r9, r10, fun _ z => absurd q_ua z⟩
  exact hJ
theorem q_stallP (hI : q_I 10000 E W s l x y u v) (h0 : ¬ s 94 = 0) (hE : E + 16 < 2147483647) : ∃ s' l' x' y' u' v', pf_X11_lookForStall s l x y = some ((), s', l', x', y') ∧ (if s 19 = 0 then some ((), s, l, u, v) else (if l 93 - l 20 < (s 10002).toInt64 then some ((), s, l, u, v) else pf_X12_allOff (pj_u s 19 0) l (pj_u (pj_u u 4 0) 5 0) (pj_u v 6 0))) = some ((), s', l', u', v') ∧ q_I 0 (E + 16) W s' l' x' y' u' v' ∧ q_K s l x v s' l' x' v' := by
  have hI0 := hI
  obtain ⟨h1, h2, h3, h4, h5, h6, h7, h8, h9, h10, h11, h12, h13, h14⟩ := hI
  have hI2 : ¬ s 19 = 0 → l 93 - l 20 < (s 10002).toInt64 → q_I 0 (E + 16) W s l x y u v := by
    intro _ c2
    refine q_I_mono (E := E) (W := W) ⟨h1, h2, h3, ?_, h5, h6, h7, h8, h9, h10, h11, h12, h13, h14⟩ (by omega) (by omega)
    obtain ⟨w1, w2, w3, w4, w5, w6, w7, w8, w9, w10, w11⟩ := h4
    refine ⟨w1, w2, w3, w4, w5, w6, w7, w8, w9, w10, fun _ _ => ?_⟩
    have t := h3.2.2.2.2
    rw [Int64.lt_iff_toInt_lt, Int32.toInt_toInt64, q_subL (by omega) (by omega)] at c2
    omega
  unfold pf_X11_lookForStall
  by_cases c1 : s 19 = 0
  · rw [if_pos c1, if_pos c1]
    refine ⟨s, l, x, y, u, v, rfl, rfl, ?_, rfl, rfl, rfl, rfl, rfl, rfl, rfl, rfl⟩
    refine q_I_mono (E := E) (W := W) ⟨h1, h2, h3, ?_, h5, h6, h7, h8, h9, h10, h11, h12, h13, h14⟩ (by omega) (by omega)
    obtain ⟨w1, w2, w3, w4, w5, w6, w7, w8, w9, w10, w11⟩ := h4
    exact ⟨w1, w2, w3, w4, w5, w6, w7, w8, w9, w10, fun _ z => absurd c1 z⟩
  · rw [if_neg c1, if_neg c1]
    by_cases c2 : l 93 - l 20 < (s 10002).toInt64
    · rw [if_pos c2, if_pos c2]
      exact ⟨s, l, x, y, u, v, rfl, rfl, hI2 c1 c2, rfl, rfl, rfl, rfl, rfl, rfl, rfl, rfl⟩
    · rw [if_neg c2, if_neg c2]
      have c11 := h3.2.2.1
      have oI := q_offI hI0 h0 hE
      have z2 : (0 : Int32) < 2 := by decide
      have sp : q_sp (pj_u s 19 0) (pj_u x 4 0) = 0 := q_sp0 (by rw [q_ua]; exact z2)
      unfold pf_X2_lose
      rw [q_measure, q_b, q_b, sp]
      have oE := q_offE (s := pj_u s 19 0) (l := l) (x := pj_u (pj_u x 4 0) 5 0) (y := y) (u := pj_u (pj_u u 4 0) 5 0) (v := pj_u v 6 0) (by rw [q_un (by omega), q_un (by omega)]; exact c11.2.1) (by rw [q_un (by omega), q_un (by omega)]; omega) (by rw [q_un (by omega), q_un (by omega), q_un (by omega)]; exact c11.1)
      obtain ⟨n1, n2, n3⟩ := q_ne_x (s := pj_u s 19 0) (l := l) (x := x) (x' := pj_u (pj_u x 4 0) 5 0) (by rw [q_un (by omega), q_un (by omega)])
      rw [n1, n2, n3, q_ne_w (by omega), q_ao_w1 (by omega), q_ao_w2 (by omega), q_nw_w (by omega), q_nw_w (by omega), q_nu_w (by omega), q_nu_w (by omega)] at oE
      have hX : ∀ w, (w < 4000 ∨ 4024 ≤ w) → q_nw x w = x w := fun w h => q_nw_out h
      obtain ⟨k1, k2, k3, k4, k5, k6, k7⟩ := q_ao_k (s := s) (l := l) (x := x) c11.2.1 (by omega)
      have oI2 := q_lost oI (by rw [k5 _ (by omega) (by omega)]; exact h0) (fun c hc => q_nu_in hc)
      rw [q_u2 (f := q_nw x) (v := 11) (w := 4) (by omega), q_u2 (f := pj_u (q_nw x) 4 0) (v := 11) (w := 5) (by omega), q_u2 (f := v) (v := 3) (w := 6) (by omega)] at oI2
      obtain ⟨oE1, oE2⟩ := oE
      clear k2 k3 k4 k6 k7 oI
      generalize (q_ao s l x).1 = A at *
      generalize (q_ao s l x).2.1 = L at *
      generalize q_ne s l x = N at *
      generalize q_nw x = X at *
      generalize q_nu u = U at *
      rw [oE1, oE2, q_b]
      refine ⟨_, _, _, _, _, _, rfl, rfl, oI2, ?_, ?_, ?_, ?_, ?_, ?_, ?_, ?_⟩
      · rw [q_un (by omega), k5 _ (by omega) (by omega)]
      · rw [k1 _ (by omega)]
      · rw [q_un (by omega), q_un (by omega), q_un (by omega), hX _ (by omega)]
      · rw [q_un (by omega), q_un (by omega), q_un (by omega), hX _ (by omega)]
      · rw [q_un (by omega), q_un (by omega), q_un (by omega), hX _ (by omega)]
      · rw [q_un (by omega), q_un (by omega)]
      · rw [q_un (by omega), q_un (by omega)]
      · rw [q_un (by omega), k5 _ (by omega) (by omega)]
end QST

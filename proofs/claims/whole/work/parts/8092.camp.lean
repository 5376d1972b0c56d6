/-! PURE: the cam's edge: the pair -/
section QCP
variable {s x u s' x' u' : Nat → Int32} {l y v l' y' v' : Nat → Int64} {D E W : Int}
theorem q_n0 (h : ¬ s 19 < 2) : ¬ s 19 = 0 := fun z => h (by rw [z]; decide)
theorem q_Wl_t (hw : q_Wl D s l x u v) (h : ¬ s 19 < 2) (h' : ¬ s' 19 < 2) (g1 : s' 94 = s 94) (g2 : s' 10002 = s 10002) (k4 : x' 4 = x 4) (k5 : x' 5 = x 5) (a : x' 6 = u' 4) (b : x' 7 = u' 5) (r6 : 0 ≤ (x' 6).toInt ∧ (x' 6).toInt ≤ 57) (r7 : 0 ≤ (x' 7).toInt ∧ (x' 7).toInt ≤ 1) : q_Wl D s' l x' u' v := by
  obtain ⟨w1, w2, w3, w4, w5, w6, w7, w8, w9, w10, w11⟩ := hw
  unfold q_Wl q_wh
  have e : q_sp s' x' = q_sp s x := by
    unfold q_sp
    rw [if_neg h, if_neg h', k4]
  rw [e, k4, k5, g1, g2, ← a, ← b]
  exact ⟨w1, fun _ => w2 h, w3, fun _ => ⟨rfl, rfl⟩, r6, r7, r6, r7, w9, w10, fun z _ => w11 z (q_n0 h)⟩
/-- behind ALL OFF the state is another -/
theorem q_fell (hI : q_I D E W s l x y u v) (h0 : ¬ s 94 = 0) (h : ¬ s 19 < 2) (a : Int32) : q_I D E W (pj_u (pj_u s 23 a) 19 2) l x y u v := by
  have w := hI.2.2.2.1
  have wh := w.2.2.2.1 h
  refine q_I_wl hI h0 (q_R_u (q_R_u hI.1 q_R_any) (by decide)) (q_Wl_t w h (by rw [q_ua]; decide) (by rw [q_un (by omega), q_un (by omega)]) (by rw [q_un (by omega), q_un (by omega)]) rfl rfl wh.1 wh.2 w.2.2.2.2.1 w.2.2.2.2.2.1) ?_ (fun _ _ => rfl) (fun _ _ => rfl) (fun _ _ => rfl) (fun _ _ => rfl) ?_
  · intro w a b; rw [q_un a, q_un (by omega)]
  · intro z; rw [q_ua] at z; exact absurd z (by decide)
def q_Cam (D E W : Int) (s : Nat → Int32) (l : Nat → Int64) (x : Nat → Int32) (y : Nat → Int64) (u : Nat → Int32) (v : Nat → Int64) : Prop := ∃ s' l' x' y' u' v', pf_X11_camEdge s l x y = some ((), s', l', x', y') ∧ pf_X12_camEdge s l u v = some ((), s', l', u', v') ∧ q_I D (E + 16) W s' l' x' y' u' v' ∧ q_K s l x v s' l' x' v'
theorem q_camOff (hI : q_I D E W s l x y u v) (h0 : ¬ s 94 = 0) (hE : E + 16 < 2147483647) (h : ¬ s 19 < 2) : ∃ s' l' x' y' u' v', pf_X11_allOff (pj_u (pj_u s 23 (s 23 + 1)) 19 2) l x y = some ((), s', l', x', y') ∧ pj_b (pf_X12_allOff (pj_u s 23 (s 23 + 1)) l u v) (fun r1 s1 l1 x1 y1 => some ((), (pj_u s1 19 2), l1, x1, y1)) = some ((), s', l', u', v') ∧ q_I D (E + 16) W s' l' x' y' u' v' ∧ q_K s l x v s' l' x' v' := by
  have c11 := hI.2.2.1.2.2.1
  have oI := q_offI hI h0 hE
  have o1 := (q_offE (s := pj_u (pj_u s 23 (s 23 + 1)) 19 2) (l := l) (x := x) (y := y) (u := u) (v := v) c11.2.1 (by omega) c11.1).1
  have o2 := (q_offE (s := pj_u s 23 (s 23 + 1)) (l := l) (x := x) (y := y) (u := u) (v := v) c11.2.1 (by omega) c11.1).2
  rw [q_ne_w (by omega), q_ne_w (by omega), q_ao_w1 (by omega), q_ao_w1 (by omega), q_ao_w2 (by omega), q_ao_w2 (by omega)] at o1
  rw [q_ne_w (by omega), q_ao_w1 (by omega), q_ao_w2 (by omega)] at o2
  obtain ⟨k1, k2, k3, k4, k5, k6, k7⟩ := q_ao_k (s := s) (l := l) (x := x) c11.2.1 (by omega)
  have oJ := q_fell oI (by rw [k5 _ (by omega) (by omega)]; exact h0) (by rw [k5 _ (by omega) (by omega)]; exact h) (s 23 + 1)
  have hX : ∀ w, (w < 4000 ∨ 4024 ≤ w) → q_nw x w = x w := fun w h => q_nw_out h
  clear k2 k3 k4 k6 k7 oI
  generalize (q_ao s l x).1 = A at *
  generalize (q_ao s l x).2.1 = L at *
  generalize q_ne s l x = N at *
  generalize q_nw x = X at *
  generalize q_nu u = U at *
  rw [o1, o2, q_b]
  refine ⟨_, _, _, _, _, _, rfl, rfl, oJ, ?_, ?_, ?_, ?_, ?_, ?_, ?_, ?_⟩
  · rw [q_un (by omega), q_un (by omega), k5 _ (by omega) (by omega)]
  · rw [k1 _ (by omega)]
  · rw [q_un (by omega), hX _ (by omega)]
  · rw [q_un (by omega), hX _ (by omega)]
  · rw [q_un (by omega), hX _ (by omega)]
  · rw [q_un (by omega)]
  · rw [q_un (by omega)]
  · rw [q_un (by omega), q_un (by omega), k5 _ (by omega) (by omega)]
theorem q_camP (hI : q_I D E W s l x y u v) (h0 : ¬ s 94 = 0) (hE : E + 16 < 2147483647) : q_Cam D E W s l x y u v := by
  have hr := hI.1
  have w := hI.2.2.2.1
  have st : q_I D (E + 16) W s l x y u v := q_I_mono hI (by omega) (by omega)
  unfold q_Cam
  rw [q_camC, q_camR hr, if_neg h0, if_neg h0]
  by_cases c1 : s 19 < 2
  · rw [if_pos c1, if_pos c1]
    exact ⟨s, l, x, y, u, v, rfl, rfl, st, rfl, rfl, rfl, rfl, rfl, rfl, rfl, rfl⟩
  · rw [if_neg c1, if_neg c1]
    obtain ⟨e6, e7⟩ := w.2.2.2.1 c1
    rw [e6, e7]
    by_cases c2 : s 19 = 3
    · rw [if_pos c2, if_pos c2]
      by_cases c3 : u 4 < 10
      · rw [if_pos c3, if_pos c3]
        exact q_camOff hI h0 hE c1
      · rw [if_neg c3, if_neg c3]
        by_cases c4 : 20 < u 4
        · rw [if_pos c4, if_pos c4]
          exact q_camOff hI h0 hE c1
        · rw [if_neg c4, if_neg c4]
          by_cases c5 : u 5 = 0
          · rw [if_pos c5, if_pos c5]
            refine ⟨_, _, _, _, _, _, rfl, rfl, q_I_s st h0 (q_R_u (q_R_u hr (by decide)) (by decide)) ?_, ?_, rfl, rfl, rfl, rfl, rfl, rfl, ?_⟩
            · intro w hw
              unfold q_Ss at hw
              rw [q_un (by omega), q_un (by omega)]
            · rw [q_un (by omega), q_un (by omega)]
            · rw [q_un (by omega), q_un (by omega)]
          · rw [if_neg c5, if_neg c5]
            exact q_camOff hI h0 hE c1
    · rw [if_neg c2, if_neg c2]
      by_cases c3 : u 4 < 10
      · rw [if_pos c3, if_pos c3]
        exact ⟨s, l, x, y, u, v, rfl, rfl, st, rfl, rfl, rfl, rfl, rfl, rfl, rfl, rfl⟩
      · rw [if_neg c3, if_neg c3]
        by_cases c4 : 20 < u 4
        · rw [if_pos c4, if_pos c4]
          exact ⟨s, l, x, y, u, v, rfl, rfl, st, rfl, rfl, rfl, rfl, rfl, rfl, rfl, rfl⟩
        · rw [if_neg c4, if_neg c4]
          refine ⟨_, _, _, _, _, _, rfl, rfl, ?_, ?_, rfl, ?_, ?_, ?_, rfl, rfl, ?_⟩
          · refine q_I_wl st h0 (q_R_u (q_R_u (q_R_u hr (by decide)) (by decide)) (by decide)) (q_Wl_t w c1 (by rw [q_un (by omega), q_un (by omega), q_ua]; decide) (by rw [q_un (by omega), q_un (by omega), q_un (by omega)]) (by rw [q_un (by omega), q_un (by omega), q_un (by omega)]) (by rw [q_un (by omega)]) (by rw [q_un (by omega)]) (by rw [q_un (by omega), q_un (by omega)]; exact e6) (by rw [q_ua, q_ua]) (by rw [q_un (by omega)]; exact w.2.2.2.2.1) (by rw [q_ua]; decide)) ?_ (fun _ _ => rfl) ?_ ?_ (fun _ _ => rfl) ?_
            · intro w a b; rw [q_un (by omega), q_un (by omega), q_un a]
            · intro w a; rw [q_un (by omega)]
            · intro w a; rw [q_un (by omega)]
            · intro z; rw [q_un (by omega), q_un (by omega), q_ua] at z; exact absurd z (by decide)
          · rw [q_un (by omega), q_un (by omega), q_un (by omega)]
          · rw [q_un (by omega)]
          · rw [q_un (by omega)]
          · rw [q_un (by omega)]
          · rw [q_un (by omega), q_un (by omega), q_un (by omega)]
end QCP

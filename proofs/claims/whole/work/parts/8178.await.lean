/-! PURE: what waits for an angle -/
section QAW
variable {s x u s' x' u' : Nat → Int32} {l y v l' y' v' : Nat → Int64} {D E W : Int} {fu k n c : Nat}
theorem q_I_wt (hI : q_I D E W s l x y u v) (h0 : ¬ s 94 = 0) (hw : q_Wt s x' u') (kx : ∀ w, w < 4000 ∨ 4024 ≤ w → x' w = x w) (ku : ∀ w, w < 3000 ∨ 6008 ≤ w → u' w = u w) : q_I D E W s l x' y u' v := by
  obtain ⟨h1, h2, h3, h4, h5, h6, h7, h8, h9, h10, h11, h12, h13, h14⟩ := hI
  refine ⟨h1, h2, q_Ct_c h3 rfl ?_ ?_ ?_ ?_ rfl rfl rfl rfl, q_Wl_c h4 rfl rfl rfl rfl rfl ?_ ?_ ?_ ?_ ?_ ?_ rfl, q_Pl_c h5 rfl ?_ rfl rfl ?_ ?_ ?_ rfl rfl, hw, q_Fg_c h7 rfl rfl rfl rfl rfl ?_ ?_ ?_ ?_ ?_ ?_ rfl ?_ ?_ ?_ ?_ ?_ ?_ ?_ rfl, q_Fm_c h8 rfl ?_ ?_, q_Rc_c h9 rfl ?_ ?_ ?_ ?_ rfl, q_Vd_c h10 (fun _ _ _ => rfl) ?_, q_Kn_c h11 ?_, q_Pg_c h12 ?_ ?_ ?_ ?_, q_Es_c h13 rfl (fun _ _ => rfl) (fun _ _ _ => rfl) rfl (fun _ _ _ => rfl) ?_ ?_ (q_Ld_i rfl (fun _ _ => rfl) (kx 21 (by omega))), fun z => absurd z h0⟩
  all_goals try (intro w a b)
  all_goals first
    | (apply kx; omega)
    | (apply ku; omega)
theorem q_m72_nm1 (a : Int32) : ¬ q_m72 a = -1 := by
  intro z
  have m := q_m72I a
  have : (-1 : Int32).toInt = -1 := rfl
  rw [z, this] at m
  omega
theorem q_awP (hI : q_I D E W s l x y u v) (h0 : ¬ s 94 = 0) (h19 : ¬ s 19 < 2) (hc : c < 8) (hcN : (c : Int) < (s 10000).toInt) : ∃ x' u', pl_X11_planCylinder_148 (Int32.ofNat c) s l x y = some ((), s, l, x', y) ∧ q_tlR c s l u v = some ((), s, l, u', v) ∧ q_I D E W s l x' y u' v ∧ (∀ w, w < 4000 ∨ 4024 ≤ w → x' w = x w) ∧ (∀ w, w < 3000 ∨ 6008 ≤ w → u' w = u w) := by
  have hr := hI.1
  have hw := hI.2.2.2.1
  have x4 := hw.2.1 h19
  have x4b := hw.1
  obtain ⟨n, hl⟩ := hI.2.1.2.1
  obtain ⟨dw, c1, d1, -, -⟩ := q_lineValue (l := l) (x := x) (y := y) (u := u) (v := v) (by omega) (by omega) hl (s 34008)
  have c1 : pf_X7_lineValue 12 (s 34008) s l x y = some (dw, s, l, x, y) := c1
  have d1 : pf_X12_lineValue 12 (s 34008) s l u v = some (dw, s, l, u, v) := d1
  have rN : 1 ≤ (s 10000).toInt ∧ (s 10000).toInt ≤ 8 := hr 10000
  have rT : 0 ≤ (s 10001).toInt ∧ (s 10001).toInt ≤ 7199 := hr 10001
  have tC := q_topC (s := s) (l := l) (x := x) (y := y) (c := c) rN.1
  have tR := q_topR (s := s) (l := l) (u := u) (v := v) (c := c) hc rN.1 rT.1 rT.2
  have x4p : 0 < (x 4).toInt64 := by rw [Int64.lt_iff_toInt_lt, Int32.toInt_toInt64]; exact x4
  have v6n : ¬ v 6 = 0 := by
    rw [x4b.1]
    intro z
    rw [z] at x4p
    exact Int64.lt_irrefl x4p
  have n1 : ¬ Int32.ofNat c < 0 := q_onnn (by omega)
  have n2 : Int32.ofNat c < 8 := by rw [q_onltL (by omega) (by omega)]; omega
  have n3 : ¬ x 4 < 1 := by
    rw [Int32.lt_iff_toInt_lt]
    have o : (1 : Int32).toInt = 1 := rfl
    rw [o]; omega
  have gg : ∀ {A : Type} (K : Option A), pj_g (Int32.ofNat c) 8 K = K := fun K => q_g (by omega) (by omega)
  -- the values
  generalize hT : q_top s c = T at tC tR
  have hC : pl_X11_planCylinder_148 (Int32.ofNat c) s l x y = some ((), s, l, pj_u (pj_u (pj_u x (4000 + c) (if 0 < s (8016 + c) then q_m72 (T - 1800 + s 10003) else -1)) (4016 + c) (q_m72 (T - s (8024 + c)))) (4008 + c) (q_m72 (q_m72 (T - s (8024 + c)) - (if q_fd (dw.toInt64 * 60) (x 4).toInt64 < 1200 then q_fd (dw.toInt64 * 60) (x 4).toInt64 else 1200).toInt32)), y) := by
    unfold pl_X11_planCylinder_148
    rw [c1, q_b, tC, q_b]
    unfold pf_X2_awaitAngles
    rw [if_neg n1, if_pos n2, if_neg n3, gg, q_onC (by omega), q_floorMod, q_b, q_floorDiv x4p, q_b]
    have mn : pf_J9_min_f86c9 1200 (q_fd (dw.toInt64 * 60) (x 4).toInt64) s l x y = some ((if q_fd (dw.toInt64 * 60) (x 4).toInt64 < 1200 then q_fd (dw.toInt64 * 60) (x 4).toInt64 else 1200), s, l, x, y) := by
      unfold pf_J9_min_f86c9
      split <;> rfl
    rw [mn, q_b, q_floorMod, q_b, gg]
    unfold pl_X2_awaitAngles_100
    simp only [gg, q_onC (show c < 2147483648 by omega), q_floorMod, q_b]
    by_cases d : 0 < s (8016 + c)
    · rw [if_pos d, if_pos d, q_b]
    · rw [if_neg d, if_neg d, q_b]
  have hR : q_tlR c s l u v = some ((), s, l, pj_u (pj_u (pj_u (pj_u u (4000 + c) (q_m72 (T - 1800 + s 10003))) (6000 + c) (q_m72 (T - s (8024 + c)))) (5000 + c) (q_m72 (q_m72 (T - s (8024 + c)) - (if q_fd (dw.toInt64 * 60) (x 4).toInt64 < 1200 then q_fd (dw.toInt64 * 60) (x 4).toInt64 else 1200).toInt32))) (3000 + c) (if 0 < s (8016 + c) then 7 else 6), v) := by
    unfold q_tlR
    rw [tR, q_b, d1, q_b, q_down v6n, q_b, x4b.1]
    have mn : ∀ F : Int64 → Option (Unit × pj_Z), (if 1200 < q_fd (dw.toInt64 * 60) (x 4).toInt64 then F 1200 else F (q_fd (dw.toInt64 * 60) (x 4).toInt64)) = F (if q_fd (dw.toInt64 * 60) (x 4).toInt64 < 1200 then q_fd (dw.toInt64 * 60) (x 4).toInt64 else 1200) := by
      intro F
      generalize q_fd (dw.toInt64 * 60) (x 4).toInt64 = b
      by_cases d : (1200 : Int64) < b
      · rw [if_pos d, if_neg]
        rw [Int64.lt_iff_toInt_lt] at d ⊢
        omega
      · rw [if_neg d]
        by_cases e : b < 1200
        · rw [if_pos e]
        · rw [if_neg e]
          rw [Int64.lt_iff_toInt_lt] at d e
          rw [show b = 1200 by rw [← Int64.toInt_inj]; omega]
    rw [mn (fun z => pl_X12_planOne_228 (Int32.ofNat c) T z s l u v)]
    unfold pl_X12_planOne_228 pl_X12_planOne_252 pl_X12_planOne_270 pl_X12_planOne_289 pl_X12_planOne_310
    simp only [gg, q_onC (show c < 2147483648 by omega), q_modulo, q_b]
    have a6 : pj_u (pj_u u (4000 + c) (q_m72 (T - 1800 + s 10003))) (6000 + c) (q_m72 (T - s (8024 + c))) (6000 + c) = q_m72 (T - s (8024 + c)) := q_ua
    rw [a6]
    by_cases d : 0 < s (8016 + c)
    · rw [if_pos d, if_pos d]
    · rw [if_neg d, if_neg d]
  have nB := q_m72_nm1 (q_m72 (T - s (8024 + c)) - (if q_fd (dw.toInt64 * 60) (x 4).toInt64 < 1200 then q_fd (dw.toInt64 * 60) (x 4).toInt64 else 1200).toInt32)
  have nA := q_m72_nm1 (T - 1800 + s 10003)
  have nP := q_m72_nm1 (T - s (8024 + c))
  generalize q_m72 (q_m72 (T - s (8024 + c)) - (if q_fd (dw.toInt64 * 60) (x 4).toInt64 < 1200 then q_fd (dw.toInt64 * 60) (x 4).toInt64 else 1200).toInt32) = B at hC hR nB
  generalize q_m72 (T - 1800 + s 10003) = A at hC hR nA
  generalize q_m72 (T - s (8024 + c)) = P at hC hR nP
  have kx : ∀ w, w < 4000 ∨ 4024 ≤ w → pj_u (pj_u (pj_u x (4000 + c) (if 0 < s (8016 + c) then A else -1)) (4016 + c) P) (4008 + c) B w = x w := fun w h => by rw [q_un (by omega), q_un (by omega), q_un (by omega)]
  have ku : ∀ w, w < 3000 ∨ 6008 ≤ w → pj_u (pj_u (pj_u (pj_u u (4000 + c) A) (6000 + c) P) (5000 + c) B) (3000 + c) (if 0 < s (8016 + c) then 7 else 6) w = u w := fun w h => by rw [q_un (by omega), q_un (by omega), q_un (by omega), q_un (by omega)]
  refine ⟨_, _, hC, hR, q_I_wt hI h0 ⟨?_, ?_⟩ kx ku, kx, ku⟩
  · intro d hd
    by_cases e : d = c
    · subst e
      have a1 : pj_u (pj_u (pj_u x (4000 + d) (if 0 < s (8016 + d) then A else -1)) (4016 + d) P) (4008 + d) B (4000 + d) = if 0 < s (8016 + d) then A else -1 := by rw [q_un (by omega), q_un (by omega), q_ua]
      have a2 : pj_u (pj_u (pj_u x (4000 + d) (if 0 < s (8016 + d) then A else -1)) (4016 + d) P) (4008 + d) B (4008 + d) = B := q_ua
      have a3 : pj_u (pj_u (pj_u x (4000 + d) (if 0 < s (8016 + d) then A else -1)) (4016 + d) P) (4008 + d) B (4016 + d) = P := by rw [q_un (by omega), q_ua]
      have b1 : pj_u (pj_u (pj_u (pj_u u (4000 + d) A) (6000 + d) P) (5000 + d) B) (3000 + d) (if 0 < s (8016 + d) then 7 else 6) (3000 + d) = if 0 < s (8016 + d) then 7 else 6 := q_ua
      have b2 : pj_u (pj_u (pj_u (pj_u u (4000 + d) A) (6000 + d) P) (5000 + d) B) (3000 + d) (if 0 < s (8016 + d) then 7 else 6) (4000 + d) = A := by rw [q_un (by omega), q_un (by omega), q_un (by omega), q_ua]
      have b3 : pj_u (pj_u (pj_u (pj_u u (4000 + d) A) (6000 + d) P) (5000 + d) B) (3000 + d) (if 0 < s (8016 + d) then 7 else 6) (5000 + d) = B := by rw [q_un (by omega), q_ua]
      have b4 : pj_u (pj_u (pj_u (pj_u u (4000 + d) A) (6000 + d) P) (5000 + d) B) (3000 + d) (if 0 < s (8016 + d) then 7 else 6) (6000 + d) = P := by rw [q_un (by omega), q_un (by omega), q_ua]
      rw [a1, a2, a3, b1, b2, b3, b4]
      unfold q_W1
      rw [if_neg nB, if_neg nP]
      by_cases f : 0 < s (8016 + d)
      · rw [if_pos f, if_pos f, if_neg nA]
        exact ⟨by decide, fun _ => rfl, fun _ => rfl, fun _ => rfl⟩
      · rw [if_neg f, if_neg f, if_pos rfl]
        exact ⟨by decide, fun z => absurd rfl z, fun _ => rfl, fun _ => rfl⟩
    · have z := hI.2.2.2.2.2.1.1 d hd
      have gx : ∀ q, q < 3 → pj_u (pj_u (pj_u x (4000 + c) (if 0 < s (8016 + c) then A else -1)) (4016 + c) P) (4008 + c) B (4000 + 8 * q + d) = x (4000 + 8 * q + d) := fun q hq => by rw [q_un (by omega), q_un (by omega), q_un (by omega)]
      have gu : ∀ q, q < 4 → pj_u (pj_u (pj_u (pj_u u (4000 + c) A) (6000 + c) P) (5000 + c) B) (3000 + c) (if 0 < s (8016 + c) then 7 else 6) (3000 + 1000 * q + d) = u (3000 + 1000 * q + d) := fun q hq => by rw [q_un (by omega), q_un (by omega), q_un (by omega), q_un (by omega)]
      rw [show 4000 + d = 4000 + 8 * 0 + d by omega, show 4008 + d = 4000 + 8 * 1 + d by omega, show 4016 + d = 4000 + 8 * 2 + d by omega, gx 0 (by omega), gx 1 (by omega), gx 2 (by omega), show 3000 + d = 3000 + 1000 * 0 + d by omega, gu 0 (by omega), show 4000 + 8 * 0 + d = 4000 + d by omega, show 4000 + 8 * 1 + d = 4008 + d by omega, show 4000 + 8 * 2 + d = 4016 + d by omega, show 3000 + 1000 * 0 + d = 3000 + d by omega]
      have g4 := gu 1 (by omega)
      have g5 := gu 2 (by omega)
      have g6 := gu 3 (by omega)
      rw [show 3000 + 1000 * 1 + d = 4000 + d by omega] at g4
      rw [show 3000 + 1000 * 2 + d = 5000 + d by omega] at g5
      rw [show 3000 + 1000 * 3 + d = 6000 + d by omega] at g6
      rw [g4, g5, g6]
      exact z
  · intro d hd h
    have e : ¬ d = c := by
      intro z
      subst z
      rcases h with h | h
      · rw [h] at h19; exact h19 (by decide)
      · omega
    rw [q_un (by omega), q_un (by omega), q_un (by omega), q_un (by omega)]
    exact hI.2.2.2.2.2.1.2 d hd h
end QAW

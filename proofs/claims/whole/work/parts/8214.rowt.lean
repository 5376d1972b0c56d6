/-! PURE: the face: troubles, cylinders, spoilt words -/
section QRX
variable {s x u s' x' u' : Nat → Int32} {l y v l' y' v' : Nat → Int64} {D E W : Int} {fu f k n c : Nat} {t : Int64} {a b d e : Int32}
theorem q_bool (h : a = 0 ∨ a = 1) : (if a = 0 then (0 : Int32) else 1) = a := by
  rcases h with z | z <;> rw [z] <;> rfl
theorem q_m01 (hr : q_R s) {r i : Nat} (h : r < 8) (hi : i < 28) (h0 : ¬ r = 0) (h4 : ¬ r = 4) : s (40000 + 28 * r + i) = 0 ∨ s (40000 + 28 * r + i) = 1 := by
  have z := hr (40000 + 28 * r + i)
  rw [q_rgT h hi, if_neg h0, if_neg h4] at z
  exact q_b01 z.1 z.2
theorem q_F_trouble (hV : q_V k s l x y u v) (h1 : ¬ a < 0) (h2 : a < 28) (h3 : ¬ b < 0) (h4 : ¬ 6 < b) : q_Fa (k + 1) (pf_X11_trouble a b s l x y) (pf_X12_trouble a b s l u v) := by
  have h9 : ¬ 27 < a := q_ltM (n := 27) rfl (by omega) rfl h2
  have h7 : b < Int32.ofNat 7 := by
    rw [Int32.lt_iff_toInt_lt] at h4 ⊢
    have o : (6 : Int32).toInt = 6 := rfl
    rw [q_onI (by omega)]; omega
  have q1 : pf_X12_isIn a.toInt64 0 27 s l u v = some (if a < 0 then 0 else if 27 < a then 0 else 1, s, l, u, v) := q_isI a 0 27
  have q2 : pf_X12_isIn b.toInt64 0 6 s l u v = some (if b < 0 then 0 else if 6 < b then 0 else 1, s, l, u, v) := q_isI b 0 6
  unfold pf_X11_trouble pf_X12_trouble pl_X12_trouble_30
  rw [q1, q_b, q_in1 h1 h9, if_neg q_n10, q2, q_b, q_in1 h3 h4, if_neg q_n10, if_neg q_l00, if_neg h1, if_pos h2, if_neg h3, if_neg h4]
  obtain ⟨i, hi, rfl⟩ := q_inN (n := 28) h1 h2 (by omega)
  obtain ⟨j, hj, rfl⟩ := q_inN (n := 7) h3 h7 (by omega)
  rw [q_g (show j < 8 by omega) (by omega), q_onC (show j < 2147483648 by omega), q_r (by omega), q_g hi (by omega), q_onC (by omega)]
  simp only [q_g hi (show 28 < 2147483648 by omega), q_onC (show i < 2147483648 by omega)]
  have bo : ∀ r : Nat, r < 8 → ¬ r = 0 → ¬ r = 4 → (if s (40000 + 28 * r + i) = 0 then some ((0 : Int32), s, l, pj_u u 1 0, v) else some (1, s, l, pj_u u 1 0, v)) = some (s (40000 + 28 * r + i), s, l, pj_u u 1 0, v) := by
    intro r p q t
    rcases q_m01 hV.1.1 p hi q t with z | z
    · rw [if_pos z, z]
    · rw [if_neg (by rw [z]; decide), z]
  have fin : ∀ G, G = some (s (40000 + 28 * j + i), s, l, pj_u u 1 0, v) → q_Fa (k + 1) (some (s (40000 + 28 * j + i), s, l, x, y)) G := fun G hG => q_Fa_s _ s rfl hG (q_V_s hV)
  refine fin _ ?_
  match j, hj with
  | 0, _ => rw [show 40000 + 28 * 0 + i = 40000 + i by omega]; rfl
  | 1, _ => have z := bo 1 (by omega) (by omega) (by omega); rw [show 40000 + 28 * 1 + i = 40028 + i by omega] at z ⊢; exact z
  | 2, _ => have z := bo 2 (by omega) (by omega) (by omega); rw [show 40000 + 28 * 2 + i = 40056 + i by omega] at z ⊢; exact z
  | 3, _ => have z := bo 3 (by omega) (by omega) (by omega); rw [show 40000 + 28 * 3 + i = 40084 + i by omega] at z ⊢; exact z
  | 4, _ => rw [show 40000 + 28 * 4 + i = 40112 + i by omega]; rfl
  | 5, _ => have z := bo 5 (by omega) (by omega) (by omega); rw [show 40000 + 28 * 5 + i = 40140 + i by omega] at z ⊢; exact z
  | 6, _ => have z := bo 6 (by omega) (by omega) (by omega); rw [show 40000 + 28 * 6 + i = 40168 + i by omega] at z ⊢; exact z
theorem q_F_trouble0 (hV : q_V k s l x y u v) (h : (a < 0 ∨ ¬ a < 28) ∨ (b < 0 ∨ 6 < b)) : q_Rf (k + 1) 1 s l x y (pf_X12_trouble a b s l u v) := by
  have q1 : pf_X12_isIn a.toInt64 0 27 s l u v = some (if a < 0 then 0 else if 27 < a then 0 else 1, s, l, u, v) := q_isI a 0 27
  have q2 : pf_X12_isIn b.toInt64 0 6 s l u v = some (if b < 0 then 0 else if 6 < b then 0 else 1, s, l, u, v) := q_isI b 0 6
  unfold pf_X12_trouble pl_X12_trouble_25 pl_X12_trouble_30
  rw [q1, q_b, if_pos q_l01]
  by_cases c : (if a < 0 then (0 : Int32) else if 27 < a then 0 else 1) = 0
  · rw [if_pos c]
    exact q_Rf_s 0 1 rfl hV
  · rw [if_neg c, q2, q_b, q_in0 (h.resolve_left (fun z => c (q_in0 (q_ltN (n := 27) (m := 27) rfl (by omega) (N := 28) rfl z)))), if_pos rfl]
    exact q_Rf_s 0 1 rfl hV
-- limits
theorem q_F_limits (hV : q_V k s l x y u v) (h1 : ¬ a < 0) (h2 : a < 10) (p1 : ¬ b < 0) (p2 : ¬ 1023 < b) (p3 : ¬ d < 0) (p4 : ¬ 1023 < d) (p5 : ¬ e < 0) (p6 : ¬ 1023 < e) (p7 : ¬ d < b) (h0 : s 94 = 0) : q_Fa (k + 1) (pf_X11_limits a b d e s l x y) (pf_X12_limits a b d e s l u v) := by
  have h9 : ¬ 9 < a := q_ltM (n := 9) rfl (by omega) rfl h2
  have q1 : pf_X12_isIn a.toInt64 0 9 s l u v = some (if a < 0 then 0 else if 9 < a then 0 else 1, s, l, u, v) := q_isI a 0 9
  have q2 : pf_X12_isIn b.toInt64 0 1023 s l u v = some (if b < 0 then 0 else if 1023 < b then 0 else 1, s, l, u, v) := q_isI b 0 1023
  have q3 : pf_X12_isIn d.toInt64 0 1023 s l u v = some (if d < 0 then 0 else if 1023 < d then 0 else 1, s, l, u, v) := q_isI d 0 1023
  have q4 : pf_X12_isIn e.toInt64 0 1023 s l u v = some (if e < 0 then 0 else if 1023 < e then 0 else 1, s, l, u, v) := q_isI e 0 1023
  unfold pf_X11_limits pf_X12_limits pl_X12_limits_47 pl_X12_limits_87
  rw [q2, q_b, q_in1 p1 p2, if_neg q_n10, q3, q_b, q_in1 p3 p4, if_neg q_n10, q4, q_b, q_in1 p5 p6, if_neg q_n10, if_neg p7, q1, q_b, q_in1 h1 h9, if_neg q_n10, if_neg q_n10, if_pos h0, if_pos rfl]
  rw [if_neg h1, if_pos h2, q_raw, q_b, q_in1 p1 p2, if_neg q_n10, q_raw, q_b, q_in1 p3 p4, if_neg q_n10, q_raw, q_b, q_in1 p5 p6, if_neg q_n10, if_neg p7, if_pos h0]
  obtain ⟨i, hi, rfl⟩ := q_inN (n := 10) h1 h2 (by omega)
  simp only [q_g hi (show 10 < 2147483648 by omega), q_onC (show i < 2147483648 by omega)]
  obtain ⟨b1, b2, -⟩ := q_inr p1 p2
  obtain ⟨d1, d2, -⟩ := q_inr p3 p4
  obtain ⟨e1, e2, -⟩ := q_inr p5 p6
  have g : ∀ r : Nat, r = 31 ∨ r = 32 ∨ r = 33 → q_rg (1000 * r + i) = (0, 1023) := by
    intro r hr
    unfold q_rg
    rw [show (1000 * r + i) / 1000 = r by omega]
    rcases hr with z | z | z <;> rw [z] <;> rfl
  have g1 := g 31 (by omega)
  have g2 := g 32 (by omega)
  have g3 := g 33 (by omega)
  rw [show 1000 * 31 + i = 31000 + i by omega] at g1
  rw [show 1000 * 32 + i = 32000 + i by omega] at g2
  rw [show 1000 * 33 + i = 33000 + i by omega] at g3
  refine q_Fa_s () _ rfl rfl (q_V_fo hV (q_R_u (q_R_u (q_R_u hV.1.1 (by rw [g1]; exact ⟨b1, b2⟩)) (by rw [g2]; exact ⟨d1, d2⟩)) (by rw [g3]; exact ⟨e1, e2⟩)) ?_ ?_)
  · intro w hw
    unfold q_Ss at hw
    rw [q_un (by omega), q_un (by omega), q_un (by omega)]
  · intro _ w a h
    have := (q_rsF h).2.2.1
    rw [q_un (by omega), q_un (by omega), q_un (by omega)]
end QRX

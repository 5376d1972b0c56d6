/-! PURE: the face: limits refused, units, spoilt words, cylinders -/
section QRY
variable {s x u s' x' u' : Nat → Int32} {l y v l' y' v' : Nat → Int64} {D E W : Int} {fu f k n c : Nat} {t : Int64} {a b d e : Int32}
-- limits: what the reference says
theorem q_limR : pf_X12_limits a b d e s l u v = pl_X12_limits_47 a b d e (if ((b < 0 ∨ 1023 < b) ∨ (d < 0 ∨ 1023 < d) ∨ (e < 0 ∨ 1023 < e) ∨ d < b) then 0 else 1) s l u v := by
  have q2 : pf_X12_isIn b.toInt64 0 1023 s l u v = some (if b < 0 then 0 else if 1023 < b then 0 else 1, s, l, u, v) := q_isI b 0 1023
  have q3 : pf_X12_isIn d.toInt64 0 1023 s l u v = some (if d < 0 then 0 else if 1023 < d then 0 else 1, s, l, u, v) := q_isI d 0 1023
  have q4 : pf_X12_isIn e.toInt64 0 1023 s l u v = some (if e < 0 then 0 else if 1023 < e then 0 else 1, s, l, u, v) := q_isI e 0 1023
  unfold pf_X12_limits pl_X12_limits_46
  rw [q2, q_b]
  by_cases c1 : b < 0 ∨ 1023 < b
  · rw [q_in0 c1, if_pos rfl, if_pos (Or.inl c1)]
  · rw [q_in1 (fun z => c1 (Or.inl z)) (fun z => c1 (Or.inr z)), if_neg q_n10, q3, q_b]
    by_cases c2 : d < 0 ∨ 1023 < d
    · rw [q_in0 c2, if_pos rfl, if_pos (Or.inr (Or.inl c2))]
    · rw [q_in1 (fun z => c2 (Or.inl z)) (fun z => c2 (Or.inr z)), if_neg q_n10, q4, q_b]
      by_cases c3 : e < 0 ∨ 1023 < e
      · rw [q_in0 c3, if_pos rfl, if_pos (Or.inr (Or.inr (Or.inl c3)))]
      · rw [q_in1 (fun z => c3 (Or.inl z)) (fun z => c3 (Or.inr z)), if_neg q_n10]
        by_cases c4 : d < b
        · rw [if_pos c4, if_pos (Or.inr (Or.inr (Or.inr c4)))]
        · rw [if_neg c4, if_neg]
          rintro (z | z | z | z)
          · exact c1 z
          · exact c2 z
          · exact c3 z
          · exact c4 z
theorem q_F_limits1 (hV : q_V k s l x y u v) (h : a < 0 ∨ ¬ a < 10) : q_Rf (k + 1) 1 s l x y (pf_X12_limits a b d e s l u v) := by
  have q1 : pf_X12_isIn a.toInt64 0 9 s l u v = some (if a < 0 then 0 else if 9 < a then 0 else 1, s, l, u, v) := q_isI a 0 9
  rw [q_limR]
  unfold pl_X12_limits_47 pl_X12_limits_87
  rw [q1, q_b, q_in0 (q_ltN (n := 9) (m := 9) rfl (by omega) (N := 10) rfl h), if_pos rfl, if_neg q_n10]
  exact q_Rf_s () 1 rfl hV
theorem q_F_limits2 (hV : q_V k s l x y u v) (h1 : ¬ a < 0) (h2 : a < 10) (h : (b < 0 ∨ 1023 < b) ∨ (d < 0 ∨ 1023 < d) ∨ (e < 0 ∨ 1023 < e) ∨ d < b) : q_Rf (k + 1) 2 s l x y (pf_X12_limits a b d e s l u v) := by
  have h9 : ¬ 9 < a := q_ltM (n := 9) rfl (by omega) rfl h2
  have q1 : pf_X12_isIn a.toInt64 0 9 s l u v = some (if a < 0 then 0 else if 9 < a then 0 else 1, s, l, u, v) := q_isI a 0 9
  rw [q_limR, if_pos h]
  unfold pl_X12_limits_47 pl_X12_limits_87
  rw [q1, q_b, q_in1 h1 h9, if_neg q_n10, if_pos rfl, if_neg (show ¬ (2 : Int32) = 0 by decide)]
  exact q_Rf_s () 2 rfl hV
theorem q_F_limits3 (hV : q_V k s l x y u v) (h1 : ¬ a < 0) (h2 : a < 10) (h : ¬ ((b < 0 ∨ 1023 < b) ∨ (d < 0 ∨ 1023 < d) ∨ (e < 0 ∨ 1023 < e) ∨ d < b)) (h0 : ¬ s 94 = 0) : q_Rf (k + 1) 3 s l x y (pf_X12_limits a b d e s l u v) := by
  have h9 : ¬ 9 < a := q_ltM (n := 9) rfl (by omega) rfl h2
  have q1 : pf_X12_isIn a.toInt64 0 9 s l u v = some (if a < 0 then 0 else if 9 < a then 0 else 1, s, l, u, v) := q_isI a 0 9
  rw [q_limR, if_neg h]
  unfold pl_X12_limits_47 pl_X12_limits_87
  rw [q1, q_b, q_in1 h1 h9, if_neg q_n10, if_neg q_n10, if_neg h0, if_neg (show ¬ (3 : Int32) = 0 by decide)]
  exact q_Rf_s () 3 rfl hV
-- unit
theorem q_rg1 {i : Nat} (h : i < 1000) : q_rg (1000 + i) = (0, 126) := by
  unfold q_rg
  rw [show (1000 + i) / 1000 = 1 by omega]
  rfl
theorem q_F_unit (hV : q_V k s l x y u v) : q_Fa (k + 1) (pf_X11_unit a s l x y) (pf_X12_unit a s l u v) := by
  have q1 : pf_X12_isIn a.toInt64 32 126 s l (pj_u u 1 0) v = some (if a < 32 then 0 else if 126 < a then 0 else 1, s, l, pj_u u 1 0, v) := q_isI a 32 126
  have r1 := q_R1 hV.1.1
  have o : (200 : Int32).toInt = 200 := rfl
  unfold pf_X11_unit pf_X12_unit pf_X0_addUnit
  rw [q1, q_b]
  by_cases c : s 1 < 200
  · have n : ¬ s 1 = 200 := by
      intro z
      rw [z] at c
      exact absurd c (by decide)
    rw [if_pos c]
    by_cases c1 : a < 32 ∨ 126 < a
    · rw [q_in0 c1, if_pos rfl]
      have e : (if a < 32 then some ((0 : Int32), s, l, x, y) else (if 126 < a then some (0, s, l, x, y) else pj_g (s 1) 200 (some (1, (pj_u (pj_u s (1000 + (s 1).toNatClampNeg) a) 1 ((pj_u s (1000 + (s 1).toNatClampNeg) a) 1 + 1)), l, x, y)))) = some (0, s, l, x, y) := by
        by_cases d : a < 32
        · rw [if_pos d]
        · rw [if_neg d, if_pos (c1.resolve_left d)]
      rw [e, q_b, q_bz0]
      exact q_Fa_s _ s rfl rfl (q_V_s hV)
    · have n1 : ¬ a < 32 := fun z => c1 (Or.inl z)
      have n2 : ¬ 126 < a := fun z => c1 (Or.inr z)
      rw [q_in1 n1 n2, if_neg q_n10, if_neg n, if_neg n1, if_neg n2]
      rw [Int32.lt_iff_toInt_lt, o] at c
      rw [q_gI r1.1 (by omega) (by omega), q_gI r1.1 (by omega) (by omega), q_b, q_bz1]
      have ec : (s 1).toNatClampNeg = (s 1).toInt.toNat := rfl
      have e1 : pj_u s (1000 + (s 1).toNatClampNeg) a 1 = s 1 := q_un (by omega)
      rw [e1]
      have o1 : (1 : Int32).toInt = 1 := rfl
      have e2 : (s 1 + 1).toInt = (s 1).toInt + 1 := q_one (by omega) (by omega)
      have ra : 0 ≤ a.toInt ∧ a.toInt ≤ 126 := by
        rw [Int32.lt_iff_toInt_lt] at n1 n2
        have o32 : (32 : Int32).toInt = 32 := rfl
        have o126 : (126 : Int32).toInt = 126 := rfl
        omega
      refine q_Fa_s _ _ rfl rfl (q_V_fo hV (q_R_u (q_R_u hV.1.1 (by rw [q_rg1 (by omega)]; exact ra)) (by rw [e2]; exact (by omega : 0 ≤ (s 1).toInt + 1 ∧ (s 1).toInt + 1 ≤ 200))) ?_ ?_)
      · intro w hw
        unfold q_Ss at hw
        rw [q_un (by omega), q_un (by omega)]
      · intro _ w a h
        have := (q_rsF h).2.2.2.2
        rw [q_un (q_rsN h 1 rfl), q_un (by omega)]
  · have n : s 1 = 200 := by
      rw [Int32.lt_iff_toInt_lt, o] at c
      rw [← Int32.toInt_inj, o]; omega
    rw [if_neg c, q_b, q_bz0, if_pos n]
    have e : (if (if a < 32 then (0 : Int32) else if 126 < a then 0 else 1) = 0 then some ((0 : Int32), s, l, pj_u u 1 0, v) else some (0, s, l, pj_u u 1 0, v)) = some (0, s, l, pj_u u 1 0, v) := ite_self _
    rw [e]
    exact q_Fa_s _ s rfl rfl (q_V_s hV)
-- spoil, tear
theorem q_I_vd (h : q_I D E W s l x y u v) (hr : q_R s') (g : ∀ w, (w < 13000 ∨ 15000 ≤ w) → s' w = s w) (hv : q_Vd s' x') (kx : ∀ w, (w < 2000 ∨ 3002 ≤ w) → x' w = x w) : q_I D E W s' l x' y u v := by
  obtain ⟨-, h2, h3, h4, h5, h6, h7, h8, h9, h10, h11, h12, h13, h14⟩ := h
  refine ⟨hr, q_Ln_c h2 ?_ ?_, q_Ct_c h3 rfl ?_ ?_ ?_ ?_ rfl rfl rfl rfl, q_Wl_c h4 ?_ ?_ ?_ rfl rfl ?_ ?_ ?_ ?_ rfl rfl rfl, q_Pl_c h5 rfl ?_ rfl rfl rfl rfl rfl rfl rfl, q_Wt_c h6 ?_ ?_ ?_ (fun _ _ _ => rfl), q_Fg_c h7 ?_ ?_ ?_ ?_ rfl ?_ ?_ ?_ ?_ ?_ ?_ rfl rfl rfl rfl rfl rfl rfl rfl rfl, q_Fm_c h8 ?_ ?_ (fun _ _ _ => rfl), q_Rc_c h9 rfl ?_ ?_ ?_ rfl rfl, hv, h11, q_Pg_c h12 ?_ ?_ rfl (fun _ _ _ => rfl), q_Es_c h13 ?_ (fun w hw => g w (by omega)) ?_ rfl (fun _ _ _ => rfl) ?_ (fun _ _ _ => rfl) (q_Ld_i (g 70 (by omega)) (fun j _ => g _ (by omega)) (kx 21 (by omega))), ?_⟩
  all_goals try (intro w a b)
  all_goals first
    | (apply g; omega)
    | (apply kx; omega)
    | skip
  intro z
  rw [g 94 (by omega)] at z
  obtain ⟨o1, o2⟩ := h14 z
  exact ⟨fun w a e => by rw [g w (by have := (q_rsF e).1; omega)]; exact o1 w a e, o2⟩
theorem q_R_13 (hr : q_R s) {w : Nat} (h : 13000 ≤ w ∧ w < 15000) : q_R (pj_u s w a) := by
  refine q_R_u hr ?_
  have g : q_rg w = (-2147483648, 2147483647) := by
    unfold q_rg
    have : w / 1000 = 13 ∨ w / 1000 = 14 := by omega
    rcases this with z | z <;> rw [z] <;> rfl
  rw [g]; exact q_R_any
theorem q_V_x (hV : q_V k s l x y u v) (hI : q_I 0 (500000 * k) (200000 * k) s' l x' y (pj_u u 1 0) v) (g94 : s' 94 = s 94) (g95 : s' 95 = s 95) (k1 : x' 1 = x 1) (k2 : x' 2 = x 2) : q_V (k + 1) s' l x' y (pj_u u 1 0) v := by
  refine q_V_m ⟨by rw [q_uu]; exact hI, ?_, ?_, hV.2.2.2⟩
  · have hK := hV.2.1
    unfold q_Kl at hK ⊢
    rw [k1, k2]; exact hK
  · have hA := hV.2.2.1
    unfold q_Af at hA ⊢
    rw [g94, g95]; exact hA
theorem q_F_spoil (hV : q_V k s l x y u v) (h1 : ¬ a < 0) (h2 : ¬ 1 < a) (h3 : ¬ b < 0) (h4 : b < 55) (h0 : s 94 = 0) : q_Fa (k + 1) (pf_X11_spoil a b d s l x y) (pf_X12_spoil a b d s l u v) := by
  have h5 : ¬ 54 < b := q_ltM (n := 54) rfl (by omega) rfl h4
  unfold pf_X12_spoil pf_X11_spoil pl_X12_spoil_25
  rw [q_noW, q_b, q_in1 h1 h2, if_neg q_n10, q_in1 h3 h5, if_neg q_n10, if_pos rfl, if_pos h0, if_neg q_l00, if_neg h1, if_neg h2, if_neg h3, if_pos h4, if_pos h0]
  obtain ⟨i, hi, rfl⟩ := q_2N h1 h2
  obtain ⟨j, hj, rfl⟩ := q_inN (n := 55) h3 h4 (by omega)
  have e : (55 : Int32) * Int32.ofNat i + Int32.ofNat j = Int32.ofNat (55 * i + j) := q_mul55 (m := 55) hi hj (by omega)
  rw [e]
  simp only [q_g hi (show 2 < 2147483648 by omega), q_onC (show i < 2147483648 by omega), q_r hi, q_g hj (show 55 < 2147483648 by omega), q_onC (show j < 2147483648 by omega), q_g (show 55 * i + j < 110 by omega) (show 110 < 2147483648 by omega), q_onC (show 55 * i + j < 2147483648 by omega)]
  rw [show 13000 + (55 * i + j) = 13000 + 55 * i + j by omega, q_lookOver, q_b]
  have hv := hV.1.2.2.2.2.2.2.2.2.2.1
  have vB : q_valB (pj_u s (13000 + 55 * i + j) d) = q_valB s ∧ q_headB (pj_u s (13000 + 55 * i + j) d) = q_headB s := q_valB_c (fun w _ _ => q_un (by omega))
  refine ⟨_, _, _, _, _, _, _, rfl, rfl, q_ua, q_V_x hV (q_I_vd hV.1 (q_R_13 hV.1.1 (by omega)) (fun w h => q_un (by omega)) ?_ ?_) (q_un (by omega)) (q_un (by omega)) ?_ ?_⟩
  · unfold q_Vd at hv ⊢
    rw [vB.1, vB.2]
    refine ⟨?_, ?_, ?_, ?_⟩
    · rw [q_un (by omega), q_ua]
    · rw [q_ua]
    · rw [q_un (by omega), q_un (by omega)]; exact hv.2.2.1
    · rw [q_un (by omega), q_un (by omega)]; exact hv.2.2.2
  · intro w h; rw [q_un (by omega), q_un (by omega)]
  · rw [q_un (by omega), q_un (by omega)]
  · rw [q_un (by omega), q_un (by omega)]
theorem q_F_spoil1 (hV : q_V k s l x y u v) (h : (a < 0 ∨ 1 < a) ∨ (b < 0 ∨ ¬ b < 55)) : q_Rf (k + 1) 1 s l x y (pf_X12_spoil a b d s l u v) := by
  unfold pf_X12_spoil pl_X12_spoil_25
  have e : (if (if a < 0 then (0 : Int32) else if 1 < a then 0 else 1) = 0 then (1 : Int32) else if (if b < 0 then (0 : Int32) else if 54 < b then 0 else 1) = 0 then 1 else 0) = 1 := by
    rcases h with h | h
    · rw [q_in0 h, if_pos rfl]
    · rw [q_in0 (q_ltN (n := 54) (m := 54) rfl (by omega) (N := 55) rfl h)]
      generalize (if a < 0 then (0 : Int32) else if 1 < a then 0 else 1) = p
      rw [if_pos rfl]; split <;> rfl
  rw [q_noW, q_b, e, if_neg q_n10, if_pos q_l01]
  exact q_Rf_s 0 1 rfl hV
theorem q_F_spoil2 (hV : q_V k s l x y u v) (h1 : ¬ a < 0) (h2 : ¬ 1 < a) (h3 : ¬ b < 0) (h4 : b < 55) (h0 : ¬ s 94 = 0) : q_Rf (k + 1) 2 s l x y (pf_X12_spoil a b d s l u v) := by
  have h5 : ¬ 54 < b := q_ltM (n := 54) rfl (by omega) rfl h4
  unfold pf_X12_spoil pl_X12_spoil_25
  rw [q_noW, q_b, q_in1 h1 h2, if_neg q_n10, q_in1 h3 h5, if_neg q_n10, if_pos rfl, if_neg h0, if_pos q_l02]
  exact q_Rf_s 0 2 rfl hV
theorem q_F_tear (hV : q_V k s l x y u v) (h1 : ¬ a < 0) (h2 : ¬ 1 < a) (h3 : ¬ b < 0) (h4 : b < 34) (h0 : s 94 = 0) : q_Fa (k + 1) (pf_X11_tear a b d s l x y) (pf_X12_tear a b d s l u v) := by
  have h5 : ¬ 33 < b := q_ltM (n := 33) rfl (by omega) rfl h4
  unfold pf_X12_tear pf_X11_tear pl_X12_tear_25
  rw [q_noP, q_b, q_in1 h1 h2, if_neg q_n10, q_in1 h3 h5, if_neg q_n10, if_pos rfl, if_pos h0, if_neg q_l00, if_neg h1, if_neg h2, if_neg h3, if_pos h4, if_pos h0]
  obtain ⟨i, hi, rfl⟩ := q_2N h1 h2
  obtain ⟨j, hj, rfl⟩ := q_inN (n := 34) h3 h4 (by omega)
  have e : (34 : Int32) * Int32.ofNat i + Int32.ofNat j = Int32.ofNat (34 * i + j) := q_mul55 (m := 34) hi hj (by omega)
  rw [e]
  simp only [q_g hi (show 2 < 2147483648 by omega), q_onC (show i < 2147483648 by omega), q_r hi, q_g hj (show 34 < 2147483648 by omega), q_onC (show j < 2147483648 by omega), q_g (show 34 * i + j < 68 by omega) (show 68 < 2147483648 by omega), q_onC (show 34 * i + j < 2147483648 by omega)]
  rw [show 14000 + (34 * i + j) = 14000 + 34 * i + j by omega, q_lookOverB, q_b]
  have hv := hV.1.2.2.2.2.2.2.2.2.2.1
  have vA : q_val (pj_u s (14000 + 34 * i + j) d) = q_val s ∧ q_head (pj_u s (14000 + 34 * i + j) d) = q_head s := q_val_c (fun w _ _ => q_un (by omega))
  refine ⟨_, _, _, _, _, _, _, rfl, rfl, q_ua, q_V_x hV (q_I_vd hV.1 (q_R_13 hV.1.1 (by omega)) (fun w h => q_un (by omega)) ?_ ?_) (q_un (by omega)) (q_un (by omega)) ?_ ?_⟩
  · unfold q_Vd at hv ⊢
    rw [vA.1, vA.2]
    refine ⟨?_, ?_, ?_, ?_⟩
    · rw [q_un (by omega), q_un (by omega)]; exact hv.1
    · rw [q_un (by omega), q_un (by omega)]; exact hv.2.1
    · rw [q_un (by omega), q_ua]
    · rw [q_ua]
  · intro w h; rw [q_un (by omega), q_un (by omega)]
  · rw [q_un (by omega), q_un (by omega)]
  · rw [q_un (by omega), q_un (by omega)]
theorem q_F_tear1 (hV : q_V k s l x y u v) (h : (a < 0 ∨ 1 < a) ∨ (b < 0 ∨ ¬ b < 34)) : q_Rf (k + 1) 1 s l x y (pf_X12_tear a b d s l u v) := by
  unfold pf_X12_tear pl_X12_tear_25
  have e : (if (if a < 0 then (0 : Int32) else if 1 < a then 0 else 1) = 0 then (1 : Int32) else if (if b < 0 then (0 : Int32) else if 33 < b then 0 else 1) = 0 then 1 else 0) = 1 := by
    rcases h with h | h
    · rw [q_in0 h, if_pos rfl]
    · rw [q_in0 (q_ltN (n := 33) (m := 33) rfl (by omega) (N := 34) rfl h)]
      generalize (if a < 0 then (0 : Int32) else if 1 < a then 0 else 1) = p
      rw [if_pos rfl]; split <;> rfl
  rw [q_noP, q_b, e, if_neg q_n10, if_pos q_l01]
  exact q_Rf_s 0 1 rfl hV
theorem q_F_tear2 (hV : q_V k s l x y u v) (h1 : ¬ a < 0) (h2 : ¬ 1 < a) (h3 : ¬ b < 0) (h4 : b < 34) (h0 : ¬ s 94 = 0) : q_Rf (k + 1) 2 s l x y (pf_X12_tear a b d s l u v) := by
  have h5 : ¬ 33 < b := q_ltM (n := 33) rfl (by omega) rfl h4
  unfold pf_X12_tear pl_X12_tear_25
  rw [q_noP, q_b, q_in1 h1 h2, if_neg q_n10, q_in1 h3 h5, if_neg q_n10, if_pos rfl, if_neg h0, if_pos q_l02]
  exact q_Rf_s 0 2 rfl hV
end QRY

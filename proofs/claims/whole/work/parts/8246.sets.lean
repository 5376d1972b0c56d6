/-! PURE: the face: what is set while OFF -/
section QST
variable {s x u s' x' u' : Nat → Int32} {l y v l' y' v' : Nat → Int64} {D E W : Int} {fu f k n : Nat} {t : Int64} {a b d e p r g : Int32}
theorem q_I_set (hI : q_I D E W s l x y u v) (h0 : s 94 = 0) {S : Nat → Int32} (hr : q_R S) (g : ∀ w, q_Ss w → ¬ (10000 ≤ w ∧ w < 11016) → ¬ (26000 ≤ w ∧ w < 29000) → S w = s w) (go : ∀ w a, q_rs w = some a → S w = s w) (hl : q_Ln S) : q_I D E W S l x y u v := by
  obtain ⟨-, h2, h3, h4, h5, h6, h7, h8, h9, h10, h11, h12, h13, h14⟩ := hI
  obtain ⟨o1, o2⟩ := h14 h0
  obtain ⟨⟨n, ev, tm⟩, hx⟩ := h13
  have hn := ev.2.1
  have G : ∀ w, (w = 37000 ∨ (39000 ≤ w ∧ w < 39016) ∨ w = 6 ∨ w = 19 ∨ w = 40 ∨ w = 44 ∨ w = 3 ∨ w = 4 ∨ w = 7 ∨ w = 8 ∨ w = 54 ∨ w = 63 ∨ w = 65 ∨ w = 95 ∨ w = 57 ∨ w = 62 ∨ w = 67 ∨ w = 70 ∨ w = 87 ∨ w = 94 ∨ (13000 ≤ w ∧ w < 15000) ∨ (17000 ≤ w ∧ w < 17064)) → S w = s w := fun w hw => g w (by unfold q_Ss; omega) (by omega) (by omega)
  refine ⟨hr, hl, h3, ?_, h5, ⟨h6.1, ?_⟩, q_Fg_c h7 (G _ (by omega)) (G _ (by omega)) (G _ (by omega)) (G _ (by omega)) rfl rfl rfl rfl rfl rfl rfl rfl rfl rfl rfl rfl rfl rfl rfl rfl, q_Fm_c h8 (G _ (by omega)) (fun _ _ _ => rfl) (fun _ _ _ => rfl), h9, q_Vd_c h10 (fun w _ _ => G w (by omega)) (fun _ _ _ => rfl), h11, h12, ⟨⟨n, q_Ev_c ev (G _ (by omega)) (fun i _ => G _ (by omega)) (fun _ _ => rfl) (fun _ _ => rfl) (fun _ _ => rfl) (fun _ _ => rfl) (fun c _ => by rw [Int32.sub_self, Int32.sub_self]), tm⟩, ?_⟩, ?_⟩
  · unfold q_Wl at h4 ⊢
    unfold q_wh at h4 ⊢
    rw [q_sp_c (x' := x) (G 19 (by omega)) rfl, G 19 (by omega)]
    exact ⟨h4.1, h4.2.1, h4.2.2.1, h4.2.2.2.1, h4.2.2.2.2.1, h4.2.2.2.2.2.1, h4.2.2.2.2.2.2.1, h4.2.2.2.2.2.2.2.1, h4.2.2.2.2.2.2.2.2.1, h4.2.2.2.2.2.2.2.2.2.1, fun z => absurd (by rw [G 94 (by omega)]; exact h0) z⟩
  · intro c hc _
    exact o2.2.2.2.2.2.2.2.1 c hc
  · unfold q_Ex at hx ⊢
    rw [G 54 (by omega), G 7 (by omega), G 8 (by omega), G 6 (by omega), G 94 (by omega), G 95 (by omega), G 63 (by omega), G 65 (by omega), G 3 (by omega), G 4 (by omega), G 44 (by omega), G 62 (by omega), G 37000 (by omega), q_Ld_c (x' := x) (x := x) (G 70 (by omega)) (fun j _ => G _ (by omega)) rfl]
    exact hx
  · intro _
    exact ⟨fun w a e => by rw [go w a e]; exact o1 w a e, o2⟩
-- calibrate
theorem q_rg10 {i : Nat} (h : i < 1000) : q_rg (10000 + i) = ((pj_xf 3 i).toInt, (pj_xf 4 i).toInt) := by
  unfold q_rg
  rw [show (10000 + i) / 1000 = 10 by omega, show 10000 + i - 10000 = i by omega]
  rfl
theorem q_calC {i : Nat} (hi : i < 24) (b : Int32) : pf_X4_isNumber (Int32.ofNat i) b s l x y = some (if b < pj_xf 3 i then 0 else if pj_xf 4 i < b then 0 else 1, s, l, x, y) := by
  unfold pf_X4_isNumber
  have e : Int32.ofNat i < 24 := by rw [q_onltL (by omega) (by omega)]; omega
  rw [if_neg (q_onnn (by omega)), if_pos e, q_g (by omega) (by omega), q_g (by omega) (by omega), q_onC (by omega)]
  split
  · rfl
  · split <;> rfl
theorem q_calR (hV : q_V k s l x y u v) (h1 : ¬ a < 0) (h2 : a < 24) : ∃ i : Nat, i < 24 ∧ a = Int32.ofNat i ∧ pf_X12_calibrate a b s l u v = (if b < pj_xf 3 i ∨ pj_xf 4 i < b then pl_X12_calibrate_57 a b 2 s l u v else if s 94 = 0 then pl_X12_calibrate_57 a b 0 s l u v else pl_X12_calibrate_57 a b 3 s l u v) := by
  have q1 : pf_X12_isIn a.toInt64 0 23 s l u v = some (if a < 0 then 0 else if 23 < a then 0 else 1, s, l, u, v) := q_isI a 0 23
  have n2 : ¬ 23 < a := q_ltM (n := 23) rfl (by omega) rfl h2
  obtain ⟨i, hi, rfl⟩ := q_inN (n := 24) h1 h2 (by omega)
  refine ⟨i, hi, rfl, ?_⟩
  have kn := hV.1.2.2.2.2.2.2.2.2.2.2.1.1 i hi
  rw [q_un (by omega), q_un (by omega)] at kn
  unfold pf_X12_calibrate
  rw [q1, q_b, q_in1 h1 n2, if_neg q_n10, q_g (by omega) (by omega), q_g (by omega) (by omega), q_onC (by omega), kn.1, kn.2, q_isI, q_b]
  by_cases c : b < pj_xf 3 i ∨ pj_xf 4 i < b
  · rw [q_in0 c, if_pos rfl, if_pos c]
  · rw [if_neg c, q_in1 (fun z => c (Or.inl z)) (fun z => c (Or.inr z)), if_neg q_n10]
theorem q_F_calibrate (hV : q_V k s l x y u v) (h1 : ¬ a < 0) (h2 : a < 24) (h3 : ¬ (if b < pj_xf 3 a.toNatClampNeg then (0 : Int32) else if pj_xf 4 a.toNatClampNeg < b then 0 else 1) = 0) (h4 : s 94 = 0) : q_Fa (k + 1) (pf_X11_calibrate a b s l x y) (pf_X12_calibrate a b s l u v) := by
  obtain ⟨i, hi, rfl, e⟩ := q_calR (b := b) hV h1 h2
  rw [q_onC (by omega)] at h3
  have c1 : ¬ b < pj_xf 3 i := fun z => h3 (if_pos z)
  have c2 : ¬ pj_xf 4 i < b := fun z => h3 (by rw [if_neg c1, if_pos z])
  rw [e, if_neg (by intro z; rcases z with z | z; exact c1 z; exact c2 z), if_pos h4]
  unfold pf_X11_calibrate pl_X12_calibrate_57
  rw [if_neg h1, if_pos h2, q_calC hi, q_b, if_neg h3, if_pos h4, if_neg q_l00]
  simp only [q_g hi (show 24 < 2147483648 by omega), q_onC (show i < 2147483648 by omega)]
  rw [Int32.lt_iff_toInt_lt] at c1 c2
  refine q_Fa_s _ _ rfl rfl (q_V_I hV (q_I_set hV.1 h4 (q_R_u hV.1.1 (by rw [q_rg10 (by omega)]; exact ⟨by omega, by omega⟩)) (fun w _ p _ => q_un (by omega)) (fun w a h => q_un ?_) (q_Ln_c hV.1.2.1 (fun w _ _ => q_un (by omega)) (fun w _ _ => q_un (by omega)))) (q_un (by omega)) (q_un (by omega)))
  have := q_rsF h
  omega
theorem q_F_calibrate1 (hV : q_V k s l x y u v) (h : a < 0 ∨ ¬ a < 24) : q_Rf (k + 1) 1 s l x y (pf_X12_calibrate a b s l u v) := by
  have q1 : pf_X12_isIn a.toInt64 0 23 s l u v = some (if a < 0 then 0 else if 23 < a then 0 else 1, s, l, u, v) := q_isI a 0 23
  unfold pf_X12_calibrate pl_X12_calibrate_57
  rw [q1, q_b, q_in0 (q_ltN (n := 23) rfl (by omega) rfl h), if_pos rfl, if_pos q_l01]
  exact q_Rf_s 0 1 rfl hV
theorem q_F_calibrate2 (hV : q_V k s l x y u v) (h1 : ¬ a < 0) (h2 : a < 24) (h3 : (if b < pj_xf 3 a.toNatClampNeg then (0 : Int32) else if pj_xf 4 a.toNatClampNeg < b then 0 else 1) = 0) : q_Rf (k + 1) 2 s l x y (pf_X12_calibrate a b s l u v) := by
  obtain ⟨i, hi, rfl, e⟩ := q_calR (b := b) hV h1 h2
  rw [q_onC (by omega)] at h3
  have c : b < pj_xf 3 i ∨ pj_xf 4 i < b := by
    by_cases c1 : b < pj_xf 3 i
    · exact Or.inl c1
    · rw [if_neg c1] at h3
      by_cases c2 : pj_xf 4 i < b
      · exact Or.inr c2
      · rw [if_neg c2] at h3; exact absurd h3 q_n10
  rw [e, if_pos c]
  unfold pl_X12_calibrate_57
  rw [if_pos q_l02]
  exact q_Rf_s 0 2 rfl hV
theorem q_F_calibrate3 (hV : q_V k s l x y u v) (h1 : ¬ a < 0) (h2 : a < 24) (h3 : ¬ (if b < pj_xf 3 a.toNatClampNeg then (0 : Int32) else if pj_xf 4 a.toNatClampNeg < b then 0 else 1) = 0) (h4 : ¬ s 94 = 0) : q_Rf (k + 1) 3 s l x y (pf_X12_calibrate a b s l u v) := by
  obtain ⟨i, hi, rfl, e⟩ := q_calR (b := b) hV h1 h2
  rw [q_onC (by omega)] at h3
  have c1 : ¬ b < pj_xf 3 i := fun z => h3 (if_pos z)
  have c2 : ¬ pj_xf 4 i < b := fun z => h3 (by rw [if_neg c1, if_pos z])
  rw [e, if_neg (by intro z; rcases z with z | z; exact c1 z; exact c2 z), if_neg h4]
  unfold pl_X12_calibrate_57
  rw [if_pos q_l03]
  exact q_Rf_s 0 3 rfl hV
-- cell
theorem q_cellSR : pf_X12_cell a b d e s l u v = (if (a < 0 ∨ 1 < a) ∨ (b < 0 ∨ 3 < b) ∨ (d < 0 ∨ 3 < d) then pl_X12_cell_80 a b d e 1 s l u v else if q_ic a e = 0 then pl_X12_cell_80 a b d e 2 s l u v else if s 94 = 0 then pl_X12_cell_80 a b d e 0 s l u v else pl_X12_cell_80 a b d e 3 s l u v) := by
  have q1 : pf_X12_isIn a.toInt64 0 1 s l u v = some (if a < 0 then 0 else if 1 < a then 0 else 1, s, l, u, v) := q_isI a 0 1
  have q2 : pf_X12_isIn b.toInt64 0 3 s l u v = some (if b < 0 then 0 else if 3 < b then 0 else 1, s, l, u, v) := q_isI b 0 3
  have q3 : pf_X12_isIn d.toInt64 0 3 s l u v = some (if d < 0 then 0 else if 3 < d then 0 else 1, s, l, u, v) := q_isI d 0 3
  have nt : ∀ {w hi : Int32}, ¬ (w < 0 ∨ hi < w) → (if w < 0 then (0 : Int32) else if hi < w then 0 else 1) = 1 := fun c => q_in1 (fun z => c (Or.inl z)) (fun z => c (Or.inr z))
  unfold pf_X12_cell pl_X12_cell_38 pl_X12_cell_39
  rw [q1, q_b]
  by_cases c1 : a < 0 ∨ 1 < a
  · rw [q_in0 c1, if_pos rfl, q_isCellR, q_b, if_pos rfl, if_pos (Or.inl c1)]
  · rw [nt c1, if_neg q_n10, q2, q_b]
    by_cases c2 : b < 0 ∨ 3 < b
    · rw [q_in0 c2, if_pos rfl, q_isCellR, q_b, if_pos rfl, if_pos (Or.inr (Or.inl c2))]
    · rw [nt c2, if_neg q_n10, q3, q_b]
      by_cases c3 : d < 0 ∨ 3 < d
      · rw [q_in0 c3, if_pos rfl, q_isCellR, q_b, if_pos rfl, if_pos (Or.inr (Or.inr c3))]
      · rw [nt c3, if_neg q_n10, q_isCellR, q_b, if_neg q_n10, if_neg (show ¬ ((a < 0 ∨ 1 < a) ∨ (b < 0 ∨ 3 < b) ∨ (d < 0 ∨ 3 < d)) by intro z; rcases z with z | z | z; exact c1 z; exact c2 z; exact c3 z)]
theorem q_4N (h1 : ¬ a < 0) (h2 : ¬ 3 < a) : ∃ i : Nat, i < 4 ∧ a = Int32.ofNat i := by
  rw [Int32.lt_iff_toInt_lt] at h1 h2
  have o : (0 : Int32).toInt = 0 := rfl
  have o7 : (3 : Int32).toInt = 3 := rfl
  exact ⟨a.toInt.toNat, by omega, by rw [← Int32.toInt_inj, q_onI (by omega)]; omega⟩
theorem q_F_cell (hV : q_V k s l x y u v) (h1 : ¬ a < 0) (h2 : ¬ 1 < a) (h3 : ¬ b < 0) (h4 : ¬ 3 < b) (h5 : ¬ d < 0) (h6 : ¬ 3 < d) (h7 : ¬ q_ic a e = 0) (h8 : s 94 = 0) : q_Fa (k + 1) (pf_X11_cell a b d e s l x y) (pf_X12_cell a b d e s l u v) := by
  rw [q_cellSR, if_neg (by intro z; rcases z with (z | z) | (z | z) | (z | z); exact h1 z; exact h2 z; exact h3 z; exact h4 z; exact h5 z; exact h6 z), if_neg h7, if_pos h8]
  unfold pf_X11_cell pl_X12_cell_80
  rw [if_neg h1, if_neg h2, if_neg h3, if_neg h4, if_neg h5, if_neg h6, q_isCellC, q_b, if_neg h7, if_pos h8, if_neg q_l00]
  obtain ⟨i, hi, rfl⟩ := q_2N h1 h2
  obtain ⟨j, hj, rfl⟩ := q_4N h3 h4
  obtain ⟨m, hm, rfl⟩ := q_4N h5 h6
  have e1 : (4 : Int32) * Int32.ofNat j + Int32.ofNat m = Int32.ofNat (4 * j + m) := by
    rw [show (4 : Int32) * Int32.ofNat j = Int32.ofNat (4 * j) from (Int32.ofNat_mul 4 j).symm, q_onR]
  have e2 : (16 : Int32) * Int32.ofNat i + 4 * Int32.ofNat j + Int32.ofNat m = Int32.ofNat (16 * i + (4 * j + m)) := by
    rw [show (4 : Int32) * Int32.ofNat j = Int32.ofNat (4 * j) from (Int32.ofNat_mul 4 j).symm, show (16 : Int32) * Int32.ofNat i = Int32.ofNat (16 * i) from (Int32.ofNat_mul 16 i).symm, q_onR, q_onR, show 16 * i + 4 * j + m = 16 * i + (4 * j + m) by omega]
  rw [e1, e2, q_onC (show i < 2147483648 by omega), q_onC (show 4 * j + m < 2147483648 by omega), q_onC (show 16 * i + (4 * j + m) < 2147483648 by omega)]
  simp only [q_g hi (show 2 < 2147483648 by omega), q_r hi, q_g (show 4 * j + m < 16 by omega) (show 16 < 2147483648 by omega), q_g (show 16 * i + (4 * j + m) < 32 by omega) (show 32 < 2147483648 by omega)]
  rw [show 12000 + (16 * i + (4 * j + m)) = 12000 + 16 * i + (4 * j + m) by omega]
  have g := q_icI h7
  have rg : q_rg (12000 + 16 * i + (4 * j + m)) = if 12000 + 16 * i + (4 * j + m) < 12016 then (0, 20000) else (-100, 450) := by
    unfold q_rg
    rw [show (12000 + 16 * i + (4 * j + m)) / 1000 = 12 by omega]
    rfl
  have rr : q_R (pj_u s (12000 + 16 * i + (4 * j + m)) e) := by
    refine q_R_u hV.1.1 ?_
    rw [rg]
    have i2 : i = 0 ∨ i = 1 := by omega
    rcases i2 with z | z
    · subst z
      rw [if_pos (by omega)]
      exact g.1 rfl
    · subst z
      rw [if_neg (by omega)]
      exact g.2 (by decide)
  refine q_Fa_s _ _ rfl rfl (q_V_fo hV rr (fun w hw => q_un (by unfold q_Ss at hw; omega)) (fun _ w a h => q_un ?_))
  have := q_rsF h
  omega
theorem q_F_cell1 (hV : q_V k s l x y u v) (h : (a < 0 ∨ 1 < a) ∨ (b < 0 ∨ 3 < b) ∨ (d < 0 ∨ 3 < d)) : q_Rf (k + 1) 1 s l x y (pf_X12_cell a b d e s l u v) := by
  rw [q_cellSR, if_pos h]
  unfold pl_X12_cell_80
  rw [if_pos q_l01]
  exact q_Rf_s 0 1 rfl hV
theorem q_F_cell2 (hV : q_V k s l x y u v) (h : ¬ ((a < 0 ∨ 1 < a) ∨ (b < 0 ∨ 3 < b) ∨ (d < 0 ∨ 3 < d))) (h7 : q_ic a e = 0) : q_Rf (k + 1) 2 s l x y (pf_X12_cell a b d e s l u v) := by
  rw [q_cellSR, if_neg h, if_pos h7]
  unfold pl_X12_cell_80
  rw [if_pos q_l02]
  exact q_Rf_s 0 2 rfl hV
theorem q_F_cell3 (hV : q_V k s l x y u v) (h : ¬ ((a < 0 ∨ 1 < a) ∨ (b < 0 ∨ 3 < b) ∨ (d < 0 ∨ 3 < d))) (h7 : ¬ q_ic a e = 0) (h8 : ¬ s 94 = 0) : q_Rf (k + 1) 3 s l x y (pf_X12_cell a b d e s l u v) := by
  rw [q_cellSR, if_neg h, if_neg h7, if_neg h8]
  unfold pl_X12_cell_80
  rw [if_pos q_l03]
  exact q_Rf_s 0 3 rfl hV
-- axis
theorem q_axR : pf_X12_axis a b d e p r s l u v = (if (a < 0 ∨ 1 < a) ∨ (b < 0 ∨ 1 < b) then pl_X12_axis_85 a b d e p r 1 s l u v else if d < 0 ∨ 10000 < r ∨ ¬ d < e ∨ ¬ e < p ∨ ¬ p < r then pl_X12_axis_85 a b d e p r 2 s l u v else if s 94 = 0 then pl_X12_axis_85 a b d e p r 0 s l u v else pl_X12_axis_85 a b d e p r 3 s l u v) := by
  have q1 : pf_X12_isIn a.toInt64 0 1 s l u v = some (if a < 0 then 0 else if 1 < a then 0 else 1, s, l, u, v) := q_isI a 0 1
  have q2 : pf_X12_isIn b.toInt64 0 1 s l u v = some (if b < 0 then 0 else if 1 < b then 0 else 1, s, l, u, v) := q_isI b 0 1
  have nt : ∀ {w hi : Int32}, ¬ (w < 0 ∨ hi < w) → (if w < 0 then (0 : Int32) else if hi < w then 0 else 1) = 1 := fun c => q_in1 (fun z => c (Or.inl z)) (fun z => c (Or.inr z))
  have k : ∀ b0 : Int32, (b0 = 0 ∨ b0 = 1) → pl_X12_axis_37 a b d e p r b0 s l u v = (if (a < 0 ∨ 1 < a) ∨ (b < 0 ∨ 1 < b) then pl_X12_axis_85 a b d e p r 1 s l u v else if b0 = 0 then pl_X12_axis_85 a b d e p r 2 s l u v else if s 94 = 0 then pl_X12_axis_85 a b d e p r 0 s l u v else pl_X12_axis_85 a b d e p r 3 s l u v) := by
    intro b0 _
    unfold pl_X12_axis_37 pl_X12_axis_60
    rw [q1, q_b]
    by_cases c1 : a < 0 ∨ 1 < a
    · rw [q_in0 c1, if_pos rfl, if_pos (Or.inl c1)]
    · rw [nt c1, if_neg q_n10, q2, q_b]
      by_cases c2 : b < 0 ∨ 1 < b
      · rw [q_in0 c2, if_pos rfl, if_pos (Or.inr c2)]
      · rw [nt c2, if_neg q_n10, if_neg (show ¬ ((a < 0 ∨ 1 < a) ∨ (b < 0 ∨ 1 < b)) by intro z; rcases z with z | z; exact c1 z; exact c2 z)]
  unfold pf_X12_axis pl_X12_axis_36
  rw [k 0 (Or.inl rfl), k 1 (Or.inr rfl), if_pos rfl, if_neg q_n10]
  by_cases d1 : d < 0
  · rw [if_pos d1, if_pos (Or.inl d1)]
  rw [if_neg d1]
  by_cases d2 : d < e
  · rw [if_pos d2]
    by_cases d3 : e < p
    · rw [if_pos d3]
      by_cases d4 : p < r
      · rw [if_pos d4]
        by_cases d5 : 10000 < r
        · rw [if_pos d5, if_pos (Or.inr (Or.inl d5))]
        · rw [if_neg d5, if_neg (show ¬ (d < 0 ∨ 10000 < r ∨ ¬ d < e ∨ ¬ e < p ∨ ¬ p < r) by intro z; rcases z with z | z | z | z | z; exact d1 z; exact d5 z; exact z d2; exact z d3; exact z d4)]
      · rw [if_neg d4, if_pos (Or.inr (Or.inr (Or.inr (Or.inr d4))))]
    · rw [if_neg d3, if_pos (Or.inr (Or.inr (Or.inr (Or.inl d3))))]
  · rw [if_neg d2, if_pos (Or.inr (Or.inr (Or.inl d2)))]
theorem q_F_axis (hV : q_V k s l x y u v) (h1 : ¬ ((a < 0 ∨ 1 < a) ∨ (b < 0 ∨ 1 < b))) (h2 : ¬ (d < 0 ∨ 10000 < r ∨ ¬ d < e ∨ ¬ e < p ∨ ¬ p < r)) (h3 : s 94 = 0) : q_Fa (k + 1) (pf_X11_axis a b d e p r s l x y) (pf_X12_axis a b d e p r s l u v) := by
  have a1 : ¬ a < 0 := fun z => h1 (Or.inl (Or.inl z))
  have a2 : ¬ 1 < a := fun z => h1 (Or.inl (Or.inr z))
  have b1 : ¬ b < 0 := fun z => h1 (Or.inr (Or.inl z))
  have b2 : ¬ 1 < b := fun z => h1 (Or.inr (Or.inr z))
  have d1 : ¬ d < 0 := fun z => h2 (Or.inl z)
  have d2 : ¬ 10000 < r := fun z => h2 (Or.inr (Or.inl z))
  have d3 : d < e := Decidable.byContradiction fun z => h2 (Or.inr (Or.inr (Or.inl z)))
  have d4 : e < p := Decidable.byContradiction fun z => h2 (Or.inr (Or.inr (Or.inr (Or.inl z))))
  have d5 : p < r := Decidable.byContradiction fun z => h2 (Or.inr (Or.inr (Or.inr (Or.inr z))))
  rw [q_axR, if_neg h1, if_neg h2, if_pos h3]
  unfold pf_X11_axis pl_X12_axis_85 pf_X12_axisOf
  rw [if_neg a1, if_neg a2, if_neg b1, if_neg b2, if_neg d1, if_neg d2, if_pos d3, if_pos d4, if_pos d5, if_pos h3, if_pos rfl]
  obtain ⟨i, hi, rfl⟩ := q_2N a1 a2
  obtain ⟨j, hj, rfl⟩ := q_2N b1 b2
  have e1 : (2 : Int32) * Int32.ofNat i + Int32.ofNat j = Int32.ofNat (2 * i + j) := by
    rw [show (2 : Int32) * Int32.ofNat i = Int32.ofNat (2 * i) from (Int32.ofNat_mul 2 i).symm, q_onR]
  have e2 : (8 : Int32) * Int32.ofNat i + 4 * Int32.ofNat j = Int32.ofNat (4 * (2 * i + j)) := by
    rw [show (8 : Int32) * Int32.ofNat i = Int32.ofNat (8 * i) from (Int32.ofNat_mul 8 i).symm, show (4 : Int32) * Int32.ofNat j = Int32.ofNat (4 * j) from (Int32.ofNat_mul 4 j).symm, q_onR, show 8 * i + 4 * j = 4 * (2 * i + j) by omega]
  rw [e1, e2]
  generalize hm : 2 * i + j = m
  have m4 : m < 4 := by omega
  rw [show Int32.ofNat (4 * m) + 1 = Int32.ofNat (4 * m + 1) from q_onaL _ 1, show Int32.ofNat (4 * m) + 2 = Int32.ofNat (4 * m + 2) from q_onaL _ 2, show Int32.ofNat (4 * m) + 3 = Int32.ofNat (4 * m + 3) from q_onaL _ 3]
  rw [q_onC (show m < 2147483648 by omega), q_onC (show 4 * m < 2147483648 by omega), q_onC (show 4 * m + 1 < 2147483648 by omega), q_onC (show 4 * m + 2 < 2147483648 by omega), q_onC (show 4 * m + 3 < 2147483648 by omega)]
  simp only [q_g m4 (show 4 < 2147483648 by omega), q_r m4, q_g (show 4 * m < 16 by omega) (show 16 < 2147483648 by omega), q_g (show 4 * m + 1 < 16 by omega) (show 16 < 2147483648 by omega), q_g (show 4 * m + 2 < 16 by omega) (show 16 < 2147483648 by omega), q_g (show 4 * m + 3 < 16 by omega) (show 16 < 2147483648 by omega), q_b]
  rw [show 11000 + (4 * m + 1) = 11000 + 4 * m + 1 by omega, show 11000 + (4 * m + 2) = 11000 + 4 * m + 2 by omega, show 11000 + (4 * m + 3) = 11000 + 4 * m + 3 by omega, show 11000 + 4 * m + 0 = 11000 + 4 * m by omega]
  generalize hS : pj_u (pj_u (pj_u (pj_u s (11000 + 4 * m) d) (11000 + 4 * m + 1) e) (11000 + 4 * m + 2) p) (11000 + 4 * m + 3) r = S
  have out : ∀ w, ¬ (11000 + 4 * m ≤ w ∧ w < 11000 + 4 * m + 4) → S w = s w := by
    intro w hw
    rw [← hS, q_un (by omega), q_un (by omega), q_un (by omega), q_un (by omega)]
  have v0 : S (11000 + 4 * m + 0) = d := by rw [← hS, show 11000 + 4 * m + 0 = 11000 + 4 * m by omega, q_un (by omega), q_un (by omega), q_un (by omega), q_ua]
  have v1 : S (11000 + 4 * m + 1) = e := by rw [← hS, q_un (by omega), q_un (by omega), q_ua]
  have v2 : S (11000 + 4 * m + 2) = p := by rw [← hS, q_un (by omega), q_ua]
  have v3 : S (11000 + 4 * m + 3) = r := by rw [← hS, q_ua]
  rw [Int32.lt_iff_toInt_lt] at d1 d2 d3 d4 d5
  have o : (0 : Int32).toInt = 0 := rfl
  have o1 : (10000 : Int32).toInt = 10000 := rfl
  have rg : ∀ w, 11000 ≤ w → w < 12000 → q_rg w = (0, 10000) := by
    intro w p q
    unfold q_rg
    rw [show w / 1000 = 11 by omega]
    rfl
  have rS : q_R S := by
    rw [← hS]
    exact q_R_u (q_R_u (q_R_u (q_R_u hV.1.1 (by rw [rg _ (by omega) (by omega)]; exact ⟨by omega, by omega⟩)) (by rw [rg _ (by omega) (by omega)]; exact ⟨by omega, by omega⟩)) (by rw [rg _ (by omega) (by omega)]; exact ⟨by omega, by omega⟩)) (by rw [rg _ (by omega) (by omega)]; exact ⟨by omega, by omega⟩)
  obtain ⟨l1, ⟨n2, l2⟩, l3⟩ := hV.1.2.1
  have hl : q_Ln S := by
    refine ⟨?_, ⟨n2, q_isLn_c l2 (by omega) (fun w _ _ => out w (by omega))⟩, ?_⟩
    · intro k hk
      obtain ⟨n, hn⟩ := l1 k hk
      exact ⟨n, q_isLn_c hn (by omega) (fun w _ _ => out w (by omega))⟩
    · intro k hk
      unfold q_isAx
      by_cases c : k = m
      · subst c
        show 0 ≤ (S (11000 + 4 * k + 0)).toInt ∧ (S (11000 + 4 * k + 0)).toInt < (S (11000 + 4 * k + 1)).toInt ∧ (S (11000 + 4 * k + 1)).toInt < (S (11000 + 4 * k + 2)).toInt ∧ (S (11000 + 4 * k + 2)).toInt < (S (11000 + 4 * k + 3)).toInt ∧ (S (11000 + 4 * k + 3)).toInt ≤ 10000
        rw [v0, v1, v2, v3]
        exact ⟨by omega, by omega, by omega, by omega, by omega⟩
      · show 0 ≤ (S (11000 + 4 * k + 0)).toInt ∧ (S (11000 + 4 * k + 0)).toInt < (S (11000 + 4 * k + 1)).toInt ∧ (S (11000 + 4 * k + 1)).toInt < (S (11000 + 4 * k + 2)).toInt ∧ (S (11000 + 4 * k + 2)).toInt < (S (11000 + 4 * k + 3)).toInt ∧ (S (11000 + 4 * k + 3)).toInt ≤ 10000
        rw [out _ (by omega), out _ (by omega), out _ (by omega), out _ (by omega)]
        exact l3 k hk
  exact q_Fa_s _ _ rfl rfl (q_V_I hV (q_I_set hV.1 h3 rS (fun w _ p _ => out w (by omega)) (fun w a h => out w (by have := q_rsF h; omega)) hl) (out _ (by omega)) (out _ (by omega)))
theorem q_F_axis1 (hV : q_V k s l x y u v) (h1 : ((a < 0 ∨ 1 < a) ∨ (b < 0 ∨ 1 < b))) : q_Rf (k + 1) 1 s l x y (pf_X12_axis a b d e p r s l u v) := by
  rw [q_axR, if_pos h1]
  unfold pl_X12_axis_85
  rw [if_neg q_n10]
  exact q_Rf_s () 1 rfl hV
theorem q_F_axis2 (hV : q_V k s l x y u v) (h1 : ¬ ((a < 0 ∨ 1 < a) ∨ (b < 0 ∨ 1 < b))) (h2 : (d < 0 ∨ 10000 < r ∨ ¬ d < e ∨ ¬ e < p ∨ ¬ p < r)) : q_Rf (k + 1) 2 s l x y (pf_X12_axis a b d e p r s l u v) := by
  rw [q_axR, if_neg h1, if_pos h2]
  unfold pl_X12_axis_85
  rw [if_neg (by decide)]
  exact q_Rf_s () 2 rfl hV
theorem q_F_axis3 (hV : q_V k s l x y u v) (h1 : ¬ ((a < 0 ∨ 1 < a) ∨ (b < 0 ∨ 1 < b))) (h2 : ¬ (d < 0 ∨ 10000 < r ∨ ¬ d < e ∨ ¬ e < p ∨ ¬ p < r)) (h3 : ¬ s 94 = 0) : q_Rf (k + 1) 3 s l x y (pf_X12_axis a b d e p r s l u v) := by
  rw [q_axR, if_neg h1, if_neg h2, if_neg h3]
  unfold pl_X12_axis_85
  rw [if_neg (by decide)]
  exact q_Rf_s () 3 rfl hV
end QST

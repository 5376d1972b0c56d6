/-! PURE: speed, the cell at hand, trouble -/
section QJU
variable {s x u s' x' u' s2 u2 : Nat → Int32} {l y v l' y' v' l2 v2 : Nat → Int64} {D E W : Int} {k : Nat}
theorem q_x5 (hw : q_Wl D s l x u v) : 0 ≤ (x 5).toInt ∧ (x 5).toInt ≤ 1000000 := by
  rw [hw.2.2.1]
  unfold q_sp
  split
  · decide
  · split
    · rename_i h
      rw [Int32.lt_iff_toInt_lt] at h
      simp only [Int32.reduceToInt] at h
      rw [q_divI (by decide) h]
      have z : (1000000 : Int32).toInt = 1000000 := rfl
      rw [z]
      exact ⟨Int.ediv_nonneg (by omega) (by omega), Int.ediv_le_self _ (by omega)⟩
    · decide
theorem q_spd (hw : q_Wl D s l x u v) (g : s2 19 = s 19) (g2 : v2 6 = v 6) : pf_X12_speed s2 l2 u2 v2 = some (x 5, s2, l2, u2, v2) := by
  obtain ⟨w1, w2, w3, w4⟩ := hw
  unfold pf_X12_speed
  rw [g, g2, w3]
  unfold q_sp
  by_cases c : s 19 < 2
  · rw [if_pos c, if_pos c]
  · have p := w2 c
    have p2 : 0 < x 4 := by rw [Int32.lt_iff_toInt_lt]; exact p
    have n : ¬ v 6 = 0 := by
      rw [w1.1, ← Int64.toInt_inj, Int32.toInt_toInt64]
      have z : (0 : Int64).toInt = 0 := rfl
      rw [z]
      omega
    rw [if_neg c, if_neg c, if_pos p2, q_dl n, w1.1]
    have z : (1000000 : Int64).toInt = 1000000 := rfl
    have z2 : (1000000 : Int32).toInt = 1000000 := rfl
    have e : (1000000 / (x 4).toInt64).toInt = 1000000 / (x 4).toInt := by
      rw [q_divL (by decide) (by rw [Int32.toInt_toInt64]; exact p), z, Int32.toInt_toInt64]
    have e2 := Int.ediv_nonneg (a := 1000000) (b := (x 4).toInt) (by omega) (by omega)
    have e3 := Int.ediv_le_self (a := 1000000) (x 4).toInt (by omega)
    have e4 : (1000000 / (x 4).toInt64).toInt32 = 1000000 / x 4 := by
      rw [← Int32.toInt_inj, q_32 (by rw [e]; omega) (by rw [e]; omega), e, q_divI (by decide) p, z2]
    rw [e4]
def q_ca (a p : Int32) : Int32 := 4 * (if a < 4500 then a / 1500 else 3) + (if p < 0 then 0 else if p < 90 then p / 30 else 3)
theorem q_caV (a p : Int32) (h : 0 ≤ a.toInt) : 0 ≤ (q_ca a p).toInt ∧ (q_ca a p).toInt ≤ 15 := by
  have e1 : (a / 1500).toInt = a.toInt / 1500 := q_divI h (by decide)
  have a1 : 0 ≤ (if a < 4500 then a / 1500 else (3 : Int32)).toInt ∧ (if a < 4500 then a / 1500 else (3 : Int32)).toInt ≤ 3 := by
    simp only [q_ifI, Int32.lt_iff_toInt_lt, e1, Int32.reduceToInt]
    split <;> omega
  have a2 : 0 ≤ (if p < 0 then 0 else if p < 90 then p / 30 else (3 : Int32)).toInt ∧ (if p < 0 then 0 else if p < 90 then p / 30 else (3 : Int32)).toInt ≤ 3 := by
    by_cases c : p < 0
    · rw [if_pos c]; decide
    · rw [if_neg c]
      rw [Int32.lt_iff_toInt_lt] at c
      simp only [Int32.reduceToInt] at c
      have e2 : (p / 30).toInt = p.toInt / 30 := q_divI (by omega) (by decide)
      simp only [q_ifI, Int32.lt_iff_toInt_lt, e2, Int32.reduceToInt]
      split <;> omega
  unfold q_ca
  generalize (if a < 4500 then a / 1500 else (3 : Int32)) = b at a1 ⊢
  generalize (if p < 0 then 0 else if p < 90 then p / 30 else (3 : Int32)) = c at a2 ⊢
  have m : (4 * b).toInt = 4 * b.toInt := q_mul (by simp only [Int32.reduceToInt]; omega) (by simp only [Int32.reduceToInt]; omega)
  rw [q_add (by rw [m]; omega) (by rw [m]; omega), m]
  omega
theorem q_cellC : pf_X11_cellAtHand s l x y = some (q_ca (x 5) (s 34004), s, l, x, y) := by
  unfold pf_X11_cellAtHand pl_X11_cellAtHand_38 pl_X11_cellAtHand_61 q_ca
  split
  · split
    · rfl
    · split <;> rfl
  · split
    · rfl
    · split <;> rfl
theorem q_cellR (hw : q_Wl D s l x u v) (g : s2 19 = s 19) (g2 : v2 6 = v 6) : pf_X12_cellNow s2 l2 u2 v2 = some (q_ca (x 5) (s2 34004), s2, l2, u2, v2) := by
  have h := (q_x5 hw).1
  have e1 : (x 5 / 1500).toInt = (x 5).toInt / 1500 := q_divI h (by decide)
  have b1 : (if x 5 / 1500 < 3 then x 5 / 1500 else 3) = (if x 5 < 4500 then x 5 / 1500 else 3) := by
    rw [← Int32.toInt_inj]
    simp only [q_ifI, Int32.lt_iff_toInt_lt, e1, Int32.reduceToInt]
    omega
  have b2 : (if (if s2 34004 < 0 then 0 else s2 34004 / 30) < 3 then (if s2 34004 < 0 then 0 else s2 34004 / 30) else (3 : Int32)) = (if s2 34004 < 0 then 0 else if s2 34004 < 90 then s2 34004 / 30 else 3) := by
    by_cases c : s2 34004 < 0
    · rw [if_pos c, if_pos c, if_pos (by decide)]
    · rw [if_neg c, if_neg c]
      rw [Int32.lt_iff_toInt_lt] at c
      simp only [Int32.reduceToInt] at c
      have e2 : (s2 34004 / 30).toInt = (s2 34004).toInt / 30 := q_divI (by omega) (by decide)
      rw [← Int32.toInt_inj]
      simp only [q_ifI, Int32.lt_iff_toInt_lt, e2, Int32.reduceToInt]
      omega
  have m : ∀ a b : Int32, pl_X12_cellNow_31 a b s2 l2 u2 v2 = some (4 * (if a < 3 then a else 3) + (if b < 3 then b else 3), s2, l2, u2, v2) := by
    intro a b
    unfold pl_X12_cellNow_31 pl_X12_cellNow_43 pl_X12_cellNow_54
    split
    · split <;> rfl
    · split <;> rfl
  unfold pf_X12_cellNow q_ca
  rw [q_spd hw g g2, q_b, m, m, b1]
  rw [← b2]
  split <;> rfl
-- ranges of the marks
def q_m40 (r : Nat) : Int × Int := match r with | 0 => ((-128 : Int), (127 : Int)) | 4 => (0, 39) | _ => (0, 1)
set_option maxRecDepth 100000 in
theorem q_rg40 (z : Nat) (h : z / 1000 = 40) : q_rg z = q_m40 ((z - 40000) / 28) := by
  unfold q_rg
  rw [h]
  generalize (z - 40000) / 28 = r
  rfl
theorem q_rgT {r : Nat} (hr : r < 8) (hk : k < 28) : q_rg (40000 + 28 * r + k) = if r = 0 then (-128, 127) else if r = 4 then (0, 39) else (0, 1) := by
  rw [q_rg40 _ (by omega), show (40000 + 28 * r + k - 40000) / 28 = r by omega]
  have : r = 0 ∨ r = 1 ∨ r = 2 ∨ r = 3 ∨ r = 4 ∨ r = 5 ∨ r = 6 ∨ r = 7 := by omega
  rcases this with rfl | rfl | rfl | rfl | rfl | rfl | rfl | rfl <;> rfl
theorem q_onnn (h : k < 2147483648) : ¬ Int32.ofNat k < 0 := by
  rw [Int32.lt_iff_toInt_lt, q_onI h]
  simp only [Int32.reduceToInt]
  omega
/-- the FRAME is changed -/
theorem q_I_fm (h : q_I D E W s l x y u v) (h0 : ¬ s 94 = 0) (hr : q_R s') (hf : q_Fm s' x' u') (g : ∀ w, q_Ss w → ¬ w = 87 → s' w = s w) (kx : ∀ w, q_Xs w → (w < 8000 ∨ 8008 ≤ w) → x' w = x w) (m : ∀ w, q_Us w → (w < 10000 ∨ 10008 ≤ w) → u' w = u w) : q_I D E W s' l x' y u' v := by
  obtain ⟨-, h2, h3, h4, h5, h6, h7, h8, h9, h10, h11, h12, h13, -⟩ := h
  refine ⟨hr, q_Ln_c h2 ?_ ?_, q_Ct_c h3 rfl ?_ ?_ ?_ ?_ rfl rfl rfl rfl, q_Wl_c h4 ?_ ?_ ?_ rfl rfl ?_ ?_ ?_ ?_ ?_ ?_ rfl, q_Pl_c h5 rfl ?_ rfl rfl ?_ ?_ ?_ rfl rfl, q_Wt_c h6 ?_ ?_ ?_ ?_, q_Fg_c h7 ?_ ?_ ?_ ?_ rfl ?_ ?_ ?_ ?_ ?_ ?_ rfl ?_ ?_ ?_ ?_ ?_ ?_ ?_ rfl, hf, q_Rc_c h9 rfl ?_ ?_ ?_ ?_ rfl, q_Vd_c h10 ?_ ?_, q_Kn_c h11 ?_, q_Pg_c h12 ?_ ?_ ?_ ?_, q_Es_c h13 ?_ (fun w hw => g w (by unfold q_Ss; omega) (by omega)) ?_ rfl ?_ ?_ ?_ (q_Ld_i (g 70 (by unfold q_Ss; omega) (by omega)) (fun j _ => g _ (by unfold q_Ss; omega) (by omega)) (kx 21 (by unfold q_Xs; omega) (by omega))), ?_⟩
  all_goals try (intro w a b)
  all_goals first
    | (apply g; (unfold q_Ss; omega); omega)
    | (apply kx; (unfold q_Xs; omega); omega)
    | (apply m; (unfold q_Us; omega); omega)
    | rfl
    | skip
  intro z
  rw [g 94 (by unfold q_Ss; omega) (by omega)] at z
  exact absurd z h0
-- closed forms
def q_df (s : Nat → Int32) (k : Nat) : Nat → Int32 := pj_u s (40000 + k) (if s (40000 + k) + 32 < 127 then s (40000 + k) + 32 else 127)
def q_dp (s : Nat → Int32) (k : Nat) : Nat → Int32 := pj_u s (40000 + k) (if -128 < s (40000 + k) - 4 then s (40000 + k) - 4 else -128)
def q_fy (s : Nat → Int32) (k : Nat) : Nat → Int32 := pj_u (pj_u (pj_u s (40028 + k) 1) (40140 + k) 1) (40056 + k) 1
def q_fz (s : Nat → Int32) (k : Nat) : Nat → Int32 := if s (40196 + k) = 0 then s else pj_u (pj_u s (40084 + k) 1) (40112 + k) 0
def q_ps (s : Nat → Int32) (k : Nat) : Nat → Int32 := if s (40000 + k) = -128 then pj_u (pj_u s (40028 + k) 0) (40168 + k) 1 else s
theorem q_R_df (hr : q_R s) (hk : k < 28) : q_R (q_df s k) ∧ (s (40000 + k) + 32).toInt = (s (40000 + k)).toInt + 32 := by
  have a := hr (40000 + 28 * 0 + k)
  rw [q_rgT (by omega) hk, if_pos rfl, show 40000 + 28 * 0 + k = 40000 + k by omega] at a
  have e : (s (40000 + k) + 32).toInt = (s (40000 + k)).toInt + 32 := q_add (by simp only [Int32.reduceToInt]; omega) (by simp only [Int32.reduceToInt]; omega)
  refine ⟨q_R_u hr ?_, e⟩
  have g := q_rgT (r := 0) (by omega) hk
  rw [if_pos rfl] at g
  rw [show 40000 + k = 40000 + 28 * 0 + k by omega, g]
  rw [show 40000 + 28 * 0 + k = 40000 + k by omega]
  simp only [q_ifI, Int32.lt_iff_toInt_lt, e, Int32.reduceToInt]
  split <;> omega
theorem q_R_dp (hr : q_R s) (hk : k < 28) : q_R (q_dp s k) ∧ (s (40000 + k) - 4).toInt = (s (40000 + k)).toInt - 4 := by
  have a := hr (40000 + 28 * 0 + k)
  rw [q_rgT (by omega) hk, if_pos rfl, show 40000 + 28 * 0 + k = 40000 + k by omega] at a
  have e : (s (40000 + k) - 4).toInt = (s (40000 + k)).toInt - 4 := q_sub (by simp only [Int32.reduceToInt]; omega) (by simp only [Int32.reduceToInt]; omega)
  refine ⟨q_R_u hr ?_, e⟩
  have g := q_rgT (r := 0) (by omega) hk
  rw [if_pos rfl] at g
  rw [show 40000 + k = 40000 + 28 * 0 + k by omega, g]
  rw [show 40000 + 28 * 0 + k = 40000 + k by omega]
  have z : (-128 : Int32).toInt = -128 := rfl
  simp only [q_ifI, Int32.lt_iff_toInt_lt, e, z]
  split <;> omega
theorem q_R_m1 {r : Nat} {a : Int32} (hr : q_R s) (hk : k < 28) (h : r < 8) (h0 : ¬ r = 0) (h4 : ¬ r = 4) (ha : 0 ≤ a.toInt ∧ a.toInt ≤ 1) : q_R (pj_u s (40000 + 28 * r + k) a) := by
  refine q_R_u hr ?_
  rw [q_rgT h hk, if_neg h0, if_neg h4]
  exact ha
theorem q_R_fz (hr : q_R s) (hk : k < 28) : q_R (q_fz s k) := by
  unfold q_fz
  split
  · exact hr
  · refine q_R_u (q_R_m1 (r := 3) hr hk (by omega) (by omega) (by omega) (by decide)) ?_
    have g := q_rgT (r := 4) (by omega) hk
    rw [if_neg (by omega), if_pos rfl] at g
    rw [show 40112 + k = 40000 + 28 * 4 + k by omega, g]
    decide
theorem q_R_fy (hr : q_R s) (hk : k < 28) : q_R (q_fy s k) := q_R_m1 (r := 2) (q_R_m1 (r := 5) (q_R_m1 (r := 1) hr hk (by omega) (by omega) (by omega) (by decide)) hk (by omega) (by omega) (by omega) (by decide)) hk (by omega) (by omega) (by omega) (by decide)
theorem q_R_ps (hr : q_R s) (hk : k < 28) : q_R (q_ps s k) := by
  unfold q_ps
  split
  · exact q_R_m1 (r := 6) (q_R_m1 (r := 1) hr hk (by omega) (by omega) (by omega) (by decide)) hk (by omega) (by omega) (by omega) (by decide)
  · exact hr
theorem q_fz_out {w : Nat} (h : w < 40000) : q_fz s k w = s w := by
  unfold q_fz
  split
  · rfl
  · rw [q_un (by omega), q_un (by omega)]
theorem q_fy_out {w : Nat} (h : w < 40000) : q_fy s k w = s w := by
  unfold q_fy
  rw [q_un (by omega), q_un (by omega), q_un (by omega)]
theorem q_ps_out {w : Nat} (h : w < 40000) : q_ps s k w = s w := by
  unfold q_ps
  split
  · rw [q_un (by omega), q_un (by omega)]
  · rfl
theorem q_failC (hk : k < 28) : pf_X10_countFail (Int32.ofNat k) s l x y = if (q_df s k) (40000 + k) < 127 then some (0, q_df s k, l, x, y) else if (q_df s k) (40028 + k) = 0 then some (1, q_fz (q_fy (q_df s k) k) k, l, x, y) else some (0, q_df s k, l, x, y) := by
  have c0 : ¬ Int32.ofNat k < 0 := q_onnn (by omega)
  unfold pf_X10_countFail pl_X10_countFail_36 pl_X10_countFail_71 pl_X10_countFail_80 pl_X10_countFail_89
  rw [if_neg c0]
  simp (disch := omega) only [q_g, q_onC, q_onltL, if_pos hk, q_min, q_b]
  show (if (q_df s k) (40000 + k) < 127 then some (0, q_df s k, l, x, y) else if (q_df s k) (40028 + k) = 0 then (if (q_fy (q_df s k) k) (40196 + k) = 0 then some (1, q_fy (q_df s k) k, l, x, y) else some (1, pj_u (pj_u (q_fy (q_df s k) k) (40084 + k) 1) (40112 + k) 0, l, x, y)) else some (0, q_df s k, l, x, y)) = _
  unfold q_fz
  by_cases c1 : (q_df s k) (40000 + k) < 127
  · rw [if_pos c1, if_pos c1]
  · rw [if_neg c1, if_neg c1]
    by_cases c2 : (q_df s k) (40028 + k) = 0
    · rw [if_pos c2, if_pos c2]
      split <;> rfl
    · rw [if_neg c2, if_neg c2]
theorem q_passC (hk : k < 28) : pf_X10_countPass (Int32.ofNat k) s l x y = some ((), q_ps (q_dp s k) k, l, x, y) := by
  have c0 : ¬ Int32.ofNat k < 0 := q_onnn (by omega)
  unfold pf_X10_countPass pl_X10_countPass_34
  rw [if_neg c0]
  simp (disch := omega) only [q_g, q_onC, q_onltL, if_pos hk, q_max, q_b]
  show (if (q_dp s k) (40000 + k) = -128 then some ((), pj_u (pj_u (q_dp s k) (40028 + k) 0) (40168 + k) 1, l, x, y) else some ((), q_dp s k, l, x, y)) = _
  unfold q_ps
  split <;> rfl
end QJU

/-! PURE: the face: single values are set and told -/
section QSE
variable {s x u s' x' u' : Nat → Int32} {l y v l' y' v' : Nat → Int64} {D E W : Int} {fu f k n c : Nat} {t : Int64} {a b d : Int32}
theorem q_V_I (hV : q_V k s l x y u v) (hI : q_I 0 (500000 * k) (200000 * k) s' l x y (pj_u u 1 0) v) (g94 : s' 94 = s 94) (g95 : s' 95 = s 95) : q_V (k + 1) s' l x y (pj_u u 1 0) v := by
  refine q_V_m ⟨by rw [q_uu]; exact hI, hV.2.1, ?_, hV.2.2.2⟩
  have hA := hV.2.2.1
  unfold q_Af at hA ⊢
  rw [g94, g95]; exact hA
theorem q_V_fo (hV : q_V k s l x y u v) (hr : q_R s') (g : ∀ w, q_Ss w → s' w = s w) (go : s 94 = 0 → ∀ w a, q_rs w = some a → s' w = s w) : q_V (k + 1) s' l x y (pj_u u 1 0) v :=
  q_V_I hV (q_I_fo hV.1 hr g go (fun _ _ => rfl) (fun _ _ => rfl)) (g 94 (by unfold q_Ss; omega)) (g 95 (by unfold q_Ss; omega))
theorem q_Fa_s {A : Type} {F G : Option (A × pj_Z)} (r : A) (s' : Nat → Int32) (hF : F = some (r, s', l, x, y)) (hG : G = some (r, s', l, pj_u u 1 0, v)) (hV : q_V (k + 1) s' l x y (pj_u u 1 0) v) : q_Fa (k + 1) F G := ⟨r, s', l, x, y, _, v, hF, hG, q_ua, hV⟩
theorem q_Rf_s {A : Type} {G : Option (A × pj_Z)} (r : A) (b : Int32) (hG : G = some (r, s, l, pj_u u 1 b, v)) (hV : q_V k s l x y u v) : q_Rf (k + 1) b s l x y G := ⟨r, _, v, hG, q_ua, q_V_u1 (q_V_m hV) b⟩
theorem q_V_s (hV : q_V k s l x y u v) : q_V (k + 1) s l x y (pj_u u 1 0) v := q_V_u1 (q_V_m hV) 0
theorem q_in1 {lo hi : Int32} (h1 : ¬ a < lo) (h2 : ¬ hi < a) : (if a < lo then (0 : Int32) else if hi < a then 0 else 1) = 1 := by rw [if_neg h1, if_neg h2]
theorem q_in0 {lo hi : Int32} (h : a < lo ∨ hi < a) : (if a < lo then (0 : Int32) else if hi < a then 0 else 1) = 0 := by
  by_cases c : a < lo
  · rw [if_pos c]
  · rw [if_neg c, if_pos (h.resolve_left c)]
theorem q_n10 : ¬ (1 : Int32) = 0 := by decide
theorem q_l01 : (0 : Int32) < 1 := by decide
theorem q_l00 : ¬ (0 : Int32) < 0 := by decide
theorem q_l02 : (0 : Int32) < 2 := by decide
theorem q_l03 : (0 : Int32) < 3 := by decide
/-- numbers that OFF leaves alone -/
theorem q_rsN {w : Nat} {a : Int32} (h : q_rs w = some a) (z : Nat) (hz : q_rs z = none) : ¬ w = z := by
  intro e
  rw [e, hz] at h
  cases h
-- set
theorem q_F_set (hV : q_V k s l x y u v) (hb : b = 0 ∨ b = 1) (h1 : ¬ a < 0) (h2 : ¬ 1 < a) : q_Fa (k + 1) (pf_X11_set a b s l x y) (pf_X12_set a b s l u v) := by
  have q1 : pf_X12_isIn a.toInt64 0 1 s l u v = some (if a < 0 then 0 else if 1 < a then 0 else 1, s, l, u, v) := q_isI a 0 1
  have r48 : s 48 = 0 ∨ s 48 = 1 := q_b01 (hV.1.1 48).1 (hV.1.1 48).2
  have r49 : s 49 = 0 ∨ s 49 = 1 := q_b01 (hV.1.1 49).1 (hV.1.1 49).2
  have rb : 0 ≤ b.toInt ∧ b.toInt ≤ 1 := by rcases hb with z | z <;> rw [z] <;> decide
  unfold pf_X11_set pf_X12_set
  rw [q1, q_b, q_in1 h1 h2, if_neg h1, if_neg h2, if_neg q_n10]
  unfold pl_X12_set_16 pl_X11_set_40
  rw [if_neg q_l00]
  by_cases c : a = 0
  · rw [if_pos c, if_pos c, if_pos c]
    unfold pl_X11_set_64 pl_X12_set_43 pl_X12_set_57 pl_X12_set_74
    have n : ¬ a = 1 := by rw [c]; decide
    rw [if_pos c, if_neg n, q_bz hb, q_bz hb, q_bz r49]
    have e : pj_u (pj_u s 48 b) 49 (s 49) = pj_u s 48 b := q_uv (q_un (by omega))
    rw [e]
    refine q_Fa_s (if s 48 = b then 0 else 1) (pj_u s 48 b) ?_ ?_ (q_V_fo hV (q_R_u hV.1.1 rb) (fun w hw => q_un (by unfold q_Ss at hw; omega)) (fun _ w a h => q_un (q_rsN h 48 rfl)))
    · split <;> rfl
    · split <;> rfl
  · have c1 : a = 1 := by
      rw [Int32.lt_iff_toInt_lt] at h1 h2
      have o : (0 : Int32).toInt = 0 := rfl
      have o1 : (1 : Int32).toInt = 1 := rfl
      have c : ¬ a.toInt = 0 := fun z => c (by rw [← Int32.toInt_inj, z]; rfl)
      rw [← Int32.toInt_inj]; omega
    rw [if_neg c, if_neg c, if_neg c]
    unfold pl_X11_set_64 pl_X12_set_43 pl_X12_set_57 pl_X12_set_74
    rw [if_neg c, if_pos c1, q_bz hb, q_bz r48, q_bz hb]
    have e : pj_u s 48 (s 48) = s := q_uv rfl
    rw [e]
    refine q_Fa_s (if s 49 = b then 0 else 1) (pj_u s 49 b) ?_ ?_ (q_V_fo hV (q_R_u hV.1.1 rb) (fun w hw => q_un (by unfold q_Ss at hw; omega)) (fun _ w a h => q_un (q_rsN h 49 rfl)))
    · split <;> rfl
    · split <;> rfl
theorem q_F_set0 (hV : q_V k s l x y u v) (h : a < 0 ∨ 1 < a) : q_Rf (k + 1) 1 s l x y (pf_X12_set a b s l u v) := by
  have q1 : pf_X12_isIn a.toInt64 0 1 s l u v = some (if a < 0 then 0 else if 1 < a then 0 else 1, s, l, u, v) := q_isI a 0 1
  unfold pf_X12_set pl_X12_set_16
  rw [q1, q_b, q_in0 h, if_pos rfl, if_pos q_l01]
  exact q_Rf_s 0 1 rfl hV
-- load
theorem q_F_load (hV : q_V k s l x y u v) (h1 : ¬ a < 0) (h2 : ¬ 400 < a) : q_Fa (k + 1) (pf_X11_load a s l x y) (pf_X12_load a s l u v) := by
  have q1 : pf_X12_isIn a.toInt64 0 400 s l u v = some (if a < 0 then 0 else if 400 < a then 0 else 1, s, l, u, v) := q_isI a 0 400
  obtain ⟨a1, a2, -⟩ := q_inr h1 h2
  unfold pf_X11_load pf_X12_load pl_X12_load_18 pl_X12_load_42
  rw [q1, q_b, q_in1 h1 h2, if_neg q_n10, if_neg h1, if_neg h2, if_pos rfl, q_ua, if_neg q_l00]
  exact q_Fa_s (s 47) (pj_u s 47 a) rfl rfl (q_V_fo hV (q_R_u hV.1.1 ⟨a1, a2⟩) (fun w hw => q_un (by unfold q_Ss at hw; omega)) (fun _ w a h => q_un (q_rsN h 47 rfl)))
theorem q_F_load0 (hV : q_V k s l x y u v) (h : a < 0 ∨ 400 < a) : q_Rf (k + 1) 1 s l x y (pf_X12_load a s l u v) := by
  have q1 : pf_X12_isIn a.toInt64 0 400 s l u v = some (if a < 0 then 0 else if 400 < a then 0 else 1, s, l, u, v) := q_isI a 0 400
  unfold pf_X12_load pl_X12_load_18 pl_X12_load_42
  rw [q1, q_b, q_in0 h, if_pos rfl, if_neg q_n10, q_ua, if_pos q_l01]
  have e : pj_u s 47 (s 47) = s := q_uv rfl
  rw [e]
  exact q_Rf_s 0 1 rfl hV
-- a number in a row
theorem q_inN {n : Nat} (h1 : ¬ a < 0) (h2 : a < Int32.ofNat n) (hn : n < 2147483648) : ∃ i : Nat, i < n ∧ a = Int32.ofNat i := by
  rw [Int32.lt_iff_toInt_lt] at h1 h2
  have o : (0 : Int32).toInt = 0 := rfl
  rw [q_onI hn] at h2
  rw [o] at h1
  exact ⟨a.toInt.toNat, by omega, by rw [← Int32.toInt_inj, q_onI (by omega)]; omega⟩
theorem q_rsF {w : Nat} {a : Int32} (h : q_rs w = some a) : ¬ (10000 ≤ w ∧ w < 18000) ∧ ¬ (20000 ≤ w ∧ w < 30000) ∧ ¬ (31000 ≤ w ∧ w < 34000) ∧ ¬ (37000 ≤ w ∧ w < 40000) ∧ ¬ (1000 ≤ w ∧ w < 2000) := by
  refine ⟨?_, ?_, ?_, ?_, ?_⟩ <;> (intro z; unfold q_rs at h; rw [if_neg (by omega), if_neg (by omega), if_neg (by omega), if_neg (by omega), if_neg (by omega), if_neg (by omega), if_neg (by omega), if_neg (by omega), if_neg (by omega), if_neg (by omega), if_neg (by omega)] at h; cases h)
-- pin
theorem q_raw : pf_X11_isRaw a s l x y = some (if a < 0 then 0 else if 1023 < a then 0 else 1, s, l, x, y) := by
  unfold pf_X11_isRaw
  by_cases c : a < 0
  · rw [if_pos c, if_pos c]
  · rw [if_neg c, if_neg c]
    by_cases d : 1023 < a
    · rw [if_pos d, if_pos d]
    · rw [if_neg d, if_neg d]
theorem q_lt9 {n : Nat} {m : Int32} (hm : m.toInt = (n : Int)) (hn : n + 1 < 2147483648) : (m < a) ↔ ¬ a < Int32.ofNat (n + 1) := by
  rw [Int32.lt_iff_toInt_lt, Int32.lt_iff_toInt_lt, q_onI hn]
  omega
theorem q_F_pin (hV : q_V k s l x y u v) (h1 : ¬ a < 0) (h2 : a < 10) (h3 : ¬ b < 0) (h4 : ¬ 1023 < b) : q_Fa (k + 1) (pf_X11_pin a b s l x y) (pf_X12_pin a b s l u v) := by
  have q1 : pf_X12_isIn a.toInt64 0 9 s l u v = some (if a < 0 then 0 else if 9 < a then 0 else 1, s, l, u, v) := q_isI a 0 9
  have q2 : pf_X12_isIn b.toInt64 0 1023 s l u v = some (if b < 0 then 0 else if 1023 < b then 0 else 1, s, l, u, v) := q_isI b 0 1023
  have h9 : ¬ 9 < a := fun z => (q_lt9 (n := 9) (m := 9) rfl (by omega)).mp z h2
  obtain ⟨i, hi, rfl⟩ := q_inN (n := 10) h1 h2 (by omega)
  obtain ⟨b1, b2, -⟩ := q_inr h3 h4
  unfold pf_X11_pin pf_X12_pin pl_X12_pin_34
  rw [q1, q_b, q_in1 h1 h9, if_neg q_n10, q2, q_b, q_in1 h3 h4, if_neg q_n10, if_neg h1, if_pos h2, q_raw, q_b, q_in1 h3 h4, if_neg q_n10, if_neg q_l00, q_g hi (by omega), q_g hi (by omega), q_g hi (by omega), q_g hi (by omega), q_onC (by omega)]
  refine q_Fa_s (s (29000 + i)) (pj_u s (29000 + i) b) rfl rfl (q_V_fo hV (q_R_u hV.1.1 ?_) (fun w hw => q_un (by unfold q_Ss at hw; omega)) (fun _ w a h => q_un (by have := (q_rsF h).2.1; omega)))
  have g : q_rg (29000 + i) = (0, 1023) := by
    unfold q_rg
    rw [show (29000 + i) / 1000 = 29 by omega]
    rfl
  rw [g]; exact ⟨b1, b2⟩
theorem q_F_pin1 (hV : q_V k s l x y u v) (h : a < 0 ∨ ¬ a < 10) : q_Rf (k + 1) 1 s l x y (pf_X12_pin a b s l u v) := by
  have q1 : pf_X12_isIn a.toInt64 0 9 s l u v = some (if a < 0 then 0 else if 9 < a then 0 else 1, s, l, u, v) := q_isI a 0 9
  have h : a < 0 ∨ 9 < a := h.imp id (fun z => (q_lt9 (n := 9) (m := 9) rfl (by omega)).mpr z)
  unfold pf_X12_pin pl_X12_pin_34
  rw [q1, q_b, q_in0 h, if_pos rfl, if_pos q_l01]
  exact q_Rf_s 0 1 rfl hV
theorem q_F_pin2 (hV : q_V k s l x y u v) (h1 : ¬ a < 0) (h2 : a < 10) (h : b < 0 ∨ 1023 < b) : q_Rf (k + 1) 2 s l x y (pf_X12_pin a b s l u v) := by
  have q1 : pf_X12_isIn a.toInt64 0 9 s l u v = some (if a < 0 then 0 else if 9 < a then 0 else 1, s, l, u, v) := q_isI a 0 9
  have q2 : pf_X12_isIn b.toInt64 0 1023 s l u v = some (if b < 0 then 0 else if 1023 < b then 0 else 1, s, l, u, v) := q_isI b 0 1023
  have h9 : ¬ 9 < a := fun z => (q_lt9 (n := 9) (m := 9) rfl (by omega)).mp z h2
  unfold pf_X12_pin pl_X12_pin_34
  rw [q1, q_b, q_in1 h1 h9, if_neg q_n10, q2, q_b, q_in0 h, if_pos rfl, if_pos q_l02]
  exact q_Rf_s 0 2 rfl hV
end QSE

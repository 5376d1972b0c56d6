/-! PURE: reading the pins -/
section QRA
variable {s x u : Nat → Int32} {l y v : Nat → Int64} {fu k : Nat} {D E W : Int}
def q_fa (s : Nat → Int32) (k : Nat) : Int32 := if s (35000 + k) = 100 then 1 else if s (35000 + k) = 0 then 0 else s (36000 + k)
def q_bd (s : Nat → Int32) (k : Nat) (j : Int32) : Int32 := if s (29000 + k) < s (31000 + k) then 1 else if s (32000 + k) < s (29000 + k) then 1 else if j = 0 then 0 else 1
def q_cu (s : Nat → Int32) (k : Nat) (b : Int32) : Nat → Int32 := pj_u s (35000 + k) (q_cl (s (35000 + k) + (if b = 0 then -1 else 10)).toInt64 0 100)
def q_fu (s : Nat → Int32) (k : Nat) : Nat → Int32 := pj_u s (36000 + k) (q_fa s k)
def q_va (s : Nat → Int32) (k : Nat) (b r : Int32) : Nat → Int32 := pj_u s (34000 + k) (if s (36000 + k) = 0 then (if b = 0 then r else s (34000 + k)) else pj_xf 6 k)
theorem q_ra172 (hk : k < 10) {k2 : Int32 → Int32 → pj_F (Unit × pj_Z)} (a1 b r : Int32) (hl : pf_X7_lineValue (Int32.ofNat k) (s (29000 + k)) s l x y = some (r, s, l, x, y)) : pl_X7_readAll_172 fu k2 a1 (Int32.ofNat k) b s l x y = k2 a1 (Int32.ofNat (k + 1)) (q_va s k b r) l x y := by
  unfold pl_X7_readAll_172 pl_X7_readAll_217 q_va
  simp (disch := omega) only [q_g, q_onC, hl, q_b, q_onaL]
  split
  · split
    · rfl
    · rw [q_ui]
  · rfl
theorem q_ra135 (hk : k < 10) {k2 : Int32 → Int32 → pj_F (Unit × pj_Z)} (a1 b : Int32) : pl_X7_readAll_135 fu k2 a1 (Int32.ofNat k) b s l x y = pl_X7_readAll_172 fu k2 a1 (Int32.ofNat k) b (q_fu s k) l x y := by
  unfold pl_X7_readAll_135 q_fu q_fa
  simp (disch := omega) only [q_g, q_onC]
  split
  · rfl
  · split
    · rfl
    · rw [q_ui]
theorem q_ra96 (hk : k < 10) {k2 : Int32 → Int32 → pj_F (Unit × pj_Z)} (a1 b : Int32) : pl_X7_readAll_96 fu k2 a1 (Int32.ofNat k) b s l x y = pl_X7_readAll_135 fu k2 a1 (Int32.ofNat k) b (q_cu s k b) l x y := by
  unfold pl_X7_readAll_96 pl_X7_readAll_128 q_cu
  simp (disch := omega) only [q_g, q_onC, q_clip, q_b]
  split
  · rw [Int32.sub_eq_add_neg]
  · rfl
theorem q_ra42 (hk : k < 10) {k2 : Int32 → Int32 → pj_F (Unit × pj_Z)} (a1 j : Int32) : pl_X7_readAll_42 fu k2 a1 (Int32.ofNat k) j s l x y = pl_X7_readAll_96 fu k2 a1 (Int32.ofNat k) (q_bd s k j) (pj_u s (30000 + k) (s (29000 + k))) l x y := by
  unfold pl_X7_readAll_42 pl_X7_readAll_77 pl_X7_readAll_82 q_bd
  simp (disch := omega) only [q_g, q_onC]
  split
  · rfl
  · split
    · rfl
    · split <;> rfl
/-- jumps -/
def q_jp (s : Nat → Int32) (k : Nat) (a : Int32) : Int32 := if a = 0 then (if s (33000 + k) < (if s (30000 + k) < s (29000 + k) then s (29000 + k) - s (30000 + k) else s (30000 + k) - s (29000 + k)) then 1 else 0) else 0
theorem q_apart {a b : Int32} (ha : -1000000000 ≤ a.toInt) (ha' : a.toInt ≤ 1000000000) (hb : -1000000000 ≤ b.toInt) (hb' : b.toInt ≤ 1000000000) : (if a - b < 0 then -(a - b) else a - b) = (if b < a then a - b else b - a) := by
  have e1 : (a - b).toInt = a.toInt - b.toInt := q_sub (by omega) (by omega)
  have e2 : (b - a).toInt = b.toInt - a.toInt := q_sub (by omega) (by omega)
  have e3 : (-(a - b)).toInt = b.toInt - a.toInt := by
    rw [Int32.toInt_neg, e1, q_bm (by omega) (by omega)]
    omega
  rw [← Int32.toInt_inj]
  simp only [q_ifI, Int32.lt_iff_toInt_lt, e1, e2, e3, Int32.reduceToInt]
  omega
theorem q_ra2 (hk : k < 10) (hr : q_R s) (a1 : Int32) (n : Nat) : pl_X7_readAll_2 fu (n + 1) a1 (Int32.ofNat k) s l x y = pl_X7_readAll_42 fu (pl_X7_readAll_2 fu n) a1 (Int32.ofNat k) (q_jp s k a1) s l x y := by
  have g1 := hr (29000 + k)
  have g2 := hr (30000 + k)
  rw [(q_rgC (by omega)).1] at g1
  rw [(q_rgC (by omega)).2.1] at g2
  have e := q_apart (a := s (29000 + k)) (b := s (30000 + k)) (by omega) (by omega) (by omega) (by omega)
  rw [pl_X7_readAll_2]
  unfold pl_X7_readAll_41 q_jp
  simp (disch := omega) only [q_g, q_onC, q_onltL, if_pos hk, q_abs, q_b, e]
  split
  · split
    · split <;> rfl
    · split <;> rfl
  · rfl
-- reference
theorem q_sub6 (hk : k < 10) : pf_X12_substitute (Int32.ofNat k) s l u v = some (pj_xf 6 k, s, l, u, v) := by
  have : k = 0 ∨ k = 1 ∨ k = 2 ∨ k = 3 ∨ k = 4 ∨ k = 5 ∨ k = 6 ∨ k = 7 ∨ k = 8 ∨ k = 9 := by omega
  rcases this with rfl | rfl | rfl | rfl | rfl | rfl | rfl | rfl | rfl | rfl <;> rfl
theorem q_rp192 (hk : k < 10) {k2 : Int32 → pj_F (Unit × pj_Z)} (b r : Int32) (hl : pf_X12_lineValue (Int32.ofNat k) (s (29000 + k)) s l u v = some (r, s, l, u, v)) : pl_X12_readPins_192 fu k2 (Int32.ofNat k) b s l u v = k2 (Int32.ofNat (k + 1)) (q_va s k b r) l u v := by
  unfold pl_X12_readPins_192 pl_X12_readPins_238 q_va
  simp (disch := omega) only [q_g, q_onC, hl, q_b, q_onaL, q_sub6]
  split
  · split <;> rfl
  · rfl
theorem q_rp152 (hk : k < 10) (h36 : s (36000 + k) = 0 ∨ s (36000 + k) = 1) (h35 : 0 ≤ (s (35000 + k)).toInt) {k2 : Int32 → pj_F (Unit × pj_Z)} (b : Int32) : pl_X12_readPins_152 fu k2 (Int32.ofNat k) b s l u v = pl_X12_readPins_192 fu k2 (Int32.ofNat k) b (q_fu s k) l u v := by
  have n1 : ¬ (1 : Int32) = 0 := by decide
  unfold pl_X12_readPins_152 pl_X12_readPins_186 pl_X12_readPins_190 pl_X12_readPins_191 q_fu q_fa
  simp (disch := omega) only [q_g, q_onC, q_bz0, q_bz1]
  by_cases c1 : s (35000 + k) = 100
  · rw [if_pos c1, if_pos c1]
  · rw [if_neg c1, if_neg c1]
    by_cases c2 : s (35000 + k) = 0
    · have c3 : ¬ 0 < s (35000 + k) := by rw [c2]; decide
      rw [if_pos c2, if_neg c3]
      split <;> rfl
    · have c3 : 0 < s (35000 + k) := by
        rw [← Int32.toInt_inj] at c2
        rw [Int32.lt_iff_toInt_lt]
        simp only [Int32.reduceToInt] at c2 ⊢
        omega
      rw [if_neg c2, if_pos c3]
      rcases h36 with h | h
      · rw [if_pos h, h]
      · rw [if_neg (by rw [h]; decide), h]
theorem q_rp120 (hk : k < 10) {k2 : Int32 → pj_F (Unit × pj_Z)} (b : Int32) : pl_X12_readPins_120 fu k2 (Int32.ofNat k) b s l u v = pl_X12_readPins_152 fu k2 (Int32.ofNat k) b (q_cu s k b) l u v := by
  have z : ∀ w : Int64, (q_ct w 0 100).toInt32 = q_cl w 0 100 := fun w => q_cut_cl w 0 100
  unfold pl_X12_readPins_120 pl_X12_readPins_141 q_cu
  simp (disch := omega) only [q_g, q_onC, q_cut, q_b, z]
  split <;> rfl
theorem q_rp52 (hk : k < 10) {k2 : Int32 → pj_F (Unit × pj_Z)} (b a : Int32) (ha : (1 < v 12) ↔ a = 0) : pl_X12_readPins_52 fu k2 (Int32.ofNat k) b s l u v = pl_X12_readPins_120 fu k2 (Int32.ofNat k) (q_bd s k (if a = 0 then (if s (33000 + k) < b then 1 else 0) else 0)) (pj_u s (30000 + k) (s (29000 + k))) l u v := by
  have n1 : ¬ (1 : Int32) = 0 := by decide
  unfold pl_X12_readPins_52 pl_X12_readPins_102 pl_X12_readPins_106 pl_X12_readPins_107 q_bd
  simp (disch := omega) only [q_g, q_onC]
  by_cases c1 : s (29000 + k) < s (31000 + k)
  · rw [if_pos c1, if_pos c1]
  · rw [if_neg c1, if_neg c1]
    by_cases c2 : s (32000 + k) < s (29000 + k)
    · rw [if_pos c2, if_pos c2]
    · rw [if_neg c2, if_neg c2]
      by_cases c3 : a = 0
      · rw [if_pos c3, if_pos (ha.mpr c3)]
        by_cases c4 : s (33000 + k) < b
        · rw [if_pos c4, if_pos c4, if_neg n1]
        · rw [if_neg c4, if_neg c4, if_pos rfl]
      · rw [if_neg c3, if_neg (fun z => c3 (ha.mp z)), if_pos rfl]
theorem q_rp2 (hk : k < 10) (a : Int32) (ha : (1 < v 12) ↔ a = 0) (n : Nat) : pl_X12_readPins_2 fu (n + 1) (Int32.ofNat k) s l u v = pl_X12_readPins_120 fu (pl_X12_readPins_2 fu n) (Int32.ofNat k) (q_bd s k (q_jp s k a)) (pj_u s (30000 + k) (s (29000 + k))) l u v := by
  rw [pl_X12_readPins_2]
  simp (disch := omega) only [q_g, q_onC, q_onltL, if_pos hk, q_rp52 hk _ a ha]
  unfold q_jp
  split <;> rfl
/-- one channel -/
def q_ch (s : Nat → Int32) (k : Nat) (a r : Int32) : Nat → Int32 := q_va (q_fu (q_cu (pj_u s (30000 + k) (s (29000 + k))) k (q_bd s k (q_jp s k a))) k) k (q_bd s k (q_jp s k a)) r
theorem q_ch_out {w : Nat} {a r : Int32} (h : w < 30000 ∨ (31000 ≤ w ∧ w < 34000) ∨ 37000 ≤ w) (hk : k < 10) : q_ch s k a r w = s w := by
  unfold q_ch q_va q_fu q_cu
  rw [q_un (by omega), q_un (by omega), q_un (by omega), q_un (by omega)]
theorem q_R_ch {a r : Int32} (hk : k < 10) (hr : q_R s) (h1 : -10000 ≤ r.toInt) (h2 : r.toInt ≤ 30000) : q_R (q_ch s k a r) := by
  have g := q_rgC (k := k) (by omega)
  have r1 : q_R (pj_u s (30000 + k) (s (29000 + k))) := by
    refine q_R_u hr ?_
    have z := hr (29000 + k)
    rw [g.1] at z
    rw [g.2.1]
    exact z
  have r2 : q_R (q_cu (pj_u s (30000 + k) (s (29000 + k))) k (q_bd s k (q_jp s k a))) := by
    refine q_R_u r1 ?_
    rw [g.2.2.2.2.2.2.1]
    exact q_clI (by decide)
  have r3 : q_R (q_fu (q_cu (pj_u s (30000 + k) (s (29000 + k))) k (q_bd s k (q_jp s k a))) k) := by
    refine q_R_u r2 ?_
    rw [g.2.2.2.2.2.2.2]
    unfold q_fa
    split
    · decide
    · split
      · decide
      · have z := r2 (36000 + k)
        rw [g.2.2.2.2.2.2.2] at z
        exact z
  refine q_R_u r3 ?_
  rw [g.2.2.2.2.2.1]
  split
  · split
    · exact ⟨h1, h2⟩
    · have z := r3 (34000 + k)
      rw [g.2.2.2.2.2.1] at z
      exact z
  · have : k = 0 ∨ k = 1 ∨ k = 2 ∨ k = 3 ∨ k = 4 ∨ k = 5 ∨ k = 6 ∨ k = 7 ∨ k = 8 ∨ k = 9 := by omega
    rcases this with rfl | rfl | rfl | rfl | rfl | rfl | rfl | rfl | rfl | rfl <;> decide
theorem q_readStep (hk : k < 10) (hr : q_R s) (hL : q_Ln s) (a : Int32) (ha : (1 < v 12) ↔ a = 0) (n : Nat) : ∃ r : Int32, -10000 ≤ r.toInt ∧ r.toInt ≤ 30000 ∧ pl_X7_readAll_2 fu (n + 1) a (Int32.ofNat k) s l x y = pl_X7_readAll_2 fu n a (Int32.ofNat (k + 1)) (q_ch s k a r) l x y ∧ pl_X12_readPins_2 fu (n + 1) (Int32.ofNat k) s l u v = pl_X12_readPins_2 fu n (Int32.ofNat (k + 1)) (q_ch s k a r) l u v := by
  have g := q_rgC (k := k) (by omega)
  have r1 : q_R (pj_u s (30000 + k) (s (29000 + k))) := by
    refine q_R_u hr ?_
    have z := hr (29000 + k)
    rw [g.1] at z
    rw [g.2.1]
    exact z
  have r2 : q_R (q_cu (pj_u s (30000 + k) (s (29000 + k))) k (q_bd s k (q_jp s k a))) := by
    refine q_R_u r1 ?_
    rw [g.2.2.2.2.2.2.1]
    exact q_clI (by decide)
  have z6 := r2 (36000 + k)
  rw [g.2.2.2.2.2.2.2] at z6
  have z5 := r2 (35000 + k)
  rw [g.2.2.2.2.2.2.1] at z5
  obtain ⟨m, hm⟩ := hL.1 k (by omega)
  have hm2 : q_isLn (q_fu (q_cu (pj_u s (30000 + k) (s (29000 + k))) k (q_bd s k (q_jp s k a))) k) k m (-10000) := by
    refine q_isLn_c hm (by omega) ?_
    intro w h1 h2
    unfold q_fu q_cu
    rw [q_un (by omega), q_un (by omega), q_un (by omega)]
  obtain ⟨r, e1, e2, e3, e4⟩ := q_lineValue (l := l) (x := x) (y := y) (u := u) (v := v) (by omega) (by omega) hm2 (q_fu (q_cu (pj_u s (30000 + k) (s (29000 + k))) k (q_bd s k (q_jp s k a))) k (29000 + k))
  refine ⟨r, e3, e4, ?_, ?_⟩
  · rw [q_ra2 hk hr, q_ra42 hk, q_ra96 hk, q_ra135 hk, q_ra172 hk _ _ r e1]
    rfl
  · rw [q_rp2 hk a ha, q_rp120 hk, q_rp152 hk (q_b01 z6.1 z6.2) z5.1, q_rp192 hk _ r e2]
    rfl
theorem q_readLoop (a : Int32) (ha : (1 < v 12) ↔ a = 0) : ∀ (m k f : Nat) (s : Nat → Int32), k + m = 10 → m < f → q_R s → q_Ln s → ∃ s', pl_X7_readAll_2 fu f a (Int32.ofNat k) s l x y = some ((), s', l, x, y) ∧ pl_X12_readPins_2 fu f (Int32.ofNat k) s l u v = some ((), s', l, u, v) ∧ q_R s' ∧ ∀ w, w < 30000 ∨ (31000 ≤ w ∧ w < 34000) ∨ 37000 ≤ w → s' w = s w := by
  intro m
  induction m with
  | zero =>
    intro k f s hk hf hr hL
    obtain ⟨f, rfl⟩ : ∃ f9, f = f9 + 1 := ⟨f - 1, by omega⟩
    refine ⟨s, ?_, ?_, hr, fun _ _ => rfl⟩
    · rw [pl_X7_readAll_2, if_neg (by rw [q_onltL (by omega) (by omega)]; omega)]
    · rw [pl_X12_readPins_2, if_neg (by rw [q_onltL (by omega) (by omega)]; omega)]
  | succ m ih =>
    intro k f s hk hf hr hL
    obtain ⟨f, rfl⟩ : ∃ f9, f = f9 + 1 := ⟨f - 1, by omega⟩
    obtain ⟨r, h1, h2, e1, e2⟩ := q_readStep (fu := fu) (k := k) (x := x) (y := y) (u := u) (l := l) (by omega) hr hL a ha f
    have hL2 : q_Ln (q_ch s k a r) := q_Ln_c hL (fun w _ _ => q_ch_out (by omega) (by omega)) (fun w _ _ => q_ch_out (by omega) (by omega))
    obtain ⟨s', a1, a2, a3, a4⟩ := ih (k + 1) f (q_ch s k a r) (by omega) (by omega) (q_R_ch (by omega) hr h1 h2) hL2
    refine ⟨s', by rw [e1, a1], by rw [e2, a2], a3, ?_⟩
    intro w hw
    rw [a4 w hw, q_ch_out hw (by omega)]
theorem q_readP (hI : q_I D E W s l x y u v) (h0 : ¬ s 94 = 0) (a : Int32) (ha : (1 < v 12) ↔ a = 0) : ∃ s', pf_X7_readAll a s l x y = some ((), s', l, x, y) ∧ pf_X12_readPins s l u v = some ((), s', l, u, v) ∧ q_I D E W s' l x y u v ∧ s' 94 = s 94 ∧ s' 95 = s 95 := by
  obtain ⟨s', a1, a2, a3, a4⟩ := q_readLoop (fu := 1000) (l := l) (x := x) (y := y) (u := u) a ha 10 0 1000 s (by omega) (by omega) hI.1 hI.2.1
  refine ⟨s', a1, a2, q_I_s hI h0 a3 ?_, a4 94 (by omega), a4 95 (by omega)⟩
  intro w hw
  unfold q_Ss at hw
  exact a4 w (by omega)
end QRA

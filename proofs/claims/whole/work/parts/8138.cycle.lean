/-! PURE: the end of a cycle: the pair -/
section QEC
variable {s x u s' x' u' : Nat → Int32} {l y v l' y' v' : Nat → Int64} {D E W : Int} {fu k : Nat}
theorem q_uv {α : Type} {f : Nat → α} {z : Nat} {a : α} (h : f z = a) : pj_u f z a = f := by rw [← h, q_ui]
def q_hl (s : Nat → Int32) (k : Nat) : Nat → Int32 := if s (40084 + k) = 0 then s else if s (40112 + k) + 1 < 40 then pj_u s (40112 + k) (s (40112 + k) + 1) else pj_u (pj_u (pj_u s (40112 + k) (s (40112 + k) + 1)) (40112 + k) 0) (40084 + k) 0
def q_ec (s : Nat → Int32) (k : Nat) : Nat → Int32 := if s (40140 + k) = 0 then (if s (40168 + k) = 0 then s else q_hl (pj_u s (40056 + k) 0) k) else (if s (40196 + k) = 0 then s else pj_u (pj_u s (40084 + k) 1) (40112 + k) 0)
theorem q_heal (hk : k < 28) : pf_X10_heal (Int32.ofNat k) s l x y = some ((), q_hl (pj_u s (40056 + k) 0) k, l, x, y) := by
  unfold pf_X10_heal pl_X10_heal_9 pl_X10_heal_33 q_hl
  simp (disch := omega) only [q_g, q_onC, q_ua]
  split
  · rfl
  · split <;> rfl
theorem q_ecC (hk : k < 28) (f : Nat) : pl_X10_endCycle_2 fu (f + 1) (Int32.ofNat k) s l x y = pl_X10_endCycle_2 fu f (Int32.ofNat (k + 1)) (q_ec s k) l x y := by
  rw [pl_X10_endCycle_2]
  unfold pl_X10_endCycle_40 pl_X10_endCycle_49 pl_X10_endCycle_77 q_ec
  simp (disch := omega) only [q_g, q_onC, q_onltL, if_pos hk, q_onaL, q_heal, q_b, q_un]
  by_cases c1 : s (40140 + k) = 0
  · simp only [if_pos c1]
    by_cases c2 : s (40168 + k) = 0
    · simp only [if_pos c2]
    · simp only [if_neg c2]
  · simp only [if_neg c1]
    by_cases c2 : s (40196 + k) = 0
    · simp only [if_pos c2]
    · simp only [if_neg c2]
theorem q_hl39 (hr : q_R s) (hk : k < 28) : 0 ≤ (s (40112 + k)).toInt ∧ (s (40112 + k)).toInt ≤ 39 := by
  have a := hr (40000 + 28 * 4 + k)
  rw [q_rgT (by omega) hk, if_neg (by omega), if_pos rfl, show 40000 + 28 * 4 + k = 40112 + k by omega] at a
  exact a
theorem q_ecR (hr : q_R s) (hk : k < 28) (f : Nat) : pl_X12_endCycle_2 fu (f + 1) (Int32.ofNat k) s l u v = pl_X12_endCycle_2 fu f (Int32.ofNat (k + 1)) (q_ec s k) l u v := by
  have a := q_hl39 hr hk
  have e : (s (40112 + k) + 1).toInt = (s (40112 + k)).toInt + 1 := q_one (by omega) (by omega)
  rw [pl_X12_endCycle_2]
  unfold pl_X12_endCycle_43 pl_X12_endCycle_68 pl_X12_endCycle_99 pl_X12_endCycle_100 pl_X12_endCycle_125 q_ec q_hl
  simp (disch := omega) only [q_g, q_onC, q_onltL, if_pos hk, q_onaL, q_ua, q_un]
  by_cases c1 : s (40140 + k) = 0
  · simp only [if_pos c1]
    by_cases c2 : s (40168 + k) = 0
    · simp only [if_pos c2]
    · simp only [if_neg c2]
      by_cases c3 : s (40084 + k) = 0
      · have c4 : ¬ s (40112 + k) = 40 := by
          intro z
          rw [z] at a
          exact absurd a.2 (by decide)
        simp only [if_pos c3, if_neg c4]
        rw [show s (40112 + k) = pj_u s (40056 + k) 0 (40112 + k) by rw [q_un (by omega)], q_ui]
      · simp only [if_neg c3]
        by_cases c4 : s (40112 + k) + 1 < 40
        · have c5 : ¬ s (40112 + k) + 1 = 40 := by
            intro z
            rw [z] at c4
            exact absurd c4 (by decide)
          simp only [if_pos c4, if_neg c5]
        · have c5 : s (40112 + k) + 1 = 40 := by
            rw [Int32.lt_iff_toInt_lt, e] at c4
            simp only [Int32.reduceToInt] at c4
            rw [← Int32.toInt_inj, e]
            simp only [Int32.reduceToInt]
            omega
          simp only [if_neg c4, if_pos c5]
  · simp only [if_neg c1]
    by_cases c2 : s (40196 + k) = 0
    · simp only [if_pos c2]
    · simp only [if_neg c2]
theorem q_R_ec (hr : q_R s) (hk : k < 28) : q_R (q_ec s k) ∧ ∀ w, w < 40000 → q_ec s k w = s w := by
  have g := q_rgT (r := 4) (by omega) hk
  rw [if_neg (by omega), if_pos rfl, show 40000 + 28 * 4 + k = 40112 + k by omega] at g
  have m : ∀ {S : Nat → Int32} {a : Int32}, q_R S → 0 ≤ a.toInt ∧ a.toInt ≤ 39 → q_R (pj_u S (40112 + k) a) := by
    intro S a hS ha
    refine q_R_u hS ?_
    rw [g]
    exact ha
  have r0 : q_R (pj_u s (40056 + k) 0) := q_R_m1 (r := 2) hr hk (by omega) (by omega) (by omega) (by decide)
  have a := q_hl39 r0 hk
  have e : (pj_u s (40056 + k) 0 (40112 + k) + 1).toInt = (pj_u s (40056 + k) 0 (40112 + k)).toInt + 1 := q_one (by omega) (by omega)
  refine ⟨?_, ?_⟩
  · unfold q_ec
    split
    · split
      · exact hr
      · unfold q_hl
        split
        · exact r0
        · split
          · rename_i c
            rw [Int32.lt_iff_toInt_lt, e] at c
            simp only [Int32.reduceToInt] at c
            exact m r0 (by rw [e]; omega)
          · rw [q_uu]
            exact q_R_m1 (r := 3) (m r0 (by decide)) hk (by omega) (by omega) (by omega) (by decide)
    · split
      · exact hr
      · exact m (q_R_m1 (r := 3) hr hk (by omega) (by omega) (by omega) (by decide)) (by decide)
  · intro w hw
    unfold q_ec
    split
    · split
      · rfl
      · unfold q_hl
        split
        · rw [q_un (by omega)]
        · split
          · rw [q_un (by omega), q_un (by omega)]
          · rw [q_un (by omega), q_un (by omega), q_un (by omega), q_un (by omega)]
    · split
      · rfl
      · rw [q_un (by omega), q_un (by omega)]
theorem q_ecL : ∀ (m k f : Nat) (s : Nat → Int32), k + m = 28 → m < f → q_R s → ∃ S, pl_X10_endCycle_2 fu f (Int32.ofNat k) s l x y = pl_X10_endCycle_2 fu (f - m) (Int32.ofNat 28) S l x y ∧ pl_X12_endCycle_2 fu f (Int32.ofNat k) s l u v = pl_X12_endCycle_2 fu (f - m) (Int32.ofNat 28) S l u v ∧ q_R S ∧ ∀ w, w < 40000 → S w = s w := by
  intro m
  induction m with
  | zero =>
    intro k f s hk hf hr
    obtain rfl : k = 28 := by omega
    exact ⟨s, rfl, rfl, hr, fun _ _ => rfl⟩
  | succ m ih =>
    intro k f s hk hf hr
    obtain ⟨f, rfl⟩ : ∃ f9, f = f9 + 1 := ⟨f - 1, by omega⟩
    have r := q_R_ec hr (k := k) (by omega)
    obtain ⟨S, a, b, c, d⟩ := ih (k + 1) f (q_ec s k) (by omega) (by omega) r.1
    refine ⟨S, ?_, ?_, c, fun w hw => by rw [d w hw, r.2 w hw]⟩
    · rw [q_ecC (by omega), a, show f + 1 - (m + 1) = f - m by omega]
    · rw [q_ecR hr (by omega), b, show f + 1 - (m + 1) = f - m by omega]
theorem q_cycleP (hI : q_I D E W s l x y u v) (h0 : ¬ s 94 = 0) : ∃ s' x', pf_X10_endCycle s l x y = some ((), s', l, x', y) ∧ pf_X12_endCycle s l u v = some ((), s', l, u, v) ∧ q_I D E W s' l x' y u v ∧ s' 94 = s 94 := by
  have hr := hI.1
  have hf := hI.2.2.2.2.2.2.2.1
  obtain ⟨S, a, b, c, d⟩ := q_ecL (fu := 1000) (l := l) (x := x) (y := y) (u := u) (v := v) 28 0 1000 s (by omega) (by omega) hr
  have hC : pf_X10_endCycle s l x y = pl_X10_endCycle_2 1000 (971 + 1) (Int32.ofNat 28) S l x y := a
  have hR : pf_X12_endCycle s l u v = pl_X12_endCycle_2 1000 (971 + 1) (Int32.ofNat 28) S l u v := b
  have n28 : ¬ Int32.ofNat 28 < 28 := by decide
  have h87 := q_R87 c
  have rS : q_R (pj_u S 88 (S 88 + 1)) := q_R_u c q_R_any
  have hS : ∀ w, q_Ss w → ¬ w = 87 → (pj_u S 88 (S 88 + 1)) w = s w := by
    intro w hw h
    rw [q_un (by unfold q_Ss at hw; omega), d w (by unfold q_Ss at hw; omega)]
  have p94 : (pj_u S 88 (S 88 + 1)) 94 = s 94 := by rw [q_un (by omega), d 94 (by omega)]
  have p87 : (pj_u S 88 (S 88 + 1)) 87 = S 87 := q_un (by omega)
  have q87 : S 87 = s 87 := d 87 (by omega)
  have keep : q_I D E W (pj_u S 88 (S 88 + 1)) l x y u v := by
    refine q_I_s hI h0 rS ?_
    intro w hw
    by_cases z : w = 87
    · rw [z, p87, q87]
    · exact hS w hw z
  rw [hC, hR, pl_X10_endCycle_2, if_neg n28, pl_X12_endCycle_2, if_neg n28]
  unfold pl_X12_endCycle_177 pl_X12_endCycle_181 pl_X12_endCycle_182
  rw [q_bz0, q_bz1]
  by_cases c1 : S 87 = 0
  · rw [if_pos c1, if_pos c1]
    have e : pj_u (pj_u S 88 (S 88 + 1)) 87 0 = pj_u S 88 (S 88 + 1) := q_uv (by rw [p87, c1])
    rw [e]
    exact ⟨_, _, rfl, rfl, keep, p94⟩
  · rw [if_neg c1, if_neg c1]
    have one : S 87 = 1 := by
      rcases q_b01 h87.1 h87.2 with z | z
      · exact absurd z c1
      · exact z
    obtain ⟨f1, f2, f3⟩ := hf.1 (by rw [← q87]; exact c1)
    have e0 : x 8000 = u 10000 := f1 0 (by omega)
    obtain ⟨n, en, hn, hn2⟩ := q_nat (a := x 8000) f2
    have eu : u 10000 = Int32.ofNat n := by rw [← e0, en]
    have g1 : ¬ x 8000 < 0 := by rw [en]; exact q_onnn hn2
    have g2 : x 8000 < 28 := by rw [en, q_onltL (by omega) (by omega)]; omega
    have e : pj_u (pj_u S 88 (S 88 + 1)) 87 1 = pj_u S 88 (S 88 + 1) := q_uv (by rw [p87, one])
    rw [if_neg g1, if_pos g2, e, en, eu, q_g (by omega) (by omega), q_g (by omega) (by omega), q_g (by omega) (by omega), q_g (by omega) (by omega), q_onC (by omega)]
    by_cases c2 : (pj_u S 88 (S 88 + 1)) (40056 + n) = 0
    · rw [if_pos c2, if_pos c2]
      by_cases c3 : (pj_u S 88 (S 88 + 1)) (40084 + n) = 0
      · rw [if_pos c3, if_pos c3]
        obtain ⟨X, x1, x2⟩ := q_fill2 (fu := 1000) (s := pj_u (pj_u S 88 (S 88 + 1)) 87 0) (l := l) (y := y) 8 0 1000 x (by omega) (by omega)
        have x1 : pf_J7_fill_53178_v2 0 (pj_u (pj_u S 88 (S 88 + 1)) 87 0) l x y = some ((), pj_u (pj_u S 88 (S 88 + 1)) 87 0, l, X, y) := x1
        rw [x1, q_b]
        have xo : ∀ w, w < 8000 ∨ 8008 ≤ w → X w = x w := by
          intro w hw
          rw [x2 w, if_neg (by simp <;> omega)]
        have xi : ∀ i, i < 8 → X (8000 + i) = 0 := by
          intro i hi
          rw [x2 (8000 + i), if_pos (by simp <;> omega), q_zx_8000 hi]
          rfl
        refine ⟨_, _, rfl, rfl, q_I_fm hI h0 (q_R_u rS (by decide)) ⟨fun z => absurd q_ua z, fun _ => xi⟩ ?_ ?_ (fun _ _ _ => rfl), ?_⟩
        · intro w hw h; rw [q_un h]; exact hS w hw h
        · intro w hw h; exact xo w h
        · rw [q_un (by omega)]; exact p94
      · rw [if_neg c3, if_neg c3]
        exact ⟨_, _, rfl, rfl, keep, p94⟩
    · rw [if_neg c2, if_neg c2]
      exact ⟨_, _, rfl, rfl, keep, p94⟩
end QEC

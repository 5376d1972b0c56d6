/-! PURE: what is written into STORE -/
section QDF
variable {s x u s' x' u' : Nat → Int32} {l y v l' y' v' : Nat → Int64} {D E W : Int} {fu k : Nat}
def q_wd (s u : Nat → Int32) (k : Nat) : Int32 := if k ≤ 28 then ((if s (40055 + k) = 0 then 0 else 1) + (if s (40083 + k) = 0 then 0 else 2)) + 4 * s (40111 + k) else if k = 29 then (if s 87 = 0 then 0 else u 10000 + 1) else if k ≤ 36 then (if s 87 = 0 then 0 else u (9971 + k)) else if k ≤ 52 then s (8963 + k) else s 88
theorem q_wordOf (h1 : 1 ≤ k) (h2 : k ≤ 53) : pf_X12_wordOf (Int32.ofNat k) s l u v = some (q_wd s u k, s, l, u, v) := by
  unfold pf_X12_wordOf q_wd
  by_cases c1 : k ≤ 28
  · have n : ¬ (28 : Int32) < Int32.ofNat k := by rw [q_onltR (by omega) (by omega)]; omega
    have e : Int32.ofNat k - 1 = Int32.ofNat (k - 1) := q_onsL (n := 1) h1
    rw [if_neg n, if_pos c1, e]
    unfold pl_X12_wordOf_24 pl_X12_wordOf_38
    simp (disch := omega) only [q_g, q_onC]
    rw [show 40056 + (k - 1) = 40055 + k by omega, show 40084 + (k - 1) = 40083 + k by omega, show 40112 + (k - 1) = 40111 + k by omega]
    split
    · split <;> rfl
    · split <;> rfl
  · have n : (28 : Int32) < Int32.ofNat k := by rw [q_onltR (by omega) (by omega)]; omega
    rw [if_pos n, if_neg c1]
    by_cases c2 : k = 29
    · have n2 : Int32.ofNat k = 29 := by rw [c2]; rfl
      rw [if_pos n2, if_pos c2]
      split <;> rfl
    · have n2 : ¬ Int32.ofNat k = 29 := by rw [q_oneqL (by omega) (by omega)]; exact c2
      rw [if_neg n2, if_neg c2]
      by_cases c3 : k ≤ 36
      · have n3 : ¬ (36 : Int32) < Int32.ofNat k := by rw [q_onltR (by omega) (by omega)]; omega
        have e : Int32.ofNat k - 29 = Int32.ofNat (k - 29) := q_onsL (n := 29) (by show 29 ≤ k; omega)
        rw [if_neg n3, if_pos c3, e, q_g (by omega) (by omega), q_onC (by omega), show 10000 + (k - 29) = 9971 + k by omega]
        split <;> rfl
      · have n3 : (36 : Int32) < Int32.ofNat k := by rw [q_onltR (by omega) (by omega)]; omega
        rw [if_pos n3, if_neg c3]
        by_cases c4 : k ≤ 52
        · have n4 : ¬ (52 : Int32) < Int32.ofNat k := by rw [q_onltR (by omega) (by omega)]; omega
          have e : Int32.ofNat k - 37 = Int32.ofNat (k - 37) := q_onsL (n := 37) (by show 37 ≤ k; omega)
          rw [if_neg n4, if_pos c4, e, q_g (by omega) (by omega), q_onC (by omega), show 9000 + (k - 37) = 8963 + k by omega]
        · have n4 : (52 : Int32) < Int32.ofNat k := by rw [q_onltR (by omega) (by omega)]; omega
          rw [if_pos n4, if_neg c4]
theorem q_wd_c (g : ∀ w, ¬ w = 44 → w < 13000 ∨ 15000 ≤ w → s' w = s w) (h1 : 1 ≤ k) (h2 : k ≤ 53) : q_wd s' u k = q_wd s u k := by
  unfold q_wd
  by_cases c1 : k ≤ 28
  · rw [if_pos c1, if_pos c1, g _ (by omega) (by omega), g _ (by omega) (by omega), g _ (by omega) (by omega)]
  · rw [if_neg c1, if_neg c1, g 87 (by omega) (by omega), g 88 (by omega) (by omega)]
    by_cases c4 : k ≤ 52
    · rw [if_pos c4, if_pos c4]
      by_cases c3 : k ≤ 36
      · rw [if_pos c3, if_pos c3]
      · rw [if_neg c3, if_neg c3, g _ (by omega) (by omega)]
    · rw [if_neg c4, if_neg c4]
-- class
theorem q_f10 (hr : q_R s) : ∀ (m i f : Nat) (x : Nat → Int32), i + m = 28 → m < f → ∃ X, pl_X10_fill_10 fu f (Int32.ofNat i) s l x y = pl_X10_fill_10 fu (f - m) (Int32.ofNat 28) s l X y ∧ (∀ j, i ≤ j → j < 28 → X (1001 + j) = ((if s (40056 + j) = 0 then 0 else 1) + (if s (40084 + j) = 0 then 0 else 2)) + 4 * s (40112 + j)) ∧ (∀ w, w < 1001 + i ∨ 1029 ≤ w → X w = x w) := by
  intro m
  induction m with
  | zero =>
    intro i f x e hf
    obtain rfl : i = 28 := by omega
    exact ⟨x, rfl, fun j h1 h2 => by omega, fun _ _ => rfl⟩
  | succ m ih =>
    intro i f x e hf
    obtain ⟨f, rfl⟩ : ∃ f9, f = f9 + 1 := ⟨f - 1, by omega⟩
    have c1 : i < 28 := by omega
    obtain ⟨X, e1, e2, e3⟩ := ih (i + 1) f (pj_u x (1000 + (1 + i)) ((s (40056 + i) + 2 * s (40084 + i)) + 4 * s (40112 + i))) (by omega) (by omega)
    have b1 := hr (40000 + 28 * 2 + i)
    have b2 := hr (40000 + 28 * 3 + i)
    rw [q_rgT (by omega) c1, if_neg (by omega), if_neg (by omega), show 40000 + 28 * 2 + i = 40056 + i by omega] at b1
    rw [q_rgT (by omega) c1, if_neg (by omega), if_neg (by omega), show 40000 + 28 * 3 + i = 40084 + i by omega] at b2
    have k1 : s (40056 + i) = (if s (40056 + i) = 0 then 0 else 1) := by
      rcases q_b01 b1.1 b1.2 with z | z
      · rw [z, if_pos rfl]
      · rw [z, if_neg (by decide)]
    have k2 : 2 * s (40084 + i) = (if s (40084 + i) = 0 then 0 else 2) := by
      rcases q_b01 b2.1 b2.2 with z | z
      · rw [z, if_pos rfl]; rfl
      · rw [z, if_neg (by decide)]; rfl
    refine ⟨X, ?_, ?_, ?_⟩
    · rw [show f + 1 - (m + 1) = f - m by omega, ← e1, pl_X10_fill_10]
      rw [show (1 : Int32) + Int32.ofNat i = Int32.ofNat (1 + i) from q_ona 1 i]
      simp (disch := omega) only [q_onltL, if_pos c1, q_g, q_onC, q_onaL]
    · intro j h1 h2
      by_cases c : j = i
      · rw [c, e3 _ (by omega), show 1001 + i = 1000 + (1 + i) by omega, q_ua, k2, ← k1]
      · exact e2 j (by omega) h2
    · intro w hw
      rw [e3 w (by omega), q_un (by omega)]
theorem q_f82 : ∀ (m i f : Nat) (x : Nat → Int32), 1 ≤ i → i + m = 8 → m < f → ∃ X, pl_X10_fill_82 fu f (Int32.ofNat i) s l x y = some ((), s, l, X, y) ∧ (∀ j, i ≤ j → j < 8 → X (1029 + j) = if s 87 = 0 then 0 else x (8000 + j)) ∧ X 1053 = s 88 ∧ (∀ w, w < 1029 + i ∨ (1037 ≤ w ∧ ¬ w = 1053) → X w = x w) := by
  intro m
  induction m with
  | zero =>
    intro i f x hi e hf
    obtain ⟨f, rfl⟩ : ∃ f9, f = f9 + 1 := ⟨f - 1, by omega⟩
    have c1 : ¬ i < 8 := by omega
    refine ⟨pj_u x 1053 (s 88), by simp (disch := omega) only [pl_X10_fill_82, q_onltL, if_neg c1], fun j h1 h2 => by omega, q_ua, fun w hw => q_un (by omega)⟩
  | succ m ih =>
    intro i f x hi e hf
    obtain ⟨f, rfl⟩ : ∃ f9, f = f9 + 1 := ⟨f - 1, by omega⟩
    have c1 : i < 8 := by omega
    obtain ⟨X, e1, e2, e3, e4⟩ := ih (i + 1) f (pj_u x (1000 + (29 + i)) (if s 87 = 0 then 0 else x (8000 + i))) (by omega) (by omega) (by omega)
    refine ⟨X, ?_, ?_, e3, ?_⟩
    · rw [← e1, pl_X10_fill_82]
      unfold pl_X10_fill_110
      rw [show (29 : Int32) + Int32.ofNat i = Int32.ofNat (29 + i) from q_ona 29 i]
      simp (disch := omega) only [q_onltL, if_pos c1, q_g, q_onC, q_onaL]
      split <;> rfl
    · intro j h1 h2
      by_cases c : j = i
      · rw [c, e4 _ (by omega), show 1029 + i = 1000 + (29 + i) by omega, q_ua]
      · rw [e2 j (by omega) h2, q_un (by omega)]
    · intro w hw
      rw [e4 w (by omega), q_un (by omega)]
theorem q_draft (hr : q_R s) (hf : q_Fm s x u) : ∃ X1 X, pf_X10_fill s l x y = some ((), s, l, X1, y) ∧ pf_X3_fill s l X1 y = some ((), s, l, X, y) ∧ (∀ k, 1 ≤ k → k ≤ 53 → X (1000 + k) = q_wd s u k) ∧ (∀ w, w < 1001 ∨ 1054 ≤ w → X w = x w) := by
  obtain ⟨X0, a1, a2, a3⟩ := q_f10 (fu := 1000) (l := l) (y := y) hr 28 0 1000 x (by omega) (by omega)
  obtain ⟨X1, b1, b2, b3, b4⟩ := q_f82 (fu := 1000) (s := s) (l := l) (y := y) 7 1 1000 (pj_u X0 1029 (if s 87 = 0 then 0 else 1 + X0 8000)) (by omega) (by omega) (by omega)
  have hC : pf_X10_fill s l x y = some ((), s, l, X1, y) := by
    have e : pf_X10_fill s l x y = pl_X10_fill_10 1000 (971 + 1) (Int32.ofNat 28) s l X0 y := a1
    rw [e, pl_X10_fill_10, if_neg (by decide)]
    unfold pl_X10_fill_79
    by_cases c : s 87 = 0
    · rw [if_pos c] at b1 ⊢; exact b1
    · rw [if_neg c] at b1 ⊢; exact b1
  refine ⟨X1, pj_y X1 1037 16 s 9000, hC, ?_, ?_, ?_⟩
  · unfold pf_X3_fill pj_c
    rw [if_neg (by decide)]
  · intro k h1 h2
    unfold q_wd
    by_cases c1 : k ≤ 28
    · rw [if_pos c1, q_y_out (by omega), b4 _ (by omega), q_un (by omega), show 1000 + k = 1001 + (k - 1) by omega, a2 (k - 1) (by omega) (by omega), show 40056 + (k - 1) = 40055 + k by omega, show 40084 + (k - 1) = 40083 + k by omega, show 40112 + (k - 1) = 40111 + k by omega]
    · rw [if_neg c1]
      by_cases c2 : k = 29
      · rw [if_pos c2, c2, q_y_out (by omega), b4 _ (by omega), q_ua, a3 8000 (by omega)]
        by_cases c : s 87 = 0
        · rw [if_pos c, if_pos c]
        · rw [if_neg c, if_neg c, show x 8000 = u 10000 from (hf.1 c).1 0 (by omega), Int32.add_comm]
      · rw [if_neg c2]
        by_cases c3 : k ≤ 36
        · rw [if_pos c3, q_y_out (by omega), show 1000 + k = 1029 + (k - 29) by omega, b2 (k - 29) (by omega) (by omega), q_un (by omega), a3 _ (by omega)]
          by_cases c : s 87 = 0
          · rw [if_pos c, if_pos c]
          · rw [if_neg c, if_neg c, (hf.1 c).1 (k - 29) (by omega), show 10000 + (k - 29) = 9971 + k by omega]
        · rw [if_neg c3]
          by_cases c4 : k ≤ 52
          · rw [if_pos c4, q_y_at (by omega), show 9000 + (1000 + k - 1037) = 8963 + k by omega]
          · rw [if_neg c4, q_y_out (by omega), show 1000 + k = 1053 by omega, b3]
  · intro w hw
    rw [q_y_out (by omega), b4 w (by omega), q_un (by omega), a3 w (by omega)]
end QDF

/-! PURE 1: LINES -/
/-- the value of a LINE, known to lie behind its point i - 1, m points being left -/
def q_line (X V : Nat → Int32) (a : Int32) : Nat → Nat → Int32
  | 0, i => V (i - 1)
  | m + 1, i => if a < X i then V (i - 1) + (q_fd ((V i - V (i - 1)).toInt64 * (a.toInt64 - (X (i - 1)).toInt64)) ((X i - X (i - 1)).toInt64)).toInt32 else q_line X V a m (i + 1)
/-- LINE k with n points is as it must be; its values lie from lo on -/
def q_isLn (s : Nat → Int32) (k n : Nat) (lo : Int) : Prop := 2 ≤ n ∧ n ≤ 8 ∧ s (28000 + k) = Int32.ofNat n ∧ (∀ j, j + 1 < n → (s (26000 + 8 * k + j)).toInt < (s (26000 + 8 * k + (j + 1))).toInt) ∧ ∀ j, j < n → -10000 ≤ (s (26000 + 8 * k + j)).toInt ∧ (s (26000 + 8 * k + j)).toInt ≤ 30000 ∧ lo ≤ (s (27000 + 8 * k + j)).toInt ∧ (s (27000 + 8 * k + j)).toInt ≤ 30000
section QL
variable {s x u : Nat → Int32} {l y v : Nat → Int64} {k n fu : Nat} {lo : Int}
theorem q_width (h : q_isLn s k n lo) {i : Nat} (hi : i + 1 < n) : 0 < (s (26000 + 8 * k + (i + 1)) - s (26000 + 8 * k + i)).toInt64 ∧ (s (26000 + 8 * k + (i + 1)) - s (26000 + 8 * k + i)).toInt = (s (26000 + 8 * k + (i + 1))).toInt - (s (26000 + 8 * k + i)).toInt := by
  obtain ⟨h1, h2, h3, h4, h5⟩ := h
  have r0 := h5 i (by omega)
  have r1 := h5 (i + 1) hi
  have r2 := h4 i hi
  have e := q_sub (a := s (26000 + 8 * k + (i + 1))) (b := s (26000 + 8 * k + i)) (by omega) (by omega)
  refine ⟨?_, e⟩
  rw [Int64.lt_iff_toInt_lt, Int32.toInt_toInt64, e]
  show (0 : Int) < _
  omega
theorem q_lineC (hk : k < 13) (h : q_isLn s k n lo) (a : Int32) : ∀ (m i f : Nat), 1 ≤ i → i + m = n → m < f → pl_X7_lineValue_36 fu f (Int32.ofNat k) a k k (s (27000 + 8 * k + (i - 1))) (Int32.ofNat i) s l x y = some (q_line (fun j => s (26000 + 8 * k + j)) (fun j => s (27000 + 8 * k + j)) a m i, s, l, x, y) := by
  have h' := h
  obtain ⟨h1, h2, h3, h4, h5⟩ := h'
  intro m
  induction m with
  | zero =>
    intro i f hi e hf
    obtain ⟨f, rfl⟩ : ∃ f9, f = f9 + 1 := ⟨f - 1, by omega⟩
    have c : ¬ i < n := by omega
    simp (disch := omega) only [pl_X7_lineValue_36, q_g, q_onC, h3, q_onlt, if_neg c, q_line]
  | succ m ih =>
    intro i f hi e hf
    obtain ⟨f, rfl⟩ : ∃ f9, f = f9 + 1 := ⟨f - 1, by omega⟩
    obtain ⟨j, rfl⟩ : ∃ j9, i = j9 + 1 := ⟨i - 1, by omega⟩
    have c : j + 1 < n := by omega
    have c8 : j + 1 < 8 := by omega
    obtain ⟨w1, w2⟩ := q_width h c
    have ih := ih (j + 2) f (by omega) (by omega) (by omega)
    simp only [show j + 2 - 1 = j + 1 by omega] at ih
    simp (disch := omega) only [pl_X7_lineValue_36, pl_X7_lineValue_113, q_g, q_r, q_onC, h3, q_onlt, q_onltL, q_onsL, q_onaL, if_pos c, if_pos c8, Nat.add_sub_cancel, if_pos w1, q_floorDiv w1, q_b, q_line, ih]
    split <;> rfl
theorem q_lineR (hk : k < 13) (h : q_isLn s k n lo) (a : Int32) (ha : a < s (26000 + 8 * k + (n - 1))) : ∀ (m i f : Nat), 1 ≤ i → i + (m + 1) = n → m < f → ¬ a < s (26000 + 8 * k + (i - 1)) → pl_X12_lineValue_53 fu f a (Int32.ofNat (8 * k + (i - 1))) s l u v = some (q_line (fun j => s (26000 + 8 * k + j)) (fun j => s (27000 + 8 * k + j)) a (m + 1) i, s, l, u, v) := by
  have h' := h
  obtain ⟨h1, h2, h3, h4, h5⟩ := h'
  have step : ∀ (i f : Nat), i + 1 < n → ¬ a < s (26000 + 8 * k + i) → pl_X12_lineValue_53 fu (f + 1) a (Int32.ofNat (8 * k + i)) s l u v = if a < s (26000 + 8 * k + (i + 1)) then some (s (27000 + 8 * k + i) + (q_fd ((s (27000 + 8 * k + (i + 1)) - s (27000 + 8 * k + i)).toInt64 * (a.toInt64 - (s (26000 + 8 * k + i)).toInt64)) ((s (26000 + 8 * k + (i + 1)) - s (26000 + 8 * k + i)).toInt64)).toInt32, s, l, u, v) else pl_X12_lineValue_53 fu f a (Int32.ofNat (8 * k + (i + 1))) s l u v := by
    intro i f hi hx
    obtain ⟨w1, w2⟩ := q_width h hi
    have w3 : ¬ (s (26000 + 8 * k + (i + 1)) - s (26000 + 8 * k + i)).toInt64 = 0 := by
      intro e
      rw [e] at w1
      exact Int64.lt_irrefl w1
    simp (disch := omega) only [pl_X12_lineValue_53, q_onaL, q_g, q_onC]
    simp only [Nat.add_assoc] at hx w1 w2 w3 ⊢
    by_cases c : a < s (26000 + (8 * k + (i + 1)))
    · rw [if_pos c, if_pos c, q_down w3, q_b]
      have r0 := h5 i (by omega)
      have r1 := h5 (i + 1) (by omega)
      simp only [Nat.add_assoc] at r0 r1
      have c2 : a.toInt < (s (26000 + (8 * k + (i + 1)))).toInt := Int32.lt_iff_toInt_lt.mp c
      have c3 : ¬ a.toInt < (s (26000 + (8 * k + i))).toInt := fun q => hx (Int32.lt_iff_toInt_lt.mpr q)
      have e2 : (a - s (26000 + (8 * k + i))).toInt64 = a.toInt64 - (s (26000 + (8 * k + i))).toInt64 := by
        rw [← Int64.toInt_inj, Int32.toInt_toInt64, q_sub (by omega) (by omega), q_subL (by rw [Int32.toInt_toInt64, Int32.toInt_toInt64]; omega) (by rw [Int32.toInt_toInt64, Int32.toInt_toInt64]; omega), Int32.toInt_toInt64, Int32.toInt_toInt64]
      rw [e2]
    · rw [if_neg c, if_neg c]
  intro m
  induction m with
  | zero =>
    intro i f hi e hf hx
    obtain ⟨f, rfl⟩ : ∃ f9, f = f9 + 1 := ⟨f - 1, by omega⟩
    obtain ⟨j, rfl⟩ : ∃ j9, i = j9 + 1 := ⟨i - 1, by omega⟩
    have ha2 : a < s (26000 + 8 * k + (j + 1)) := by rw [show j + 1 = n - 1 by omega]; exact ha
    rw [show j + 1 - 1 = j from rfl] at hx ⊢
    rw [step j f (by omega) hx, if_pos ha2]
    unfold q_line
    rw [if_pos ha2]
    rfl
  | succ m ih =>
    intro i f hi e hf hx
    obtain ⟨f, rfl⟩ : ∃ f9, f = f9 + 1 := ⟨f - 1, by omega⟩
    obtain ⟨j, rfl⟩ : ∃ j9, i = j9 + 1 := ⟨i - 1, by omega⟩
    rw [show j + 1 - 1 = j from rfl] at hx ⊢
    rw [step j f (by omega) hx]
    unfold q_line
    by_cases c : a < s (26000 + 8 * k + (j + 1))
    · rw [if_pos c, if_pos c]
      rfl
    · rw [if_neg c, if_neg c]
      exact ih (j + 2) f (by omega) (by omega) (by omega) c
theorem q_between {d e w : Int} (hw : 0 < w) (h0 : 0 ≤ e) (h1 : e ≤ w) : (0 ≤ d → 0 ≤ d * e / w ∧ d * e / w ≤ d) ∧ (d ≤ 0 → d ≤ d * e / w ∧ d * e / w ≤ 0) := by
  refine ⟨fun hd => ⟨Int.ediv_nonneg (Int.mul_nonneg hd h0) (Int.le_of_lt hw), Int.ediv_le_of_le_mul hw (Int.mul_le_mul_of_nonneg_left h1 hd)⟩, fun hd => ⟨Int.le_ediv_of_mul_le hw ?_, Int.ediv_le_of_le_mul hw ?_⟩⟩
  · have := Int.mul_nonpos_of_nonpos_of_nonneg (a := d) (b := w - e) hd (by omega)
    rw [Int.mul_sub] at this
    omega
  · have := Int.mul_nonpos_of_nonpos_of_nonneg hd h0
    omega
/-- between two points the value lies between theirs -/
theorem q_lineIn (hlo : -40000 ≤ lo) (h : q_isLn s k n lo) (a : Int32) {j : Nat} (hj : j + 1 < n) (h0 : ¬ a < s (26000 + 8 * k + j)) (h1 : a < s (26000 + 8 * k + (j + 1))) : lo ≤ (s (27000 + 8 * k + j) + (q_fd ((s (27000 + 8 * k + (j + 1)) - s (27000 + 8 * k + j)).toInt64 * (a.toInt64 - (s (26000 + 8 * k + j)).toInt64)) ((s (26000 + 8 * k + (j + 1)) - s (26000 + 8 * k + j)).toInt64)).toInt32).toInt ∧ (s (27000 + 8 * k + j) + (q_fd ((s (27000 + 8 * k + (j + 1)) - s (27000 + 8 * k + j)).toInt64 * (a.toInt64 - (s (26000 + 8 * k + j)).toInt64)) ((s (26000 + 8 * k + (j + 1)) - s (26000 + 8 * k + j)).toInt64)).toInt32).toInt ≤ 30000 := by
  obtain ⟨w1, w2⟩ := q_width h hj
  obtain ⟨c1, c2, c3, c4, c5⟩ := h
  have r0 := c5 j (by omega)
  have r1 := c5 (j + 1) hj
  have r2 := c4 j hj
  rw [Int32.lt_iff_toInt_lt] at h0 h1
  generalize s (27000 + 8 * k + j) = V0 at *
  generalize s (27000 + 8 * k + (j + 1)) = V1 at *
  generalize s (26000 + 8 * k + j) = X0 at *
  generalize s (26000 + 8 * k + (j + 1)) = X1 at *
  have g0 : -2147483648 ≤ V0.toInt := V0.le_toInt
  have g1 : -2147483648 ≤ V1.toInt := V1.le_toInt
  · have d1 := q_sub (a := V1) (b := V0) (by omega) (by omega)
    have d2 : (a.toInt64 - X0.toInt64).toInt = a.toInt - X0.toInt := by
      rw [q_subL (by rw [Int32.toInt_toInt64, Int32.toInt_toInt64]; omega) (by rw [Int32.toInt_toInt64, Int32.toInt_toInt64]; omega), Int32.toInt_toInt64, Int32.toInt_toInt64]
    have b0 := q_between (d := V1.toInt - V0.toInt) (e := a.toInt - X0.toInt) (w := X1.toInt - X0.toInt) (by omega) (by omega) (by omega)
    have hp : -9223372036854775808 ≤ (V1.toInt - V0.toInt) * (a.toInt - X0.toInt) ∧ (V1.toInt - V0.toInt) * (a.toInt - X0.toInt) ≤ 9223372036854775807 := by
      have m1 := Int.mul_le_mul (a := V1.toInt - V0.toInt) (b := a.toInt - X0.toInt) (c := 100000) (d := 100000) (by omega) (by omega) (by omega) (by omega)
      have m2 := Int.mul_le_mul (a := V0.toInt - V1.toInt) (b := a.toInt - X0.toInt) (c := 100000) (d := 100000) (by omega) (by omega) (by omega) (by omega)
      rw [Int.sub_mul] at m1 m2 ⊢
      omega
    have d3 : ((V1 - V0).toInt64 * (a.toInt64 - X0.toInt64)).toInt = (V1.toInt - V0.toInt) * (a.toInt - X0.toInt) := by
      rw [q_mulL (by rw [Int32.toInt_toInt64, d1, d2]; exact hp.1) (by rw [Int32.toInt_toInt64, d1, d2]; exact hp.2), Int32.toInt_toInt64, d1, d2]
    have d4 := q_fdI (a := (V1 - V0).toInt64 * (a.toInt64 - X0.toInt64)) (b := (X1 - X0).toInt64) (by rw [Int32.toInt_toInt64, w2]; omega)
    rw [d3, Int32.toInt_toInt64, w2] at d4
    generalize (V1.toInt - V0.toInt) * (a.toInt - X0.toInt) / (X1.toInt - X0.toInt) = Q at *
    have d5 := q_32 (a := q_fd ((V1 - V0).toInt64 * (a.toInt64 - X0.toInt64)) ((X1 - X0).toInt64)) (by rw [d4]; omega) (by rw [d4]; omega)
    rw [d4] at d5
    rw [q_add (by rw [d5]; omega) (by rw [d5]; omega), d5]
    omega
theorem q_lineRange (hlo : -40000 ≤ lo) (h : q_isLn s k n lo) (a : Int32) : ∀ (m i : Nat), 1 ≤ i → i + m = n → ¬ a < s (26000 + 8 * k + (i - 1)) → lo ≤ (q_line (fun j => s (26000 + 8 * k + j)) (fun j => s (27000 + 8 * k + j)) a m i).toInt ∧ (q_line (fun j => s (26000 + 8 * k + j)) (fun j => s (27000 + 8 * k + j)) a m i).toInt ≤ 30000 := by
  intro m
  induction m with
  | zero =>
    intro i hi e _
    have r0 := h.2.2.2.2 (i - 1) (by omega)
    exact ⟨r0.2.2.1, r0.2.2.2⟩
  | succ m ih =>
    intro i hi e h0
    obtain ⟨j, rfl⟩ : ∃ j9, i = j9 + 1 := ⟨i - 1, by omega⟩
    rw [show j + 1 - 1 = j from rfl] at h0
    unfold q_line
    by_cases c : a < s (26000 + 8 * k + (j + 1))
    · rw [if_pos c]
      exact q_lineIn hlo h a (by omega) h0 c
    · rw [if_neg c]
      exact ih (j + 2) (by omega) (by omega) c
theorem q_lineValue (hlo : -40000 ≤ lo) (hk : k < 13) (h : q_isLn s k n lo) (a : Int32) : ∃ r, pf_X7_lineValue (Int32.ofNat k) a s l x y = some (r, s, l, x, y) ∧ pf_X12_lineValue (Int32.ofNat k) a s l u v = some (r, s, l, u, v) ∧ lo ≤ r.toInt ∧ r.toInt ≤ 30000 := by
  have h' := h
  obtain ⟨h1, h2, h3, h4, h5⟩ := h'
  have e1 : 26000 + (8 * k + n - 1) = 26000 + 8 * k + (n - 1) := by omega
  have e2 : 27000 + (8 * k + n - 1) = 27000 + 8 * k + (n - 1) := by omega
  have e3 : 26000 + (8 * k) = 26000 + 8 * k + 0 := rfl
  have e4 : 27000 + (8 * k) = 27000 + 8 * k + 0 := rfl
  by_cases c0 : s (26000 + 8 * k + 0) < a
  · have c1 : ¬ a < s (26000 + 8 * k + 0) := by
      rw [Int32.lt_iff_toInt_lt] at c0 ⊢
      omega
    refine ⟨q_line (fun j => s (26000 + 8 * k + j)) (fun j => s (27000 + 8 * k + j)) a (n - 1) 1, ?_, ?_, q_lineRange hlo h a (n - 1) 1 (by omega) (by omega) c1⟩
    · simp (disch := omega) only [pf_X7_lineValue, po_X7_lineValue, q_g, q_onC, q_r, if_pos c0]
      exact q_lineC hk h a (n - 1) 1 1000 (by omega) (by omega) (by omega)
    · simp (disch := omega) only [pf_X12_lineValue, po_X12_lineValue, q_g, q_onmL, q_onC, h3, q_ona, q_onsL, e1, e2]
      have c0' : s (26000 + 8 * k) < a := c0
      rw [if_pos c0']
      by_cases c2 : a < s (26000 + 8 * k + (n - 1))
      · rw [if_pos c2]
        have := q_lineR (fu := 1000) (l := l) (u := u) (v := v) hk h a c2 (n - 2) 1 1000 (by omega) (by omega) (by omega) c1
        rw [show n - 2 + 1 = n - 1 by omega] at this
        exact this
      · rw [if_neg c2]
        have last : ∀ (m i : Nat), 1 ≤ i → i + m = n → q_line (fun j => s (26000 + 8 * k + j)) (fun j => s (27000 + 8 * k + j)) a m i = s (27000 + 8 * k + (n - 1)) := by
          intro m
          induction m with
          | zero =>
            intro i hi e
            unfold q_line
            rw [show i - 1 = n - 1 by omega]
          | succ m ih =>
            intro i hi e
            unfold q_line
            have mono : ∀ (d i : Nat), i + d < n → (s (26000 + 8 * k + i)).toInt ≤ (s (26000 + 8 * k + (i + d))).toInt := by
              intro d
              induction d with
              | zero => intro i _; exact Int.le_refl _
              | succ d ihd =>
                intro i hd
                have q1 := ihd i (by omega)
                have q2 := h4 (i + d) (by omega)
                exact Int.le_trans q1 (Int.le_of_lt q2)
            have q3 := mono (n - 1 - i) i (by omega)
            rw [show i + (n - 1 - i) = n - 1 by omega] at q3
            rw [if_neg, ih (i + 1) (by omega) (by omega)]
            intro q4
            apply c2
            rw [Int32.lt_iff_toInt_lt] at q4 ⊢
            omega
        rw [last (n - 1) 1 (by omega) (by omega)]
  · refine ⟨s (27000 + 8 * k + 0), ?_, ?_, (h5 0 (by omega)).2.2.1, (h5 0 (by omega)).2.2.2⟩
    · simp (disch := omega) only [pf_X7_lineValue, po_X7_lineValue, q_g, q_onC, q_r, if_neg c0]
    · simp (disch := omega) only [pf_X12_lineValue, po_X12_lineValue, q_g, q_onmL, q_onC]
      have c0' : ¬ s (26000 + 8 * k) < a := c0
      rw [if_neg c0']
      rfl
end QL

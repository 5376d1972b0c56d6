/-! PURE: sums and VALID copies -/
/-- the sum of (j + 1) * word j, m of them from place i on, behind c -/
def q_sm (w : Nat → Int32) : Nat → Nat → Int32 → Int32
  | 0, _, c => c
  | m + 1, i, c => q_sm w m (i + 1) (c + Int32.ofNat (i + 1) * w i)
section QSM
variable {s x u : Nat → Int32} {l y v : Nat → Int64} {fu : Nat}
theorem q_X4_sumOf {n : Nat} (hn : n < 55) : ∀ (m i f : Nat) (c : Int32), i + m = n → m < f → pl_X4_sumOf_5 fu f (Int32.ofNat n) c (Int32.ofNat i) s l x y = some (q_sm (fun j => x (1000 + j)) m i c, s, l, x, y) := by
  intro m
  induction m with
  | zero =>
    intro i f c e hf
    obtain ⟨f, rfl⟩ : ∃ f9, f = f9 + 1 := ⟨f - 1, by omega⟩
    have c1 : ¬ i < n := by omega
    simp (disch := omega) only [pl_X4_sumOf_5, q_onlt, if_neg c1, q_sm]
  | succ m ih =>
    intro i f c e hf
    obtain ⟨f, rfl⟩ : ∃ f9, f = f9 + 1 := ⟨f - 1, by omega⟩
    have c1 : i < n := by omega
    have c2 : i < 55 := by omega
    simp (disch := omega) only [pl_X4_sumOf_5, q_onlt, q_onltL, if_pos c1, if_pos c2, q_g, q_onC, q_onaL, q_sm]
    exact ih (i + 1) f _ (by omega) (by omega)
theorem q_X4_sumOf_v1 {n : Nat} (hn : n < 55) : ∀ (m i f : Nat) (c : Int32), i + m = n → m < f → pl_X4_sumOf_v1_5 fu f (Int32.ofNat n) c (Int32.ofNat i) s l x y = some (q_sm (fun j => s (13000 + j)) m i c, s, l, x, y) := by
  intro m
  induction m with
  | zero =>
    intro i f c e hf
    obtain ⟨f, rfl⟩ : ∃ f9, f = f9 + 1 := ⟨f - 1, by omega⟩
    have c1 : ¬ i < n := by omega
    simp (disch := omega) only [pl_X4_sumOf_v1_5, q_onlt, if_neg c1, q_sm]
  | succ m ih =>
    intro i f c e hf
    obtain ⟨f, rfl⟩ : ∃ f9, f = f9 + 1 := ⟨f - 1, by omega⟩
    have c1 : i < n := by omega
    have c2 : i < 55 := by omega
    simp (disch := omega) only [pl_X4_sumOf_v1_5, q_onlt, q_onltL, if_pos c1, if_pos c2, q_g, q_onC, q_onaL, q_sm]
    exact ih (i + 1) f _ (by omega) (by omega)
theorem q_X4_sumOf_v2 {n : Nat} (hn : n < 55) : ∀ (m i f : Nat) (c : Int32), i + m = n → m < f → pl_X4_sumOf_v2_5 fu f (Int32.ofNat n) c (Int32.ofNat i) s l x y = some (q_sm (fun j => s (13055 + j)) m i c, s, l, x, y) := by
  intro m
  induction m with
  | zero =>
    intro i f c e hf
    obtain ⟨f, rfl⟩ : ∃ f9, f = f9 + 1 := ⟨f - 1, by omega⟩
    have c1 : ¬ i < n := by omega
    simp (disch := omega) only [pl_X4_sumOf_v2_5, q_onlt, if_neg c1, q_sm]
  | succ m ih =>
    intro i f c e hf
    obtain ⟨f, rfl⟩ : ∃ f9, f = f9 + 1 := ⟨f - 1, by omega⟩
    have c1 : i < n := by omega
    have c2 : i < 55 := by omega
    simp (disch := omega) only [pl_X4_sumOf_v2_5, q_onlt, q_onltL, if_pos c1, if_pos c2, q_g, q_onC, q_onaL, q_sm]
    exact ih (i + 1) f _ (by omega) (by omega)
theorem q_X4_sumOf_v3 {n : Nat} (hn : n < 34) : ∀ (m i f : Nat) (c : Int32), i + m = n → m < f → pl_X4_sumOf_v3_5 fu f (Int32.ofNat n) c (Int32.ofNat i) s l x y = some (q_sm (fun j => s (14000 + j)) m i c, s, l, x, y) := by
  intro m
  induction m with
  | zero =>
    intro i f c e hf
    obtain ⟨f, rfl⟩ : ∃ f9, f = f9 + 1 := ⟨f - 1, by omega⟩
    have c1 : ¬ i < n := by omega
    simp (disch := omega) only [pl_X4_sumOf_v3_5, q_onlt, if_neg c1, q_sm]
  | succ m ih =>
    intro i f c e hf
    obtain ⟨f, rfl⟩ : ∃ f9, f = f9 + 1 := ⟨f - 1, by omega⟩
    have c1 : i < n := by omega
    have c2 : i < 34 := by omega
    simp (disch := omega) only [pl_X4_sumOf_v3_5, q_onlt, q_onltL, if_pos c1, if_pos c2, q_g, q_onC, q_onaL, q_sm]
    exact ih (i + 1) f _ (by omega) (by omega)
theorem q_X4_sumOf_v4 {n : Nat} (hn : n < 34) : ∀ (m i f : Nat) (c : Int32), i + m = n → m < f → pl_X4_sumOf_v4_5 fu f (Int32.ofNat n) c (Int32.ofNat i) s l x y = some (q_sm (fun j => s (14034 + j)) m i c, s, l, x, y) := by
  intro m
  induction m with
  | zero =>
    intro i f c e hf
    obtain ⟨f, rfl⟩ : ∃ f9, f = f9 + 1 := ⟨f - 1, by omega⟩
    have c1 : ¬ i < n := by omega
    simp (disch := omega) only [pl_X4_sumOf_v4_5, q_onlt, if_neg c1, q_sm]
  | succ m ih =>
    intro i f c e hf
    obtain ⟨f, rfl⟩ : ∃ f9, f = f9 + 1 := ⟨f - 1, by omega⟩
    have c1 : i < n := by omega
    have c2 : i < 34 := by omega
    simp (disch := omega) only [pl_X4_sumOf_v4_5, q_onlt, q_onltL, if_pos c1, if_pos c2, q_g, q_onC, q_onaL, q_sm]
    exact ih (i + 1) f _ (by omega) (by omega)
theorem q_X12_sumOf {k : Nat} (hk : k < 2) : ∀ (m i f : Nat) (c : Int32), i + m = 54 → m < f → pl_X12_sumOf_12 fu f (Int32.ofNat k) c (Int32.ofNat i) s l u v = some (q_sm (fun j => s (13000 + (55 * k + j))) m i c, s, l, u, v) := by
  intro m
  induction m with
  | zero =>
    intro i f c e hf
    obtain ⟨f, rfl⟩ : ∃ f9, f = f9 + 1 := ⟨f - 1, by omega⟩
    have c1 : 53 < i := by omega
    simp (disch := omega) only [pl_X12_sumOf_12, q_onltR, if_pos c1, q_sm]
  | succ m ih =>
    intro i f c e hf
    obtain ⟨f, rfl⟩ : ∃ f9, f = f9 + 1 := ⟨f - 1, by omega⟩
    have c1 : ¬ 53 < i := by omega
    simp (disch := omega) only [pl_X12_sumOf_12, q_onltR, if_neg c1, q_g, q_onC, q_onaL, q_onmL, q_ona, q_sm]
    exact ih (i + 1) f _ (by omega) (by omega)
/-- a copy of STORE, its words from b on, is VALID (1) or not (0) -/
def q_ok (s : Nat → Int32) (b : Nat) : Int32 := if 0 < s b then (if s (b + 54) = q_sm (fun j => s (b + j)) 53 1 (s b) then 1 else 0) else 0
theorem q_isValid0 : pf_X4_isValid s l x y = some (q_ok s 13000, s, l, x, y) := by
  unfold pf_X4_isValid q_ok
  by_cases c : 0 < s 13000
  · have h := q_X4_sumOf_v1 (fu := 1000) (s := s) (l := l) (x := x) (y := y) (n := 54) (by omega) 53 1 1000 (s 13000) (by omega) (by omega)
    have h : pf_X4_sumOf_v1 54 (s 13000) s l x y = some (q_sm (fun j => s (13000 + j)) 53 1 (s 13000), s, l, x, y) := h
    rw [if_pos c, if_pos c, h, q_b]
    split <;> rfl
  · rw [if_neg c, if_neg c]
theorem q_isValid1 : pf_X4_isValid_v1 s l x y = some (q_ok s 13055, s, l, x, y) := by
  unfold pf_X4_isValid_v1 q_ok
  by_cases c : 0 < s 13055
  · have h := q_X4_sumOf_v2 (fu := 1000) (s := s) (l := l) (x := x) (y := y) (n := 54) (by omega) 53 1 1000 (s 13055) (by omega) (by omega)
    have h : pf_X4_sumOf_v2 54 (s 13055) s l x y = some (q_sm (fun j => s (13055 + j)) 53 1 (s 13055), s, l, x, y) := h
    rw [if_pos c, if_pos c, h, q_b]
    split <;> rfl
  · rw [if_neg c, if_neg c]
theorem q_isValidR {k : Nat} (hk : k < 2) : pf_X12_isValid (Int32.ofNat k) s l u v = some (q_ok s (13000 + 55 * k), s, l, u, v) := by
  have h := q_X12_sumOf (fu := 1000) (s := s) (l := l) (u := u) (v := v) hk 53 1 1000 (s (13000 + 55 * k)) (by omega) (by omega)
  have e : (fun j => s (13000 + (55 * k + j))) = (fun j => s (13000 + 55 * k + j)) := by
    funext j
    rw [Nat.add_assoc]
  rw [e] at h
  have h9 : pf_X12_sumOf (Int32.ofNat k) s l u v = some (q_sm (fun j => s (13000 + 55 * k + j)) 53 1 (s (13000 + 55 * k)), s, l, u, v) := by
    simp (disch := omega) only [pf_X12_sumOf, po_X12_sumOf, q_g, q_onC, q_onmL]
    exact h
  unfold q_ok
  simp (disch := omega) only [pf_X12_isValid, q_g, q_onC, q_onmL, q_onaL]
  by_cases c : 0 < s (13000 + 55 * k)
  · rw [if_pos c, if_pos c, h9, q_b, Nat.add_assoc]
    split <;> rfl
  · rw [if_neg c, if_neg c]
/-- THE valid copy of STORE (-1: none), and its HEAD -/
def q_val (s : Nat → Int32) : Int32 := if q_ok s 13055 = 0 then (if q_ok s 13000 = 0 then -1 else 0) else (if q_ok s 13000 = 0 then 1 else (if s 13000 < s 13055 then 1 else 0))
def q_head (s : Nat → Int32) : Int32 := if q_ok s 13055 = 0 then (if q_ok s 13000 = 0 then 0 else s 13000) else (if q_ok s 13000 = 0 then s 13055 else (if s 13000 < s 13055 then s 13055 else s 13000))
theorem q_lookOver : pf_X4_lookOver s l x y = some ((), s, l, pj_u (pj_u x 2000 (q_val s)) 3000 (q_head s), y) := by
  have z1 : ¬ (1 : Int32) = 0 := by decide
  unfold pf_X4_lookOver
  rw [q_isValid0, q_b, q_isValid1, q_b]
  unfold pl_X4_lookOver_66 pl_X4_lookOver_70 pl_X4_lookOver_71 pl_X4_lookOver_96 pl_X4_lookOver_128 q_val q_head
  by_cases c1 : q_ok s 13055 = 0
  · simp only [if_pos c1]
    by_cases c0 : q_ok s 13000 = 0
    · simp only [if_pos c0, if_true]
    · simp only [if_neg c0, if_true]
  · simp only [if_neg c1]
    by_cases c0 : q_ok s 13000 = 0
    · simp only [if_pos c0, if_neg z1]
    · simp only [if_neg c0]
      by_cases c2 : s 13000 < s 13055
      · simp only [if_pos c2, if_neg z1]
      · simp only [if_neg c2, if_true]
theorem q_validCopy : pf_X12_validCopy s l u v = some (q_val s, s, l, u, v) := by
  have h0 : pf_X12_isValid 0 s l u v = some (q_ok s 13000, s, l, u, v) := q_isValidR (k := 0) (by omega)
  have h1 : pf_X12_isValid 1 s l u v = some (q_ok s 13055, s, l, u, v) := q_isValidR (k := 1) (by omega)
  unfold pf_X12_validCopy pl_X12_validCopy_42 q_val
  rw [h0, q_b, h1, q_b]
  by_cases c0 : q_ok s 13000 = 0
  · by_cases c1 : q_ok s 13055 = 0
    · simp only [if_pos c0, if_pos c1]
    · simp only [if_pos c0, if_neg c1]
  · by_cases c1 : q_ok s 13055 = 0
    · simp only [if_neg c0, if_pos c1]
    · simp only [if_neg c0, if_neg c1]
      split <;> rfl
end QSM

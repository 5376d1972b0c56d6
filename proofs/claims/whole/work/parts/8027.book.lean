/-! PURE: the BOOK -/
/-- can the word be in a cell of MAP k (1), or not (0) -/
def q_ic (k w : Int32) : Int32 := if k = 0 then (if w < 0 then 0 else if 20000 < w then 0 else 1) else (if w < (-100) then 0 else if 450 < w then 0 else 1)
def q_all (w : Nat → Int32) : Nat → Nat → Int32
  | 0, _ => 1
  | m + 1, i => if q_ic (if 16 < i then 1 else 0) (w i) = 0 then 0 else q_all w m (i + 1)
section QBK
variable {s x u : Nat → Int32} {l y v : Nat → Int64} {fu : Nat}
theorem q_ic01 (k w : Int32) : q_ic k w = 0 ∨ q_ic k w = 1 := by
  unfold q_ic
  split
  · split
    · exact Or.inl rfl
    · split
      · exact Or.inl rfl
      · exact Or.inr rfl
  · split
    · exact Or.inl rfl
    · split
      · exact Or.inl rfl
      · exact Or.inr rfl
theorem q_isCellC (k w : Int32) : pf_X4_isCell k w s l x y = some (q_ic k w, s, l, x, y) := by
  unfold pf_X4_isCell pl_X4_isCell_19 q_ic
  split
  · split
    · rfl
    · split <;> rfl
  · split
    · rfl
    · split <;> rfl
theorem q_isInI (w lo hi : Int32) : pf_X12_isIn w.toInt64 lo.toInt64 hi.toInt64 s l u v = some (if w < lo then 0 else if hi < w then 0 else 1, s, l, u, v) := by
  rw [q_isIn]
  simp only [Int32.toInt64_lt]
theorem q_isCellR (k w : Int32) : pf_X12_isCell k w s l u v = some (q_ic k w, s, l, u, v) := by
  have e1 := q_isInI (s := s) (l := l) (u := u) (v := v) w 0 20000
  have e2 := q_isInI (s := s) (l := l) (u := u) (v := v) w (-100) 450
  have e1 : pf_X12_isIn w.toInt64 0 20000 s l u v = some (if w < 0 then 0 else if 20000 < w then 0 else 1, s, l, u, v) := e1
  have e2 : pf_X12_isIn w.toInt64 (-100) 450 s l u v = some (if w < (-100) then 0 else if 450 < w then 0 else 1, s, l, u, v) := e2
  have z := q_ic01 k w
  unfold pf_X12_isCell
  rw [e1, q_b, e2, q_b]
  unfold q_ic at z ⊢
  split
  · rename_i c
    rw [if_pos c] at z
    rw [q_bz z]
  · rename_i c
    rw [if_neg c] at z
    rw [q_bz z]
theorem q_X4_isValid_v2 : ∀ (m i f : Nat), i + m = 33 → m < f → pl_X4_isValid_v2_40 fu f 33 (Int32.ofNat i) s l x y = some (q_all (fun j => s (14000 + j)) m i, s, l, x, y) := by
  intro m
  induction m with
  | zero =>
    intro i f e hf
    obtain ⟨f, rfl⟩ : ∃ f9, f = f9 + 1 := ⟨f - 1, by omega⟩
    have c1 : ¬ i < 33 := by omega
    simp (disch := omega) only [pl_X4_isValid_v2_40, q_onltL, if_neg c1, q_all]
  | succ m ih =>
    intro i f e hf
    obtain ⟨f, rfl⟩ : ∃ f9, f = f9 + 1 := ⟨f - 1, by omega⟩
    have c1 : i < 33 := by omega
    have ih := ih (i + 1) f (by omega) (by omega)
    simp (disch := omega) only [pl_X4_isValid_v2_40, pl_X4_isValid_v2_56, q_onltL, q_onltR, if_pos c1, q_g, q_onC, q_onaL, q_isCellC, q_b, ih, q_all]
    by_cases c2 : 16 < i
    · simp only [if_pos c2]
      split <;> rfl
    · simp only [if_neg c2]
      split <;> rfl
theorem q_X4_isValid_v3 : ∀ (m i f : Nat), i + m = 33 → m < f → pl_X4_isValid_v3_40 fu f 33 (Int32.ofNat i) s l x y = some (q_all (fun j => s (14034 + j)) m i, s, l, x, y) := by
  intro m
  induction m with
  | zero =>
    intro i f e hf
    obtain ⟨f, rfl⟩ : ∃ f9, f = f9 + 1 := ⟨f - 1, by omega⟩
    have c1 : ¬ i < 33 := by omega
    simp (disch := omega) only [pl_X4_isValid_v3_40, q_onltL, if_neg c1, q_all]
  | succ m ih =>
    intro i f e hf
    obtain ⟨f, rfl⟩ : ∃ f9, f = f9 + 1 := ⟨f - 1, by omega⟩
    have c1 : i < 33 := by omega
    have ih := ih (i + 1) f (by omega) (by omega)
    simp (disch := omega) only [pl_X4_isValid_v3_40, pl_X4_isValid_v3_56, q_onltL, q_onltR, if_pos c1, q_g, q_onC, q_onaL, q_isCellC, q_b, ih, q_all]
    by_cases c2 : 16 < i
    · simp only [if_pos c2]
      split <;> rfl
    · simp only [if_neg c2]
      split <;> rfl
theorem q_isBookR {k : Nat} (hk : k < 2) : ∀ (m i f : Nat) (c g : Int32), i + m = 33 → m < f → pl_X12_isBook_23 fu f (Int32.ofNat k) c g (Int32.ofNat i) s l u v = some (if g = 0 then 0 else if q_all (fun j => s (14000 + (34 * k + j))) m i = 0 then 0 else if q_sm (fun j => s (14000 + (34 * k + j))) m i c = s (14000 + (34 * k + 33)) then 1 else 0, s, l, u, v) := by
  intro m
  induction m with
  | zero =>
    intro i f c g e hf
    obtain ⟨f, rfl⟩ : ∃ f9, f = f9 + 1 := ⟨f - 1, by omega⟩
    have c1 : 32 < i := by omega
    have z1 : ¬ (1 : Int32) = 0 := by decide
    have qa : ¬ q_all (fun j => s (14000 + (34 * k + j))) 0 i = 0 := z1
    rw [if_neg qa]
    simp (disch := omega) only [pl_X12_isBook_23, q_onltR, if_pos c1, q_g, q_onC, q_onaL, q_onmL]
    show _ = some (if g = 0 then 0 else if c = s (14000 + (34 * k + 33)) then 1 else 0, s, l, u, v)
    split
    · rfl
    · split <;> rfl
  | succ m ih =>
    intro i f c g e hf
    obtain ⟨f, rfl⟩ : ∃ f9, f = f9 + 1 := ⟨f - 1, by omega⟩
    have c1 : ¬ 32 < i := by omega
    have z1 : ¬ (1 : Int32) = 0 := by decide
    have ih := fun c g => ih (i + 1) f c g (by omega) (by omega)
    simp (disch := omega) only [pl_X12_isBook_23, pl_X12_isBook_66, pl_X12_isBook_88, pl_X12_isBook_89, q_onltR, if_neg c1, q_g, q_onC, q_onaL, q_onmL, q_ona, q_isCellR, q_b, ih, q_all, q_sm, if_neg z1, if_true]
    by_cases cg : g = 0
    · simp only [if_pos cg]
    · simp only [if_neg cg]
      by_cases c2 : 16 < i
      · simp only [if_pos c2]
        split <;> rfl
      · simp only [if_neg c2]
        split <;> rfl
/-- a copy of the BOOK, its words from b on, is VALID (1) or not (0) -/
def q_okB (s : Nat → Int32) (b : Nat) : Int32 := if 0 < s b then (if s (b + 33) = q_sm (fun j => s (b + j)) 32 1 (s b) then q_all (fun j => s (b + j)) 32 1 else 0) else 0
theorem q_all01 (w : Nat → Int32) : ∀ (m i : Nat), q_all w m i = 0 ∨ q_all w m i = 1 := by
  intro m
  induction m with
  | zero => intro i; exact Or.inr rfl
  | succ m ih =>
    intro i
    unfold q_all
    by_cases c : q_ic (if 16 < i then 1 else 0) (w i) = 0
    · rw [if_pos c]
      exact Or.inl rfl
    · rw [if_neg c]
      exact ih (i + 1)
theorem q_bookC0 : pf_X4_isValid_v2 s l x y = some (q_okB s 14000, s, l, x, y) := by
  unfold pf_X4_isValid_v2 po_X4_isValid_v2 q_okB
  by_cases c : 0 < s 14000
  · have h := q_X4_sumOf_v3 (fu := 1000) (s := s) (l := l) (x := x) (y := y) (n := 33) (by omega) 32 1 1000 (s 14000) (by omega) (by omega)
    have h : pf_X4_sumOf_v3 33 (s 14000) s l x y = some (q_sm (fun j => s (14000 + j)) 32 1 (s 14000), s, l, x, y) := h
    have h2 := q_X4_isValid_v2 (fu := 1000) (s := s) (l := l) (x := x) (y := y) 32 1 1000 (by omega) (by omega)
    have h2 : pl_X4_isValid_v2_40 1000 1000 33 1 s l x y = some (q_all (fun j => s (14000 + j)) 32 1, s, l, x, y) := h2
    rw [if_pos c, if_pos c, h, q_b, h2]
    split <;> rfl
  · rw [if_neg c, if_neg c]
theorem q_bookC1 : pf_X4_isValid_v3 s l x y = some (q_okB s 14034, s, l, x, y) := by
  unfold pf_X4_isValid_v3 po_X4_isValid_v3 q_okB
  by_cases c : 0 < s 14034
  · have h := q_X4_sumOf_v4 (fu := 1000) (s := s) (l := l) (x := x) (y := y) (n := 33) (by omega) 32 1 1000 (s 14034) (by omega) (by omega)
    have h : pf_X4_sumOf_v4 33 (s 14034) s l x y = some (q_sm (fun j => s (14034 + j)) 32 1 (s 14034), s, l, x, y) := h
    have h2 := q_X4_isValid_v3 (fu := 1000) (s := s) (l := l) (x := x) (y := y) 32 1 1000 (by omega) (by omega)
    have h2 : pl_X4_isValid_v3_40 1000 1000 33 1 s l x y = some (q_all (fun j => s (14034 + j)) 32 1, s, l, x, y) := h2
    rw [if_pos c, if_pos c, h, q_b, h2]
    split <;> rfl
  · rw [if_neg c, if_neg c]
theorem q_bookR {k : Nat} (hk : k < 2) : pf_X12_isBook (Int32.ofNat k) s l u v = some (q_okB s (14000 + 34 * k), s, l, u, v) := by
  have h0 := q_isBookR (fu := 1000) (s := s) (l := l) (u := u) (v := v) hk 32 1 1000 (s (14000 + 34 * k))
  have e : (fun j => s (14000 + (34 * k + j))) = (fun j => s (14000 + 34 * k + j)) := by
    funext j
    rw [Nat.add_assoc]
  rw [e] at h0
  have hg := fun g => h0 g (by omega) (by omega)
  have hg : ∀ g, pl_X12_isBook_23 1000 1000 (Int32.ofNat k) (s (14000 + 34 * k)) g 1 s l u v = _ := hg
  have z1 : ¬ (1 : Int32) = 0 := by decide
  have a1 := q_all01 (fun j => s (14000 + 34 * k + j)) 32 1
  unfold q_okB
  simp (disch := omega) only [pf_X12_isBook, po_X12_isBook, pl_X12_isBook_19, q_g, q_onC, q_onmL, hg, if_neg z1, if_true, ← Nat.add_assoc]
  by_cases c : 0 < s (14000 + 34 * k)
  · rw [if_pos c, if_pos c]
    rcases a1 with a1 | a1
    · rw [a1, if_pos rfl]
      split <;> rfl
    · rw [a1, if_neg z1]
      by_cases c3 : s (14000 + 34 * k + 33) = q_sm (fun j => s (14000 + 34 * k + j)) 32 1 (s (14000 + 34 * k))
      · rw [if_pos c3, if_pos c3.symm]
      · rw [if_neg c3, if_neg (fun q => c3 q.symm)]
  · rw [if_neg c, if_neg c]
/-- THE valid copy of the BOOK (-1: none), and its HEAD -/
def q_valB (s : Nat → Int32) : Int32 := if q_okB s 14034 = 0 then (if q_okB s 14000 = 0 then -1 else 0) else (if q_okB s 14000 = 0 then 1 else (if s 14000 < s 14034 then 1 else 0))
def q_headB (s : Nat → Int32) : Int32 := if q_okB s 14034 = 0 then (if q_okB s 14000 = 0 then 0 else s 14000) else (if q_okB s 14000 = 0 then s 14034 else (if s 14000 < s 14034 then s 14034 else s 14000))
theorem q_lookOverB : pf_X4_lookOver_v1 s l x y = some ((), s, l, pj_u (pj_u x 2001 (q_valB s)) 3001 (q_headB s), y) := by
  have z1 : ¬ (1 : Int32) = 0 := by decide
  unfold pf_X4_lookOver_v1
  rw [q_bookC0, q_b, q_bookC1, q_b]
  unfold pl_X4_lookOver_v1_66 pl_X4_lookOver_v1_70 pl_X4_lookOver_v1_71 pl_X4_lookOver_v1_96 pl_X4_lookOver_v1_128 q_valB q_headB
  by_cases c1 : q_okB s 14034 = 0
  · simp only [if_pos c1]
    by_cases c0 : q_okB s 14000 = 0
    · simp only [if_pos c0, if_true]
    · simp only [if_neg c0, if_true]
  · simp only [if_neg c1]
    by_cases c0 : q_okB s 14000 = 0
    · simp only [if_pos c0, if_neg z1]
    · simp only [if_neg c0]
      by_cases c2 : s 14000 < s 14034
      · simp only [if_pos c2, if_neg z1]
      · simp only [if_neg c2, if_true]
theorem q_validBook : pf_X12_validBook s l u v = some (q_valB s, s, l, u, v) := by
  have h0 : pf_X12_isBook 0 s l u v = some (q_okB s 14000, s, l, u, v) := q_bookR (k := 0) (by omega)
  have h1 : pf_X12_isBook 1 s l u v = some (q_okB s 14034, s, l, u, v) := q_bookR (k := 1) (by omega)
  unfold pf_X12_validBook pl_X12_validBook_42 q_valB
  rw [h0, q_b, h1, q_b]
  by_cases c0 : q_okB s 14000 = 0
  · by_cases c1 : q_okB s 14034 = 0
    · simp only [if_pos c0, if_pos c1]
    · simp only [if_pos c0, if_neg c1]
  · by_cases c1 : q_okB s 14034 = 0
    · simp only [if_neg c0, if_pos c1]
    · simp only [if_neg c0, if_neg c1]
      split <;> rfl
end QBK

/-! PURE: going OFF, class: pointwise -/
section QZ0
variable {s x u s' x' u' f f1 f2 : Nat → Int32} {l y v l' y' v' l2 v2 : Nat → Int64} {D E W : Int} {fu : Nat} {T : Nat → Option Int32} {K K1 K2 : Nat → Bool}
/-- where K says so, f has become what T says -/
def q_Z (T : Nat → Option Int32) (K : Nat → Bool) (f f' : Nat → Int32) : Prop := ∀ w, f' w = if K w = true then (T w).getD 0 else f w
theorem q_Z_s (h1 : q_Z T K1 f f1) (h2 : q_Z T K2 f1 f2) (h : ∀ w, K w = (K1 w || K2 w)) : q_Z T K f f2 := by
  intro w
  rw [h2 w, h1 w, h w]
  cases K1 w <;> cases K2 w <;> rfl
theorem q_Z_0 : q_Z T (fun _ => false) f f := fun w => rfl
theorem q_Z_1 {z : Nat} {b : Int32} (h : T z = some b) : q_Z T (fun w => decide (w = z)) f (pj_u f z b) := by
  intro w
  by_cases c : w = z
  · rw [c, q_ua, if_pos (by simp), h]
    rfl
  · rw [q_un c, if_neg (by simp [c])]
def q_ws : List (Nat × Int32) → (Nat → Int32) → (Nat → Int32)
  | [], f => f
  | p :: L, f => q_ws L (pj_u f p.1 p.2)
def q_good (T : Nat → Option Int32) : List (Nat × Int32) → Bool
  | [] => true
  | p :: L => (T p.1 == some p.2) && q_good T L
def q_in : List (Nat × Int32) → Nat → Bool
  | [], _ => false
  | p :: L, w => decide (w = p.1) || q_in L w
theorem q_Z_ws : ∀ (L : List (Nat × Int32)) (f : Nat → Int32), q_good T L = true → q_Z T (q_in L) f (q_ws L f) := by
  intro L
  induction L with
  | nil => intro f _; exact q_Z_0
  | cons p L ih =>
    intro f h
    unfold q_good at h
    rw [Bool.and_eq_true] at h
    have h1 : T p.1 = some p.2 := by simpa using h.1
    exact q_Z_s (q_Z_1 h1) (ih _ h.2) (fun w => rfl)
/-- what OFF gives the class's own ints -/
def q_zx (w : Nat) : Option Int32 :=
  if w < 30 then (if w = 23 then some (-1) else if w = 1 ∨ w = 2 ∨ (4 ≤ w ∧ w ≤ 7) ∨ w = 10 ∨ (12 ≤ w ∧ w ≤ 17) ∨ w = 19 ∨ w = 21 ∨ w = 22 ∨ w = 29 then some 0 else none)
  else if 4000 ≤ w ∧ w < 4024 then some (-1) else if 7000 ≤ w ∧ w < 7008 then some 0 else if 8000 ≤ w ∧ w < 8008 then some 0 else none
def q_ru (w : Nat) : Option Int32 :=
  if w < 30 then (if w = 14 then some 1 else if w = 4 ∨ w = 5 ∨ w = 7 ∨ w = 10 ∨ w = 21 ∨ w = 29 then some 0 else none)
  else if 3000 ≤ w ∧ w < 3008 then some 0 else none
def q_rz (w : Nat) : Option Int32 := if w = 94 then some 0 else q_rs w
theorem q_rz_2000 {k : Nat} (h : k < 4) : q_rz (2000 + k) = some 0 := by
  unfold q_rz q_rs
  rw [if_neg (by omega), if_neg (by omega), if_pos (by omega)]
theorem q_rz_8000 {k : Nat} (h : k < 32) : q_rz (8000 + k) = some 0 := by
  unfold q_rz q_rs
  rw [if_neg (by omega), if_neg (by omega), if_neg (by omega), if_pos (by omega)]
theorem q_rz_9000 {k : Nat} (h : k < 16) : q_rz (9000 + k) = some 0 := by
  unfold q_rz q_rs
  rw [if_neg (by omega), if_neg (by omega), if_neg (by omega), if_neg (by omega), if_pos (by omega)]
theorem q_rz_18000 {k : Nat} (h : k < 8) : q_rz (18000 + k) = some 0 := by
  unfold q_rz q_rs
  rw [if_neg (by omega), if_neg (by omega), if_neg (by omega), if_neg (by omega), if_neg (by omega), if_pos (by omega)]
theorem q_rz_19000 {k : Nat} (h : k < 8) : q_rz (19000 + k) = some 0 := by
  unfold q_rz q_rs
  rw [if_neg (by omega), if_neg (by omega), if_neg (by omega), if_neg (by omega), if_neg (by omega), if_neg (by omega), if_pos (by omega)]
theorem q_rz_30000 {k : Nat} (h : k < 10) : q_rz (30000 + k) = some 0 := by
  unfold q_rz q_rs
  rw [if_neg (by omega), if_neg (by omega), if_neg (by omega), if_neg (by omega), if_neg (by omega), if_neg (by omega), if_neg (by omega), if_pos (by omega)]
theorem q_rz_35000 {k : Nat} (h : k < 10) : q_rz (35000 + k) = some 0 := by
  unfold q_rz q_rs
  rw [if_neg (by omega), if_neg (by omega), if_neg (by omega), if_neg (by omega), if_neg (by omega), if_neg (by omega), if_neg (by omega), if_neg (by omega), if_neg (by omega), if_pos (by omega)]
theorem q_rz_36000 {k : Nat} (h : k < 10) : q_rz (36000 + k) = some 0 := by
  unfold q_rz q_rs
  rw [if_neg (by omega), if_neg (by omega), if_neg (by omega), if_neg (by omega), if_neg (by omega), if_neg (by omega), if_neg (by omega), if_neg (by omega), if_neg (by omega), if_neg (by omega), if_pos (by omega)]
theorem q_rz_40000 {k : Nat} (h : k < 224) : q_rz (40000 + k) = some 0 := by
  unfold q_rz q_rs
  rw [if_neg (by omega), if_neg (by omega), if_neg (by omega), if_neg (by omega), if_neg (by omega), if_neg (by omega), if_neg (by omega), if_neg (by omega), if_neg (by omega), if_neg (by omega), if_neg (by omega), if_pos (by omega)]
theorem q_rz_34000 {k : Nat} (h : k < 10) : q_rz (34000 + k) = some (pj_xf 6 k) := by
  unfold q_rz q_rs
  rw [if_neg (by omega), if_neg (by omega), if_neg (by omega), if_neg (by omega), if_neg (by omega), if_neg (by omega), if_neg (by omega), if_neg (by omega), if_pos (by omega), show 34000 + k - 34000 = k by omega]
theorem q_zx_7000 {k : Nat} (h : k < 8) : q_zx (7000 + k) = some 0 := by
  unfold q_zx
  rw [if_neg (by omega), if_neg (by omega), if_pos (by omega)]
theorem q_zx_8000 {k : Nat} (h : k < 8) : q_zx (8000 + k) = some 0 := by
  unfold q_zx
  rw [if_neg (by omega), if_neg (by omega), if_neg (by omega), if_pos (by omega)]
theorem q_zx_4000 {k : Nat} (h : k < 24) : q_zx (4000 + k) = some (-1) := by
  unfold q_zx
  rw [if_neg (by omega), if_pos (by omega)]
theorem q_ru_3000 {k : Nat} (h : k < 8) : q_ru (3000 + k) = some 0 := by
  unfold q_ru
  rw [if_neg (by omega), if_pos (by omega)]
theorem q_orD {p q r : Prop} [Decidable p] [Decidable q] [Decidable r] (h : p ↔ (q ∨ r)) : decide p = (decide q || decide r) := by
  by_cases c : q
  · rw [decide_eq_true (h.mpr (Or.inl c)), decide_eq_true c, Bool.true_or]
  · by_cases d : r
    · rw [decide_eq_true (h.mpr (Or.inr d)), decide_eq_true d, Bool.or_true]
    · rw [decide_eq_false c, decide_eq_false d, decide_eq_false (fun z => (h.mp z).elim c d)]
      rfl
theorem q_fill2 : ∀ (m i f : Nat) (x : Nat → Int32), i + m = 8 → m < f → ∃ g, pl_J7_fill_53178_v2_5 fu f 0 (Int32.ofNat i) 8 s l x y = some ((), s, l, g, y) ∧ q_Z q_zx (fun w => decide (8000 + i ≤ w ∧ w < 8000 + 8)) x g := by
  intro m
  induction m with
  | zero =>
    intro i f x e hf
    obtain ⟨f, rfl⟩ : ∃ f9, f = f9 + 1 := ⟨f - 1, by omega⟩
    have c1 : ¬ i < 8 := by omega
    refine ⟨x, by simp (disch := omega) only [pl_J7_fill_53178_v2_5, q_onltL, if_neg c1], ?_⟩
    intro w
    rw [if_neg (by simp; omega)]
  | succ m ih =>
    intro i f x e hf
    obtain ⟨f, rfl⟩ : ∃ f9, f = f9 + 1 := ⟨f - 1, by omega⟩
    have c1 : i < 8 := by omega
    obtain ⟨g, e1, e2⟩ := ih (i + 1) f (pj_u x (8000 + i) 0) (by omega) (by omega)
    refine ⟨g, ?_, q_Z_s (q_Z_1 (z := 8000 + i) (q_zx_8000 (by omega))) e2 (fun w => q_orD (by omega))⟩
    simp (disch := omega) only [pl_J7_fill_53178_v2_5, q_onltL, if_pos c1, q_r, q_g, q_onC, q_onaL]
    exact e1
theorem q_fill4 {r : Nat} (hr : r < 4) : ∀ (m i f : Nat) (s : Nat → Int32), i + m = 8 → m < f → ∃ g, pl_J7_fill_53178_v4_5 fu f r 0 (Int32.ofNat i) 8 s l x y = some ((), g, l, x, y) ∧ q_Z q_rz (fun w => decide (8000 + 8 * r + i ≤ w ∧ w < 8000 + 8 * r + 8)) s g := by
  intro m
  induction m with
  | zero =>
    intro i f s e hf
    obtain ⟨f, rfl⟩ : ∃ f9, f = f9 + 1 := ⟨f - 1, by omega⟩
    have c1 : ¬ i < 8 := by omega
    refine ⟨s, by simp (disch := omega) only [pl_J7_fill_53178_v4_5, q_onltL, if_neg c1], ?_⟩
    intro w
    rw [if_neg (by simp; omega)]
  | succ m ih =>
    intro i f s e hf
    obtain ⟨f, rfl⟩ : ∃ f9, f = f9 + 1 := ⟨f - 1, by omega⟩
    have c1 : i < 8 := by omega
    obtain ⟨g, e1, e2⟩ := ih (i + 1) f (pj_u s (8000 + 8 * r + i) 0) (by omega) (by omega)
    refine ⟨g, ?_, q_Z_s (q_Z_1 (z := 8000 + 8 * r + i) (by rw [show 8000 + 8 * r + i = 8000 + (8 * r + i) by omega]; exact q_rz_8000 (by omega))) e2 (fun w => q_orD (by omega))⟩
    simp (disch := omega) only [pl_J7_fill_53178_v4_5, q_onltL, if_pos c1, q_r, q_g, q_onC, q_onaL]
    exact e1
theorem q_fill5 : ∀ (m i f : Nat) (s : Nat → Int32), i + m = 16 → m < f → ∃ g, pl_J7_fill_53178_v5_5 fu f 0 (Int32.ofNat i) 16 s l x y = some ((), g, l, x, y) ∧ q_Z q_rz (fun w => decide (9000 + i ≤ w ∧ w < 9000 + 16)) s g := by
  intro m
  induction m with
  | zero =>
    intro i f s e hf
    obtain ⟨f, rfl⟩ : ∃ f9, f = f9 + 1 := ⟨f - 1, by omega⟩
    have c1 : ¬ i < 16 := by omega
    refine ⟨s, by simp (disch := omega) only [pl_J7_fill_53178_v5_5, q_onltL, if_neg c1], ?_⟩
    intro w
    rw [if_neg (by simp; omega)]
  | succ m ih =>
    intro i f s e hf
    obtain ⟨f, rfl⟩ : ∃ f9, f = f9 + 1 := ⟨f - 1, by omega⟩
    have c1 : i < 16 := by omega
    obtain ⟨g, e1, e2⟩ := ih (i + 1) f (pj_u s (9000 + i) 0) (by omega) (by omega)
    refine ⟨g, ?_, q_Z_s (q_Z_1 (z := 9000 + i) (q_rz_9000 (by omega))) e2 (fun w => q_orD (by omega))⟩
    simp (disch := omega) only [pl_J7_fill_53178_v5_5, q_onltL, if_pos c1, q_r, q_g, q_onC, q_onaL]
    exact e1
theorem q_fill7 {r : Nat} (hr : r < 8) : ∀ (m i f : Nat) (s : Nat → Int32), i + m = 28 → m < f → ∃ g, pl_J7_fill_53178_v7_5 fu f r 0 (Int32.ofNat i) 28 s l x y = some ((), g, l, x, y) ∧ q_Z q_rz (fun w => decide (40000 + 28 * r + i ≤ w ∧ w < 40000 + 28 * r + 28)) s g := by
  intro m
  induction m with
  | zero =>
    intro i f s e hf
    obtain ⟨f, rfl⟩ : ∃ f9, f = f9 + 1 := ⟨f - 1, by omega⟩
    have c1 : ¬ i < 28 := by omega
    refine ⟨s, by simp (disch := omega) only [pl_J7_fill_53178_v7_5, q_onltL, if_neg c1], ?_⟩
    intro w
    rw [if_neg (by simp; omega)]
  | succ m ih =>
    intro i f s e hf
    obtain ⟨f, rfl⟩ : ∃ f9, f = f9 + 1 := ⟨f - 1, by omega⟩
    have c1 : i < 28 := by omega
    obtain ⟨g, e1, e2⟩ := ih (i + 1) f (pj_u s (40000 + 28 * r + i) 0) (by omega) (by omega)
    refine ⟨g, ?_, q_Z_s (q_Z_1 (z := 40000 + 28 * r + i) (by rw [show 40000 + 28 * r + i = 40000 + (28 * r + i) by omega]; exact q_rz_40000 (by omega))) e2 (fun w => q_orD (by omega))⟩
    simp (disch := omega) only [pl_J7_fill_53178_v7_5, q_onltL, if_pos c1, q_r, q_g, q_onC, q_onaL]
    exact e1
theorem q_fill8 : ∀ (m i f : Nat) (s : Nat → Int32), i + m = 4 → m < f → ∃ g, pl_J7_fill_53178_v8_5 fu f 0 (Int32.ofNat i) 4 s l x y = some ((), g, l, x, y) ∧ q_Z q_rz (fun w => decide (2000 + i ≤ w ∧ w < 2000 + 4)) s g := by
  intro m
  induction m with
  | zero =>
    intro i f s e hf
    obtain ⟨f, rfl⟩ : ∃ f9, f = f9 + 1 := ⟨f - 1, by omega⟩
    have c1 : ¬ i < 4 := by omega
    refine ⟨s, by simp (disch := omega) only [pl_J7_fill_53178_v8_5, q_onltL, if_neg c1], ?_⟩
    intro w
    rw [if_neg (by simp; omega)]
  | succ m ih =>
    intro i f s e hf
    obtain ⟨f, rfl⟩ : ∃ f9, f = f9 + 1 := ⟨f - 1, by omega⟩
    have c1 : i < 4 := by omega
    obtain ⟨g, e1, e2⟩ := ih (i + 1) f (pj_u s (2000 + i) 0) (by omega) (by omega)
    refine ⟨g, ?_, q_Z_s (q_Z_1 (z := 2000 + i) (q_rz_2000 (by omega))) e2 (fun w => q_orD (by omega))⟩
    simp (disch := omega) only [pl_J7_fill_53178_v8_5, q_onltL, if_pos c1, q_r, q_g, q_onC, q_onaL]
    exact e1
theorem q_r7 : ∀ (m i f : Nat) (s : Nat → Int32), i + m = 10 → m < f → ∃ g, pl_X7_reset_16 fu f (Int32.ofNat i) s l x y = some ((), g, l, x, y) ∧ q_Z q_rz (fun w => decide ((30000 + i ≤ w ∧ w < 30010) ∨ (35000 + i ≤ w ∧ w < 35010) ∨ (36000 + i ≤ w ∧ w < 36010))) s g := by
  intro m
  induction m with
  | zero =>
    intro i f s e hf
    obtain ⟨f, rfl⟩ : ∃ f9, f = f9 + 1 := ⟨f - 1, by omega⟩
    have c1 : ¬ i < 10 := by omega
    refine ⟨s, by simp (disch := omega) only [pl_X7_reset_16, q_onltL, if_neg c1], ?_⟩
    intro w
    rw [if_neg (by simp; omega)]
  | succ m ih =>
    intro i f s e hf
    obtain ⟨f, rfl⟩ : ∃ f9, f = f9 + 1 := ⟨f - 1, by omega⟩
    have c1 : i < 10 := by omega
    obtain ⟨g, e1, e2⟩ := ih (i + 1) f (pj_u (pj_u (pj_u s (30000 + i) 0) (35000 + i) 0) (36000 + i) 0) (by omega) (by omega)
    have z1 := q_Z_1 (T := q_rz) (f := s) (z := 30000 + i) (q_rz_30000 (by omega))
    have z2 := q_Z_1 (T := q_rz) (f := pj_u s (30000 + i) 0) (z := 35000 + i) (q_rz_35000 (by omega))
    have z3 := q_Z_1 (T := q_rz) (f := pj_u (pj_u s (30000 + i) 0) (35000 + i) 0) (z := 36000 + i) (q_rz_36000 (by omega))
    have z12 := q_Z_s (K := fun w => decide (w = 30000 + i ∨ w = 35000 + i)) z1 z2 (fun w => q_orD (by omega))
    have z13 := q_Z_s (K := fun w => decide ((w = 30000 + i ∨ w = 35000 + i) ∨ w = 36000 + i)) z12 z3 (fun w => q_orD (by omega))
    refine ⟨g, ?_, q_Z_s z13 e2 (fun w => q_orD (by omega))⟩
    simp (disch := omega) only [pl_X7_reset_16, q_onltL, if_pos c1, q_g, q_onC, q_onaL]
    exact e1
theorem q_r6 : ∀ (m i f : Nat) (s x : Nat → Int32), i + m = 8 → m < f → ∃ g h, pl_X6_reset_27 fu f (Int32.ofNat i) s l x y = some ((), g, l, h, y) ∧ q_Z q_rz (fun w => decide ((18000 + i ≤ w ∧ w < 18008) ∨ (19000 + i ≤ w ∧ w < 19008))) s g ∧ q_Z q_zx (fun w => decide (7000 + i ≤ w ∧ w < 7008)) x h := by
  intro m
  induction m with
  | zero =>
    intro i f s x e hf
    obtain ⟨f, rfl⟩ : ∃ f9, f = f9 + 1 := ⟨f - 1, by omega⟩
    have c1 : ¬ i < 8 := by omega
    refine ⟨s, x, by simp (disch := omega) only [pl_X6_reset_27, q_onltL, if_neg c1], ?_, ?_⟩
    · intro w; rw [if_neg (by simp; omega)]
    · intro w; rw [if_neg (by simp; omega)]
  | succ m ih =>
    intro i f s x e hf
    obtain ⟨f, rfl⟩ : ∃ f9, f = f9 + 1 := ⟨f - 1, by omega⟩
    have c1 : i < 8 := by omega
    obtain ⟨g, h, e1, e2, e3⟩ := ih (i + 1) f (pj_u (pj_u s (18000 + i) 0) (19000 + i) 0) (pj_u x (7000 + i) 0) (by omega) (by omega)
    have z1 := q_Z_1 (T := q_rz) (f := s) (z := 18000 + i) (q_rz_18000 (by omega))
    have z2 := q_Z_1 (T := q_rz) (f := pj_u s (18000 + i) 0) (z := 19000 + i) (q_rz_19000 (by omega))
    have z12 := q_Z_s (K := fun w => decide (w = 18000 + i ∨ w = 19000 + i)) z1 z2 (fun w => q_orD (by omega))
    refine ⟨g, h, ?_, q_Z_s z12 e2 (fun w => q_orD (by omega)), q_Z_s (q_Z_1 (z := 7000 + i) (q_zx_7000 (by omega))) e3 (fun w => q_orD (by omega))⟩
    simp (disch := omega) only [pl_X6_reset_27, q_onltL, if_pos c1, q_g, q_onC, q_onaL]
    exact e1
theorem q_nwZ : q_Z q_zx (fun w => decide (4000 ≤ w ∧ w < 4024)) x (q_nw x) := by
  intro w
  by_cases c : 4000 ≤ w ∧ w < 4024
  · rw [q_nw_in c, if_pos (by simp; omega)]
    obtain ⟨k, rfl⟩ : ∃ k, w = 4000 + k := ⟨w - 4000, by omega⟩
    rw [q_zx_4000 (by omega)]
    rfl
  · rw [q_nw_out (by omega), if_neg (by simp; omega)]
theorem q_subZ : q_Z q_rz (fun w => decide (34000 ≤ w ∧ w < 34010)) s (pj_y s 34000 10 (fun k => ([0, 0, 60, 60, 60, 90, 20, 450, 130, 0] : List Int32).getD k 0) 0) := by
  intro w
  by_cases c : 34000 ≤ w ∧ w < 34010
  · obtain ⟨k, rfl⟩ : ∃ k, w = 34000 + k := ⟨w - 34000, by omega⟩
    rw [q_y_at (by omega), if_pos (by simp; omega), q_rz_34000 (by omega), show 0 + (34000 + k - 34000) = k by omega]
    rfl
  · rw [q_y_out (by omega), if_neg (by simp; omega)]
theorem q_rows8 : ∀ (m r f : Nat) (s x : Nat → Int32), r + m = 8 → m < f → ∃ g h, pl_X10_clearMarks_2 fu f (Int32.ofNat r) s l x y = some ((), pj_u g 87 0, l, h, y) ∧ q_Z q_rz (fun w => decide (40000 + 28 * r ≤ w ∧ w < 40224)) s g ∧ q_Z q_zx (fun w => decide (8000 ≤ w ∧ w < 8008)) x h := by
  intro m
  induction m with
  | zero =>
    intro r f s x e hf
    obtain ⟨f, rfl⟩ : ∃ f9, f = f9 + 1 := ⟨f - 1, by omega⟩
    have c1 : ¬ r < 8 := by omega
    obtain ⟨h, a1, a2⟩ := q_fill2 (fu := 1000) (s := pj_u s 87 0) (l := l) (y := y) 8 0 1000 x (by omega) (by omega)
    have a1 : pf_J7_fill_53178_v2 0 (pj_u s 87 0) l x y = some ((), pj_u s 87 0, l, h, y) := a1
    refine ⟨s, h, by simp (disch := omega) only [pl_X10_clearMarks_2, q_onltL, if_neg c1, a1, q_b], ?_, a2⟩
    intro w
    rw [if_neg (by simp; omega)]
  | succ m ih =>
    intro r f s x e hf
    obtain ⟨f, rfl⟩ : ∃ f9, f = f9 + 1 := ⟨f - 1, by omega⟩
    have c1 : r < 8 := by omega
    obtain ⟨g1, a1, a2⟩ := q_fill7 (fu := 1000) (l := l) (x := x) (y := y) c1 28 0 1000 s (by omega) (by omega)
    have a1 : pf_J7_fill_53178_v7 r 0 s l x y = some ((), g1, l, x, y) := by
      unfold pf_J7_fill_53178_v7 po_J7_fill_53178_v7
      rw [q_r c1]
      exact a1
    obtain ⟨g, h, e1, e2, e3⟩ := ih (r + 1) f g1 x (by omega) (by omega)
    refine ⟨g, h, ?_, q_Z_s a2 e2 (fun w => q_orD (by omega)), e3⟩
    simp (disch := omega) only [pl_X10_clearMarks_2, q_onltL, if_pos c1, q_g, q_onC, a1, q_b, q_onaL]
    exact e1
theorem q_rows4 : ∀ (m r f : Nat) (s : Nat → Int32), r + m = 4 → m < f → ∃ g, pl_X2_reset_57 fu f (Int32.ofNat r) s l x y = some ((), pj_u (pj_u (pj_u g 26 0) 27 0) 28 0, l, q_nw (pj_u x 10 0), pj_u (pj_u y 8 (-1)) 9 (-1)) ∧ q_Z q_rz (fun w => decide (8000 + 8 * r ≤ w ∧ w < 8032)) s g := by
  intro m
  induction m with
  | zero =>
    intro r f s e hf
    obtain ⟨f, rfl⟩ : ∃ f9, f = f9 + 1 := ⟨f - 1, by omega⟩
    have c1 : ¬ r < 4 := by omega
    refine ⟨s, by simp (disch := omega) only [pl_X2_reset_57, q_onltL, if_neg c1, q_forgetPlans, q_b], ?_⟩
    intro w
    rw [if_neg (by simp; omega)]
  | succ m ih =>
    intro r f s e hf
    obtain ⟨f, rfl⟩ : ∃ f9, f = f9 + 1 := ⟨f - 1, by omega⟩
    have c1 : r < 4 := by omega
    obtain ⟨g1, a1, a2⟩ := q_fill4 (fu := 1000) (l := l) (x := x) (y := y) c1 8 0 1000 s (by omega) (by omega)
    have a1 : pf_J7_fill_53178_v4 r 0 s l x y = some ((), g1, l, x, y) := by
      unfold pf_J7_fill_53178_v4 po_J7_fill_53178_v4
      rw [q_r c1]
      exact a1
    obtain ⟨g, e1, e2⟩ := ih (r + 1) f g1 (by omega) (by omega)
    refine ⟨g, ?_, q_Z_s a2 e2 (fun w => q_orD (by omega))⟩
    simp (disch := omega) only [pl_X2_reset_57, q_onltL, if_pos c1, q_g, q_onC, a1, q_b, q_onaL]
    exact e1
end QZ0

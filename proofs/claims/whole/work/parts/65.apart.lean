/-! THE RUNNER, 3: what it takes apart -/
section PJI
variable {A : Type} {a : A}
theorem pj_if_inv {b : Bool} {k : Option A} (h : pj_if b k = some a) : b = true ∧ k = some a := by
  cases b with
  | true => exact ⟨rfl, h⟩
  | false => cases h
theorem pj_vi_inv {v : pj_V} {k : Int32 → Option A} (h : pj_vi v k = some a) : ∃ x, pj_e v = .int x ∧ k x = some a := by
  rcases v with x | x | n | n | q | q
  · exact ⟨x, rfl, h⟩
  · cases h
  · exact ⟨_, rfl, h⟩
  · cases h
  · cases h
  · cases h
theorem pj_vl_inv {v : pj_V} {k : Int64 → Option A} (h : pj_vl v k = some a) : ∃ x, pj_e v = .long x ∧ k x = some a := by
  rcases v with x | x | n | n | q | q
  · cases h
  · exact ⟨x, rfl, h⟩
  · cases h
  · exact ⟨_, rfl, h⟩
  · cases h
  · cases h
theorem pj_vb_inv {v : pj_V} {k : Int32 → Option A} (h : pj_vb v k = some a) : ∃ x, pj_e v = .int x ∧ (x = 0 ∨ x = 1) ∧ k x = some a := by
  rcases v with x | x | n | n | q | q
  · replace h : pj_bz x (k x) = some a := h
    unfold pj_bz at h
    split at h
    · exact ⟨x, rfl, by assumption, h⟩
    · cases h
  · cases h
  · obtain ⟨h1, h2⟩ := pj_if_inv (show pj_if (n == 0 || n == 1) (k (Int32.ofInt n)) = some a from h)
    refine ⟨_, rfl, ?_, h2⟩
    rcases (Bool.or_eq_true _ _).mp h1 with e | e
    · exact Or.inl (by rw [eq_of_beq e]; rfl)
    · exact Or.inr (by rw [eq_of_beq e]; rfl)
  · cases h
  · cases h
  · cases h
theorem pj_r_inv {n m : Nat} {k : Option A} (h : pj_r n m k = some a) : n < m ∧ k = some a := by
  unfold pj_r at h
  split at h
  · exact ⟨by assumption, h⟩
  · cases h
theorem pj_g_inv {x : Int32} {n : Nat} {k : Option A} (h : pj_g x n k = some a) : ¬ (x < 0 ∨ n ≤ x.toNatClampNeg) ∧ k = some a := by
  unfold pj_g at h
  split at h
  · cases h
  · exact ⟨by assumption, h⟩
theorem pj_d_inv {y : Int32} {k : Option A} (h : pj_d y k = some a) : ¬ y = 0 ∧ k = some a := by
  unfold pj_d at h
  split at h
  · cases h
  · exact ⟨by assumption, h⟩
theorem pj_dl_inv {y : Int64} {k : Option A} (h : pj_dl y k = some a) : ¬ y = 0 ∧ k = some a := by
  unfold pj_dl at h
  split at h
  · cases h
  · exact ⟨by assumption, h⟩
theorem pj_vr_inv {v : pj_V} {T : Nat → Option pj_E} {k : Nat → pj_E → Nat → Option A} (h : pj_vr v T k = some a) : ∃ b n e, pj_e v = .ref (b + n) ∧ T b = some e ∧ n < e.2.2.1 ∧ k b e n = some a := by
  rcases v with x | x | n | n | q | q
  · cases h
  · cases h
  · cases h
  · cases h
  · cases ht : T q.1 with
    | none =>
      replace h : (match T q.1 with | some e => pj_if (Nat.blt q.2 e.2.2.1) (k q.1 e q.2) | none => none) = some a := h
      rw [ht] at h
      cases h
    | some e =>
      replace h : (match T q.1 with | some e => pj_if (Nat.blt q.2 e.2.2.1) (k q.1 e q.2) | none => none) = some a := h
      rw [ht] at h
      obtain ⟨h1, h2⟩ := pj_if_inv h
      exact ⟨q.1, q.2, e, rfl, ht, by simpa using h1, h2⟩
  · cases ht : T q.1 with
    | none =>
      replace h : (match T q.1 with | some e => pj_r q.2 e.2.2.1 (k q.1 e q.2) | none => none) = some a := h
      rw [ht] at h
      cases h
    | some e =>
      replace h : (match T q.1 with | some e => pj_r q.2 e.2.2.1 (k q.1 e q.2) | none => none) = some a := h
      rw [ht] at h
      obtain ⟨h1, h2⟩ := pj_r_inv h
      exact ⟨q.1, q.2, e, rfl, ht, h1, h2⟩
theorem pj_vj_inv {v : pj_V} {n : Nat} {k : Nat → Option A} (h : pj_vj v n k = some a) : ∃ x : Int32, pj_e v = .int x ∧ ¬ (x < 0 ∨ n ≤ x.toNatClampNeg) ∧ k x.toNatClampNeg = some a := by
  rcases v with x | x | m | m | q | q
  · obtain ⟨h1, h2⟩ := pj_g_inv (show pj_g x n (k x.toNatClampNeg) = some a from h)
    exact ⟨x, rfl, h1, h2⟩
  · cases h
  · cases m with
    | ofNat i =>
      obtain ⟨h1, h2⟩ := pj_if_inv (show pj_if (Nat.blt i n && Nat.ble n 1000000) (k i) = some a from h)
      obtain ⟨h3, h4⟩ := (Bool.and_eq_true _ _).mp h1
      have h3 : i < n := by simpa using h3
      have h4 : n ≤ 1000000 := Nat.le_of_ble_eq_true h4
      obtain ⟨g1, g2⟩ := pj_ofn (m := i) (by omega)
      refine ⟨Int32.ofInt (Int.ofNat i), rfl, ?_, by rw [g1]; exact h2⟩
      rw [g1]
      rintro (q | q)
      · exact g2 q
      · omega
    | negSucc i => cases h
  · cases h
  · cases h
  · cases h
theorem pj_ra_inv {T : Nat → Option pj_E} {kd : Nat} {v w : pj_V} {k : Bool → Nat → Option A} (h : pj_ra T kd v w k = some a) : ∃ b n e x, pj_e v = .ref (b + n) ∧ T b = some e ∧ n < e.2.2.1 ∧ e.1 = kd ∧ pj_e w = .int x ∧ ¬ (x < 0 ∨ e.2.1 ≤ x.toNatClampNeg) ∧ k e.2.2.2.2.1 (pj_ei e n x.toNatClampNeg) = some a := by
  obtain ⟨b, n, e, h1, h2, h3, h4⟩ := pj_vr_inv h
  obtain ⟨h5, h6⟩ := pj_if_inv h4
  obtain ⟨x, h7, h8, h9⟩ := pj_vj_inv h6
  exact ⟨b, n, e, x, h1, h2, h3, eq_of_beq h5, h7, h8, h9⟩
theorem pj_fd_inv {T : Nat → Option pj_E} {f : Nat × Nat × Nat × Bool} {v : pj_V} {k : Nat × Nat → Option A} (h : pj_fd T f v k = some a) : ∃ b e w, pj_e v = .ref b ∧ T b = some e ∧ e.1 = f.1 ∧ f.1 < 100 ∧ f.2.1 < e.2.1 ∧ pj_nth e.2.2.2.2.2.2 f.2.1 = some w ∧ k w = some a := by
  rcases v with x | x | n | n | q | q
  · cases h
  · cases h
  · cases h
  · cases h
  · replace h : (match T q.1 with
    | some e => pj_if (e.1 == f.1 && (Nat.blt f.1 100 && (q.2 == 0 && Nat.blt f.2.1 e.2.1))) (match pj_nth e.2.2.2.2.2.2 f.2.1 with
      | some w => k w
      | none => none)
    | none => none) = some a := h
    cases ht : T q.1 with
    | none => rw [ht] at h; cases h
    | some e =>
      rw [ht] at h
      obtain ⟨h1, h2⟩ := pj_if_inv h
      simp only [Bool.and_eq_true] at h1
      obtain ⟨a1, a2, a3, a4⟩ := h1
      cases hw : pj_nth e.2.2.2.2.2.2 f.2.1 with
      | none => rw [hw] at h2; cases h2
      | some w =>
        rw [hw] at h2
        refine ⟨q.1, e, w, ?_, ht, eq_of_beq a1, by simpa using a2, by simpa using a4, hw, h2⟩
        show Value.ref (q.1 + q.2) = _
        rw [eq_of_beq a3]
        rfl
  · cases h
theorem pj_i2_inv {st : List pj_V} {k : Int32 → Int32 → List pj_V → Option A} (h : pj_i2 st k = some a) : ∃ x y r, pj_es st = .int y :: .int x :: pj_es r ∧ k x y r = some a := by
  rcases st with - | ⟨w, - | ⟨v, r⟩⟩
  · cases h
  · cases h
  · obtain ⟨x, h1, h2⟩ := pj_vi_inv h
    obtain ⟨y, h3, h4⟩ := pj_vi_inv h2
    exact ⟨x, y, r, by show pj_e w :: pj_e v :: pj_es r = _; rw [h1, h3], h4⟩
theorem pj_l2_inv {st : List pj_V} {k : Int64 → Int64 → List pj_V → Option A} (h : pj_l2 st k = some a) : ∃ x y r, pj_es st = .long y :: .long x :: pj_es r ∧ k x y r = some a := by
  rcases st with - | ⟨w, - | ⟨v, r⟩⟩
  · cases h
  · cases h
  · obtain ⟨x, h1, h2⟩ := pj_vl_inv h
    obtain ⟨y, h3, h4⟩ := pj_vl_inv h2
    exact ⟨x, y, r, by show pj_e w :: pj_e v :: pj_es r = _; rw [h1, h3], h4⟩
theorem pj_i1_inv {st : List pj_V} {k : Int32 → List pj_V → Option A} (h : pj_i1 st k = some a) : ∃ x r, pj_es st = .int x :: pj_es r ∧ k x r = some a := by
  rcases st with - | ⟨v, r⟩
  · cases h
  · obtain ⟨x, h1, h2⟩ := pj_vi_inv h
    exact ⟨x, r, by show pj_e v :: pj_es r = _; rw [h1], h2⟩
theorem pj_dv_inv {st : List pj_V} {k : Int32 → Int32 → List pj_V → Option A} (h : pj_dv st k = some a) : ∃ x y r, pj_es st = .int y :: .int x :: pj_es r ∧ ¬ y = 0 ∧ k x y r = some a := by
  rcases st with - | ⟨w, - | ⟨v, r⟩⟩
  · cases h
  · cases h
  · obtain ⟨x, h1, h2⟩ := pj_vi_inv h
    rcases w with y | y | n | n | q | q
    · obtain ⟨h3, h4⟩ := pj_d_inv h2
      exact ⟨x, y, r, by show Value.int y :: pj_e v :: pj_es r = _; rw [h1], h3, h4⟩
    · cases h2
    · obtain ⟨h3, h4⟩ := pj_if_inv h2
      obtain ⟨h5, h6⟩ := (Bool.and_eq_true _ _).mp h3
      refine ⟨x, Int32.ofInt n, r, by show Value.int (Int32.ofInt n) :: pj_e v :: pj_es r = _; rw [h1], fun e => ?_, h4⟩
      have g := pj_sm_ok h6
      rw [e, Int32.toInt_zero] at g
      rw [← g] at h5
      cases h5
    · cases h2
    · cases h2
    · cases h2
theorem pj_dvl_inv {st : List pj_V} {k : Int64 → Int64 → List pj_V → Option A} (h : pj_dvl st k = some a) : ∃ x y r, pj_es st = .long y :: .long x :: pj_es r ∧ ¬ y = 0 ∧ k x y r = some a := by
  rcases st with - | ⟨w, - | ⟨v, r⟩⟩
  · cases h
  · cases h
  · obtain ⟨x, h1, h2⟩ := pj_vl_inv h
    rcases w with y | y | n | n | q | q
    · cases h2
    · obtain ⟨h3, h4⟩ := pj_dl_inv h2
      exact ⟨x, y, r, by show Value.long y :: pj_e v :: pj_es r = _; rw [h1], h3, h4⟩
    · cases h2
    · obtain ⟨h3, h4⟩ := pj_if_inv h2
      obtain ⟨h5, h6⟩ := (Bool.and_eq_true _ _).mp h3
      refine ⟨x, Int64.ofInt n, r, by show Value.long (Int64.ofInt n) :: pj_e v :: pj_es r = _; rw [h1], fun e => ?_, h4⟩
      have g := pj_sm_ok64 h6
      rw [e, Int64.toInt_zero] at g
      rw [← g] at h5
      cases h5
    · cases h2
    · cases h2
theorem pj_ld_inv {lv : List (Nat × pj_V)} {n : Nat} {k : pj_V → Option A} (h : pj_ld lv n k = some a) : ∃ v, mj_at (pj_el lv) n = some (pj_e v) ∧ k v = some a := by
  cases e : pj_as lv n with
  | none =>
    replace h : (match pj_as lv n with | some v => k v | none => none) = some a := h
    rw [e] at h
    cases h
  | some v =>
    replace h : (match pj_as lv n with | some v => k v | none => none) = some a := h
    rw [e] at h
    exact ⟨v, pj_as_at lv n v e, h⟩
theorem pj_isI_inv {v : pj_V} (h : pj_isI v = true) : ∃ x, pj_e v = .int x := by
  rcases v with x | x | n | n | q | q <;> first | exact ⟨_, rfl⟩ | cases h
theorem pj_isR_inv {v : pj_V} (h : pj_isR v = true) : ∃ x, pj_e v = .ref x := by
  rcases v with x | x | n | n | q | q <;> first | exact ⟨_, rfl⟩ | cases h
theorem pj_isL_inv {v : pj_V} (h : pj_lg v = true) : ∃ x, pj_e v = .long x := by
  rcases v with x | x | n | n | q | q <;> first | exact ⟨_, rfl⟩ | cases h
theorem pj_to_inv {pc : Nat} {off : Int} {K : Nat → Option A} (h : pj_to pc off K = some a) : ∃ t : Nat, (pc : Int) + off = (t : Int) ∧ K t = some a := by
  replace h : (match (pc : Int) + off with | .ofNat t => K t | .negSucc _ => none) = some a := h
  cases e : (pc : Int) + off with
  | ofNat t => rw [e] at h; exact ⟨t, rfl, h⟩
  | negSucc t => rw [e] at h; cases h
-- comparisons
theorem pj_ifc_inv {c : Jvm.ClassFile.Cond} {x y : Int32} {p q : Option A} (h : pj_ifc c x y p q = some a) : (mj_c c x y = true ∧ p = some a) ∨ (mj_c c x y = false ∧ q = some a) := by
  cases c
  · by_cases e : x = y
    · exact Or.inl ⟨decide_eq_true e, by rw [show pj_ifc .eq x y p q = p from if_pos e] at h; exact h⟩
    · exact Or.inr ⟨decide_eq_false e, by rw [show pj_ifc .eq x y p q = q from if_neg e] at h; exact h⟩
  · by_cases e : x = y
    · exact Or.inr ⟨decide_eq_false (fun n => n e), by rw [show pj_ifc .ne x y p q = q from if_pos e] at h; exact h⟩
    · exact Or.inl ⟨decide_eq_true e, by rw [show pj_ifc .ne x y p q = p from if_neg e] at h; exact h⟩
  · by_cases e : x < y
    · exact Or.inl ⟨decide_eq_true e, by rw [show pj_ifc .lt x y p q = p from if_pos e] at h; exact h⟩
    · exact Or.inr ⟨decide_eq_false e, by rw [show pj_ifc .lt x y p q = q from if_neg e] at h; exact h⟩
  · by_cases e : x < y
    · exact Or.inr ⟨decide_eq_false (fun n => by rw [Int32.lt_iff_toInt_lt] at e; rw [Int32.le_iff_toInt_le] at n; omega), by rw [show pj_ifc .ge x y p q = q from if_pos e] at h; exact h⟩
    · exact Or.inl ⟨decide_eq_true (by rw [Int32.lt_iff_toInt_lt] at e; rw [Int32.le_iff_toInt_le]; omega), by rw [show pj_ifc .ge x y p q = p from if_neg e] at h; exact h⟩
  · by_cases e : y < x
    · exact Or.inl ⟨decide_eq_true e, by rw [show pj_ifc .gt x y p q = p from if_pos e] at h; exact h⟩
    · exact Or.inr ⟨decide_eq_false e, by rw [show pj_ifc .gt x y p q = q from if_neg e] at h; exact h⟩
  · by_cases e : y < x
    · exact Or.inr ⟨decide_eq_false (fun n => by rw [Int32.lt_iff_toInt_lt] at e; rw [Int32.le_iff_toInt_le] at n; omega), by rw [show pj_ifc .le x y p q = q from if_pos e] at h; exact h⟩
    · exact Or.inl ⟨decide_eq_true (by rw [Int32.lt_iff_toInt_lt] at e; rw [Int32.le_iff_toInt_le]; omega), by rw [show pj_ifc .le x y p q = p from if_neg e] at h; exact h⟩
theorem pj_bo_ifc {c : Jvm.ClassFile.Cond} {x y : Int} (hx : pj_sm x = true) (hy : pj_sm y = true) {p q : Option A} : pj_ifn c x y p q = pj_ifc c (Int32.ofInt x) (Int32.ofInt y) p q := by
  have ex := pj_sm_ok hx
  have ey := pj_sm_ok hy
  have e1 : (Int32.ofInt x = Int32.ofInt y) ↔ x = y := by
    rw [← Int32.toInt_inj, ex, ey]
  have e2 : (Int32.ofInt x < Int32.ofInt y) ↔ x < y := by
    rw [Int32.lt_iff_toInt_lt, ex, ey]
  have e3 : (Int32.ofInt y < Int32.ofInt x) ↔ y < x := by
    rw [Int32.lt_iff_toInt_lt, ex, ey]
  have bq : ∀ (u v : Option A), pj_bo (x == y) u v = if Int32.ofInt x = Int32.ofInt y then u else v := by
    intro u v
    by_cases e : x = y
    · rw [if_pos (e1.mpr e), show (x == y) = true from by simpa using e]
    · rw [if_neg (fun n => e (e1.mp n)), show (x == y) = false from by simpa using e]
  have bl : ∀ (u v : Option A), pj_bo (decide (x < y)) u v = if Int32.ofInt x < Int32.ofInt y then u else v := by
    intro u v
    by_cases e : x < y
    · rw [if_pos (e2.mpr e), decide_eq_true e]
    · rw [if_neg (fun n => e (e2.mp n)), decide_eq_false e]
  have bg : ∀ (u v : Option A), pj_bo (decide (y < x)) u v = if Int32.ofInt y < Int32.ofInt x then u else v := by
    intro u v
    by_cases e : y < x
    · rw [if_pos (e3.mpr e), decide_eq_true e]
    · rw [if_neg (fun n => e (e3.mp n)), decide_eq_false e]
  cases c
  · exact bq p q
  · exact bq q p
  · exact bl p q
  · exact bl q p
  · exact bg p q
  · exact bg q p
theorem pj_cmp_inv {c : Jvm.ClassFile.Cond} {v w : pj_V} {p q : Option A} (h : pj_cmp c v w p q = some a) : ∃ x y, pj_e v = .int x ∧ pj_e w = .int y ∧ ((mj_c c x y = true ∧ p = some a) ∨ (mj_c c x y = false ∧ q = some a)) := by
  have gen : pj_vi v (fun x => pj_vi w (fun y => pj_ifc c x y p q)) = some a → ∃ x y, pj_e v = .int x ∧ pj_e w = .int y ∧ ((mj_c c x y = true ∧ p = some a) ∨ (mj_c c x y = false ∧ q = some a)) := by
    intro h
    obtain ⟨x, h1, h2⟩ := pj_vi_inv h
    obtain ⟨y, h3, h4⟩ := pj_vi_inv h2
    exact ⟨x, y, h1, h3, pj_ifc_inv h4⟩
  rcases v with x | x | x | x | x | x <;> rcases w with y | y | y | y | y | y
  all_goals first
    | exact gen h
    | skip
  obtain ⟨h1, h2⟩ := pj_if_inv (show pj_if (pj_sm x && pj_sm y) (pj_ifn c x y p q) = some a from h)
  obtain ⟨h3, h4⟩ := (Bool.and_eq_true _ _).mp h1
  rw [pj_bo_ifc h3 h4] at h2
  exact ⟨_, _, rfl, rfl, pj_ifc_inv h2⟩
theorem pj_ifl_inv {c : Jvm.ClassFile.Cond} {x y : Int64} {p q : Option A} (h : pj_ifl c x y p q = some a) : (mj_c c (lg_cmp x y) 0 = true ∧ p = some a) ∨ (mj_c c (lg_cmp x y) 0 = false ∧ q = some a) := by
  cases c
  · by_cases e : x = y
    · exact Or.inl ⟨decide_eq_true ((lg_cmp_eq x y).mpr e), by rw [show pj_ifl .eq x y p q = p from if_pos e] at h; exact h⟩
    · exact Or.inr ⟨decide_eq_false (fun n => e ((lg_cmp_eq x y).mp n)), by rw [show pj_ifl .eq x y p q = q from if_neg e] at h; exact h⟩
  · by_cases e : x = y
    · exact Or.inr ⟨decide_eq_false (fun n => n ((lg_cmp_eq x y).mpr e)), by rw [show pj_ifl .ne x y p q = q from if_pos e] at h; exact h⟩
    · exact Or.inl ⟨decide_eq_true (fun n => e ((lg_cmp_eq x y).mp n)), by rw [show pj_ifl .ne x y p q = p from if_neg e] at h; exact h⟩
  · by_cases e : x < y
    · exact Or.inl ⟨decide_eq_true ((lg_cmp_lt x y).mpr e), by rw [show pj_ifl .lt x y p q = p from if_pos e] at h; exact h⟩
    · exact Or.inr ⟨decide_eq_false (fun n => e ((lg_cmp_lt x y).mp n)), by rw [show pj_ifl .lt x y p q = q from if_neg e] at h; exact h⟩
  · by_cases e : x < y
    · exact Or.inr ⟨decide_eq_false (fun n => by have n := (lg_cmp_ge x y).mp n; rw [Int64.lt_iff_toInt_lt] at e; rw [Int64.le_iff_toInt_le] at n; omega), by rw [show pj_ifl .ge x y p q = q from if_pos e] at h; exact h⟩
    · exact Or.inl ⟨decide_eq_true ((lg_cmp_ge x y).mpr (by rw [Int64.lt_iff_toInt_lt] at e; rw [Int64.le_iff_toInt_le]; omega)), by rw [show pj_ifl .ge x y p q = p from if_neg e] at h; exact h⟩
  · by_cases e : y < x
    · exact Or.inl ⟨decide_eq_true ((lg_cmp_gt x y).mpr e), by rw [show pj_ifl .gt x y p q = p from if_pos e] at h; exact h⟩
    · exact Or.inr ⟨decide_eq_false (fun n => e ((lg_cmp_gt x y).mp n)), by rw [show pj_ifl .gt x y p q = q from if_neg e] at h; exact h⟩
  · by_cases e : y < x
    · exact Or.inr ⟨decide_eq_false (fun n => by have n := (lg_cmp_le x y).mp n; rw [Int64.lt_iff_toInt_lt] at e; rw [Int64.le_iff_toInt_le] at n; omega), by rw [show pj_ifl .le x y p q = q from if_pos e] at h; exact h⟩
    · exact Or.inl ⟨decide_eq_true ((lg_cmp_le x y).mpr (by rw [Int64.lt_iff_toInt_lt] at e; rw [Int64.le_iff_toInt_le]; omega)), by rw [show pj_ifl .le x y p q = p from if_neg e] at h; exact h⟩
-- switches
theorem pj_ts_inv {x : Int32} {d : Option A} {k : Int → Option A} : ∀ (l : List Int) (lo : Int), -2147483648 ≤ lo → lo + l.length ≤ 2147483648 → pj_ts x d k lo l = some a → (∃ (m : Nat) (off : Int), l[m]? = some off ∧ x.toInt = lo + (m : Int) ∧ k off = some a) ∨ ((x.toInt < lo ∨ lo + l.length ≤ x.toInt) ∧ d = some a) := by
  intro l
  induction l with
  | nil =>
    intro lo h1 h2 h
    refine Or.inr ⟨?_, h⟩
    simp only [List.length_nil]
    omega
  | cons o r ih =>
    intro lo h1 h2 h
    simp only [List.length_cons] at h2
    have es : (Int32.ofInt lo).toInt = lo := Int32.toInt_ofInt_of_le (by omega) (by omega)
    by_cases e : x = Int32.ofInt lo
    · refine Or.inl ⟨0, o, rfl, ?_, ?_⟩
      · rw [e, es]; simp
      · rw [show pj_ts x d k lo (o :: r) = k o from if_pos e] at h; exact h
    · rw [show pj_ts x d k lo (o :: r) = pj_ts x d k (lo + 1) r from if_neg e] at h
      have e9 : x.toInt ≠ lo := fun n => e (by rw [← Int32.toInt_inj, es]; exact n)
      rcases ih (lo + 1) (by omega) (by omega) h with ⟨m, off, g1, g2, g3⟩ | ⟨g1, g2⟩
      · exact Or.inl ⟨m + 1, off, g1, by rw [g2]; omega, g3⟩
      · refine Or.inr ⟨?_, g2⟩
        simp only [List.length_cons]
        omega
theorem pj_lo_inv {x : Int32} {d : Int} {k : Int → Option A} : ∀ (l : List (Int × Int)), l.all (fun q => pj_sm q.1) = true → pj_lo x (k d) k l = some a → k (Op.lookupswitch.offset l d x.toInt) = some a := by
  intro l
  induction l with
  | nil => intro _ h; exact h
  | cons o r ih =>
    intro hs h
    rw [List.all_cons, Bool.and_eq_true] at hs
    obtain ⟨o1, o2⟩ := o
    rw [Op.lookupswitch.offset_cons]
    have es := pj_sm_ok hs.1
    by_cases e : x = Int32.ofInt o1
    · rw [show pj_lo x (k d) k ((o1, o2) :: r) = k o2 from if_pos e] at h
      rw [if_pos (by rw [e]; exact es.symm)]
      exact h
    · rw [show pj_lo x (k d) k ((o1, o2) :: r) = pj_lo x (k d) k r from if_neg e] at h
      rw [if_neg (fun n => e (by rw [← Int32.toInt_inj]; exact n.symm.trans es.symm))]
      exact ih hs.2 h
end PJI

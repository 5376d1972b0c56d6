/-! LOCALS, 2: a step, a run, with more locals -/
theorem mj_or_inv2 {α : Type} {a b : Option α} {x : α} (h : mj_or a b = some x) : a = some x ∨ (a = none ∧ b = some x) := by
  cases a with
  | none => exact Or.inr ⟨rfl, h⟩
  | some y => exact Or.inl h
theorem mj_or_l {α : Type} {a b : Option α} {x : α} (h : a = some x) : mj_or a b = some x := by rw [h]; rfl
theorem mj_or_r {α : Type} {a b : Option α} {x : α} (h : a = none) (h2 : b = some x) : mj_or a b = some x := by rw [h]; exact h2
theorem mj_lf_n {k pc : Nat} {lv lv' : List (Nat × Value)} {M : mj_M} {a : Option (Nat × List Value)} (h : mj_lf k pc lv M a = none) : mj_lf k pc lv' M a = none := by
  unfold mj_lf at h ⊢
  split at h
  · split at h
    · cases h
    · rename_i e; exact if_neg e
  · rfl
theorem mj_lfB_n {lv lv' : List (Nat × Value)} {M : mj_M} {a : Option (Nat × List Value)} (h : mj_lfB lv M a = none) : mj_lfB lv' M a = none := by
  unfold mj_lfB at h ⊢
  split at h
  · cases h
  · rfl
theorem mj_lfW_n {k pc : Nat} {lv lv' : List (Nat × Value)} {a : Option (Nat × List Value × mj_M)} (h : mj_lfW k pc lv a = none) : mj_lfW k pc lv' a = none := by
  unfold mj_lfW at h ⊢
  split at h
  · split at h
    · cases h
    · rename_i e; exact if_neg e
  · rfl
theorem mj_lf_s {k pc : Nat} {lv lv' : List (Nat × Value)} {M : mj_M} {a : Option (Nat × List Value)} {S' : mj_S} (h : mj_lf k pc lv M a = some S') : a ≠ none ∧ S'.2.1 = lv ∧ mj_lf k pc lv' M a = some (S'.1, lv', S'.2.2) := by
  obtain ⟨st', rfl, rfl⟩ := mj_lf_inv h
  refine ⟨(fun q => by cases q), rfl, ?_⟩
  unfold mj_lf
  dsimp only
  rw [if_pos rfl]
theorem mj_lfB_s {lv lv' : List (Nat × Value)} {M : mj_M} {a : Option (Nat × List Value)} {S' : mj_S} (h : mj_lfB lv M a = some S') : a ≠ none ∧ S'.2.1 = lv ∧ mj_lfB lv' M a = some (S'.1, lv', S'.2.2) := by
  obtain ⟨pc', st', rfl, rfl⟩ := mj_lfB_inv h
  exact ⟨(fun q => by cases q), rfl, rfl⟩
theorem mj_lfW_s {k pc : Nat} {lv lv' : List (Nat × Value)} {a : Option (Nat × List Value × mj_M)} {S' : mj_S} (h : mj_lfW k pc lv a = some S') : a ≠ none ∧ S'.2.1 = lv ∧ mj_lfW k pc lv' a = some (S'.1, lv', S'.2.2) := by
  obtain ⟨st', M', rfl, rfl⟩ := mj_lfW_inv h
  refine ⟨(fun q => by cases q), rfl, ?_⟩
  unfold mj_lfW
  dsimp only
  rw [if_pos rfl]
/-- with more locals: the same step -/
theorem mj_one_sub {P : mj_P} {b : Bool} {j nL k pc : Nat} {i : Instr} {lv lv' : List (Nat × Value)} {st : List Value} {M : mj_M} {S' : mj_S} (hs : mj_sub lv lv') (h : mj_one P b j nL i k (pc, lv, st, M) = some S') : ∃ lv2, mj_one P b j nL i k (pc, lv', st, M) = some (S'.1, lv2, S'.2.2) ∧ mj_sub S'.2.1 lv2 := by
  have same : ∀ (e : S'.2.1 = lv), mj_sub S'.2.1 lv' := fun e => by rw [e]; exact hs
  have ln : mj_loc i nL lv' st = none → mj_lfL k pc M (mj_loc i nL lv' st) = none := fun e => by rw [e]; rfl
  unfold mj_one at h ⊢
  rcases mj_or_inv2 h with h | ⟨h0, h⟩
  · unfold mj_one0 at h ⊢
    dsimp only at h ⊢
    rcases mj_or_inv2 h with h | ⟨n1, h⟩
    · obtain ⟨lv1, st1, g, rfl⟩ := mj_lfL_inv h
      obtain ⟨lv2, g2, hs2⟩ := mj_loc_sub hs g
      refine ⟨lv2, mj_or_l (mj_or_l ?_), hs2⟩
      rw [g2]
      unfold mj_lfL
      dsimp only
      rw [if_pos rfl]
    rcases mj_or_inv2 h with h | ⟨n2, h⟩
    · obtain ⟨g1, g2, g3⟩ := mj_lf_s (lv' := lv') h
      exact ⟨lv', mj_or_l (mj_or_r (ln (mj_hr_nl _ i M st nL lv' g1)) (mj_or_l g3)), same g2⟩
    rcases mj_or_inv2 h with h | ⟨n3, h⟩
    · obtain ⟨g1, g2, g3⟩ := mj_lf_s (lv' := lv') h
      exact ⟨lv', mj_or_l (mj_or_r (ln (mj_op_nl i st nL lv' g1)) (mj_or_r (mj_lf_n n2) (mj_or_l g3))), same g2⟩
    rcases mj_or_inv2 h with h | ⟨n4, h⟩
    · obtain ⟨g1, g2, g3⟩ := mj_lfB_s (lv' := lv') h
      exact ⟨lv', mj_or_l (mj_or_r (ln (mj_br_nl _ _ i st nL lv' g1)) (mj_or_r (mj_lf_n n2) (mj_or_r (mj_lf_n n3) (mj_or_l g3)))), same g2⟩
    rcases mj_or_inv2 h with h | ⟨n5, h⟩
    · obtain ⟨g1, g2, g3⟩ := mj_lfW_s (lv' := lv') h
      exact ⟨lv', mj_or_l (mj_or_r (ln (mj_hw_nl _ i M st nL lv' g1)) (mj_or_r (mj_lf_n n2) (mj_or_r (mj_lf_n n3) (mj_or_r (mj_lfB_n n4) (mj_or_l g3))))), same g2⟩
    rcases mj_or_inv2 h with h | ⟨n6, h⟩
    · obtain ⟨g1, g2, g3⟩ := mj_lf_s (lv' := lv') h
      exact ⟨lv', mj_or_l (mj_or_r (ln (mj_ldc_nl _ _ i st nL lv' g1)) (mj_or_r (mj_lf_n n2) (mj_or_r (mj_lf_n n3) (mj_or_r (mj_lfB_n n4) (mj_or_r (mj_lfW_n n5) (mj_or_l g3)))))), same g2⟩
    · obtain ⟨g1, g2, g3⟩ := mj_lf_s (lv' := lv') h
      exact ⟨lv', mj_or_l (mj_or_r (ln (mj_xr_nl _ _ i st nL lv' g1)) (mj_or_r (mj_lf_n n2) (mj_or_r (mj_lf_n n3) (mj_or_r (mj_lfB_n n4) (mj_or_r (mj_lfW_n n5) (mj_or_r (mj_lf_n n6) g3)))))), same g2⟩
  · cases b with
    | false => cases h
    | true =>
      dsimp only [cond_true] at h ⊢
      have n0 : mj_loc i nL lv' st = none → mj_one0 P j nL i k (pc, lv', st, M) = none := fun e => by
        unfold mj_one0 at h0 ⊢
        dsimp only at h0 ⊢
        cases q1 : mj_lfL k pc M (mj_loc i nL lv st) with
        | some x => rw [q1] at h0; cases h0
        | none =>
        rw [q1] at h0
        cases q2 : mj_lf k pc lv M (mj_hr (mj_pF P j) i M st) with
        | some x => rw [q2] at h0; cases h0
        | none =>
        rw [q2] at h0
        cases q3 : mj_lf k pc lv M (mj_op i st) with
        | some x => rw [q3] at h0; cases h0
        | none =>
        rw [q3] at h0
        cases q4 : mj_lfB lv M (mj_br i k pc st) with
        | some x => rw [q4] at h0; cases h0
        | none =>
        rw [q4] at h0
        cases q5 : mj_lfW k pc lv (mj_hw (mj_pF P j) i M st) with
        | some x => rw [q5] at h0; cases h0
        | none =>
        rw [q5] at h0
        cases q6 : mj_lf k pc lv M (mj_ldc P j i st) with
        | some x => rw [q6] at h0; cases h0
        | none =>
        rw [q6] at h0
        rw [ln e, mj_lf_n q2, mj_lf_n q3, mj_lfB_n q4, mj_lfW_n q5, mj_lf_n q6]
        exact mj_lf_n h0
      unfold mj_one1 at h ⊢
      dsimp only at h ⊢
      rcases mj_or_inv2 h with h | ⟨n1, h⟩
      · obtain ⟨g1, g2, g3⟩ := mj_lfW_s (lv' := lv') h
        exact ⟨lv', mj_or_r (n0 (mj_al_nl _ i M st nL lv' g1)) (mj_or_l g3), same g2⟩
      rcases mj_or_inv2 h with h | ⟨n2, h⟩
      · obtain ⟨g1, g2, g3⟩ := mj_lfW_s (lv' := lv') h
        exact ⟨lv', mj_or_r (n0 (mj_pz_nl _ _ i M st nL lv' g1)) (mj_or_r (mj_lfW_n n1) (mj_or_l g3)), same g2⟩
      rcases mj_or_inv2 h with h | ⟨n3, h⟩
      · obtain ⟨g1, g2, g3⟩ := mj_lfW_s (lv' := lv') h
        exact ⟨lv', mj_or_r (n0 (mj_cp_nl _ _ i M st nL lv' g1)) (mj_or_r (mj_lfW_n n1) (mj_or_r (mj_lfW_n n2) (mj_or_l g3))), same g2⟩
      rcases mj_or_inv2 h with h | ⟨n4, h⟩
      · obtain ⟨g1, g2, g3⟩ := mj_lf_s (lv' := lv') h
        exact ⟨lv', mj_or_r (n0 (mj_oi_nl _ _ i st nL lv' g1)) (mj_or_r (mj_lfW_n n1) (mj_or_r (mj_lfW_n n2) (mj_or_r (mj_lfW_n n3) (mj_or_l g3)))), same g2⟩
      · obtain ⟨g1, g2, g3⟩ := mj_lfW_s (lv' := lv') h
        exact ⟨lv', mj_or_r (n0 (mj_ma_nl _ i M st nL lv' g1)) (mj_or_r (mj_lfW_n n1) (mj_or_r (mj_lfW_n n2) (mj_or_r (mj_lfW_n n3) (mj_or_r (mj_lf_n n4) g3)))), same g2⟩
theorem mj_call_lv {P : mj_P} {j k pc : Nat} {i : Instr} {lv lv' : List (Nat × Value)} {st : List Value} {M : mj_M} : mj_call P j i k (pc, lv', st, M) = mj_call P j i k (pc, lv, st, M) := rfl
theorem mj_steps_sub {P : mj_P} {Rel : Nat → List Value → mj_M → Option Value → mj_M → Prop} {b : Bool} {j : Nat} {Y : mj_Y} : ∀ (n : Nat) {pc : Nat} {lv lv' : List (Nat × Value)} {st : List Value} {M : mj_M} {S' : mj_S}, mj_sub lv lv' → mj_steps P Rel b j Y n (pc, lv, st, M) S' → ∃ lv2, mj_steps P Rel b j Y n (pc, lv', st, M) (S'.1, lv2, S'.2.2) := by
  intro n
  induction n with
  | zero => intro pc lv lv' st M S' hs h; cases h; exact ⟨lv', rfl⟩
  | succ n ih =>
    intro pc lv lv' st M S' hs h
    obtain ⟨⟨pc1, lv1, st1, M1⟩, ⟨i, k, h1, h2⟩, h3⟩ := h
    rcases h2 with h2 | ⟨j', vs, rest, v, M', g1, g2, g3⟩
    · obtain ⟨lv2, q1, q2⟩ := mj_one_sub hs h2
      obtain ⟨lv3, q3⟩ := ih q2 h3
      exact ⟨lv3, _, ⟨i, k, h1, Or.inl q1⟩, q3⟩
    · cases g3
      obtain ⟨lv3, q3⟩ := ih hs h3
      exact ⟨lv3, _, ⟨i, k, h1, Or.inr ⟨j', vs, rest, v, _, g1, g2, rfl⟩⟩, q3⟩
/-- what the method comes to with fewer locals it comes to with more -/
theorem mj_wp_sub {P : mj_P} {Rel : Nat → List Value → mj_M → Option Value → mj_M → Prop} {b : Bool} {j : Nat} {Y : mj_Y} {Q : Option Value → mj_M → Prop} {pc : Nat} {lv lv' : List (Nat × Value)} {st : List Value} {M : mj_M} (hs : mj_sub lv lv') (h : mj_wp P Rel b j Y (pc, lv, st, M) Q) : mj_wp P Rel b j Y (pc, lv', st, M) Q := by
  obtain ⟨n, S', i, k, r, h1, h2, h3, h4⟩ := h
  obtain ⟨lv2, h1⟩ := mj_steps_sub n hs h1
  exact ⟨n, _, i, k, r, h1, h2, h3, h4⟩

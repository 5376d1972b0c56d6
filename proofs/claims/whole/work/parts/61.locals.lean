/-! LOCALS that are not looked at any more may be forgotten: more locals, the same run -/
def mj_nd (lv : List (Nat × Value)) : Prop := lv.Pairwise (fun a b => a.1 ≠ b.1)
theorem mj_at_of {lv : List (Nat × Value)} (hn : mj_nd lv) {i : Nat} {v : Value} (h : (i, v) ∈ lv) : mj_at lv i = some v := by
  induction lv with
  | nil => cases h
  | cons q r ih =>
    unfold mj_at
    obtain ⟨h1, h2⟩ := List.pairwise_cons.mp hn
    rcases List.mem_cons.mp h with rfl | h
    · simp
    · have : (q.1 == i) = false := by
        have := h1 _ h
        simp [this]
      rw [this]
      exact ih h2 h
def mj_sub (lv lv' : List (Nat × Value)) : Prop := (∀ q ∈ lv, q ∈ lv') ∧ mj_nd lv'
theorem mj_sub_at {lv lv' : List (Nat × Value)} (h : mj_sub lv lv') {i : Nat} {v : Value} (hv : mj_at lv i = some v) : mj_at lv' i = some v := mj_at_of h.2 (h.1 _ (mj_at_mem hv))
theorem mj_sub_put {lv lv' : List (Nat × Value)} (h : mj_sub lv lv') (i : Nat) (v : Value) (f : Nat × Value → Bool) (hf : ∀ q, f q = true → q.1 ≠ i) : mj_sub ((i, v) :: lv.filter f) ((i, v) :: lv'.filter f) := by
  refine ⟨fun q hq => ?_, List.pairwise_cons.mpr ⟨fun q hq => ?_, List.Pairwise.filter _ h.2⟩⟩
  · rcases List.mem_cons.mp hq with rfl | hq
    · exact List.mem_cons_self
    · have := List.mem_filter.mp hq
      exact List.mem_cons_of_mem _ (List.mem_filter.mpr ⟨h.1 _ this.1, this.2⟩)
  · exact fun e => hf q (List.mem_filter.mp hq).2 e.symm
theorem mj_keep1_ne {i : Nat} (q : Nat × Value) (h : mj_keep1 i q = true) : q.1 ≠ i := by
  unfold mj_keep1 at h
  intro e
  simp [e] at h
theorem mj_keep2_ne {i : Nat} (q : Nat × Value) (h : mj_keep2 i q = true) : q.1 ≠ i := by
  unfold mj_keep2 at h
  intro e
  simp [e] at h
theorem mj_ldi_sub {len i k : Nat} {lv lv' lv1 : List (Nat × Value)} {st st1 : List Value} (hs : mj_sub lv lv') (h : mj_ldi len i lv st = some (k, lv1, st1)) : ∃ lv2, mj_ldi len i lv' st = some (k, lv2, st1) ∧ mj_sub lv1 lv2 := by
  unfold mj_ldi at h
  split at h
  · rename_i hv
    cases h
    refine ⟨lv', ?_, hs⟩
    unfold mj_ldi
    rw [mj_sub_at hs hv]
  · cases h
theorem mj_ldl_sub {len i k : Nat} {lv lv' lv1 : List (Nat × Value)} {st st1 : List Value} (hs : mj_sub lv lv') (h : mj_ldl len i lv st = some (k, lv1, st1)) : ∃ lv2, mj_ldl len i lv' st = some (k, lv2, st1) ∧ mj_sub lv1 lv2 := by
  unfold mj_ldl at h
  split at h
  · rename_i hv
    cases h
    refine ⟨lv', ?_, hs⟩
    unfold mj_ldl
    rw [mj_sub_at hs hv]
  · cases h
theorem mj_lda_sub {len i k : Nat} {lv lv' lv1 : List (Nat × Value)} {st st1 : List Value} (hs : mj_sub lv lv') (h : mj_lda len i lv st = some (k, lv1, st1)) : ∃ lv2, mj_lda len i lv' st = some (k, lv2, st1) ∧ mj_sub lv1 lv2 := by
  unfold mj_lda at h
  split at h
  · rename_i hv
    cases h
    refine ⟨lv', ?_, hs⟩
    unfold mj_lda
    rw [mj_sub_at hs hv]
  · cases h
theorem mj_sti_sub {len i nL k : Nat} {lv lv' lv1 : List (Nat × Value)} {st st1 : List Value} (hs : mj_sub lv lv') (h : mj_sti len i nL lv st = some (k, lv1, st1)) : ∃ lv2, mj_sti len i nL lv' st = some (k, lv2, st1) ∧ mj_sub lv1 lv2 := by
  unfold mj_sti at h
  split at h
  · split at h
    · rename_i hn
      cases h
      refine ⟨_, ?_, mj_sub_put hs _ _ _ mj_keep1_ne⟩
      unfold mj_sti
      dsimp only
      rw [if_pos hn]
    · cases h
  · cases h
theorem mj_stl_sub {len i nL k : Nat} {lv lv' lv1 : List (Nat × Value)} {st st1 : List Value} (hs : mj_sub lv lv') (h : mj_stl len i nL lv st = some (k, lv1, st1)) : ∃ lv2, mj_stl len i nL lv' st = some (k, lv2, st1) ∧ mj_sub lv1 lv2 := by
  unfold mj_stl at h
  split at h
  · split at h
    · rename_i hn
      cases h
      refine ⟨_, ?_, mj_sub_put hs _ _ _ mj_keep2_ne⟩
      unfold mj_stl
      dsimp only
      rw [if_pos hn]
    · cases h
  · cases h
theorem mj_sta_sub {len i nL k : Nat} {lv lv' lv1 : List (Nat × Value)} {st st1 : List Value} (hs : mj_sub lv lv') (h : mj_sta len i nL lv st = some (k, lv1, st1)) : ∃ lv2, mj_sta len i nL lv' st = some (k, lv2, st1) ∧ mj_sub lv1 lv2 := by
  unfold mj_sta at h
  split at h
  · split at h
    · rename_i hn
      cases h
      refine ⟨_, ?_, mj_sub_put hs _ _ _ mj_keep1_ne⟩
      unfold mj_sta
      dsimp only
      rw [if_pos hn]
    · cases h
  · cases h
theorem mj_inc_sub {i nL k : Nat} {n : Int} {lv lv' lv1 : List (Nat × Value)} {st st1 : List Value} (hs : mj_sub lv lv') (h : mj_inc i nL n lv st = some (k, lv1, st1)) : ∃ lv2, mj_inc i nL n lv' st = some (k, lv2, st1) ∧ mj_sub lv1 lv2 := by
  unfold mj_inc at h
  split at h
  · rename_i hv
    split at h
    · rename_i hn
      cases h
      refine ⟨_, ?_, mj_sub_put hs _ _ _ mj_keep1_ne⟩
      unfold mj_inc
      rw [mj_sub_at hs hv]
      dsimp only
      rw [if_pos hn]
    · cases h
  · cases h
theorem mj_loc_sub {i : Instr} {nL k : Nat} {lv lv' lv1 : List (Nat × Value)} {st st1 : List Value} (hs : mj_sub lv lv') (h : mj_loc i nL lv st = some (k, lv1, st1)) : ∃ lv2, mj_loc i nL lv' st = some (k, lv2, st1) ∧ mj_sub lv1 lv2 := by
  unfold mj_loc at h
  split at h
  · exact mj_ldi_sub hs h
  · exact mj_ldi_sub hs h
  · exact mj_ldl_sub hs h
  · exact mj_ldl_sub hs h
  · exact mj_lda_sub hs h
  · exact mj_lda_sub hs h
  · exact mj_sti_sub hs h
  · exact mj_sti_sub hs h
  · exact mj_stl_sub hs h
  · exact mj_stl_sub hs h
  · exact mj_sta_sub hs h
  · exact mj_sta_sub hs h
  · exact mj_inc_sub hs h
  · cases h
-- the other groups' instructions are none of the locals'
theorem mj_hr_nl (fl : mj_FL) (i : Instr) (M : mj_M) (st : List Value) (nL : Nat) (lv : List (Nat × Value)) (h : mj_hr fl i M st ≠ none) : mj_loc i nL lv st = none := by
  unfold mj_hr at h
  split at h <;> first | rfl | exact absurd rfl h
theorem mj_op_nl  (i : Instr) (st : List Value) (nL : Nat) (lv : List (Nat × Value)) (h : mj_op i st ≠ none) : mj_loc i nL lv st = none := by
  unfold mj_op at h
  split at h <;> first | rfl | exact absurd rfl h
theorem mj_br_nl (n pc : Nat) (i : Instr) (st : List Value) (nL : Nat) (lv : List (Nat × Value)) (h : mj_br i n pc st ≠ none) : mj_loc i nL lv st = none := by
  unfold mj_br at h
  split at h <;> first | rfl | exact absurd rfl h
theorem mj_hw_nl (fl : mj_FL) (i : Instr) (M : mj_M) (st : List Value) (nL : Nat) (lv : List (Nat × Value)) (h : mj_hw fl i M st ≠ none) : mj_loc i nL lv st = none := by
  unfold mj_hw at h
  split at h <;> first | rfl | exact absurd rfl h
theorem mj_ldc_nl (P : mj_P) (j : Nat) (i : Instr) (st : List Value) (nL : Nat) (lv : List (Nat × Value)) (h : mj_ldc P j i st ≠ none) : mj_loc i nL lv st = none := by
  unfold mj_ldc at h
  split at h <;> first | rfl | exact absurd rfl h
theorem mj_xr_nl (X : mj_XT) (gs : Nat → Option Nat) (i : Instr) (st : List Value) (nL : Nat) (lv : List (Nat × Value)) (h : mj_xr X gs i st ≠ none) : mj_loc i nL lv st = none := by
  unfold mj_xr at h
  split at h <;> first | rfl | exact absurd rfl h
theorem mj_al_nl (nw : Nat → Option (Nat × Nat)) (i : Instr) (M : mj_M) (st : List Value) (nL : Nat) (lv : List (Nat × Value)) (h : mj_al nw i M st ≠ none) : mj_loc i nL lv st = none := by
  unfold mj_al at h
  split at h <;> first | rfl | exact absurd rfl h
theorem mj_cp_nl (X : mj_XT) (ac : Nat → Bool) (i : Instr) (M : mj_M) (st : List Value) (nL : Nat) (lv : List (Nat × Value)) (h : mj_cp X ac i M st ≠ none) : mj_loc i nL lv st = none := by
  unfold mj_cp at h
  split at h <;> first | rfl | exact absurd rfl h
theorem mj_oi_nl (P : mj_P) (j : Nat) (i : Instr) (st : List Value) (nL : Nat) (lv : List (Nat × Value)) (h : mj_oi P j i st ≠ none) : mj_loc i nL lv st = none := by
  unfold mj_oi at h
  split at h <;> first | rfl | exact absurd rfl h
theorem mj_ma_nl (ma : Nat → Option Nat) (i : Instr) (M : mj_M) (st : List Value) (nL : Nat) (lv : List (Nat × Value)) (h : mj_ma ma i M st ≠ none) : mj_loc i nL lv st = none := by
  unfold mj_ma at h
  split at h <;> first | rfl | exact absurd rfl h
theorem mj_putF_nl (fl : mj_FL) (ci0 : Nat) (i : Instr) (M : mj_M) (st : List Value) (nL : Nat) (lv : List (Nat × Value)) (h : mj_putF fl ci0 i M st ≠ none) : mj_loc i nL lv st = none := by
  unfold mj_putF at h
  split at h <;> first | rfl | exact absurd rfl h
theorem mj_pz_nl (P : mj_P) (j : Nat) (i : Instr) (M : mj_M) (st : List Value) (nL : Nat) (lv : List (Nat × Value)) (h : mj_pz P j i M st ≠ none) : mj_loc i nL lv st = none := by
  unfold mj_pz at h
  split at h
  · exact mj_putF_nl _ _ i M st nL lv h
  · exact absurd rfl h
theorem mj_call_nl (P : mj_P) (j : Nat) (i : Instr) (k : Nat) (S : mj_S) (nL : Nat) (lv : List (Nat × Value)) (h : mj_call P j i k S ≠ none) : mj_loc i nL lv S.2.2.1 = none := by
  unfold mj_call at h
  split at h <;> first | rfl | exact absurd rfl h
theorem mj_lfL_none {k pc : Nat} {M : mj_M} : mj_lfL k pc M none = none := rfl

/-! THE SMALL MACHINE, 10: the same of a step and of a run -/
theorem mj_lf_inv {k pc : Nat} {lv : List (Nat × Value)} {M : mj_M} {a : Option (Nat × List Value)} {S' : mj_S} (h : mj_lf k pc lv M a = some S') : ∃ st', a = some (k, st') ∧ S' = (pc + k, lv, st', M) := by
  unfold mj_lf at h
  split at h
  · rename_i q
    split at h
    · rename_i e
      cases h
      obtain ⟨a, b⟩ := q
      cases e
      exact ⟨_, rfl, rfl⟩
    · cases h
  · cases h
theorem mj_lfL_inv {k pc : Nat} {M : mj_M} {a : Option (Nat × List (Nat × Value) × List Value)} {S' : mj_S} (h : mj_lfL k pc M a = some S') : ∃ lv' st', a = some (k, lv', st') ∧ S' = (pc + k, lv', st', M) := by
  unfold mj_lfL at h
  split at h
  · rename_i q
    split at h
    · rename_i e
      cases h
      obtain ⟨a, b, c⟩ := q
      cases e
      exact ⟨_, _, rfl, rfl⟩
    · cases h
  · cases h
theorem mj_lfB_inv {lv : List (Nat × Value)} {M : mj_M} {a : Option (Nat × List Value)} {S' : mj_S} (h : mj_lfB lv M a = some S') : ∃ pc' st', a = some (pc', st') ∧ S' = (pc', lv, st', M) := by
  unfold mj_lfB at h
  split at h
  · cases h
    exact ⟨_, _, rfl, rfl⟩
  · cases h
theorem mj_lfW_inv {k pc : Nat} {lv : List (Nat × Value)} {a : Option (Nat × List Value × mj_M)} {S' : mj_S} (h : mj_lfW k pc lv a = some S') : ∃ st' M', a = some (k, st', M') ∧ S' = (pc + k, lv, st', M') := by
  unfold mj_lfW at h
  split at h
  · rename_i q
    split at h
    · rename_i e
      cases h
      obtain ⟨a, b, c⟩ := q
      cases e
      exact ⟨_, _, rfl, rfl⟩
    · cases h
  · cases h
theorem mj_wS_eq {S : mj_S} {pc : Nat} {st' : List Value} {M' : mj_M} (hw : mj_wS S) (e : M'.1 = S.2.2.2.1) (hM : mj_wM M') (hs : ∀ v ∈ st', mj_wv S.2.2.2.1.length v) : mj_ext S.2.2.2 M' ∧ mj_wS (pc, S.2.1, st', M') :=
  ⟨mj_ext_eq e, fun q hq => by show mj_wv M'.1.length q.2; rw [e]; exact hw.1 q hq, fun v hv => by show mj_wv M'.1.length v; rw [e]; exact hs v hv, hM⟩
theorem mj_wS_ext {S : mj_S} {pc : Nat} {st' : List Value} {M' : mj_M} (hw : mj_wS S) (e : mj_ext S.2.2.2 M') (hM : mj_wM M') (hs : ∀ v ∈ st', mj_wv M'.1.length v) : mj_ext S.2.2.2 M' ∧ mj_wS (pc, S.2.1, st', M') :=
  ⟨e, fun q hq => mj_wv_mono (hw.1 q hq) (mj_ext_len e), hs, hM⟩
theorem mj_one_w {P : mj_P} {b : Bool} {j nL k : Nat} {i : Instr} {S S' : mj_S} (h : mj_one P b j nL i k S = some S') (hw : mj_wS S) : mj_ext S.2.2.2 S'.2.2.2 ∧ mj_wS S' := by
  unfold mj_one at h
  rcases mj_or_inv h with h | h
  · unfold mj_one0 at h
    rcases mj_or_inv h with h | h
    · obtain ⟨lv', st', g, rfl⟩ := mj_lfL_inv h
      have := mj_loc_w mj_wv_int mj_wv_long g hw.1 hw.2.1
      exact ⟨mj_ext_rf, this.1, this.2, hw.2.2⟩
    rcases mj_or_inv h with h | h
    · obtain ⟨st', g, rfl⟩ := mj_lf_inv h
      exact ⟨mj_ext_rf, hw.1, mj_hr_w g hw.2.2 hw.2.1, hw.2.2⟩
    rcases mj_or_inv h with h | h
    · obtain ⟨st', g, rfl⟩ := mj_lf_inv h
      exact ⟨mj_ext_rf, hw.1, mj_op_w mj_wv_int mj_wv_long g hw.2.1, hw.2.2⟩
    rcases mj_or_inv h with h | h
    · obtain ⟨pc', st', g, rfl⟩ := mj_lfB_inv h
      exact ⟨mj_ext_rf, hw.1, mj_br_w g hw.2.1, hw.2.2⟩
    rcases mj_or_inv h with h | h
    · obtain ⟨st', M', g, rfl⟩ := mj_lfW_inv h
      obtain ⟨e, hM, hs⟩ := mj_hw_w g hw.2.2 hw.2.1
      exact mj_wS_eq hw e hM hs
    rcases mj_or_inv h with h | h
    · obtain ⟨st', g, rfl⟩ := mj_lf_inv h
      exact ⟨mj_ext_rf, hw.1, mj_ldc_w mj_wv_int mj_wv_long g hw.2.1, hw.2.2⟩
    · obtain ⟨st', g, rfl⟩ := mj_lf_inv h
      exact ⟨mj_ext_rf, hw.1, mj_xr_w g hw.2.1, hw.2.2⟩
  · cases b with
    | false => cases h
    | true =>
      dsimp only [cond_true] at h
      unfold mj_one1 at h
      rcases mj_or_inv h with h | h
      · obtain ⟨st', M', g, rfl⟩ := mj_lfW_inv h
        obtain ⟨e, hM, hs⟩ := mj_al_w g hw.2.2 hw.2.1
        exact mj_wS_ext hw e hM hs
      rcases mj_or_inv h with h | h
      · obtain ⟨st', M', g, rfl⟩ := mj_lfW_inv h
        obtain ⟨e, hM, hs⟩ := mj_pz_w g hw.2.2 hw.2.1
        exact mj_wS_eq hw e hM hs
      rcases mj_or_inv h with h | h
      · obtain ⟨st', M', g, rfl⟩ := mj_lfW_inv h
        obtain ⟨e, hM, hs⟩ := mj_cp_w g hw.2.2 hw.2.1
        exact mj_wS_eq hw e hM hs
      rcases mj_or_inv h with h | h
      · obtain ⟨st', g, rfl⟩ := mj_lf_inv h
        exact ⟨mj_ext_rf, hw.1, mj_oi_w g hw.2.1, hw.2.2⟩
      · obtain ⟨st', M', g, rfl⟩ := mj_lfW_inv h
        obtain ⟨e, hM, hs⟩ := mj_ma_w g hw.2.2 hw.2.1
        exact mj_wS_ext hw e hM hs
theorem mj_cv_inv {P : mj_P} {j ix k : Nat} {S : mj_S} {j' : Nat} {vs rest : List Value} (h : mj_cv P j ix k S = some (j', vs, rest)) : ∃ n ci o As, mj_pG P j ix = some (j', n, some ci) ∧ k = 3 ∧ As.length = n ∧ ((ci < 100 ∧ ∃ nn, S.2.2.2.1[o]? = some (ci, nn)) ∨ (ci = 200 ∧ ∃ q, mj_sb (mj_pX P) 0 o = some q)) ∧ mj_sum rest ≤ 8 ∧ vs = .ref o :: As ∧ S.2.2.1 = As.reverse ++ .ref o :: rest := by
  unfold mj_cv at h
  split at h
  · rename_i j2 n ci hG
    split at h
    · rename_i o r hd
      split at h
      · rename_i hc
        cases h
        rcases hc with ⟨h1, h2, h3, h4, h5⟩ | ⟨h1, h2, h3, h4, h5⟩
        · obtain ⟨nn, hnn⟩ := Option.isSome_iff_exists.mp h4
          refine ⟨n, ci, o, (S.2.2.1.take n).reverse, hG, h1, by rw [List.length_reverse]; exact h2, Or.inl ⟨h3, nn, mj_len_at hnn⟩, h5, rfl, ?_⟩
          rw [List.reverse_reverse, ← hd, List.take_append_drop]
        · refine ⟨n, ci, o, (S.2.2.1.take n).reverse, hG, h1, by rw [List.length_reverse]; exact h2, Or.inr ⟨h3, Option.isSome_iff_exists.mp h4⟩, h5, rfl, ?_⟩
          rw [List.reverse_reverse, ← hd, List.take_append_drop]
      · cases h
    · cases h
  · cases h
theorem mj_cs_inv {P : mj_P} {j ix k : Nat} {S : mj_S} {j' : Nat} {vs rest : List Value} (h : mj_cs P j ix k S = some (j', vs, rest)) : ∃ n, mj_pG P j ix = some (j', n, none) ∧ k = 3 ∧ vs.length = n ∧ mj_sum rest ≤ 8 ∧ S.2.2.1 = vs.reverse ++ rest := by
  unfold mj_cs at h
  split at h
  · rename_i j2 n hG
    split at h
    · rename_i hc
      obtain ⟨h1, h2, h5⟩ := hc
      cases h
      refine ⟨n, hG, h1, by rw [List.length_reverse]; exact h2, h5, ?_⟩
      rw [List.reverse_reverse, List.take_append_drop]
    · cases h
  · cases h
theorem mj_ci_inv {P : mj_P} {j ix k : Nat} {S : mj_S} {j' : Nat} {vs rest : List Value} (h : mj_ci P j ix k S = some (j', vs, rest)) : ∃ n o As, mj_pI P j ix = some (some (j', n)) ∧ k = 3 ∧ As.length = n ∧ mj_sum rest ≤ 8 ∧ vs = .ref o :: As ∧ S.2.2.1 = As.reverse ++ .ref o :: rest := by
  unfold mj_ci at h
  split at h
  · rename_i j2 n hG
    split at h
    · rename_i o r hd
      split at h
      · rename_i hc
        obtain ⟨h1, h2, h5⟩ := hc
        cases h
        refine ⟨n, o, (S.2.2.1.take n).reverse, hG, h1, by rw [List.length_reverse]; exact h2, h5, rfl, ?_⟩
        rw [List.reverse_reverse, ← hd, List.take_append_drop]
      · cases h
    · cases h
  · cases h
theorem mj_call_w {Pv : Value → Prop} {P : mj_P} {j k j' : Nat} {i : Instr} {S : mj_S} {vs rest : List Value} (h : mj_call P j i k S = some (j', vs, rest)) (hs : ∀ v ∈ S.2.2.1, Pv v) : (∀ v ∈ vs, Pv v) ∧ ∀ v ∈ rest, Pv v := by
  unfold mj_call at h
  split at h
  · obtain ⟨n, ci, o, As, -, -, -, -, -, rfl, e⟩ := mj_cv_inv h
    rw [e] at hs
    exact ⟨mj_all2 (hs _ (by simp)) (fun v hv => hs v (by simp [hv])), fun v hv => hs v (by simp [hv])⟩
  · obtain ⟨n, -, -, -, -, e⟩ := mj_cs_inv h
    rw [e] at hs
    exact ⟨fun v hv => hs v (by simp [hv]), fun v hv => hs v (by simp [hv])⟩
  · obtain ⟨n, o, As, -, -, -, -, rfl, e⟩ := mj_ci_inv h
    rw [e] at hs
    exact ⟨mj_all2 (hs _ (by simp)) (fun v hv => hs v (by simp [hv])), fun v hv => hs v (by simp [hv])⟩
  · cases h
theorem mj_args_mem : ∀ (vs : List Value) (i : Nat), ∀ q ∈ lv_args i vs, q.2 ∈ vs := by
  intro vs
  induction vs with
  | nil => intro i q h; cases h
  | cons v r ih =>
    intro i q h
    rcases List.mem_cons.mp h with rfl | h
    · exact List.mem_cons_self
    · exact List.mem_cons_of_mem _ (ih _ q h)
theorem mj_ret_w {ret : Option FieldType} {i : Instr} {k L : Nat} {st : List Value} {r : Option Value} (h : mj_rt ret i k st = some r) : ∀ v, r = some v → mj_wv L v := by
  obtain ⟨-, h⟩ := mj_rt_inv h
  unfold mj_ret at h
  intro v hv
  subst hv
  split at h
  · split at h
    · split at h <;> cases h
    · cases h
  · split at h
    · split at h
      · cases h; exact mj_wv_int _
      · cases h
    · cases h
  · split at h
    · split at h
      · cases h; exact mj_wv_long _
      · cases h
    · cases h
  · cases h
/-- what a run keeps -/
def mj_Kp (Rel : Nat → List Value → mj_M → Option Value → mj_M → Prop) : Prop := ∀ j vs M r M', Rel j vs M r M' → (∀ v ∈ vs, mj_wv M.1.length v) → mj_wM M → mj_ext M M' ∧ mj_wM M' ∧ ∀ v, r = some v → mj_wv M'.1.length v
theorem mj_step_w {P : mj_P} {Rel : Nat → List Value → mj_M → Option Value → mj_M → Prop} (hR : mj_Kp Rel) {b : Bool} {j : Nat} {Y : mj_Y} {S S' : mj_S} (h : mj_step P Rel b j Y S S') (hw : mj_wS S) : mj_ext S.2.2.2 S'.2.2.2 ∧ mj_wS S' := by
  obtain ⟨i, k, -, h | ⟨j', vs, rest, v, M', h1, h2, rfl⟩⟩ := h
  · exact mj_one_w h hw
  · obtain ⟨g1, g2⟩ := mj_call_w h1 hw.2.1
    obtain ⟨e1, e2, e3⟩ := hR _ _ _ _ _ h2 g1 hw.2.2
    refine mj_wS_ext hw e1 e2 (fun w hv => ?_)
    rcases List.mem_append.mp hv with hv | hv
    · exact e3 w (by cases v with
        | none => cases hv
        | some z => rw [List.mem_singleton.mp hv])
    · exact mj_wv_mono (g2 w hv) (mj_ext_len e1)
theorem mj_steps_w {P : mj_P} {Rel : Nat → List Value → mj_M → Option Value → mj_M → Prop} (hR : mj_Kp Rel) {b : Bool} {j : Nat} {Y : mj_Y} : ∀ (n : Nat) {S S' : mj_S}, mj_steps P Rel b j Y n S S' → mj_wS S → mj_ext S.2.2.2 S'.2.2.2 ∧ mj_wS S' := by
  intro n
  induction n with
  | zero => intro S S' h hw; cases h; exact ⟨mj_ext_rf, hw⟩
  | succ n ih =>
    intro S S' h hw
    obtain ⟨S1, h1, h2⟩ := h
    obtain ⟨e1, w1⟩ := mj_step_w hR h1 hw
    obtain ⟨e2, w2⟩ := ih h2 w1
    exact ⟨mj_ext_tr e1 e2, w2⟩
theorem mj_Rb_w {P : mj_P} {Rel : Nat → List Value → mj_M → Option Value → mj_M → Prop} (hR : mj_Kp Rel) {b : Bool} : mj_Kp (mj_Rb P Rel b) := by
  intro j vs M r M' h hv hM
  obtain ⟨Y, -, -, n, S', i, k, h1, -, h2, rfl⟩ := h
  obtain ⟨e, w⟩ := mj_steps_w hR n h1 ⟨fun q hq => hv _ (mj_args_mem vs 0 q hq), (fun v h => by cases h), hM⟩
  exact ⟨e, w.2.2, mj_ret_w h2⟩
theorem mj_R_w {P : mj_P} : ∀ d, mj_Kp (mj_R P d) := by
  intro d
  induction d with
  | zero => exact mj_Rb_w (fun _ _ _ _ _ h => h.elim)
  | succ d ih => exact mj_Rb_w ih

/-! CONSTRUCTORS, 8: the same run, with the rest of the instructions at hand -/
section CF
abbrev cn_C : Type := List (Nat × Instr × Nat)
noncomputable def cn_srt (C : cn_C) : Nat → Bool := List.rec (motive := fun _ => Nat → Bool) (fun _ => true) (fun q _ ih b => bif Nat.ble b q.1 then ih (q.1 + 1) else false) C
noncomputable def cn_fd (C : cn_C) : Nat → cn_C := List.rec (motive := fun _ => Nat → cn_C) (fun _ => []) (fun q r ih pc => bif Nat.beq q.1 pc then q :: r else ih pc) C
noncomputable def cn_to (C rest : cn_C) (pc : Nat) : cn_C := match rest with
  | [] => cn_fd C pc
  | q :: r => bif Nat.beq q.1 pc then q :: r else bif Nat.ble q.1 pc then cn_fd r pc else cn_fd C pc
theorem cn_srt_c {q : Nat × Instr × Nat} {r : cn_C} {b : Nat} (h : cn_srt (q :: r) b = true) : b ≤ q.1 ∧ cn_srt r (q.1 + 1) = true := by
  have h : (bif Nat.ble b q.1 then cn_srt r (q.1 + 1) else false) = true := h
  cases e : Nat.ble b q.1 with
  | false => rw [e] at h; cases h
  | true => rw [e] at h; exact ⟨Nat.le_of_ble_eq_true e, h⟩
theorem cn_srt_ge : ∀ (pre : cn_C) {q : Nat × Instr × Nat} {r : cn_C} {b : Nat}, cn_srt (pre ++ q :: r) b = true → b ≤ q.1 := by
  intro pre
  induction pre with
  | nil => intro q r b h; exact (cn_srt_c h).1
  | cons a pre ih =>
    intro q r b h
    obtain ⟨h1, h2⟩ := cn_srt_c h
    have := ih h2
    omega
theorem cn_lk : ∀ (pre : cn_C) {q : Nat × Instr × Nat} {r : cn_C} {b : Nat}, cn_srt (pre ++ q :: r) b = true → mj_lk (pre ++ q :: r) q.1 = some q.2 := by
  intro pre
  induction pre with
  | nil =>
    intro q r b h
    show (bif q.1 == q.1 then some q.2 else mj_lk r q.1) = some q.2
    rw [beq_self_eq_true]
    rfl
  | cons a pre ih =>
    intro q r b h
    obtain ⟨h1, h2⟩ := cn_srt_c h
    have h3 := cn_srt_ge pre h2
    show (bif a.1 == q.1 then some a.2 else mj_lk (pre ++ q :: r) q.1) = some q.2
    have e : (a.1 == q.1) = false := beq_eq_false_iff_ne.mpr (by omega)
    rw [e]
    exact ih h2
theorem cn_fd_ok : ∀ (C : cn_C) (pc : Nat) {q : Nat × Instr × Nat} {r : cn_C}, cn_fd C pc = q :: r → q.1 = pc ∧ ∃ pre, C = pre ++ q :: r := by
  intro C
  induction C with
  | nil => intro pc q r h; cases h
  | cons a C ih =>
    intro pc q r h
    have h : (bif Nat.beq a.1 pc then a :: C else cn_fd C pc) = q :: r := h
    cases e : Nat.beq a.1 pc with
    | true =>
      rw [e] at h
      cases h
      exact ⟨Nat.eq_of_beq_eq_true e, [], rfl⟩
    | false =>
      rw [e] at h
      obtain ⟨h1, pre, h2⟩ := ih pc h
      exact ⟨h1, a :: pre, by rw [h2]; rfl⟩
theorem cn_to_ok {C rest : cn_C} {pc : Nat} {q : Nat × Instr × Nat} {r : cn_C} (hr : ∃ pre, C = pre ++ rest) (h : cn_to C rest pc = q :: r) : q.1 = pc ∧ ∃ pre, C = pre ++ q :: r := by
  unfold cn_to at h
  split at h
  · exact cn_fd_ok C pc h
  · rename_i a s
    obtain ⟨pre, hp⟩ := hr
    cases e : Nat.beq a.1 pc with
    | true =>
      rw [e] at h
      cases h
      exact ⟨Nat.eq_of_beq_eq_true e, pre, hp⟩
    | false =>
      rw [e] at h
      cases e2 : Nat.ble a.1 pc with
      | true =>
        rw [e2] at h
        obtain ⟨h1, pre2, h2⟩ := cn_fd_ok s pc h
        exact ⟨h1, pre ++ a :: pre2, by rw [hp, h2, List.append_assoc]; rfl⟩
      | false =>
        rw [e2] at h
        exact cn_fd_ok C pc h
noncomputable def cn_r2 (call : Nat → List Value → cn_T → Option (Option Value × cn_T)) (j : Nat) (Y : mj_Y) : Nat → cn_C → Nat → List (Nat × Value) → List Value → cn_T → Option (Option Value × cn_T)
  | 0, _, _, _, _, _ => none
  | n + 1, rest, pc, lv, st, T => match cn_to Y.2.2.2.2 rest pc with
    | [] => none
    | q :: r => (match mj_rt Y.2.2.2.1 q.2.1 q.2.2 st with
      | some v => some (v, T)
      | none => (match mj_one ic_P true j Y.2.2.1 q.2.1 q.2.2 (pc, lv, st, cn_A T) with
        | some S' => (match cn_ef j q.2.1 st T with
          | some T' => cn_r2 call j Y n r S'.1 S'.2.1 S'.2.2.1 T'
          | none => none)
        | none => (match mj_call ic_P j q.2.1 q.2.2 (pc, lv, st, cn_A T) with
          | some (j', vs, rest') => (match call j' vs T with
            | some (v, T') => cn_r2 call j Y n r (pc + 3) lv (v.toList ++ rest') T'
            | none => none)
          | none => none)))
noncomputable def cn_m2 : Nat → Nat → List Value → cn_T → Option (Option Value × cn_T)
  | 0, _, _, _ => none
  | d + 1, j, vs, T => match mj_pY ic_P j with
    | some Y => bif cn_srt Y.2.2.2.2 0 then (if mj_sum vs ≤ Y.2.2.1 then cn_r2 (cn_m2 d) j Y 3000 Y.2.2.2.2 0 (lv_args 0 vs) [] T else none) else none
    | none => none
theorem cn_r2_ok {call : Nat → List Value → cn_T → Option (Option Value × cn_T)} {Rel : Nat → List Value → mj_M → Option Value → mj_M → Prop} (hc : ∀ j vs T r T', call j vs T = some (r, T') → Rel j vs (cn_A T) r (cn_A T')) {j : Nat} {Y : mj_Y} (hs : cn_srt Y.2.2.2.2 0 = true) : ∀ (n : Nat) {rest : cn_C} {pc : Nat} {lv : List (Nat × Value)} {st : List Value} {T T' : cn_T} {r : Option Value}, (∃ pre, Y.2.2.2.2 = pre ++ rest) → cn_r2 call j Y n rest pc lv st T = some (r, T') → mj_wp ic_P Rel true j Y (pc, lv, st, cn_A T) (fun r9 M9 => r9 = r ∧ M9 = cn_A T') := by
  intro n
  induction n with
  | zero => intro rest pc lv st T T' r _ h; cases h
  | succ n ih =>
    intro rest pc lv st T T' r hr h
    unfold cn_r2 at h
    split at h
    · cases h
    · rename_i q r1 ht
      obtain ⟨h1, pre, h2⟩ := cn_to_ok hr ht
      have hl : mj_lk Y.2.2.2.2 pc = some (q.2.1, q.2.2) := by
        rw [h2, ← h1]
        exact cn_lk pre (by rw [← h2]; exact hs)
      have hr1 : ∃ pre, Y.2.2.2.2 = pre ++ r1 := ⟨pre ++ [q], by rw [h2, List.append_assoc]; rfl⟩
      split at h
      · rename_i r9 hr9
        cases h
        exact mj_wp_ret hl hr9 ⟨rfl, rfl⟩
      · split at h
        · rename_i S1 h3
          split at h
          · rename_i T1 hT
            have e : S1 = (S1.1, S1.2.1, S1.2.2.1, cn_A T1) := Prod.ext rfl (Prod.ext rfl (Prod.ext rfl (cn_ef_ok h3 hT)))
            rw [e] at h3
            exact mj_wp_one hl h3 (ih hr1 h)
          · cases h
        · split at h
          · rename_i j' vs rest' h4
            split at h
            · rename_i v T9 h5
              exact mj_wp_call hl h4 (hc _ _ _ _ _ h5) (ih hr1 h)
            · cases h
          · cases h
theorem cn_m2_ok : ∀ (d : Nat) {j : Nat} {vs : List Value} {T T' : cn_T} {r : Option Value}, cn_m2 d j vs T = some (r, T') → mj_R ic_P d j vs (cn_A T) r (cn_A T') := by
  intro d
  induction d with
  | zero => intro j vs T T' r h; cases h
  | succ d ih =>
    intro j vs T T' r h
    unfold cn_m2 at h
    split at h
    · rename_i Y hY
      cases hs : cn_srt Y.2.2.2.2 0 with
      | false => rw [hs] at h; cases h
      | true =>
        rw [hs] at h
        dsimp only [cond_true] at h
        split at h
        · rename_i hv
          exact mj_wp_Rb hY hv (cn_r2_ok (Rel := mj_R ic_P d) (fun j9 vs9 T9 r9 N9 g => ih g) hs _ ⟨[], rfl⟩ h)
        · cases h
    · cases h
end CF

/-! BLOCKS: straight stretches of code, run at once; what a method comes to (mj_wp) -/
def mj_bl (P : mj_P) (j nL : Nat) : List (Nat × Instr × Nat) → mj_S → Option mj_S
  | [], S => some S
  | q :: r, S => bif S.1 == q.1 then (match mj_one0 P j nL q.2.1 q.2.2 S with
    | some S' => mj_bl P j nL r S'
    | none => none) else none
theorem mj_bl_steps {P : mj_P} {Rel : Nat → List Value → mj_M → Option Value → mj_M → Prop} {b : Bool} {j : Nat} {Y : mj_Y} : ∀ (l : List (Nat × Instr × Nat)) {S S' : mj_S}, (∀ q ∈ l, mj_lk Y.2.2.2.2 q.1 = some q.2) → mj_bl P j Y.2.2.1 l S = some S' → mj_steps P Rel b j Y l.length S S' := by
  intro l
  induction l with
  | nil => intro S S' _ h; cases h; rfl
  | cons q r ih =>
    intro S S' hl h
    unfold mj_bl at h
    cases e : (S.1 == q.1) with
    | false => rw [e] at h; cases h
    | true =>
      rw [e] at h
      dsimp only [cond_true] at h
      split at h
      · rename_i S1 h1
        refine ⟨S1, ⟨q.2.1, q.2.2, ?_, Or.inl ?_⟩, ih (fun z hz => hl z (List.mem_cons_of_mem _ hz)) h⟩
        · rw [show S.1 = q.1 from eq_of_beq e]
          exact hl q List.mem_cons_self
        · unfold mj_one
          rw [h1]
          rfl
      · cases h
theorem mj_steps_app {P : mj_P} {Rel : Nat → List Value → mj_M → Option Value → mj_M → Prop} {b : Bool} {j : Nat} {Y : mj_Y} : ∀ (n : Nat) {m : Nat} {S S1 S' : mj_S}, mj_steps P Rel b j Y n S S1 → mj_steps P Rel b j Y m S1 S' → mj_steps P Rel b j Y (n + m) S S' := by
  intro n
  induction n with
  | zero => intro m S S1 S' h1 h2; cases h1; rw [Nat.zero_add]; exact h2
  | succ n ih =>
    intro m S S1 S' h1 h2
    obtain ⟨Z, g1, g2⟩ := h1
    rw [Nat.succ_add]
    exact ⟨Z, g1, ih g2 h2⟩
/-- from S on the method comes to an end, with Q of its answer and its memory -/
def mj_wp (P : mj_P) (Rel : Nat → List Value → mj_M → Option Value → mj_M → Prop) (b : Bool) (j : Nat) (Y : mj_Y) (S : mj_S) (Q : Option Value → mj_M → Prop) : Prop := ∃ n S' i k r, mj_steps P Rel b j Y n S S' ∧ mj_lk Y.2.2.2.2 S'.1 = some (i, k) ∧ mj_rt Y.2.2.2.1 i k S'.2.2.1 = some r ∧ Q r S'.2.2.2
section WPR
variable {P : mj_P} {Rel : Nat → List Value → mj_M → Option Value → mj_M → Prop} {b : Bool} {j : Nat} {Y : mj_Y} {Q : Option Value → mj_M → Prop}
theorem mj_wp_mono {S : mj_S} {Q' : Option Value → mj_M → Prop} (h : mj_wp P Rel b j Y S Q') (hq : ∀ r M, Q' r M → Q r M) : mj_wp P Rel b j Y S Q := by
  obtain ⟨n, S', i, k, r, h1, h2, h3, h4⟩ := h
  exact ⟨n, S', i, k, r, h1, h2, h3, hq _ _ h4⟩
theorem mj_wp_steps {n : Nat} {S S1 : mj_S} (h : mj_steps P Rel b j Y n S S1) (k : mj_wp P Rel b j Y S1 Q) : mj_wp P Rel b j Y S Q := by
  obtain ⟨m, S', i, k9, r, h1, h2, h3, h4⟩ := k
  exact ⟨n + m, S', i, k9, r, mj_steps_app n h h1, h2, h3, h4⟩
/-- a stretch: n instructions from the a-th on -/
theorem mj_wp_go {t : List (Nat × Instr × Nat)} (ht : Y.2.2.2.2 = t) (hl : ∀ q ∈ t, mj_lk t q.1 = some q.2) (a n : Nat) {S S' : mj_S} (h : mj_bl P j Y.2.2.1 ((t.drop a).take n) S = some S') (k : mj_wp P Rel b j Y S' Q) : mj_wp P Rel b j Y S Q := by
  refine mj_wp_steps (mj_bl_steps ((t.drop a).take n) (fun q hq => ?_) h) k
  rw [ht]
  exact hl q (List.mem_of_mem_drop (List.mem_of_mem_take hq))
theorem mj_wp_ret {S : mj_S} {i : Instr} {k : Nat} {r : Option Value} (h1 : mj_lk Y.2.2.2.2 S.1 = some (i, k)) (h2 : mj_rt Y.2.2.2.1 i k S.2.2.1 = some r) (h3 : Q r S.2.2.2) : mj_wp P Rel b j Y S Q := ⟨0, S, i, k, r, rfl, h1, h2, h3⟩
theorem mj_wp_if {c : Bool} {x y : Nat} {lv : List (Nat × Value)} {st : List Value} {M : mj_M} (h1 : c = true → mj_wp P Rel b j Y (x, lv, st, M) Q) (h2 : c = false → mj_wp P Rel b j Y (y, lv, st, M) Q) : mj_wp P Rel b j Y (bif c then x else y, lv, st, M) Q := by
  cases c with
  | true => exact h1 rfl
  | false => exact h2 rfl
/-- one instruction that asks something -/
theorem mj_wp_one {S S' : mj_S} {i : Instr} {k : Nat} (h1 : mj_lk Y.2.2.2.2 S.1 = some (i, k)) (h2 : mj_one P b j Y.2.2.1 i k S = some S') (k9 : mj_wp P Rel b j Y S' Q) : mj_wp P Rel b j Y S Q := mj_wp_steps (n := 1) ⟨S', ⟨i, k, h1, Or.inl h2⟩, rfl⟩ k9
theorem mj_wp_call {S : mj_S} {i : Instr} {k j' : Nat} {vs rest : List Value} {v : Option Value} {M' : mj_M} (h1 : mj_lk Y.2.2.2.2 S.1 = some (i, k)) (h2 : mj_call P j i k S = some (j', vs, rest)) (h3 : Rel j' vs S.2.2.2 v M') (k9 : mj_wp P Rel b j Y (S.1 + 3, S.2.1, v.toList ++ rest, M') Q) : mj_wp P Rel b j Y S Q := mj_wp_steps (n := 1) ⟨_, ⟨i, k, h1, Or.inr ⟨j', vs, rest, v, M', h2, h3, rfl⟩⟩, rfl⟩ k9
theorem mj_wp_Rb {vs : List Value} {M M' : mj_M} {r : Option Value} (hY : mj_pY P j = some Y) (hs : mj_sum vs ≤ Y.2.2.1) (h : mj_wp P Rel b j Y (0, lv_args 0 vs, [], M) (fun r9 M9 => r9 = r ∧ M9 = M')) : mj_Rb P Rel b j vs M r M' := by
  obtain ⟨n, S', i, k, r9, h1, h2, h3, rfl, rfl⟩ := h
  exact ⟨Y, hY, hs, n, S', i, k, h1, h2, h3, rfl⟩
end WPR
-- more room, more calls: the same run
theorem mj_one_b {P : mj_P} {b : Bool} {j nL k : Nat} {i : Instr} {S S' : mj_S} (h : mj_one P b j nL i k S = some S') : mj_one P true j nL i k S = some S' := by
  cases b with
  | true => exact h
  | false =>
    unfold mj_one at h ⊢
    rcases mj_or_inv h with h | h
    · rw [h]; rfl
    · cases h
theorem mj_steps_mono {P : mj_P} {Rel Rel' : Nat → List Value → mj_M → Option Value → mj_M → Prop} (hR : ∀ j vs M r M', Rel j vs M r M' → Rel' j vs M r M') {b : Bool} {j : Nat} {Y : mj_Y} : ∀ (n : Nat) {S S' : mj_S}, mj_steps P Rel b j Y n S S' → mj_steps P Rel' true j Y n S S' := by
  intro n
  induction n with
  | zero => intro S S' h; exact h
  | succ n ih =>
    intro S S' h
    obtain ⟨S1, ⟨i, k, h1, h2⟩, h3⟩ := h
    refine ⟨S1, ⟨i, k, h1, ?_⟩, ih h3⟩
    rcases h2 with h2 | ⟨j', vs, rest, v, M', g1, g2, g3⟩
    · exact Or.inl (mj_one_b h2)
    · exact Or.inr ⟨j', vs, rest, v, M', g1, hR _ _ _ _ _ g2, g3⟩
theorem mj_R_succ {P : mj_P} : ∀ (d : Nat) (j : Nat) (vs : List Value) (M : mj_M) (r : Option Value) (M' : mj_M), mj_R P d j vs M r M' → mj_R P (d + 1) j vs M r M' := by
  intro d
  induction d with
  | zero =>
    intro j vs M r M' h
    obtain ⟨Y, hY, hs, n, S', i, k, h1, h2, h3, h4⟩ := h
    exact ⟨Y, hY, hs, n, S', i, k, mj_steps_mono (fun _ _ _ _ _ h => h.elim) n h1, h2, h3, h4⟩
  | succ d ih =>
    intro j vs M r M' h
    obtain ⟨Y, hY, hs, n, S', i, k, h1, h2, h3, h4⟩ := h
    exact ⟨Y, hY, hs, n, S', i, k, mj_steps_mono ih n h1, h2, h3, h4⟩
theorem mj_R_le {P : mj_P} {d d' : Nat} (h : d ≤ d') {j : Nat} {vs : List Value} {M M' : mj_M} {r : Option Value} (hr : mj_R P d j vs M r M') : mj_R P d' j vs M r M' := by
  induction h with
  | refl => exact hr
  | step _ ih => exact mj_R_succ _ _ _ _ _ _ ih

/-! THE SMALL MACHINE, 5: a method's run -/
abbrev mj_S : Type := Nat × List (Nat × Value) × List Value × mj_M
/-- a method: its name, its bytes, how many locals, what it returns, its instructions -/
abbrev mj_Y : Type := MethodName × ByteArray × Nat × Option FieldType × List (Nat × Instr × Nat)
/-- a program: methods by number; of a method its table of fields, of calls (the callee's number, how many arguments, the receiver's class; none: a static one), of ints, of longs -/
abbrev mj_P : Type := (Nat → Option mj_Y) × (Nat → mj_FL) × (Nat → Nat → Option (Nat × Nat × Option Nat)) × (Nat → Nat → Option Int32) × (Nat → Nat → Option Int64)
def mj_lk : List (Nat × Instr × Nat) → Nat → Option (Instr × Nat)
  | [], _ => none
  | q :: r, pc => bif q.1 == pc then some q.2 else mj_lk r pc
def mj_ret (ret : Option FieldType) (i : Instr) (st : List Value) : Option (Option Value) := match i with
  | .return_ => match st with
    | [] => if ret = none then some none else none
    | _ => none
  | .ireturn => match st with
    | [.int x] => if ret = some .int ∨ (ret = some .boolean ∧ (x = 0 ∨ x = 1)) then some (some (.int x)) else none
    | _ => none
  | .lreturn => match st with
    | [.long x] => if ret = some .long then some (some (.long x)) else none
    | _ => none
  | _ => none
def mj_rt (ret : Option FieldType) (i : Instr) (k : Nat) (st : List Value) : Option (Option Value) := if k = 1 then mj_ret ret i st else none
theorem mj_rt_inv {ret : Option FieldType} {i : Instr} {k : Nat} {st : List Value} {v : Option Value} (h : mj_rt ret i k st = some v) : k = 1 ∧ mj_ret ret i st = some v := by
  unfold mj_rt at h
  split at h
  · exact ⟨by assumption, h⟩
  · cases h
def mj_ldc (P : mj_P) (j : Nat) (i : Instr) (st : List Value) : Option (Nat × List Value) := match i with
  | .ldc ix => (P.2.2.2.1 j ix).map (fun v => (2, .int v :: st))
  | .ldc_w ix => (P.2.2.2.1 j ix).map (fun v => (3, .int v :: st))
  | .ldc2_w ix => (P.2.2.2.2 j ix).map (fun v => (3, .long v :: st))
  | _ => none
def mj_lf (k pc : Nat) (lv : List (Nat × Value)) (M : mj_M) (a : Option (Nat × List Value)) : Option mj_S := match a with
  | some q => if q.1 = k then some (pc + k, lv, q.2, M) else none
  | none => none
def mj_lfL (k pc : Nat) (M : mj_M) (a : Option (Nat × List (Nat × Value) × List Value)) : Option mj_S := match a with
  | some q => if q.1 = k then some (pc + k, q.2.1, q.2.2, M) else none
  | none => none
def mj_lfB (lv : List (Nat × Value)) (M : mj_M) (a : Option (Nat × List Value)) : Option mj_S := match a with
  | some q => some (q.1, lv, q.2, M)
  | none => none
def mj_lfW (k pc : Nat) (lv : List (Nat × Value)) (a : Option (Nat × List Value × mj_M)) : Option mj_S := match a with
  | some q => if q.1 = k then some (pc + k, lv, q.2.1, q.2.2) else none
  | none => none
/-- one instruction that is no call and no end -/
def mj_one (P : mj_P) (j nL : Nat) (i : Instr) (k : Nat) (S : mj_S) : Option mj_S :=
  mj_or (mj_lf k S.1 S.2.1 S.2.2.2 (mj_op i S.2.2.1)) (mj_or (mj_lfL k S.1 S.2.2.2 (mj_loc i nL S.2.1 S.2.2.1)) (mj_or (mj_lf k S.1 S.2.1 S.2.2.2 (mj_hr (P.2.1 j) i S.2.2.2 S.2.2.1)) (mj_or (mj_lfB S.2.1 S.2.2.2 (mj_br i k S.1 S.2.2.1))
    (mj_or (mj_lfW k S.1 S.2.1 (mj_hw (P.2.1 j) i S.2.2.2 S.2.2.1)) (mj_lf k S.1 S.2.1 S.2.2.2 (mj_ldc P j i S.2.2.1))))))
def mj_sum (st : List Value) : Nat := (st.map fun v => v.category).sum
/-- a call: the callee, its arguments (the receiver first), what is left on the stack -/
def mj_cv (P : mj_P) (j ix k : Nat) (S : mj_S) : Option (Nat × List Value × List Value) := match P.2.2.1 j ix with
  | some (j', n, some ci) => match S.2.2.1.drop n with
    | .ref o :: rest => if k = 3 ∧ (S.2.2.1.take n).length = n ∧ ci < 100 ∧ (mj_len S.2.2.2 ci o).isSome = true ∧ mj_sum rest ≤ 8 then some (j', .ref o :: (S.2.2.1.take n).reverse, rest) else none
    | _ => none
  | _ => none
def mj_cs (P : mj_P) (j ix k : Nat) (S : mj_S) : Option (Nat × List Value × List Value) := match P.2.2.1 j ix with
  | some (j', n, none) => if k = 3 ∧ (S.2.2.1.take n).length = n ∧ mj_sum (S.2.2.1.drop n) ≤ 8 then some (j', (S.2.2.1.take n).reverse, S.2.2.1.drop n) else none
  | _ => none
def mj_call (P : mj_P) (j : Nat) (i : Instr) (k : Nat) (S : mj_S) : Option (Nat × List Value × List Value) := match i with
  | .invokevirtual ix => mj_cv P j ix k S
  | .invokestatic ix => mj_cs P j ix k S
  | _ => none
/-- a call whose arguments fit the callee's locals -/
def mj_cl (P : mj_P) (j : Nat) (i : Instr) (k : Nat) (S : mj_S) : Option (Nat × List Value × List Value) := match mj_call P j i k S with
  | some q => match P.1 q.1 with
    | some Y => if mj_sum q.2.1 ≤ Y.2.2.1 then some q else none
    | none => none
  | none => none
theorem mj_cl_inv {P : mj_P} {j k : Nat} {i : Instr} {S : mj_S} {q : Nat × List Value × List Value} (h : mj_cl P j i k S = some q) : mj_call P j i k S = some q ∧ ∃ Y, P.1 q.1 = some Y ∧ mj_sum q.2.1 ≤ Y.2.2.1 := by
  unfold mj_cl at h
  split at h
  · rename_i q1 h1
    split at h
    · rename_i Y hY
      split at h
      · rename_i hc
        cases h
        exact ⟨h1, Y, hY, hc⟩
      · cases h
    · cases h
  · cases h
/-- a run: n instructions at most, d calls open at most -/
def mj_run (P : mj_P) : Nat → Nat → Nat → mj_S → Option (Option Value × mj_M)
  | 0, _, _, _ => none
  | n + 1, d, j, S => match P.1 j with
    | none => none
    | some Y => match mj_lk Y.2.2.2.2 S.1 with
      | none => none
      | some q => match mj_rt Y.2.2.2.1 q.1 q.2 S.2.2.1 with
        | some v => some (v, S.2.2.2)
        | none => match mj_one P j Y.2.2.1 q.1 q.2 S with
          | some S' => mj_run P n d j S'
          | none => match mj_cl P j q.1 q.2 S with
            | none => none
            | some cq => match d with
              | 0 => none
              | d' + 1 => match mj_run P n d' cq.1 (0, lv_args 0 cq.2.1, [], S.2.2.2) with
                | none => none
                | some u => mj_run P n (d' + 1) j (S.1 + 3, S.2.1, u.1.toList ++ cq.2.2, u.2)
theorem mj_lf_inv {k pc : Nat} {lv : List (Nat × Value)} {M : mj_M} {a : Option (Nat × List Value)} {S' : mj_S} (h : mj_lf k pc lv M a = some S') : ∃ st', a = some (k, st') ∧ S' = (pc + k, lv, st', M) := by
  unfold mj_lf at h
  split at h
  · rename_i q
    split at h
    · rename_i e
      cases h
      obtain ⟨a, b⟩ := q
      cases e
      exact ⟨_, rfl, rfl⟩
    · cases h
  · cases h
theorem mj_lfL_inv {k pc : Nat} {M : mj_M} {a : Option (Nat × List (Nat × Value) × List Value)} {S' : mj_S} (h : mj_lfL k pc M a = some S') : ∃ lv' st', a = some (k, lv', st') ∧ S' = (pc + k, lv', st', M) := by
  unfold mj_lfL at h
  split at h
  · rename_i q
    split at h
    · rename_i e
      cases h
      obtain ⟨a, b, c⟩ := q
      cases e
      exact ⟨_, _, rfl, rfl⟩
    · cases h
  · cases h
theorem mj_lfB_inv {lv : List (Nat × Value)} {M : mj_M} {a : Option (Nat × List Value)} {S' : mj_S} (h : mj_lfB lv M a = some S') : ∃ pc' st', a = some (pc', st') ∧ S' = (pc', lv, st', M) := by
  unfold mj_lfB at h
  split at h
  · cases h
    exact ⟨_, _, rfl, rfl⟩
  · cases h
theorem mj_lfW_inv {k pc : Nat} {lv : List (Nat × Value)} {a : Option (Nat × List Value × mj_M)} {S' : mj_S} (h : mj_lfW k pc lv a = some S') : ∃ st' M', a = some (k, st', M') ∧ S' = (pc + k, lv, st', M') := by
  unfold mj_lfW at h
  split at h
  · rename_i q
    split at h
    · rename_i e
      cases h
      obtain ⟨a, b, c⟩ := q
      cases e
      exact ⟨_, _, rfl, rfl⟩
    · cases h
  · cases h
theorem mj_hw_sh {fl : mj_FL} {i : Instr} {k : Nat} {M M' : mj_M} {st st' : List Value} (h : mj_hw fl i M st = some (k, st', M')) : M'.1 = M.1 := by
  unfold mj_hw at h
  split at h
  · obtain ⟨ci, k, tc, o, n, v, r, hf, rfl, hM, hc, hk, hv, rfl, rfl⟩ := mj_put_inv h
    exact (mj_pv_ok hv id).1
  · obtain ⟨x, j, o, n, r, rfl, hM, hin, rfl, rfl, rfl⟩ := mj_asi_inv h
    rfl
  · obtain ⟨x, j, o, n, r, rfl, hM, hin, rfl, rfl, rfl⟩ := mj_asi_inv h
    rfl
  · obtain ⟨x, j, o, n, r, rfl, hM, hin, rfl, rfl, rfl⟩ := mj_asl_inv h
    rfl
  · cases h
theorem mj_one_sh {P : mj_P} {j nL k : Nat} {i : Instr} {S S' : mj_S} (h : mj_one P j nL i k S = some S') : S'.2.2.2.1 = S.2.2.2.1 := by
  unfold mj_one at h
  rcases mj_or_inv h with h | h
  · obtain ⟨st', -, rfl⟩ := mj_lf_inv h; rfl
  rcases mj_or_inv h with h | h
  · obtain ⟨lv', st', -, rfl⟩ := mj_lfL_inv h; rfl
  rcases mj_or_inv h with h | h
  · obtain ⟨st', -, rfl⟩ := mj_lf_inv h; rfl
  rcases mj_or_inv h with h | h
  · obtain ⟨pc', st', -, rfl⟩ := mj_lfB_inv h; rfl
  rcases mj_or_inv h with h | h
  · obtain ⟨st', M', h1, rfl⟩ := mj_lfW_inv h; exact mj_hw_sh h1
  · obtain ⟨st', -, rfl⟩ := mj_lf_inv h; rfl
/-- what a run does, by its first instruction -/
theorem mj_run_inv {P : mj_P} {n d j : Nat} {S : mj_S} {u : Option Value × mj_M} (h : mj_run P (n + 1) d j S = some u) : ∃ Y i k, P.1 j = some Y ∧ mj_lk Y.2.2.2.2 S.1 = some (i, k) ∧
    ((∃ v, mj_rt Y.2.2.2.1 i k S.2.2.1 = some v ∧ u = (v, S.2.2.2)) ∨ (∃ S', mj_one P j Y.2.2.1 i k S = some S' ∧ mj_run P n d j S' = some u) ∨
     (∃ j' vs rest d' v M', mj_cl P j i k S = some (j', vs, rest) ∧ d = d' + 1 ∧ mj_run P n d' j' (0, lv_args 0 vs, [], S.2.2.2) = some (v, M') ∧ mj_run P n d j (S.1 + 3, S.2.1, v.toList ++ rest, M') = some u)) := by
  unfold mj_run at h
  split at h
  · cases h
  · rename_i Y hY
    split at h
    · cases h
    · rename_i q hq
      refine ⟨Y, q.1, q.2, hY, hq, ?_⟩
      split at h
      · rename_i v hv
        cases h
        exact Or.inl ⟨v, hv, rfl⟩
      · split at h
        · rename_i S' hS
          exact Or.inr (Or.inl ⟨S', hS, h⟩)
        · split at h
          · cases h
          · rename_i cq hc
            split at h
            · cases h
            · rename_i d'
              split at h
              · cases h
              · rename_i w hw
                exact Or.inr (Or.inr ⟨cq.1, cq.2.1, cq.2.2, d', w.1, w.2, hc, rfl, hw, h⟩)
theorem mj_run_sh {P : mj_P} : ∀ {n d j : Nat} {S : mj_S} {u : Option Value × mj_M}, mj_run P n d j S = some u → u.2.1 = S.2.2.2.1 := by
  intro n
  induction n with
  | zero => intro d j S u h; cases h
  | succ n ih =>
    intro d j S u h
    obtain ⟨Y, i, k, -, -, h | ⟨S', h1, h2⟩ | ⟨j', vs, rest, d', v, M', h1, rfl, h2, h3⟩⟩ := mj_run_inv h
    · obtain ⟨v, -, rfl⟩ := h
      rfl
    · rw [ih h2, mj_one_sh h1]
    · rw [ih h3]
      exact ih h2

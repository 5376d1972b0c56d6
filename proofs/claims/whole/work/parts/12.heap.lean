/-! THE SMALL MACHINE, 3: the memory. A memory is a list of kinds (the id is the place: a class by its number in the table and how many fields, or an array 100 int, 101 long, 102 boolean, 103 int rows, 104 long rows, and its length), and three functions of id and place: ints (booleans too), longs, references -/
abbrev mj_M : Type := List (Nat × Nat) × (Nat → Nat → Int32) × (Nat → Nat → Int64) × (Nat → Nat → Option Nat)
def mj_tc (t : FieldType) : Nat := match t with
  | .long => 1
  | .object _ => 2
  | .array _ => 2
  | .boolean => 3
  | .int => 0
  | _ => 4
def mj_fv (ad : Nat → Nat) (M : mj_M) (o tc k : Nat) : Value := match tc with
  | 1 => .long (M.2.2.1 o k)
  | 2 => va_rf ((M.2.2.2 o k).map ad)
  | _ => .int (M.2.1 o k)
def mj_fi (M : mj_M) (o tc k : Nat) : Value := match tc with
  | 1 => .long (M.2.2.1 o k)
  | 2 => va_rf (M.2.2.2 o k)
  | _ => .int (M.2.1 o k)
theorem mj_rf_v (ad : Nat → Nat) (x : Option Nat) : mj_v ad (va_rf x) = va_rf (x.map ad) := by cases x <;> rfl
theorem mj_fi_v (ad : Nat → Nat) (M : mj_M) (o tc k : Nat) : mj_v ad (mj_fi M o tc k) = mj_fv ad M o tc k := by
  unfold mj_fi mj_fv
  split
  · rfl
  · exact mj_rf_v ad _
  · rfl
def mj_cell (cty : Nat → Nat → FieldType) (cy : Nat → ClassId) (ad : Nat → Nat) (M : mj_M) (o : Nat) (q : Nat × Nat) : va_E := match q.1 with
  | 100 => .inl (cy 0, q.2, .inl (M.2.1 o))
  | 101 => .inl (cy 1, q.2, .inr (.inl (M.2.2.1 o)))
  | 102 => .inl (cy 2, q.2, .inl (M.2.1 o))
  | 103 => .inl (cy 3, q.2, .inr (.inr (.inr (.inr (fun j => (M.2.2.2 o j).map ad)))))
  | 104 => .inl (cy 4, q.2, .inr (.inr (.inr (.inr (fun j => (M.2.2.2 o j).map ad)))))
  | ci => .inr (ci, (List.range q.2).map (fun k => mj_fv ad M o (mj_tc (cty ci k)) k))
def mj_tys (cy : Nat → ClassId) : List (ClassId × FieldType) := [(cy 0, .int), (cy 1, .long), (cy 2, .boolean), (cy 3, .array .int), (cy 4, .array .long)]
def mj_ws (cty : Nat → Nat → FieldType) (cy : Nat → ClassId) (ad : Nat → Nat) (M : mj_M) : va_W := (List.range M.1.length).map (fun o => (ad o, mj_cell cty cy ad M o (M.1.getD o (0, 0))))
theorem mj_ws_at {cty : Nat → Nat → FieldType} {cy : Nat → ClassId} {ad : Nat → Nat} {M : mj_M} {o : Nat} {q : Nat × Nat} (h : M.1[o]? = some q) : (mj_ws cty cy ad M)[o]? = some (ad o, mj_cell cty cy ad M o q) := by
  have hlt : o < M.1.length := (List.getElem?_eq_some_iff.mp h).1
  unfold mj_ws
  rw [List.getElem?_map, List.getElem?_range hlt]
  simp [List.getD, h]
theorem mj_ws_len {cty : Nat → Nat → FieldType} {cy : Nat → ClassId} {ad : Nat → Nat} {M : mj_M} : (mj_ws cty cy ad M).length = M.1.length := by
  unfold mj_ws
  rw [List.length_map, List.length_range]
theorem mj_ws_set {cty : Nat → Nat → FieldType} {cy : Nat → ClassId} {ad : Nat → Nat} {M M' : mj_M} {o : Nat} {q : Nat × Nat} {E : va_E} (hs : M'.1 = M.1) (h : M.1[o]? = some q) (hE : E = mj_cell cty cy ad M' o q) (hn : ∀ (b : Nat) (r : Nat × Nat), b ≠ o → mj_cell cty cy ad M' b r = mj_cell cty cy ad M b r) : (mj_ws cty cy ad M).set o (ad o, E) = mj_ws cty cy ad M' := by
  subst hE
  apply List.ext_getElem?
  intro b
  rw [List.getElem?_set]
  have hlt : o < M.1.length := (List.getElem?_eq_some_iff.mp h).1
  by_cases e : o = b
  · subst e
    rw [if_pos rfl, if_pos (by rw [mj_ws_len]; exact hlt)]
    exact (mj_ws_at (by rw [hs]; exact h)).symm
  · rw [if_neg e]
    cases hb : M.1[b]? with
    | none =>
      have h1 : M.1.length ≤ b := List.getElem?_eq_none_iff.mp hb
      rw [List.getElem?_eq_none (by rw [mj_ws_len]; exact h1), List.getElem?_eq_none (by rw [mj_ws_len, hs]; exact h1)]
    | some r =>
      rw [mj_ws_at hb, mj_ws_at (M := M') (by rw [hs]; exact hb), hn b r (fun q => e q.symm)]
/-- f, but x at o, k -/
def mj_u {α : Type} (f : Nat → Nat → α) (o k : Nat) (x : α) : Nat → Nat → α := fun a => if a = o then (fun b => if b = k then x else f o b) else f a
theorem mj_u_ne {α : Type} {f : Nat → Nat → α} {o k a : Nat} {x : α} (h : a ≠ o) : mj_u f o k x a = f a := if_neg h
theorem mj_u_at {α : Type} {f : Nat → Nat → α} {o k : Nat} {x : α} : mj_u f o k x o = fun b => if b = k then x else f o b := if_pos rfl
/-- a word of the constant table: the class by its number, the field's place, its type, whether it is final -/
abbrev mj_FL : Type := Nat → Option (Nat × Nat × Nat × Bool)
/-- how long the cell o is, if it is of that kind -/
def mj_len (M : mj_M) (kd o : Nat) : Option Nat := match M.1[o]? with
  | some q => if q.1 = kd then some q.2 else none
  | none => none
theorem mj_len_at {M : mj_M} {kd o n : Nat} (h : mj_len M kd o = some n) : M.1[o]? = some (kd, n) := by
  unfold mj_len at h
  split at h
  · rename_i q hq
    split at h
    · rename_i e
      cases h
      rw [hq, ← e]
    · cases h
  · cases h
def mj_get (fl : mj_FL) (ix : Nat) (M : mj_M) (st : List Value) : Option (Nat × List Value) := match fl ix, st with
  | some (ci, k, tc, _), .ref o :: r => match mj_len M ci o with
    | some n => if ci < 100 ∧ k < n then some (3, mj_fi M o tc k :: r) else none
    | none => none
  | _, _ => none
def mj_ald (kd : Nat) (rd : Nat → Nat → Value) (M : mj_M) (st : List Value) : Option (Nat × List Value) := match st with
  | .int j :: .ref o :: r => match mj_len M kd o with
    | some n => if j < 0 ∨ n ≤ j.toNatClampNeg then none else some (1, rd o j.toNatClampNeg :: r)
    | none => none
  | _ => none
def mj_aln (kd : Nat) (M : mj_M) (st : List Value) : Option (Nat × List Value) := match st with
  | .ref o :: r => match mj_len M kd o with
    | some n => some (1, .int (Int32.ofNat n) :: r)
    | none => none
  | _ => none
def mj_or {α : Type} (a b : Option α) : Option α := match a with
  | some x => some x
  | none => b
theorem mj_or_inv {α : Type} {a b : Option α} {x : α} (h : mj_or a b = some x) : a = some x ∨ b = some x := by
  unfold mj_or at h
  split at h
  · exact Or.inl h
  · exact Or.inr h
theorem mj_get_inv {fl : mj_FL} {ix k9 : Nat} {M : mj_M} {st st' : List Value} (h : mj_get fl ix M st = some (k9, st')) : ∃ ci k tc fin o n r, fl ix = some (ci, k, tc, fin) ∧ st = .ref o :: r ∧ M.1[o]? = some (ci, n) ∧ ci < 100 ∧ k < n ∧ k9 = 3 ∧ st' = mj_fi M o tc k :: r := by
  unfold mj_get at h
  split at h
  · rename_i hf
    split at h
    · rename_i hn
      split at h
      · rename_i hc
        cases h
        exact ⟨_, _, _, _, _, _, _, hf, rfl, mj_len_at hn, hc.1, hc.2, rfl, rfl⟩
      · cases h
    · cases h
  · cases h
theorem mj_ald_inv {kd k9 : Nat} {rd : Nat → Nat → Value} {M : mj_M} {st st' : List Value} (h : mj_ald kd rd M st = some (k9, st')) : ∃ j o n r, st = .int j :: .ref o :: r ∧ M.1[o]? = some (kd, n) ∧ vp_in j n ∧ k9 = 1 ∧ st' = rd o j.toNatClampNeg :: r := by
  unfold mj_ald at h
  split at h
  · split at h
    · rename_i hn
      split at h
      · cases h
      · rename_i hc
        cases h
        exact ⟨_, _, _, _, rfl, mj_len_at hn, hc, rfl, rfl⟩
    · cases h
  · cases h
theorem mj_aln_inv {kd k9 : Nat} {M : mj_M} {st st' : List Value} (h : mj_aln kd M st = some (k9, st')) : ∃ o n r, st = .ref o :: r ∧ M.1[o]? = some (kd, n) ∧ k9 = 1 ∧ st' = .int (Int32.ofNat n) :: r := by
  unfold mj_aln at h
  split at h
  · split at h
    · rename_i hn
      cases h
      exact ⟨_, _, _, rfl, mj_len_at hn, rfl, rfl⟩
    · cases h
  · cases h
/-- reads of the memory -/
def mj_hr (fl : mj_FL) (i : Instr) (M : mj_M) (st : List Value) : Option (Nat × List Value) := match i with
  | .getfield ix => mj_get fl ix M st
  | .iaload => mj_ald 100 (fun o j => .int (M.2.1 o j)) M st
  | .laload => mj_ald 101 (fun o j => .long (M.2.2.1 o j)) M st
  | .baload => mj_ald 102 (fun o j => .int (M.2.1 o j)) M st
  | .aaload => mj_or (mj_ald 103 (fun o j => va_rf (M.2.2.2 o j)) M st) (mj_ald 104 (fun o j => va_rf (M.2.2.2 o j)) M st)
  | .arraylength => mj_or (mj_aln 100 M st) (mj_or (mj_aln 101 M st) (mj_or (mj_aln 102 M st) (mj_or (mj_aln 103 M st) (mj_aln 104 M st))))
  | _ => none
/-- the value v that a field of the type tc takes: the memory behind it -/
def mj_pv (M : mj_M) (o k tc : Nat) (v : Value) : Option mj_M := match v with
  | .int x => if tc = 0 ∨ (tc = 3 ∧ (x = 0 ∨ x = 1)) then some (M.1, mj_u M.2.1 o k x, M.2.2) else none
  | .long x => if tc = 1 then some (M.1, M.2.1, mj_u M.2.2.1 o k x, M.2.2.2) else none
  | _ => none
def mj_put (fl : mj_FL) (ix : Nat) (M : mj_M) (st : List Value) : Option (Nat × List Value × mj_M) := match fl ix, st with
  | some (ci, k, tc, false), v :: .ref o :: r => match mj_len M ci o with
    | some n => if ci < 100 ∧ k < n then (mj_pv M o k tc v).map (fun M' => (3, r, M')) else none
    | none => none
  | _, _ => none
def mj_asi (kd : Nat) (f : Int32 → Int32) (M : mj_M) (st : List Value) : Option (Nat × List Value × mj_M) := match st with
  | .int x :: .int j :: .ref o :: r => match mj_len M kd o with
    | some n => if j < 0 ∨ n ≤ j.toNatClampNeg then none else some (1, r, (M.1, mj_u M.2.1 o j.toNatClampNeg (f x), M.2.2))
    | none => none
  | _ => none
def mj_asl (M : mj_M) (st : List Value) : Option (Nat × List Value × mj_M) := match st with
  | .long x :: .int j :: .ref o :: r => match mj_len M 101 o with
    | some n => if j < 0 ∨ n ≤ j.toNatClampNeg then none else some (1, r, (M.1, M.2.1, mj_u M.2.2.1 o j.toNatClampNeg x, M.2.2.2))
    | none => none
  | _ => none
/-- writes -/
def mj_hw (fl : mj_FL) (i : Instr) (M : mj_M) (st : List Value) : Option (Nat × List Value × mj_M) := match i with
  | .putfield ix => mj_put fl ix M st
  | .iastore => mj_asi 100 (fun x => x) M st
  | .bastore => mj_asi 102 (vp_nar .boolean) M st
  | .lastore => mj_asl M st
  | _ => none
theorem mj_put_inv {fl : mj_FL} {ix k9 : Nat} {M M' : mj_M} {st st' : List Value} (h : mj_put fl ix M st = some (k9, st', M')) : ∃ ci k tc o n v r, fl ix = some (ci, k, tc, false) ∧ st = v :: .ref o :: r ∧ M.1[o]? = some (ci, n) ∧ ci < 100 ∧ k < n ∧ mj_pv M o k tc v = some M' ∧ k9 = 3 ∧ st' = r := by
  unfold mj_put at h
  split at h
  · rename_i hf
    split at h
    · rename_i hn
      split at h
      · rename_i hc
        obtain ⟨M2, h1, h2⟩ := Option.map_eq_some_iff.mp h
        cases h2
        exact ⟨_, _, _, _, _, _, _, hf, rfl, mj_len_at hn, hc.1, hc.2, h1, rfl, rfl⟩
      · cases h
    · cases h
  · cases h
theorem mj_asi_inv {kd k9 : Nat} {f : Int32 → Int32} {M M' : mj_M} {st st' : List Value} (h : mj_asi kd f M st = some (k9, st', M')) : ∃ x j o n r, st = .int x :: .int j :: .ref o :: r ∧ M.1[o]? = some (kd, n) ∧ vp_in j n ∧ k9 = 1 ∧ st' = r ∧ M' = (M.1, mj_u M.2.1 o j.toNatClampNeg (f x), M.2.2) := by
  unfold mj_asi at h
  split at h
  · split at h
    · rename_i hn
      split at h
      · cases h
      · rename_i hc
        cases h
        exact ⟨_, _, _, _, _, rfl, mj_len_at hn, hc, rfl, rfl, rfl⟩
    · cases h
  · cases h
theorem mj_asl_inv {k9 : Nat} {M M' : mj_M} {st st' : List Value} (h : mj_asl M st = some (k9, st', M')) : ∃ x j o n r, st = .long x :: .int j :: .ref o :: r ∧ M.1[o]? = some (101, n) ∧ vp_in j n ∧ k9 = 1 ∧ st' = r ∧ M' = (M.1, M.2.1, mj_u M.2.2.1 o j.toNatClampNeg x, M.2.2.2) := by
  unfold mj_asl at h
  split at h
  · split at h
    · rename_i hn
      split at h
      · cases h
      · rename_i hc
        cases h
        exact ⟨_, _, _, _, _, rfl, mj_len_at hn, hc, rfl, rfl, rfl⟩
    · cases h
  · cases h
theorem mj_cell_obj {cty : Nat → Nat → FieldType} {cy : Nat → ClassId} {ad : Nat → Nat} {M : mj_M} {o ci n : Nat} (h : ci < 100) : mj_cell cty cy ad M o (ci, n) = .inr (ci, (List.range n).map (fun k => mj_fv ad M o (mj_tc (cty ci k)) k)) := by
  unfold mj_cell
  split
  · rename_i e; dsimp only at e; omega
  · rename_i e; dsimp only at e; omega
  · rename_i e; dsimp only at e; omega
  · rename_i e; dsimp only at e; omega
  · rename_i e; dsimp only at e; omega
  · rfl
theorem mj_cell_ne {cty : Nat → Nat → FieldType} {cy : Nat → ClassId} {ad : Nat → Nat} {M M' : mj_M} {b : Nat} (h1 : M'.2.1 b = M.2.1 b) (h2 : M'.2.2.1 b = M.2.2.1 b) (h3 : M'.2.2.2 b = M.2.2.2 b) (r : Nat × Nat) : mj_cell cty cy ad M' b r = mj_cell cty cy ad M b r := by
  unfold mj_cell mj_fv
  rw [h1, h2, h3]
theorem mj_range_set {n k : Nat} {f g : Nat → Value} (h : ∀ j, j ≠ k → g j = f j) : ((List.range n).map f).set k (g k) = (List.range n).map g := by
  apply List.ext_getElem?
  intro b
  rw [List.getElem?_set]
  by_cases hb : b < n
  · rw [List.getElem?_map, List.getElem?_map, List.getElem?_range hb]
    by_cases e : k = b
    · subst e
      rw [if_pos rfl, if_pos (by rw [List.length_map, List.length_range]; exact hb)]
      rfl
    · rw [if_neg e]
      simp [h b (fun q => e q.symm)]
  · rw [List.getElem?_eq_none (l := (List.range n).map g) (by rw [List.length_map, List.length_range]; omega)]
    by_cases e : k = b
    · subst e
      rw [if_pos rfl, if_neg (by rw [List.length_map, List.length_range]; exact hb)]
    · rw [if_neg e, List.getElem?_eq_none (by rw [List.length_map, List.length_range]; omega)]

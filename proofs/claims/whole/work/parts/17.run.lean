/-! THE SMALL MACHINE, 8: methods and their runs -/
abbrev mj_S : Type := Nat × List (Nat × Value) × List Value × mj_M
/-- a method: its name, its bytes, how many locals, what it returns, its instructions -/
abbrev mj_Y : Type := MethodName × ByteArray × Nat × Option FieldType × List (Nat × Instr × Nat)
/-- a program: methods by number; by the number of a method: its table of fields, of calls (the callee, how many arguments, the receiver's class, none: a static one), of ints, of longs, of new, of statics, of rows, of <init> (none: Object's; else the callee and how many arguments), of arraycopy; the outside arrays; whose constructor it is -/
abbrev mj_P : Type := (Nat → Option mj_Y) × (Nat → mj_FL) × (Nat → Nat → Option (Nat × Nat × Option Nat)) × (Nat → Nat → Option Int32) × (Nat → Nat → Option Int64) × (Nat → Nat → Option (Nat × Nat)) × (Nat → Nat → Option Nat) × (Nat → Nat → Option Nat) × (Nat → Nat → Option (Option (Nat × Nat))) × (Nat → Nat → Bool) × mj_XT × (Nat → Option Nat)
abbrev mj_pY (P : mj_P) : Nat → Option mj_Y := P.1
abbrev mj_pF (P : mj_P) : Nat → mj_FL := P.2.1
abbrev mj_pG (P : mj_P) : Nat → Nat → Option (Nat × Nat × Option Nat) := P.2.2.1
abbrev mj_pK (P : mj_P) : Nat → Nat → Option Int32 := P.2.2.2.1
abbrev mj_pL (P : mj_P) : Nat → Nat → Option Int64 := P.2.2.2.2.1
abbrev mj_pN (P : mj_P) : Nat → Nat → Option (Nat × Nat) := P.2.2.2.2.2.1
abbrev mj_pS (P : mj_P) : Nat → Nat → Option Nat := P.2.2.2.2.2.2.1
abbrev mj_pM (P : mj_P) : Nat → Nat → Option Nat := P.2.2.2.2.2.2.2.1
abbrev mj_pI (P : mj_P) : Nat → Nat → Option (Option (Nat × Nat)) := P.2.2.2.2.2.2.2.2.1
abbrev mj_pC (P : mj_P) : Nat → Nat → Bool := P.2.2.2.2.2.2.2.2.2.1
abbrev mj_pX (P : mj_P) : mj_XT := P.2.2.2.2.2.2.2.2.2.2.1
abbrev mj_pZ (P : mj_P) : Nat → Option Nat := P.2.2.2.2.2.2.2.2.2.2.2
def mj_lk : List (Nat × Instr × Nat) → Nat → Option (Instr × Nat)
  | [], _ => none
  | q :: r, pc => bif q.1 == pc then some q.2 else mj_lk r pc
def mj_ret (ret : Option FieldType) (i : Instr) (st : List Value) : Option (Option Value) := match i with
  | .return_ => match st with
    | [] => if ret = none then some none else none
    | _ => none
  | .ireturn => match st with
    | [.int x] => if ret = some .int ∨ (ret = some .boolean ∧ (x = 0 ∨ x = 1)) ∨ (ret = some .char ∧ (x.toUInt32 % 65536).toInt32 = x) ∨ (ret = some .byte ∧ x.toInt8.toInt32 = x) then some (some (.int x)) else none
    | _ => none
  | .lreturn => match st with
    | [.long x] => if ret = some .long then some (some (.long x)) else none
    | _ => none
  | _ => none
def mj_rt (ret : Option FieldType) (i : Instr) (k : Nat) (st : List Value) : Option (Option Value) := if k = 1 then mj_ret ret i st else none
theorem mj_rt_inv {ret : Option FieldType} {i : Instr} {k : Nat} {st : List Value} {v : Option Value} (h : mj_rt ret i k st = some v) : k = 1 ∧ mj_ret ret i st = some v := by
  unfold mj_rt at h
  split at h
  · exact ⟨by assumption, h⟩
  · cases h
def mj_ldc (P : mj_P) (j : Nat) (i : Instr) (st : List Value) : Option (Nat × List Value) := match i with
  | .ldc ix => (mj_pK P j ix).map (fun v => (2, .int v :: st))
  | .ldc_w ix => (mj_pK P j ix).map (fun v => (3, .int v :: st))
  | .ldc2_w ix => (mj_pL P j ix).map (fun v => (3, .long v :: st))
  | _ => none
def mj_sum (st : List Value) : Nat := (st.map fun v => v.category).sum
/-- Object's <init> -/
def mj_oi (P : mj_P) (j : Nat) (i : Instr) (st : List Value) : Option (Nat × List Value) := match i with
  | .invokespecial ix => match mj_pI P j ix, st with
    | some none, .ref _ :: r => if mj_sum r ≤ 8 then some (3, r) else none
    | _, _ => none
  | _ => none
def mj_lf (k pc : Nat) (lv : List (Nat × Value)) (M : mj_M) (a : Option (Nat × List Value)) : Option mj_S := match a with
  | some q => if q.1 = k then some (pc + k, lv, q.2, M) else none
  | none => none
def mj_lfL (k pc : Nat) (M : mj_M) (a : Option (Nat × List (Nat × Value) × List Value)) : Option mj_S := match a with
  | some q => if q.1 = k then some (pc + k, q.2.1, q.2.2, M) else none
  | none => none
def mj_lfB (lv : List (Nat × Value)) (M : mj_M) (a : Option (Nat × List Value)) : Option mj_S := match a with
  | some q => some (q.1, lv, q.2, M)
  | none => none
def mj_lfW (k pc : Nat) (lv : List (Nat × Value)) (a : Option (Nat × List Value × mj_M)) : Option mj_S := match a with
  | some q => if q.1 = k then some (pc + k, lv, q.2.1, q.2.2) else none
  | none => none
def mj_pz (P : mj_P) (j : Nat) (i : Instr) (M : mj_M) (st : List Value) : Option (Nat × List Value × mj_M) := match mj_pZ P j with
  | some ci => mj_putF (mj_pF P j) ci i M st
  | none => none
/-- what no frame more is wanted for -/
def mj_one0 (P : mj_P) (j nL : Nat) (i : Instr) (k : Nat) (S : mj_S) : Option mj_S :=
  mj_or (mj_lfL k S.1 S.2.2.2 (mj_loc i nL S.2.1 S.2.2.1)) (mj_or (mj_lf k S.1 S.2.1 S.2.2.2 (mj_hr (mj_pF P j) i S.2.2.2 S.2.2.1)) (mj_or (mj_lf k S.1 S.2.1 S.2.2.2 (mj_op i S.2.2.1)) (mj_or (mj_lfB S.2.1 S.2.2.2 (mj_br i k S.1 S.2.2.1))
    (mj_or (mj_lfW k S.1 S.2.1 (mj_hw (mj_pF P j) i S.2.2.2 S.2.2.1)) (mj_or (mj_lf k S.1 S.2.1 S.2.2.2 (mj_ldc P j i S.2.2.1)) (mj_lf k S.1 S.2.1 S.2.2.2 (mj_xr (mj_pX P) (mj_pS P j) i S.2.2.1)))))))
/-- what is a constructor's, or wants a frame of the JDK's -/
def mj_one1 (P : mj_P) (j : Nat) (i : Instr) (k : Nat) (S : mj_S) : Option mj_S :=
  mj_or (mj_lfW k S.1 S.2.1 (mj_al (mj_pN P j) i S.2.2.2 S.2.2.1)) (mj_or (mj_lfW k S.1 S.2.1 (mj_pz P j i S.2.2.2 S.2.2.1)) (mj_or (mj_lfW k S.1 S.2.1 (mj_cp (mj_pX P) (mj_pC P j) i S.2.2.2 S.2.2.1)) (mj_or (mj_lf k S.1 S.2.1 S.2.2.2 (mj_oi P j i S.2.2.1)) (mj_lfW k S.1 S.2.1 (mj_ma (mj_pM P j) i S.2.2.2 S.2.2.1)))))
/-- one instruction that is no call and no end; b: frames are left -/
def mj_one (P : mj_P) (b : Bool) (j nL : Nat) (i : Instr) (k : Nat) (S : mj_S) : Option mj_S := mj_or (mj_one0 P j nL i k S) (bif b then mj_one1 P j i k S else none)
/-- a call: the callee, its arguments (the receiver first), what is left on the stack -/
def mj_cv (P : mj_P) (j ix k : Nat) (S : mj_S) : Option (Nat × List Value × List Value) := match mj_pG P j ix with
  | some (j', n, some ci) => match S.2.2.1.drop n with
    | .ref o :: rest => if k = 3 ∧ (S.2.2.1.take n).length = n ∧ ci < 100 ∧ (mj_len S.2.2.2 ci o).isSome = true ∧ mj_sum rest ≤ 8 ∨ k = 3 ∧ (S.2.2.1.take n).length = n ∧ ci = 200 ∧ (mj_sb (mj_pX P) 0 o).isSome = true ∧ mj_sum rest ≤ 8 then some (j', .ref o :: (S.2.2.1.take n).reverse, rest) else none
    | _ => none
  | _ => none
def mj_cs (P : mj_P) (j ix k : Nat) (S : mj_S) : Option (Nat × List Value × List Value) := match mj_pG P j ix with
  | some (j', n, none) => if k = 3 ∧ (S.2.2.1.take n).length = n ∧ mj_sum (S.2.2.1.drop n) ≤ 8 then some (j', (S.2.2.1.take n).reverse, S.2.2.1.drop n) else none
  | _ => none
def mj_ci (P : mj_P) (j ix k : Nat) (S : mj_S) : Option (Nat × List Value × List Value) := match mj_pI P j ix with
  | some (some (j', n)) => match S.2.2.1.drop n with
    | .ref o :: rest => if k = 3 ∧ (S.2.2.1.take n).length = n ∧ mj_sum rest ≤ 8 then some (j', .ref o :: (S.2.2.1.take n).reverse, rest) else none
    | _ => none
  | _ => none
def mj_call (P : mj_P) (j : Nat) (i : Instr) (k : Nat) (S : mj_S) : Option (Nat × List Value × List Value) := match i with
  | .invokevirtual ix => mj_cv P j ix k S
  | .invokestatic ix => mj_cs P j ix k S
  | .invokespecial ix => mj_ci P j ix k S
  | _ => none
/-- one step: an instruction, or a call that comes back -/
def mj_step (P : mj_P) (Rel : Nat → List Value → mj_M → Option Value → mj_M → Prop) (b : Bool) (j : Nat) (Y : mj_Y) (S S' : mj_S) : Prop := ∃ i k, mj_lk Y.2.2.2.2 S.1 = some (i, k) ∧
  (mj_one P b j Y.2.2.1 i k S = some S' ∨ ∃ j' vs rest v M', mj_call P j i k S = some (j', vs, rest) ∧ Rel j' vs S.2.2.2 v M' ∧ S' = (S.1 + 3, S.2.1, v.toList ++ rest, M'))
def mj_steps (P : mj_P) (Rel : Nat → List Value → mj_M → Option Value → mj_M → Prop) (b : Bool) (j : Nat) (Y : mj_Y) : Nat → mj_S → mj_S → Prop
  | 0, S, S' => S = S'
  | n + 1, S, S' => ∃ S1, mj_step P Rel b j Y S S1 ∧ mj_steps P Rel b j Y n S1 S'
def mj_Rb (P : mj_P) (Rel : Nat → List Value → mj_M → Option Value → mj_M → Prop) (b : Bool) (j : Nat) (vs : List Value) (M : mj_M) (r : Option Value) (M' : mj_M) : Prop :=
  ∃ Y, mj_pY P j = some Y ∧ mj_sum vs ≤ Y.2.2.1 ∧ ∃ n S' i k, mj_steps P Rel b j Y n (0, lv_args 0 vs, [], M) S' ∧ mj_lk Y.2.2.2.2 S'.1 = some (i, k) ∧ mj_rt Y.2.2.2.1 i k S'.2.2.1 = some r ∧ M' = S'.2.2.2
/-- the method j with the arguments vs runs from the memory M to the answer r and the memory M', with d calls open within it at most -/
def mj_R (P : mj_P) : Nat → Nat → List Value → mj_M → Option Value → mj_M → Prop
  | 0 => mj_Rb P (fun _ _ _ _ _ => False) false
  | d + 1 => mj_Rb P (mj_R P d) true
-- what is there stays there, references stay good
def mj_ext (M M' : mj_M) : Prop := ∃ t, M'.1 = M.1 ++ t
theorem mj_ext_rf {M : mj_M} : mj_ext M M := ⟨[], by simp⟩
theorem mj_ext_eq {M M' : mj_M} (h : M'.1 = M.1) : mj_ext M M' := ⟨[], by simp [h]⟩
theorem mj_ext_tr {M M' M2 : mj_M} (h : mj_ext M M') (h2 : mj_ext M' M2) : mj_ext M M2 := by
  obtain ⟨t, e⟩ := h
  obtain ⟨t2, e2⟩ := h2
  exact ⟨t ++ t2, by rw [e2, e, List.append_assoc]⟩
theorem mj_ext_len {M M' : mj_M} (h : mj_ext M M') : M.1.length ≤ M'.1.length := by
  obtain ⟨t, e⟩ := h
  rw [e, List.length_append]
  omega
def mj_slt (M : mj_M) : Nat := (M.1.map (fun q => q.2)).sum
theorem mj_ext_slt {M M' : mj_M} (h : mj_ext M M') : mj_slt M ≤ mj_slt M' := by
  obtain ⟨t, e⟩ := h
  unfold mj_slt
  rw [e, List.map_append, List.sum_append]
  omega
def mj_wS (S : mj_S) : Prop := (∀ q ∈ S.2.1, mj_wv S.2.2.2.1.length q.2) ∧ (∀ v ∈ S.2.2.1, mj_wv S.2.2.2.1.length v) ∧ mj_wM S.2.2.2
theorem mj_all2 {Pv : Value → Prop} {v : Value} {r : List Value} (h : Pv v) (hr : ∀ w ∈ r, Pv w) : ∀ w ∈ v :: r, Pv w := fun w hw => (List.mem_cons.mp hw).elim (fun e => e ▸ h) (hr w)
theorem mj_tl {Pv : Value → Prop} {v : Value} {r : List Value} (h : ∀ w ∈ v :: r, Pv w) : ∀ w ∈ r, Pv w := fun w hw => h w (List.mem_cons_of_mem _ hw)
theorem mj_hd {Pv : Value → Prop} {v : Value} {r : List Value} (h : ∀ w ∈ v :: r, Pv w) : Pv v := h v List.mem_cons_self
theorem mj_op_w {Pv : Value → Prop} (hi : ∀ x, Pv (.int x)) (hl : ∀ x, Pv (.long x)) {i : Instr} {k : Nat} {st st' : List Value} (h : mj_op i st = some (k, st')) (hs : ∀ v ∈ st, Pv v) : ∀ v ∈ st', Pv v := by
  unfold mj_op at h
  split at h
  all_goals first
    | (cases h; first | exact mj_all2 (hi _) hs | exact mj_all2 (hl _) hs)
    | (obtain ⟨x, y, r, rfl, rfl, rfl⟩ := mj_ii_inv h; exact mj_all2 (hi _) (mj_tl (mj_tl hs)))
    | (obtain ⟨x, y, r, rfl, -, rfl, rfl⟩ := mj_iiD_inv h; exact mj_all2 (hi _) (mj_tl (mj_tl hs)))
    | (obtain ⟨x, y, r, rfl, rfl, rfl⟩ := mj_ll_inv h; exact mj_all2 (hl _) (mj_tl (mj_tl hs)))
    | (obtain ⟨x, y, r, rfl, -, rfl, rfl⟩ := mj_llD_inv h; exact mj_all2 (hl _) (mj_tl (mj_tl hs)))
    | (obtain ⟨x, y, r, rfl, rfl, rfl⟩ := mj_li_inv h; exact mj_all2 (hl _) (mj_tl (mj_tl hs)))
    | (obtain ⟨x, r, rfl, rfl, rfl⟩ := mj_i1_inv h; first | exact mj_all2 (hi _) (mj_tl hs) | exact mj_all2 (hl _) (mj_tl hs))
    | (obtain ⟨x, r, rfl, rfl, rfl⟩ := mj_l1_inv h; exact mj_all2 (hi _) (mj_tl hs))
    | (unfold mj_cmp at h; split at h
       · cases h; exact mj_all2 (hi _) (mj_tl (mj_tl hs))
       · cases h)
    | (unfold mj_dup at h; split at h
       · split at h
         · cases h; exact mj_all2 (mj_hd hs) hs
         · cases h
       · cases h)
    | (unfold mj_pop at h; split at h
       · split at h
         · cases h; exact mj_tl hs
         · cases h
       · cases h)
    | (unfold mj_dup2 at h; split at h
       · split at h
         · cases h; exact mj_all2 (mj_hd hs) (mj_all2 (mj_hd (mj_tl hs)) hs)
         · cases h
       · cases h)
    | cases h

/-! PROGRAMS, 1: tables with the places of their words, and what a check of them gives -/
def mj_tb (c : Nat) : List Cond := match c with
  | 0 => k2_sels lw_privs
  | 1 => tables_1_1
  | 2 => tables_1_2
  | 3 => tables_1_3
  | 4 => tables_1_4
  | 5 => tables_1_5
  | 6 => tables_1_6
  | 7 => tables_1_7
  | 8 => tables_1_8
  | 9 => tables_1_9
  | 10 => tables_1_10
  | 11 => tables_1_11
  | 12 => tables_1_12
  | 13 => tables_1_13
  | 14 => tables_1_14
  | 15 => tables_1_15
  | _ => tables_1_16
theorem mj_tb_in (c : Nat) : ∀ w ∈ mj_tb c, w ∈ lw_tbl := by
  intro w h
  unfold lw_tbl
  unfold mj_tb at h
  split at h
  · exact List.mem_append_left _ h
  all_goals (refine List.mem_append_right _ ?_; unfold tables_1; simp only [List.mem_append]; simp only [h, true_or, or_true])
def mj_AW : List Cond := lw_tbl.filter goodWord
theorem mj_AW_tbl : ∀ w ∈ mj_AW, w ∈ lw_tbl := fun _ h => (List.mem_filter.mp h).1
theorem mj_AW_good : ∀ w ∈ mj_AW, goodWord w = true := fun _ h => (List.mem_filter.mp h).2
def mj_wa (q : Nat × Nat) (w : Cond) : Bool := goodWord w && decide ((mj_tb q.1)[q.2]? = some w)
theorem mj_wa_in {q : Nat × Nat} {w : Cond} (h : mj_wa q w = true) : w ∈ mj_AW := by
  unfold mj_wa at h
  rw [Bool.and_eq_true] at h
  exact List.mem_filter.mpr ⟨mj_tb_in q.1 w (List.mem_of_getElem? (of_decide_eq_true h.2)), h.1⟩
def mj_lkp {α : Type} : List (Nat × α × Nat × Nat) → Nat → Option α
  | [], _ => none
  | q :: r, ix => bif q.1 == ix then some q.2.1 else mj_lkp r ix
theorem mj_lkp_in {α : Type} {l : List (Nat × α × Nat × Nat)} {ix : Nat} {a : α} (h : mj_lkp l ix = some a) : ∃ pos, (ix, a, pos) ∈ l := by
  induction l with
  | nil => cases h
  | cons q r ih =>
    unfold mj_lkp at h
    by_cases e : q.1 = ix
    · have e2 : (q.1 == ix) = true := by simp [e]
      rw [e2] at h
      obtain ⟨x, y, z⟩ := q
      dsimp only at e
      subst e
      cases h
      exact ⟨z, List.mem_cons_self⟩
    · have e2 : (q.1 == ix) = false := by simp [e]
      rw [e2] at h
      obtain ⟨pos, hp⟩ := ih h
      exact ⟨pos, List.mem_cons_of_mem _ hp⟩
theorem mj_lk_in {l : List (Nat × Instr × Nat)} {pc : Nat} {q : Instr × Nat} (h : mj_lk l pc = some q) : (pc, q) ∈ l := by
  induction l with
  | nil => cases h
  | cons z r ih =>
    unfold mj_lk at h
    by_cases e : z.1 = pc
    · have e2 : (z.1 == pc) = true := by simp [e]
      rw [e2] at h
      obtain ⟨x, y⟩ := z
      dsimp only at e
      subst e
      cases h
      exact List.mem_cons_self
    · have e2 : (z.1 == pc) = false := by simp [e]
      rw [e2] at h
      exact List.mem_cons_of_mem _ (ih h)
/-- a class's tables: its name; fields; calls; ints; longs; new; statics; rows; <init>; arraycopy. Each row: the constant's number, what it is, its word's place -/
abbrev mj_C : Type := String × List (Nat × (Nat × Nat × Nat × Bool) × Nat × Nat) × List (Nat × (Nat × Nat × Option Nat) × Nat × Nat) × List (Nat × Int32 × Nat × Nat) × List (Nat × Int64 × Nat × Nat) × List (Nat × (Nat × Nat) × Nat × Nat) × List (Nat × Nat × Nat × Nat) × List (Nat × Nat × Nat × Nat) × List (Nat × Option (Nat × Nat) × Nat × Nat) × List (Nat × Unit × Nat × Nat)
/-- a method with the places of its words: how many arguments; its code; its class's initialized; static or instanceMethod; selects; whose constructor it is -/
abbrev mj_E : Type := mj_Y × Nat × (Nat × Nat) × (Nat × Nat) × (Nat × Nat) × (Nat × Nat) × Option Nat
/-- a program out of classes: a method's number is 1000 times its class's and its place there -/
def mj_mk (cc : Nat → mj_C) (mm : Nat → List mj_E) (X : mj_XT) : mj_P :=
  (fun j => ((mm (j / 1000))[j % 1000]?).map (fun E => E.1), fun j => mj_lkp (cc (j / 1000)).2.1, fun j => mj_lkp (cc (j / 1000)).2.2.1, fun j => mj_lkp (cc (j / 1000)).2.2.2.1, fun j => mj_lkp (cc (j / 1000)).2.2.2.2.1, fun j => mj_lkp (cc (j / 1000)).2.2.2.2.2.1, fun j => mj_lkp (cc (j / 1000)).2.2.2.2.2.2.1, fun j => mj_lkp (cc (j / 1000)).2.2.2.2.2.2.2.1, fun j => mj_lkp (cc (j / 1000)).2.2.2.2.2.2.2.2.1, fun j ix => (mj_lkp (cc (j / 1000)).2.2.2.2.2.2.2.2.2 ix).isSome, X,
    fun j => ((mm (j / 1000))[j % 1000]?).bind (fun E => E.2.2.2.2.2.2))
def mj_ch1 (cl : List vw_C) (cty : Nat → Nat → FieldType) (own : String) (q : Nat × (Nat × Nat × Nat × Bool) × Nat × Nat) : Bool := match cl[q.2.1.1]? with
  | some z => decide (q.2.1.2.1 < z.2.2) && (decide (mj_tc (cty q.2.1.1 q.2.1.2.1) = q.2.1.2.2.1) && (decide ((z.2.1 q.2.1.2.1).2.2.2 = q.2.1.2.2.2) && mj_wa q.2.2 (.fieldLink own q.1 (z.2.1 q.2.1.2.1).1 (z.2.1 q.2.1.2.1).2.1 (z.2.1 q.2.1.2.1).2.2.1)))
  | none => false
def mj_chL (Ns : List Cond) (own : String) (ix : Nat) (E : mj_E) (n : Nat) (pos : Nat × Nat) : Bool :=
  (bif pos.1 == 99 then decide (Ns[pos.2]? = some (.methodLinkNest own ix E.1.1 "EngineControl")) else mj_wa pos (.methodLink own ix E.1.1)) && (mj_wa E.2.2.2.1 (.initialized E.1.1.cls) && decide (E.1.1.cls ≠ "java/lang/invoke/MethodHandle" ∧ E.1.1.cls ≠ "java/lang/invoke/VarHandle" ∧ (parseMethodDescriptor E.1.1.desc).map (fun d => d.parameters.length) = some n))
def mj_ch2 (Ns : List Cond) (cl : List vw_C) (mm : Nat → List mj_E) (own : String) (q : Nat × (Nat × Nat × Option Nat) × Nat × Nat) : Bool := match (mm (q.2.1.1 / 1000))[q.2.1.1 % 1000]? with
  | some E => mj_chL Ns own q.1 E q.2.1.2.1 q.2.2 && match q.2.1.2.2 with
    | none => mj_wa E.2.2.2.2.1 (.static E.1.1)
    | some ci => mj_wa E.2.2.2.2.1 (.instanceMethod E.1.1) && (mj_wa E.2.2.2.2.2.1 (.selects E.1.1.cls E.1.1 E.1.1) && match cl[ci]? with
      | some z => decide (z.1 = E.1.1.cls) && Nat.blt ci 100
      | none => ci == 200 && decide (E.1.1.cls = "java/lang/String"))
  | none => false
def mj_ch3 (own : String) (q : Nat × Int32 × Nat × Nat) : Bool := mj_wa q.2.2 (.constant own q.1 q.2.1)
def mj_ch4 (own : String) (q : Nat × Int64 × Nat × Nat) : Bool := mj_wa q.2.2 (.constantLong own q.1 q.2.1)
def mj_ch5 (cl : List vw_C) (cty : Nat → Nat → FieldType) (wi : Nat → (Nat × Nat) × (Nat × Nat)) (own : String) (q : Nat × (Nat × Nat) × Nat × Nat) : Bool := match cl[q.2.1.1]? with
  | some z => decide (z.2.2 = q.2.1.2) && ((List.range q.2.1.2).all (fun k => decide (mj_tc (cty q.2.1.1 k) ≠ 4)) && (mj_wa q.2.2 (.classLink own q.1 z.1) && (mj_wa (wi q.2.1.1).1 (.instantiable z.1 q.2.1.2) && mj_wa (wi q.2.1.1).2 (.initialized z.1))))
  | none => false
def mj_ch6 (X : mj_XT) (own : String) (q : Nat × Nat × Nat × Nat) : Bool := match X.1[q.2.1]? with
  | some z => decide (z.2.1 ≠ "") && mj_wa q.2.2 (.fieldLink own q.1 z.1 z.2.1 z.2.2.1)
  | none => bif Nat.blt q.2.1 2000000 then (match X.2[(q.2.1 - 1000000) / 2]? with
    | some z => decide (q.2.1 = 1000000 + 2 * ((q.2.1 - 1000000) / 2)) && (decide (z.1 = own) && decide (z.2.2.1 = q.1))
    | none => false) else bif q.2.1 == 2000000 then mj_wa q.2.2 (.fieldLink own q.1 "java/lang/String" "value" "[B") else bif q.2.1 == 2000001 then mj_wa q.2.2 (.fieldLink own q.1 "java/lang/String" "coder" "B") else bif q.2.1 == 2000002 then mj_wa q.2.2 (.fieldLink own q.1 "java/lang/String" "COMPACT_STRINGS" "Z") else bif q.2.1 == 2000003 then mj_wa q.2.2 (.fieldLink own q.1 "jdk/internal/util/Preconditions" "SIOOBE_FORMATTER" "Ljava/util/function/BiFunction;") else false
def mj_ch7 (wo : Nat → (Nat × Nat) × (Nat × Nat)) (own : String) (q : Nat × Nat × Nat × Nat) : Bool :=
  (bif q.2.1 == 100 then mj_wa q.2.2 (.classLink own q.1 ("[" ++ (FieldType.array .int).toString)) && mj_wa (wo 0).2 (.arrayClass .int) else true) && (bif q.2.1 == 101 then mj_wa q.2.2 (.classLink own q.1 ("[" ++ (FieldType.array .long).toString)) && mj_wa (wo 1).2 (.arrayClass .long) else true)
def mj_ch8 (Ns : List Cond) (mm : Nat → List mj_E) (wb : (Nat × Nat) × (Nat × Nat)) (own : String) (q : Nat × Option (Nat × Nat) × Nat × Nat) : Bool := match q.2.1 with
  | none => mj_wa q.2.2 (.methodLink own q.1 Lib.objectInit) && (mj_wa wb.1 (.instanceMethod Lib.objectInit) && mj_wa wb.2 (.code Lib.objectInit ⟨#[0xb1]⟩ 1 none))
  | some z => match (mm (z.1 / 1000))[z.1 % 1000]? with
    | some E => mj_chL Ns own q.1 E z.2 q.2.2 && (decide (E.1.1.name = "<init>") && (decide (E.1.2.2.2.1 = none) && mj_wa E.2.2.2.2.1 (.instanceMethod E.1.1)))
    | none => false
def mj_ch9 (ws : (Nat × Nat) × (Nat × Nat) × (Nat × Nat)) (own : String) (q : Nat × Unit × Nat × Nat) : Bool := mj_wa q.2.2 (.methodLink own q.1 arraycopyName) && (mj_wa ws.1 (.native arraycopyName) && (mj_wa ws.2.1 (.static arraycopyName) && mj_wa ws.2.2 (.initialized "java/lang/System")))
/-- a method's own check -/
def mj_chM (cl : List vw_C) (own : String) (E : mj_E) : Bool :=
  decide (E.1.1.cls = own) && (plainFor E.1.1 && (decide (E.1.2.2.1 ≤ 40) && (mj_dl E.1.2.1 E.1.2.2.2.2 0 (mj_bytes E.1.2.1) && match E.2.2.2.2.2.2 with
    | none => true
    | some ci => decide (E.1.1.name = "<init>") && match cl[ci]? with
      | some z => (List.range z.2.2).all (fun k => decide ((z.2.1 k).1 = own))
      | none => true)))
/-- a method's code is a word -/
def mj_cw (E : mj_E) : Prop := (mj_tb E.2.2.1.1)[E.2.2.1.2]? = some (.code E.1.1 E.1.2.1 E.1.2.2.1 E.1.2.2.2.1)
theorem mj_cw_in {E : mj_E} (h : mj_cw E) : Cond.code E.1.1 E.1.2.1 E.1.2.2.1 E.1.2.2.2.1 ∈ mj_AW := List.mem_filter.mpr ⟨mj_tb_in _ _ (List.mem_of_getElem? h), rfl⟩

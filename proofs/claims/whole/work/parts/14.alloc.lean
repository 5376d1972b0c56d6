/-! THE SMALL MACHINE, 5: cells that are made; int arrays outside (a class's constant arrays, the script), whose ids begin at 1000000; copies -/
/-- String constants: whose class's, the text, the constant's number, how long (0: not asked), its bytes. Ids: 2000000 + 2 i the String, the odd one behind it its bytes -/
abbrev mj_ST : Type := List (String × String × Nat × Nat × (Nat → Int32))
abbrev mj_XT : Type := List (String × String × String × Nat × (Nat → Int32)) × mj_ST
def mj_new (M : mj_M) (kd n : Nat) : mj_M := (M.1 ++ [(kd, n)], (fun a => if a = M.1.length then (fun _ => 0) else M.2.1 a), (fun a => if a = M.1.length then (fun _ => 0) else M.2.2.1 a), (fun a => if a = M.1.length then (fun _ => none) else M.2.2.2 a))
/-- an array of n rows: the outer one, then its rows -/
def mj_rows (M : mj_M) (ko ki n k : Nat) : mj_M := (M.1 ++ ((ko, n) :: List.replicate n (ki, k)), (fun a => if M.1.length ≤ a then (fun _ => 0) else M.2.1 a), (fun a => if M.1.length ≤ a then (fun _ => 0) else M.2.2.1 a), (fun a => if a = M.1.length then (fun j => if j < n then some (M.1.length + 1 + j) else none) else if M.1.length ≤ a then (fun _ => none) else M.2.2.2 a))
/-- what is made: nw tells a class (its number, its fields), ma the rows of a new int[][] or long[][] -/
def mj_al (nw : Nat → Option (Nat × Nat)) (i : Instr) (M : mj_M) (st : List Value) : Option (Nat × List Value × mj_M) := match i with
  | .new ix => match nw ix with
    | some q => if q.1 < 100 ∧ M.1.length < 1000000 then some (3, .ref M.1.length :: st, mj_new M q.1 q.2) else none
    | none => none
  | .newarray t => match st with
    | .int n :: r => if n < 0 ∨ 100000 < n.toNatClampNeg ∨ 1000000 ≤ M.1.length then none else match t with
      | .int => some (2, .ref M.1.length :: r, mj_new M 100 n.toNatClampNeg)
      | .long => some (2, .ref M.1.length :: r, mj_new M 101 n.toNatClampNeg)
      | .boolean => some (2, .ref M.1.length :: r, mj_new M 102 n.toNatClampNeg)
      | _ => none
    | _ => none
  | _ => none
/-- the outside array of an id -/
def mj_xa (X : mj_XT) (o : Nat) : Option (Nat × (Nat → Int32)) := if 1000000 ≤ o then (X.1[o - 1000000]?).map (fun q => q.2.2.2) else none
/-- the bytes of a String, or of its array -/
def mj_sb (X : mj_XT) (r o : Nat) : Option (Nat × (Nat → Int32)) := if 2000000 ≤ o ∧ o % 2 = r then match X.2[(o - 2000000) / 2]? with
  | some q => if q.2.2.2.1 = 0 then none else some q.2.2.2
  | none => none
  else none
/-- reads of outside arrays, and their references -/
def mj_xr (X : mj_XT) (gs : Nat → Option Nat) (i : Instr) (st : List Value) : Option (Nat × List Value) := match i with
  | .getstatic ix => match gs ix with
    | some k => if k < X.1.length then some (3, .ref (1000000 + k) :: st) else if k = 2000002 then some (3, .int 1 :: st) else if k = 2000003 then some (3, .retAddr 0 :: st) else none
    | none => none
  | .ldc ix => match gs ix with
    | some k => if X.1.length ≤ k ∧ 1000000 ≤ k ∧ k < 2000000 then some (2, .ref (1000000 + k) :: st) else none
    | none => none
  | .getfield ix => match gs ix, st with
    | some k, .ref o :: r => match mj_sb X 0 o with
      | some _ => if X.1.length ≤ k ∧ k = 2000000 then some (3, .ref (o + 1) :: r) else if X.1.length ≤ k ∧ k = 2000001 then some (3, .int 0 :: r) else none
      | none => none
    | _, _ => none
  | .baload => match st with
    | .int j :: .ref o :: r => match mj_sb X 1 o with
      | some q => if j < 0 ∨ q.1 ≤ j.toNatClampNeg then none else some (1, .int (q.2 j.toNatClampNeg) :: r)
      | none => none
    | _ => none
  | .iaload => match st with
    | .int j :: .ref o :: r => match mj_xa X o with
      | some q => if j < 0 ∨ q.1 ≤ j.toNatClampNeg then none else some (1, .int (q.2 j.toNatClampNeg) :: r)
      | none => none
    | _ => none
  | .arraylength => match st with
    | .ref o :: r => match mj_xa X o with
      | some q => some (1, .int (Int32.ofNat q.1) :: r)
      | none => match mj_sb X 1 o with
        | some q => some (1, .int (Int32.ofNat q.1) :: r)
        | none => none
    | _ => none
  | _ => none
/-- f, but the row o is g -/
def mj_uR {α : Type} (f : Nat → Nat → α) (o : Nat) (g : Nat → α) : Nat → Nat → α := fun a => if a = o then g else f a
/-- System.arraycopy: of ints, of ints from outside, of longs -/
def mj_cpw (M : mj_M) (X : mj_XT) (o o' sp dp n : Nat) : Option mj_M :=
  mj_or (match mj_len M 100 o, mj_len M 100 o' with
    | some n0, some n1 => if sp + n ≤ n0 ∧ dp + n ≤ n1 then some (M.1, mj_uR M.2.1 o' (va_cpy (M.2.1 o) (M.2.1 o') sp dp n), M.2.2) else none
    | _, _ => none)
  (mj_or (match mj_xa X o, mj_len M 100 o' with
    | some q, some n1 => if sp + n ≤ q.1 ∧ dp + n ≤ n1 then some (M.1, mj_uR M.2.1 o' (va_cpy q.2 (M.2.1 o') sp dp n), M.2.2) else none
    | _, _ => none)
  (match mj_len M 101 o, mj_len M 101 o' with
    | some n0, some n1 => if sp + n ≤ n0 ∧ dp + n ≤ n1 then some (M.1, M.2.1, mj_uR M.2.2.1 o' (va_cpy (M.2.2.1 o) (M.2.2.1 o') sp dp n), M.2.2.2) else none
    | _, _ => none))
def mj_cp (X : mj_XT) (ac : Nat → Bool) (i : Instr) (M : mj_M) (st : List Value) : Option (Nat × List Value × mj_M) := match i with
  | .invokestatic ix => bif ac ix then match st with
    | .int n :: .int dp :: .ref o' :: .int sp :: .ref o :: r => if sp < 0 ∨ dp < 0 ∨ n < 0 ∨ 8 < (r.map fun v => v.category).sum then none else (mj_cpw M X o o' sp.toNatClampNeg dp.toNatClampNeg n.toNatClampNeg).map (fun M' => (3, r, M'))
    | _ => none
    else none
  | _ => none
/-- rows of a new int[][] (100) or long[][] (101) -/
def mj_ma (ma : Nat → Option Nat) (i : Instr) (M : mj_M) (st : List Value) : Option (Nat × List Value × mj_M) := match i with
  | .multianewarray ix dm => match ma ix, st with
    | some ki, .int k :: .int n :: r => if dm = 2 ∧ (ki = 100 ∨ ki = 101) ∧ ¬ n < 0 ∧ ¬ k < 0 ∧ n.toNatClampNeg ≤ 1000 ∧ k.toNatClampNeg ≤ 100000 ∧ M.1.length + n.toNatClampNeg < 1000000 then some (4, .ref M.1.length :: r, mj_rows M (ki + 3) ki n.toNatClampNeg k.toNatClampNeg) else none
    | _, _ => none
  | _ => none
-- writes in a constructor: a final field of the class itself, a reference
def mj_pvR (M : mj_M) (o k tc : Nat) (v : Value) : Option mj_M := match v with
  | .ref x => if tc = 2 then some (M.1, M.2.1, M.2.2.1, mj_u M.2.2.2 o k (some x)) else none
  | v => mj_pv M o k tc v
def mj_putF (fl : mj_FL) (ci0 : Nat) (i : Instr) (M : mj_M) (st : List Value) : Option (Nat × List Value × mj_M) := match i with
  | .putfield ix => match fl ix, st with
    | some (ci, k, tc, true), v :: .ref o :: r => match mj_len M ci o with
      | some n => if ci = ci0 ∧ ci < 100 ∧ k < n then (mj_pvR M o k tc v).map (fun M' => (3, r, M')) else none
      | none => none
    | _, _ => none
  | _ => none
-- all references are of cells that are there, or outside
def mj_wv (L : Nat) (v : Value) : Prop := ∀ i, v = .ref i → i < L ∨ 1000000 ≤ i
def mj_wM (M : mj_M) : Prop := ∀ a k i, M.2.2.2 a k = some i → i < M.1.length ∨ 1000000 ≤ i
theorem mj_wv_int {L : Nat} (x : Int32) : mj_wv L (.int x) := fun _ h => by cases h
theorem mj_wv_long {L : Nat} (x : Int64) : mj_wv L (.long x) := fun _ h => by cases h
theorem mj_wv_mono {L L' : Nat} {v : Value} (h : mj_wv L v) (hl : L ≤ L') : mj_wv L' v := fun i e => (h i e).elim (fun q => Or.inl (Nat.lt_of_lt_of_le q hl)) Or.inr
def mj_ag (L : Nat) (ad ad' : Nat → Nat) : Prop := ∀ i, i < L ∨ 1000000 ≤ i → ad' i = ad i
theorem mj_ag_rf {L : Nat} {ad : Nat → Nat} : mj_ag L ad ad := fun _ _ => rfl
theorem mj_ag_tr {L L' : Nat} {ad ad' ad2 : Nat → Nat} (h : mj_ag L ad ad') (hl : L ≤ L') (h2 : mj_ag L' ad' ad2) : mj_ag L ad ad2 := fun i hi => (h2 i (hi.elim (fun q => Or.inl (Nat.lt_of_lt_of_le q hl)) Or.inr)).trans (h i hi)
theorem mj_v_ag {L : Nat} {ad ad' : Nat → Nat} {v : Value} (h : mj_ag L ad ad') (hv : mj_wv L v) : mj_v ad' v = mj_v ad v := by
  cases v with
  | ref i => exact congrArg Value.ref (h i (hv i rfl))
  | retAddr x => exact congrArg mj_ua (h 3000000 (Or.inr (by omega)))
  | _ => rfl
theorem mj_s_ag {L : Nat} {ad ad' : Nat → Nat} {st : List Value} (h : mj_ag L ad ad') (hv : ∀ v ∈ st, mj_wv L v) : mj_s ad' st = mj_s ad st := List.map_congr_left (fun v hm => mj_v_ag h (hv v hm))
theorem mj_l_ag {L : Nat} {ad ad' : Nat → Nat} {lv : List (Nat × Value)} (h : mj_ag L ad ad') (hv : ∀ q ∈ lv, mj_wv L q.2) : mj_l ad' lv = mj_l ad lv := List.map_congr_left (fun q hm => by rw [mj_v_ag h (hv q hm)])
theorem mj_map_ag {L : Nat} {ad ad' : Nat → Nat} {x : Option Nat} (h : mj_ag L ad ad') (hx : ∀ i, x = some i → i < L ∨ 1000000 ≤ i) : x.map ad' = x.map ad := by
  cases x with
  | none => rfl
  | some i => exact congrArg some (h i (hx i rfl))
theorem mj_cell_ag {cty : Nat → Nat → FieldType} {cy : Nat → ClassId} {ad ad' : Nat → Nat} {M : mj_M} {L o : Nat} (h : mj_ag L ad ad') (hM : ∀ k i, M.2.2.2 o k = some i → i < L ∨ 1000000 ≤ i) (q : Nat × Nat) : mj_cell cty cy ad' M o q = mj_cell cty cy ad M o q := by
  have e : ∀ j, (M.2.2.2 o j).map ad' = (M.2.2.2 o j).map ad := fun j => mj_map_ag h (fun i hi => hM j i hi)
  have e2 : (fun j => (M.2.2.2 o j).map ad') = (fun j => (M.2.2.2 o j).map ad) := funext e
  have e3 : ∀ tc k, mj_fv ad' M o tc k = mj_fv ad M o tc k := fun tc k => by
    unfold mj_fv
    rw [e k]
  unfold mj_cell
  simp only [e2, e3]
theorem mj_ws_ag {cty : Nat → Nat → FieldType} {cy : Nat → ClassId} {ad ad' : Nat → Nat} {M : mj_M} (h : mj_ag M.1.length ad ad') (hM : mj_wM M) : mj_ws cty cy ad' M = mj_ws cty cy ad M := by
  unfold mj_ws
  refine List.map_congr_left (fun o ho => ?_)
  rw [mj_cell_ag h (fun k i hi => hM o k i hi), h o (Or.inl (List.mem_range.mp ho))]

/-! THE SMALL MACHINE: bytecode over a pure memory, in which a reference is the number of a cell (its id), not its address. mj_ names. -/
/-- a value with an address in place of an id -/
def mj_ua (n : Nat) : Value := match n with
  | 0 => .null
  | t + 1 => .ref t
theorem mj_ua_cat (n : Nat) : (mj_ua n).category = 1 := by cases n <;> rfl
def mj_v (ad : Nat → Nat) (v : Value) : Value := match v with
  | .ref i => .ref (ad i)
  | .int x => .int x
  | .long x => .long x
  | .float x => .float x
  | .double x => .double x
  | .null => .null
  | .retAddr _ => mj_ua (ad 3000000)
theorem mj_v_cat (ad : Nat → Nat) (v : Value) : (mj_v ad v).category = v.category := by
  cases v with
  | retAddr x => exact mj_ua_cat _
  | _ => rfl
def mj_l (ad : Nat → Nat) (l : List (Nat × Value)) : List (Nat × Value) := l.map (fun q => (q.1, mj_v ad q.2))
def mj_s (ad : Nat → Nat) (st : List Value) : List Value := st.map (mj_v ad)
/-- the value of a local -/
def mj_at : List (Nat × Value) → Nat → Option Value
  | [], _ => none
  | q :: r, i => bif q.1 == i then some q.2 else mj_at r i
theorem mj_at_mem {l : List (Nat × Value)} {i : Nat} {v : Value} (h : mj_at l i = some v) : (i, v) ∈ l := by
  induction l with
  | nil => cases h
  | cons q r ih =>
    unfold mj_at at h
    by_cases e : q.1 = i
    · have e2 : (q.1 == i) = true := by simp [e]
      rw [e2] at h
      obtain ⟨a, b⟩ := q
      dsimp only at e
      subst e
      cases h
      exact List.mem_cons_self
    · have e2 : (q.1 == i) = false := by simp [e]
      rw [e2] at h
      exact List.mem_cons_of_mem _ (ih h)
theorem mj_at_ok {ls : Array Slot} {n : Nat} {l : List (Nat × Value)} {ad : Nat → Nat} {i : Nat} {v : Value} (h : lv_has ls n (mj_l ad l)) (hv : mj_at l i = some v) : ls[i]? = some (.val (mj_v ad v)) :=
  h.2.2 (i, mj_v ad v) (List.mem_map.mpr ⟨(i, v), mj_at_mem hv, rfl⟩)
def mj_keep1 (i : Nat) (q : Nat × Value) : Bool := !(q.1 == i) && !(q.1 + 1 == i && q.2.category == 2)
def mj_keep2 (i : Nat) (q : Nat × Value) : Bool := !(q.1 == i) && (!(q.1 == i + 1) && !(q.1 + 1 == i && q.2.category == 2))
theorem mj_l_keep1 (ad : Nat → Nat) (i : Nat) (l : List (Nat × Value)) : (mj_l ad l).filter (fun q => !(q.1 == i) && !(q.1 + 1 == i && q.2.category == 2)) = mj_l ad (l.filter (mj_keep1 i)) := by
  unfold mj_l
  rw [List.filter_map]
  congr 1
  refine List.filter_congr (fun q _ => ?_)
  simp only [Function.comp, mj_v_cat, mj_keep1]
theorem mj_l_keep2 (ad : Nat → Nat) (i : Nat) (l : List (Nat × Value)) : (mj_l ad l).filter (fun q => !(q.1 == i) && (!(q.1 == i + 1) && !(q.1 + 1 == i && q.2.category == 2))) = mj_l ad (l.filter (mj_keep2 i)) := by
  unfold mj_l
  rw [List.filter_map]
  congr 1
  refine List.filter_congr (fun q _ => ?_)
  simp only [Function.comp, mj_v_cat, mj_keep2]
-- the operand stack's own instructions: how long they are, and the stack behind them
def mj_ii (f : Int32 → Int32 → Int32) (st : List Value) : Option (Nat × List Value) := match st with
  | .int y :: .int x :: r => some (1, .int (f x y) :: r)
  | _ => none
def mj_iiD (f : Int32 → Int32 → Int32) (st : List Value) : Option (Nat × List Value) := match st with
  | .int y :: .int x :: r => if y = 0 then none else some (1, .int (f x y) :: r)
  | _ => none
def mj_ll (f : Int64 → Int64 → Int64) (st : List Value) : Option (Nat × List Value) := match st with
  | .long y :: .long x :: r => some (1, .long (f x y) :: r)
  | _ => none
def mj_llD (f : Int64 → Int64 → Int64) (st : List Value) : Option (Nat × List Value) := match st with
  | .long y :: .long x :: r => if y = 0 then none else some (1, .long (f x y) :: r)
  | _ => none
def mj_li (f : Int64 → Int32 → Int64) (st : List Value) : Option (Nat × List Value) := match st with
  | .int y :: .long x :: r => some (1, .long (f x y) :: r)
  | _ => none
def mj_i1 (f : Int32 → Value) (st : List Value) : Option (Nat × List Value) := match st with
  | .int x :: r => some (1, f x :: r)
  | _ => none
def mj_l1 (f : Int64 → Value) (st : List Value) : Option (Nat × List Value) := match st with
  | .long x :: r => some (1, f x :: r)
  | _ => none
def mj_cmp (st : List Value) : Option (Nat × List Value) := match st with
  | .long y :: .long x :: r => some (1, .int (lg_cmp x y) :: r)
  | _ => none
def mj_dup (st : List Value) : Option (Nat × List Value) := match st with
  | v :: r => if v.category = 1 then some (1, v :: v :: r) else none
  | _ => none
def mj_pop (st : List Value) : Option (Nat × List Value) := match st with
  | v :: r => if v.category = 1 then some (1, r) else none
  | _ => none
def mj_dup2 (st : List Value) : Option (Nat × List Value) := match st with
  | v :: w :: r => if v.category = 1 ∧ w.category = 1 then some (1, v :: w :: v :: w :: r) else none
  | _ => none
theorem mj_ii_inv {f : Int32 → Int32 → Int32} {st st' : List Value} {k : Nat} (h : mj_ii f st = some (k, st')) : ∃ x y r, st = .int y :: .int x :: r ∧ k = 1 ∧ st' = .int (f x y) :: r := by
  unfold mj_ii at h
  split at h
  · cases h; exact ⟨_, _, _, rfl, rfl, rfl⟩
  · cases h
theorem mj_iiD_inv {f : Int32 → Int32 → Int32} {st st' : List Value} {k : Nat} (h : mj_iiD f st = some (k, st')) : ∃ x y r, st = .int y :: .int x :: r ∧ ¬ y = 0 ∧ k = 1 ∧ st' = .int (f x y) :: r := by
  unfold mj_iiD at h
  split at h
  · split at h
    · cases h
    · cases h; exact ⟨_, _, _, rfl, by assumption, rfl, rfl⟩
  · cases h
theorem mj_ll_inv {f : Int64 → Int64 → Int64} {st st' : List Value} {k : Nat} (h : mj_ll f st = some (k, st')) : ∃ x y r, st = .long y :: .long x :: r ∧ k = 1 ∧ st' = .long (f x y) :: r := by
  unfold mj_ll at h
  split at h
  · cases h; exact ⟨_, _, _, rfl, rfl, rfl⟩
  · cases h
theorem mj_llD_inv {f : Int64 → Int64 → Int64} {st st' : List Value} {k : Nat} (h : mj_llD f st = some (k, st')) : ∃ x y r, st = .long y :: .long x :: r ∧ ¬ y = 0 ∧ k = 1 ∧ st' = .long (f x y) :: r := by
  unfold mj_llD at h
  split at h
  · split at h
    · cases h
    · cases h; exact ⟨_, _, _, rfl, by assumption, rfl, rfl⟩
  · cases h
theorem mj_li_inv {f : Int64 → Int32 → Int64} {st st' : List Value} {k : Nat} (h : mj_li f st = some (k, st')) : ∃ x y r, st = .int y :: .long x :: r ∧ k = 1 ∧ st' = .long (f x y) :: r := by
  unfold mj_li at h
  split at h
  · cases h; exact ⟨_, _, _, rfl, rfl, rfl⟩
  · cases h
theorem mj_i1_inv {f : Int32 → Value} {st st' : List Value} {k : Nat} (h : mj_i1 f st = some (k, st')) : ∃ x r, st = .int x :: r ∧ k = 1 ∧ st' = f x :: r := by
  unfold mj_i1 at h
  split at h
  · cases h; exact ⟨_, _, rfl, rfl, rfl⟩
  · cases h
theorem mj_l1_inv {f : Int64 → Value} {st st' : List Value} {k : Nat} (h : mj_l1 f st = some (k, st')) : ∃ x r, st = .long x :: r ∧ k = 1 ∧ st' = f x :: r := by
  unfold mj_l1 at h
  split at h
  · cases h; exact ⟨_, _, rfl, rfl, rfl⟩
  · cases h
def mj_op (i : Instr) (st : List Value) : Option (Nat × List Value) := match i with
  | .iconst n => some (1, .int (Int32.ofInt n) :: st)
  | .bipush n => some (2, .int (Int8.ofInt n).toInt32 :: st)
  | .sipush n => some (3, .int (Int16.ofInt n).toInt32 :: st)
  | .lconst n => some (1, .long (Int64.ofNat (n : Nat)) :: st)
  | .iadd => mj_ii (fun x y => x + y) st
  | .isub => mj_ii (fun x y => x - y) st
  | .imul => mj_ii (fun x y => x * y) st
  | .iand => mj_ii (fun x y => x &&& y) st
  | .ior => mj_ii (fun x y => x ||| y) st
  | .ixor => mj_ii (fun x y => x ^^^ y) st
  | .ishl => mj_ii (fun x y => x <<< (y &&& 31)) st
  | .ishr => mj_ii (fun x y => x >>> (y &&& 31)) st
  | .iushr => mj_ii (fun x y => (x.toUInt32 >>> (y.toUInt32 &&& Int32.toUInt32 31)).toInt32) st
  | .idiv => mj_iiD (fun x y => x / y) st
  | .irem => mj_iiD (fun x y => x - x / y * y) st
  | .ineg => mj_i1 (fun x => .int (-x)) st
  | .i2l => mj_i1 (fun x => .long x.toInt64) st
  | .i2b => mj_i1 (fun x => .int x.toInt8.toInt32) st
  | .i2s => mj_i1 (fun x => .int x.toInt16.toInt32) st
  | .i2c => mj_i1 (fun x => .int (x.toUInt32 % 65536).toInt32) st
  | .l2i => mj_l1 (fun x => .int x.toInt32) st
  | .ladd => mj_ll (fun x y => x + y) st
  | .lsub => mj_ll (fun x y => x - y) st
  | .lmul => mj_ll (fun x y => x * y) st
  | .lor => mj_ll (fun x y => x ||| y) st
  | .lxor => mj_ll (fun x y => x ^^^ y) st
  | .ldiv => mj_llD (fun x y => x / y) st
  | .lrem => mj_llD (fun x y => x - x / y * y) st
  | .lshl => mj_li (fun x y => x <<< (y.toInt64 &&& 63)) st
  | .lshr => mj_li (fun x y => x >>> (y.toInt64 &&& 63)) st
  | .lcmp => mj_cmp st
  | .dup => mj_dup st
  | .pop => mj_pop st
  | .dup2 => mj_dup2 st
  | _ => none
section MJA
variable {p : Program} {l : Launch} {e : Env} {R : Room} {s : State} {m : MethodId} {args : Array Value} {below : List Frame} {meth : Method} {c : Code} {H : Heap} {locs : List Loc} {cells slots : Nat} {Q : State → Prop}
variable {cc : ByteArray} {pc : Nat} {ls : Array Slot}
set_option maxHeartbeats 4000000 in
theorem mj_op_ok (hexec : p.tables.exec = Jvm.exec) (hb : c.code = cc) (ad : Nat → Nat) {i : Instr} {k : Nat} {st st' : List Value} (h : mj_op i st = some (k, st')) (hdg : decode cc pc = .ok (i, k))
    (kk : W p l e R s m args below meth c H locs cells slots Q (F0 m (pc + k) ls (mj_s ad st'))) : W p l e R s m args below meth c H locs cells slots Q (F0 m pc ls (mj_s ad st)) := by
  unfold mj_op at h
  split at h
  · cases h; exact lv_iconst hexec hb hdg rfl kk
  · cases h; exact lv_bipush hexec hb hdg rfl kk
  · cases h; exact lv_sipush hexec hb hdg rfl kk
  · cases h; exact lv_lconst hexec hb hdg rfl kk
  · obtain ⟨x, y, r, rfl, rfl, rfl⟩ := mj_ii_inv h; exact lv_iadd hexec hb hdg kk
  · obtain ⟨x, y, r, rfl, rfl, rfl⟩ := mj_ii_inv h; exact lv_isub hexec hb hdg kk
  · obtain ⟨x, y, r, rfl, rfl, rfl⟩ := mj_ii_inv h; exact lv_imul hexec hb hdg kk
  · obtain ⟨x, y, r, rfl, rfl, rfl⟩ := mj_ii_inv h; exact lv_iand hexec hb hdg kk
  · obtain ⟨x, y, r, rfl, rfl, rfl⟩ := mj_ii_inv h; exact lv_ior hexec hb hdg kk
  · obtain ⟨x, y, r, rfl, rfl, rfl⟩ := mj_ii_inv h; exact lv_ixor hexec hb hdg kk
  · obtain ⟨x, y, r, rfl, rfl, rfl⟩ := mj_ii_inv h; exact lv_ishl hexec hb hdg kk
  · obtain ⟨x, y, r, rfl, rfl, rfl⟩ := mj_ii_inv h; exact lv_ishr hexec hb hdg kk
  · obtain ⟨x, y, r, rfl, rfl, rfl⟩ := mj_ii_inv h; exact lv_iushr hexec hb hdg rfl kk
  · obtain ⟨x, y, r, rfl, h0, rfl, rfl⟩ := mj_iiD_inv h; exact lv_idiv hexec hb hdg h0 kk
  · obtain ⟨x, y, r, rfl, h0, rfl, rfl⟩ := mj_iiD_inv h; exact lv_irem hexec hb hdg h0 kk
  · obtain ⟨x, r, rfl, rfl, rfl⟩ := mj_i1_inv h; exact lv_ineg hexec hb hdg kk
  · obtain ⟨x, r, rfl, rfl, rfl⟩ := mj_i1_inv h; exact lv_i2l hexec hb hdg rfl kk
  · obtain ⟨x, r, rfl, rfl, rfl⟩ := mj_i1_inv h; exact lv_i2b hexec hb hdg rfl kk
  · obtain ⟨x, r, rfl, rfl, rfl⟩ := mj_i1_inv h; exact lv_i2s hexec hb hdg rfl kk
  · obtain ⟨x, r, rfl, rfl, rfl⟩ := mj_i1_inv h; exact lv_i2c hexec hb hdg rfl kk
  · obtain ⟨x, r, rfl, rfl, rfl⟩ := mj_l1_inv h; exact lv_l2i hexec hb hdg rfl kk
  · obtain ⟨x, y, r, rfl, rfl, rfl⟩ := mj_ll_inv h; exact lv_ladd hexec hb hdg kk
  · obtain ⟨x, y, r, rfl, rfl, rfl⟩ := mj_ll_inv h; exact lv_lsub hexec hb hdg kk
  · obtain ⟨x, y, r, rfl, rfl, rfl⟩ := mj_ll_inv h; exact lv_lmul hexec hb hdg kk
  · obtain ⟨x, y, r, rfl, rfl, rfl⟩ := mj_ll_inv h; exact lv_lor hexec hb hdg kk
  · obtain ⟨x, y, r, rfl, rfl, rfl⟩ := mj_ll_inv h; exact lv_lxor hexec hb hdg kk
  · obtain ⟨x, y, r, rfl, h0, rfl, rfl⟩ := mj_llD_inv h; exact lv_ldiv hexec hb hdg h0 kk
  · obtain ⟨x, y, r, rfl, h0, rfl, rfl⟩ := mj_llD_inv h; exact lv_lrem hexec hb hdg h0 kk
  · obtain ⟨x, y, r, rfl, rfl, rfl⟩ := mj_li_inv h; exact lv_lshl hexec hb hdg rfl kk
  · obtain ⟨x, y, r, rfl, rfl, rfl⟩ := mj_li_inv h; exact lv_lshr hexec hb hdg rfl kk
  · unfold mj_cmp at h; split at h
    · cases h; exact W.lcmp hexec hb hdg kk
    · cases h
  · unfold mj_dup at h; split at h
    · split at h
      · cases h; exact lv_dup hexec hb hdg (by rw [mj_v_cat]; assumption) kk
      · cases h
    · cases h
  · unfold mj_pop at h; split at h
    · split at h
      · cases h; exact lv_pop hexec hb hdg (by rw [mj_v_cat]; assumption) kk
      · cases h
    · cases h
  · unfold mj_dup2 at h; split at h
    · split at h
      · rename_i hc; cases h; exact lv_dup2_11 hexec hb hdg (by rw [mj_v_cat]; exact hc.1) (by rw [mj_v_cat]; exact hc.2) kk
      · cases h
    · cases h
  · cases h
end MJA

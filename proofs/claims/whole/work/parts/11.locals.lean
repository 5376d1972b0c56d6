/-! THE SMALL MACHINE, 2: locals, jumps -/
def mj_ldi (len i : Nat) (lv : List (Nat × Value)) (st : List Value) : Option (Nat × List (Nat × Value) × List Value) := match mj_at lv i with
  | some (.int x) => some (len, lv, .int x :: st)
  | _ => none
def mj_ldl (len i : Nat) (lv : List (Nat × Value)) (st : List Value) : Option (Nat × List (Nat × Value) × List Value) := match mj_at lv i with
  | some (.long x) => some (len, lv, .long x :: st)
  | _ => none
def mj_lda (len i : Nat) (lv : List (Nat × Value)) (st : List Value) : Option (Nat × List (Nat × Value) × List Value) := match mj_at lv i with
  | some (.ref x) => some (len, lv, .ref x :: st)
  | _ => none
def mj_sti (len i nL : Nat) (lv : List (Nat × Value)) (st : List Value) : Option (Nat × List (Nat × Value) × List Value) := match st with
  | .int x :: r => if i < nL then some (len, (i, .int x) :: lv.filter (mj_keep1 i), r) else none
  | _ => none
def mj_stl (len i nL : Nat) (lv : List (Nat × Value)) (st : List Value) : Option (Nat × List (Nat × Value) × List Value) := match st with
  | .long x :: r => if i + 1 < nL then some (len, (i, .long x) :: lv.filter (mj_keep2 i), r) else none
  | _ => none
def mj_sta (len i nL : Nat) (lv : List (Nat × Value)) (st : List Value) : Option (Nat × List (Nat × Value) × List Value) := match st with
  | .ref x :: r => if i < nL then some (len, (i, .ref x) :: lv.filter (mj_keep1 i), r) else none
  | _ => none
def mj_inc (i nL : Nat) (n : Int) (lv : List (Nat × Value)) (st : List Value) : Option (Nat × List (Nat × Value) × List Value) := match mj_at lv i with
  | some (.int x) => if i < nL then some (3, (i, .int (x + Int32.ofInt n)) :: lv.filter (mj_keep1 i), st) else none
  | _ => none
def mj_loc (i : Instr) (nL : Nat) (lv : List (Nat × Value)) (st : List Value) : Option (Nat × List (Nat × Value) × List Value) := match i with
  | .iload_n k => mj_ldi 1 (k : Nat) lv st
  | .iload k => mj_ldi 2 k lv st
  | .lload_n k => mj_ldl 1 (k : Nat) lv st
  | .lload k => mj_ldl 2 k lv st
  | .aload_n k => mj_lda 1 (k : Nat) lv st
  | .aload k => mj_lda 2 k lv st
  | .istore_n k => mj_sti 1 (k : Nat) nL lv st
  | .istore k => mj_sti 2 k nL lv st
  | .lstore_n k => mj_stl 1 (k : Nat) nL lv st
  | .lstore k => mj_stl 2 k nL lv st
  | .astore_n k => mj_sta 1 (k : Nat) nL lv st
  | .astore k => mj_sta 2 k nL lv st
  | .iinc k n => mj_inc k nL n lv st
  | _ => none
def mj_c (k : Jvm.ClassFile.Cond) (x y : Int32) : Bool := match k with
  | .eq => decide (x = y)
  | .ne => decide (¬ x = y)
  | .lt => decide (x < y)
  | .ge => decide (y ≤ x)
  | .gt => decide (y < x)
  | .le => decide (x ≤ y)
def mj_go (pc : Nat) (off : Int) (b : Bool) (st : List Value) : Option (Nat × List Value) := if 0 ≤ (pc : Int) + off then some (bif b then ((pc : Int) + off).toNat else pc + 3, st) else none
/-- jumps: where it goes on, and the stack; n: how long the instruction is -/
def mj_br (i : Instr) (n pc : Nat) (st : List Value) : Option (Nat × List Value) := match i with
  | .goto off => if n = 3 then mj_go pc off true st else none
  | .ifCond k off => match st with
    | .int x :: r => if n = 3 then mj_go pc off (mj_c k x 0) r else none
    | _ => none
  | .if_icmp k off => match st with
    | .int y :: .int x :: r => if n = 3 then mj_go pc off (mj_c k x y) r else none
    | _ => none
  | .tableswitch d lo hi offs => match st with
    | .int x :: r => if x.toInt < lo ∨ hi < x.toInt then mj_go pc d true r else match offs[(x.toInt - lo).toNat]? with
      | some off => mj_go pc off true r
      | none => none
    | _ => none
  | .lookupswitch d ps => match st with
    | .int x :: r => if (ps.toList.zip (ps.toList.drop 1)).all (fun (a, next) => a.1 < next.1) = true then mj_go pc (Op.lookupswitch.offset ps.toList d x.toInt) true r else none
    | _ => none
  | _ => none
theorem mj_go_inv {pc pc' : Nat} {off : Int} {b : Bool} {st st' : List Value} (h : mj_go pc off b st = some (pc', st')) : (∃ tgt : Nat, (pc : Int) + off = (tgt : Int) ∧ pc' = bif b then tgt else pc + 3) ∧ st' = st := by
  unfold mj_go at h
  split at h
  · rename_i h0
    cases h
    exact ⟨⟨((pc : Int) + off).toNat, (Int.toNat_of_nonneg h0).symm, rfl⟩, rfl⟩
  · cases h
section MJB
variable {p : Program} {l : Launch} {e : Env} {R : Room} {s : State} {m : MethodId} {args : Array Value} {below : List Frame} {meth : Method} {c : Code} {H : Heap} {locs : List Loc} {cells slots : Nat} {Q : State → Prop}
variable {cc : ByteArray} {pc : Nat} {ls : Array Slot}
theorem mj_loc_ok (hexec : p.tables.exec = Jvm.exec) (hb : c.code = cc) (ad : Nat → Nat) {i : Instr} {k nL : Nat} {lv lv' : List (Nat × Value)} {st st' : List Value} (h : mj_loc i nL lv st = some (k, lv', st')) (hdg : decode cc pc = .ok (i, k)) (hl : lv_has ls nL (mj_l ad lv))
    (kk : ∀ ls' : Array Slot, lv_has ls' nL (mj_l ad lv') → W p l e R s m args below meth c H locs cells slots Q (F0 m (pc + k) ls' (mj_s ad st'))) : W p l e R s m args below meth c H locs cells slots Q (F0 m pc ls (mj_s ad st)) := by
  unfold mj_loc at h
  split at h
  · unfold mj_ldi at h
    split at h
    · rename_i hv
      cases h
      exact lv_iload_n hexec hb hdg rfl (mj_at_ok hl hv) (kk _ hl)
    · cases h
  · unfold mj_ldi at h
    split at h
    · rename_i hv
      cases h
      exact lv_iload hexec hb hdg (mj_at_ok hl hv) (kk _ hl)
    · cases h
  · unfold mj_ldl at h
    split at h
    · rename_i hv
      cases h
      exact lv_lload_n hexec hb hdg rfl (mj_at_ok hl hv) (kk _ hl)
    · cases h
  · unfold mj_ldl at h
    split at h
    · rename_i hv
      cases h
      exact lv_lload hexec hb hdg (mj_at_ok hl hv) (kk _ hl)
    · cases h
  · unfold mj_lda at h
    split at h
    · rename_i hv
      cases h
      exact lv_aload_n hexec hb hdg rfl (mj_at_ok hl hv) (kk _ hl)
    · cases h
  · unfold mj_lda at h
    split at h
    · rename_i hv
      cases h
      exact lv_aload hexec hb hdg (mj_at_ok hl hv) (kk _ hl)
    · cases h
  · unfold mj_sti at h
    split at h
    · split at h
      · rename_i hn
        cases h
        exact lv_istore_n hexec hb hdg rfl hl hn rfl (fun ls' hl' => kk ls' (by rw [mj_l_keep1] at hl'; exact hl'))
      · cases h
    · cases h
  · unfold mj_sti at h
    split at h
    · split at h
      · rename_i hn
        cases h
        exact lv_istore hexec hb hdg hl hn rfl (fun ls' hl' => kk ls' (by rw [mj_l_keep1] at hl'; exact hl'))
      · cases h
    · cases h
  · unfold mj_stl at h
    split at h
    · split at h
      · rename_i hn
        cases h
        exact lv_lstore_n hexec hb hdg rfl hl hn rfl (fun ls' hl' => kk ls' (by rw [mj_l_keep2] at hl'; exact hl'))
      · cases h
    · cases h
  · unfold mj_stl at h
    split at h
    · split at h
      · rename_i hn
        cases h
        exact lv_lstore hexec hb hdg hl hn rfl (fun ls' hl' => kk ls' (by rw [mj_l_keep2] at hl'; exact hl'))
      · cases h
    · cases h
  · unfold mj_sta at h
    split at h
    · split at h
      · rename_i hn
        cases h
        exact lv_astore_n hexec hb hdg rfl hl hn rfl (fun ls' hl' => kk ls' (by rw [mj_l_keep1] at hl'; exact hl'))
      · cases h
    · cases h
  · unfold mj_sta at h
    split at h
    · split at h
      · rename_i hn
        cases h
        exact lv_astore hexec hb hdg hl hn rfl (fun ls' hl' => kk ls' (by rw [mj_l_keep1] at hl'; exact hl'))
      · cases h
    · cases h
  · unfold mj_inc at h
    split at h
    · rename_i hv
      split at h
      · rename_i hn
        cases h
        obtain ⟨q, hq⟩ := List.getElem?_of_mem (List.mem_map.mpr ⟨_, mj_at_mem hv, rfl⟩ : _ ∈ mj_l ad lv)
        exact lv_iinc hexec hb hdg hl hq rfl hn rfl (fun ls' hl' => kk ls' (by rw [mj_l_keep1] at hl'; exact hl'))
      · cases h
    · cases h
  · cases h
theorem mj_if1 (hexec : p.tables.exec = Jvm.exec) (hb : c.code = cc) (k : Jvm.ClassFile.Cond) {off : Int} {tgt : Nat} {x : Int32} {rest : List Value} (hdg : decode cc pc = .ok (.ifCond k off, 3)) (ht : (pc : Int) + off = (tgt : Int))
    (kk : W p l e R s m args below meth c H locs cells slots Q (F0 m (bif mj_c k x 0 then tgt else pc + 3) ls rest)) : W p l e R s m args below meth c H locs cells slots Q (F0 m pc ls (.int x :: rest)) := by
  cases k
  · exact lv_if_eq hexec hb hdg ht (fun hc => by have e9 : mj_c .eq x 0 = true := decide_eq_true hc; rw [e9] at kk; exact kk) (fun hc => by have e9 : mj_c .eq x 0 = false := decide_eq_false hc; rw [e9] at kk; exact kk)
  · exact lv_if_ne hexec hb hdg ht (fun hc => by have e9 : mj_c .ne x 0 = true := decide_eq_true hc; rw [e9] at kk; exact kk) (fun hc => by have e9 : mj_c .ne x 0 = false := decide_eq_false (fun q => q hc); rw [e9] at kk; exact kk)
  · exact lv_if_lt hexec hb hdg ht (fun hc => by have e9 : mj_c .lt x 0 = true := decide_eq_true hc; rw [e9] at kk; exact kk) (fun hc => by have e9 : mj_c .lt x 0 = false := decide_eq_false hc; rw [e9] at kk; exact kk)
  · exact lv_if_ge hexec hb hdg ht (fun hc => by have e9 : mj_c .ge x 0 = true := decide_eq_true hc; rw [e9] at kk; exact kk) (fun hc => by have e9 : mj_c .ge x 0 = false := decide_eq_false hc; rw [e9] at kk; exact kk)
  · exact lv_if_gt hexec hb hdg ht (fun hc => by have e9 : mj_c .gt x 0 = true := decide_eq_true hc; rw [e9] at kk; exact kk) (fun hc => by have e9 : mj_c .gt x 0 = false := decide_eq_false hc; rw [e9] at kk; exact kk)
  · exact lv_if_le hexec hb hdg ht (fun hc => by have e9 : mj_c .le x 0 = true := decide_eq_true hc; rw [e9] at kk; exact kk) (fun hc => by have e9 : mj_c .le x 0 = false := decide_eq_false hc; rw [e9] at kk; exact kk)
theorem mj_if2 (hexec : p.tables.exec = Jvm.exec) (hb : c.code = cc) (k : Jvm.ClassFile.Cond) {off : Int} {tgt : Nat} {x y : Int32} {rest : List Value} (hdg : decode cc pc = .ok (.if_icmp k off, 3)) (ht : (pc : Int) + off = (tgt : Int))
    (kk : W p l e R s m args below meth c H locs cells slots Q (F0 m (bif mj_c k x y then tgt else pc + 3) ls rest)) : W p l e R s m args below meth c H locs cells slots Q (F0 m pc ls (.int y :: .int x :: rest)) := by
  cases k
  · exact lv_icmp_eq hexec hb hdg ht (fun hc => by have e9 : mj_c .eq x y = true := decide_eq_true hc; rw [e9] at kk; exact kk) (fun hc => by have e9 : mj_c .eq x y = false := decide_eq_false hc; rw [e9] at kk; exact kk)
  · exact lv_icmp_ne hexec hb hdg ht (fun hc => by have e9 : mj_c .ne x y = true := decide_eq_true hc; rw [e9] at kk; exact kk) (fun hc => by have e9 : mj_c .ne x y = false := decide_eq_false (fun q => q hc); rw [e9] at kk; exact kk)
  · exact lv_icmp_lt hexec hb hdg ht (fun hc => by have e9 : mj_c .lt x y = true := decide_eq_true hc; rw [e9] at kk; exact kk) (fun hc => by have e9 : mj_c .lt x y = false := decide_eq_false hc; rw [e9] at kk; exact kk)
  · exact lv_icmp_ge hexec hb hdg ht (fun hc => by have e9 : mj_c .ge x y = true := decide_eq_true hc; rw [e9] at kk; exact kk) (fun hc => by have e9 : mj_c .ge x y = false := decide_eq_false hc; rw [e9] at kk; exact kk)
  · exact lv_icmp_gt hexec hb hdg ht (fun hc => by have e9 : mj_c .gt x y = true := decide_eq_true hc; rw [e9] at kk; exact kk) (fun hc => by have e9 : mj_c .gt x y = false := decide_eq_false hc; rw [e9] at kk; exact kk)
  · exact lv_icmp_le hexec hb hdg ht (fun hc => by have e9 : mj_c .le x y = true := decide_eq_true hc; rw [e9] at kk; exact kk) (fun hc => by have e9 : mj_c .le x y = false := decide_eq_false hc; rw [e9] at kk; exact kk)
theorem mj_br_ok (hexec : p.tables.exec = Jvm.exec) (hb : c.code = cc) (ad : Nat → Nat) {i : Instr} {n pc' : Nat} {st st' : List Value} (h : mj_br i n pc st = some (pc', st')) (hdg : decode cc pc = .ok (i, n))
    (kk : W p l e R s m args below meth c H locs cells slots Q (F0 m pc' ls (mj_s ad st'))) : W p l e R s m args below meth c H locs cells slots Q (F0 m pc ls (mj_s ad st)) := by
  unfold mj_br at h
  split at h
  · split at h
    · rename_i hn
      subst hn
      obtain ⟨⟨tgt, ht, rfl⟩, rfl⟩ := mj_go_inv h
      exact lv_goto hexec hb hdg ht kk
    · cases h
  · split at h
    · split at h
      · rename_i hn
        subst hn
        obtain ⟨⟨tgt, ht, rfl⟩, rfl⟩ := mj_go_inv h
        exact mj_if1 hexec hb _ hdg ht kk
      · cases h
    · cases h
  · split at h
    · split at h
      · rename_i hn
        subst hn
        obtain ⟨⟨tgt, ht, rfl⟩, rfl⟩ := mj_go_inv h
        exact mj_if2 hexec hb _ hdg ht kk
      · cases h
    · cases h
  · split at h
    · split at h
      · rename_i ho
        obtain ⟨⟨tgt, ht, rfl⟩, rfl⟩ := mj_go_inv h
        exact lv_tableOut hexec hb hdg ho ht kk
      · rename_i ho
        split at h
        · rename_i off hf
          obtain ⟨⟨tgt, ht, rfl⟩, rfl⟩ := mj_go_inv h
          exact lv_tableIn hexec hb hdg (fun q => ho (Or.inl q)) (fun q => ho (Or.inr q)) hf ht kk
        · cases h
    · cases h
  · split at h
    · split at h
      · rename_i hp
        obtain ⟨⟨tgt, ht, rfl⟩, rfl⟩ := mj_go_inv h
        exact lv_lookup hexec hb hdg hp rfl ht kk
      · cases h
    · cases h
  · cases h
end MJB

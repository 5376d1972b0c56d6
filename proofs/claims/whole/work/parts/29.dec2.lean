/-! DECODING, 2: a method's instructions against its bytes -/
def mj_p0 (i : Instr) : Option Nat := match i with
  | .iconst (-1) => some 2
  | .iconst 0 => some 3
  | .iconst 1 => some 4
  | .iconst 2 => some 5
  | .iconst 3 => some 6
  | .iconst 4 => some 7
  | .iconst 5 => some 8
  | .lconst 0 => some 9
  | .lconst 1 => some 10
  | .iload_n 0 => some 26
  | .iload_n 1 => some 27
  | .iload_n 2 => some 28
  | .iload_n 3 => some 29
  | .lload_n 0 => some 30
  | .lload_n 1 => some 31
  | .lload_n 2 => some 32
  | .lload_n 3 => some 33
  | .aload_n 0 => some 42
  | .aload_n 1 => some 43
  | .aload_n 2 => some 44
  | .aload_n 3 => some 45
  | .istore_n 0 => some 59
  | .istore_n 1 => some 60
  | .istore_n 2 => some 61
  | .istore_n 3 => some 62
  | .lstore_n 0 => some 63
  | .lstore_n 1 => some 64
  | .lstore_n 2 => some 65
  | .lstore_n 3 => some 66
  | .astore_n 0 => some 75
  | .astore_n 1 => some 76
  | .astore_n 2 => some 77
  | .astore_n 3 => some 78
  | .aaload => some 50
  | .arraylength => some 190
  | .athrow => some 191
  | .baload => some 51
  | .bastore => some 84
  | .dup => some 89
  | .dup2 => some 92
  | .i2b => some 145
  | .i2c => some 146
  | .i2l => some 133
  | .i2s => some 147
  | .iadd => some 96
  | .iaload => some 46
  | .iand => some 126
  | .iastore => some 79
  | .idiv => some 108
  | .imul => some 104
  | .ineg => some 116
  | .ior => some 128
  | .irem => some 112
  | .ireturn => some 172
  | .ishl => some 120
  | .ishr => some 122
  | .isub => some 100
  | .iushr => some 124
  | .ixor => some 130
  | .l2i => some 136
  | .ladd => some 97
  | .laload => some 47
  | .lastore => some 80
  | .lcmp => some 148
  | .ldiv => some 109
  | .lmul => some 105
  | .lor => some 129
  | .lrem => some 113
  | .lreturn => some 173
  | .lshl => some 121
  | .lshr => some 123
  | .lsub => some 101
  | .lxor => some 131
  | .pop => some 87
  | .return_ => some 177
  | _ => none
def mj_p1 (i : Instr) : Option (Nat × Nat) := match i with
  | .iload x => some (21, x)
  | .lload x => some (22, x)
  | .aload x => some (25, x)
  | .istore x => some (54, x)
  | .lstore x => some (55, x)
  | .astore x => some (58, x)
  | .ldc x => some (18, x)
  | _ => none
def mj_p2 (i : Instr) : Option (Nat × Nat) := match i with
  | .getfield x => some (180, x)
  | .putfield x => some (181, x)
  | .getstatic x => some (178, x)
  | .invokevirtual x => some (182, x)
  | .invokespecial x => some (183, x)
  | .invokestatic x => some (184, x)
  | .new x => some (187, x)
  | .ldc_w x => some (19, x)
  | .ldc2_w x => some (20, x)
  | _ => none
def mj_p3 (i : Instr) : Option (Nat × Int) := match i with
  | .sipush x => some (17, x)
  | .goto x => some (167, x)
  | .ifCond .eq x => some (153, x)
  | .ifCond .ne x => some (154, x)
  | .ifCond .lt x => some (155, x)
  | .ifCond .ge x => some (156, x)
  | .ifCond .gt x => some (157, x)
  | .ifCond .le x => some (158, x)
  | .if_icmp .eq x => some (159, x)
  | .if_icmp .ne x => some (160, x)
  | .if_icmp .lt x => some (161, x)
  | .if_icmp .ge x => some (162, x)
  | .if_icmp .gt x => some (163, x)
  | .if_icmp .le x => some (164, x)
  | _ => none
def mj_p4 (i : Instr) : Option Int := match i with
  | .bipush x => some x
  | _ => none
def mj_p5 (i : Instr) : Option (Nat × Int) := match i with
  | .iinc x y => some (x, y)
  | _ => none
theorem mj_p0_ok {i : Instr} {b : Nat} (h : mj_p0 i = some b) (pc : Nat) : ∃ f : Nat → Decoder Instr, Decoder.instr pc = ((Reader.u1 : Decoder Nat) >>= f) ∧ f b = Pure.pure i := by
  unfold mj_p0 at h
  split at h <;> first | (cases h; exact ⟨_, rfl, rfl⟩) | cases h
theorem mj_p1_ok {i : Instr} {b x : Nat} (h : mj_p1 i = some (b, x)) (pc : Nat) : ∃ (f : Nat → Decoder Instr) (g : Nat → Instr), Decoder.instr pc = ((Reader.u1 : Decoder Nat) >>= f) ∧ f b = ((Reader.u1 : Decoder Nat) >>= fun x => Pure.pure (g x)) ∧ g x = i := by
  unfold mj_p1 at h
  split at h <;> first | (cases h; exact ⟨_, _, rfl, rfl, rfl⟩) | cases h
theorem mj_p2_ok {i : Instr} {b x : Nat} (h : mj_p2 i = some (b, x)) (pc : Nat) : ∃ (f : Nat → Decoder Instr) (g : Nat → Instr), Decoder.instr pc = ((Reader.u1 : Decoder Nat) >>= f) ∧ f b = ((Reader.u2 : Decoder Nat) >>= fun x => Pure.pure (g x)) ∧ g x = i := by
  unfold mj_p2 at h
  split at h <;> first | (cases h; exact ⟨_, _, rfl, rfl, rfl⟩) | cases h
theorem mj_p3_ok {i : Instr} {b : Nat} {x : Int} (h : mj_p3 i = some (b, x)) (pc : Nat) : ∃ (f : Nat → Decoder Instr) (g : Int → Instr), Decoder.instr pc = ((Reader.u1 : Decoder Nat) >>= f) ∧ f b = ((Reader.s2 : Decoder Int) >>= fun x => Pure.pure (g x)) ∧ g x = i := by
  unfold mj_p3 at h
  split at h <;> first | (cases h; exact ⟨_, _, rfl, rfl, rfl⟩) | cases h
theorem mj_p4_ok {i : Instr} {x : Int} (h : mj_p4 i = some x) (pc : Nat) : ∃ (f : Nat → Decoder Instr) (g : Int → Instr), Decoder.instr pc = ((Reader.u1 : Decoder Nat) >>= f) ∧ f 16 = ((Reader.s1 : Decoder Int) >>= fun x => Pure.pure (g x)) ∧ g x = i := by
  unfold mj_p4 at h
  split at h <;> first | (cases h; exact ⟨_, _, rfl, rfl, rfl⟩) | cases h
theorem mj_p5_ok {i : Instr} {x : Nat} {y : Int} (h : mj_p5 i = some (x, y)) (pc : Nat) : ∃ (f : Nat → Decoder Instr) (g : Nat → Int → Instr), Decoder.instr pc = ((Reader.u1 : Decoder Nat) >>= f) ∧ f 132 = ((Reader.u1 : Decoder Nat) >>= fun x => (Reader.s1 : Decoder Int) >>= fun y => Pure.pure (g x y)) ∧ g x y = i := by
  unfold mj_p5 at h
  split at h <;> first | (cases h; exact ⟨_, _, rfl, rfl, rfl⟩) | cases h
/-- is it this instruction, by the bytes from its place on -/
def mj_dq (i : Instr) (k : Nat) (bs : List Nat) : Bool := match mj_p0 i with
  | some b => match bs with
    | b0 :: _ => b0 == b && k == 1
    | _ => false
  | none => match mj_p2 i with
    | some q => match bs with
      | b0 :: x :: y :: _ => b0 == q.1 && (x * 256 + y == q.2 && k == 3)
      | _ => false
    | none => match mj_p3 i with
      | some q => match bs with
        | b0 :: x :: y :: _ => b0 == q.1 && (Reader.signed 16 (x * 256 + y) == q.2 && k == 3)
        | _ => false
      | none => match mj_p1 i with
        | some q => match bs with
          | b0 :: x :: _ => b0 == q.1 && (x == q.2 && k == 2)
          | _ => false
        | none => match mj_p4 i with
          | some q => match bs with
            | b0 :: x :: _ => b0 == 16 && (Reader.signed 8 x == q && k == 2)
            | _ => false
          | none => match mj_p5 i with
            | some q => match bs with
              | b0 :: x :: y :: _ => b0 == 132 && (x == q.1 && (Reader.signed 8 y == q.2 && k == 3))
              | _ => false
            | none => false
theorem mj_dq_ok {code : ByteArray} {pc k : Nat} {i : Instr} {bs : List Nat} (hb : ∀ n, mj_by code (pc + n) = bs[n]?) (h : mj_dq i k bs = true) : decode code pc = .ok (i, k) := by
  unfold mj_dq at h
  split at h
  · rename_i b hp
    split at h
    · rename_i b0 r
      simp only [Bool.and_eq_true, beq_iff_eq] at h
      obtain ⟨rfl, rfl⟩ := h
      obtain ⟨f, hf, hg⟩ := mj_p0_ok hp pc
      exact mj_d0 (hb 0) f hf hg
    · cases h
  · split at h
    · rename_i q hp
      split at h
      · rename_i b0 x y r
        simp only [Bool.and_eq_true, beq_iff_eq] at h
        obtain ⟨h1, h2, rfl⟩ := h
        obtain ⟨f, g, hf, hg, hi⟩ := mj_p2_ok (b := q.1) (x := q.2) hp pc
        rw [← hi, ← h2]
        rw [← h1] at hg
        exact mj_d2u (hb 0) (hb 1) (hb 2) f hf hg
      · cases h
    · split at h
      · rename_i q hp
        split at h
        · rename_i b0 x y r
          simp only [Bool.and_eq_true, beq_iff_eq] at h
          obtain ⟨h1, h2, rfl⟩ := h
          obtain ⟨f, g, hf, hg, hi⟩ := mj_p3_ok (b := q.1) (x := q.2) hp pc
          rw [← hi, ← h2]
          rw [← h1] at hg
          exact mj_d2s (hb 0) (hb 1) (hb 2) f hf hg
        · cases h
      · split at h
        · rename_i q hp
          split at h
          · rename_i b0 x r
            simp only [Bool.and_eq_true, beq_iff_eq] at h
            obtain ⟨h1, h2, rfl⟩ := h
            obtain ⟨f, g, hf, hg, hi⟩ := mj_p1_ok (b := q.1) (x := q.2) hp pc
            rw [← hi, ← h2]
            rw [← h1] at hg
            exact mj_d1u (hb 0) (hb 1) f hf hg
          · cases h
        · split at h
          · rename_i q hp
            split at h
            · rename_i b0 x r
              simp only [Bool.and_eq_true, beq_iff_eq] at h
              obtain ⟨h1, h2, rfl⟩ := h
              obtain ⟨f, g, hf, hg, hi⟩ := mj_p4_ok hp pc
              rw [← hi, ← h2]
              rw [← h1] at hg
              exact mj_d1s (hb 0) (hb 1) f hf hg
            · cases h
          · split at h
            · rename_i q hp
              split at h
              · rename_i b0 x y r
                simp only [Bool.and_eq_true, beq_iff_eq] at h
                obtain ⟨h1, h2, h3, rfl⟩ := h
                obtain ⟨f, g, hf, hg, hi⟩ := mj_p5_ok (x := q.1) (y := q.2) hp pc
                rw [← hi, ← h2, ← h3]
                rw [← h1] at hg
                exact mj_dii (hb 0) (hb 1) (hb 2) f hf hg
              · cases h
            · cases h
def mj_bytes (code : ByteArray) : List Nat := code.data.toList.map UInt8.toNat
theorem mj_bytes_at (code : ByteArray) (n : Nat) : mj_by code n = (mj_bytes code)[n]? := by
  unfold mj_by mj_bytes
  rw [List.getElem?_map]
  by_cases h : n < code.size
  · rw [dif_pos h]
    have h2 : n < code.data.toList.length := by simpa using h
    rw [List.getElem?_eq_getElem h2]
    rfl
  · rw [dif_neg h, List.getElem?_eq_none (by simpa using h)]
    rfl
/-- the instructions in their order, along the bytes; what isn't told by its bytes is decoded -/
def mj_dl (code : ByteArray) : List (Nat × Instr × Nat) → Nat → List Nat → Bool
  | [], _, _ => true
  | q :: r, pos, bs => (Nat.ble pos q.1 && ((mj_dq q.2.1 q.2.2 (bs.drop (q.1 - pos))) || decide (decode code q.1 = .ok q.2))) && mj_dl code r q.1 (bs.drop (q.1 - pos))
theorem mj_dl_ok {code : ByteArray} : ∀ (l : List (Nat × Instr × Nat)) (pos : Nat) (bs : List Nat), (∀ n, mj_by code (pos + n) = bs[n]?) → mj_dl code l pos bs = true → ∀ q ∈ l, decode code q.1 = .ok q.2 := by
  intro l
  induction l with
  | nil => intro _ _ _ _ q hq; cases hq
  | cons z r ih =>
    intro pos bs hb h q hq
    unfold mj_dl at h
    simp only [Bool.and_eq_true, Bool.or_eq_true] at h
    obtain ⟨⟨h1, h2⟩, h3⟩ := h
    have hle : pos ≤ z.1 := Nat.le_of_ble_eq_true h1
    have hb2 : ∀ n, mj_by code (z.1 + n) = (bs.drop (z.1 - pos))[n]? := fun n => by
      rw [List.getElem?_drop, ← hb, show pos + (z.1 - pos + n) = z.1 + n by omega]
    rcases List.mem_cons.mp hq with rfl | hq
    · rcases h2 with h2 | h2
      · exact mj_dq_ok hb2 h2
      · exact of_decide_eq_true h2
    · exact ih z.1 _ hb2 h3 q hq
theorem mj_dl_all {code : ByteArray} {l : List (Nat × Instr × Nat)} (h : mj_dl code l 0 (mj_bytes code) = true) : ∀ q ∈ l, decode code q.1 = .ok q.2 := mj_dl_ok l 0 _ (fun n => by rw [Nat.zero_add]; exact mj_bytes_at code n) h

/-! DECODING by the bytes: an instruction's bytes at pc give what decode gives there -/
def mj_by (code : ByteArray) (p : Nat) : Option Nat := if h : p < code.size then some code[p].toNat else none
theorem mj_bd {α β : Type} (x : Decoder α) (f : α → Decoder β) (code : ByteArray) (p : Nat) : (x >>= f).runAt code p = Except.bind (x.runAt code p) (fun q => (f q.1).runAt code q.2) := rfl
theorem mj_u1r {code : ByteArray} {p b : Nat} (h : mj_by code p = some b) : (Reader.u1 : Decoder Nat).runAt code p = .ok (b, p + 1) := by
  unfold mj_by at h
  split at h
  · rename_i hlt
    cases h
    show ((if h : p < code.size then ((do set (p + 1); Pure.pure code[p].toNat) : Decoder Nat) else throw (HasTruncated.truncated p)) : Decoder Nat) code p = .ok (code[p].toNat, p + 1)
    rw [dif_pos hlt]
    rfl
  · cases h
theorem mj_u1 {β : Type} {code : ByteArray} {p b : Nat} (h : mj_by code p = some b) (f : Nat → Decoder β) : ((Reader.u1 : Decoder Nat) >>= f).runAt code p = (f b).runAt code (p + 1) := by
  rw [mj_bd, mj_u1r h]
  rfl
theorem mj_s1 {β : Type} {code : ByteArray} {p b : Nat} (h : mj_by code p = some b) (f : Int → Decoder β) : ((Reader.s1 : Decoder Int) >>= f).runAt code p = (f (Reader.signed 8 b)).runAt code (p + 1) := by
  have e : (Reader.s1 : Decoder Int).runAt code p = .ok (Reader.signed 8 b, p + 1) := by
    show Except.bind ((Reader.u1 : Decoder Nat).runAt code p) (fun q => .ok (Reader.signed 8 q.1, q.2)) = _
    rw [mj_u1r h]
    rfl
  rw [mj_bd, e]
  rfl
theorem mj_u2r {code : ByteArray} {p b c : Nat} (h : mj_by code p = some b) (h2 : mj_by code (p + 1) = some c) : (Reader.u2 : Decoder Nat).runAt code p = .ok (b * 256 + c, p + 1 + 1) := by
  show ((Reader.u1 : Decoder Nat) >>= fun hi => (Reader.u1 : Decoder Nat) >>= fun lo => Pure.pure (hi * 256 + lo)).runAt code p = _
  rw [mj_u1 h, mj_u1 h2]
  rfl
theorem mj_u2 {β : Type} {code : ByteArray} {p b c : Nat} (h : mj_by code p = some b) (h2 : mj_by code (p + 1) = some c) (f : Nat → Decoder β) : ((Reader.u2 : Decoder Nat) >>= f).runAt code p = (f (b * 256 + c)).runAt code (p + 1 + 1) := by
  rw [mj_bd, mj_u2r h h2]
  rfl
theorem mj_s2 {β : Type} {code : ByteArray} {p b c : Nat} (h : mj_by code p = some b) (h2 : mj_by code (p + 1) = some c) (f : Int → Decoder β) : ((Reader.s2 : Decoder Int) >>= f).runAt code p = (f (Reader.signed 16 (b * 256 + c))).runAt code (p + 1 + 1) := by
  have e : (Reader.s2 : Decoder Int).runAt code p = .ok (Reader.signed 16 (b * 256 + c), p + 1 + 1) := by
    show Except.bind ((Reader.u2 : Decoder Nat).runAt code p) (fun q => .ok (Reader.signed 16 q.1, q.2)) = _
    rw [mj_u2r h h2]
    rfl
  rw [mj_bd, e]
  rfl
theorem mj_end {code : ByteArray} {pc n : Nat} {i : Instr} (h : (Decoder.instr pc).runAt code pc = .ok (i, pc + n)) : decode code pc = .ok (i, n) := by
  unfold decode
  rw [h]
  show Except.ok (i, pc + n - pc) = _
  rw [Nat.add_sub_cancel_left]
/-- by its first byte: no operand -/
theorem mj_d0 {code : ByteArray} {pc b : Nat} {i : Instr} (h : mj_by code pc = some b) (f : Nat → Decoder Instr) (hf : Decoder.instr pc = ((Reader.u1 : Decoder Nat) >>= f)) (hb : f b = Pure.pure i) : decode code pc = .ok (i, 1) := mj_end (by rw [hf, mj_u1 h, hb]; rfl)
theorem mj_d1u {code : ByteArray} {pc b x : Nat} {g : Nat → Instr} (h : mj_by code pc = some b) (hx : mj_by code (pc + 1) = some x) (f : Nat → Decoder Instr) (hf : Decoder.instr pc = ((Reader.u1 : Decoder Nat) >>= f)) (hb : f b = ((Reader.u1 : Decoder Nat) >>= fun x => Pure.pure (g x))) : decode code pc = .ok (g x, 2) := mj_end (by rw [hf, mj_u1 h, hb, mj_u1 hx]; rfl)
theorem mj_d1s {code : ByteArray} {pc b x : Nat} {g : Int → Instr} (h : mj_by code pc = some b) (hx : mj_by code (pc + 1) = some x) (f : Nat → Decoder Instr) (hf : Decoder.instr pc = ((Reader.u1 : Decoder Nat) >>= f)) (hb : f b = ((Reader.s1 : Decoder Int) >>= fun x => Pure.pure (g x))) : decode code pc = .ok (g (Reader.signed 8 x), 2) := mj_end (by rw [hf, mj_u1 h, hb, mj_s1 hx]; rfl)
theorem mj_d2u {code : ByteArray} {pc b x y : Nat} {g : Nat → Instr} (h : mj_by code pc = some b) (hx : mj_by code (pc + 1) = some x) (hy : mj_by code (pc + 1 + 1) = some y) (f : Nat → Decoder Instr) (hf : Decoder.instr pc = ((Reader.u1 : Decoder Nat) >>= f)) (hb : f b = ((Reader.u2 : Decoder Nat) >>= fun x => Pure.pure (g x))) : decode code pc = .ok (g (x * 256 + y), 3) := mj_end (by rw [hf, mj_u1 h, hb, mj_u2 hx hy]; rfl)
theorem mj_d2s {code : ByteArray} {pc b x y : Nat} {g : Int → Instr} (h : mj_by code pc = some b) (hx : mj_by code (pc + 1) = some x) (hy : mj_by code (pc + 1 + 1) = some y) (f : Nat → Decoder Instr) (hf : Decoder.instr pc = ((Reader.u1 : Decoder Nat) >>= f)) (hb : f b = ((Reader.s2 : Decoder Int) >>= fun x => Pure.pure (g x))) : decode code pc = .ok (g (Reader.signed 16 (x * 256 + y)), 3) := mj_end (by rw [hf, mj_u1 h, hb, mj_s2 hx hy]; rfl)
theorem mj_dii {code : ByteArray} {pc b x y : Nat} {g : Nat → Int → Instr} (h : mj_by code pc = some b) (hx : mj_by code (pc + 1) = some x) (hy : mj_by code (pc + 1 + 1) = some y) (f : Nat → Decoder Instr) (hf : Decoder.instr pc = ((Reader.u1 : Decoder Nat) >>= f)) (hb : f b = ((Reader.u1 : Decoder Nat) >>= fun x => (Reader.s1 : Decoder Int) >>= fun y => Pure.pure (g x y))) : decode code pc = .ok (g x (Reader.signed 8 y), 3) := mj_end (by rw [hf, mj_u1 h, hb, mj_u1 hx, mj_s1 hy]; rfl)

/-! PURE: bits -/
section QBI
theorem q_l8 (a : Int32) : (a <<< (8 : Int32)).toBitVec = a.toBitVec <<< (8 : Nat) := rfl
theorem q_l16 (a : Int32) : (a <<< (16 : Int32)).toBitVec = a.toBitVec <<< (16 : Nat) := rfl
theorem q_l24 (a : Int32) : (a <<< (24 : Int32)).toBitVec = a.toBitVec <<< (24 : Nat) := rfl
theorem q_u8 (a : Int32) : (pj_shr a 8).toBitVec = a.toBitVec >>> (8 : Nat) := rfl
theorem q_u16 (a : Int32) : (pj_shr a 16).toBitVec = a.toBitVec >>> (16 : Nat) := rfl
theorem q_u24 (a : Int32) : (pj_shr a 24).toBitVec = a.toBitVec >>> (24 : Nat) := rfl
theorem q_s8 (a : Int32) : (a >>> (8 : Int32)).toBitVec = a.toBitVec.sshiftRight 8 := rfl
theorem q_c255 : (255 : Int32).toBitVec = 255#32 := rfl
theorem q_c65 : (65535 : Int32).toBitVec = 65535#32 := rfl
theorem q_c165 : (165 : Int32).toBitVec = 165#32 := rfl
theorem q_inj {a b : Int32} (h : a.toBitVec = b.toBitVec) : a = b := Int32.toBitVec.inj h
theorem q_32c {i : Nat} (h : i < 32) : i = 0 ∨ i = 1 ∨ i = 2 ∨ i = 3 ∨ i = 4 ∨ i = 5 ∨ i = 6 ∨ i = 7 ∨ i = 8 ∨ i = 9 ∨ i = 10 ∨ i = 11 ∨ i = 12 ∨ i = 13 ∨ i = 14 ∨ i = 15 ∨ i = 16 ∨ i = 17 ∨ i = 18 ∨ i = 19 ∨ i = 20 ∨ i = 21 ∨ i = 22 ∨ i = 23 ∨ i = 24 ∨ i = 25 ∨ i = 26 ∨ i = 27 ∨ i = 28 ∨ i = 29 ∨ i = 30 ∨ i = 31 := by omega
theorem q_msb16 : (65535#32).msb = false := by decide
/-- two bytes at the top -/
theorem q_top2 (a : Int32) : a <<< (16 : Int32) = (((a >>> (8 : Int32)) &&& (255 : Int32)) <<< (24 : Int32)) ||| ((a &&& (255 : Int32)) <<< (16 : Int32)) := by
  apply q_inj
  simp only [Int32.toBitVec_or, Int32.toBitVec_and, q_l16, q_l24, q_s8, q_c255]
  apply BitVec.eq_of_getLsbD_eq
  intro i hi
  rcases q_32c hi with rfl | rfl | rfl | rfl | rfl | rfl | rfl | rfl | rfl | rfl | rfl | rfl | rfl | rfl | rfl | rfl | rfl | rfl | rfl | rfl | rfl | rfl | rfl | rfl | rfl | rfl | rfl | rfl | rfl | rfl | rfl | rfl
  all_goals simp [BitVec.getLsbD_or, BitVec.getLsbD_and, BitVec.getLsbD_shiftLeft, BitVec.getLsbD_sshiftRight, BitVec.getElem_sshiftRight]
theorem q_low3 (f g c k : Int32) : ((((f <<< (16 : Int32)) ||| (g <<< (8 : Int32))) ||| c) <<< (8 : Int32)) ||| k = (((f <<< (24 : Int32)) ||| (g <<< (16 : Int32))) ||| (c <<< (8 : Int32))) ||| k := by
  apply q_inj
  simp only [Int32.toBitVec_or, q_l8, q_l16, q_l24]
  apply BitVec.eq_of_getLsbD_eq
  intro i hi
  rcases q_32c hi with rfl | rfl | rfl | rfl | rfl | rfl | rfl | rfl | rfl | rfl | rfl | rfl | rfl | rfl | rfl | rfl | rfl | rfl | rfl | rfl | rfl | rfl | rfl | rfl | rfl | rfl | rfl | rfl | rfl | rfl | rfl | rfl
  all_goals simp [BitVec.getLsbD_or, BitVec.getLsbD_shiftLeft]
theorem q_xa (a b c : Int32) : (a ^^^ b) &&& c = (a &&& c) ^^^ (b &&& c) := by
  apply q_inj
  simp only [Int32.toBitVec_and, Int32.toBitVec_xor]
  apply BitVec.eq_of_getLsbD_eq
  intro i hi
  simp only [BitVec.getLsbD_and, BitVec.getLsbD_xor]
  cases a.toBitVec.getLsbD i <;> cases b.toBitVec.getLsbD i <;> cases c.toBitVec.getLsbD i <;> rfl
theorem q_eh0 (a0 a1 a2 a3 : Int32) : (((((a0 &&& (255 : Int32)) <<< (24 : Int32)) ||| ((a1 &&& (255 : Int32)) <<< (16 : Int32))) ||| ((a2 &&& (255 : Int32)) <<< (8 : Int32))) ||| (a3 &&& (255 : Int32))) &&& (255 : Int32) = (a3 &&& (255 : Int32)) := by
  apply q_inj
  simp only [Int32.toBitVec_or, Int32.toBitVec_and, q_l8, q_l16, q_l24, q_u8, q_u16, q_u24, q_c255]
  apply BitVec.eq_of_getLsbD_eq
  intro i hi
  rcases q_32c hi with rfl | rfl | rfl | rfl | rfl | rfl | rfl | rfl | rfl | rfl | rfl | rfl | rfl | rfl | rfl | rfl | rfl | rfl | rfl | rfl | rfl | rfl | rfl | rfl | rfl | rfl | rfl | rfl | rfl | rfl | rfl | rfl
  all_goals simp [BitVec.getLsbD_or, BitVec.getLsbD_and, BitVec.getLsbD_shiftLeft, BitVec.getLsbD_ushiftRight]
theorem q_eh1 (a0 a1 a2 a3 : Int32) : (pj_shr (((((a0 &&& (255 : Int32)) <<< (24 : Int32)) ||| ((a1 &&& (255 : Int32)) <<< (16 : Int32))) ||| ((a2 &&& (255 : Int32)) <<< (8 : Int32))) ||| (a3 &&& (255 : Int32))) 8) &&& (255 : Int32) = (a2 &&& (255 : Int32)) := by
  apply q_inj
  simp only [Int32.toBitVec_or, Int32.toBitVec_and, q_l8, q_l16, q_l24, q_u8, q_u16, q_u24, q_c255]
  apply BitVec.eq_of_getLsbD_eq
  intro i hi
  rcases q_32c hi with rfl | rfl | rfl | rfl | rfl | rfl | rfl | rfl | rfl | rfl | rfl | rfl | rfl | rfl | rfl | rfl | rfl | rfl | rfl | rfl | rfl | rfl | rfl | rfl | rfl | rfl | rfl | rfl | rfl | rfl | rfl | rfl
  all_goals simp [BitVec.getLsbD_or, BitVec.getLsbD_and, BitVec.getLsbD_shiftLeft, BitVec.getLsbD_ushiftRight]
theorem q_eh2 (a0 a1 a2 a3 : Int32) : (pj_shr (((((a0 &&& (255 : Int32)) <<< (24 : Int32)) ||| ((a1 &&& (255 : Int32)) <<< (16 : Int32))) ||| ((a2 &&& (255 : Int32)) <<< (8 : Int32))) ||| (a3 &&& (255 : Int32))) 16) &&& (255 : Int32) = (a1 &&& (255 : Int32)) := by
  apply q_inj
  simp only [Int32.toBitVec_or, Int32.toBitVec_and, q_l8, q_l16, q_l24, q_u8, q_u16, q_u24, q_c255]
  apply BitVec.eq_of_getLsbD_eq
  intro i hi
  rcases q_32c hi with rfl | rfl | rfl | rfl | rfl | rfl | rfl | rfl | rfl | rfl | rfl | rfl | rfl | rfl | rfl | rfl | rfl | rfl | rfl | rfl | rfl | rfl | rfl | rfl | rfl | rfl | rfl | rfl | rfl | rfl | rfl | rfl
  all_goals simp [BitVec.getLsbD_or, BitVec.getLsbD_and, BitVec.getLsbD_shiftLeft, BitVec.getLsbD_ushiftRight]
theorem q_eh3 (a0 a1 a2 a3 : Int32) : (pj_shr (((((a0 &&& (255 : Int32)) <<< (24 : Int32)) ||| ((a1 &&& (255 : Int32)) <<< (16 : Int32))) ||| ((a2 &&& (255 : Int32)) <<< (8 : Int32))) ||| (a3 &&& (255 : Int32))) 24) &&& (255 : Int32) = (a0 &&& (255 : Int32)) := by
  apply q_inj
  simp only [Int32.toBitVec_or, Int32.toBitVec_and, q_l8, q_l16, q_l24, q_u8, q_u16, q_u24, q_c255]
  apply BitVec.eq_of_getLsbD_eq
  intro i hi
  rcases q_32c hi with rfl | rfl | rfl | rfl | rfl | rfl | rfl | rfl | rfl | rfl | rfl | rfl | rfl | rfl | rfl | rfl | rfl | rfl | rfl | rfl | rfl | rfl | rfl | rfl | rfl | rfl | rfl | rfl | rfl | rfl | rfl | rfl
  all_goals simp [BitVec.getLsbD_or, BitVec.getLsbD_and, BitVec.getLsbD_shiftLeft, BitVec.getLsbD_ushiftRight]
theorem q_el0 (a4 a5 a6 : Int32) : ((((a4 &&& (255 : Int32)) <<< (16 : Int32)) ||| ((a5 &&& (255 : Int32)) <<< (8 : Int32))) ||| (a6 &&& (255 : Int32))) &&& (255 : Int32) = (a6 &&& (255 : Int32)) := by
  apply q_inj
  simp only [Int32.toBitVec_or, Int32.toBitVec_and, q_l8, q_l16, q_l24, q_u8, q_u16, q_u24, q_c255]
  apply BitVec.eq_of_getLsbD_eq
  intro i hi
  rcases q_32c hi with rfl | rfl | rfl | rfl | rfl | rfl | rfl | rfl | rfl | rfl | rfl | rfl | rfl | rfl | rfl | rfl | rfl | rfl | rfl | rfl | rfl | rfl | rfl | rfl | rfl | rfl | rfl | rfl | rfl | rfl | rfl | rfl
  all_goals simp [BitVec.getLsbD_or, BitVec.getLsbD_and, BitVec.getLsbD_shiftLeft, BitVec.getLsbD_ushiftRight]
theorem q_el1 (a4 a5 a6 : Int32) : (pj_shr ((((a4 &&& (255 : Int32)) <<< (16 : Int32)) ||| ((a5 &&& (255 : Int32)) <<< (8 : Int32))) ||| (a6 &&& (255 : Int32))) 8) &&& (255 : Int32) = (a5 &&& (255 : Int32)) := by
  apply q_inj
  simp only [Int32.toBitVec_or, Int32.toBitVec_and, q_l8, q_l16, q_l24, q_u8, q_u16, q_u24, q_c255]
  apply BitVec.eq_of_getLsbD_eq
  intro i hi
  rcases q_32c hi with rfl | rfl | rfl | rfl | rfl | rfl | rfl | rfl | rfl | rfl | rfl | rfl | rfl | rfl | rfl | rfl | rfl | rfl | rfl | rfl | rfl | rfl | rfl | rfl | rfl | rfl | rfl | rfl | rfl | rfl | rfl | rfl
  all_goals simp [BitVec.getLsbD_or, BitVec.getLsbD_and, BitVec.getLsbD_shiftLeft, BitVec.getLsbD_ushiftRight]
theorem q_el2 (a4 a5 a6 : Int32) : (pj_shr ((((a4 &&& (255 : Int32)) <<< (16 : Int32)) ||| ((a5 &&& (255 : Int32)) <<< (8 : Int32))) ||| (a6 &&& (255 : Int32))) 16) &&& (255 : Int32) = (a4 &&& (255 : Int32)) := by
  apply q_inj
  simp only [Int32.toBitVec_or, Int32.toBitVec_and, q_l8, q_l16, q_l24, q_u8, q_u16, q_u24, q_c255]
  apply BitVec.eq_of_getLsbD_eq
  intro i hi
  rcases q_32c hi with rfl | rfl | rfl | rfl | rfl | rfl | rfl | rfl | rfl | rfl | rfl | rfl | rfl | rfl | rfl | rfl | rfl | rfl | rfl | rfl | rfl | rfl | rfl | rfl | rfl | rfl | rfl | rfl | rfl | rfl | rfl | rfl
  all_goals simp [BitVec.getLsbD_or, BitVec.getLsbD_and, BitVec.getLsbD_shiftLeft, BitVec.getLsbD_ushiftRight]
theorem q_xc (a b : Int32) : a ^^^ b = b ^^^ a := by
  apply q_inj
  simp only [Int32.toBitVec_xor]
  exact BitVec.xor_comm _ _
theorem q_xs (a b c : Int32) : (a ^^^ b) ^^^ c = a ^^^ (b ^^^ c) := by
  apply q_inj
  simp only [Int32.toBitVec_xor]
  exact BitVec.xor_assoc _ _ _
theorem q_xl (a b c : Int32) : a ^^^ (b ^^^ c) = b ^^^ (a ^^^ c) := by rw [← q_xs, q_xc a b, q_xs]
theorem q_chk0 (a0 a1 a2 a3 a4 a5 a6 : Int32) : (((((((((((((a0 &&& (255 : Int32)) <<< (24 : Int32)) ||| ((a1 &&& (255 : Int32)) <<< (16 : Int32))) ||| ((a2 &&& (255 : Int32)) <<< (8 : Int32))) ||| (a3 &&& (255 : Int32))) ^^^ (pj_shr (((((a0 &&& (255 : Int32)) <<< (24 : Int32)) ||| ((a1 &&& (255 : Int32)) <<< (16 : Int32))) ||| ((a2 &&& (255 : Int32)) <<< (8 : Int32))) ||| (a3 &&& (255 : Int32))) 8)) ^^^ (pj_shr (((((a0 &&& (255 : Int32)) <<< (24 : Int32)) ||| ((a1 &&& (255 : Int32)) <<< (16 : Int32))) ||| ((a2 &&& (255 : Int32)) <<< (8 : Int32))) ||| (a3 &&& (255 : Int32))) 16)) ^^^ (pj_shr (((((a0 &&& (255 : Int32)) <<< (24 : Int32)) ||| ((a1 &&& (255 : Int32)) <<< (16 : Int32))) ||| ((a2 &&& (255 : Int32)) <<< (8 : Int32))) ||| (a3 &&& (255 : Int32))) 24)) ^^^ ((((a4 &&& (255 : Int32)) <<< (16 : Int32)) ||| ((a5 &&& (255 : Int32)) <<< (8 : Int32))) ||| (a6 &&& (255 : Int32)))) ^^^ (pj_shr ((((a4 &&& (255 : Int32)) <<< (16 : Int32)) ||| ((a5 &&& (255 : Int32)) <<< (8 : Int32))) ||| (a6 &&& (255 : Int32))) 8)) ^^^ (pj_shr ((((a4 &&& (255 : Int32)) <<< (16 : Int32)) ||| ((a5 &&& (255 : Int32)) <<< (8 : Int32))) ||| (a6 &&& (255 : Int32))) 16)) ^^^ (165 : Int32)) &&& (255 : Int32)) = ((((((((165 : Int32) ^^^ (a0 &&& (255 : Int32))) ^^^ (a1 &&& (255 : Int32))) ^^^ (a2 &&& (255 : Int32))) ^^^ (a3 &&& (255 : Int32))) ^^^ (a4 &&& (255 : Int32))) ^^^ (a5 &&& (255 : Int32))) ^^^ (a6 &&& (255 : Int32))) := by
  have z : (165 : Int32) &&& (255 : Int32) = 165 := rfl
  rw [q_xa, q_xa, q_xa, q_xa, q_xa, q_xa, q_xa, q_eh0, q_eh1, q_eh2, q_eh3, q_el0, q_el1, q_el2, z]
  simp only [q_xs]
  generalize a0 &&& (255 : Int32) = c0
  generalize a1 &&& (255 : Int32) = c1
  generalize a2 &&& (255 : Int32) = c2
  generalize a3 &&& (255 : Int32) = c3
  generalize a4 &&& (255 : Int32) = c4
  generalize a5 &&& (255 : Int32) = c5
  generalize a6 &&& (255 : Int32) = c6
  simp only [q_xs, q_xc, q_xl]
theorem q_hi2 (c r m : Int32) : ((c <<< (24 : Int32)) ||| ((r &&& (65535 : Int32)) <<< (8 : Int32))) ||| ((m &&& (65535 : Int32)) >>> (8 : Int32)) = (((c <<< (24 : Int32)) ||| (((r >>> (8 : Int32)) &&& (255 : Int32)) <<< (16 : Int32))) ||| ((r &&& (255 : Int32)) <<< (8 : Int32))) ||| ((m >>> (8 : Int32)) &&& (255 : Int32)) := by
  apply q_inj
  simp only [Int32.toBitVec_or, Int32.toBitVec_and, q_l8, q_l16, q_l24, q_s8, q_c255, q_c65]
  apply BitVec.eq_of_getLsbD_eq
  intro i hi
  rcases q_32c hi with rfl | rfl | rfl | rfl | rfl | rfl | rfl | rfl | rfl | rfl | rfl | rfl | rfl | rfl | rfl | rfl | rfl | rfl | rfl | rfl | rfl | rfl | rfl | rfl | rfl | rfl | rfl | rfl | rfl | rfl | rfl | rfl
  all_goals simp [BitVec.getLsbD_or, BitVec.getLsbD_and, BitVec.getLsbD_shiftLeft, BitVec.getLsbD_sshiftRight, BitVec.getElem_sshiftRight, BitVec.msb_and, q_msb16]
theorem q_255i (a : Int32) : (a &&& (255 : Int32)) &&& (255 : Int32) = a &&& (255 : Int32) := by
  apply q_inj
  simp only [Int32.toBitVec_and]
  rw [BitVec.and_assoc, BitVec.and_self]
theorem q_m255 (a : Int32) : (a &&& (65535 : Int32)) &&& (255 : Int32) = a &&& (255 : Int32) := by
  apply q_inj
  simp only [Int32.toBitVec_and]
  rw [BitVec.and_assoc]
  rfl
end QBI

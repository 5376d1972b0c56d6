/-! PURE: bits of a word that is kept; what a copy gives -/
section QB1
variable {s x u s' x' u' : Nat → Int32} {l y v l' y' v' : Nat → Int64} {D E W : Int} {fu f k n c : Nat} {t : Int64} {a b d e p r : Int32}
theorem q_c1 : (1 : Int32).toBitVec = 1#32 := rfl
theorem q_c2 : (2 : Int32).toBitVec = 2#32 := rfl
theorem q_s1 (a : Int32) : (a >>> (1 : Int32)).toBitVec = a.toBitVec.sshiftRight 1 := rfl
theorem q_and1 (a : Int32) : a &&& (1 : Int32) = if a.toBitVec.getLsbD 0 then 1 else 0 := by
  cases h : a.toBitVec.getLsbD 0
  · show a &&& (1 : Int32) = 0
    apply q_inj
    rw [Int32.toBitVec_and, q_c1]
    apply BitVec.eq_of_getLsbD_eq
    intro i hi
    rcases q_32c hi with rfl | rfl | rfl | rfl | rfl | rfl | rfl | rfl | rfl | rfl | rfl | rfl | rfl | rfl | rfl | rfl | rfl | rfl | rfl | rfl | rfl | rfl | rfl | rfl | rfl | rfl | rfl | rfl | rfl | rfl | rfl | rfl
    all_goals rw [BitVec.getLsbD_and]
    all_goals first
      | (rw [h]; rfl)
      | (rw [Bool.and_comm]; rfl)
  · show a &&& (1 : Int32) = 1
    apply q_inj
    rw [Int32.toBitVec_and, q_c1]
    apply BitVec.eq_of_getLsbD_eq
    intro i hi
    rcases q_32c hi with rfl | rfl | rfl | rfl | rfl | rfl | rfl | rfl | rfl | rfl | rfl | rfl | rfl | rfl | rfl | rfl | rfl | rfl | rfl | rfl | rfl | rfl | rfl | rfl | rfl | rfl | rfl | rfl | rfl | rfl | rfl | rfl
    all_goals rw [BitVec.getLsbD_and]
    all_goals first
      | (rw [h]; rfl)
      | (rw [Bool.and_comm]; rfl)
theorem q_and2 (a : Int32) : a &&& (2 : Int32) = if a.toBitVec.getLsbD 1 then 2 else 0 := by
  cases h : a.toBitVec.getLsbD 1
  · show a &&& (2 : Int32) = 0
    apply q_inj
    rw [Int32.toBitVec_and, q_c2]
    apply BitVec.eq_of_getLsbD_eq
    intro i hi
    rcases q_32c hi with rfl | rfl | rfl | rfl | rfl | rfl | rfl | rfl | rfl | rfl | rfl | rfl | rfl | rfl | rfl | rfl | rfl | rfl | rfl | rfl | rfl | rfl | rfl | rfl | rfl | rfl | rfl | rfl | rfl | rfl | rfl | rfl
    all_goals rw [BitVec.getLsbD_and]
    all_goals first
      | (rw [h]; rfl)
      | (rw [Bool.and_comm]; rfl)
  · show a &&& (2 : Int32) = 2
    apply q_inj
    rw [Int32.toBitVec_and, q_c2]
    apply BitVec.eq_of_getLsbD_eq
    intro i hi
    rcases q_32c hi with rfl | rfl | rfl | rfl | rfl | rfl | rfl | rfl | rfl | rfl | rfl | rfl | rfl | rfl | rfl | rfl | rfl | rfl | rfl | rfl | rfl | rfl | rfl | rfl | rfl | rfl | rfl | rfl | rfl | rfl | rfl | rfl
    all_goals rw [BitVec.getLsbD_and]
    all_goals first
      | (rw [h]; rfl)
      | (rw [Bool.and_comm]; rfl)
theorem q_sh1 (a : Int32) : (a >>> (1 : Int32)) &&& (1 : Int32) = if a.toBitVec.getLsbD 1 then 1 else 0 := by
  rw [q_and1, q_s1, BitVec.getLsbD_sshiftRight]
  rfl
theorem q_bit1 (a : Int32) : (if a &&& (1 : Int32) = 1 then (1 : Int32) else 0) = a &&& (1 : Int32) ∧ (a &&& (1 : Int32) = 0 ∨ a &&& (1 : Int32) = 1) := by
  rw [q_and1]
  cases a.toBitVec.getLsbD 0
  · exact ⟨by decide, Or.inl rfl⟩
  · exact ⟨by decide, Or.inr rfl⟩
theorem q_bit2 (a : Int32) : (if a &&& (2 : Int32) = 2 then (1 : Int32) else 0) = (a >>> (1 : Int32)) &&& (1 : Int32) ∧ ((a >>> (1 : Int32)) &&& (1 : Int32) = 0 ∨ (a >>> (1 : Int32)) &&& (1 : Int32) = 1) := by
  rw [q_and2, q_sh1]
  cases a.toBitVec.getLsbD 1
  · exact ⟨by decide, Or.inl rfl⟩
  · exact ⟨by decide, Or.inr rfl⟩
theorem q_u2b (a : Int32) : (pj_shr a 2).toBitVec = a.toBitVec >>> (2 : Nat) := rfl
theorem q_shr2 (a : Int32) : 0 ≤ (pj_shr a 2).toInt := by
  show 0 ≤ (pj_shr a 2).toBitVec.toInt
  rw [q_u2b, BitVec.toInt_eq_toNat_cond, BitVec.toNat_ushiftRight]
  have h := a.toBitVec.isLt
  have e : a.toBitVec.toNat >>> 2 = a.toBitVec.toNat / 4 := Nat.shiftRight_eq_div_pow _ 2
  rw [e]
  split <;> omega
theorem q_r40 (a : Int32) : 0 ≤ (pj_rem (pj_shr a 2) 40).toInt ∧ (pj_rem (pj_shr a 2) 40).toInt ≤ 39 := by
  have o : (40 : Int32).toInt = 40 := rfl
  rw [q_rmI (q_shr2 a) (by decide), o]
  omega
end QB1

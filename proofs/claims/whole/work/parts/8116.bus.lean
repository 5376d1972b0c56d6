/-! PURE: the BUS: sending -/
section QBU
variable {s x u s' x' u' s1 x1 u1 s2 u2 : Nat → Int32} {l y v l' y' v' l2 v2 : Nat → Int64} {D E W : Int} {fu : Nat}
theorem q_by {b : Int32} (h0 : 0 ≤ b.toInt) (h1 : b.toInt ≤ 255) : b &&& (255 : Int32) = b := by
  obtain ⟨i, rfl, hi, hi2⟩ := q_nat h0
  have h : i ≤ 255 := by omega
  apply q_inj
  apply BitVec.eq_of_toNat_eq
  have e : (Int32.ofNat i).toBitVec.toNat = i := by
    show i % 2 ^ 32 = i
    exact Nat.mod_eq_of_lt (by omega)
  rw [Int32.toBitVec_and, BitVec.toNat_and, e]
  show i &&& 255 = i
  rw [show (255 : Nat) = 2 ^ 8 - 1 by rfl, Nat.and_two_pow_sub_one_eq_mod]
  exact Nat.mod_eq_of_lt (by omega)
theorem q_and16 (b : Int32) : (b &&& (65535 : Int32)).toInt = b.toInt % 65536 := by
  have e : (b &&& (65535 : Int32)).toBitVec.toNat = b.toBitVec.toNat % 65536 := by
    rw [Int32.toBitVec_and, BitVec.toNat_and]
    show b.toBitVec.toNat &&& 65535 = _
    rw [show (65535 : Nat) = 2 ^ 16 - 1 by rfl, Nat.and_two_pow_sub_one_eq_mod]
  have hb := b.toBitVec.isLt
  have e1 : b.toInt = b.toBitVec.toInt := rfl
  have e2 : (b &&& (65535 : Int32)).toInt = (b &&& (65535 : Int32)).toBitVec.toInt := rfl
  rw [e1, e2, BitVec.toInt_eq_toNat_cond, BitVec.toInt_eq_toNat_cond, e]
  split <;> split <;> omega
theorem q_bm16 (x : Int) : x.bmod (2 ^ 32) % 65536 = x % 65536 := by
  have e : (2 : Nat) ^ 32 = 4294967296 := by decide
  rw [e, Int.bmod_def]
  split <;> omega
theorem q_bm64 (x : Int) : x.bmod (2 ^ 64) % 65536 = x % 65536 := by
  have e : (2 : Nat) ^ 64 = 18446744073709551616 := by decide
  rw [e, Int.bmod_def]
  split <;> omega
theorem q_rem16 (m : Int32) : (pj_rem m 65536) &&& (65535 : Int32) = m &&& (65535 : Int32) := by
  rw [← Int32.toInt_inj, q_and16, q_and16]
  unfold pj_rem
  have z : (65536 : Int32).toInt = 65536 := rfl
  rw [Int32.toInt_sub, q_bm16, Int32.toInt_mul, z]
  have := q_bm16 ((m / 65536).toInt * 65536)
  omega
theorem q_rem16L (q : Int64) : (pj_reml q 65536).toInt32 &&& (65535 : Int32) = q.toInt32 &&& (65535 : Int32) := by
  rw [← Int32.toInt_inj, q_and16, q_and16, Int64.toInt_toInt32, Int64.toInt_toInt32, q_bm16, q_bm16]
  unfold pj_reml
  have z : (65536 : Int64).toInt = 65536 := rfl
  rw [Int64.toInt_sub, q_bm64, Int64.toInt_mul, z]
  have := q_bm64 ((q / 65536).toInt * 65536)
  omega
theorem q_mid (a : Int32) : ((a &&& (65535 : Int32)) >>> (8 : Int32)) &&& (255 : Int32) = (a >>> (8 : Int32)) &&& (255 : Int32) := by
  apply q_inj
  simp only [Int32.toBitVec_and, q_s8, q_c255, q_c65]
  apply BitVec.eq_of_getLsbD_eq
  intro i hi
  by_cases h : i < 8
  · have : i = 0 ∨ i = 1 ∨ i = 2 ∨ i = 3 ∨ i = 4 ∨ i = 5 ∨ i = 6 ∨ i = 7 := by omega
    rcases this with rfl | rfl | rfl | rfl | rfl | rfl | rfl | rfl <;> simp [BitVec.getLsbD_and, BitVec.getLsbD_sshiftRight, BitVec.getElem_sshiftRight]
  · have e : (255#32).getLsbD i = false := by
      rcases q_32c hi with rfl | rfl | rfl | rfl | rfl | rfl | rfl | rfl | rfl | rfl | rfl | rfl | rfl | rfl | rfl | rfl | rfl | rfl | rfl | rfl | rfl | rfl | rfl | rfl | rfl | rfl | rfl | rfl | rfl | rfl | rfl | rfl
      all_goals first | (exact absurd (by omega) h) | rfl
    rw [BitVec.getLsbD_and, BitVec.getLsbD_and, e, Bool.and_false, Bool.and_false]
-- sending
def q_f4 (a b c d : Int32) : Int32 := (((a <<< (24 : Int32)) ||| (b <<< (16 : Int32))) ||| (c <<< (8 : Int32))) ||| d
def q_x7 (u : Nat → Int32) : Int32 := ((((((165 ^^^ u 12000) ^^^ u 12001) ^^^ u 12002) ^^^ u 12003) ^^^ u 12004) ^^^ u 12005) ^^^ u 12006
def q_sl (x : Nat → Int32) : Nat := ((x 22).toInt % 64).toNat
def q_sd (s : Nat → Int32) (k : Nat) (a h w : Int32) : Nat → Int32 := pj_u (pj_u (pj_u s (5000 + k) a) (6000 + k) h) (7000 + k) w
theorem q_sl_lt : q_sl x < 64 := by
  unfold q_sl
  omega
theorem q_slC (h : 0 ≤ (x 22).toInt) : pj_rem (x 22) 64 = Int32.ofNat (q_sl x) := by
  have e := q_remI (a := x 22) (b := 64) h (by decide)
  have z : (64 : Int32).toInt = 64 := rfl
  rw [z] at e
  rw [← Int32.toInt_inj, e, q_onI (by have := q_sl_lt (x := x); omega)]
  unfold q_sl
  omega
theorem q_slR (h : 0 ≤ (x 22).toInt) (hv : v 20 = (x 22).toInt64) : (pj_reml (v 20) 64).toInt32 = Int32.ofNat (q_sl x) := by
  have e := q_remIL (a := v 20) (b := 64) (by rw [hv, Int32.toInt_toInt64]; exact h) (by decide)
  have z : (64 : Int64).toInt = 64 := rfl
  rw [z, hv, Int32.toInt_toInt64] at e
  rw [hv, ← Int32.toInt_inj, q_32 (by rw [e]; omega) (by rw [e]; omega), e, q_onI (by have := q_sl_lt (x := x); omega)]
  unfold q_sl
  omega
def q_ck (a0 a1 : Int32) : Int32 := (((((((a0 ^^^ (pj_shr a0 8)) ^^^ (pj_shr a0 16)) ^^^ (pj_shr a0 24)) ^^^ a1) ^^^ (pj_shr a1 8)) ^^^ (pj_shr a1 16)) ^^^ (165 : Int32)) &&& (255 : Int32)
theorem q_sendC (h : 0 ≤ (x 22).toInt) (a b c : Int32) : pf_X1_send a b c s l x y = some ((), q_sd s (q_sl x) a b ((c <<< (8 : Int32)) ||| q_ck b c), l, pj_u x 22 (x 22 + 1), y) := by
  have k := q_sl_lt (x := x)
  unfold pf_X1_send pf_X1_checkOf q_sd q_ck
  rw [q_slC h]
  simp (disch := omega) only [q_g, q_onC, q_b]
theorem q_check : pf_X12_check s l u v = some (q_x7 u, s, l, u, v) := by
  have st : ∀ (k f : Nat) (a : Int32), k < 7 → pl_X12_check_6 1000 (f + 1) a (Int32.ofNat k) s l u v = pl_X12_check_6 1000 f (a ^^^ u (12000 + k)) (Int32.ofNat (k + 1)) s l u v := by
    intro k f a hk
    rw [pl_X12_check_6]
    simp (disch := omega) only [q_g, q_onC, q_onltL, if_pos hk, q_onaL]
  have en : ∀ (f : Nat) (a : Int32), pl_X12_check_6 1000 (f + 1) a (Int32.ofNat 7) s l u v = some (a, s, l, u, v) := by
    intro f a
    rw [pl_X12_check_6, if_neg (by decide)]
  show pl_X12_check_6 1000 (999 + 1) 165 (Int32.ofNat 0) s l u v = _
  rw [st 0 999 _ (by omega)]
  show pl_X12_check_6 1000 (998 + 1) _ (Int32.ofNat 1) s l u v = _
  rw [st 1 998 _ (by omega)]
  show pl_X12_check_6 1000 (997 + 1) _ (Int32.ofNat 2) s l u v = _
  rw [st 2 997 _ (by omega)]
  show pl_X12_check_6 1000 (996 + 1) _ (Int32.ofNat 3) s l u v = _
  rw [st 3 996 _ (by omega)]
  show pl_X12_check_6 1000 (995 + 1) _ (Int32.ofNat 4) s l u v = _
  rw [st 4 995 _ (by omega)]
  show pl_X12_check_6 1000 (994 + 1) _ (Int32.ofNat 5) s l u v = _
  rw [st 5 994 _ (by omega)]
  show pl_X12_check_6 1000 (993 + 1) _ (Int32.ofNat 6) s l u v = _
  rw [st 6 993 _ (by omega)]
  show pl_X12_check_6 1000 (992 + 1) _ (Int32.ofNat 7) s l u v = _
  rw [en]
  rfl
theorem q_sendR (h : 0 ≤ (x 22).toInt) (hv : v 20 = (x 22).toInt64) (a : Int32) : pf_X12_sendFrame a s l u v = some ((), q_sd s (q_sl x) a (q_f4 (u 12000) (u 12001) (u 12002) (u 12003)) (q_f4 (u 12004) (u 12005) (u 12006) (q_x7 u)), l, pj_u u 12007 (q_x7 u), pj_u v 20 (v 20 + 1)) := by
  have k := q_sl_lt (x := x)
  unfold pf_X12_sendFrame pl_X12_sendFrame_28 pl_X12_sendFrame_61 pf_X12_four q_sd q_f4
  rw [q_check, q_b, q_slR h hv]
  simp (disch := omega) only [q_g, q_onC, q_b, q_un, q_ua]
/-- bytes that were laid, sent as class and reference send them -/
theorem q_same7 {b0 b1 b2 b3 b4 b5 b6 : Int32} (h0 : b0 &&& (255 : Int32) = b0) (h1 : b1 &&& (255 : Int32) = b1) (h2 : b2 &&& (255 : Int32) = b2) (h3 : b3 &&& (255 : Int32) = b3) (h4 : b4 &&& (255 : Int32) = b4) (h5 : b5 &&& (255 : Int32) = b5) (h6 : b6 &&& (255 : Int32) = b6) : ((((b4 <<< (16 : Int32)) ||| (b5 <<< (8 : Int32))) ||| b6) <<< (8 : Int32)) ||| q_ck (q_f4 b0 b1 b2 b3) (((b4 <<< (16 : Int32)) ||| (b5 <<< (8 : Int32))) ||| b6) = q_f4 b4 b5 b6 (((((((165 ^^^ b0) ^^^ b1) ^^^ b2) ^^^ b3) ^^^ b4) ^^^ b5) ^^^ b6) := by
  have c := q_chk0 b0 b1 b2 b3 b4 b5 b6
  rw [h0, h1, h2, h3, h4, h5, h6] at c
  have c2 : q_ck (q_f4 b0 b1 b2 b3) (((b4 <<< (16 : Int32)) ||| (b5 <<< (8 : Int32))) ||| b6) = ((((((165 ^^^ b0) ^^^ b1) ^^^ b2) ^^^ b3) ^^^ b4) ^^^ b5) ^^^ b6 := c
  rw [c2, q_low3]
  rfl
theorem q_two {k : Nat} (hk : k < 7) (a : Int32) : pf_X12_twoBytes (Int32.ofNat k) a s l u v = some ((), s, l, pj_u (pj_u u (12000 + k) ((a >>> (8 : Int32)) &&& (255 : Int32))) (12001 + k) (a &&& (255 : Int32)), v) := by
  unfold pf_X12_twoBytes
  simp (disch := omega) only [q_g, q_onC, q_onaL]
  rw [show 12000 + (k + 1) = 12001 + k by omega]
/-- one more is sent -/
theorem q_I_22 (hI : q_I D E W s l x y u v) (h0 : ¬ s 94 = 0) (hb : (x 22).toInt + 1 ≤ 3 * (x 1).toInt) : q_I D E W s l (pj_u x 22 (x 22 + 1)) y u (pj_u v 20 (v 20 + 1)) := by
  obtain ⟨h1, h2, h3, h4, h5, h6, h7, h8, h9, h10, h11, h12, h13, h14⟩ := hI
  obtain ⟨c1, c2, c3, c4, c5⟩ := h3
  have e : (x 22 + 1).toInt = (x 22).toInt + 1 := q_one (by omega) (by omega)
  refine ⟨h1, h2, ⟨?_, ?_, ?_, ?_, c5⟩, q_Wl_c h4 rfl rfl rfl rfl rfl ?_ ?_ ?_ ?_ rfl rfl ?_, q_Pl_c h5 rfl ?_ rfl rfl rfl rfl rfl ?_ ?_, q_Wt_c h6 rfl rfl ?_ (fun _ _ _ => rfl), q_Fg_c h7 rfl rfl rfl rfl rfl ?_ ?_ ?_ ?_ ?_ ?_ rfl rfl rfl rfl rfl rfl rfl rfl ?_, q_Fm_c h8 rfl ?_ (fun _ _ _ => rfl), q_Rc_c h9 rfl ?_ ?_ ?_ rfl ?_, q_Vd_c h10 (fun _ _ _ => rfl) ?_, h11, q_Pg_c h12 ?_ ?_ rfl (fun _ _ _ => rfl), q_Es_c h13 rfl (fun _ _ => rfl) (fun _ _ _ => rfl) rfl (fun _ _ _ => rfl) ?_ (fun _ _ _ => rfl) (q_Ld_i rfl (fun _ _ => rfl) (q_un (by omega))), fun z => absurd z h0⟩
  · rw [q_un (by omega), q_un (by omega)]; exact c1
  · rw [q_un (by omega), q_un (by omega)]; exact c2
  · rw [q_un (by omega), q_un (by omega)]; exact c3
  · rw [q_ua, q_ua, q_un (by omega), c4.1, q_one64 c4.2.1 (by omega), e]
    exact ⟨rfl, by omega, by omega⟩
  all_goals try (intro w a b)
  all_goals rw [q_un (by omega)]
end QBU

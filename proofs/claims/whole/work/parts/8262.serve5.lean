/-! PURE: the TESTER: names, the FRAME -/
section QST9
variable {s x u s' x' u' x2 u2 : Nat → Int32} {l y v l' y' v' : Nat → Int64} {D E W : Int} {fu f k n m : Nat} {t : Int64} {a b d e p r : Int32}
theorem q_sh16L (q : Int64) : (q >>> (16 : Int64)).toInt32 &&& (65535 : Int32) = pj_shr q.toInt32 16 &&& (65535 : Int32) := by
  apply q_inj
  have e1 : ((q >>> (16 : Int64)).toInt32).toBitVec = (q.toBitVec.sshiftRight 16).signExtend 32 := rfl
  have e2 : q.toInt32.toBitVec = q.toBitVec.signExtend 32 := rfl
  rw [Int32.toBitVec_and, Int32.toBitVec_and, e1, q_u16, e2, q_c65]
  apply BitVec.eq_of_getLsbD_eq
  intro i hi
  rcases q_32c hi with rfl | rfl | rfl | rfl | rfl | rfl | rfl | rfl | rfl | rfl | rfl | rfl | rfl | rfl | rfl | rfl | rfl | rfl | rfl | rfl | rfl | rfl | rfl | rfl | rfl | rfl | rfl | rfl | rfl | rfl | rfl | rfl
  all_goals simp [BitVec.getLsbD_and, BitVec.getLsbD_sshiftRight, BitVec.getElem_sshiftRight, BitVec.getElem_signExtend, BitVec.getLsbD_signExtend, BitVec.getLsbD_ushiftRight]
theorem q_four2 (h : q_Sy n x u) (hn : n < 60) {q : Int64} (e : q.toInt32 = b) : ∃ x' u', pf_X8_sayFour q s l x y = some (0, s, l, x', y) ∧ (∀ K : Unit → (Nat → Int32) → (Nat → Int64) → (Nat → Int32) → (Nat → Int64) → Option (Unit × pj_Z), pj_b (pf_X12_two (pj_shr b 16) s l u v) (fun r1 s1 l1 x1 y1 => pj_b (pf_X12_two b s1 l1 x1 y1) K) = K () s l u' v) ∧ q_Sy (n + 4) x' u' ∧ q_Fx x x' ∧ q_Fu u u' := by
  obtain ⟨x1, u1, f1, g1, s1, a1, b1⟩ := q_two2 (s := s) (l := l) (y := y) (v := v) (q := q >>> (16 : Int64)) (b := pj_shr b 16) h (by omega) (by rw [q_sh16L, e])
  obtain ⟨x2, u2, f2, g2, s2, a2, b2⟩ := q_two2 (s := s) (l := l) (y := y) (v := v) (q := q) (b := b) s1 (by omega) (by rw [e])
  refine ⟨x2, u2, ?_, ?_, s2, q_Fx_t a1 a2, q_Fu_t b1 b2⟩
  · unfold pf_X8_sayFour
    rw [f1, q_b, f2, q_b]
  · intro K
    rw [g1, q_b, g2, q_b]
-- the sum of the numbers
def q_nsL (s : Nat → Int32) : Nat → Nat → Int64 → Int64
  | 0, _, a => a
  | m + 1, i, a => q_nsL s m (i + 1) (a + (((Int32.ofNat i).toInt64 + 1) * (s (10000 + i)).toInt64))
def q_nsI (s : Nat → Int32) : Nat → Nat → Int32 → Int32
  | 0, _, a => a
  | m + 1, i, a => q_nsI s m (i + 1) (a + ((Int32.ofNat i + 1) * s (10000 + i)))
theorem q_nsLI : ∀ (m i : Nat) (a : Int64), (q_nsL s m i a).toInt32 = q_nsI s m i a.toInt32 := by
  intro m
  induction m with
  | zero => intro i a; rfl
  | succ m ih =>
    intro i a
    unfold q_nsL q_nsI
    rw [ih, Int64.toInt32_add, Int64.toInt32_mul, Int64.toInt32_add, Int32.toInt32_toInt64, Int32.toInt32_toInt64]
    rfl
theorem q_nsC : ∀ (m i f : Nat) (a : Int64), i + m = 24 → m < f → pl_X4_numbersSum_4 fu f a (Int32.ofNat i) s l x y = some (q_nsL s m i a, s, l, x, y) := by
  intro m
  induction m with
  | zero =>
    intro i f a hi hf
    have : i = 24 := by omega
    subst this
    obtain ⟨f, rfl⟩ : ∃ f9, f = f9 + 1 := ⟨f - 1, by omega⟩
    rw [pl_X4_numbersSum_4, if_neg (by decide)]
    rfl
  | succ m ih =>
    intro i f a hi hf
    obtain ⟨f, rfl⟩ : ∃ f9, f = f9 + 1 := ⟨f - 1, by omega⟩
    have e : Int32.ofNat i < 24 := by rw [q_onltL (by omega) (by omega)]; omega
    rw [pl_X4_numbersSum_4, if_pos e, q_g (by omega) (by omega), q_onC (by omega), show Int32.ofNat i + 1 = Int32.ofNat (i + 1) from q_onaL i 1, ih (i + 1) f _ (by omega) (by omega)]
    rfl
theorem q_nsR : ∀ (m i f : Nat) (a : Int32), i + m = 24 → m < f → pl_X12_named_182 fu f a (Int32.ofNat i) s l u v = pj_b (pf_X12_two (pj_shr (q_nsI s m i a) 16) s l u v) (fun r1 s1 l1 x1 y1 => pj_b (pf_X12_two (q_nsI s m i a) s1 l1 x1 y1) (fun r2 s2 l2 x2 y2 => some ((), s2, l2, x2, y2))) := by
  intro m
  induction m with
  | zero =>
    intro i f a hi hf
    have : i = 24 := by omega
    subst this
    obtain ⟨f, rfl⟩ : ∃ f9, f = f9 + 1 := ⟨f - 1, by omega⟩
    rw [pl_X12_named_182, if_neg (by decide)]
    rfl
  | succ m ih =>
    intro i f a hi hf
    obtain ⟨f, rfl⟩ : ∃ f9, f = f9 + 1 := ⟨f - 1, by omega⟩
    have e : Int32.ofNat i < 24 := by rw [q_onltL (by omega) (by omega)]; omega
    have ej : Int32.ofNat i + 1 = Int32.ofNat (i + 1) := q_onaL i 1
    rw [pl_X12_named_182, if_pos e, q_g (by omega) (by omega), q_onC (by omega)]
    have z : q_nsI s (m + 1) i a = q_nsI s m (i + 1) (a + ((Int32.ofNat i + 1) * s (10000 + i))) := rfl
    rw [z, ← ih (i + 1) f _ (by omega) (by omega), ← ej]
-- the name
theorem q_nmC {i : Nat} (hi : i < 17) (f : Nat) : pl_X8_sayName_8 1000 (f + 1) (Int32.ofNat i) s l x y = pj_b (pf_X8_say (pj_schr 0 i) s l x y) (fun r1 s1 l1 x1 y1 => pl_X8_sayName_8 1000 f (Int32.ofNat (i + 1)) s1 l1 x1 y1) := by
  have e : Int32.ofNat i < 17 := by rw [q_onltL (by omega) (by omega)]; omega
  rw [pl_X8_sayName_8, if_pos e, q_g (by omega) (by omega), q_onC (by omega), show Int32.ofNat i + 1 = Int32.ofNat (i + 1) from q_onaL i 1]
theorem q_nmR {i : Nat} (hi : i < 8) (f : Nat) : pl_X12_named_145 1000 (f + 1) (Int32.ofNat i) s l u v = pj_b (pf_X12_say (if i = 7 then 49 else 48) s l u v) (fun r1 s1 l1 x1 y1 => pl_X12_named_145 1000 f (Int32.ofNat (i + 1)) s1 l1 x1 y1) := by
  have e : Int32.ofNat i < 8 := by rw [q_onltL (by omega) (by omega)]; omega
  have ej : Int32.ofNat i + 1 = Int32.ofNat (i + 1) := q_onaL i 1
  rw [pl_X12_named_145, if_pos e]
  unfold pl_X12_named_165
  by_cases c : i = 7
  · subst c
    rw [if_pos (by decide), if_pos rfl, ej]
  · have n : ¬ Int32.ofNat i = 7 := by
      intro z
      have : (Int32.ofNat i).toInt = 7 := by rw [z]; rfl
      rw [q_onI (by omega)] at this
      omega
    rw [if_neg n, if_neg c, ej]
theorem q_nameP (h : q_Sy n x u) (hn : n < 40) : ∃ x' u', pf_X8_sayName s l x y = some (0, s, l, x', y) ∧ pj_b (pf_X12_say 1 s l u v) (fun r6 s6 l6 x6 y6 => pj_b (pf_X12_say 84 s6 l6 x6 y6) (fun r7 s7 l7 x7 y7 => pj_b (pf_X12_say 49 s7 l7 x7 y7) (fun r8 s8 l8 x8 y8 => pj_b (pf_X12_say 54 s8 l8 x8 y8) (fun r9 s9 l9 x9 y9 => pj_b (pf_X12_say 69 s9 l9 x9 y9) (fun r10 s10 l10 x10 y10 => pj_b (pf_X12_say 78 s10 l10 x10 y10) (fun r11 s11 l11 x11 y11 => pj_b (pf_X12_say 71 s11 l11 x11 y11) (fun r12 s12 l12 x12 y12 => pj_b (pf_X12_say 73 s12 l12 x12 y12) (fun r13 s13 l13 x13 y13 => pj_b (pf_X12_say 78 s13 l13 x13 y13) (fun r14 s14 l14 x14 y14 => pj_b (pf_X12_say 69 s14 l14 x14 y14) (fun r15 s15 l15 x15 y15 => pl_X12_named_145 1000 1000 0 s15 l15 x15 y15)))))))))) = some ((), s, l, u', v) ∧ q_Sy (n + 18) x' u' ∧ q_Fx x x' ∧ q_Fu u u' := by
  obtain ⟨x1, u1, f1, g1, s1, a1, b1⟩ := q_say (s := s) (l := l) (y := y) (v := v) (a := 1) (b := 1) h (by omega) rfl
  obtain ⟨x2, u2, f2, g2, s2, a2, b2⟩ := q_say (s := s) (l := l) (y := y) (v := v) (a := 84) (b := 84) s1 (by omega) rfl
  obtain ⟨x3, u3, f3, g3, s3, a3, b3⟩ := q_say (s := s) (l := l) (y := y) (v := v) (a := 49) (b := 49) s2 (by omega) rfl
  obtain ⟨x4, u4, f4, g4, s4, a4, b4⟩ := q_say (s := s) (l := l) (y := y) (v := v) (a := 54) (b := 54) s3 (by omega) rfl
  obtain ⟨x5, u5, f5, g5, s5, a5, b5⟩ := q_say (s := s) (l := l) (y := y) (v := v) (a := 69) (b := 69) s4 (by omega) rfl
  obtain ⟨x6, u6, f6, g6, s6, a6, b6⟩ := q_say (s := s) (l := l) (y := y) (v := v) (a := 78) (b := 78) s5 (by omega) rfl
  obtain ⟨x7, u7, f7, g7, s7, a7, b7⟩ := q_say (s := s) (l := l) (y := y) (v := v) (a := 71) (b := 71) s6 (by omega) rfl
  obtain ⟨x8, u8, f8, g8, s8, a8, b8⟩ := q_say (s := s) (l := l) (y := y) (v := v) (a := 73) (b := 73) s7 (by omega) rfl
  obtain ⟨x9, u9, f9, g9, s9, a9, b9⟩ := q_say (s := s) (l := l) (y := y) (v := v) (a := 78) (b := 78) s8 (by omega) rfl
  obtain ⟨x10, u10, f10, g10, s10, a10, b10⟩ := q_say (s := s) (l := l) (y := y) (v := v) (a := 69) (b := 69) s9 (by omega) rfl
  obtain ⟨x11, u11, f11, g11, s11, a11, b11⟩ := q_say (s := s) (l := l) (y := y) (v := v) (a := 48) (b := 48) s10 (by omega) rfl
  obtain ⟨x12, u12, f12, g12, s12, a12, b12⟩ := q_say (s := s) (l := l) (y := y) (v := v) (a := 48) (b := 48) s11 (by omega) rfl
  obtain ⟨x13, u13, f13, g13, s13, a13, b13⟩ := q_say (s := s) (l := l) (y := y) (v := v) (a := 48) (b := 48) s12 (by omega) rfl
  obtain ⟨x14, u14, f14, g14, s14, a14, b14⟩ := q_say (s := s) (l := l) (y := y) (v := v) (a := 48) (b := 48) s13 (by omega) rfl
  obtain ⟨x15, u15, f15, g15, s15, a15, b15⟩ := q_say (s := s) (l := l) (y := y) (v := v) (a := 48) (b := 48) s14 (by omega) rfl
  obtain ⟨x16, u16, f16, g16, s16, a16, b16⟩ := q_say (s := s) (l := l) (y := y) (v := v) (a := 48) (b := 48) s15 (by omega) rfl
  obtain ⟨x17, u17, f17, g17, s17, a17, b17⟩ := q_say (s := s) (l := l) (y := y) (v := v) (a := 48) (b := 48) s16 (by omega) rfl
  obtain ⟨x18, u18, f18, g18, s18, a18, b18⟩ := q_say (s := s) (l := l) (y := y) (v := v) (a := 49) (b := 49) s17 (by omega) rfl
  refine ⟨x18, u18, ?_, ?_, s18, (q_Fx_t a1 (q_Fx_t a2 (q_Fx_t a3 (q_Fx_t a4 (q_Fx_t a5 (q_Fx_t a6 (q_Fx_t a7 (q_Fx_t a8 (q_Fx_t a9 (q_Fx_t a10 (q_Fx_t a11 (q_Fx_t a12 (q_Fx_t a13 (q_Fx_t a14 (q_Fx_t a15 (q_Fx_t a16 (q_Fx_t a17 a18))))))))))))))))), (q_Fu_t b1 (q_Fu_t b2 (q_Fu_t b3 (q_Fu_t b4 (q_Fu_t b5 (q_Fu_t b6 (q_Fu_t b7 (q_Fu_t b8 (q_Fu_t b9 (q_Fu_t b10 (q_Fu_t b11 (q_Fu_t b12 (q_Fu_t b13 (q_Fu_t b14 (q_Fu_t b15 (q_Fu_t b16 (q_Fu_t b17 b18)))))))))))))))))⟩
  · unfold pf_X8_sayName po_X8_sayName
    rw [f1, q_b]
    show pl_X8_sayName_8 1000 (999 + 1) (Int32.ofNat 0) s l x1 y = _
    rw [q_nmC (i := 0) (by omega), show pj_schr 0 0 = 84 from rfl, f2, q_b]
    show pl_X8_sayName_8 1000 (998 + 1) (Int32.ofNat 1) s l x2 y = _
    rw [q_nmC (i := 1) (by omega), show pj_schr 0 1 = 49 from rfl, f3, q_b]
    show pl_X8_sayName_8 1000 (997 + 1) (Int32.ofNat 2) s l x3 y = _
    rw [q_nmC (i := 2) (by omega), show pj_schr 0 2 = 54 from rfl, f4, q_b]
    show pl_X8_sayName_8 1000 (996 + 1) (Int32.ofNat 3) s l x4 y = _
    rw [q_nmC (i := 3) (by omega), show pj_schr 0 3 = 69 from rfl, f5, q_b]
    show pl_X8_sayName_8 1000 (995 + 1) (Int32.ofNat 4) s l x5 y = _
    rw [q_nmC (i := 4) (by omega), show pj_schr 0 4 = 78 from rfl, f6, q_b]
    show pl_X8_sayName_8 1000 (994 + 1) (Int32.ofNat 5) s l x6 y = _
    rw [q_nmC (i := 5) (by omega), show pj_schr 0 5 = 71 from rfl, f7, q_b]
    show pl_X8_sayName_8 1000 (993 + 1) (Int32.ofNat 6) s l x7 y = _
    rw [q_nmC (i := 6) (by omega), show pj_schr 0 6 = 73 from rfl, f8, q_b]
    show pl_X8_sayName_8 1000 (992 + 1) (Int32.ofNat 7) s l x8 y = _
    rw [q_nmC (i := 7) (by omega), show pj_schr 0 7 = 78 from rfl, f9, q_b]
    show pl_X8_sayName_8 1000 (991 + 1) (Int32.ofNat 8) s l x9 y = _
    rw [q_nmC (i := 8) (by omega), show pj_schr 0 8 = 69 from rfl, f10, q_b]
    show pl_X8_sayName_8 1000 (990 + 1) (Int32.ofNat 9) s l x10 y = _
    rw [q_nmC (i := 9) (by omega), show pj_schr 0 9 = 48 from rfl, f11, q_b]
    show pl_X8_sayName_8 1000 (989 + 1) (Int32.ofNat 10) s l x11 y = _
    rw [q_nmC (i := 10) (by omega), show pj_schr 0 10 = 48 from rfl, f12, q_b]
    show pl_X8_sayName_8 1000 (988 + 1) (Int32.ofNat 11) s l x12 y = _
    rw [q_nmC (i := 11) (by omega), show pj_schr 0 11 = 48 from rfl, f13, q_b]
    show pl_X8_sayName_8 1000 (987 + 1) (Int32.ofNat 12) s l x13 y = _
    rw [q_nmC (i := 12) (by omega), show pj_schr 0 12 = 48 from rfl, f14, q_b]
    show pl_X8_sayName_8 1000 (986 + 1) (Int32.ofNat 13) s l x14 y = _
    rw [q_nmC (i := 13) (by omega), show pj_schr 0 13 = 48 from rfl, f15, q_b]
    show pl_X8_sayName_8 1000 (985 + 1) (Int32.ofNat 14) s l x15 y = _
    rw [q_nmC (i := 14) (by omega), show pj_schr 0 14 = 48 from rfl, f16, q_b]
    show pl_X8_sayName_8 1000 (984 + 1) (Int32.ofNat 15) s l x16 y = _
    rw [q_nmC (i := 15) (by omega), show pj_schr 0 15 = 48 from rfl, f17, q_b]
    show pl_X8_sayName_8 1000 (983 + 1) (Int32.ofNat 16) s l x17 y = _
    rw [q_nmC (i := 16) (by omega), show pj_schr 0 16 = 49 from rfl, f18, q_b]
    show pl_X8_sayName_8 1000 (982 + 1) (Int32.ofNat 17) s l x18 y = _
    rw [pl_X8_sayName_8, if_neg (by decide)]
  · rw [g1, q_b, g2, q_b, g3, q_b, g4, q_b, g5, q_b, g6, q_b, g7, q_b, g8, q_b, g9, q_b, g10, q_b]
    show pl_X12_named_145 1000 (999 + 1) (Int32.ofNat 0) s l u10 v = _
    rw [q_nmR (i := 0) (by omega), if_neg (by decide), g11, q_b]
    show pl_X12_named_145 1000 (998 + 1) (Int32.ofNat 1) s l u11 v = _
    rw [q_nmR (i := 1) (by omega), if_neg (by decide), g12, q_b]
    show pl_X12_named_145 1000 (997 + 1) (Int32.ofNat 2) s l u12 v = _
    rw [q_nmR (i := 2) (by omega), if_neg (by decide), g13, q_b]
    show pl_X12_named_145 1000 (996 + 1) (Int32.ofNat 3) s l u13 v = _
    rw [q_nmR (i := 3) (by omega), if_neg (by decide), g14, q_b]
    show pl_X12_named_145 1000 (995 + 1) (Int32.ofNat 4) s l u14 v = _
    rw [q_nmR (i := 4) (by omega), if_neg (by decide), g15, q_b]
    show pl_X12_named_145 1000 (994 + 1) (Int32.ofNat 5) s l u15 v = _
    rw [q_nmR (i := 5) (by omega), if_neg (by decide), g16, q_b]
    show pl_X12_named_145 1000 (993 + 1) (Int32.ofNat 6) s l u16 v = _
    rw [q_nmR (i := 6) (by omega), if_neg (by decide), g17, q_b]
    show pl_X12_named_145 1000 (992 + 1) (Int32.ofNat 7) s l u17 v = _
    rw [q_nmR (i := 7) (by omega), if_pos rfl, g18, q_b]
    show pl_X12_named_145 1000 (991 + 1) (Int32.ofNat 8) s l u18 v = _
    rw [pl_X12_named_145, if_neg (by decide)]
theorem q_S9 (h : q_S0 E W s l x y u v) (hc : s 37003 = 9) : q_Sv E W (s 37003) (l 93) (pf_X11_serveType (s 37004) s l x y) (pf_X12_named 2 s l u v) := by
  obtain ⟨hI, h0, hK, hA, hS, h65⟩ := h
  obtain ⟨x1, u1, f1, g1, s1, a1, b1⟩ := q_say (s := s) (l := l) (y := y) (v := v) (a := 73) (b := 73) hS (by omega) rfl
  obtain ⟨x2, u2, f2, g2, s2, a2, b2⟩ := q_say (s := s) (l := l) (y := y) (v := v) (a := s 37004) (b := s 37004) s1 (by omega) rfl
  unfold pf_X11_serveType pf_X12_named po_X12_named pl_X12_named_15
  rw [f1, q_b, f2, q_b, if_pos (show (1 : Int32) < 2 by decide), if_pos rfl]
  unfold pl_X12_named_45
  rw [g1, q_b, g2, q_b]
  by_cases c0 : s 37004 = 0
  · rw [if_pos c0, if_pos c0, if_pos c0]
    obtain ⟨x3, u3, f3, g3, s3, a3, b3⟩ := q_say (s := s) (l := l) (y := y) (v := v) (a := (((1140850688 : Int64) >>> (16 : Int64)) >>> (8 : Int64)).toInt32) (b := 68) s2 (by omega) rfl
    obtain ⟨x4, u4, f4, g4, s4, a4, b4⟩ := q_say (s := s) (l := l) (y := y) (v := v) (a := ((1140850688 : Int64) >>> (16 : Int64)).toInt32) (b := 0) s3 (by omega) rfl
    obtain ⟨x5, u5, f5, g5, s5, a5, b5⟩ := q_two2 (s := s) (l := l) (y := y) (v := v) (q := 1140850688) (b := 0) s4 (by omega) rfl
    refine q_Sv_ok hI h0 hK hA (q_Fx_t a1 (q_Fx_t a2 (q_Fx_t a3 (q_Fx_t a4 a5)))) (q_Fu_t b1 (q_Fu_t b2 (q_Fu_t b3 (q_Fu_t b4 b5)))) s5 (by omega) ?_ ?_
    · rw [q_bI]
      have e : pf_X8_sayTwo ((1140850688 : Int64) >>> (16 : Int64)) s l x2 y = some (0, s, l, x4, y) := by
        unfold pf_X8_sayTwo
        rw [f3, q_b, f4, q_b]
      unfold pf_X8_sayFour
      rw [e, q_b, f5, q_b]
    · rw [g3, q_b, g4, q_b, g5, q_b]
  rw [if_neg c0, if_neg c0, if_neg c0]
  by_cases c2 : s 37004 = 2
  · rw [if_pos c2, if_pos c2, if_pos c2]
    obtain ⟨x3, u3, f3, g3, s3, a3, b3⟩ := q_nameP (s := s) (l := l) (y := y) (v := v) s2 (by omega)
    refine q_Sv_ok hI h0 hK hA (q_Fx_t a1 (q_Fx_t a2 a3)) (q_Fu_t b1 (q_Fu_t b2 b3)) s3 (by omega) ?_ g3
    rw [f3, q_b]
  rw [if_neg c2, if_neg c2, if_neg c2]
  by_cases c6 : s 37004 = 6
  · rw [if_pos c6, if_pos c6]
    have nc := q_nsC (fu := 1000) (s := s) (l := l) (x := x2) (y := y) 24 0 1000 0 (by omega) (by omega)
    have nc' : pf_X4_numbersSum s l x2 y = some (q_nsL s 24 0 0, s, l, x2, y) := nc
    have nr := q_nsR (fu := 1000) (s := s) (l := l) (u := u2) (v := v) 24 0 1000 0 (by omega) (by omega)
    have nr' : pl_X12_named_182 1000 1000 0 0 s l u2 v = _ := nr
    obtain ⟨x3, u3, f3, g3, s3, a3, b3⟩ := q_four2 (s := s) (l := l) (y := y) (v := v) (q := q_nsL s 24 0 0) (b := q_nsI s 24 0 0) s2 (by omega) (by rw [q_nsLI]; rfl)
    refine q_Sv_ok hI h0 hK hA (q_Fx_t a1 (q_Fx_t a2 a3)) (q_Fu_t b1 (q_Fu_t b2 b3)) s3 (by omega) ?_ ?_
    · rw [nc', q_b, f3, q_b]
    · rw [nr', g3]
  · rw [if_neg c6, if_neg c6]
    unfold pl_X12_named_36
    rw [q_bU]
    exact q_Sv_no (r := 18) hI h0 hK hA (q_Fx_t a1 a2) q_Fu0 (by decide) (by decide) rfl (by rw [hc])
-- 2
theorem q_descC (h : q_Sy n x u) (hn : n < 60) {a1 a2 a3 a4 a5 a6 : Int32} (e1 : x 8001 = a1) (e2 : x 8002 = a2) (e3 : x 8003 = a3) (e4 : x 8004 = a4) (e5 : x 8005 = a5) (e6 : x 8006 = a6) (hp : p = 4 ∨ p = 5 ∨ p = 6 ∨ p = 7 ∨ p = 11 ∨ p = 12 ∨ p = 17) : ∃ n' x' u', pf_X8_describe_v1 p s l x y = some (1, s, l, x', y) ∧ pf_X12_told p a1 a2 a3 a4 a5 a6 s l u v = some ((), s, l, u', v) ∧ n < n' ∧ q_Sy n' x' u' ∧ q_Fx x x' ∧ q_Fu u u' := by
  have B : ∀ q : Int64, ∃ n' x' u', pj_b (pf_X8_sayByte q s l x y) (fun _ s1 l1 x1 y1 => some ((1 : Int32), s1, l1, x1, y1)) = some (1, s, l, x', y) ∧ pf_X12_byteOr q s l u v = some ((), s, l, u', v) ∧ n < n' ∧ q_Sy n' x' u' ∧ q_Fx x x' ∧ q_Fu u u' := by
    intro q
    obtain ⟨x1, u1, f1, g1, s1, a1, b1⟩ := q_byteP (s := s) (l := l) (y := y) (v := v) h (by omega) q
    exact ⟨_, x1, u1, by rw [f1, q_b], g1, by omega, s1, a1, b1⟩
  unfold pf_X8_describe_v1 pf_X12_told
  rw [e1, e2, e3, e4, e5, e6]
  have fl : ∀ q : Int64, pf_J9_floorDiv_f86c9 q 1000 s l x y = some (q_fd q 1000, s, l, x, y) := fun q => q_floorDiv (by decide)
  have dn : ∀ q : Int64, pf_X12_down q 1000 s l u v = some (q_fd q 1000, s, l, u, v) := fun q => q_down (by decide)
  simp only [q_bU]
  rw [fl, fl, dn, dn]
  rcases hp with z | z | z | z | z | z | z
  · subst z
    rw [if_pos rfl, if_pos rfl]; exact B _
  · subst z
    rw [if_neg (by decide), if_pos rfl, if_neg (by decide), if_pos rfl]; exact B _
  · subst z
    rw [if_neg (by decide), if_neg (by decide), if_pos rfl, if_neg (by decide), if_neg (by decide), if_pos rfl, q_b, q_b]; exact B _
  · subst z
    rw [if_neg (by decide), if_neg (by decide), if_neg (by decide), if_pos rfl, if_neg (by decide), if_neg (by decide), if_neg (by decide), if_pos rfl, q_b, q_b]; exact B _
  · subst z
    rw [if_neg (by decide), if_neg (by decide), if_neg (by decide), if_neg (by decide), if_neg (by decide), if_neg (by decide), if_neg (by decide), if_pos rfl, if_neg (by decide), if_neg (by decide), if_neg (by decide), if_neg (by decide), if_neg (by decide), if_neg (by decide), if_neg (by decide), if_pos rfl]; exact B _
  · subst z
    obtain ⟨x1, u1, f1, g1, s1, c1, b1⟩ := q_wordP (s := s) (l := l) (y := y) (v := v) h (by omega) (a1.toInt64 * 4)
    rw [if_neg (by decide), if_neg (by decide), if_neg (by decide), if_neg (by decide), if_neg (by decide), if_neg (by decide), if_neg (by decide), if_neg (by decide), if_pos rfl, if_neg (by decide), if_neg (by decide), if_neg (by decide), if_neg (by decide), if_neg (by decide), if_neg (by decide), if_neg (by decide), if_neg (by decide), if_pos rfl]
    refine ⟨_, x1, u1, ?_, g1, by omega, s1, c1, b1⟩
    rw [q_clip, q_b] at f1 ⊢
    rw [f1, q_b]
  · subst z
    rw [if_neg (by decide), if_neg (by decide), if_neg (by decide), if_neg (by decide), if_neg (by decide), if_neg (by decide), if_neg (by decide), if_neg (by decide), if_neg (by decide), if_neg (by decide), if_neg (by decide), if_neg (by decide), if_neg (by decide), if_pos rfl, if_neg (by decide), if_neg (by decide), if_neg (by decide), if_neg (by decide), if_neg (by decide), if_neg (by decide), if_neg (by decide), if_neg (by decide), if_neg (by decide)]; exact B _
end QST9

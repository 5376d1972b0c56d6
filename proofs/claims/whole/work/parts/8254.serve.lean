/-! PURE: the TESTER: services -/
section QSV
variable {s x u s' x' u' x2 u2 : Nat → Int32} {l y v l' y' v' : Nat → Int64} {D E W : Int} {fu f k n m : Nat} {t : Int64} {a b d e p r : Int32}
theorem q_2w (h1 : 0 ≤ a.toInt ∧ a.toInt ≤ 65535) (h2 : 0 ≤ b.toInt ∧ b.toInt ≤ 255) : (a <<< (8 : Int32)) ||| b = 256 * a + b := by
  obtain ⟨i, rfl, hi, hi2⟩ := q_nat h1.1
  obtain ⟨j, rfl, hj, hj2⟩ := q_nat h2.1
  have ei : i ≤ 65535 := by omega
  have ej : j ≤ 255 := by omega
  apply q_inj
  apply BitVec.eq_of_toNat_eq
  have e1 : (Int32.ofNat i).toBitVec.toNat = i := Nat.mod_eq_of_lt (by omega)
  have e2 : (Int32.ofNat j).toBitVec.toNat = j := Nat.mod_eq_of_lt (by omega)
  rw [Int32.toBitVec_or, BitVec.toNat_or, q_l8, BitVec.toNat_shiftLeft, e1, e2, Int32.toBitVec_add, BitVec.toNat_add, Int32.toBitVec_mul, BitVec.toNat_mul, e1, e2]
  have o : (256 : Int32).toBitVec.toNat = 256 := rfl
  rw [o, Nat.shiftLeft_eq, Nat.mod_eq_of_lt (by omega), Nat.mod_eq_of_lt (show 256 * i < 2 ^ 32 by omega), Nat.mod_eq_of_lt (by omega)]
  have := Nat.shiftLeft_add_eq_or_of_lt (i := 8) (b := j) (by omega) i
  rw [Nat.shiftLeft_eq] at this
  rw [← this]
  omega
theorem q_2b (h1 : 0 ≤ a.toInt ∧ a.toInt ≤ 255) (h2 : 0 ≤ b.toInt ∧ b.toInt ≤ 255) : (a <<< (8 : Int32)) ||| b = 256 * a + b := q_2w ⟨h1.1, by omega⟩ h2
theorem q_2bI (h1 : 0 ≤ a.toInt ∧ a.toInt ≤ 255) (h2 : 0 ≤ b.toInt ∧ b.toInt ≤ 255) : (256 * a + b).toInt = 256 * a.toInt + b.toInt := by
  have o : (256 : Int32).toInt = 256 := rfl
  have e : (256 * a).toInt = 256 * a.toInt := by rw [q_mul (by rw [o]; omega) (by rw [o]; omega), o]
  rw [q_add (by rw [e]; omega) (by rw [e]; omega), e]
theorem q_3bI (h1 : 0 ≤ a.toInt ∧ a.toInt ≤ 255) (h2 : 0 ≤ b.toInt ∧ b.toInt ≤ 255) (h3 : 0 ≤ d.toInt ∧ d.toInt ≤ 255) : (65536 * a + 256 * b + d).toInt = 65536 * a.toInt + 256 * b.toInt + d.toInt := by
  have o : (256 : Int32).toInt = 256 := rfl
  have o2 : (65536 : Int32).toInt = 65536 := rfl
  have e : (256 * b).toInt = 256 * b.toInt := by rw [q_mul (by rw [o]; omega) (by rw [o]; omega), o]
  have e2 : (65536 * a).toInt = 65536 * a.toInt := by rw [q_mul (by rw [o2]; omega) (by rw [o2]; omega), o2]
  have e3 : (65536 * a + 256 * b).toInt = 65536 * a.toInt + 256 * b.toInt := by rw [q_add (by rw [e, e2]; omega) (by rw [e, e2]; omega), e, e2]
  rw [q_add (by rw [e3]; omega) (by rw [e3]; omega), e3]
theorem q_3b (h1 : 0 ≤ a.toInt ∧ a.toInt ≤ 255) (h2 : 0 ≤ b.toInt ∧ b.toInt ≤ 255) (h3 : 0 ≤ d.toInt ∧ d.toInt ≤ 255) : ((a <<< (16 : Int32)) ||| (b <<< (8 : Int32))) ||| d = 65536 * a + 256 * b + d := by
  have e0 : ((a <<< (16 : Int32)) ||| (b <<< (8 : Int32))) ||| d = (((a <<< (8 : Int32)) ||| b) <<< (8 : Int32)) ||| d := by
    apply q_inj
    simp only [Int32.toBitVec_or, q_l8, q_l16]
    apply BitVec.eq_of_getLsbD_eq
    intro i hi
    rcases q_32c hi with rfl | rfl | rfl | rfl | rfl | rfl | rfl | rfl | rfl | rfl | rfl | rfl | rfl | rfl | rfl | rfl | rfl | rfl | rfl | rfl | rfl | rfl | rfl | rfl | rfl | rfl | rfl | rfl | rfl | rfl | rfl | rfl
    all_goals simp [BitVec.getLsbD_or, BitVec.getLsbD_shiftLeft]
  have w := q_2bI h1 h2
  rw [e0, q_2b h1 h2, q_2w (by rw [w]; omega) h3, ← Int32.toInt_inj, q_3bI h1 h2 h3]
  have o : (256 : Int32).toInt = 256 := rfl
  have e : (256 * (256 * a + b)).toInt = 256 * (256 * a.toInt + b.toInt) := by rw [q_mul (by rw [o, w]; omega) (by rw [o, w]; omega), o, w]
  rw [q_add (by rw [e]; omega) (by rw [e]; omega), e]
  omega
/-- a byte of the REQUEST -/
theorem q_row {i : Nat} (hr : q_R s) (hi : i < 1000) : 0 ≤ (s (37000 + i)).toInt ∧ (s (37000 + i)).toInt ≤ 255 := by
  have z := hr (37000 + i)
  have g : q_rg (37000 + i) = (0, 255) := by
    unfold q_rg
    rw [show (37000 + i) / 1000 = 37 by omega]
    rfl
  rw [g] at z
  exact z
/-- both served: what was said or refused; or the power went -/
def q_Sv (E W : Int) (c : Int32) (t : Int64) (F : Option (Int32 × pj_Z)) (G : Option (Unit × pj_Z)) : Prop := ∃ r s' l' x' y' u' v', F = some (r, s', l', x', y') ∧ G = some ((), s', l', u', v') ∧ q_I 0 E W s' l' x' y' u' v' ∧ q_Kl x' v' ∧ q_Af s' ∧ l' 93 = t ∧ ((r = -1 ∧ u' 19 = 0) ∨ (¬ r = -1 ∧ ¬ s' 94 = 0 ∧ s' 37003 = c ∧ ((r = 0 ∧ ∃ n, 1 ≤ n ∧ q_Sy n x' u') ∨ (¬ r = 0 ∧ q_Rz c r u'))))
/-- what a service starts with -/
def q_S0 (E W : Int) (s : Nat → Int32) (l : Nat → Int64) (x : Nat → Int32) (y : Nat → Int64) (u : Nat → Int32) (v : Nat → Int64) : Prop := q_I 0 E W s l x y u v ∧ ¬ s 94 = 0 ∧ q_Kl x v ∧ q_Af s ∧ q_Sy 0 x u ∧ s 65 = 0
theorem q_Kl_x (h : q_Kl x v) (fx : q_Fx x x') : q_Kl x' v := by
  unfold q_Kl at h ⊢
  rw [fx 1 (by omega) (by omega) (by omega), fx 2 (by omega) (by omega) (by omega)]
  exact h
theorem q_Af_s (h : q_Af s) (g4 : s' 94 = s 94) (g5 : s' 95 = s 95) : q_Af s' := by
  unfold q_Af at h ⊢
  rw [g4, g5]; exact h
theorem q_Sv_ok {F : Option (Int32 × pj_Z)} {G : Option (Unit × pj_Z)} (hI : q_I 0 E W s l x y u v) (h0 : ¬ s 94 = 0) (hK : q_Kl x v) (hA : q_Af s) (fx : q_Fx x x') (fu : q_Fu u u') (hS : q_Sy n x' u') (hn : 1 ≤ n) (hF : F = some (0, s, l, x', y)) (hG : G = some ((), s, l, u', v)) : q_Sv E W (s 37003) (l 93) F G :=
  ⟨0, s, l, x', y, u', v, hF, hG, q_I_sy hI h0 fx fu, q_Kl_x hK fx, hA, rfl, Or.inr ⟨by decide, h0, rfl, Or.inl ⟨rfl, n, hn, hS⟩⟩⟩
theorem q_Sv_no {F : Option (Int32 × pj_Z)} {G : Option (Unit × pj_Z)} (hI : q_I 0 E W s l x y u v) (h0 : ¬ s 94 = 0) (hK : q_Kl x v) (hA : q_Af s) (fx : q_Fx x x') (fu : q_Fu u u') (hr : ¬ r = -1) (hr0 : ¬ r = 0) (hF : F = some (r, s, l, x', y)) (hG : G = pf_X12_refuse (s 37003) r s l u' v) : q_Sv E W (s 37003) (l 93) F G := by
  obtain ⟨u2, e, z, fu2⟩ := q_refuse (s := s) (l := l) (u := u') (v := v) (s 37003) r
  exact ⟨r, s, l, x', y, u2, v, hF, by rw [hG, e], q_I_sy hI h0 fx (q_Fu_t fu fu2), q_Kl_x hK fx, hA, rfl, Or.inr ⟨hr, h0, rfl, Or.inr ⟨hr0, z⟩⟩⟩
theorem q_bU {F : Option (Unit × pj_Z)} : pj_b F (fun _ s1 l1 x1 y1 => some ((), s1, l1, x1, y1)) = F := by
  unfold pj_b
  cases F with
  | none => rfl
  | some q => rfl
theorem q_bI {F : Option (Int32 × pj_Z)} : pj_b F (fun r s1 l1 x1 y1 => some (r, s1, l1, x1, y1)) = F := by
  unfold pj_b
  cases F with
  | none => rfl
  | some q => rfl
-- 62: the tester is here
theorem q_S62 (h : q_S0 E W s l x y u v) : q_Sv E W (s 37003) (l 93) (pf_X8_say 126 s l x y) (pf_X12_plain 62 s l u v) := by
  obtain ⟨hI, h0, hK, hA, hS, -⟩ := h
  obtain ⟨x1, u1, f1, g1, s1, a1, b1⟩ := q_say (s := s) (l := l) (y := y) (v := v) (a := 126) (b := 126) hS (by omega) rfl
  refine q_Sv_ok hI h0 hK hA a1 b1 s1 (by omega) f1 ?_
  unfold pf_X12_plain po_X12_plain
  rw [if_neg (by decide), if_neg (by decide), if_pos rfl, q_bU, g1]
-- 129, 130: a SESSION begins, ends
theorem q_I_ses (hI : q_I 0 E W s l x y u v) (h0 : ¬ s 94 = 0) (h65 : s 65 = 0) (c : Int32) (hc : c = 0 ∨ c = 1) : q_I 0 E W (pj_u (pj_u (pj_u s 63 c) 64 0) 70 (-1)) l x y u v := by
  have hx := hI.2.2.2.2.2.2.2.2.2.2.2.2.1.2
  have hf := hI.2.2.2.2.2.2.1
  have g : ∀ w, ¬ w = 63 → ¬ w = 64 → ¬ w = 70 → pj_u (pj_u (pj_u s 63 c) 64 0) 70 (-1) w = s w := fun w p q r => by rw [q_un r, q_un q, q_un p]
  refine q_I_x hI h0 ?_ ?_ ?_ (fun w hw n => g w (by omega) (by unfold q_Ss at hw; omega) (by omega))
  · refine q_R_u (q_R_u (q_R_u hI.1 ?_) (by decide)) (by decide)
    rcases hc with z | z <;> rw [z] <;> decide
  · unfold q_Ex at hx ⊢
    rw [g 54 (by omega) (by omega) (by omega), g 7 (by omega) (by omega) (by omega), g 8 (by omega) (by omega) (by omega), g 6 (by omega) (by omega) (by omega), g 94 (by omega) (by omega) (by omega), g 95 (by omega) (by omega) (by omega), g 65 (by omega) (by omega) (by omega), g 3 (by omega) (by omega) (by omega), g 4 (by omega) (by omega) (by omega), g 44 (by omega) (by omega) (by omega), g 62 (by omega) (by omega) (by omega), g 37000 (by omega) (by omega) (by omega), h65]
    exact ⟨hx.1, hx.2.1, hx.2.2.1, fun _ => by decide, hx.2.2.2.2.1, hx.2.2.2.2.2.1, hx.2.2.2.2.2.2.1, fun z => absurd q_ua z⟩
  · obtain ⟨f1, f2, f3, f4, f5, f6⟩ := hf
    refine ⟨f1, ?_, ?_, ?_, ?_, f6⟩
    · rw [g 40 (by omega) (by omega) (by omega)]; exact f2
    · rw [g 67 (by omega) (by omega) (by omega)]; exact f3
    · intro z; rw [q_ua] at z; exact absurd rfl z
    · rw [g 62 (by omega) (by omega) (by omega)]; exact f5
theorem q_S129 (h : q_S0 E W s l x y u v) : q_Sv E W (s 37003) (l 93) (pf_X8_beginSession s l x y) (pf_X12_plain 129 s l u v) := by
  obtain ⟨hI, h0, hK, hA, hS, h65⟩ := h
  have J := q_I_ses hI h0 h65 1 (Or.inr rfl)
  generalize hs : pj_u (pj_u (pj_u s 63 1) 64 0) 70 (-1) = S at J
  have g : ∀ w, ¬ w = 63 → ¬ w = 64 → ¬ w = 70 → S w = s w := fun w p q r => by rw [← hs, q_un r, q_un q, q_un p]
  obtain ⟨x1, u1, f1, g1, s1, a1, b1⟩ := q_say (s := S) (l := l) (y := y) (v := v) (a := 193) (b := 193) hS (by omega) rfl
  obtain ⟨x2, u2, f2, g2, s2, a2, b2⟩ := q_say (s := S) (l := l) (y := y) (v := v) (a := 234) (b := 234) s1 (by omega) rfl
  obtain ⟨x3, u3, f3, g3, s3, a3, b3⟩ := q_say (s := S) (l := l) (y := y) (v := v) (a := 143) (b := 143) s2 (by omega) rfl
  have z := q_Sv_ok (F := pf_X8_beginSession s l x y) (G := pf_X12_plain 129 s l u v) J (by rw [g 94 (by omega) (by omega) (by omega)]; exact h0) hK (q_Af_s hA (g 94 (by omega) (by omega) (by omega)) (g 95 (by omega) (by omega) (by omega))) (q_Fx_t a1 (q_Fx_t a2 a3)) (q_Fu_t b1 (q_Fu_t b2 b3)) s3 (by omega) ?_ ?_
  · rw [g 37003 (by omega) (by omega) (by omega)] at z; exact z
  · unfold pf_X8_beginSession pf_X8_close
    rw [q_b, hs, f1, q_b, f2, q_b, f3, q_b]
  · unfold pf_X12_plain po_X12_plain
    rw [if_pos rfl, hs, g1, q_b, g2, q_b, g3, q_b]
theorem q_S130 (h : q_S0 E W s l x y u v) : q_Sv E W (s 37003) (l 93) (pf_X8_leaveSession s l x y) (pf_X12_plain 130 s l u v) := by
  obtain ⟨hI, h0, hK, hA, hS, h65⟩ := h
  have J := q_I_ses hI h0 h65 0 (Or.inl rfl)
  generalize hs : pj_u (pj_u (pj_u s 63 0) 64 0) 70 (-1) = S at J
  have g : ∀ w, ¬ w = 63 → ¬ w = 64 → ¬ w = 70 → S w = s w := fun w p q r => by rw [← hs, q_un r, q_un q, q_un p]
  obtain ⟨x1, u1, f1, g1, s1, a1, b1⟩ := q_say (s := S) (l := l) (y := y) (v := v) (a := 194) (b := 194) hS (by omega) rfl
  have z := q_Sv_ok (F := pf_X8_leaveSession s l x y) (G := pf_X12_plain 130 s l u v) J (by rw [g 94 (by omega) (by omega) (by omega)]; exact h0) hK (q_Af_s hA (g 94 (by omega) (by omega) (by omega)) (g 95 (by omega) (by omega) (by omega))) a1 b1 s1 (by omega) ?_ ?_
  · rw [g 37003 (by omega) (by omega) (by omega)] at z; exact z
  · unfold pf_X8_leaveSession pf_X8_endSession pf_X8_close
    rw [q_b, q_b, hs, f1, q_b]
  · unfold pf_X12_plain po_X12_plain
    rw [if_neg (by decide), if_pos rfl, hs, g1, q_b]
end QSV

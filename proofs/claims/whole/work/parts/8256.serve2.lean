/-! PURE: the TESTER: numbers, the lock, loading -/
section QSW
variable {s x u s' x' u' x2 u2 : Nat → Int32} {l y v l' y' v' : Nat → Int64} {D E W : Int} {fu f k n m : Nat} {t : Int64} {a b d e p r : Int32}
theorem q_65i (a : Int32) : (a &&& (65535 : Int32)) &&& (65535 : Int32) = a &&& (65535 : Int32) := by
  apply q_inj
  simp only [Int32.toBitVec_and]
  rw [BitVec.and_assoc, BitVec.and_self]
-- 33
def q_g33 (K : (Nat → Int32) → (Nat → Int64) → (Nat → Int32) → (Nat → Int64) → Option (Unit × pj_Z)) (s : Nat → Int32) (l : Nat → Int64) (x : Nat → Int32) (y : Nat → Int64) : Option (Unit × pj_Z) := (if 23 < s 37004 then pj_b (pf_X12_refuse 33 49 s l x y) (fun r10 s10 l10 x10 y10 => K s10 l10 x10 y10) else pj_b (pf_X12_say 97 s l x y) (fun r11 s11 l11 x11 y11 => pj_b (pf_X12_say (s11 37004) s11 l11 x11 y11) (fun r12 s12 l12 x12 y12 => pj_g (s12 37004) 24 (pj_b (pf_X12_say (s12 (10000 + (s12 37004).toNatClampNeg) >>> (16 : Int32)) s12 l12 x12 y12) (fun r13 s13 l13 x13 y13 => pj_g (s13 37004) 24 (pj_b (pf_X12_two (s13 (10000 + (s13 37004).toNatClampNeg)) s13 l13 x13 y13) (fun r14 s14 l14 x14 y14 => K s14 l14 x14 y14)))))))
theorem q_S33 (h : q_S0 E W s l x y u v) (hc : s 37003 = 33) : ∃ G, (∀ K, q_g33 K s l u v = pj_b G (fun _ s l x y => K s l x y)) ∧ q_Sv E W (s 37003) (l 93) (pf_X11_serveNumber (s 37004) s l x y) G := by
  obtain ⟨hI, h0, hK, hA, hS, -⟩ := h
  have rw4 := q_row (i := 4) hI.1 (by omega)
  have o23 : (23 : Int32).toInt = 23 := rfl
  have n0 : ¬ s 37004 < 0 := by
    rw [Int32.lt_iff_toInt_lt]
    have o : (0 : Int32).toInt = 0 := rfl
    have : 0 ≤ (s 37004).toInt := rw4.1
    omega
  by_cases c : 23 < s 37004
  · refine ⟨pf_X12_refuse 33 49 s l u v, ?_, ?_⟩
    · intro K
      unfold q_g33
      rw [if_pos c]
    · have n24 : ¬ s 37004 < 24 := by
        rw [Int32.lt_iff_toInt_lt] at c ⊢
        have o : (24 : Int32).toInt = 24 := rfl
        omega
      refine q_Sv_no (r := 49) hI h0 hK hA q_Fx0 q_Fu0 (by decide) (by decide) ?_ (by rw [hc])
      unfold pf_X11_serveNumber pl_X11_serveNumber_10
      rw [if_neg n0, if_neg n24]
  · have c24 : s 37004 < 24 := by
      rw [Int32.lt_iff_toInt_lt] at c ⊢
      have o : (24 : Int32).toInt = 24 := rfl
      omega
    obtain ⟨i, hi, ei⟩ := q_inN (n := 24) n0 c24 (by omega)
    obtain ⟨x1, u1, f1, g1, s1, a1, b1⟩ := q_say (s := s) (l := l) (y := y) (v := v) (a := 97) (b := 97) hS (by omega) rfl
    obtain ⟨x2, u2, f2, g2, s2, a2, b2⟩ := q_say (s := s) (l := l) (y := y) (v := v) (a := Int32.ofNat i) (b := Int32.ofNat i) s1 (by omega) rfl
    obtain ⟨x3, u3, f3, g3, s3, a3, b3⟩ := q_say (s := s) (l := l) (y := y) (v := v) (a := s (10000 + i) >>> (16 : Int32)) (b := s (10000 + i) >>> (16 : Int32)) s2 (by omega) rfl
    obtain ⟨x4, u4, f4, g4, s4, a4, b4⟩ := q_two2 (s := s) (l := l) (y := y) (v := v) (q := (s (10000 + i) &&& (65535 : Int32)).toInt64) (b := s (10000 + i)) s3 (by omega) (by rw [q_64and, q_65i])
    refine ⟨some ((), s, l, u4, v), ?_, ?_⟩
    · intro K
      unfold q_g33
      rw [if_neg c, g1, q_b, ei, g2, q_b, ei, q_g hi (by omega), q_onC (by omega), g3, q_b, ei, q_g hi (by omega), q_onC (by omega), g4, q_b]
    · refine q_Sv_ok hI h0 hK hA (q_Fx_t a1 (q_Fx_t a2 (q_Fx_t a3 a4))) (q_Fu_t b1 (q_Fu_t b2 (q_Fu_t b3 b4))) s4 (by omega) ?_ rfl
      unfold pf_X11_serveNumber
      rw [ei] at n0 c24 ⊢
      rw [if_neg n0, if_pos c24, f1, q_b, f2, q_b, q_g hi (by omega), q_onC (by omega), f3, q_b, q_g hi (by omega), f4, q_b]
-- 39
theorem q_I_67 (hI : q_I 0 E W s l x y u v) (h0 : ¬ s 94 = 0) (hr : q_R s') (g : ∀ w, q_Ss w → ¬ w = 67 → s' w = s w) (h : ¬ s' 67 = 0 → x' 19 = u' 18 ∧ 0 ≤ (x' 19).toInt ∧ (x' 19).toInt ≤ 65535) (kx : ∀ w, ¬ w = 19 → x' w = x w) (m : ∀ w, ¬ w = 18 → u' w = u w) : q_I 0 E W s' l x' y u' v := by
  have hf := hI.2.2.2.2.2.2.1
  refine q_I_g hI h0 hr ?_ (fun w hw n => g w hw (by omega)) (fun w hw n => kx w (by omega)) (fun _ _ => rfl) (fun w hw n => m w (by omega)) (fun _ _ => rfl) (q_Ld_i (g 70 (by unfold q_Ss; omega) (by omega)) (fun j _ => g _ (by unfold q_Ss; omega) (by omega)) (kx 21 (by omega)))
  obtain ⟨f1, f2, f3, f4, f5, f6, f7⟩ := hf
  have G : ∀ w, (w = 40 ∨ w = 70 ∨ w = 62) → s' w = s w := fun w hw => g w (by unfold q_Ss; omega) (by omega)
  refine ⟨?_, ?_, h, ?_, ?_, f6, ?_⟩
  · rw [kx 13 (by omega), m 14 (by omega)]; exact f1
  · rw [G 40 (by omega), kx 16 (by omega), kx 17 (by omega), m 15 (by omega), m 16 (by omega)]; exact f2
  · rw [G 70 (by omega), kx 21 (by omega), m 23 (by omega)]; exact f4
  · rw [G 62 (by omega)]; exact f5
  · rw [kx 23 (by omega), m 21 (by omega), m 22 (by omega)]; exact f7
theorem q_seed (h : 0 ≤ a.toInt) : 0 ≤ ((pj_reml (7919 * a.toInt64 + 13) 65536).toInt32).toInt ∧ ((pj_reml (7919 * a.toInt64 + 13) 65536).toInt32).toInt ≤ 65535 := by
  have o : (7919 : Int64).toInt = 7919 := rfl
  have o2 : (13 : Int64).toInt = 13 := rfl
  have o3 : (65536 : Int64).toInt = 65536 := rfl
  have hl := a.toInt_lt
  have e1 : (7919 * a.toInt64).toInt = 7919 * a.toInt := by
    rw [q_mulL (by rw [o, Int32.toInt_toInt64]; omega) (by rw [o, Int32.toInt_toInt64]; omega), o, Int32.toInt_toInt64]
  have e2 : (7919 * a.toInt64 + 13).toInt = 7919 * a.toInt + 13 := by
    rw [q_addL (by rw [e1, o2]; omega) (by rw [e1, o2]; omega), e1, o2]
  have e3 := q_remIL (a := 7919 * a.toInt64 + 13) (b := 65536) (by rw [e2]; omega) (by decide)
  rw [o3, e2] at e3
  rw [q_32 (by rw [e3]; omega) (by rw [e3]; omega), e3]
  omega
theorem q_S39 (h : q_S0 E W s l x y u v) (hc : s 37003 = 39) : q_Sv E W (s 37003) (l 93) (pf_X8_serveLock (x 1) s l x y) (pf_X12_unlock (s 37000 &&& (63 : Int32)) s l u v) := by
  obtain ⟨hI, h0, hK, hA, hS, h65⟩ := h
  have hr := hI.1
  have h12 := hI.2.2.1.1
  have f3 := hI.2.2.2.2.2.2.1.2.2.1
  have no : ∀ r : Int32, ¬ r = -1 → ¬ r = 0 → q_Sv E W (s 37003) (l 93) (some (r, s, l, x, y)) (pf_X12_refuse 39 r s l u v) := fun r p q => q_Sv_no (r := r) hI h0 hK hA q_Fx0 q_Fu0 p q rfl (by rw [hc])
  have second : q_Sv E W (s 37003) (l 93) (pl_X8_serveLock_72 (s 37000 &&& (63 : Int32)) s l x y) (pl_X12_unlock_63 (s 37000 &&& (63 : Int32)) s l u v) := by
    unfold pl_X8_serveLock_72 pl_X12_unlock_63 pl_X8_serveLock_87 pl_X12_unlock_78
    simp only [q_bU]
    by_cases c1 : s 37000 &&& (63 : Int32) = 4
    · rw [if_pos c1, if_pos c1]
      by_cases c2 : s 37004 = 2
      · rw [if_pos c2, if_pos c2]
        by_cases c3 : s 68 < 3
        · rw [if_pos c3, if_pos c3]
          by_cases c4 : s 67 = 0
          · rw [if_pos c4, if_pos c4]; exact no 36 (by decide) (by decide)
          · rw [if_neg c4, if_neg c4, q_2b (q_row (i := 5) hr (by omega)) (q_row (i := 6) hr (by omega)), (f3 c4).1]
            by_cases c5 : 256 * s 37005 + s 37006 = pj_rem (3 * u 18 + 4660) 65536
            · rw [if_pos c5, if_pos c5]
              have rS : q_R (pj_u (pj_u s 67 0) 64 1) := q_R_u (q_R_u hr (by decide)) (by decide)
              have J := q_I_67 (s' := pj_u (pj_u s 67 0) 64 1) (x' := x) (u' := u) hI h0 rS (fun w hw n => by unfold q_Ss at hw; rw [q_un (by omega), q_un n]) (fun z => absurd (by rw [q_un (by omega), q_ua]) z) (fun _ _ => rfl) (fun _ _ => rfl)
              generalize hs : pj_u (pj_u s 67 0) 64 1 = S at J
              have g : ∀ w, ¬ w = 67 → ¬ w = 64 → S w = s w := fun w p q => by rw [← hs, q_un q, q_un p]
              obtain ⟨x1, u1, f1, g1, s1, a1, b1⟩ := q_say (s := S) (l := l) (y := y) (v := v) (a := 103) (b := 103) hS (by omega) rfl
              obtain ⟨x2, u2, f2, g2, s2, a2, b2⟩ := q_say (s := S) (l := l) (y := y) (v := v) (a := 2) (b := 2) s1 (by omega) rfl
              rw [f1, g1, q_b, q_b, f2, g2, q_b]
              have z := q_Sv_ok J (by rw [g 94 (by omega) (by omega)]; exact h0) hK (q_Af_s hA (g 94 (by omega) (by omega)) (g 95 (by omega) (by omega))) (q_Fx_t a1 a2) (q_Fu_t b1 b2) s2 (by omega) rfl rfl
              rw [g 37003 (by omega) (by omega)] at z
              exact z
            · rw [if_neg c5, if_neg c5]
              have r68 := q_R68 hr
              rw [Int32.lt_iff_toInt_lt] at c3
              have o3 : (3 : Int32).toInt = 3 := rfl
              have e : (s 68 + 1).toInt = (s 68).toInt + 1 := q_one (by omega) (by omega)
              have rS : q_R (pj_u (pj_u s 67 0) 68 (s 68 + 1)) := q_R_u (q_R_u hr (by decide)) (by rw [e]; exact (show (0 : Int) ≤ (s 68).toInt + 1 ∧ (s 68).toInt + 1 ≤ 3 by omega))
              have J := q_I_67 (s' := pj_u (pj_u s 67 0) 68 (s 68 + 1)) (x' := x) (u' := u) hI h0 rS (fun w hw n => by unfold q_Ss at hw; rw [q_un (by omega), q_un n]) (fun z => absurd (by rw [q_un (by omega), q_ua]) z) (fun _ _ => rfl) (fun _ _ => rfl)
              generalize hs : pj_u (pj_u s 67 0) 68 (s 68 + 1) = S at J
              have g : ∀ w, ¬ w = 67 → ¬ w = 68 → S w = s w := fun w p q => by rw [← hs, q_un q, q_un p]
              have z := q_Sv_no (r := 53) (F := some (53, S, l, x, y)) (G := pf_X12_refuse 39 53 S l u v) J (by rw [g 94 (by omega) (by omega)]; exact h0) hK (q_Af_s hA (g 94 (by omega) (by omega)) (g 95 (by omega) (by omega))) q_Fx0 q_Fu0 (by decide) (by decide) rfl (by rw [g 37003 (by omega) (by omega), hc])
              rw [g 37003 (by omega) (by omega)] at z
              exact z
        · rw [if_neg c3, if_neg c3]; exact no 54 (by decide) (by decide)
      · rw [if_neg c2, if_neg c2]; exact no 18 (by decide) (by decide)
    · rw [if_neg c1, if_neg c1]; exact no 18 (by decide) (by decide)
  unfold pf_X8_serveLock pf_X12_unlock
  by_cases c1 : s 37000 &&& (63 : Int32) = 2
  · rw [if_pos c1, if_pos c1]
    by_cases c2 : s 37004 = 1
    · rw [if_pos c2, if_pos c2]
      have sd := q_seed h12.2.1
      rw [h12.1]
      generalize hq : (pj_reml (7919 * (x 1).toInt64 + 13) 65536).toInt32 = q at sd
      have J := q_I_67 (s' := pj_u s 67 1) (x' := pj_u x 19 q) (u' := pj_u u 18 q) hI h0 (q_R_u hr (by decide)) (fun w hw n => q_un n) (fun _ => by rw [q_ua, q_ua]; exact ⟨rfl, sd.1, sd.2⟩) (fun w n => q_un n) (fun w n => q_un n)
      have hS' : q_Sy 0 (pj_u x 19 q) (pj_u u 18 q) := ⟨by omega, by rw [q_un (by omega)]; exact hS.2.1, by rw [q_un (by omega)]; exact hS.2.2.1, fun i hi => by omega⟩
      have hK' : q_Kl (pj_u x 19 q) v := by
        unfold q_Kl at hK ⊢
        rw [q_un (by omega), q_un (by omega)]; exact hK
      generalize hs : pj_u s 67 1 = S at J
      have g : ∀ w, ¬ w = 67 → S w = s w := fun w p => by rw [← hs, q_un p]
      obtain ⟨x1, u1, f1, g1, s1, a1, b1⟩ := q_say (s := S) (l := l) (y := y) (v := v) (a := 103) (b := 103) hS' (by omega) rfl
      obtain ⟨x2, u2, f2, g2, s2, a2, b2⟩ := q_say (s := S) (l := l) (y := y) (v := v) (a := 1) (b := 1) s1 (by omega) rfl
      have x19 : x2 19 = q := by rw [a2 19 (by omega) (by omega) (by omega), a1 19 (by omega) (by omega) (by omega), q_ua]
      have u18 : u2 18 = q := by rw [b2 18 (by omega) (by omega), b1 18 (by omega) (by omega), q_ua]
      obtain ⟨x3, u3, f3, g3, s3, a3, b3⟩ := q_two2 (s := S) (l := l) (y := y) (v := v) (q := q.toInt64) (b := q) s2 (by omega) (q_64and _)
      rw [f1, g1, q_b, q_b, f2, g2, q_b, q_b, x19, u18, f3, g3, q_b, q_b]
      have z := q_Sv_ok J (by rw [g 94 (by omega)]; exact h0) hK' (q_Af_s hA (g 94 (by omega)) (g 95 (by omega))) (q_Fx_t a1 (q_Fx_t a2 a3)) (q_Fu_t b1 (q_Fu_t b2 b3)) s3 (by omega) rfl rfl
      rw [g 37003 (by omega)] at z
      exact z
    · rw [if_neg c2, if_neg c2]; exact second
  · rw [if_neg c1, if_neg c1]; exact second
end QSW

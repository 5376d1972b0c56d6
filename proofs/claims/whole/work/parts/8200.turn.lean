/-! PURE: the face: turn, run -/
section QTU
variable {s x u s' x' u' : Nat → Int32} {l y v l' y' v' : Nat → Int64} {D E W : Int} {fu f k n c : Nat} {t : Int64} {a b : Int32}
/-- many steps -/
def q_Ls (E W T : Int) (F G : Option (Int32 × pj_Z)) : Prop := ∃ r s' l' x' y' u' v', F = some (r, s', l', x', y') ∧ G = some (r, s', l', u', v') ∧ q_I 0 E W s' l' x' y' u' v' ∧ q_Kl x' v' ∧ q_Af s' ∧ (l' 93).toInt ≤ T
theorem q_bc {A R R2 : Type} {o : Option (R × pj_Z)} {f : R → (Nat → Int32) → (Nat → Int64) → (Nat → Int32) → (Nat → Int64) → Option (R2 × pj_Z)} {g : R2 → (Nat → Int32) → (Nat → Int64) → (Nat → Int32) → (Nat → Int64) → Option A} {r2 : R2} {s2 : Nat → Int32} {l2 : Nat → Int64} {x2 : Nat → Int32} {y2 : Nat → Int64} (h : pj_b o f = some (r2, s2, l2, x2, y2)) : pj_b o (fun r s l x y => pj_b (f r s l x y) g) = g r2 s2 l2 x2 y2 := by
  rw [← q_bb, h, q_b]
theorem q_turnI {N : Nat} (hN : N ≤ 240) (a2 : Int32) (h1 : 0 ≤ a2.toInt) (h2 : a2.toInt ≤ 100000) : ∀ (m i f1 f2 : Nat) (E W : Int) (s x u : Nat → Int32) (l y v : Nat → Int64), i + m = N → m < f1 → m < f2 → q_I 0 E W s l x y u v → q_Kl x v → q_Af s → (l 93).toInt + 100000 * m ≤ 20000000000 → E + 1760 * m < 2147483647 → W + 600 * m < 2147483647 → q_Ls (E + 1760 * m) (W + 600 * m) ((l 93).toInt + 100000 * m) (pl_X11_turn_46 fu f1 (Int32.ofNat N) a2 (Int32.ofNat i) s l x y) (pl_X12_turn_37 fu f2 (Int32.ofNat N) a2 (Int32.ofNat i) s l u v) := by
  intro m
  induction m with
  | zero =>
    intro i f1 f2 E W s x u l y v hi hf1 hf2 hI hK hA ht hE hW
    obtain ⟨f1, rfl⟩ : ∃ f9, f1 = f9 + 1 := ⟨f1 - 1, by omega⟩
    obtain ⟨f2, rfl⟩ : ∃ f9, f2 = f9 + 1 := ⟨f2 - 1, by omega⟩
    have c : ¬ Int32.ofNat i < Int32.ofNat N := by rw [q_onlt (by omega) (by omega)]; omega
    have u1 := (q_V_0 hI).1
    rw [pl_X11_turn_46, if_neg c, pl_X12_turn_37, if_neg c]
    unfold pl_X12_turn_61
    rw [if_neg (by rw [u1]; decide)]
    exact ⟨_, _, _, _, _, _, _, rfl, rfl, q_I_mono hI (by omega) (by omega), hK, hA, by omega⟩
  | succ m ih =>
    intro i f1 f2 E W s x u l y v hi hf1 hf2 hI hK hA ht hE hW
    obtain ⟨f1, rfl⟩ : ∃ f9, f1 = f9 + 1 := ⟨f1 - 1, by omega⟩
    obtain ⟨f2, rfl⟩ : ∃ f9, f2 = f9 + 1 := ⟨f2 - 1, by omega⟩
    have c : Int32.ofNat i < Int32.ofNat N := by rw [q_onlt (by omega) (by omega)]; omega
    have u1 := (q_V_0 hI).1
    have ej : Int32.ofNat i + 1 = Int32.ofNat (i + 1) := q_onaL i 1
    have a3 : a2.toInt64.toInt = a2.toInt := Int32.toInt_toInt64 a2
    have tl := hI.2.2.1.2.2.2.2
    obtain ⟨s1, l1, x1, y1, u1', v1, F, G, hI1, hK1, hA1, e1⟩ := q_stepQ hI hK hA (a := a2.toInt64) (by omega) (by omega) (by omega) (by omega) (by omega)
    have e2 : (l 93 + a2.toInt64).toInt = (l 93).toInt + a2.toInt := by rw [q_addL (by omega) (by omega), a3]
    rw [pl_X11_turn_46, if_pos c, pl_X12_turn_37, if_pos c, if_pos u1, q_bc F, G, q_b, ej]
    obtain ⟨r, s2, l2, x2, y2, u2, v2, F2, G2, hI2, hK2, hA2, e3⟩ := ih (i + 1) f1 f2 (E + 1760) (W + 600) s1 x1 u1' l1 y1 v1 (by omega) (by omega) (by omega) hI1 hK1 hA1 (by rw [e1, e2]; omega) (by omega) (by omega)
    refine ⟨r, s2, l2, x2, y2, u2, v2, F2, G2, q_I_mono hI2 (by omega) (by omega), hK2, hA2, ?_⟩
    rw [e1, e2] at e3
    omega
theorem q_F_turn (hV : q_V k s l x y u v) (hk : k < 512) (h1 : ¬ a < 1) (h2 : ¬ 240 < a) (h3 : ¬ b < 20) (h4 : ¬ 100000 < b) : q_Fa (k + 1) (pf_X11_turn a b s l x y) (pf_X12_turn a b s l u v) := by
  obtain ⟨t1, t2, t3⟩ := q_V_t hV hk
  have a1 : 1 ≤ a.toInt ∧ a.toInt ≤ 240 := by
    rw [Int32.lt_iff_toInt_lt] at h1 h2
    have o : (1 : Int32).toInt = 1 := rfl
    have o2 : (240 : Int32).toInt = 240 := rfl
    rw [o] at h1; rw [o2] at h2
    omega
  have b1 : 20 ≤ b.toInt ∧ b.toInt ≤ 100000 := by
    rw [Int32.lt_iff_toInt_lt] at h3 h4
    have o : (20 : Int32).toInt = 20 := rfl
    have o2 : (100000 : Int32).toInt = 100000 := rfl
    rw [o] at h3; rw [o2] at h4
    omega
  have ea : a = Int32.ofNat a.toInt.toNat := by rw [← Int32.toInt_inj, q_onI (by omega)]; omega
  obtain ⟨hI, hK, hA, -⟩ := hV
  obtain ⟨r, s2, l2, x2, y2, u2, v2, F, G, hI2, hK2, hA2, e3⟩ := q_turnI (fu := 1000) (N := a.toInt.toNat) (by omega) b (by omega) (by omega) a.toInt.toNat 0 1000 1000 (500000 * k) (200000 * k) s x (pj_u u 1 0) l y v (by omega) (by omega) (by omega) hI hK hA (by omega) (by omega) (by omega)
  rw [← ea] at F G
  obtain ⟨z1, z2⟩ := q_V_L (k := k + 1) hI2 hK2 hA2 (by omega) (by omega) (by omega)
  refine ⟨r, s2, l2, x2, y2, u2, v2, ?_, ?_, z1, z2⟩
  · unfold pf_X11_turn po_X11_turn
    rw [if_neg h1, if_neg h2, if_neg h3, if_neg h4]
    exact F
  · have q1 : pf_X12_isIn a.toInt64 1 240 s l u v = some (if a < 1 then 0 else if 240 < a then 0 else 1, s, l, u, v) := q_isI a 1 240
    have q2 : pf_X12_isIn b.toInt64 20 100000 s l u v = some (if b < 20 then 0 else if 100000 < b then 0 else 1, s, l, u, v) := q_isI b 20 100000
    unfold pf_X12_turn po_X12_turn pl_X12_turn_32
    rw [q1, q_b, if_neg h1, if_neg h2, if_neg (show ¬ (1 : Int32) = 0 by decide), q2, q_b, if_neg h3, if_neg h4, if_neg (show ¬ (1 : Int32) = 0 by decide)]
    exact G
theorem q_F_turn0 (hV : q_V k s l x y u v) (h : (a < 1 ∨ (240 : Int32) < a) ∨ (b < 20 ∨ (100000 : Int32) < b)) : q_Rf (k + 1) 1 s l x y (pf_X12_turn a b s l u v) := by
  have q1 : pf_X12_isIn a.toInt64 1 240 s l u v = some (if a < 1 then 0 else if 240 < a then 0 else 1, s, l, u, v) := q_isI a 1 240
  have q2 : pf_X12_isIn b.toInt64 20 100000 s l u v = some (if b < 20 then 0 else if 100000 < b then 0 else 1, s, l, u, v) := q_isI b 20 100000
  have fin : ∀ fu, 1 < fu → q_Rf (k + 1) 1 s l x y (pl_X12_turn_27 fu a b s l u v) := by
    intro fu hf
    obtain ⟨f, rfl⟩ : ∃ f9, fu = f9 + 1 := ⟨fu - 1, by omega⟩
    unfold pl_X12_turn_27 pl_X12_turn_32
    rw [pl_X12_turn_37]
    unfold pl_X12_turn_61
    have p : (0 : Int32) < pj_u u 1 1 1 := by rw [q_ua]; decide
    have p2 : ¬ pj_u u 1 1 1 = 0 := by rw [q_ua]; decide
    rw [if_pos p, if_neg p2]
    refine ⟨0, pj_u u 1 1, v, ?_, q_ua, q_V_u1 (q_V_m hV) 1⟩
    split <;> rfl
  unfold pf_X12_turn po_X12_turn
  rw [q1, q_b]
  by_cases c : a < 1
  · rw [if_pos c, if_pos rfl]; exact fin 1000 (by omega)
  · rw [if_neg c]
    by_cases d : (240 : Int32) < a
    · rw [if_pos d, if_pos rfl]; exact fin 1000 (by omega)
    · rw [if_neg d, if_neg (show ¬ (1 : Int32) = 0 by decide), q2, q_b]
      have h := h.resolve_left (fun z => z.elim c d)
      by_cases e : b < 20
      · rw [if_pos e, if_pos rfl]; exact fin 1000 (by omega)
      · rw [if_neg e, if_pos (h.resolve_left e), if_pos rfl]; exact fin 1000 (by omega)
end QTU

/-! PURE: the face: run -/
section QRU
variable {s x u s' x' u' : Nat → Int32} {l y v l' y' v' : Nat → Int64} {D E W : Int} {fu f k n c : Nat} {t : Int64} {a b : Int32}
theorem q_rs46 {w : Nat} {a : Int32} (h : q_rs w = some a) : ¬ w = 46 ∧ ¬ (23000 ≤ w ∧ w < 26000) := by
  unfold q_rs at h
  constructor
  · intro z
    rw [z] at h
    have h : (none : Option Int32) = some a := h
    cases h
  · intro z
    rw [if_neg (by omega), if_neg (by omega), if_neg (by omega), if_neg (by omega), if_neg (by omega), if_neg (by omega), if_neg (by omega), if_neg (by omega), if_neg (by omega), if_neg (by omega), if_neg (by omega)] at h
    cases h
/-- the model's speed or marks alone are changed -/
theorem q_I_46 (hI : q_I D E W s l x y u v) (hr : q_R s') (g : ∀ w, ¬ w = 46 → (w < 23000 ∨ 26000 ≤ w) → s' w = s w) : q_I D E W s' l x y u v :=
  q_I_fo hI hr (fun w hw => g w (by unfold q_Ss at hw; omega) (by unfold q_Ss at hw; omega)) (fun _ w a h => g w (q_rs46 h).1 (by have := (q_rs46 h).2; omega)) (fun _ _ => rfl) (fun _ _ => rfl)
/-- a stroke's push -/
def q_bu (s : Nat → Int32) (c : Nat) : Int32 := if s (23000 + c) = 0 then s 46 else if s (24000 + c) = 0 then s 46 else (if 9000 < s 46 + (if s (25000 + c) < 12000 then s (25000 + c) else 12000) / 64 then 9000 else s 46 + (if s (25000 + c) < 12000 then s (25000 + c) else 12000) / 64)
def q_bs (s : Nat → Int32) (c : Nat) : Nat → Int32 := pj_u (pj_u (pj_u s 46 (q_bu s c)) (23000 + c) 0) (24000 + c) 0
theorem q_25 (hr : q_R s) (hc : c < 8) : 0 ≤ (s (25000 + c)).toInt ∧ (s (25000 + c)).toInt ≤ 25000 := by
  have z := hr (25000 + c)
  rw [(q_rgB (by omega)).2.2.2.2.2.2.2] at z
  exact z
theorem q_64 (hr : q_R s) (hc : c < 8) : 0 ≤ ((if s (25000 + c) < 12000 then s (25000 + c) else 12000) / 64 : Int32).toInt ∧ ((if s (25000 + c) < 12000 then s (25000 + c) else 12000) / 64 : Int32).toInt ≤ 187 := by
  have z := q_25 hr hc
  have o : (64 : Int32).toInt = 64 := rfl
  have o2 : (12000 : Int32).toInt = 12000 := rfl
  by_cases d : s (25000 + c) < 12000
  · rw [if_pos d]
    rw [Int32.lt_iff_toInt_lt, o2] at d
    rw [q_divI (by omega) (by decide), o]; omega
  · rw [if_neg d]; decide
theorem q_buI (hr : q_R s) (hc : c < 8) : 0 ≤ (q_bu s c).toInt ∧ (q_bu s c).toInt ≤ 9000 := by
  have z := q_64 hr hc
  have r : 0 ≤ (s 46).toInt ∧ (s 46).toInt ≤ 9000 := hr 46
  unfold q_bu
  by_cases c1 : s (23000 + c) = 0
  · rw [if_pos c1]; exact r
  · rw [if_neg c1]
    by_cases c2 : s (24000 + c) = 0
    · rw [if_pos c2]; exact r
    · rw [if_neg c2]
      generalize ((if s (25000 + c) < 12000 then s (25000 + c) else 12000) / 64 : Int32) = q at z
      have e : (s 46 + q).toInt = (s 46).toInt + q.toInt := q_add (by omega) (by omega)
      have o : (9000 : Int32).toInt = 9000 := rfl
      by_cases d : (9000 : Int32) < s 46 + q
      · rw [if_pos d]; decide
      · rw [if_neg d]
        rw [Int32.lt_iff_toInt_lt, o] at d
        omega
theorem q_R_bs (hr : q_R s) (hc : c < 8) : q_R (q_bs s c) := by
  have z := q_rgB (k := c) (by omega)
  exact q_R_u (q_R_u (q_R_u hr (q_buI hr hc)) (by rw [z.2.2.2.2.2.1]; decide)) (by rw [z.2.2.2.2.2.2.1]; decide)
theorem q_pushC (hr : q_R s) (hc : c < 8) {A : Type} (K : pj_F A) : pj_b (pf_X6_takeStroke (Int32.ofNat c) s l x y) (fun r2 s2 l2 x2 y2 => pj_b (pf_X5_speedUp r2 s2 l2 x2 y2) (fun _ s3 l3 x3 y3 => K s3 l3 x3 y3)) = K (q_bs s c) l x y := by
  have gc : ∀ {A : Type} (K : Option A), pj_g (Int32.ofNat c) 8 K = K := fun K => q_g (by omega) (by omega)
  have n1 : ¬ Int32.ofNat c < 0 := q_onnn (by omega)
  have n2 : Int32.ofNat c < 8 := by rw [q_onltL (by omega) (by omega)]; omega
  have r : 0 ≤ (s 46).toInt ∧ (s 46).toInt ≤ 9000 := hr 46
  have o9 : (9000 : Int32).toInt = 9000 := rfl
  have up : ∀ (r2 : Int32) (S : Nat → Int32), S 46 = s 46 → pf_X5_speedUp r2 S l x y = some ((), pj_u S 46 (if S 46 + (if 12000 < r2 then 12000 else r2) / 64 < 9000 then S 46 + (if 12000 < r2 then 12000 else r2) / 64 else 9000), l, x, y) := by
    intro r2 S _
    unfold pf_X5_speedUp pf_J9_min_7cf53
    by_cases d : (12000 : Int32) < r2
    · rw [if_pos d, if_pos d, q_b]
      by_cases e : S 46 + 12000 / 64 < 9000
      · rw [if_pos e, if_pos e, q_b]
      · rw [if_neg e, if_neg e, q_b]
    · rw [if_neg d, if_neg d, q_b]
      by_cases e : S 46 + r2 / 64 < 9000
      · rw [if_pos e, if_pos e, q_b]
      · rw [if_neg e, if_neg e, q_b]
  have e46 : pj_u (pj_u s (23000 + c) 0) (24000 + c) 0 46 = s 46 := by rw [q_un (by omega), q_un (by omega)]
  have co : ∀ q : Int32, pj_u (pj_u (pj_u s (23000 + c) 0) (24000 + c) 0) 46 q = pj_u (pj_u (pj_u s 46 q) (23000 + c) 0) (24000 + c) 0 := by
    intro q
    rw [q_u2 (show ¬ 24000 + c = 46 by omega), q_u2 (show ¬ 23000 + c = 46 by omega)]
  have zero : (if s 46 + (if (12000 : Int32) < 0 then 12000 else 0) / 64 < 9000 then s 46 + (if (12000 : Int32) < 0 then 12000 else 0) / 64 else 9000) = s 46 := by
    have z : (if (12000 : Int32) < 0 then (12000 : Int32) else 0) / 64 = 0 := by decide
    rw [z, Int32.add_zero]
    by_cases e : s 46 < 9000
    · rw [if_pos e]
    · rw [if_neg e]
      rw [Int32.lt_iff_toInt_lt, o9] at e
      rw [← Int32.toInt_inj, o9]; omega
  unfold pf_X6_takeStroke pl_X6_takeStroke_39 pl_X6_takeStroke_40 q_bs q_bu
  simp only [gc, q_onC (show c < 2147483648 by omega)]
  rw [if_neg n1, if_pos n2]
  by_cases c1 : s (23000 + c) = 0
  · rw [if_pos c1, if_pos c1, q_b, up 0 _ e46, q_b, e46, zero, co]
  · rw [if_neg c1, if_neg c1]
    by_cases c2 : s (24000 + c) = 0
    · rw [if_pos c2, if_pos c2, q_b, up 0 _ e46, q_b, e46, zero, co]
    · rw [if_neg c2, if_neg c2, q_b, up _ _ e46, q_b, e46, co]
      have m1 : (if (12000 : Int32) < s (25000 + c) then 12000 else s (25000 + c)) = (if s (25000 + c) < 12000 then s (25000 + c) else 12000) := by
        have o2 : (12000 : Int32).toInt = 12000 := rfl
        by_cases d : (12000 : Int32) < s (25000 + c)
        · rw [if_pos d, if_neg]
          rw [Int32.lt_iff_toInt_lt] at d ⊢
          omega
        · rw [if_neg d]
          by_cases e : s (25000 + c) < 12000
          · rw [if_pos e]
          · rw [if_neg e]
            rw [Int32.lt_iff_toInt_lt] at d e
            rw [← Int32.toInt_inj]; omega
      rw [m1]
      have z := q_64 hr hc
      generalize ((if s (25000 + c) < 12000 then s (25000 + c) else 12000) / 64 : Int32) = q at z
      have m2 : (if s 46 + q < 9000 then s 46 + q else 9000) = (if 9000 < s 46 + q then 9000 else s 46 + q) := by
        by_cases d : s 46 + q < 9000
        · rw [if_pos d, if_neg]
          rw [Int32.lt_iff_toInt_lt] at d ⊢
          omega
        · rw [if_neg d]
          by_cases e : 9000 < s 46 + q
          · rw [if_pos e]
          · rw [if_neg e]
            rw [Int32.lt_iff_toInt_lt] at d e
            rw [← Int32.toInt_inj]; omega
      rw [m2]
end QRU

/-! PURE: ALL OFF -/
/-- m places from b + i on become c -/
def q_fl (b : Nat) (c : Int32) : Nat → Nat → (Nat → Int32) → (Nat → Int32)
  | 0, _, x => x
  | m + 1, i, x => q_fl b c m (i + 1) (pj_u x (b + i) c)
theorem q_fl_at (b : Nat) (c : Int32) : ∀ (m i : Nat) (x : Nat → Int32) (w : Nat), q_fl b c m i x w = if b + i ≤ w ∧ w < b + i + m then c else x w := by
  intro m
  induction m with
  | zero =>
    intro i x w
    rw [if_neg (by omega)]
    rfl
  | succ m ih =>
    intro i x w
    unfold q_fl
    rw [ih]
    by_cases h1 : w = b + i
    · rw [if_neg (by omega), if_pos (by omega), h1]
      exact q_ua
    · rw [q_un h1]
      by_cases h2 : b + (i + 1) ≤ w ∧ w < b + (i + 1) + m
      · rw [if_pos h2, if_pos (by omega)]
      · rw [if_neg h2, if_neg (by omega)]
/-- outputs that are on (from base on) go off, from the i-th on: the EDGES of kind kd at the time t come into the LOG -/
def q_off (base : Nat) (kd : Int32) (t : Int64) : Nat → Nat → (Nat → Int32) × (Nat → Int64) × (Nat → Int32) → (Nat → Int32) × (Nat → Int64) × (Nat → Int32)
  | 0, _, z => z
  | m + 1, i, z => q_off base kd t m (i + 1) (if z.1 (base + i) = 0 then z else (pj_u (pj_u (pj_u z.1 (base + i) 0) (21000 + q_slot z.2.2) kd) (22000 + q_slot z.2.2) (Int32.ofNat i), pj_u z.2.1 (20000 + q_slot z.2.2) t, pj_u z.2.2 11 (z.2.2 11 + 1)))
section QAO
variable {s x u : Nat → Int32} {l y v : Nat → Int64} {fu : Nat}
theorem q_one {a : Int32} (h1 : -2147483648 ≤ a.toInt) (h2 : a.toInt < 2147483647) : (a + 1).toInt = a.toInt + 1 := by
  have o : (1 : Int32).toInt = 1 := by decide
  rw [q_add (by rw [o]; omega) (by rw [o]; omega), o]
/-- what the going off leaves as it is -/
theorem q_off_keeps (base : Nat) (kd : Int32) (t : Int64) (hb : base = 18000 ∨ base = 19000) : ∀ (m i : Nat) (s : Nat → Int32) (l : Nat → Int64) (x : Nat → Int32), i + m = 8 → 0 ≤ (x 11).toInt → (x 11).toInt + m < 2147483647 →
    (∀ w, w < 20000 ∨ 20200 ≤ w → (q_off base kd t m i (s, l, x)).2.1 w = l w) ∧ (∀ w, w ≠ 11 → (q_off base kd t m i (s, l, x)).2.2 w = x w) ∧ (x 11).toInt ≤ ((q_off base kd t m i (s, l, x)).2.2 11).toInt ∧ ((q_off base kd t m i (s, l, x)).2.2 11).toInt ≤ (x 11).toInt + m ∧
    (∀ w, w < base + i ∨ (base + 8 ≤ w ∧ w < 21000) ∨ (21200 ≤ w ∧ w < 22000) ∨ 22200 ≤ w → (q_off base kd t m i (s, l, x)).1 w = s w) ∧ (∀ j, i ≤ j → j < 8 → (q_off base kd t m i (s, l, x)).1 (base + j) = 0) := by
  intro m
  induction m with
  | zero =>
    intro i s l x e h1 h2
    exact ⟨fun w _ => rfl, fun w _ => rfl, Int.le_refl _, by show (x 11).toInt ≤ (x 11).toInt + 0; omega, fun w _ => rfl, fun j h3 h4 => by omega⟩
  | succ m ih =>
    intro i s l x e h1 h2
    have hs := q_slot_lt (x := x)
    unfold q_off
    by_cases c : s (base + i) = 0
    · have c' : (s, l, x).1 (base + i) = 0 := c
      rw [if_pos c']
      obtain ⟨k1, k2, k3, k4, k5, k6⟩ := ih (i + 1) s l x (by omega) h1 (by omega)
      refine ⟨k1, k2, k3, by omega, fun w hw => k5 w (by omega), fun j h3 h4 => ?_⟩
      by_cases hj : j = i
      · rw [hj, k5 (base + i) (by omega), c]
      · exact k6 j (by omega) h4
    · have c' : ¬ (s, l, x).1 (base + i) = 0 := c
      rw [if_neg c']
      have e1 := q_one (a := x 11) (by omega) (by omega)
      have hx : (pj_u x 11 (x 11 + 1) 11).toInt = (x 11).toInt + 1 := by rw [q_ua, e1]
      obtain ⟨k1, k2, k3, k4, k5, k6⟩ := ih (i + 1) (pj_u (pj_u (pj_u s (base + i) 0) (21000 + q_slot x) kd) (22000 + q_slot x) (Int32.ofNat i)) (pj_u l (20000 + q_slot x) t) (pj_u x 11 (x 11 + 1)) (by omega) (by omega) (by omega)
      refine ⟨fun w hw => ?_, fun w hw => ?_, by rw [hx] at k3; exact Int.le_trans (by omega) k3, by rw [hx] at k4; exact Int.le_trans k4 (by omega), fun w hw => ?_, fun j h3 h4 => ?_⟩
      · exact (k1 w hw).trans (q_un (by omega))
      · exact (k2 w hw).trans (q_un hw)
      · refine (k5 w (by omega)).trans ?_
        rw [q_un (by omega), q_un (by omega), q_un (by omega)]
      · by_cases hj : j = i
        · rw [hj]
          refine (k5 (base + i) (by omega)).trans ?_
          rw [q_un (by omega), q_un (by omega), q_ua]
        · exact k6 j (by omega) h4
theorem q_stop2 (t : Int64) : ∀ (m i f : Nat) (s : Nat → Int32) (l : Nat → Int64) (x : Nat → Int32), i + m = 8 → m < f → 0 ≤ (x 11).toInt → (x 11).toInt + m < 2147483647 → pl_X6_stopAll_44 fu f t (Int32.ofNat i) s l x y = some ((), (q_off 19000 4 t m i (s, l, x)).1, (q_off 19000 4 t m i (s, l, x)).2.1, (q_off 19000 4 t m i (s, l, x)).2.2, y) := by
  intro m
  induction m with
  | zero =>
    intro i f s l x e hf h1 h2
    obtain ⟨f, rfl⟩ : ∃ f9, f = f9 + 1 := ⟨f - 1, by omega⟩
    have c1 : ¬ i < 8 := by omega
    simp (disch := omega) only [pl_X6_stopAll_44, q_onltL, if_neg c1, q_off]
  | succ m ih =>
    intro i f s l x e hf h1 h2
    obtain ⟨f, rfl⟩ : ∃ f9, f = f9 + 1 := ⟨f - 1, by omega⟩
    have c1 : i < 8 := by omega
    have hq : q_edge x (fun _ => (x 11).toInt64) (x 11).toInt := ⟨rfl, h1, Int.le_refl _⟩
    simp (disch := omega) only [pl_X6_stopAll_44, pl_X6_stopAll_73, q_onltL, if_pos c1, q_g, q_onC, q_onaL, q_logC hq, q_b, q_off]
    by_cases c : s (19000 + i) = 0
    · rw [if_pos c, if_pos c]
      exact ih (i + 1) f s l x (by omega) (by omega) h1 (by omega)
    · rw [if_neg c, if_neg c]
      have e1 := q_one (a := x 11) (by omega) (by omega)
      exact ih (i + 1) f _ _ _ (by omega) (by omega) (by rw [q_ua, e1]; omega) (by rw [q_ua, e1]; omega)
theorem q_stop1 (t : Int64) : ∀ (m i f : Nat) (s : Nat → Int32) (l : Nat → Int64) (x : Nat → Int32), i + m = 8 → m < f → 0 ≤ (x 11).toInt → (x 11).toInt + m < 2147483647 → pl_X6_stopAll_7 fu f t (Int32.ofNat i) s l x y = pl_X6_stopAll_44 fu fu t 0 (q_off 18000 1 t m i (s, l, x)).1 (q_off 18000 1 t m i (s, l, x)).2.1 (q_off 18000 1 t m i (s, l, x)).2.2 y := by
  intro m
  induction m with
  | zero =>
    intro i f s l x e hf h1 h2
    obtain ⟨f, rfl⟩ : ∃ f9, f = f9 + 1 := ⟨f - 1, by omega⟩
    have c1 : ¬ i < 8 := by omega
    rw [pl_X6_stopAll_7]
    simp (disch := omega) only [q_onltL, if_neg c1, q_off]
  | succ m ih =>
    intro i f s l x e hf h1 h2
    obtain ⟨f, rfl⟩ : ∃ f9, f = f9 + 1 := ⟨f - 1, by omega⟩
    have c1 : i < 8 := by omega
    have hq : q_edge x (fun _ => (x 11).toInt64) (x 11).toInt := ⟨rfl, h1, Int.le_refl _⟩
    rw [pl_X6_stopAll_7]
    simp (disch := omega) only [pl_X6_stopAll_36, q_onltL, if_pos c1, q_g, q_onC, q_onaL, q_logC hq, q_b, q_off]
    by_cases c : s (18000 + i) = 0
    · rw [if_pos c, if_pos c]
      exact ih (i + 1) f s l x (by omega) (by omega) h1 (by omega)
    · rw [if_neg c, if_neg c]
      have e1 := q_one (a := x 11) (by omega) (by omega)
      exact ih (i + 1) f _ _ _ (by omega) (by omega) (by rw [q_ua, e1]; omega) (by rw [q_ua, e1]; omega)
end QAO

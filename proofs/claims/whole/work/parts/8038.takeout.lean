/-! PURE: an EVENT is taken out of the row -/
section QT
variable {s x u : Nat → Int32} {l y v : Nat → Int64} {fu : Nat}
theorem q_y_at {α : Type} {f g : Nat → α} {a m b w : Nat} (h : a ≤ w ∧ w < a + m) : pj_y f a m g b w = g (b + (w - a)) := if_pos h
theorem q_y_out {α : Type} {f g : Nat → α} {a m b w : Nat} (h : ¬ (a ≤ w ∧ w < a + m)) : pj_y f a m g b w = f w := if_neg h
theorem q_y0 {α : Type} (f g : Nat → α) (a b : Nat) : pj_y f a 0 g b = f := by
  funext w
  exact q_y_out (by omega)
/-- one place, then the rest -/
theorem q_yu {α : Type} (f : Nat → α) (a m : Nat) : pj_y (pj_u f a (f (a + 1))) (a + 1) m (pj_u f a (f (a + 1))) (a + 1 + 1) = pj_y f a (m + 1) f (a + 1) := by
  funext w
  by_cases h1 : w = a
  · rw [q_y_out (by omega), h1, q_ua, q_y_at (by omega), Nat.sub_self]
  · by_cases h2 : a + 1 ≤ w ∧ w < a + 1 + m
    · rw [q_y_at h2, q_un (by omega), q_y_at (by omega)]
      congr 1
      omega
    · rw [q_y_out h2, q_un h1, q_y_out (by omega)]
/-- a write elsewhere may come before or behind -/
theorem q_yw {α : Type} (f : Nat → α) {a m z : Nat} (c : α) (h : z < a) : pj_y (pj_u f z c) a m (pj_u f z c) (a + 1) = pj_u (pj_y f a m f (a + 1)) z c := by
  funext w
  by_cases h1 : w = z
  · rw [h1, q_y_out (by omega), q_ua, q_ua]
  · rw [q_un (f := pj_y f a m f (a + 1)) h1]
    by_cases h2 : a ≤ w ∧ w < a + m
    · rw [q_y_at h2, q_un (by omega), q_y_at h2]
    · rw [q_y_out h2, q_un h1, q_y_out h2]
theorem q_c {A : Type} {k : Option A} {sp dp m l1 l2 : Nat} (h1 : sp + m ≤ l1) (h2 : dp + m ≤ l2) (h3 : l1 < 2147483648) (h4 : l2 < 2147483648) : pj_c (Int32.ofNat sp) (Int32.ofNat dp) (Int32.ofNat m) l1 l2 k = k := by
  unfold pj_c
  rw [if_neg]
  have z : ∀ i : Nat, i < 2147483648 → ¬ Int32.ofNat i < 0 := by
    intro i hi q
    rw [Int32.lt_iff_toInt_lt, q_onI hi] at q
    have q : (i : Int) < 0 := q
    omega
  rintro (q | q | q | q | q)
  · exact z sp (by omega) q
  · exact z dp (by omega) q
  · exact z m (by omega) q
  · rw [q_onC (by omega), q_onC (by omega)] at q
    omega
  · rw [q_onC (by omega), q_onC (by omega)] at q
    omega
theorem q_ons {i j : Nat} (h : j ≤ i) : Int32.ofNat i - Int32.ofNat j = Int32.ofNat (i - j) := (Int32.ofNat_sub i j h).symm
/-- the row without its e-th, from b on -/
def q_sh {α : Type} (b e m : Nat) (f : Nat → α) : Nat → α := pj_y f (b + e) m f (b + e + 1)
theorem q_takeOutC {n e : Nat} (hn : n ≤ 64) (he : e < n) (h : s 57 = Int32.ofNat n) : pf_X6_takeOut (Int32.ofNat e) s l x y = some ((), pj_u (q_sh 17000 e (n - e - 1) s) 57 (Int32.ofNat (n - 1)), q_sh 16000 e (n - e - 1) l, pj_y (q_sh 5000 e (n - e - 1) x) (6000 + e) (n - e - 1) (q_sh 5000 e (n - e - 1) x) (6000 + e + 1), y) := by
  unfold q_sh
  by_cases c : 0 < n - e - 1
  · simp (disch := omega) only [pf_X6_takeOut, pl_X6_takeOut_77, h, q_ons, q_onsL, q_onltR, if_pos c, q_onaL, q_c, q_onC, q_y_out, Nat.add_assoc]
  · simp (disch := omega) only [pf_X6_takeOut, pl_X6_takeOut_77, h, q_ons, q_onsL, q_onltR, if_neg c]
    have e0 : n - e - 1 = 0 := by omega
    rw [e0, q_y0, q_y0, q_y0, q_y0]
theorem q_shiftR (k c d : Int32) : ∀ (m e f n : Nat) (s : Nat → Int32) (l : Nat → Int64) (u : Nat → Int32), e + m = n → n < 64 → m < f → s 57 = Int32.ofNat n → ∃ f', pl_X12_happen_35 fu f k c d (Int32.ofNat e) s l u v = pl_X12_happen_35 fu (f' + 1) k c d (Int32.ofNat n) (q_sh 17000 e m s) (q_sh 16000 e m l) (pj_y (q_sh 8000 e m u) (9000 + e) m (q_sh 8000 e m u) (9000 + e + 1)) v := by
  intro m
  induction m with
  | zero =>
    intro e f n s l u he hn hf h
    obtain ⟨f, rfl⟩ : ∃ f9, f = f9 + 1 := ⟨f - 1, by omega⟩
    refine ⟨f, ?_⟩
    unfold q_sh
    rw [q_y0, q_y0, q_y0, q_y0, show e = n by omega]
  | succ m ih =>
    intro e f n s l u he hn hf h
    obtain ⟨f, rfl⟩ : ∃ f9, f = f9 + 1 := ⟨f - 1, by omega⟩
    have c1 : e < n := by omega
    obtain ⟨f', g⟩ := ih (e + 1) f n (pj_u s (17000 + e) (s (17000 + (e + 1)))) (pj_u l (16000 + e) (l (16000 + (e + 1)))) (pj_u (pj_u u (8000 + e) (u (8000 + (e + 1)))) (9000 + e) ((pj_u u (8000 + e) (u (8000 + (e + 1)))) (9000 + (e + 1)))) (by omega) hn (by omega) (by rw [q_un (by omega)]; exact h)
    refine ⟨f', ?_⟩
    rw [pl_X12_happen_35]
    simp (disch := omega) only [pl_X12_happen_60, pl_X12_happen_76, pl_X12_happen_92, h, q_onlt, if_pos c1, q_onaL, q_g, q_onC]
    rw [g]
    unfold q_sh
    have a1 := q_yu s (17000 + e) m
    have a2 := q_yu l (16000 + e) m
    have e1 : ∀ b : Nat, b + (e + 1) = b + e + 1 := fun b => rfl
    simp only [e1] at a1 a2 ⊢
    rw [a1, a2]
    congr 1
    funext w
    by_cases w1 : 9000 + e ≤ w ∧ w < 9000 + e + (m + 1)
    · rw [q_y_at w1]
      by_cases w2 : w = 9000 + e
      · rw [w2, q_y_out (by omega), q_y_out (by omega), q_ua, q_un (by omega), q_y_out (by omega)]
        congr 1
        omega
      · rw [q_y_at (by omega), q_y_out (by omega), q_un (by omega), q_un (by omega), q_y_out (by omega)]
        congr 1
        omega
    · rw [q_y_out w1, q_y_out (by omega)]
      by_cases w3 : 8000 + e ≤ w ∧ w < 8000 + e + (m + 1)
      · rw [q_y_at w3]
        by_cases w4 : w = 8000 + e
        · rw [w4, q_y_out (by omega), q_un (by omega), q_ua]
          congr 1
          omega
        · rw [q_y_at (by omega), q_un (by omega), q_un (by omega)]
          congr 1
          omega
      · rw [q_y_out w3, q_y_out (by omega), q_un (by omega), q_un (by omega)]
end QT

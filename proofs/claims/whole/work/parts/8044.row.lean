/-! PURE: the row of EVENTS, class's and reference's -/
section QW
variable {s x u : Nat → Int32} {l y v : Nat → Int64} {fu : Nat}
def q_ix (e i : Nat) : Nat := if i < e then i else i + 1
theorem q_ix_lt {e i n : Nat} (hi : i < n - 1) : q_ix e i < n := by
  unfold q_ix
  by_cases c : i < e
  · rw [if_pos c]; omega
  · rw [if_neg c]; omega
theorem q_sh_at {α : Type} {f : Nat → α} {b e n i : Nat} (he : e < n) (hi : i < n - 1) : q_sh b e (n - e - 1) f (b + i) = f (b + q_ix e i) := by
  unfold q_sh q_ix
  by_cases c : i < e
  · rw [if_pos c, q_y_out (by omega)]
  · rw [if_neg c, q_y_at (by omega)]
    congr 1
    omega
theorem q_sh_out {α : Type} {f : Nat → α} {b e n w : Nat} (h : w < b ∨ b + n ≤ w) : q_sh b e (n - e - 1) f w = f w := by
  unfold q_sh
  exact q_y_out (by omega)
theorem q_X1_a {a b e n i : Nat} (hab : a + 64 ≤ b) (hn : n ≤ 64) (he : e < n) (hi : i < n - 1) : q_X1 a b n e x (a + i) = x (a + q_ix e i) := by
  unfold q_X1
  rw [q_y_out (by omega), q_sh_at he hi]
theorem q_X1_b {a b e n i : Nat} (hab : a + 64 ≤ b) (hn : n ≤ 64) (he : e < n) (hi : i < n - 1) : q_X1 a b n e x (b + i) = x (b + q_ix e i) := by
  unfold q_X1 q_ix
  by_cases c : i < e
  · rw [if_pos c, q_y_out (by omega), q_sh_out (by omega)]
  · rw [if_neg c, q_y_at (by omega), q_sh_out (by omega)]
    congr 1
    omega
theorem q_X1_out {a b e n w : Nat} (h : w < a ∨ a + n ≤ w) (h2 : w < b ∨ b + n ≤ w) : q_X1 a b n e x w = x w := by
  unfold q_X1
  rw [q_y_out (by omega), q_sh_out h]
theorem q_S1_at {e n i : Nat} (he : e < n) (hi : i < n - 1) : q_S1 n e s (17000 + i) = s (17000 + q_ix e i) := by
  unfold q_S1
  rw [q_un (by omega), q_sh_at he hi]
theorem q_S1_out {e n w : Nat} (h : w < 17000 ∨ 17000 + n ≤ w) (h2 : ¬ w = 57) : q_S1 n e s w = s w := by
  unfold q_S1
  rw [q_un h2, q_sh_out h]
/-- an EVENT of the class is one of the reference -/
def q_E1 (x u : Nat → Int32) (c k d k' d' : Int32) : Prop := ∃ cc : Nat, cc < 8 ∧ c = Int32.ofNat cc ∧ ((k = 0 ∧ k' = 0 ∧ d = d' ∧ 0 ≤ d.toInt ∧ d.toInt ≤ 25000) ∨ (k = 3 ∧ k' = 1) ∨ (k = 1 ∧ k' = 2) ∨ (k = 2 ∧ k' = 4) ∨ (k = 4 ∧ k' = 3 ∧ d - x (7000 + cc) = d' - u (7000 + cc)))
/-- the row: n of them -/
def q_Ev (s x u : Nat → Int32) (n : Nat) : Prop := s 57 = Int32.ofNat n ∧ n ≤ 64 ∧ ∀ i, i < n → q_E1 x u (s (17000 + i)) (x (5000 + i)) (x (6000 + i)) (u (8000 + i)) (u (9000 + i))
theorem q_dab {d a b : Int32} : d - a = (d - b) - (a - b) := by
  rw [← Int32.toInt_inj]
  simp only [Int32.toInt_sub, Int.sub_bmod_bmod, Int.bmod_sub_bmod]
  congr 1
  omega
theorem q_E1_c {x' u' : Nat → Int32} {c k d k' d' : Int32} (h : q_E1 x u c k d k' d') (g : ∀ cc, cc < 8 → x' (7000 + cc) - x (7000 + cc) = u' (7000 + cc) - u (7000 + cc)) : q_E1 x' u' c k d k' d' := by
  obtain ⟨cc, h1, h2, h3⟩ := h
  refine ⟨cc, h1, h2, ?_⟩
  rcases h3 with h3 | h3 | h3 | h3 | ⟨h3, h4, h5⟩
  · exact Or.inl h3
  · exact Or.inr (Or.inl h3)
  · exact Or.inr (Or.inr (Or.inl h3))
  · exact Or.inr (Or.inr (Or.inr (Or.inl h3)))
  · refine Or.inr (Or.inr (Or.inr (Or.inr ⟨h3, h4, ?_⟩)))
    have g := g cc h1
    have e1 : d - x' (7000 + cc) = (d - x (7000 + cc)) - (x' (7000 + cc) - x (7000 + cc)) := by
      exact q_dab
    have e2 : d' - u' (7000 + cc) = (d' - u (7000 + cc)) - (u' (7000 + cc) - u (7000 + cc)) := by
      exact q_dab
    rw [e1, e2, h5, g]
theorem q_Ev_out {n e : Nat} (h : q_Ev s x u n) (he : e < n) : q_Ev (q_S1 n e s) (q_X1 5000 6000 n e x) (q_X1 8000 9000 n e u) (n - 1) := by
  obtain ⟨h1, h2, h3⟩ := h
  refine ⟨q_S1_57, by omega, ?_⟩
  intro i hi
  rw [q_S1_at he hi, q_X1_a (by omega) h2 he hi, q_X1_b (by omega) h2 he hi, q_X1_a (by omega) h2 he hi, q_X1_b (by omega) h2 he hi]
  refine q_E1_c (h3 _ (q_ix_lt hi)) ?_
  intro cc hc
  rw [q_X1_out (by omega) (by omega), q_X1_out (by omega) (by omega), Int32.sub_self, Int32.sub_self]
theorem q_Ev_in {n : Nat} {c k d k' d' : Int32} (h : q_Ev s x u n) (hn : n < 64) (g : q_E1 x u c k d k' d') : q_Ev (pj_u (pj_u s (17000 + n) c) 57 (Int32.ofNat (n + 1))) (pj_u (pj_u x (5000 + n) k) (6000 + n) d) (pj_u (pj_u u (8000 + n) k') (9000 + n) d') (n + 1) := by
  obtain ⟨h1, h2, h3⟩ := h
  refine ⟨q_ua, by omega, ?_⟩
  intro i hi
  by_cases c1 : i = n
  · subst c1
    rw [q_un (by omega), q_ua, q_un (by omega), q_ua, q_ua, q_un (by omega), q_ua, q_ua]
    refine q_E1_c g ?_
    intro cc hc
    rw [q_un (by omega), q_un (by omega), q_un (by omega), q_un (by omega), Int32.sub_self, Int32.sub_self]
  · rw [q_un (by omega), q_un (by omega), q_un (by omega), q_un (by omega), q_un (by omega), q_un (by omega), q_un (by omega), q_un (by omega), q_un (by omega), q_un (by omega)]
    refine q_E1_c (h3 i (by omega)) ?_
    intro cc hc
    rw [q_un (by omega), q_un (by omega), q_un (by omega), q_un (by omega), Int32.sub_self, Int32.sub_self]
end QW

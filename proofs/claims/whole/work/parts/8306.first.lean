/-! PURE: the first state, printed by gen_first.py -/
section QFST
theorem q_rgZ (v : Nat) (h0 : ¬ v < 97) (h1 : ¬ (10000 ≤ v ∧ v < 10024)) (h2 : ¬ (28000 ≤ v ∧ v < 28013)) : (q_rg v).1 ≤ 0 ∧ 0 ≤ (q_rg v).2 := by
  have f : ∀ {c : Nat}, 24 ≤ c → pj_xf 3 c = 0 ∧ pj_xf 4 c = 0 := by
    intro c hc
    obtain ⟨d, rfl⟩ : ∃ d, c = d + 24 := ⟨c - 24, by omega⟩
    exact ⟨rfl, rfl⟩
  have g : (q_sc.getD v (-2147483648, 2147483647)).1 ≤ 0 ∧ 0 ≤ (q_sc.getD v (-2147483648, 2147483647)).2 := by
    obtain ⟨d, rfl⟩ : ∃ d, v = d + 97 := ⟨v - 97, by omega⟩
    exact ⟨by show (-2147483648 : Int) ≤ 0; decide, by show (0 : Int) ≤ 2147483647; decide⟩
  unfold q_rg
  split
  · exact g
  · decide
  · decide
  · split <;> decide
  · decide
  · rename_i e
    have hc : 24 ≤ v - 10000 := by omega
    generalize v - 10000 = c at *
    have := f hc
    rw [this.1, this.2]; decide
  · split <;> decide
  · split <;> decide
  all_goals first | decide | skip
  · rename_i e
    split
    · omega
    · decide
theorem q_fSN : ∀ i, i < 97 → (q_rg i).1 ≤ (q_fS i).toInt ∧ (q_fS i).toInt ≤ (q_rg i).2 := by decide +kernel
theorem q_gD {L : List Int32} {c : Nat} (h : L.length ≤ c) : L.getD c 0 = 0 := by
  rw [List.getD_eq_getElem?_getD, List.getElem?_eq_none h]
  rfl
theorem q_fSZ (v : Nat) (h : ¬ (v < 1000) ∧ ¬ (10000 ≤ v ∧ v < 10024) ∧ ¬ (11000 ≤ v ∧ v < 11016) ∧ ¬ (12000 ≤ v ∧ v < 12032) ∧ ¬ (26000 ≤ v ∧ v < 26104) ∧ ¬ (27000 ≤ v ∧ v < 27104) ∧ ¬ (28000 ≤ v ∧ v < 28013) ∧ ¬ (29000 ≤ v ∧ v < 29010) ∧ ¬ (31000 ≤ v ∧ v < 31010) ∧ ¬ (32000 ≤ v ∧ v < 32010) ∧ ¬ (33000 ≤ v ∧ v < 33010) ∧ ¬ (34000 ≤ v ∧ v < 34010)) : q_fS v = 0 := by
  unfold q_fS
  split
  · omega
  all_goals first
    | (refine q_gD ?_; simp only [List.length_cons, List.length_nil]; omega)
    | rfl
theorem q_fS1 (v : Nat) (h : 97 ≤ v) (h2 : v < 1000) : q_fS v = 0 := by
  unfold q_fS
  rw [show v / 1000 = 0 by omega]
  exact q_gD (by simp only [List.length_cons, List.length_nil]; omega)
theorem q_blk {P : Nat → Prop} {b n : Nat} (h : ∀ i, i < n → P (b + i)) {v : Nat} (h1 : b ≤ v) (h2 : v < b + n) : P v := by
  have := h (v - b) (by omega)
  rw [show b + (v - b) = v by omega] at this
  exact this
abbrev q_fSP (v : Nat) : Prop := (q_rg v).1 ≤ (q_fS v).toInt ∧ (q_fS v).toInt ≤ (q_rg v).2
theorem q_fSR : q_R q_fS := by
  intro v
  show q_fSP v
  by_cases c0 : v < 97
  · exact q_fSN v c0
  by_cases c1 : v < 1000
  · have := q_rgZ v c0 (by omega) (by omega)
    unfold q_fSP
    rw [q_fS1 v (by omega) c1]
    exact this
  by_cases c10 : 10000 ≤ v ∧ v < 10024
  · exact q_blk (P := q_fSP) (b := 10000) (n := 24) (by decide +kernel) c10.1 c10.2
  by_cases c11 : 11000 ≤ v ∧ v < 11016
  · exact q_blk (P := q_fSP) (b := 11000) (n := 16) (by decide +kernel) c11.1 c11.2
  by_cases c12 : 12000 ≤ v ∧ v < 12032
  · exact q_blk (P := q_fSP) (b := 12000) (n := 32) (by decide +kernel) c12.1 c12.2
  by_cases c26 : 26000 ≤ v ∧ v < 26104
  · exact q_blk (P := q_fSP) (b := 26000) (n := 104) (by decide +kernel) c26.1 c26.2
  by_cases c27 : 27000 ≤ v ∧ v < 27104
  · exact q_blk (P := q_fSP) (b := 27000) (n := 104) (by decide +kernel) c27.1 c27.2
  by_cases c28 : 28000 ≤ v ∧ v < 28013
  · exact q_blk (P := q_fSP) (b := 28000) (n := 13) (by decide +kernel) c28.1 c28.2
  by_cases c29 : 29000 ≤ v ∧ v < 29010
  · exact q_blk (P := q_fSP) (b := 29000) (n := 10) (by decide +kernel) c29.1 c29.2
  by_cases c31 : 31000 ≤ v ∧ v < 31010
  · exact q_blk (P := q_fSP) (b := 31000) (n := 10) (by decide +kernel) c31.1 c31.2
  by_cases c32 : 32000 ≤ v ∧ v < 32010
  · exact q_blk (P := q_fSP) (b := 32000) (n := 10) (by decide +kernel) c32.1 c32.2
  by_cases c33 : 33000 ≤ v ∧ v < 33010
  · exact q_blk (P := q_fSP) (b := 33000) (n := 10) (by decide +kernel) c33.1 c33.2
  by_cases c34 : 34000 ≤ v ∧ v < 34010
  · exact q_blk (P := q_fSP) (b := 34000) (n := 10) (by decide +kernel) c34.1 c34.2
  have := q_rgZ v c0 c10 c28
  unfold q_fSP
  rw [q_fSZ v (by omega)]
  exact this
end QFST

/-! PURE: the first state keeps the invariant -/
section QFSV
theorem q_fL1 {k n : Nat} {lo : Int} (h : 2 ≤ n ∧ n ≤ 8 ∧ q_fS (28000 + k) = Int32.ofNat n ∧ (∀ j, j < n - 1 → (q_fS (26000 + 8 * k + j)).toInt < (q_fS (26000 + 8 * k + (j + 1))).toInt) ∧ ∀ j, j < n → -10000 ≤ (q_fS (26000 + 8 * k + j)).toInt ∧ (q_fS (26000 + 8 * k + j)).toInt ≤ 30000 ∧ lo ≤ (q_fS (27000 + 8 * k + j)).toInt ∧ (q_fS (27000 + 8 * k + j)).toInt ≤ 30000) : q_isLn q_fS k n lo := ⟨h.1, h.2.1, h.2.2.1, fun j hj => h.2.2.2.1 j (by omega), h.2.2.2.2⟩
theorem q_fLn : q_Ln q_fS := by
  refine ⟨?_, ⟨3, q_fL1 (by decide +kernel)⟩, ?_⟩
  · intro k hk
    by_cases c : k < 10
    · refine ⟨2, q_fL1 ?_⟩
      revert k
      decide +kernel
    · obtain rfl | rfl : k = 10 ∨ k = 11 := by omega
      · exact ⟨3, q_fL1 (by decide +kernel)⟩
      · exact ⟨3, q_fL1 (by decide +kernel)⟩
  · unfold q_isAx
    decide +kernel
theorem q_fEs : q_Es q_fS q_fL q_fX q_fU := by
  refine ⟨⟨0, ⟨by decide +kernel, by omega, fun i hi => absurd hi (by omega)⟩, by decide +kernel, by decide +kernel, fun i hi => absurd hi (by omega)⟩, ?_⟩
  unfold q_Ex q_Ld
  refine ⟨by decide +kernel, by decide +kernel, by decide +kernel, by decide +kernel, by decide +kernel, by decide +kernel, by decide +kernel, fun z => absurd ?_ z⟩
  decide +kernel
theorem q_fRS : ∀ w, w < 97 → q_rsS w = none ∨ q_rsS w = some (q_fS w) := by decide +kernel
theorem q_fRz : ∀ w a, q_rs w = some a → q_fS w = a := by
  intro w a h
  unfold q_rs at h
  by_cases c1 : w < 97
  · rw [if_pos c1] at h
    rcases q_fRS w c1 with z | z
    · rw [z] at h; cases h
    · rw [z] at h; exact Option.some.inj h
  rw [if_neg c1] at h
  have Z : ∀ {K : Option Int32}, (some 0 = some a → q_fS w = 0 → q_fS w = a) := fun h z => by rw [z]; exact Option.some.inj h
  by_cases c2 : 2000 ≤ w ∧ w < 2004
  · rw [if_pos c2] at h; exact Z (K := none) h (q_fSZ w (by omega))
  rw [if_neg c2] at h
  by_cases c3 : 8000 ≤ w ∧ w < 8032
  · rw [if_pos c3] at h; exact Z (K := none) h (q_fSZ w (by omega))
  rw [if_neg c3] at h
  by_cases c4 : 9000 ≤ w ∧ w < 9016
  · rw [if_pos c4] at h; exact Z (K := none) h (q_fSZ w (by omega))
  rw [if_neg c4] at h
  by_cases c5 : 18000 ≤ w ∧ w < 18008
  · rw [if_pos c5] at h; exact Z (K := none) h (q_fSZ w (by omega))
  rw [if_neg c5] at h
  by_cases c6 : 19000 ≤ w ∧ w < 19008
  · rw [if_pos c6] at h; exact Z (K := none) h (q_fSZ w (by omega))
  rw [if_neg c6] at h
  by_cases c7 : 30000 ≤ w ∧ w < 30010
  · rw [if_pos c7] at h; exact Z (K := none) h (q_fSZ w (by omega))
  rw [if_neg c7] at h
  by_cases c8 : 34000 ≤ w ∧ w < 34010
  · rw [if_pos c8] at h
    have q : ∀ i, i < 10 → q_fS (34000 + i) = pj_xf 6 i := by decide +kernel
    have := q (w - 34000) (by omega)
    rw [show 34000 + (w - 34000) = w by omega] at this
    rw [this]
    exact Option.some.inj h
  rw [if_neg c8] at h
  by_cases c9 : 35000 ≤ w ∧ w < 35010
  · rw [if_pos c9] at h; exact Z (K := none) h (q_fSZ w (by omega))
  rw [if_neg c9] at h
  by_cases c10 : 36000 ≤ w ∧ w < 36010
  · rw [if_pos c10] at h; exact Z (K := none) h (q_fSZ w (by omega))
  rw [if_neg c10] at h
  by_cases c11 : 40000 ≤ w ∧ w < 40224
  · rw [if_pos c11] at h; exact Z (K := none) h (q_fSZ w (by omega))
  rw [if_neg c11] at h
  cases h
theorem q_fI : q_I 0 0 0 q_fS q_fL q_fX q_fY q_fU q_fV := by
  refine ⟨q_fSR, q_fLn, ?_, ?_, ?_, ?_, ?_, ?_, ?_, ?_, ?_, ?_, q_fEs, ?_⟩
  · unfold q_Ct; decide +kernel
  · unfold q_Wl q_sp q_wh; decide +kernel
  · unfold q_Pl; decide +kernel
  · unfold q_Wt q_W1; decide +kernel
  · unfold q_Fg; decide +kernel
  · unfold q_Fm; decide +kernel
  · unfold q_Rc; decide +kernel
  · unfold q_Vd; decide +kernel
  · unfold q_Kn; decide +kernel
  · exact q_Pg_mk (q_PW_G q_PW_0) (by simp) (by simp) trivial trivial (by decide +kernel) (by decide +kernel)
  · intro _
    refine ⟨q_fRz, rfl, rfl, by decide +kernel, by decide +kernel, rfl, by decide +kernel, by decide +kernel, by decide +kernel, rfl, rfl, by decide +kernel, rfl, by decide +kernel, by decide +kernel⟩
theorem q_fV0 : q_V 0 q_fS q_fL q_fX q_fY q_fU q_fV := by
  have e : q_fU 1 = 0 := by decide +kernel
  refine ⟨?_, ?_, ?_, by decide +kernel⟩
  · rw [q_uv e]
    exact q_fI
  · unfold q_Kl; decide +kernel
  · unfold q_Af; decide +kernel
end QFSV

/-! PURE: one LOOP: the pair -/
section QLP
variable {s x u s' x' u' : Nat → Int32} {l y v l' y' v' : Nat → Int64} {D E W : Int} {t : Int64}
def q_Af (s : Nat → Int32) : Prop := s 94 = 2 → (s 95).toInt ≤ 99
def q_Lp (E W : Int) (t : Int64) (F G : Option (Unit × pj_Z)) : Prop := ∃ s' l' x' y' u' v', F = some ((), s', l', x', y') ∧ G = some ((), s', l', u', v') ∧ q_I 0 E W s' l' x' y' u' v' ∧ q_Kl x' v' ∧ q_Af s' ∧ l' 93 = t
theorem q_Lp_I {F F' G G' : Option (Unit × pj_Z)} (hF : F = F') (hG : G = G') (h : q_Lp E W t F' G') : q_Lp E W t F G := by rw [hF, hG]; exact h
theorem q_I_95 (hI : q_I D E W s l x y u v) (h0 : ¬ s 94 = 0) (a : Int32) (h1 : 0 ≤ a.toInt) (h2 : a.toInt ≤ 100) : q_I D E W (pj_u s 95 a) l x y u v := by
  have hx := hI.2.2.2.2.2.2.2.2.2.2.2.2.1.2
  have hf := hI.2.2.2.2.2.2.1
  refine q_I_x hI h0 (q_R_u hI.1 ⟨h1, h2⟩) ?_ (q_Fg_c hf ?_ ?_ ?_ ?_ rfl rfl rfl rfl rfl rfl rfl rfl rfl rfl rfl rfl rfl rfl rfl rfl) (fun w _ n => q_un (by omega))
  · unfold q_Ex at hx ⊢
    rw [q_ua, q_Ld_c (s := s) (x' := x) (x := x) (q_un (by omega)) (fun j _ => q_un (by omega)) rfl]
    simp (disch := omega) only [q_un]
    exact ⟨hx.1, hx.2.1, fun _ => h2, hx.2.2.2⟩
  all_goals rw [q_un (by omega)]
/-- the loop's end: AFTER RUN is counted -/
theorem q_endP (hI : q_I 0 E W s l x y u v) (h0 : ¬ s 94 = 0) (hK : q_Kl x v) (hA : q_Af s) (hW : W + 60 < 2147483647) : q_Lp E (W + 60) (l 93) (if s 94 = 2 then pj_b (pf_X11_countAfterRun s l x y) (fun _ s8 l8 x8 y8 => some ((), s8, l8, x8, y8)) else some ((), s, l, x, y)) (if s 94 = 2 then (if (s 95 + 1) = 100 then pj_b (pf_X12_endCycle (pj_u s 95 (s 95 + 1)) l u v) (fun _ s2 l2 x2 y2 => pj_b (pf_X12_writeStore s2 l2 x2 y2) (fun r3 s3 l3 x3 y3 => (if r3 = 0 then some ((), s3, l3, x3, y3) else pj_b (pf_X12_forget (pj_u s3 94 0) l3 x3 y3) (fun _ s4 l4 x4 y4 => some ((), s4, l4, x4, y4))))) else some ((), (pj_u s 95 (s 95 + 1)), l, u, v)) else some ((), s, l, u, v)) := by
  by_cases c : s 94 = 2
  · rw [if_pos c, if_pos c]
    have r : 0 ≤ (s 95).toInt ∧ (s 95).toInt ≤ 100 := hI.1 95
    have a := hA c
    have e : (s 95 + 1).toInt = (s 95).toInt + 1 := q_one (by omega) (by omega)
    have hJ := q_I_95 hI h0 (s 95 + 1) (by omega) (by omega)
    have hJ0 : ¬ pj_u s 95 (s 95 + 1) 94 = 0 := by rw [q_un (by omega)]; exact h0
    unfold pf_X11_countAfterRun
    by_cases d : s 95 + 1 = 100
    · have d1 : ¬ s 95 + 1 < 100 := by rw [d]; decide
      rw [if_pos d, if_neg d1]
      generalize pj_u s 95 (s 95 + 1) = s1 at hJ hJ0
      obtain ⟨s2, x2, f1, f2, hI2, e2⟩ := q_cycleP hJ hJ0
      obtain ⟨r3, S, X, V, hr3, g1, g2, hI3, -⟩ := q_storeP hI2 (by rw [e2]; exact hJ0) hW
      obtain ⟨hI4, hK4⟩ := q_offJ hI3
      refine ⟨_, _, _, _, _, _, ?_, ?_, hI4, hK4, ?_, ?_⟩
      · rw [f1, q_b, g1, q_b, q_goOff]; rfl
      · rw [f2, q_b, g2]
        rcases hr3 with z | z
        · rw [if_pos z, q_b, if_pos rfl]
        · have n1 : ¬ (1 : Int32) = 0 := by decide
          rw [if_neg (by rw [z]; exact n1), q_b, if_neg n1, q_forget, q_rs_rz, q_b]
      · intro z
        have : q_off0 q_rz S 94 = 0 := rfl
        rw [this] at z
        exact absurd z (by decide)
      · rw [q_un (by omega), q_un (by omega)]
    · have d0 : ¬ (s 95 + 1).toInt = 100 := fun z => d (by rw [← Int32.toInt_inj, z]; rfl)
      have d1 : s 95 + 1 < 100 := by rw [Int32.lt_iff_toInt_lt]; show (s 95 + 1).toInt < 100; omega
      rw [if_neg d, if_pos d1, q_b]
      refine ⟨_, _, _, _, _, _, rfl, rfl, q_I_mono hJ (Int.le_refl E) (by omega : W ≤ W + 60), hK, ?_, rfl⟩
      intro _
      rw [q_ua]
      omega
  · rw [if_neg c, if_neg c]
    exact ⟨_, _, _, _, _, _, rfl, rfl, q_I_mono hI (Int.le_refl E) (by omega : W ≤ W + 60), hK, hA, rfl⟩
end QLP

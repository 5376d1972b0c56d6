/-! PURE: pedals: the pair; ints as longs; idling -/
section QID
variable {s x u s' x' u' : Nat → Int32} {l y v l' y' v' : Nat → Int64} {D E W : Int}
theorem q_R_71 {k : Nat} {a : Int32} (hr : q_R s) (h : (q_rg k).1 ≤ a.toInt ∧ a.toInt ≤ (q_rg k).2) : q_R (pj_u s k a) := q_R_u hr h
theorem q_R_pd (hr : q_R s) : q_R (q_pd s) := by
  have v0 : -10000 ≤ (s 34000).toInt ∧ (s 34000).toInt ≤ 30000 := q_val34 hr 0 (by omega)
  have v1 : -10000 ≤ (s 34001).toInt ∧ (s 34001).toInt ≤ 30000 := q_val34 hr 1 (by omega)
  unfold q_pd
  split
  · split
    · refine q_R_u (q_R_u hr ?_) ?_
      · exact q_clI (by decide)
      · split
        · exact v0
        · exact v1
    · exact q_R_u hr v0
  · split
    · exact q_R_u hr v1
    · exact q_R_u hr (by decide)
theorem q_R_pt (hr : q_R s) : q_R (q_pt s) := by
  unfold q_pt
  split
  · split
    · exact q_R_u hr (q_clI (by decide))
    · exact hr
  · exact hr
theorem q_pd_out {w : Nat} (h : w < 71 ∨ 73 < w) : q_pd s w = s w := by
  unfold q_pd
  split
  · split
    · rw [q_un (by omega), q_un (by omega)]
    · rw [q_un (by omega)]
  · split
    · rw [q_un (by omega)]
    · rw [q_un (by omega)]
theorem q_pt_out {w : Nat} (h : ¬ w = 74) : q_pt s w = s w := by
  unfold q_pt
  split
  · split
    · rw [q_un h]
    · rfl
  · rfl
theorem q_pedP (hI : q_I D E W s l x y u v) (h0 : ¬ s 94 = 0) (a : Int32) (ha : (1 < v 12) ↔ a = 0) : ∃ (S1 S2 S4 : Nat → Int32) (r o : Int32), pf_X9_readPedals s l x y = some ((), S1, l, x, y) ∧ pf_X9_readPlates S1 l x y = some (r, S2, l, pj_u x 12 o, y) ∧ pf_X9_enrich a ((if r = 0 then S2 else pj_u S2 29 1) 10010) ((if r = 0 then S2 else pj_u S2 29 1) 10011) (if r = 0 then S2 else pj_u S2 29 1) l (pj_u x 12 o) y = some ((), S4, l, pj_u x 12 o, y) ∧ pf_X12_readPedal s l u v = some ((), S4, l, u, v) ∧ q_I D E W S4 l (pj_u x 12 o) y u v ∧ S4 94 = s 94 ∧ S4 95 = s 95 := by
  have hr := hI.1
  have r1 := q_R_pd hr
  have r2 := q_R_pt r1
  have h29 := q_R29 r1
  have h29' := q_R29 r2
  have b29 := q_b01 h29'.1 h29'.2
  have pv : -10000 ≤ (q_pv (q_pd s)).toInt ∧ (q_pv (q_pd s)).toInt ≤ 30000 := by
    unfold q_pv
    split
    · exact q_val34 r1 2 (by omega)
    · split
      · exact q_val34 r1 3 (by omega)
      · decide
  have pe : q_pv (q_pt (q_pd s)) = q_pv (q_pd s) := by
    unfold q_pv
    rw [q_pt_out (by omega), q_pt_out (by omega), q_pt_out (by omega), q_pt_out (by omega)]
  have p72 : q_pt (q_pd s) 72 = q_pd s 72 := q_pt_out (by omega)
  have o72 := q_R72 r1
  have eS : (if q_lf (q_pt (q_pd s)) = 0 then pj_u (q_pt (q_pd s)) 72 (q_pv (q_pd s)) else pj_u (pj_u (q_pt (q_pd s)) 72 (q_pv (q_pd s))) 29 1) = pj_u (pj_u (q_pt (q_pd s)) 72 (q_pv (q_pd s))) 29 (if q_pt (q_pd s) 29 = 0 then q_lf (q_pt (q_pd s)) else 1) := by
    by_cases c : q_lf (q_pt (q_pd s)) = 0
    · rw [if_pos c, c]
      have e : (if q_pt (q_pd s) 29 = 0 then (0 : Int32) else 1) = pj_u (q_pt (q_pd s)) 72 (q_pv (q_pd s)) 29 := by
        rw [q_un (by omega)]
        rcases b29 with z | z
        · rw [if_pos z, z]
        · rw [z, if_neg (by decide)]
      rw [e, q_ui]
    · have c2 : q_lf (q_pt (q_pd s)) = 1 := by
        unfold q_lf at c ⊢
        by_cases d1 : q_pt (q_pd s) 74 < 10
        · rw [if_pos d1] at c ⊢
          by_cases d2 : q_pt (q_pd s) 36002 = 0
          · rw [if_pos d2] at c; exact absurd rfl c
          · rw [if_neg d2] at c ⊢
            by_cases d3 : q_pt (q_pd s) 36003 = 0
            · rw [if_pos d3] at c; exact absurd rfl c
            · rw [if_neg d3]
        · rw [if_neg d1]
      rw [if_neg c, c2, ite_self]
  have rS : q_R (pj_u (pj_u (q_pt (q_pd s)) 72 (q_pv (q_pd s))) 29 (if q_pt (q_pd s) 29 = 0 then q_lf (q_pt (q_pd s)) else 1)) := by
    refine q_R_u (q_R_u r2 pv) ?_
    show 0 ≤ (if q_pt (q_pd s) 29 = 0 then q_lf (q_pt (q_pd s)) else 1).toInt ∧ (if q_pt (q_pd s) 29 = 0 then q_lf (q_pt (q_pd s)) else 1).toInt ≤ 1
    split
    · unfold q_lf
      repeat' split
      all_goals decide
    · decide
  refine ⟨_, _, pj_u (pj_u (pj_u (q_pt (q_pd s)) 72 (q_pv (q_pd s))) 29 (if q_pt (q_pd s) 29 = 0 then q_lf (q_pt (q_pd s)) else 1)) 75 (q_rh (pj_u (q_pt (q_pd s)) 72 (q_pv (q_pd s))) a (q_pv (q_pd s) - q_pd s 72)), _, _, q_pedC hr, q_platC r1, ?_, ?_, ?_, ?_, ?_⟩
  · rw [eS, q_richC rS]
    have e : ∀ r, q_rh (pj_u (pj_u (q_pt (q_pd s)) 72 (q_pv (q_pd s))) 29 (if q_pt (q_pd s) 29 = 0 then q_lf (q_pt (q_pd s)) else 1)) a r = q_rh (pj_u (q_pt (q_pd s)) 72 (q_pv (q_pd s))) a r := by
      intro r
      unfold q_rh
      rw [q_un (f := pj_u (q_pt (q_pd s)) 72 (q_pv (q_pd s))) (w := 75) (by omega), q_un (f := pj_u (q_pt (q_pd s)) 72 (q_pv (q_pd s))) (w := 10010) (by omega), q_un (f := pj_u (q_pt (q_pd s)) 72 (q_pv (q_pd s))) (w := 10011) (by omega)]
    rw [e, q_un (f := pj_u (q_pt (q_pd s)) 72 (q_pv (q_pd s))) (w := 72) (by omega), q_ua, q_ua]
  · rw [q_e0, q_e148 a (q_b01 h29.1 h29.2) ha, q_e209 a b29 ha, pe, p72]
  · refine q_I_f hI h0 (q_R_u rS (q_rhV (s := pj_u (q_pt (q_pd s)) 72 (q_pv (q_pd s))) (q_R_u r2 pv) ?_)) ?_ ?_ (fun _ _ => rfl)
    · rw [q_sub (by omega) (by omega)]; omega
    · intro w hw
      unfold q_Ss at hw
      rw [q_un (by omega), q_un (by omega), q_un (by omega), q_pt_out (by omega), q_pd_out (by omega)]
    · intro w hw
      unfold q_Xs at hw
      rw [q_un (by omega)]
  · rw [q_un (by omega), q_un (by omega), q_un (by omega), q_pt_out (by omega), q_pd_out (by omega)]
  · rw [q_un (by omega), q_un (by omega), q_un (by omega), q_pt_out (by omega), q_pd_out (by omega)]
-- ints as longs
theorem q_add64 {a b : Int32} (h1 : -2147483648 ≤ a.toInt + b.toInt) (h2 : a.toInt + b.toInt ≤ 2147483647) : a.toInt64 + b.toInt64 = (a + b).toInt64 := by
  rw [← Int64.toInt_inj, q_addL (by rw [Int32.toInt_toInt64, Int32.toInt_toInt64]; omega) (by rw [Int32.toInt_toInt64, Int32.toInt_toInt64]; omega), Int32.toInt_toInt64, Int32.toInt_toInt64, Int32.toInt_toInt64, q_add h1 h2]
theorem q_sub64 {a b : Int32} (h1 : -2147483648 ≤ a.toInt - b.toInt) (h2 : a.toInt - b.toInt ≤ 2147483647) : a.toInt64 - b.toInt64 = (a - b).toInt64 := by
  rw [← Int64.toInt_inj, q_subL (by rw [Int32.toInt_toInt64, Int32.toInt_toInt64]; omega) (by rw [Int32.toInt_toInt64, Int32.toInt_toInt64]; omega), Int32.toInt_toInt64, Int32.toInt_toInt64, Int32.toInt_toInt64, q_sub h1 h2]
theorem q_mul64 {a b : Int32} (h1 : -2147483648 ≤ a.toInt * b.toInt) (h2 : a.toInt * b.toInt ≤ 2147483647) : a.toInt64 * b.toInt64 = (a * b).toInt64 := by
  rw [← Int64.toInt_inj, q_mulL (by rw [Int32.toInt_toInt64, Int32.toInt_toInt64]; omega) (by rw [Int32.toInt_toInt64, Int32.toInt_toInt64]; omega), Int32.toInt_toInt64, Int32.toInt_toInt64, Int32.toInt_toInt64, q_mul h1 h2]
theorem q_ct64 (a lo hi : Int32) : q_ct a.toInt64 lo.toInt64 hi.toInt64 = (q_cl a.toInt64 lo hi).toInt64 := by
  unfold q_ct q_cl
  split
  · rfl
  · split
    · rfl
    · rw [Int32.toInt32_toInt64]
/-- the quotient of ints, rounded down -/
def q_fi (a b : Int32) : Int32 := (q_fd a.toInt64 b.toInt64).toInt32
theorem q_fiI {a b : Int32} (h : 0 < b.toInt) : (q_fi a b).toInt = a.toInt / b.toInt ∧ q_fd a.toInt64 b.toInt64 = (q_fi a b).toInt64 := by
  have e := q_fdI (a := a.toInt64) (b := b.toInt64) (by rw [Int32.toInt_toInt64]; exact h)
  rw [Int32.toInt_toInt64, Int32.toInt_toInt64] at e
  have a1 : a.toInt < 2147483648 := a.toInt_lt
  have a2 : -2147483648 ≤ a.toInt := a.le_toInt
  have d1 : -2147483648 ≤ a.toInt / b.toInt := by
    have := Int.le_ediv_of_mul_le (a := -2147483648) (b := a.toInt) h (by
      have : -2147483648 * b.toInt ≤ -2147483648 := by
        have := Int.mul_le_mul_of_nonpos_left (a := -2147483648) (b := b.toInt) (c := 1) (by omega) (by omega)
        omega
      omega)
    exact this
  have d2 : a.toInt / b.toInt < 2147483648 := by
    rcases Int.lt_or_le a.toInt 0 with c | c
    · have := Int.ediv_neg_of_neg_of_pos c h
      omega
    · have := Int.ediv_le_self b.toInt c
      omega
  have e2 : (q_fi a b).toInt = a.toInt / b.toInt := by
    unfold q_fi
    rw [q_32 (by rw [e]; omega) (by rw [e]; omega), e]
  refine ⟨e2, ?_⟩
  rw [← Int64.toInt_inj, e, Int32.toInt_toInt64, e2]
theorem q_floorI {a b : Int32} (h : 0 < b.toInt) : pf_J9_floorDiv_7cf53 a b s l x y = some (q_fi a b, s, l, x, y) := by
  have hb : ¬ b = 0 := by
    intro e
    rw [e] at h
    exact absurd h (by decide)
  have hb1 : b ≠ -1 := by
    intro e
    rw [e] at h
    exact absurd h (by decide)
  have hp : 0 < b := by rw [Int32.lt_iff_toInt_lt]; exact h
  have q := (q_fiI (a := a) h).1
  have e1 := Int32.toInt_div_of_ne_right a b hb1
  have e2 : a.toInt.tdiv b.toInt = a.toInt / b.toInt + if 0 ≤ a.toInt ∨ b.toInt ∣ a.toInt then 0 else Int.sign b.toInt := Int.tdiv_eq_ediv
  rw [Int.sign_eq_one_of_pos h] at e2
  rw [e2] at e1
  have d1 := Int.mul_ediv_add_emod a.toInt b.toInt
  have d2 := Int.emod_nonneg a.toInt (b := b.toInt) (by omega)
  have d3 := Int.emod_lt_of_pos a.toInt h
  have a1 : a.toInt < 2147483648 := a.toInt_lt
  have a2 : -2147483648 ≤ a.toInt := a.le_toInt
  unfold pf_J9_floorDiv_7cf53
  rw [q_d hb]
  by_cases c : a < 0
  · have cI : a.toInt < 0 := by rw [Int32.lt_iff_toInt_lt] at c; exact c
    rw [if_pos ((q_xor32 hp).mpr c)]
    by_cases dv : b.toInt ∣ a.toInt
    · rw [if_pos (Or.inr dv), Int.add_zero] at e1
      have r0 := Int.emod_eq_zero_of_dvd dv
      have p : (a / b).toInt * b.toInt = a.toInt := by
        rw [e1, Int.mul_comm]
        omega
      have p2 : a / b * b = a := by
        rw [← Int32.toInt_inj, q_mul (by omega) (by omega), p]
      rw [if_pos p2]
      have z : a / b = q_fi a b := by rw [← Int32.toInt_inj, e1, q]
      rw [z]
    · have r0 : ¬ a.toInt % b.toInt = 0 := fun z => dv (Int.dvd_of_emod_eq_zero z)
      rw [if_neg (by omega)] at e1
      have p : (a / b).toInt * b.toInt = a.toInt - a.toInt % b.toInt + b.toInt := by
        rw [e1, Int.add_mul, Int.one_mul, Int.mul_comm]
        omega
      have p4 : (a / b).toInt * b.toInt ≤ 0 := by
        have := Int.ediv_neg_of_neg_of_pos cI h
        exact Int.mul_nonpos_of_nonpos_of_nonneg (by omega) (Int.le_of_lt h)
      have p2 : ¬ a / b * b = a := by
        rw [← Int32.toInt_inj, q_mul (by omega) (by omega), p]
        omega
      rw [if_neg p2]
      have q1 : -2147483648 ≤ (q_fi a b).toInt := (q_fi a b).le_toInt
      have z : a / b - 1 = q_fi a b := by
        have o : (1 : Int32).toInt = 1 := rfl
        rw [← Int32.toInt_inj, q_sub (by rw [o, e1]; omega) (by rw [o]; have := (a / b).toInt_lt; omega), e1, q, o]
        omega
      rw [z]
  · have cI : 0 ≤ a.toInt := by
      rw [Int32.lt_iff_toInt_lt] at c
      simp only [Int32.reduceToInt] at c
      omega
    rw [if_neg (fun z => c ((q_xor32 hp).mp z))]
    rw [if_pos (Or.inl cI), Int.add_zero] at e1
    have z : a / b = q_fi a b := by rw [← Int32.toInt_inj, e1, q]
    rw [z]
end QID

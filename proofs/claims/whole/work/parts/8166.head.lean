/-! PURE: the head of a PLANNING; maps; angles that stand for a tooth -/
section QHD
variable {s x u s' x' u' : Nat → Int32} {l y v l' y' v' : Nat → Int64} {D E W : Int} {fu k n : Nat}
-- maps
theorem q_term {z d e : Int64} {lo hi : Int} (hl : -20000 ≤ lo) (hh : hi ≤ 20000) (z1 : lo ≤ z.toInt) (z2 : z.toInt ≤ hi) (d1 : 0 ≤ d.toInt) (d2 : d.toInt ≤ 10000) (e1 : 0 ≤ e.toInt) (e2 : e.toInt ≤ 10000) : (z * d * e).toInt = z.toInt * (d.toInt * e.toInt) ∧ lo * (d.toInt * e.toInt) ≤ z.toInt * (d.toInt * e.toInt) ∧ z.toInt * (d.toInt * e.toInt) ≤ hi * (d.toInt * e.toInt) ∧ 0 ≤ d.toInt * e.toInt ∧ d.toInt * e.toInt ≤ 100000000 ∧ -2000000000000 ≤ z.toInt * (d.toInt * e.toInt) ∧ z.toInt * (d.toInt * e.toInt) ≤ 2000000000000 := by
  have w1 : 0 ≤ d.toInt * e.toInt := Int.mul_nonneg d1 e1
  have w2 : d.toInt * e.toInt ≤ 10000 * 10000 := Int.mul_le_mul d2 e2 e1 (by omega)
  have t1 := Int.mul_le_mul_of_nonneg_right z1 w1
  have t2 := Int.mul_le_mul_of_nonneg_right z2 w1
  have t3 := Int.mul_le_mul_of_nonneg_right (show (-20000 : Int) ≤ z.toInt by omega) w1
  have t4 := Int.mul_le_mul_of_nonneg_right (show z.toInt ≤ (20000 : Int) by omega) w1
  have m1 : -200000000 ≤ z.toInt * d.toInt ∧ z.toInt * d.toInt ≤ 200000000 := by
    have a := Int.mul_le_mul_of_nonneg_right (show (-20000 : Int) ≤ z.toInt by omega) d1
    have b := Int.mul_le_mul_of_nonneg_right (show z.toInt ≤ (20000 : Int) by omega) d1
    omega
  have e3 : (z * d).toInt = z.toInt * d.toInt := q_mulL (by omega) (by omega)
  have e4 : (z * d * e).toInt = z.toInt * d.toInt * e.toInt := by
    rw [q_mulL (by rw [e3, Int.mul_assoc]; omega) (by rw [e3, Int.mul_assoc]; omega), e3]
  rw [e4, Int.mul_assoc]
  exact ⟨rfl, t1, t2, w1, by omega, by omega, by omega⟩
theorem q_mvI {A C Z : Nat → Int32} {a c : Int32} {i j : Nat} {lo hi : Int} (hl : -20000 ≤ lo) (hh : hi ≤ 20000) (hz : ∀ k, k < 16 → lo ≤ (Z k).toInt ∧ (Z k).toInt ≤ hi) (hi3 : i < 3) (hj3 : j < 3)
    (a1 : (A i).toInt ≤ a.toInt) (a2 : a.toInt ≤ (A (i + 1)).toInt) (a3 : (A i).toInt < (A (i + 1)).toInt) (a4 : 0 ≤ (A i).toInt) (a5 : (A (i + 1)).toInt ≤ 10000)
    (c1 : (C j).toInt ≤ c.toInt) (c2 : c.toInt ≤ (C (j + 1)).toInt) (c3 : (C j).toInt < (C (j + 1)).toInt) (c4 : 0 ≤ (C j).toInt) (c5 : (C (j + 1)).toInt ≤ 10000) : lo ≤ (q_mv A C Z a c i j).toInt ∧ (q_mv A C Z a c i j).toInt ≤ hi := by
  obtain ⟨s1, s2, s3⟩ := q_span a1 a2 a4 a5
  obtain ⟨r1, r2, r3⟩ := q_span c1 c2 c4 c5
  unfold q_mv
  generalize (a - A i).toInt64 = p at s1 s2
  generalize (A (i + 1) - a).toInt64 = q at s1 s3
  generalize (c - C j).toInt64 = p' at r1 r2
  generalize (C (j + 1) - c).toInt64 = q' at r1 r3
  have z0 := hz (4 * i + j) (by omega)
  have z4 := hz (4 * i + j + 4) (by omega)
  have z1 := hz (4 * i + j + 1) (by omega)
  have z5 := hz (4 * i + j + 5) (by omega)
  have cv : ∀ k, (Z k).toInt64.toInt = (Z k).toInt := fun k => Int32.toInt_toInt64 _
  have t0 := q_term (z := (Z (4 * i + j)).toInt64) (d := q) (e := q') hl hh (by rw [cv]; exact z0.1) (by rw [cv]; exact z0.2) (by omega) (by omega) (by omega) (by omega)
  have t4 := q_term (z := (Z (4 * i + j + 4)).toInt64) (d := p) (e := q') hl hh (by rw [cv]; exact z4.1) (by rw [cv]; exact z4.2) (by omega) (by omega) (by omega) (by omega)
  have t1 := q_term (z := (Z (4 * i + j + 1)).toInt64) (d := q) (e := p') hl hh (by rw [cv]; exact z1.1) (by rw [cv]; exact z1.2) (by omega) (by omega) (by omega) (by omega)
  have t5 := q_term (z := (Z (4 * i + j + 5)).toInt64) (d := p) (e := p') hl hh (by rw [cv]; exact z5.1) (by rw [cv]; exact z5.2) (by omega) (by omega) (by omega) (by omega)
  generalize (Z (4 * i + j)).toInt64 * q * q' = T0 at t0
  generalize (Z (4 * i + j + 4)).toInt64 * p * q' = T4 at t4
  generalize (Z (4 * i + j + 1)).toInt64 * q * p' = T1 at t1
  generalize (Z (4 * i + j + 5)).toInt64 * p * p' = T5 at t5
  generalize (Z (4 * i + j)).toInt64.toInt * (q.toInt * q'.toInt) = S0 at t0
  generalize (Z (4 * i + j + 4)).toInt64.toInt * (p.toInt * q'.toInt) = S4 at t4
  generalize (Z (4 * i + j + 1)).toInt64.toInt * (q.toInt * p'.toInt) = S1 at t1
  generalize (Z (4 * i + j + 5)).toInt64.toInt * (p.toInt * p'.toInt) = S5 at t5
  have n1 : (T0 + T4).toInt = S0 + S4 := by rw [q_addL (by omega) (by omega)]; omega
  have n2 : (T0 + T4 + T1).toInt = S0 + S4 + S1 := by rw [q_addL (by omega) (by omega)]; omega
  have n3 : (T0 + T4 + T1 + T5).toInt = S0 + S4 + S1 + S5 := by rw [q_addL (by omega) (by omega)]; omega
  have ar : (p.toInt + q.toInt) * (p'.toInt + q'.toInt) = q.toInt * q'.toInt + p.toInt * q'.toInt + q.toInt * p'.toInt + p.toInt * p'.toInt := by
    rw [Int.add_mul, Int.mul_add, Int.mul_add]; omega
  have ap : 0 < (p.toInt + q.toInt) * (p'.toInt + q'.toInt) := Int.mul_pos (by omega) (by omega)
  have eA : ((p + q) * (p' + q')).toInt = (p.toInt + q.toInt) * (p'.toInt + q'.toInt) := by
    have s9 : (p + q).toInt = p.toInt + q.toInt := by omega
    have r9 : (p' + q').toInt = p'.toInt + q'.toInt := by omega
    rw [q_mulL (by rw [s9, r9, ar]; omega) (by rw [s9, r9, ar]; omega), s9, r9]
  generalize q.toInt * q'.toInt = w0 at t0 ar
  generalize p.toInt * q'.toInt = w4 at t4 ar
  generalize q.toInt * p'.toInt = w1 at t1 ar
  generalize p.toInt * p'.toInt = w5 at t5 ar
  rw [ar] at ap eA
  have f := q_fdI (a := T0 + T4 + T1 + T5) (b := (p + q) * (p' + q')) (by rw [eA]; exact ap)
  rw [n3, eA] at f
  have k1 : lo * (w0 + w4 + w1 + w5) ≤ S0 + S4 + S1 + S5 := by rw [Int.mul_add, Int.mul_add, Int.mul_add]; omega
  have k2 : S0 + S4 + S1 + S5 ≤ hi * (w0 + w4 + w1 + w5) := by rw [Int.mul_add, Int.mul_add, Int.mul_add]; omega
  have g1 : lo ≤ (S0 + S4 + S1 + S5) / (w0 + w4 + w1 + w5) := Int.le_ediv_of_mul_le ap k1
  have g2 : (S0 + S4 + S1 + S5) / (w0 + w4 + w1 + w5) ≤ hi := Int.ediv_le_of_le_mul ap k2
  rw [← f] at g1 g2
  rw [q_32 (by omega) (by omega)]
  exact ⟨g1, g2⟩
theorem q_mapP {m : Nat} (hm : m < 2) (hL : q_Ln s) (hr : q_R s) (a c : Int32) : ∃ r, pf_X4_mapValue (Int32.ofNat m) a c s l x y = some (r, s, l, x, y) ∧ pf_X12_mapValue (Int32.ofNat m) a c s l u v = some (r, s, l, u, v) ∧ -100 ≤ r.toInt ∧ r.toInt ≤ 20000 ∧ (m = 1 → r.toInt ≤ 450) := by
  have e1 : 4 * (2 * m) = 8 * m := by omega
  have e2 : 4 * (2 * m + 1) = 8 * m + 4 := by omega
  have hA : q_isAx (fun k => s (11000 + 8 * m + k)) := by rw [← e1]; exact hL.2.2 (2 * m) (by omega)
  have hC : q_isAx (fun k => s (11000 + (8 * m + 4) + k)) := by rw [← e2]; exact hL.2.2 (2 * m + 1) (by omega)
  have C := q_mapC (s := s) (l := l) (x := x) (y := y) hm (hL.2.2 (2 * m) (by omega)) (hL.2.2 (2 * m + 1) (by omega)) a c
  have R := q_mapR (s := s) (l := l) (u := u) (v := v) hm hA hC a c
  have b1 := q_clI (a := a) (lo := s (11000 + 8 * m)) (hi := s (11000 + (8 * m + 3))) (by obtain ⟨g1, g2, g3, g4, g5⟩ := hA; exact Int.le_of_lt (Int.lt_trans g2 (Int.lt_trans g3 g4)))
  have b2 := q_clI (a := c) (lo := s (11000 + (8 * m + 4))) (hi := s (11000 + (8 * m + 4 + 3))) (by obtain ⟨g1, g2, g3, g4, g5⟩ := hC; exact Int.le_of_lt (Int.lt_trans g2 (Int.lt_trans g3 g4)))
  have f1 := q_seg hA b1.1 b1.2
  have f2 := q_seg hC b2.1 b2.2
  have i3 := q_ax_lt (fun k => s (11000 + 8 * m + k)) (q_cl a.toInt64 (s (11000 + 8 * m)) (s (11000 + (8 * m + 3))))
  have j3 := q_ax_lt (fun k => s (11000 + (8 * m + 4) + k)) (q_cl c.toInt64 (s (11000 + (8 * m + 4))) (s (11000 + (8 * m + 4 + 3))))
  have hz : ∀ k, k < 16 → (if m = 0 then 0 else -100) ≤ (s (12000 + 16 * m + k)).toInt ∧ (s (12000 + 16 * m + k)).toInt ≤ (if m = 0 then 20000 else 450) := by
    intro k hk
    have z := hr (12000 + 16 * m + k)
    have g : q_rg (12000 + 16 * m + k) = if 12000 + 16 * m + k < 12016 then (0, 20000) else (-100, 450) := by
      unfold q_rg
      rw [show (12000 + 16 * m + k) / 1000 = 12 by omega]
      rfl
    rw [g] at z
    by_cases c : m = 0
    · rw [if_pos (by omega)] at z; rw [if_pos c, if_pos c]; exact z
    · rw [if_neg (by omega)] at z; rw [if_neg c, if_neg c]; exact z
  have q := q_mvI (A := fun k => s (11000 + 8 * m + k)) (C := fun k => s (11000 + (8 * m + 4) + k)) (Z := fun k => s (12000 + 16 * m + k)) (lo := if m = 0 then 0 else -100) (hi := if m = 0 then 20000 else 450) (by split <;> omega) (by split <;> omega) hz i3 j3 f1.1 f1.2.1 f1.2.2.1 f1.2.2.2.1 f1.2.2.2.2 f2.1 f2.2.1 f2.2.2.1 f2.2.2.2.1 f2.2.2.2.2
  refine ⟨_, ?_, R, ?_, ?_, ?_⟩
  · rw [e1, e2] at C
    simp only [← Nat.add_assoc, Nat.add_zero] at C ⊢
    exact C
  · by_cases c : m = 0
    · rw [if_pos c] at q; omega
    · rw [if_neg c] at q; omega
  · by_cases c : m = 0
    · rw [if_pos c, if_pos c] at q; omega
    · rw [if_neg c, if_neg c] at q; omega
  · intro c
    rw [if_neg (by omega), if_neg (by omega)] at q; exact q.2
-- the head
def q_lmt (s : Nat → Int32) : Int32 := if s 29 = 0 then (if s 37 = 0 then s 10005 else s 10006) else s 10007
def q_hd1 (s x : Nat → Int32) : Nat → Int32 := pj_u (pj_u s 27 (q_lmt s)) 28 (if x 5 < q_lmt s then (if x 5 < q_lmt s - 200 then 0 else s 28) else 1)
theorem q_headC : pf_X11_findLimit s l x y = some ((), q_hd1 s x, l, x, y) := by
  have main : ∀ (b : Nat), b < 24 → pl_X11_findLimit_31 (Int32.ofNat b) s l x y = some ((), pj_u (pj_u s 27 (s (10000 + b))) 28 (if x 5 < s (10000 + b) then (if x 5 < s (10000 + b) - 200 then 0 else s 28) else 1), l, x, y) := by
    intro b hb
    unfold pl_X11_findLimit_31
    rw [q_g hb (by omega), q_onC (by omega)]
    by_cases c : x 5 < s (10000 + b)
    · rw [if_pos c, if_pos c]
      by_cases d : x 5 < s (10000 + b) - 200
      · rw [if_pos d, if_pos d]
      · rw [if_neg d, if_neg d]
        have e : pj_u (pj_u s 27 (s (10000 + b))) 28 (s 28) = pj_u s 27 (s (10000 + b)) := q_uv (q_un (by omega))
        rw [e]
    · rw [if_neg c, if_neg c]
  unfold pf_X11_findLimit q_hd1 q_lmt
  by_cases c : s 29 = 0
  · rw [if_pos c, if_pos c]
    by_cases d : s 37 = 0
    · rw [if_pos d, if_pos d]; exact main 5 (by omega)
    · rw [if_neg d, if_neg d]; exact main 6 (by omega)
  · rw [if_neg c, if_neg c]; exact main 7 (by omega)
theorem q_headR (hr : q_R s) (hs : pf_X12_speed s l u v = some (x 5, s, l, u, v)) : po_X12_plan fu s l u v = pl_X12_plan_87 fu fu (x 5) 0 (q_hd1 s x) l u v := by
  have r28 : s 28 = 0 ∨ s 28 = 1 := q_b01 (hr 28).1 (hr 28).2
  have main : ∀ b : Int32, pl_X12_plan_46 fu (x 5) b s l u v = pl_X12_plan_87 fu fu (x 5) 0 (pj_u (pj_u s 27 b) 28 (if x 5 < b then (if x 5 < b - 200 then 0 else s 28) else 1)) l u v := by
    intro b
    unfold pl_X12_plan_46 pl_X12_plan_77 pl_X12_plan_81 pl_X12_plan_82
    rw [q_bz0, q_bz1]
    by_cases c : x 5 < b
    · rw [if_pos c, if_pos c]
      rcases r28 with z | z
      · rw [if_pos z, z]
        by_cases d : x 5 < b - 200
        · rw [if_pos d]
        · rw [if_neg d]
      · rw [if_neg (by rw [z]; decide), z]
        by_cases d : x 5 < b - 200
        · rw [if_pos d, if_pos d]
        · rw [if_neg d, if_neg d]
    · rw [if_neg c, if_neg c]
  unfold po_X12_plan q_hd1 q_lmt
  rw [hs, q_b]
  by_cases c : s 29 = 0
  · rw [if_pos c, if_pos c]
    by_cases d : s 37 = 0
    · rw [if_pos d, if_pos d]; exact main _
    · rw [if_neg d, if_neg d]; exact main _
  · rw [if_neg c, if_neg c]; exact main _
-- an angle stands for the tooth
def q_an (x : Nat → Int32) : Int32 := 3600 * x 7 + 60 * x 6
def q_st (x : Nat → Int32) (a : Int32) : Int32 := if q_m72 (a - q_an x) < (if x 6 = 57 then 180 else 60) then 1 else 0
theorem q_stC (a : Int32) : pf_X2_standsFor a s l x y = some (q_st x a, s, l, x, y) := by
  unfold pf_X2_standsFor pl_X2_standsFor_29 q_st q_an
  rw [q_angleC, q_b, q_floorMod, q_b]
  by_cases c : x 6 = 57
  · rw [if_pos c, if_pos c]
    split <;> rfl
  · rw [if_neg c, if_neg c]
    split <;> rfl
theorem q_stR (e4 : u 4 = x 6) (e5 : u 5 = x 7) (a : Int32) : pf_X12_standsFor a s l u v = some (q_st x a, s, l, u, v) := by
  unfold pf_X12_standsFor pl_X12_standsFor_26 q_st q_an
  rw [q_angleR, q_b, q_modulo, q_b, e4, e5]
  by_cases c : x 6 = 57
  · rw [if_pos c, if_pos c]
    split <;> rfl
  · rw [if_neg c, if_neg c]
    split <;> rfl
theorem q_anI (h1 : 0 ≤ (x 6).toInt ∧ (x 6).toInt ≤ 57) (h2 : 0 ≤ (x 7).toInt ∧ (x 7).toInt ≤ 1) : (q_an x).toInt = 3600 * (x 7).toInt + 60 * (x 6).toInt := by
  have a : (3600 : Int32).toInt = 3600 := rfl
  have b : (60 : Int32).toInt = 60 := rfl
  have e1 : (3600 * x 7).toInt = 3600 * (x 7).toInt := by rw [q_mul (by rw [a]; omega) (by rw [a]; omega), a]
  have e2 : (60 * x 6).toInt = 60 * (x 6).toInt := by rw [q_mul (by rw [b]; omega) (by rw [b]; omega), b]
  unfold q_an
  rw [q_add (by rw [e1, e2]; omega) (by rw [e1, e2]; omega), e1, e2]
theorem q_st_m (h1 : 0 ≤ (x 6).toInt ∧ (x 6).toInt ≤ 57) (h2 : 0 ≤ (x 7).toInt ∧ (x 7).toInt ≤ 1) {a : Int32} (h3 : -100000 ≤ a.toInt) (h4 : a.toInt ≤ 100000) : q_st x (q_m72 a) = q_st x a := by
  have e : q_m72 (q_m72 a - q_an x) = q_m72 (a - q_an x) := by
    have m := q_m72I a
    have n := q_anI h1 h2
    rw [← Int32.toInt_inj, q_m72I, q_m72I, q_sub (by omega) (by omega), q_sub (by omega) (by omega), m]
    omega
  unfold q_st
  rw [e]
end QHD

/-! PURE: the crank's edge: the pair -/
section QCQ
variable {s x u s' x' u' : Nat → Int32} {l y v l' y' v' : Nat → Int64} {D E W : Int} {fu f k n c : Nat}
def q_K4 (s : Nat → Int32) (l : Nat → Int64) (x : Nat → Int32) (v : Nat → Int64) (s' : Nat → Int32) (l' : Nat → Int64) (x' : Nat → Int32) (v' : Nat → Int64) : Prop := s' 94 = s 94 ∧ s' 95 = s 95 ∧ l' 93 = l 93 ∧ x' 1 = x 1 ∧ x' 2 = x 2 ∧ v' 13 = v 13
def q_Pq (D E W : Int) (s : Nat → Int32) (l : Nat → Int64) (x : Nat → Int32) (v : Nat → Int64) (F G : Option (Unit × pj_Z)) : Prop := ∃ s' l' x' y' u' v', F = some ((), s', l', x', y') ∧ G = some ((), s', l', u', v') ∧ q_I D E W s' l' x' y' u' v' ∧ q_K4 s l x v s' l' x' v'
theorem q_planP (hI : q_I D E W s l x y u v) (h0 : ¬ s 94 = 0) (h3 : s 19 = 3) (ht : l 20 = l 93) : q_Pq D E W s l x v (pl_X11_crankEdge_29 1000 1 s l x y) (pl_X12_crank_400 s l u v) := by
  unfold pl_X11_crankEdge_29 pl_X12_crank_400
  rw [if_pos rfl]
  by_cases p1 : s 94 = 1
  · rw [if_pos p1, if_pos p1, q_headC, q_b]
    have hr := hI.1
    unfold pf_X12_plan
    rw [q_headR (x := x) hr (q_spd hI.2.2.2.1 rfl rfl)]
    have rl : 0 ≤ (q_lmt s).toInt ∧ (q_lmt s).toInt ≤ 9000 := by
      have a5 : 1000 ≤ (s 10005).toInt ∧ (s 10005).toInt ≤ 9000 := hr 10005
      have a6 : 1000 ≤ (s 10006).toInt ∧ (s 10006).toInt ≤ 9000 := hr 10006
      have a7 : 1000 ≤ (s 10007).toInt ∧ (s 10007).toInt ≤ 9000 := hr 10007
      unfold q_lmt
      split
      · split <;> omega
      · omega
    have r28 : 0 ≤ (if x 5 < q_lmt s then (if x 5 < q_lmt s - 200 then 0 else s 28) else 1 : Int32).toInt ∧ (if x 5 < q_lmt s then (if x 5 < q_lmt s - 200 then 0 else s 28) else 1 : Int32).toInt ≤ 1 := by
      have a : 0 ≤ (s 28).toInt ∧ (s 28).toInt ≤ 1 := hr 28
      split
      · split
        · decide
        · exact a
      · decide
    have hJ : q_I D E W (q_hd1 s x) l x y u v := q_I_s hI h0 (q_R_u (q_R_u hr rl) r28) (fun w hw => by unfold q_Ss at hw; unfold q_hd1; rw [q_un (by omega), q_un (by omega)])
    have g : ∀ w, ¬ w = 27 → ¬ w = 28 → q_hd1 s x w = s w := fun w a b => by unfold q_hd1; rw [q_un b, q_un a]
    generalize q_hd1 s x = s1 at hJ g
    have n0 : ¬ s1 94 = 0 := by rw [g _ (by omega) (by omega)]; exact h0
    have n19 : ¬ s1 19 < 2 := by rw [g _ (by omega) (by omega), h3]; decide
    have rN : 1 ≤ (s1 10000).toInt ∧ (s1 10000).toInt ≤ 8 := hJ.1 10000
    have eN : s1 10000 = Int32.ofNat (s1 10000).toInt.toNat := by rw [← Int32.toInt_inj, q_onI (by omega)]; omega
    obtain ⟨s2, x2, y2, u2, v2, F, G, hI2, g2, k2, m2⟩ := q_planI (fu := 1000) (by omega) (N := (s1 10000).toInt.toNat) (by omega) (x 5) (s1 10000).toInt.toNat 0 1000 1000 s1 x u y v (by omega) (by omega) (by omega) hJ n0 n19 eN rfl
    rw [← eN] at F
    rw [show (0 : Int32) = Int32.ofNat 0 from rfl, F, G]
    unfold pl_X11_crankEdge_100
    have e2 : s2 10000 = Int32.ofNat (s1 10000).toInt.toNat := by rw [g2 _ (by omega) (by omega) (by omega) (by omega)]; exact eN
    obtain ⟨s3, l3, x3, u3, F3, G3, hI3, z3⟩ := q_waitI (fu := 1000) (N := (s1 10000).toInt.toNat) (by omega) (s1 10000).toInt.toNat 0 1000 1000 s2 x2 u2 l (by omega) (by omega) (by omega) hI2 (by rw [g2 _ (by omega) (by omega) (by omega) (by omega)]; exact n0) (by rw [g2 _ (by omega) (by omega) (by omega) (by omega)]; exact n19) ht e2
    rw [← eN] at F3
    rw [show (0 : Int32) = Int32.ofNat 0 from rfl, F3, G3, q_b]
    refine ⟨_, _, _, _, _, _, rfl, rfl, hI3, ?_, ?_, ?_, ?_, ?_, ?_⟩
    · rw [z3.1 _ (by omega) (by omega), g2 _ (by omega) (by omega) (by omega) (by omega), g _ (by omega) (by omega)]
    · rw [z3.1 _ (by omega) (by omega), g2 _ (by omega) (by omega) (by omega) (by omega), g _ (by omega) (by omega)]
    · rw [z3.2.1 _ (by omega)]
    · rw [z3.2.2.1 _ (by omega) (by omega), k2 _ (by omega) (by omega) (by omega)]
    · rw [z3.2.2.1 _ (by omega) (by omega), k2 _ (by omega) (by omega) (by omega)]
    · rw [m2 _ (by omega) (by omega)]
  · rw [if_neg p1, if_neg p1]
    exact ⟨s, l, x, y, u, v, rfl, rfl, hI, rfl, rfl, rfl, rfl, rfl, rfl⟩
theorem q_3264 {g : Int64} (h1 : -2147483648 ≤ g.toInt) (h2 : g.toInt ≤ 2147483647) : g.toInt32.toInt64 = g ∧ g.toInt32.toInt = g.toInt := by
  have e := q_32 h1 h2
  exact ⟨by rw [← Int64.toInt_inj, Int32.toInt_toInt64, e], e⟩
theorem q_mxI (d : Int64) : (q_mx d).toInt = if d.toInt < 1 then 1 else d.toInt := by
  have o : (1 : Int64).toInt = 1 := rfl
  unfold q_mx
  by_cases c : d < 1
  · rw [if_pos c]
    rw [Int64.lt_iff_toInt_lt, o] at c
    rw [if_pos c]; rfl
  · rw [if_neg c]
    rw [Int64.lt_iff_toInt_lt, o] at c
    rw [if_neg c]
theorem q_mnI (d : Int64) : (q_mn d).toInt = if 1000000 < d.toInt then 1000000 else d.toInt := by
  have o : (1000000 : Int64).toInt = 1000000 := rfl
  unfold q_mn
  by_cases c : 1000000 < d
  · rw [if_pos c]
    rw [Int64.lt_iff_toInt_lt, o] at c
    rw [if_pos c]; rfl
  · rw [if_neg c]
    rw [Int64.lt_iff_toInt_lt, o] at c
    rw [if_neg c]
theorem q_gapB (hI : q_I 0 E W s l x y u v) (h0 : ¬ s 94 = 0) (h : ¬ s 19 = 0) : 1 ≤ (q_mx (l 93 - l 20)).toInt ∧ (q_mx (l 93 - l 20)).toInt ≤ 2010000 := by
  have w := hI.2.2.2.1
  have w9 := w.2.2.2.2.2.2.2.2.1
  have w10 := w.2.2.2.2.2.2.2.2.2.1
  have w11 := w.2.2.2.2.2.2.2.2.2.2 h0 h
  have tl := hI.2.2.1.2.2.2.2
  have r : 100000 ≤ (s 10002).toInt ∧ (s 10002).toInt ≤ 2000000 := hI.1 10002
  rw [q_mxI, q_subL (by omega) (by omega)]
  split <;> omega
/-- behind a tooth -/
theorem q_I_to (hI : q_I 0 E W s l x y u v) (h0 : ¬ s 94 = 0) (hr : q_R s') (g : ∀ w, ¬ w = 19 → (w < 21 ∨ 25 < w) → s' w = s w) (n19 : ¬ s' 19 = 0) (k : ∀ w, (w < 4 ∨ 7 < w) → x' w = x w) (m : ∀ w, (w < 4 ∨ 5 < w) → u' w = u w) (n : ∀ w, ¬ w = 6 → v' w = v w) (e6 : v' 6 = (x' 4).toInt64) (p1 : 0 ≤ (x' 4).toInt) (p2 : (x' 4).toInt ≤ 2010000) (p3 : ¬ s' 19 < 2 → 0 < (x' 4).toInt ∧ x' 6 = u' 4 ∧ x' 7 = u' 5) (r6 : 0 ≤ (x' 6).toInt ∧ (x' 6).toInt ≤ 57) (r7 : 0 ≤ (x' 7).toInt ∧ (x' 7).toInt ≤ 1) (q6 : 0 ≤ (u' 4).toInt ∧ (u' 4).toInt ≤ 57) (q7 : 0 ≤ (u' 5).toInt ∧ (u' 5).toInt ≤ 1) (e5 : x' 5 = q_sp s' x') : q_I 0 E W s' (pj_u l 20 (l 93)) x' y u' v' := by
  have tl := hI.2.2.1.2.2.2.2
  have r : 100000 ≤ (s 10002).toInt ∧ (s 10002).toInt ≤ 2000000 := hI.1 10002
  refine q_I_wl hI h0 hr ?_ g (fun w h => q_un h) k m n (fun z => absurd z n19)
  unfold q_Wl
  rw [q_ua, q_un (by omega)]
  refine ⟨⟨e6, p1, p2⟩, fun z => (p3 z).1, e5, fun z => (p3 z).2, r6, r7, q6, q7, tl.1, Int.le_refl _, fun _ _ => ?_⟩
  rw [g 10002 (by omega) (by omega)]
  omega
end QCQ

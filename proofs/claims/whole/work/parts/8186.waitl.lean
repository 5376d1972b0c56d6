/-! PURE: what waits is put into the row: both loops -/
section QWB
variable {s x u s' x' u' : Nat → Int32} {l y v l' y' v' : Nat → Int64} {D E W : Int} {fu f k n c : Nat}
theorem q_stepR0 (hc : c < 8) (e4 : u 4 = x 6) (e5 : u 5 = x 7) (h1 : 0 ≤ (x 4).toInt) (h6 : v 6 = (x 4).toInt64) : pl_X12_plan_130 fu (f + 1) (Int32.ofNat c) s l u v = if u (3000 + c) &&& q_bt 0 = 0 then pl_X12_plan_196 fu (pl_X12_plan_130 fu f) (Int32.ofNat c) s l u v else if q_st x (u (4000 + 1000 * 0 + c)) = 0 then pl_X12_plan_196 fu (pl_X12_plan_130 fu f) (Int32.ofNat c) s l u v else pj_b (pf_X12_put (q_cmt l x (u (4000 + 1000 * 0 + c))) (q_kd 0) (Int32.ofNat c) (q_kx 0 (s (8016 + c))) s l (pj_u u (3000 + c) (u (3000 + c) - q_bt 0)) v) (fun _ s3 l3 x3 y3 => pl_X12_plan_196 fu (pl_X12_plan_130 fu f) (Int32.ofNat c) s3 l3 x3 y3) := by
  have n : Int32.ofNat c < 8 := by rw [q_onltL (by omega) (by omega)]; omega
  have gc : ∀ {A : Type} (K : Option A), pj_g (Int32.ofNat c) 8 K = K := fun K => q_g (by omega) (by omega)
  have e0 : 4000 + 1000 * 0 + c = 4000 + c := by omega
  have ub : pj_u u (3000 + c) (u (3000 + c) - 1) (4000 + c) = u (4000 + c) := q_un (by omega)
  rw [pl_X12_plan_130, if_pos n, gc, q_onC (by omega), gc, q_stR e4 e5, q_b, gc, gc]
  unfold pl_X12_plan_174
  rw [gc, q_onC (by omega), ub, q_comesR (x := x) _ h1 h6 (by rw [q_un (by omega)]; exact e4) (by rw [q_un (by omega)]; exact e5), q_b, gc, e0]
  rfl
theorem q_stepR1 {K : Int32 → pj_F (Unit × pj_Z)} (hc : c < 8) (e4 : u 4 = x 6) (e5 : u 5 = x 7) (h1 : 0 ≤ (x 4).toInt) (h6 : v 6 = (x 4).toInt64) : pl_X12_plan_196 fu K (Int32.ofNat c) s l u v = if u (3000 + c) &&& q_bt 1 = 0 then pl_X12_plan_251 fu K (Int32.ofNat c) s l u v else if q_st x (u (4000 + 1000 * 1 + c)) = 0 then pl_X12_plan_251 fu K (Int32.ofNat c) s l u v else pj_b (pf_X12_put (q_cmt l x (u (4000 + 1000 * 1 + c))) (q_kd 1) (Int32.ofNat c) (q_kx 1 (s (8016 + c))) s l (pj_u u (3000 + c) (u (3000 + c) - q_bt 1)) v) (fun _ s3 l3 x3 y3 => pl_X12_plan_251 fu K (Int32.ofNat c) s3 l3 x3 y3) := by
  have gc : ∀ {A : Type} (K : Option A), pj_g (Int32.ofNat c) 8 K = K := fun K => q_g (by omega) (by omega)
  have e0 : 4000 + 1000 * 1 + c = 5000 + c := by omega
  have ub : pj_u u (3000 + c) (u (3000 + c) - 2) (5000 + c) = u (5000 + c) := q_un (by omega)
  rw [pl_X12_plan_196, gc, q_onC (by omega), gc, q_stR e4 e5, q_b, gc, gc]
  unfold pl_X12_plan_234
  rw [gc, q_onC (by omega), ub, q_comesR (x := x) _ h1 h6 (by rw [q_un (by omega)]; exact e4) (by rw [q_un (by omega)]; exact e5), q_b, e0]
  rfl
theorem q_stepR2 {K : Int32 → pj_F (Unit × pj_Z)} (hc : c < 8) (e4 : u 4 = x 6) (e5 : u 5 = x 7) (h1 : 0 ≤ (x 4).toInt) (h6 : v 6 = (x 4).toInt64) : pl_X12_plan_251 fu K (Int32.ofNat c) s l u v = if u (3000 + c) &&& q_bt 2 = 0 then K (Int32.ofNat (c + 1)) s l u v else if q_st x (u (4000 + 1000 * 2 + c)) = 0 then K (Int32.ofNat (c + 1)) s l u v else pj_b (pf_X12_put (q_cmt l x (u (4000 + 1000 * 2 + c))) (q_kd 2) (Int32.ofNat c) (q_kx 2 (s (8016 + c))) s l (pj_u u (3000 + c) (u (3000 + c) - q_bt 2)) v) (fun _ s3 l3 x3 y3 => K (Int32.ofNat (c + 1)) s3 l3 x3 y3) := by
  have gc : ∀ {A : Type} (K : Option A), pj_g (Int32.ofNat c) 8 K = K := fun K => q_g (by omega) (by omega)
  have ej : Int32.ofNat c + 1 = Int32.ofNat (c + 1) := q_onaL c 1
  have e0 : 4000 + 1000 * 2 + c = 6000 + c := by omega
  have ub : pj_u u (3000 + c) (u (3000 + c) - 4) (6000 + c) = u (6000 + c) := q_un (by omega)
  rw [pl_X12_plan_251, gc, q_onC (by omega), gc, q_stR e4 e5, q_b, gc, gc]
  unfold pl_X12_plan_289 pl_X12_plan_306
  rw [gc, q_onC (by omega), ub, q_comesR (x := x) _ h1 h6 (by rw [q_un (by omega)]; exact e4) (by rw [q_un (by omega)]; exact e5), q_b, e0, ej]
  rfl
/-- one cylinder's three -/
theorem q_threeP (hI : q_I D E W s l x y u v) (h0 : ¬ s 94 = 0) (h19 : ¬ s 19 < 2) (ht : l 20 = l 93) (hc : c < 8) (f2 : Nat) : ∃ s' l' x' u', pf_X11_putWaiting (Int32.ofNat c) s l x y = some ((), s', l', x', y) ∧ pl_X12_plan_130 fu (f2 + 1) (Int32.ofNat c) s l u v = pl_X12_plan_130 fu f2 (Int32.ofNat (c + 1)) s' l' u' v ∧ q_I D E W s' l' x' y u' v ∧ q_Fz s l x u s' l' x' u' := by
  have F0 : pf_X11_putWaiting (Int32.ofNat c) s l x y = pl_X11_putWaiting_2 1000 (996 + 1 + 1 + 1 + 1) (Int32.ofNat c) (Int32.ofNat 0) s l x y := rfl
  rw [F0]
  generalize (996 : Nat) = f
  generalize (1000 : Nat) = fv
  have ang : ∀ {s1 x1 u1 : Nat → Int32} {l1 y1 v1 : Nat → Int64}, q_I D E W s1 l1 x1 y1 u1 v1 → s1 19 = s 19 → u1 4 = x1 6 ∧ u1 5 = x1 7 ∧ 0 ≤ (x1 4).toInt ∧ v1 6 = (x1 4).toInt64 := by
    intro s1 x1 u1 l1 y1 v1 h g
    obtain ⟨p, q⟩ := h.2.2.2.1.2.2.2.1 (by rw [g]; exact h19)
    exact ⟨p.symm, q.symm, h.2.2.2.1.1.2.1, h.2.2.2.1.1.1⟩
  obtain ⟨a1, a2, a3, a4⟩ := ang hI rfl
  rw [q_stepC hc (by omega), q_stepR0 hc a1 a2 a3 a4]
  obtain ⟨s1, l1, x1, u1, F1, G1, hI1, z1⟩ := q_stepP hI h0 ht hc (k := 0) (by omega) (pl_X11_putWaiting_2 fv (f + 1 + 1 + 1) (Int32.ofNat c) (Int32.ofNat (0 + 1))) (pl_X12_plan_196 fu (pl_X12_plan_130 fu f2) (Int32.ofNat c))
  rw [F1, G1]
  have n1 : ¬ s1 94 = 0 := by rw [z1.1 _ (by omega) (by omega)]; exact h0
  have t1 : l1 20 = l1 93 := by rw [z1.2.1 _ (by omega), z1.2.1 _ (by omega)]; exact ht
  obtain ⟨b1, b2, b3, b4⟩ := ang hI1 (z1.1 _ (by omega) (by omega))
  rw [q_stepC hc (by omega), q_stepR1 hc b1 b2 b3 b4]
  obtain ⟨s2, l2, x2, u2, F2, G2, hI2, z2⟩ := q_stepP hI1 n1 t1 hc (k := 0 + 1) (by omega) (pl_X11_putWaiting_2 fv (f + 1 + 1) (Int32.ofNat c) (Int32.ofNat (0 + 1 + 1))) (pl_X12_plan_251 fu (pl_X12_plan_130 fu f2) (Int32.ofNat c))
  rw [F2]
  have G2 := G2
  rw [show (0 + 1 : Nat) = 1 from rfl] at G2
  rw [G2]
  have y2 := q_Fz_t z1 z2
  have n2 : ¬ s2 94 = 0 := by rw [y2.1 _ (by omega) (by omega)]; exact h0
  have t2 : l2 20 = l2 93 := by rw [y2.2.1 _ (by omega), y2.2.1 _ (by omega)]; exact ht
  obtain ⟨c1, c2, c3, c4⟩ := ang hI2 (y2.1 _ (by omega) (by omega))
  rw [q_stepC hc (by omega), q_stepR2 hc c1 c2 c3 c4]
  obtain ⟨s3, l3, x3, u3, F3, G3, hI3, z3⟩ := q_stepP hI2 n2 t2 hc (k := 0 + 1 + 1) (by omega) (pl_X11_putWaiting_2 fv (f + 1) (Int32.ofNat c) (Int32.ofNat (0 + 1 + 1 + 1))) (pl_X12_plan_130 fu f2 (Int32.ofNat (c + 1)))
  rw [F3]
  have G3 := G3
  rw [show (0 + 1 + 1 : Nat) = 2 from rfl] at G3
  rw [G3]
  exact ⟨s3, l3, x3, u3, q_stepC3 hc, rfl, hI3, q_Fz_t y2 z3⟩
/-- none waits beyond the last cylinder -/
theorem q_noneR {N : Nat} (hN : ∀ d, N ≤ d → d < 8 → u (3000 + d) = 0) : ∀ (m i f : Nat), i + m = 8 → N ≤ i → m < f → pl_X12_plan_130 fu f (Int32.ofNat i) s l u v = some ((), s, l, u, v) := by
  intro m
  induction m with
  | zero =>
    intro i f hi hn hf
    obtain ⟨f, rfl⟩ : ∃ f9, f = f9 + 1 := ⟨f - 1, by omega⟩
    have c : ¬ Int32.ofNat i < 8 := by rw [q_onltL (by omega) (by omega)]; omega
    rw [pl_X12_plan_130, if_neg c]
  | succ m ih =>
    intro i f hi hn hf
    obtain ⟨f, rfl⟩ : ∃ f9, f = f9 + 1 := ⟨f - 1, by omega⟩
    have n : Int32.ofNat i < 8 := by rw [q_onltL (by omega) (by omega)]; omega
    have gc : ∀ {A : Type} (K : Option A), pj_g (Int32.ofNat i) 8 K = K := fun K => q_g (by omega) (by omega)
    have z := hN i hn (by omega)
    have ej : Int32.ofNat i + 1 = Int32.ofNat (i + 1) := q_onaL i 1
    have a1 : (0 : Int32) &&& 1 = 0 := by decide
    have a2 : (0 : Int32) &&& 2 = 0 := by decide
    have a3 : (0 : Int32) &&& 4 = 0 := by decide
    rw [pl_X12_plan_130, if_pos n, gc, q_onC (by omega), z, if_pos a1]
    unfold pl_X12_plan_196
    rw [gc, q_onC (by omega), z, if_pos a2]
    unfold pl_X12_plan_251
    rw [gc, q_onC (by omega), z, if_pos a3]
    unfold pl_X12_plan_306
    rw [ej]
    exact ih (i + 1) f (by omega) (by omega) (by omega)
theorem q_waitI {N : Nat} (hN : N ≤ 8) : ∀ (m i f1 f2 : Nat) (s x u : Nat → Int32) (l : Nat → Int64), i + m = N → m < f1 → m + 9 < f2 → q_I D E W s l x y u v → ¬ s 94 = 0 → ¬ s 19 < 2 → l 20 = l 93 → s 10000 = Int32.ofNat N → ∃ s' l' x' u', pl_X11_crankEdge_102 fu f1 (Int32.ofNat N) (Int32.ofNat i) s l x y = some ((), s', l', x', y) ∧ pl_X12_plan_130 fu f2 (Int32.ofNat i) s l u v = some ((), s', l', u', v) ∧ q_I D E W s' l' x' y u' v ∧ q_Fz s l x u s' l' x' u' := by
  intro m
  induction m with
  | zero =>
    intro i f1 f2 s x u l hi hf1 hf2 hI h0 h19 ht e0
    obtain ⟨f1, rfl⟩ : ∃ f9, f1 = f9 + 1 := ⟨f1 - 1, by omega⟩
    have c : ¬ Int32.ofNat i < Int32.ofNat N := by rw [q_onlt (by omega) (by omega)]; omega
    refine ⟨s, l, x, u, ?_, ?_, hI, fun _ _ _ => rfl, fun _ _ => rfl, fun _ _ _ => rfl, fun _ _ _ => rfl⟩
    · rw [pl_X11_crankEdge_102, if_neg c]
    · refine q_noneR (N := N) (fun d h1 h2 => hI.2.2.2.2.2.1.2 d h2 (Or.inr ?_)) (8 - i) i f2 (by omega) (by omega) (by omega)
      rw [e0, q_onI (by omega)]; omega
  | succ m ih =>
    intro i f1 f2 s x u l hi hf1 hf2 hI h0 h19 ht e0
    obtain ⟨f1, rfl⟩ : ∃ f9, f1 = f9 + 1 := ⟨f1 - 1, by omega⟩
    obtain ⟨f2, rfl⟩ : ∃ f9, f2 = f9 + 1 := ⟨f2 - 1, by omega⟩
    have c : Int32.ofNat i < Int32.ofNat N := by rw [q_onlt (by omega) (by omega)]; omega
    have c8 : Int32.ofNat i < 8 := by rw [q_onltL (by omega) (by omega)]; omega
    have ej : Int32.ofNat i + 1 = Int32.ofNat (i + 1) := q_onaL i 1
    obtain ⟨s1, l1, x1, u1, F, G, hI1, z1⟩ := q_threeP (fu := fu) hI h0 h19 ht (c := i) (by omega) f2
    rw [pl_X11_crankEdge_102, if_pos c, if_pos c8, F, q_b, G, ej]
    obtain ⟨s2, l2, x2, u2, F2, G2, hI2, z2⟩ := ih (i + 1) f1 f2 s1 x1 u1 l1 (by omega) (by omega) (by omega) hI1 (by rw [z1.1 _ (by omega) (by omega)]; exact h0) (by rw [z1.1 _ (by omega) (by omega)]; exact h19) (by rw [z1.2.1 _ (by omega), z1.2.1 _ (by omega)]; exact ht) (by rw [z1.1 _ (by omega) (by omega)]; exact e0)
    exact ⟨s2, l2, x2, u2, F2, G2, hI2, q_Fz_t z1 z2⟩
end QWB

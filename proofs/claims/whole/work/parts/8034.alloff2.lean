/-! PURE: ALL OFF, both sides -/
section QA2
variable {s x u : Nat → Int32} {l y v : Nat → Int64} {fu : Nat}
theorem q_eta {A B C : Type} (z : A × B × C) : (z.1, z.2.1, z.2.2) = z := rfl
theorem q_one64 {a : Int32} (h1 : 0 ≤ a.toInt) (h2 : a.toInt < 2147483647) : a.toInt64 + 1 = (a + 1).toInt64 := by
  have o : (1 : Int64).toInt = 1 := by decide
  rw [← Int64.toInt_inj, Int32.toInt_toInt64, q_one (by omega) h2, q_addL (by rw [o, Int32.toInt_toInt64]; omega) (by rw [o, Int32.toInt_toInt64]; omega), o, Int32.toInt_toInt64]
/-- an EDGE in the reference's LOG; its count is written as the class's -/
theorem q_logR2 {t : Int64} (h1 : 0 ≤ (x 11).toInt) (h2 : (x 11).toInt < 2147483647) (ht : l 93 = t) (k c : Int32) : pf_X12_log k c s l u (pj_u v 3 (x 11).toInt64) = some ((), pj_u (pj_u s (21000 + q_slot x) k) (22000 + q_slot x) c, pj_u l (20000 + q_slot x) t, u, pj_u v 3 (x 11 + 1).toInt64) := by
  have hq : q_edge x (pj_u v 3 (x 11).toInt64) (x 11).toInt := ⟨q_ua, h1, Int.le_refl _⟩
  rw [q_logR hq, q_ua, q_uu, q_one64 h1 h2, ht]
theorem q_offR2 (t : Int64) : ∀ (m i f : Nat) (s : Nat → Int32) (l : Nat → Int64) (x : Nat → Int32), i + m = 8 → m < f → 0 ≤ (x 11).toInt → (x 11).toInt + m < 2147483647 → l 93 = t → pl_X12_allOff_60 fu f (Int32.ofNat i) s l u (pj_u v 3 (x 11).toInt64) = some ((), (q_off 19000 4 t m i (s, l, x)).1, (q_off 19000 4 t m i (s, l, x)).2.1, u, pj_u v 3 ((q_off 19000 4 t m i (s, l, x)).2.2 11).toInt64) := by
  intro m
  induction m with
  | zero =>
    intro i f s l x e hf h1 h2 ht
    obtain ⟨f, rfl⟩ : ∃ f9, f = f9 + 1 := ⟨f - 1, by omega⟩
    have c1 : ¬ i < 8 := by omega
    simp (disch := omega) only [pl_X12_allOff_60, q_onltL, if_neg c1, q_off]
  | succ m ih =>
    intro i f s l x e hf h1 h2 ht
    obtain ⟨f, rfl⟩ : ∃ f9, f = f9 + 1 := ⟨f - 1, by omega⟩
    have c1 : i < 8 := by omega
    have hs := q_slot_lt (x := x)
    simp (disch := omega) only [pl_X12_allOff_60, pl_X12_allOff_88, q_onltL, if_pos c1, q_g, q_onC, q_onaL, q_logR2 h1 (by omega : (x 11).toInt < 2147483647) ht, q_b, q_off]
    by_cases c : s (19000 + i) = 0
    · rw [if_pos c, if_pos c]
      exact ih (i + 1) f s l x (by omega) (by omega) h1 (by omega) ht
    · rw [if_neg c, if_neg c]
      have e1 := q_one (a := x 11) (by omega) (by omega)
      have k := ih (i + 1) f (pj_u (pj_u (pj_u s (19000 + i) 0) (21000 + q_slot x) 4) (22000 + q_slot x) (Int32.ofNat i)) (pj_u l (20000 + q_slot x) t) (pj_u x 11 (x 11 + 1)) (by omega) (by omega) (by rw [q_ua, e1]; omega) (by rw [q_ua, e1]; omega) (by rw [q_un (by omega)]; exact ht)
      rw [q_ua] at k
      exact k
theorem q_offR1 (t : Int64) : ∀ (m i f : Nat) (s : Nat → Int32) (l : Nat → Int64) (x u : Nat → Int32), i + m = 8 → m < f → 0 ≤ (x 11).toInt → (x 11).toInt + m < 2147483647 → l 93 = t → pl_X12_allOff_17 fu f (Int32.ofNat i) s l u (pj_u v 3 (x 11).toInt64) = pl_X12_allOff_60 fu fu 0 (q_off 18000 1 t m i (s, l, x)).1 (q_off 18000 1 t m i (s, l, x)).2.1 (q_fl 3000 0 m i u) (pj_u v 3 ((q_off 18000 1 t m i (s, l, x)).2.2 11).toInt64) := by
  intro m
  induction m with
  | zero =>
    intro i f s l x u e hf h1 h2 ht
    obtain ⟨f, rfl⟩ : ∃ f9, f = f9 + 1 := ⟨f - 1, by omega⟩
    have c1 : ¬ i < 8 := by omega
    rw [pl_X12_allOff_17]
    simp (disch := omega) only [q_onltL, if_neg c1, q_off, q_fl]
  | succ m ih =>
    intro i f s l x u e hf h1 h2 ht
    obtain ⟨f, rfl⟩ : ∃ f9, f = f9 + 1 := ⟨f - 1, by omega⟩
    have c1 : i < 8 := by omega
    have hs := q_slot_lt (x := x)
    rw [pl_X12_allOff_17]
    simp (disch := omega) only [pl_X12_allOff_30, pl_X12_allOff_52, q_onltL, if_pos c1, q_g, q_onC, q_onaL, q_logR2 h1 (by omega : (x 11).toInt < 2147483647) ht, q_b, q_off, q_fl]
    by_cases c : s (18000 + i) = 0
    · rw [if_pos c, if_pos c]
      exact ih (i + 1) f s l x _ (by omega) (by omega) h1 (by omega) ht
    · rw [if_neg c, if_neg c]
      have e1 := q_one (a := x 11) (by omega) (by omega)
      have k := ih (i + 1) f (pj_u (pj_u (pj_u s (18000 + i) 0) (21000 + q_slot x) 1) (22000 + q_slot x) (Int32.ofNat i)) (pj_u l (20000 + q_slot x) t) (pj_u x 11 (x 11 + 1)) (pj_u u (3000 + i) 0) (by omega) (by omega) (by rw [q_ua, e1]; omega) (by rw [q_ua, e1]; omega) (by rw [q_un (by omega)]; exact ht)
      rw [q_ua] at k
      exact k
/-- the shared state, and the class's count of EDGES, behind ALL OFF -/
def q_ao (s : Nat → Int32) (l : Nat → Int64) (x : Nat → Int32) : (Nat → Int32) × (Nat → Int64) × (Nat → Int32) := q_off 19000 4 (l 93) 8 0 (q_off 18000 1 (l 93) 8 0 (pj_u s 57 0, l, x))
theorem q_fillC (k : Nat) (hk : k < 3) (c : Int32) : ∀ (m i f : Nat) (x : Nat → Int32), i + m = 8 → m < f → pl_J7_fill_53178_v1_5 fu f k c (Int32.ofNat i) 8 s l x y = some ((), s, l, q_fl (4000 + 8 * k) c m i x, y) := by
  intro m
  induction m with
  | zero =>
    intro i f x e hf
    obtain ⟨f, rfl⟩ : ∃ f9, f = f9 + 1 := ⟨f - 1, by omega⟩
    have c1 : ¬ i < 8 := by omega
    simp (disch := omega) only [pl_J7_fill_53178_v1_5, q_onltL, if_neg c1, q_fl]
  | succ m ih =>
    intro i f x e hf
    obtain ⟨f, rfl⟩ : ∃ f9, f = f9 + 1 := ⟨f - 1, by omega⟩
    have c1 : i < 8 := by omega
    simp (disch := omega) only [pl_J7_fill_53178_v1_5, q_onltL, if_pos c1, q_r, q_g, q_onC, q_onaL, q_fl]
    exact ih (i + 1) f _ (by omega) (by omega)
theorem q_fill1 (k : Nat) (hk : k < 3) (c : Int32) : pf_J7_fill_53178_v1 k c s l x y = some ((), s, l, q_fl (4000 + 8 * k) c 8 0 x, y) := by
  simp (disch := omega) only [pf_J7_fill_53178_v1, po_J7_fill_53178_v1, q_r]
  exact q_fillC k hk c 8 0 1000 x (by omega) (by omega)
/-- nothing waits -/
def q_nw (x : Nat → Int32) : Nat → Int32 := q_fl (4000 + 8 * 2) (-1) 8 0 (q_fl (4000 + 8 * 1) (-1) 8 0 (q_fl (4000 + 8 * 0) (-1) 8 0 x))
theorem q_forget1 {k f : Nat} (hk : k ≤ 3) : pl_X2_forgetPlans_2 fu (f + 1) (Int32.ofNat k) s l x y = if 2 < k then some ((), s, l, x, pj_u (pj_u y 8 (-1)) 9 (-1)) else pl_X2_forgetPlans_2 fu f (Int32.ofNat (k + 1)) s l (q_fl (4000 + 8 * k) (-1) 8 0 x) y := by
  have e : ((2 : Int32) < Int32.ofNat k) = (2 < k) := q_onltR (by omega) (by omega)
  rw [pl_X2_forgetPlans_2]
  simp only [e]
  by_cases c : 2 < k
  · simp only [if_pos c]
  · simp (disch := omega) only [if_neg c, q_g, q_onC, q_fill1, q_b, q_onaL]
theorem q_forgetPlans : pf_X2_forgetPlans s l x y = some ((), s, l, q_nw x, pj_u (pj_u y 8 (-1)) 9 (-1)) := by
  have g0 := q_forget1 (s := s) (l := l) (x := x) (y := y) (fu := 1000) (f := 999) (k := 0) (by omega)
  rw [if_neg (by omega)] at g0
  have g0 : pf_X2_forgetPlans s l x y = pl_X2_forgetPlans_2 1000 (998 + 1) (Int32.ofNat 1) s l (q_fl (4000 + 8 * 0) (-1) 8 0 x) y := g0
  rw [g0, q_forget1 (k := 1) (by omega), if_neg (by omega)]
  show pl_X2_forgetPlans_2 1000 (997 + 1) (Int32.ofNat 2) s l _ y = _
  rw [q_forget1 (k := 2) (by omega), if_neg (by omega)]
  show pl_X2_forgetPlans_2 1000 (996 + 1) (Int32.ofNat 3) s l _ y = _
  rw [q_forget1 (k := 3) (by omega), if_pos (by omega)]
  rfl
theorem q_nw_11 : q_nw x 11 = x 11 := by
  unfold q_nw
  rw [q_fl_at, if_neg (by omega), q_fl_at, if_neg (by omega), q_fl_at, if_neg (by omega)]
theorem q_off_l (base : Nat) (kd : Int32) (hb : base = 18000 ∨ base = 19000) {t : Int64} (h1 : 0 ≤ (x 11).toInt) (h2 : (x 11).toInt + 8 < 2147483647) : (q_off base kd t 8 0 (s, l, x)).2.1 93 = l 93 := (q_off_keeps base kd t hb 8 0 s l x (by omega) h1 (by omega)).1 93 (by omega)
theorem q_allOffC (h1 : 0 ≤ (x 11).toInt) (h2 : (x 11).toInt + 16 < 2147483647) : pf_X11_allOff s l x y = some ((), (q_ao s l (q_nw x)).1, (q_ao s l (q_nw x)).2.1, (q_ao s l (q_nw x)).2.2, pj_u (pj_u y 8 (-1)) 9 (-1)) := by
  unfold pf_X11_allOff pf_X6_stopAll po_X6_stopAll
  rw [q_forgetPlans, q_b]
  have k := q_off_keeps 18000 1 (l 93) (Or.inl rfl) 8 0 (pj_u s 57 0) l (q_nw x) (by omega) (by rw [q_nw_11]; exact h1) (by rw [q_nw_11]; omega)
  rw [q_nw_11] at k
  have g1 := q_stop1 (fu := 1000) (y := pj_u (pj_u y 8 (-1)) 9 (-1)) (l 93) 8 0 1000 (pj_u s 57 0) l (q_nw x) (by omega) (by omega) (by rw [q_nw_11]; exact h1) (by rw [q_nw_11]; omega)
  have g2 := q_stop2 (fu := 1000) (y := pj_u (pj_u y 8 (-1)) 9 (-1)) (l 93) 8 0 1000 (q_off 18000 1 (l 93) 8 0 (pj_u s 57 0, l, q_nw x)).1 (q_off 18000 1 (l 93) 8 0 (pj_u s 57 0, l, q_nw x)).2.1 (q_off 18000 1 (l 93) 8 0 (pj_u s 57 0, l, q_nw x)).2.2 (by omega) (by omega) (by omega) (by omega)
  rw [q_eta] at g2
  have g3 := g1.trans g2
  unfold q_ao
  rw [show (0 : Int32) = Int32.ofNat 0 from rfl] at g3 ⊢
  rw [g3, q_b]
theorem q_allOffR (h1 : 0 ≤ (x 11).toInt) (h2 : (x 11).toInt + 16 < 2147483647) (hv : v 3 = (x 11).toInt64) : pf_X12_allOff s l u v = some ((), (q_ao s l x).1, (q_ao s l x).2.1, q_fl 3000 0 8 0 (pj_u (pj_u u 7 0) 10 0), pj_u v 3 ((q_ao s l x).2.2 11).toInt64) := by
  unfold pf_X12_allOff po_X12_allOff
  have k := q_off_keeps 18000 1 (l 93) (Or.inl rfl) 8 0 (pj_u s 57 0) l x (by omega) h1 (by omega)
  have ev : v = pj_u v 3 (x 11).toInt64 := by rw [← hv, q_ui]
  have g1 := q_offR1 (fu := 1000) (v := v) (l 93) 8 0 1000 (pj_u s 57 0) l x (pj_u (pj_u u 7 0) 10 0) (by omega) (by omega) h1 (by omega) rfl
  have g2 := q_offR2 (fu := 1000) (v := v) (u := q_fl 3000 0 8 0 (pj_u (pj_u u 7 0) 10 0)) (l 93) 8 0 1000 (q_off 18000 1 (l 93) 8 0 (pj_u s 57 0, l, x)).1 (q_off 18000 1 (l 93) 8 0 (pj_u s 57 0, l, x)).2.1 (q_off 18000 1 (l 93) 8 0 (pj_u s 57 0, l, x)).2.2 (by omega) (by omega) (by omega) (by omega) (k.1 93 (by omega))
  rw [← ev] at g1
  rw [q_eta] at g2
  have g3 := g1.trans g2
  unfold q_ao
  rw [show (0 : Int32) = Int32.ofNat 0 from rfl] at g3 ⊢
  exact g3
end QA2

/-! PURE: ALL OFF of both is one; EVENTS are put, the first one is found -/
section QQ
variable {s x u : Nat → Int32} {l y v : Nat → Int64} {fu : Nat}
theorem q_off_x (base : Nat) (kd : Int32) (t : Int64) : ∀ (m i : Nat) (s : Nat → Int32) (l : Nat → Int64) (x x' : Nat → Int32), x 11 = x' 11 → (q_off base kd t m i (s, l, x)).1 = (q_off base kd t m i (s, l, x')).1 ∧ (q_off base kd t m i (s, l, x)).2.1 = (q_off base kd t m i (s, l, x')).2.1 ∧ (q_off base kd t m i (s, l, x)).2.2 11 = (q_off base kd t m i (s, l, x')).2.2 11 := by
  intro m
  induction m with
  | zero => intro i s l x x' h; exact ⟨rfl, rfl, h⟩
  | succ m ih =>
    intro i s l x x' h
    have hs : q_slot x = q_slot x' := by unfold q_slot; rw [h]
    unfold q_off
    by_cases c : s (base + i) = 0
    · have c1 : (s, l, x).1 (base + i) = 0 := c
      have c2 : (s, l, x').1 (base + i) = 0 := c
      rw [if_pos c1, if_pos c2]
      exact ih (i + 1) s l x x' h
    · have c1 : ¬ (s, l, x).1 (base + i) = 0 := c
      have c2 : ¬ (s, l, x').1 (base + i) = 0 := c
      rw [if_neg c1, if_neg c2]
      dsimp only
      rw [hs, h]
      exact ih (i + 1) _ _ _ _ (by rw [q_ua, q_ua])
theorem q_ao_x {x' : Nat → Int32} (h : x 11 = x' 11) : (q_ao s l x).1 = (q_ao s l x').1 ∧ (q_ao s l x).2.1 = (q_ao s l x').2.1 ∧ (q_ao s l x).2.2 11 = (q_ao s l x').2.2 11 := by
  unfold q_ao
  obtain ⟨k1, k2, k3⟩ := q_off_x 18000 1 (l 93) 8 0 (pj_u s 57 0) l x x' h
  have g := q_off_x 19000 4 (l 93) 8 0 (q_off 18000 1 (l 93) 8 0 (pj_u s 57 0, l, x)).1 (q_off 18000 1 (l 93) 8 0 (pj_u s 57 0, l, x)).2.1 (q_off 18000 1 (l 93) 8 0 (pj_u s 57 0, l, x)).2.2 (q_off 18000 1 (l 93) 8 0 (pj_u s 57 0, l, x')).2.2 k3
  rw [q_eta, k1, k2, q_eta] at g
  exact g
/-- ALL OFF: class and reference do the same -/
theorem q_allOff (h1 : 0 ≤ (x 11).toInt) (h2 : (x 11).toInt + 16 < 2147483647) (hv : v 3 = (x 11).toInt64) : pf_X11_allOff s l x y = some ((), (q_ao s l x).1, (q_ao s l x).2.1, (q_ao s l (q_nw x)).2.2, pj_u (pj_u y 8 (-1)) 9 (-1)) ∧ pf_X12_allOff s l u v = some ((), (q_ao s l x).1, (q_ao s l x).2.1, q_fl 3000 0 8 0 (pj_u (pj_u u 7 0) 10 0), pj_u v 3 ((q_ao s l x).2.2 11).toInt64) ∧ (q_ao s l (q_nw x)).2.2 11 = (q_ao s l x).2.2 11 := by
  obtain ⟨k1, k2, k3⟩ := q_ao_x (s := s) (l := l) (x := q_nw x) (x' := x) q_nw_11
  refine ⟨?_, q_allOffR h1 h2 hv, k3⟩
  rw [q_allOffC h1 h2, k1, k2]
-- EVENTS
theorem q_putC {n : Nat} (hn : n < 64) (h : s 57 = Int32.ofNat n) (t : Int64) (k c d : Int32) : pf_X6_put t k c d s l x y = some ((), pj_u (pj_u s (17000 + n) c) 57 (Int32.ofNat (n + 1)), pj_u l (16000 + n) t, pj_u (pj_u x (5000 + n) k) (6000 + n) d, y) := by
  have c1 : n < 64 := hn
  simp (disch := omega) only [pf_X6_put, h, q_onltL, if_pos c1, q_g, q_onC, q_un, q_onaL]
theorem q_putC64 (h : s 57 = Int32.ofNat 64) (t : Int64) (k c d : Int32) : pf_X6_put t k c d s l x y = some ((), pj_u s 58 (s 58 + 1), l, x, y) := by
  unfold pf_X6_put
  rw [h, if_neg (by decide)]
theorem q_putR {n : Nat} (hn : n < 64) (h : s 57 = Int32.ofNat n) (t : Int64) (k c d : Int32) : pf_X12_put t k c d s l u v = some ((), pj_u (pj_u s (17000 + n) c) 57 (Int32.ofNat (n + 1)), pj_u l (16000 + n) t, pj_u (pj_u u (8000 + n) k) (9000 + n) d, v) := by
  have c1 : ¬ n = 64 := by omega
  simp (disch := omega) only [pf_X12_put, h, q_oneqL, if_neg c1, q_g, q_onC, q_un, q_onaL]
theorem q_putR64 (h : s 57 = Int32.ofNat 64) (t : Int64) (k c d : Int32) : pf_X12_put t k c d s l u v = some ((), pj_u s 58 (s 58 + 1), l, u, v) := by
  unfold pf_X12_put
  rw [h, if_pos (by decide)]
/-- the first of the earliest, from place i on, b being the best so far -/
def q_best (T : Nat → Int64) : Nat → Nat → Option Nat → Option Nat
  | 0, _, b => b
  | m + 1, i, b => q_best T m (i + 1) (match b with
    | none => some i
    | some k => if T i < T k then some i else some k)
def q_enc (b : Option Nat) : Int32 := match b with
  | none => -1
  | some k => Int32.ofNat k
def q_lst (T : Nat → Int64) (b : Option Nat) : Int64 := match b with
  | none => 9223372036854775807
  | some k => T k
theorem q_nextC {n : Nat} (hn : n ≤ 64) (h : s 57 = Int32.ofNat n) (hT : ∀ j, j < n → l (16000 + j) < 9223372036854775807) : ∀ (m i f : Nat) (b : Option Nat), i + m = n → m < f → pl_X6_nextEvent_9 fu f (q_enc b) (q_lst (fun j => l (16000 + j)) b) (Int32.ofNat i) s l x y = some (q_enc (q_best (fun j => l (16000 + j)) m i b), s, l, x, y) := by
  intro m
  induction m with
  | zero =>
    intro i f b e hf
    obtain ⟨f, rfl⟩ : ∃ f9, f = f9 + 1 := ⟨f - 1, by omega⟩
    have c1 : ¬ i < n := by omega
    simp (disch := omega) only [pl_X6_nextEvent_9, h, q_onlt, if_neg c1, q_best]
  | succ m ih =>
    intro i f b e hf
    obtain ⟨f, rfl⟩ : ∃ f9, f = f9 + 1 := ⟨f - 1, by omega⟩
    have c1 : i < n := by omega
    have c2 : i < 64 := by omega
    simp (disch := omega) only [pl_X6_nextEvent_9, pl_X6_nextEvent_48, h, q_onlt, q_onltL, if_pos c1, if_pos c2, q_g, q_onC, q_onaL]
    cases b with
    | none =>
      have c3 : l (16000 + i) < q_lst (fun j => l (16000 + j)) none := hT i c1
      rw [if_pos c3]
      exact ih (i + 1) f (some i) (by omega) (by omega)
    | some k =>
      by_cases c3 : l (16000 + i) < l (16000 + k)
      · have c4 : l (16000 + i) < q_lst (fun j => l (16000 + j)) (some k) := c3
        rw [if_pos c4]
        have g := ih (i + 1) f (some i) (by omega) (by omega)
        unfold q_best
        dsimp only
        rw [if_pos c3]
        exact g
      · have c4 : ¬ l (16000 + i) < q_lst (fun j => l (16000 + j)) (some k) := c3
        rw [if_neg c4]
        have g := ih (i + 1) f (some k) (by omega) (by omega)
        unfold q_best
        dsimp only
        rw [if_neg c3]
        exact g
theorem q_firstR {n : Nat} (hn : n ≤ 64) (h : s 57 = Int32.ofNat n) : ∀ (m i f : Nat) (b : Option Nat), i + m = n → m < f → (∀ k, b = some k → k < n) → pl_X12_firstEvent_4 fu f (q_enc b) (Int32.ofNat i) s l u v = some (q_enc (q_best (fun j => l (16000 + j)) m i b), s, l, u, v) := by
  intro m
  induction m with
  | zero =>
    intro i f b e hf hb
    obtain ⟨f, rfl⟩ : ∃ f9, f = f9 + 1 := ⟨f - 1, by omega⟩
    have c1 : ¬ i < n := by omega
    simp (disch := omega) only [pl_X12_firstEvent_4, h, q_onlt, if_neg c1, q_best]
  | succ m ih =>
    intro i f b e hf hb
    obtain ⟨f, rfl⟩ : ∃ f9, f = f9 + 1 := ⟨f - 1, by omega⟩
    have c1 : i < n := by omega
    cases b with
    | none =>
      have c3 : q_enc none = -1 := rfl
      simp (disch := omega) only [pl_X12_firstEvent_4, pl_X12_firstEvent_33, pl_X12_firstEvent_38, h, q_onlt, if_pos c1, if_pos c3, q_onaL]
      exact ih (i + 1) f (some i) (by omega) (by omega) (fun k hk => by cases hk; exact c1)
    | some k =>
      have hk := hb k rfl
      have c3 : ¬ q_enc (some k) = -1 := by
        intro q
        have q : (Int32.ofNat k).toInt = (-1 : Int32).toInt := congrArg Int32.toInt q
        rw [q_onI (by omega)] at q
        have o : (-1 : Int32).toInt = -1 := by decide
        omega
      have e4 : q_enc (some k) = Int32.ofNat k := rfl
      simp (disch := omega) only [pl_X12_firstEvent_4, pl_X12_firstEvent_33, pl_X12_firstEvent_38, h, q_onlt, if_pos c1, if_neg c3]
      simp (disch := omega) only [e4, q_g, q_onC, q_onaL]
      unfold q_best
      dsimp only
      by_cases c5 : l (16000 + i) < l (16000 + k)
      · rw [if_pos c5, if_pos c5]
        exact ih (i + 1) f (some i) (by omega) (by omega) (fun k hk => by cases hk; exact c1)
      · rw [if_neg c5, if_neg c5]
        exact ih (i + 1) f (some k) (by omega) (by omega) hb
/-- the next EVENT, of both -/
theorem q_next {n : Nat} (hn : n ≤ 64) (h : s 57 = Int32.ofNat n) (hT : ∀ j, j < n → l (16000 + j) < 9223372036854775807) : pf_X6_nextEvent s l x y = some (q_enc (q_best (fun j => l (16000 + j)) n 0 none), s, l, x, y) ∧ pf_X12_firstEvent s l u v = some (q_enc (q_best (fun j => l (16000 + j)) n 0 none), s, l, u, v) := by
  have g1 := q_nextC (fu := 1000) (x := x) (y := y) hn h hT n 0 1000 none (by omega) (by omega)
  have g2 := q_firstR (fu := 1000) (l := l) (u := u) (v := v) hn h n 0 1000 none (by omega) (by omega) (fun k hk => by cases hk)
  exact ⟨g1, g2⟩
/-- it is there, and none is earlier -/
theorem q_best_in (T : Nat → Int64) : ∀ (m i : Nat) (b : Option Nat), (∀ k, b = some k → k < i) → (∀ k, b = some k → ∀ j, j < i → ¬ T j < T k) → (b = none → i = 0) → (∀ k, q_best T m i b = some k → k < i + m ∧ ∀ j, j < i + m → ¬ T j < T k) ∧ (q_best T m i b = none → i + m = 0) := by
  intro m
  induction m with
  | zero =>
    intro i b h1 h2 h3
    exact ⟨fun k hk => ⟨h1 k hk, h2 k hk⟩, fun q => h3 q⟩
  | succ m ih =>
    intro i b h1 h2 h3
    unfold q_best
    rw [show i + (m + 1) = i + 1 + m by omega]
    cases b with
    | none =>
      have i0 := h3 rfl
      refine ih (i + 1) (some i) (fun k hk => by cases hk; omega) (fun k hk j hj => ?_) (fun q => by cases q)
      cases hk
      rw [show j = i by omega]
      exact Int64.lt_irrefl
    | some k =>
      dsimp only
      by_cases c : T i < T k
      · rw [if_pos c]
        refine ih (i + 1) (some i) (fun k hk => by cases hk; omega) (fun k9 hk j hj => ?_) (fun q => by cases q)
        cases hk
        by_cases e : j = i
        · rw [e]
          exact Int64.lt_irrefl
        · have q := h2 k rfl j (by omega)
          rw [Int64.lt_iff_toInt_lt] at c q ⊢
          omega
      · rw [if_neg c]
        refine ih (i + 1) (some k) (fun k9 hk => by cases hk; have := h1 k rfl; omega) (fun k9 hk j hj => ?_) (fun q => by cases q)
        cases hk
        by_cases e : j = i
        · rw [e]
          exact c
        · exact h2 k rfl j (by omega)
end QQ

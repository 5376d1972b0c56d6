/-! PURE: words are written -/
section QWO
variable {s x u s' x' u' : Nat → Int32} {l y v l' y' v' : Nat → Int64} {D E W : Int} {fu k : Nat}
def q_w1 (s : Nat → Int32) (A : Nat) (a : Int32) : Nat → Int32 := if 0 < s 44 then pj_u (pj_u s A a) 44 (s 44 - 1) else pj_u s A a
/-- words are written until a CUT comes: was it whole, what is there then, how many -/
def q_wl : List (Nat × Int32) → (Nat → Int32) → Int32 × (Nat → Int32) × Nat
  | [], s => (1, s, 0)
  | p :: L, s => if s 44 = 1 then (0, pj_u (pj_u s p.1 p.2) 44 (-1), 1) else ((q_wl L (q_w1 s p.1 p.2)).1, (q_wl L (q_w1 s p.1 p.2)).2.1, (q_wl L (q_w1 s p.1 p.2)).2.2 + 1)
theorem q_wl_c (A : Nat) (a : Int32) (L : List (Nat × Int32)) (s : Nat → Int32) : q_wl ((A, a) :: L) s = if s 44 = 1 then (0, pj_u (pj_u s A a) 44 (-1), 1) else ((q_wl L (q_w1 s A a)).1, (q_wl L (q_w1 s A a)).2.1, (q_wl L (q_w1 s A a)).2.2 + 1) := rfl
/-- the words k .. k + m - 1, then the head -/
def q_t9 (b : Nat) (w : Nat → Int32) (hd : Int32) : Nat → Nat → List (Nat × Int32)
  | 0, _ => [(b, hd)]
  | m + 1, k => (b + k, w k) :: q_t9 b w hd m (k + 1)
theorem q_44 (h : ¬ s 44 = 0) (h2 : -1 ≤ (s 44).toInt) : (0 < s 44 ↔ ¬ s 44 = -1) ∧ ((s 44 - 1 = 0) ↔ s 44 = 1) := by
  have z0 : (0 : Int32).toInt = 0 := rfl
  have z1 : (1 : Int32).toInt = 1 := rfl
  have zm : (-1 : Int32).toInt = -1 := rfl
  have e : (s 44 - 1).toInt = (s 44).toInt - 1 := q_sub (by rw [z1]; omega) (by rw [z1]; have := (s 44).toInt_lt; omega)
  rw [← Int32.toInt_inj] at h
  refine ⟨?_, ?_⟩
  · rw [Int32.lt_iff_toInt_lt, ← Int32.toInt_inj, z0, zm]
    omega
  · rw [← Int32.toInt_inj, ← Int32.toInt_inj, e, z0, z1]
    omega
theorem q_w1_44 (h : ¬ s 44 = 0) (h2 : -1 ≤ (s 44).toInt) (h3 : (s 44).toInt ≤ 1000) (h1 : ¬ s 44 = 1) {A : Nat} (hA : ¬ A = 44) (a : Int32) : ¬ q_w1 s A a 44 = 0 ∧ -1 ≤ (q_w1 s A a 44).toInt ∧ (q_w1 s A a 44).toInt ≤ 1000 := by
  have z0 : (0 : Int32).toInt = 0 := rfl
  have z1 : (1 : Int32).toInt = 1 := rfl
  have e : (s 44 - 1).toInt = (s 44).toInt - 1 := q_sub (by rw [z1]; omega) (by rw [z1]; omega)
  have p := q_44 h h2
  unfold q_w1
  by_cases c : 0 < s 44
  · rw [if_pos c, q_ua]
    refine ⟨fun z => h1 (p.2.mp z), ?_, ?_⟩
    · rw [e]
      rw [Int32.lt_iff_toInt_lt, z0] at c
      omega
    · rw [e]; omega
  · rw [if_neg c, q_un (fun z => hA z.symm)]
    exact ⟨h, h2, h3⟩
theorem q_w1_out {A w : Nat} {a : Int32} (h1 : ¬ w = A) (h2 : ¬ w = 44) : q_w1 s A a w = s w := by
  unfold q_w1
  split
  · rw [q_un h2, q_un h1]
  · rw [q_un h1]
theorem q_wl_k {lo hi : Nat} (hlo : 44 < lo) : ∀ (L : List (Nat × Int32)) (s : Nat → Int32), (∀ p ∈ L, lo ≤ p.1 ∧ p.1 < hi) → ¬ s 44 = 0 → -1 ≤ (s 44).toInt → (s 44).toInt ≤ 1000 → ((q_wl L s).1 = 0 ∨ (q_wl L s).1 = 1) ∧ (∀ w, ¬ w = 44 → w < lo ∨ hi ≤ w → (q_wl L s).2.1 w = s w) ∧ (q_wl L s).2.2 ≤ L.length ∧ ¬ (q_wl L s).2.1 44 = 0 ∧ -1 ≤ ((q_wl L s).2.1 44).toInt ∧ ((q_wl L s).2.1 44).toInt ≤ 1000 := by
  intro L
  induction L with
  | nil =>
    intro s _ h1 h2 h3
    exact ⟨Or.inr rfl, fun _ _ _ => rfl, Nat.le_refl 0, h1, h2, h3⟩
  | cons p L ih =>
    intro s hp h1 h2 h3
    have hp0 := hp p (List.mem_cons_self ..)
    have hpL : ∀ q ∈ L, lo ≤ q.1 ∧ q.1 < hi := fun q hq => hp q (List.mem_cons_of_mem _ hq)
    obtain ⟨A, a⟩ := p
    rw [q_wl_c]
    by_cases c : s 44 = 1
    · rw [if_pos c]
      have e : pj_u (pj_u s A a) 44 (-1) 44 = -1 := q_ua
      refine ⟨Or.inl rfl, ?_, by simp, ?_, ?_, ?_⟩
      · intro w n hw
        have hp0 : lo ≤ A ∧ A < hi := hp0
        show pj_u (pj_u s A a) 44 (-1) w = s w
        rw [q_un n, q_un (by omega)]
      · show ¬ pj_u (pj_u s A a) 44 (-1) 44 = 0
        rw [e]; decide
      · show -1 ≤ (pj_u (pj_u s A a) 44 (-1) 44).toInt
        rw [e]; decide
      · show (pj_u (pj_u s A a) 44 (-1) 44).toInt ≤ 1000
        rw [e]; decide
    · rw [if_neg c]
      have hp0 : lo ≤ A ∧ A < hi := hp0
      have k := q_w1_44 h1 h2 h3 c (A := A) (by omega) a
      obtain ⟨i1, i2, i3, i4⟩ := ih (q_w1 s A a) hpL k.1 k.2.1 k.2.2
      refine ⟨i1, ?_, by simp; exact i3, i4⟩
      intro w n hw
      show (q_wl L (q_w1 s A a)).2.1 w = s w
      rw [i2 w n hw, q_w1_out (by omega) n]
-- class
theorem q_word1 {a : Nat} (ha : a < 2) {i : Nat} (hi : i < 55) (h : ¬ s 44 = 0) (h2 : -1 ≤ (s 44).toInt) (c : Int32) : pf_X4_writeWord_v1 a (Int32.ofNat i) c s l x y = if s 44 = 1 then some (0, pj_u (pj_u s (13000 + 55 * a + i) c) 44 (-1), l, pj_u x 3 (x 3 + 1), y) else some (1, q_w1 s (13000 + 55 * a + i) c, l, pj_u x 3 (x 3 + 1), y) := by
  have p := q_44 h h2
  have n0 : ¬ s 44 - 1 = 0 ∨ s 44 = 1 := by
    by_cases z : s 44 = 1
    · exact Or.inr z
    · exact Or.inl (fun q => z (p.2.mp q))
  unfold pf_X4_writeWord_v1 pl_X4_writeWord_v1_16 pl_X4_writeWord_v1_43 q_w1
  rw [if_neg (q_onnn (by omega))]
  have c55 : Int32.ofNat i < 55 := by rw [q_onltL (by omega) (by omega)]; exact hi
  rw [if_pos c55]
  simp (disch := omega) only [q_r, q_g, q_onC, q_un, q_ua, q_uu]
  by_cases z : s 44 = 1
  · have g1 : 0 < s 44 := by rw [z]; decide
    have g2 : s 44 - 1 = 0 := p.2.mpr z
    simp only [if_pos z, if_pos g1, if_pos g2]
  · have g2 : ¬ s 44 - 1 = 0 := fun q => z (p.2.mp q)
    simp only [if_neg z, if_neg g2, if_neg h]
    split <;> rfl
theorem q_word3 {a : Nat} (ha : a < 2) {i : Nat} (hi : i < 34) (h : ¬ s 44 = 0) (h2 : -1 ≤ (s 44).toInt) (c : Int32) : pf_X4_writeWord_v3 a (Int32.ofNat i) c s l x y = if s 44 = 1 then some (0, pj_u (pj_u s (14000 + 34 * a + i) c) 44 (-1), l, pj_u x 3 (x 3 + 1), y) else some (1, q_w1 s (14000 + 34 * a + i) c, l, pj_u x 3 (x 3 + 1), y) := by
  have p := q_44 h h2
  unfold pf_X4_writeWord_v3 pl_X4_writeWord_v3_16 pl_X4_writeWord_v3_43 q_w1
  rw [if_neg (q_onnn (by omega))]
  have c55 : Int32.ofNat i < 34 := by rw [q_onltL (by omega) (by omega)]; exact hi
  rw [if_pos c55]
  simp (disch := omega) only [q_r, q_g, q_onC, q_un, q_ua, q_uu]
  by_cases z : s 44 = 1
  · have g1 : 0 < s 44 := by rw [z]; decide
    have g2 : s 44 - 1 = 0 := p.2.mpr z
    simp only [if_pos z, if_pos g1, if_pos g2]
  · have g2 : ¬ s 44 - 1 = 0 := fun q => z (p.2.mp q)
    simp only [if_neg z, if_neg g2, if_neg h]
    split <;> rfl
end QWO

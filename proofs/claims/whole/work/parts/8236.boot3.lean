/-! PURE: BOOT: the pair -/
section QBQ
variable {s x u s' x' u' : Nat → Int32} {l y v l' y' v' : Nat → Int64} {D E W : Int} {fu f k n : Nat} {t : Int64} {a b d e p r : Int32}
theorem q_allI {w : Nat → Int32} : ∀ (m i : Nat), ¬ q_all w m i = 0 → ∀ j, i ≤ j → j < i + m → ¬ q_ic (if 16 < j then 1 else 0) (w j) = 0 := by
  intro m
  induction m with
  | zero => intro i _ j h1 h2; omega
  | succ m ih =>
    intro i h j h1 h2
    unfold q_all at h
    by_cases c : q_ic (if 16 < i then 1 else 0) (w i) = 0
    · rw [if_pos c] at h; exact absurd rfl h
    · rw [if_neg c] at h
      by_cases z : j = i
      · rw [z]; exact c
      · exact ih (i + 1) h j (by omega) (by omega)
theorem q_icI {k w : Int32} (h : ¬ q_ic k w = 0) : (k = 0 → 0 ≤ w.toInt ∧ w.toInt ≤ 20000) ∧ (¬ k = 0 → -100 ≤ w.toInt ∧ w.toInt ≤ 450) := by
  have o : (0 : Int32).toInt = 0 := rfl
  have o2 : (20000 : Int32).toInt = 20000 := rfl
  have o3 : (-100 : Int32).toInt = -100 := rfl
  have o4 : (450 : Int32).toInt = 450 := rfl
  unfold q_ic at h
  constructor
  · intro c
    rw [if_pos c] at h
    by_cases c1 : w < 0
    · rw [if_pos c1] at h; exact absurd rfl h
    · rw [if_neg c1] at h
      by_cases c2 : 20000 < w
      · rw [if_pos c2] at h; exact absurd rfl h
      · rw [Int32.lt_iff_toInt_lt] at c1 c2
        omega
  · intro c
    rw [if_neg c] at h
    by_cases c1 : w < -100
    · rw [if_pos c1] at h; exact absurd rfl h
    · rw [if_neg c1] at h
      by_cases c2 : 450 < w
      · rw [if_pos c2] at h; exact absurd rfl h
      · rw [Int32.lt_iff_toInt_lt] at c1 c2
        omega
theorem q_okBI {b : Nat} (h : ¬ q_okB s b = 0) {j : Nat} (h1 : 1 ≤ j) (h2 : j ≤ 32) : (j ≤ 16 → 0 ≤ (s (b + j)).toInt ∧ (s (b + j)).toInt ≤ 20000) ∧ (16 < j → -100 ≤ (s (b + j)).toInt ∧ (s (b + j)).toInt ≤ 450) := by
  unfold q_okB at h
  by_cases c1 : 0 < s b
  · rw [if_pos c1] at h
    by_cases c2 : s (b + 33) = q_sm (fun j => s (b + j)) 32 1 (s b)
    · rw [if_pos c2] at h
      have z := q_icI (q_allI 32 1 h j h1 (by omega))
      constructor
      · intro q; exact z.1 (by rw [if_neg (by omega)])
      · intro q; exact z.2 (by rw [if_pos q]; decide)
    · rw [if_neg c2] at h; exact absurd rfl h
  · rw [if_neg c1] at h; exact absurd rfl h
theorem q_valB3 : q_valB s = -1 ∨ ∃ c : Nat, c < 2 ∧ q_valB s = Int32.ofNat c ∧ ¬ q_okB s (14000 + 34 * c) = 0 := by
  unfold q_valB
  by_cases c1 : q_okB s 14034 = 0
  · rw [if_pos c1]
    by_cases c2 : q_okB s 14000 = 0
    · rw [if_pos c2]; exact Or.inl rfl
    · rw [if_neg c2]; exact Or.inr ⟨0, by omega, rfl, c2⟩
  · rw [if_neg c1]
    by_cases c2 : q_okB s 14000 = 0
    · rw [if_pos c2]; exact Or.inr ⟨1, by omega, rfl, c1⟩
    · rw [if_neg c2]
      by_cases c3 : s 14000 < s 14034
      · rw [if_pos c3]; exact Or.inr ⟨1, by omega, rfl, c1⟩
      · rw [if_neg c3]; exact Or.inr ⟨0, by omega, rfl, c2⟩
theorem q_val3 : q_val s = -1 ∨ ∃ c : Nat, c < 2 ∧ q_val s = Int32.ofNat c := by
  rcases (q_hd (s := s)).2 with z | z | z
  · exact Or.inl z
  · exact Or.inr ⟨0, by omega, z⟩
  · exact Or.inr ⟨1, by omega, z⟩
-- what the four do elsewhere, and where they read
theorem q_tm1_o {c w : Nat} (h : w < 40056 ∨ (40140 ≤ w ∧ w < 40196) ∨ 40224 ≤ w) : q_tm1 c 0 s w = s w := by
  unfold q_tm1
  rw [if_neg (by omega), if_neg (by omega), if_neg (by omega), if_neg (by omega)]
theorem q_tm1_c {c w : Nat} (hc : c < 2) (h : ∀ z, 13000 ≤ z → z < 13110 → s z = s' z) (hw : s w = s' w) : q_tm1 c 0 s w = q_tm1 c 0 s' w := by
  unfold q_tm1
  by_cases c1 : 40056 + 0 ≤ w ∧ w < 40084
  · rw [if_pos c1, if_pos c1, h _ (by omega) (by omega)]
  · rw [if_neg c1, if_neg c1]
    by_cases c2 : 40084 + 0 ≤ w ∧ w < 40112
    · rw [if_pos c2, if_pos c2, h _ (by omega) (by omega)]
    · rw [if_neg c2, if_neg c2]
      by_cases c3 : 40112 + 0 ≤ w ∧ w < 40140
      · rw [if_pos c3, if_pos c3, h _ (by omega) (by omega)]
      · rw [if_neg c3, if_neg c3]
        by_cases c4 : 40196 + 0 ≤ w ∧ w < 40224
        · rw [if_pos c4, if_pos c4, h _ (by omega) (by omega)]
        · rw [if_neg c4, if_neg c4, hw]
theorem q_ce_o {c w : Nat} (h : w < 9000 ∨ 9016 ≤ w) : q_ce c 0 s w = s w := by
  unfold q_ce
  rw [if_neg (by omega)]
theorem q_ce_c {c w : Nat} (hc : c < 2) (h : ∀ z, 13000 ≤ z → z < 13110 → s z = s' z) (hw : s w = s' w) : q_ce c 0 s w = q_ce c 0 s' w := by
  unfold q_ce
  by_cases c1 : 9000 + 0 ≤ w ∧ w < 9016
  · rw [if_pos c1, if_pos c1, h _ (by omega) (by omega)]
  · rw [if_neg c1, if_neg c1, hw]
def q_mq (s0 : Nat → Int32) (s : Nat → Int32) : Nat → Int32 := if q_valB s0 = -1 then s else q_mp (q_valB s0).toNatClampNeg 0 s
theorem q_mq_o {w : Nat} (h : w < 12000 ∨ 12032 ≤ w) : q_mq s' s w = s w := by
  unfold q_mq
  split
  · rfl
  · unfold q_mp
    rw [if_neg (by omega)]
theorem q_mq_c {w : Nat} (h : ∀ z, 14000 ≤ z → z < 14068 → s z = s' z) (hw : s w = s' w) {s0 : Nat → Int32} : q_mq s0 s w = q_mq s0 s' w := by
  unfold q_mq
  rcases q_valB3 (s := s0) with z | ⟨c, hc, z, -⟩
  · rw [if_pos z, if_pos z, hw]
  · have n : ¬ q_valB s0 = -1 := by rw [z]; exact q_encn (by omega)
    rw [if_neg n, if_neg n, z, q_onC (by omega)]
    unfold q_mp
    by_cases c1 : 12000 + 0 ≤ w ∧ w < 12032
    · rw [if_pos c1, if_pos c1, h _ (by omega) (by omega)]
    · rw [if_neg c1, if_neg c1, hw]
theorem q_R_tm1 {c : Nat} (hr : q_R s) : q_R (q_tm1 c 0 s) := by
  intro w
  unfold q_tm1
  have b1 : ∀ A : Int32, 0 ≤ (A &&& (1 : Int32)).toInt ∧ (A &&& (1 : Int32)).toInt ≤ 1 := by
    intro A
    rcases (q_bit1 A).2 with z | z <;> rw [z] <;> decide
  have b2 : ∀ A : Int32, 0 ≤ ((A >>> (1 : Int32)) &&& (1 : Int32)).toInt ∧ ((A >>> (1 : Int32)) &&& (1 : Int32)).toInt ≤ 1 := by
    intro A
    rcases (q_bit2 A).2 with z | z <;> rw [z] <;> decide
  by_cases c1 : 40056 + 0 ≤ w ∧ w < 40084
  · rw [if_pos c1]
    obtain ⟨i, rfl⟩ : ∃ i, w = 40000 + 28 * 2 + i := ⟨w - 40056, by omega⟩
    rw [q_rgT (by omega) (by omega)]
    exact b1 _
  · rw [if_neg c1]
    by_cases c2 : 40084 + 0 ≤ w ∧ w < 40112
    · rw [if_pos c2]
      obtain ⟨i, rfl⟩ : ∃ i, w = 40000 + 28 * 3 + i := ⟨w - 40084, by omega⟩
      rw [q_rgT (by omega) (by omega)]
      exact b2 _
    · rw [if_neg c2]
      by_cases c3 : 40112 + 0 ≤ w ∧ w < 40140
      · rw [if_pos c3]
        obtain ⟨i, rfl⟩ : ∃ i, w = 40000 + 28 * 4 + i := ⟨w - 40112, by omega⟩
        rw [q_rgT (by omega) (by omega)]
        exact q_r40 _
      · rw [if_neg c3]
        by_cases c4 : 40196 + 0 ≤ w ∧ w < 40224
        · rw [if_pos c4]
          obtain ⟨i, rfl⟩ : ∃ i, w = 40000 + 28 * 7 + i := ⟨w - 40196, by omega⟩
          rw [q_rgT (by omega) (by omega)]
          exact b1 _
        · rw [if_neg c4]; exact hr w
theorem q_R_ce {c : Nat} (hr : q_R s) : q_R (q_ce c 0 s) := by
  intro w
  unfold q_ce
  by_cases c1 : 9000 + 0 ≤ w ∧ w < 9016
  · rw [if_pos c1]
    have g : q_rg w = (-100, 100) := by
      unfold q_rg
      rw [show w / 1000 = 9 by omega]
      rfl
    rw [g]
    exact q_clG (lo := -100) (hi := 100) (by decide)
  · rw [if_neg c1]; exact hr w
theorem q_R_mq {s0 : Nat → Int32} (hr : q_R s) (h : ∀ z, 14000 ≤ z → z < 14068 → s z = s0 z) : q_R (q_mq s0 s) := by
  unfold q_mq
  rcases q_valB3 (s := s0) with z | ⟨c, hc, z, ok⟩
  · rw [if_pos z]; exact hr
  · have n : ¬ q_valB s0 = -1 := by rw [z]; exact q_encn (by omega)
    rw [if_neg n, z, q_onC (by omega)]
    intro w
    unfold q_mp
    by_cases c1 : 12000 + 0 ≤ w ∧ w < 12032
    · rw [if_pos c1, h _ (by omega) (by omega)]
      have q := q_okBI ok (j := 1 + (w - 12000)) (by omega) (by omega)
      have g : q_rg w = if w < 12016 then (0, 20000) else (-100, 450) := by
        unfold q_rg
        rw [show w / 1000 = 12 by omega]
        rfl
      rw [g]
      by_cases d : w < 12016
      · rw [if_pos d]; exact q.1 (by omega)
      · rw [if_neg d]; exact q.2 (by omega)
    · rw [if_neg c1]; exact hr w
end QBQ

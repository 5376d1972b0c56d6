/-! PURE: an EVENT happens in class and reference alike -/
section QP
variable {s x u : Nat → Int32} {l y v : Nat → Int64} {fu : Nat}
theorem q_k0C {cc : Nat} (dm : Int32) (t : Int64) (d : Int32) : pl_X6_happen_95 dm t 0 (Int32.ofNat cc) d s l x y = some ((), s, l, x, y) := by
  have n1 : ¬ (0 : Int32) = 1 := by decide
  have n2 : ¬ (0 : Int32) = 2 := by decide
  have n3 : ¬ (0 : Int32) = 3 := by decide
  have n4 : ¬ (0 : Int32) = 4 := by decide
  rw [pl_X6_happen_95, if_neg n3, pl_X6_happen_130, if_neg n1, pl_X6_happen_194, if_neg n2, pl_X6_happen_247, if_neg n4]
theorem q_k0R {cc : Nat} (d : Int32) : pl_X12_happen_185 fu 0 (Int32.ofNat cc) d s l u v = some ((), s, l, u, v) := by
  have n1 : ¬ (0 : Int32) = 1 := by decide
  have n2 : ¬ (0 : Int32) = 2 := by decide
  have n3 : ¬ (0 : Int32) = 3 := by decide
  have n4 : ¬ (0 : Int32) = 4 := by decide
  rw [pl_X12_happen_185, if_neg n1, pl_X12_happen_215, if_neg n2, pl_X12_happen_279, if_neg n3, pl_X12_happen_330, if_neg n4]
theorem q_rgB {k : Nat} (h : k < 1000) : q_rg (17000 + k) = (0, 7) ∧ q_rg (18000 + k) = (0, 1) ∧ q_rg (19000 + k) = (0, 1) ∧ q_rg (21000 + k) = (0, 4) ∧ q_rg (22000 + k) = (0, 7) ∧ q_rg (23000 + k) = (0, 1) ∧ q_rg (24000 + k) = (0, 1) ∧ q_rg (25000 + k) = (0, 25000) := by
  unfold q_rg
  rw [show (17000 + k) / 1000 = 17 by omega, show (18000 + k) / 1000 = 18 by omega, show (19000 + k) / 1000 = 19 by omega, show (21000 + k) / 1000 = 21 by omega, show (22000 + k) / 1000 = 22 by omega, show (23000 + k) / 1000 = 23 by omega, show (24000 + k) / 1000 = 24 by omega, show (25000 + k) / 1000 = 25 by omega]
  exact ⟨rfl, rfl, rfl, rfl, rfl, rfl, rfl, rfl⟩
theorem q_R_any {a : Int32} : -2147483648 ≤ a.toInt ∧ a.toInt ≤ 2147483647 := ⟨Int32.le_toInt a, by have := Int32.toInt_lt a; omega⟩
theorem q_R_nat {k c : Nat} (h : k ≤ c) (hc : c < 2147483648) : (0 : Int) ≤ (Int32.ofNat k).toInt ∧ (Int32.ofNat k).toInt ≤ (c : Int) := by
  rw [q_onI (by omega)]
  omega
theorem q_R_S1 {n e : Nat} (hn : n ≤ 64) (he : e < n) (h : q_R s) : q_R (q_S1 n e s) := by
  refine q_R_u ?_ (q_R_nat (c := 64) (by omega) (by omega))
  intro w
  unfold q_sh
  by_cases c : 17000 + e ≤ w ∧ w < 17000 + e + (n - e - 1)
  · rw [q_y_at c]
    obtain ⟨k, rfl⟩ : ∃ k, w = 17000 + k := ⟨w - 17000, by omega⟩
    have z := h (17000 + (e + 1 + (k - e)))
    rw [(q_rgB (by omega)).1] at z ⊢
    rw [show 17000 + e + 1 + (17000 + k - (17000 + e)) = 17000 + (e + 1 + (k - e)) by omega]
    exact z
  · rw [q_y_out c]
    exact h w
/-- what an EVENT leaves alone; the counts of the LOG -/
def q_Fr (s : Nat → Int32) (l : Nat → Int64) (x u : Nat → Int32) (v : Nat → Int64) (s' : Nat → Int32) (l' : Nat → Int64) (x' u' : Nat → Int32) (v' : Nat → Int64) : Prop :=
  (∀ w, (w < 57 ∨ 60 < w) → (w < 17000 ∨ 26000 ≤ w) → s' w = s w) ∧ (∀ w, ¬ w = 61 → (w < 16000 ∨ 21000 ≤ w) → l' w = l w) ∧ (∀ w, ¬ w = 11 → (w < 5000 ∨ 8000 ≤ w) → x' w = x w) ∧ (∀ w, (w < 7000 ∨ 10000 ≤ w) → u' w = u w) ∧ (∀ w, ¬ w = 3 → v' w = v w) ∧ v' 3 = (x' 11).toInt64 ∧ (x 11).toInt ≤ (x' 11).toInt ∧ (x' 11).toInt ≤ (x 11).toInt + 1 ∧ (q_R s → q_R s')
theorem q_Ev_c {s' x' u' : Nat → Int32} {n : Nat} (h : q_Ev s x u n) (g0 : s' 57 = s 57) (g1 : ∀ i, i < 64 → s' (17000 + i) = s (17000 + i)) (g2 : ∀ i, i < 64 → x' (5000 + i) = x (5000 + i)) (g3 : ∀ i, i < 64 → x' (6000 + i) = x (6000 + i)) (g4 : ∀ i, i < 64 → u' (8000 + i) = u (8000 + i)) (g5 : ∀ i, i < 64 → u' (9000 + i) = u (9000 + i)) (g : ∀ cc, cc < 8 → x' (7000 + cc) - x (7000 + cc) = u' (7000 + cc) - u (7000 + cc)) : q_Ev s' x' u' n := by
  obtain ⟨h1, h2, h3⟩ := h
  refine ⟨by rw [g0]; exact h1, h2, ?_⟩
  intro i hi
  rw [g1 i (by omega), g2 i (by omega), g3 i (by omega), g4 i (by omega), g5 i (by omega)]
  exact q_E1_c (h3 i hi) g
/-- no EVENT lies in the past -/
def q_Tm (l : Nat → Int64) (n : Nat) : Prop := (l 93).toInt ≤ 4611686000000000000 ∧ 0 ≤ (l 93).toInt ∧ ∀ i, i < n → (l 93).toInt ≤ (l (16000 + i)).toInt ∧ (l (16000 + i)).toInt ≤ 4611686018427387904
theorem q_Tm_c {l' : Nat → Int64} {n : Nat} (h : q_Tm l n) (g : l' 93 = l 93) (g1 : ∀ i, i < n → l' (16000 + i) = l (16000 + i)) : q_Tm l' n := by
  obtain ⟨h1, h2, h3⟩ := h
  rw [← g] at h1 h2 h3
  refine ⟨h1, h2, ?_⟩
  intro i hi
  rw [g1 i hi]
  exact h3 i hi
theorem q_Tm_out {n e : Nat} (h : q_Tm l n) (he : e < n) : q_Tm (q_sh 16000 e (n - e - 1) l) (n - 1) := by
  obtain ⟨h1, h2, h3⟩ := h
  have z : q_sh 16000 e (n - e - 1) l 93 = l 93 := q_sh_out (by omega)
  unfold q_Tm
  rw [z]
  refine ⟨h1, h2, ?_⟩
  intro i hi
  rw [q_sh_at he hi]
  exact h3 _ (q_ix_lt hi)
theorem q_Tm_in {n : Nat} {t : Int64} {d : Int32} (h : q_Tm l n) (ht : l 93 = t) (hd : 0 ≤ d.toInt) : q_Tm (pj_u l (16000 + n) (t + d.toInt64)) (n + 1) := by
  obtain ⟨h1, h2, h3⟩ := h
  unfold q_Tm
  rw [q_un (by omega)]
  refine ⟨h1, h2, ?_⟩
  intro i hi
  by_cases c : i = n
  · subst c
    rw [q_ua, ← ht, Int64.toInt_add, Int32.toInt_toInt64]
    have a := Int32.toInt_lt d
    rw [Int.bmod_eq_of_le (by omega) (by omega)]
    omega
  · rw [q_un (by omega)]
    exact h3 i (by omega)
theorem q_p1 {a : Int32} {b : Int64} (h1 : 0 ≤ a.toInt) (h2 : a.toInt < 2147483647) (h : b = a.toInt64) : b + 1 = (a + 1).toInt64 ∧ (a + 1).toInt = a.toInt + 1 := by
  have q := q_edge_up (x := fun _ => a) (v := fun _ => b) (n := a.toInt) ⟨h, h1, Int.le_refl _⟩ h2
  have q1 : b + 1 = (a + 1).toInt64 := q.1
  refine ⟨q1, ?_⟩
  rw [Int32.toInt_add]
  have z : (1 : Int32).toInt = 1 := rfl
  rw [z, Int.bmod_eq_of_le (by omega) (by omega)]
/-- the three that write no new EVENT -/
theorem q_quiet {n e cc : Nat} {S1 : Nat → Int32} {t : Int64} (hn : n ≤ 64) (he : e < n) (hcc : cc < 8) (h : q_Ev (q_S1 n e s) (q_X1 5000 6000 n e x) (q_X1 8000 9000 n e u) (n - 1)) (h1 : 0 ≤ (x 11).toInt) (h2 : (x 11).toInt < 2147483647) (hv : v 3 = (x 11).toInt64) (g : ∀ w, (w < 57 ∨ 60 < w) → (w < 17000 ∨ 26000 ≤ w) → S1 w = q_S1 n e s w) (g0 : S1 57 = q_S1 n e s 57) (g1 : ∀ i, i < 64 → S1 (17000 + i) = q_S1 n e s (17000 + i)) (gr : q_R (q_S1 n e s) → q_R S1) {k : Nat} (hk : k < 200) : q_Ev S1 (pj_u (q_X1 5000 6000 n e x) 11 (x 11 + 1)) (q_X1 8000 9000 n e u) (n - 1) ∧ q_Fr s l x u v S1 (pj_u (q_sh 16000 e (n - e - 1) l) (20000 + k) t) (pj_u (q_X1 5000 6000 n e x) 11 (x 11 + 1)) (q_X1 8000 9000 n e u) (pj_u v 3 (v 3 + 1)) := by
  obtain ⟨p1, p2⟩ := q_p1 h1 h2 hv
  refine ⟨q_Ev_c h g0 g1 ?_ ?_ ?_ ?_ ?_, ?_, ?_, ?_, ?_, ?_, ?_, ?_, ?_, fun r => gr (q_R_S1 hn he r)⟩
  · intro i hi; exact q_un (by omega)
  · intro i hi; exact q_un (by omega)
  · intro i hi; rfl
  · intro i hi; rfl
  · intro c hc; rw [q_un (by omega), Int32.sub_self, Int32.sub_self]
  · intro w a b; rw [g w a b, q_S1_out (by omega) (by omega)]
  · intro w a b; rw [q_un (by omega), q_sh_out (by omega)]
  · intro w a b; rw [q_un (by omega), q_X1_out (by omega) (by omega)]
  · intro w a; rw [q_X1_out (by omega) (by omega)]
  · intro w a; rw [q_un (by omega)]
  · rw [q_ua, q_ua, p1]
  · rw [q_ua, p2]; omega
  · rw [q_ua, p2]; omega
/-- nothing happens -/
theorem q_still {n e : Nat} (hn : n ≤ 64) (he : e < n) (hv : v 3 = (x 11).toInt64) : q_Fr s l x u v (q_S1 n e s) (q_sh 16000 e (n - e - 1) l) (q_X1 5000 6000 n e x) (q_X1 8000 9000 n e u) v := by
  refine ⟨?_, ?_, ?_, ?_, ?_, ?_, ?_, ?_, q_R_S1 hn he⟩
  · intro w a b; rw [q_S1_out (by omega) (by omega)]
  · intro w a b; rw [q_sh_out (by omega)]
  · intro w a b; rw [q_X1_out (by omega) (by omega)]
  · intro w a; rw [q_X1_out (by omega) (by omega)]
  · intro w a; rfl
  · rw [q_X1_out (by omega) (by omega), hv]
  · rw [q_X1_out (by omega) (by omega)]; omega
  · rw [q_X1_out (by omega) (by omega)]; omega
end QP

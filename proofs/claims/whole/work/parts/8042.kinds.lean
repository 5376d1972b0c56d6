/-! PURE: what happens at an EVENT, by its kind (class 3, 1, 2, 4; reference 1, 2, 4, 3) -/
section QK
variable {s x u : Nat → Int32} {l y v : Nat → Int64} {fu : Nat}
theorem q_slot_n {k : Nat} {a : Int32} (h : ¬ 11 = k) : q_slot (pj_u x k a) = q_slot x := by
  unfold q_slot
  rw [q_un h]
theorem q_edge_n {n : Int} {k : Nat} {a : Int32} (hk : ¬ 11 = k) (h : q_edge x v n) : q_edge (pj_u x k a) v n := by
  unfold q_edge
  rw [q_un hk]
  exact h
-- an injector goes off
def q_offS (x s : Nat → Int32) (cc : Nat) : Nat → Int32 := pj_u (pj_u (pj_u s (18000 + cc) 0) (21000 + q_slot x) 1) (22000 + q_slot x) (Int32.ofNat cc)
theorem q_k3C {cc : Nat} (hcc : cc < 8) (h1 : 0 ≤ (x 11).toInt) (dm : Int32) (t : Int64) (d : Int32) : pl_X6_happen_95 dm t 3 (Int32.ofNat cc) d s l x y = if s (18000 + cc) = 0 then some ((), s, l, x, y) else some ((), q_offS x s cc, pj_u l (20000 + q_slot x) t, pj_u x 11 (x 11 + 1), y) := by
  have hq : q_edge x (fun _ => (x 11).toInt64) (x 11).toInt := ⟨rfl, h1, Int.le_refl _⟩
  have n1 : ¬ (3 : Int32) = 1 := by decide
  have n2 : ¬ (3 : Int32) = 2 := by decide
  have n4 : ¬ (3 : Int32) = 4 := by decide
  rw [pl_X6_happen_95, if_pos rfl, pl_X6_happen_130, if_neg n1, pl_X6_happen_194, if_neg n2, pl_X6_happen_247, if_neg n4]
  simp (disch := omega) only [q_g, q_onC, q_logC hq, q_b]
  rfl
theorem q_k3R {cc : Nat} (hcc : cc < 8) (h1 : 0 ≤ (x 11).toInt) (hv : v 3 = (x 11).toInt64) (d : Int32) : pl_X12_happen_185 fu 1 (Int32.ofNat cc) d s l u v = if s (18000 + cc) = 0 then some ((), s, l, u, v) else some ((), q_offS x s cc, pj_u l (20000 + q_slot x) (l 93), u, pj_u v 3 (v 3 + 1)) := by
  have hq : q_edge x v (x 11).toInt := ⟨hv, h1, Int.le_refl _⟩
  have n2 : ¬ (1 : Int32) = 2 := by decide
  have n3 : ¬ (1 : Int32) = 3 := by decide
  have n4 : ¬ (1 : Int32) = 4 := by decide
  rw [pl_X12_happen_185, if_pos rfl, pl_X12_happen_215, if_neg n2, pl_X12_happen_279, if_neg n3, pl_X12_happen_330, if_neg n4]
  simp (disch := omega) only [q_g, q_onC, q_logR hq, q_b]
  rfl
-- a spark
def q_spS (x s : Nat → Int32) (cc : Nat) : Nat → Int32 := pj_u (pj_u (pj_u (pj_u (pj_u s 59 (s 59 + 1)) (19000 + cc) 0) (24000 + cc) 1) (21000 + q_slot x) 3) (22000 + q_slot x) (Int32.ofNat cc)
theorem q_k2C {cc : Nat} (hcc : cc < 8) (h1 : 0 ≤ (x 11).toInt) (dm : Int32) (t : Int64) (d : Int32) : pl_X6_happen_95 dm t 2 (Int32.ofNat cc) d s l x y = if s (19000 + cc) = 0 then some ((), s, l, x, y) else some ((), q_spS x s cc, pj_u l (20000 + q_slot x) t, pj_u x 11 (x 11 + 1), y) := by
  have hq : q_edge x (fun _ => (x 11).toInt64) (x 11).toInt := ⟨rfl, h1, Int.le_refl _⟩
  have n1 : ¬ (2 : Int32) = 1 := by decide
  have n3 : ¬ (2 : Int32) = 3 := by decide
  have n4 : ¬ (2 : Int32) = 4 := by decide
  have w : pj_u (pj_u s (19000 + cc) 0) 59 (s 59 + 1) = pj_u (pj_u s 59 (s 59 + 1)) (19000 + cc) 0 := q_us (by omega)
  rw [pl_X6_happen_95, if_neg n3, pl_X6_happen_130, if_neg n1, pl_X6_happen_194, if_pos rfl, pl_X6_happen_247, if_neg n4]
  simp (disch := omega) only [q_g, q_onC, q_logC hq, q_b, q_un, w]
  rfl
theorem q_k2R {cc : Nat} (hcc : cc < 8) (h1 : 0 ≤ (x 11).toInt) (hv : v 3 = (x 11).toInt64) (d : Int32) : pl_X12_happen_185 fu 4 (Int32.ofNat cc) d s l u v = if s (19000 + cc) = 0 then some ((), s, l, u, v) else some ((), q_spS x s cc, pj_u l (20000 + q_slot x) (l 93), u, pj_u v 3 (v 3 + 1)) := by
  have hq : q_edge x v (x 11).toInt := ⟨hv, h1, Int.le_refl _⟩
  have n1 : ¬ (4 : Int32) = 1 := by decide
  have n2 : ¬ (4 : Int32) = 2 := by decide
  have n3 : ¬ (4 : Int32) = 3 := by decide
  have w : pj_u (pj_u (pj_u s (19000 + cc) 0) (24000 + cc) 1) 59 (s 59 + 1) = pj_u (pj_u (pj_u s 59 (s 59 + 1)) (19000 + cc) 0) (24000 + cc) 1 := by
    rw [q_us (by omega), q_us (v := 59) (w := 19000 + cc) (by omega)]
  rw [pl_X12_happen_185, if_neg n1, pl_X12_happen_215, if_neg n2, pl_X12_happen_279, if_neg n3, pl_X12_happen_330, if_pos rfl]
  simp (disch := omega) only [q_g, q_onC, q_logR hq, q_b, q_un, w]
  rfl
-- a cutoff
def q_cuS (x s : Nat → Int32) (cc : Nat) : Nat → Int32 := pj_u (pj_u (pj_u (pj_u s (19000 + cc) 0) 60 (s 60 + 1)) (21000 + q_slot x) 4) (22000 + q_slot x) (Int32.ofNat cc)
theorem q_k4C {cc : Nat} (hcc : cc < 8) (h1 : 0 ≤ (x 11).toInt) (dm : Int32) (t : Int64) (d : Int32) : pl_X6_happen_95 dm t 4 (Int32.ofNat cc) d s l x y = if s (19000 + cc) = 0 then some ((), s, l, x, y) else if x (7000 + cc) = d then some ((), q_cuS x s cc, pj_u l (20000 + q_slot x) t, pj_u x 11 (x 11 + 1), y) else some ((), s, l, x, y) := by
  have hq : q_edge x (fun _ => (x 11).toInt64) (x 11).toInt := ⟨rfl, h1, Int.le_refl _⟩
  have n1 : ¬ (4 : Int32) = 1 := by decide
  have n3 : ¬ (4 : Int32) = 3 := by decide
  have n2 : ¬ (4 : Int32) = 2 := by decide
  rw [pl_X6_happen_95, if_neg n3, pl_X6_happen_130, if_neg n1, pl_X6_happen_194, if_neg n2, pl_X6_happen_247, if_pos rfl]
  simp (disch := omega) only [q_g, q_onC, q_logC hq, q_b, q_un]
  rfl
theorem q_k4R {cc : Nat} (hcc : cc < 8) (h1 : 0 ≤ (x 11).toInt) (hv : v 3 = (x 11).toInt64) (d : Int32) : pl_X12_happen_185 fu 3 (Int32.ofNat cc) d s l u v = if s (19000 + cc) = 0 then some ((), s, l, u, v) else if u (7000 + cc) = d then some ((), q_cuS x s cc, pj_u l (20000 + q_slot x) (l 93), u, pj_u v 3 (v 3 + 1)) else some ((), s, l, u, v) := by
  have hq : q_edge x v (x 11).toInt := ⟨hv, h1, Int.le_refl _⟩
  have n1 : ¬ (3 : Int32) = 1 := by decide
  have n2 : ¬ (3 : Int32) = 2 := by decide
  have n4 : ¬ (3 : Int32) = 4 := by decide
  rw [pl_X12_happen_185, if_neg n1, pl_X12_happen_215, if_neg n2, pl_X12_happen_279, if_pos rfl, pl_X12_happen_330, if_neg n4]
  simp (disch := omega) only [q_g, q_onC, q_logR hq, q_b, q_un]
  rfl
-- a coil goes on
def q_coS (x s : Nat → Int32) (N cc : Nat) : Nat → Int32 := pj_u (pj_u (pj_u (pj_u (pj_u s (19000 + cc) 1) (21000 + q_slot x) 2) (22000 + q_slot x) (Int32.ofNat cc)) (17000 + N) (Int32.ofNat cc)) 57 (Int32.ofNat (N + 1))
theorem q_k1C {N cc : Nat} (h : s 57 = Int32.ofNat N) (hN : N < 64) (hcc : cc < 8) (h1 : 0 ≤ (x 11).toInt) (dm : Int32) (t : Int64) (d : Int32) : pl_X6_happen_95 dm t 1 (Int32.ofNat cc) d s l x y = if s (19000 + cc) = 0 then some ((), q_coS x s N cc, pj_u (pj_u l (20000 + q_slot x) t) (16000 + N) (t + dm.toInt64), pj_u (pj_u (pj_u (pj_u x (7000 + cc) (x (7000 + cc) + 1)) 11 (x 11 + 1)) (5000 + N) 4) (6000 + N) (x (7000 + cc) + 1), y) else some ((), s, l, x, y) := by
  have hs := q_slot_lt (x := x)
  have hq : q_edge (pj_u x (7000 + cc) (x (7000 + cc) + 1)) (fun _ => (x 11).toInt64) (x 11).toInt := q_edge_n (by omega) ⟨rfl, h1, Int.le_refl _⟩
  have n2 : ¬ (1 : Int32) = 2 := by decide
  have n3 : ¬ (1 : Int32) = 3 := by decide
  have n4 : ¬ (1 : Int32) = 4 := by decide
  have g : ∀ L X Y a, pf_X6_put a 4 (Int32.ofNat cc) (x (7000 + cc) + 1) (pj_u (pj_u (pj_u s (19000 + cc) 1) (21000 + q_slot x) 2) (22000 + q_slot x) (Int32.ofNat cc)) L X Y = some ((), q_coS x s N cc, pj_u L (16000 + N) a, pj_u (pj_u X (5000 + N) 4) (6000 + N) (x (7000 + cc) + 1), Y) := by
    intro L X Y a
    rw [q_putC hN (by rw [q_un (by omega), q_un (by omega), q_un (by omega)]; exact h)]
    rfl
  rw [pl_X6_happen_95, if_neg n3, pl_X6_happen_130, if_pos rfl, pl_X6_happen_194, if_neg n2, pl_X6_happen_247, if_neg n4, pl_X6_happen_154]
  simp (disch := omega) only [q_g, q_onC, q_logC hq, q_slot_n, q_b, q_un, q_ua, g]
theorem q_k1R {N cc : Nat} (h : s 57 = Int32.ofNat N) (hN : N < 64) (hcc : cc < 8) (h1 : 0 ≤ (x 11).toInt) (hv : v 3 = (x 11).toInt64) (d : Int32) : pl_X12_happen_185 fu 2 (Int32.ofNat cc) d s l u v = if s (19000 + cc) = 0 then some ((), q_coS x s N cc, pj_u (pj_u l (20000 + q_slot x) (l 93)) (16000 + N) (l 93 + (s 10004).toInt64), pj_u (pj_u (pj_u u (7000 + cc) (u (7000 + cc) + 1)) (8000 + N) 3) (9000 + N) (u (7000 + cc) + 1), pj_u v 3 (v 3 + 1)) else some ((), s, l, u, v) := by
  have hs := q_slot_lt (x := x)
  have hq : q_edge x v (x 11).toInt := ⟨hv, h1, Int.le_refl _⟩
  have n1 : ¬ (2 : Int32) = 1 := by decide
  have n3 : ¬ (2 : Int32) = 3 := by decide
  have n4 : ¬ (2 : Int32) = 4 := by decide
  have g : ∀ L X Y a, pf_X12_put a 3 (Int32.ofNat cc) (u (7000 + cc) + 1) (pj_u (pj_u (pj_u s (19000 + cc) 1) (21000 + q_slot x) 2) (22000 + q_slot x) (Int32.ofNat cc)) L X Y = some ((), q_coS x s N cc, pj_u L (16000 + N) a, pj_u (pj_u X (8000 + N) 3) (9000 + N) (u (7000 + cc) + 1), Y) := by
    intro L X Y a
    rw [q_putR hN (by rw [q_un (by omega), q_un (by omega), q_un (by omega)]; exact h)]
    rfl
  rw [pl_X12_happen_185, if_neg n1, pl_X12_happen_215, if_pos rfl, pl_X12_happen_279, if_neg n3, pl_X12_happen_330, if_neg n4, pl_X12_happen_236]
  simp (disch := omega) only [q_g, q_onC, q_logR hq, q_b, q_un, q_ua, g]
end QK

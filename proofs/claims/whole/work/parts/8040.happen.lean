/-! PURE: an EVENT happens -/
section QH
variable {s x u : Nat → Int32} {l y v : Nat → Int64} {fu : Nat}
/-- the states behind its taking out: e of n -/
def q_S1 (n e : Nat) (s : Nat → Int32) : Nat → Int32 := pj_u (q_sh 17000 e (n - e - 1) s) 57 (Int32.ofNat (n - 1))
def q_X1 (a b n e : Nat) (x : Nat → Int32) : Nat → Int32 := pj_y (q_sh a e (n - e - 1) x) (b + e) (n - e - 1) (q_sh a e (n - e - 1) x) (b + e + 1)
theorem q_hapC {n e cc : Nat} (hn : n ≤ 64) (he : e < n) (h : s 57 = Int32.ofNat n) (hc : s (17000 + e) = Int32.ofNat cc) (hcc : cc < 8) (dm : Int32) : pf_X6_happen (Int32.ofNat e) dm s l x y = if x (5000 + e) = 0 then (if q_S1 n e s (18000 + cc) = 0 then pf_X6_beginInjection (l (16000 + e)) (Int32.ofNat cc) (x (6000 + e)) (q_S1 n e s) (q_sh 16000 e (n - e - 1) l) (q_X1 5000 6000 n e x) y else pl_X6_happen_95 dm (l (16000 + e)) (x (5000 + e)) (Int32.ofNat cc) (x (6000 + e)) (q_S1 n e s) (q_sh 16000 e (n - e - 1) l) (q_X1 5000 6000 n e x) y) else pl_X6_happen_95 dm (l (16000 + e)) (x (5000 + e)) (Int32.ofNat cc) (x (6000 + e)) (q_S1 n e s) (q_sh 16000 e (n - e - 1) l) (q_X1 5000 6000 n e x) y := by
  have c0 : ¬ Int32.ofNat e < 0 := by rw [show (0 : Int32) = Int32.ofNat 0 from rfl, q_onlt (by omega) (by omega)]; omega
  have c1 : ¬ Int32.ofNat cc < 0 := by rw [show (0 : Int32) = Int32.ofNat 0 from rfl, q_onlt (by omega) (by omega)]; omega
  have c2 : e < 64 := by omega
  have id9 : ∀ o : Option (Unit × pj_Z), pj_b o (fun _ s2 l2 x2 y2 => some ((), s2, l2, x2, y2)) = o := by
    intro o
    rcases o with - | ⟨⟨⟩, s2, l2, x2, y2⟩
    · rfl
    · rfl
  have cA : Int32.ofNat e < Int32.ofNat n := by rw [q_onlt (by omega) (by omega)]; exact he
  have cB : Int32.ofNat e < 64 := by rw [q_onltL (by omega) (by omega)]; exact c2
  have cC : Int32.ofNat cc < 8 := by rw [q_onltL (by omega) (by omega)]; exact hcc
  unfold pf_X6_happen
  rw [if_neg c0, h, if_pos cA, if_pos cB]
  simp (disch := omega) only [q_g, q_onC, q_takeOutC hn he h, q_b, hc, if_neg c1, if_pos cC, id9]
  rfl
theorem q_S1_57 {n e : Nat} : q_S1 n e s 57 = Int32.ofNat (n - 1) := q_ua
theorem q_hapR {n e cc : Nat} (hn : n ≤ 64) (he : e < n) (h : s 57 = Int32.ofNat n) (hc : s (17000 + e) = Int32.ofNat cc) (hcc : cc < 8) : ∃ f', pf_X12_happen (Int32.ofNat e) s l u v = pl_X12_happen_35 1000 (f' + 1) (u (8000 + e)) (Int32.ofNat cc) (u (9000 + e)) (Int32.ofNat (n - 1)) (q_S1 n e s) (q_sh 16000 e (n - e - 1) l) (q_X1 8000 9000 n e u) v := by
  have o : s 57 - 1 = Int32.ofNat (n - 1) := by rw [h, q_onsL (by omega)]
  obtain ⟨f', g⟩ := q_shiftR (fu := 1000) (v := v) (u (8000 + e)) (Int32.ofNat cc) (u (9000 + e)) (n - e - 1) e 1000 (n - 1) (pj_u s 57 (Int32.ofNat (n - 1))) l u (by omega) (by omega) (by omega) q_ua
  refine ⟨f', ?_⟩
  simp (disch := omega) only [pf_X12_happen, po_X12_happen, q_g, q_onC, hc, o]
  rw [g]
  unfold q_S1 q_X1 q_sh
  rw [q_yw s (Int32.ofNat (n - 1)) (by omega : 57 < 17000 + e)]
/-- behind the shifting: what happens, by its kind -/
theorem q_hapR2 {f N cc : Nat} (h : s 57 = Int32.ofNat N) (hN : N < 64) (hcc : cc < 8) (k d : Int32) : pl_X12_happen_35 fu (f + 1) k (Int32.ofNat cc) d (Int32.ofNat N) s l u v = if k = 0 then (if s (18000 + cc) = 0 then pj_b (pf_X12_log 0 (Int32.ofNat cc) (pj_u (pj_u (pj_u s (18000 + cc) 1) (23000 + cc) 1) (25000 + cc) d) (pj_u l 61 (l 61 + d.toInt64)) u v) (fun r1 s1 l1 x1 y1 => pj_b (pf_X12_put (l1 93 + d.toInt64) 1 (Int32.ofNat cc) 0 s1 l1 x1 y1) (fun r2 s2 l2 x2 y2 => some ((), s2, l2, x2, y2))) else pl_X12_happen_185 fu k (Int32.ofNat cc) d s l u v) else pl_X12_happen_185 fu k (Int32.ofNat cc) d s l u v := by
  have c1 : ¬ N < N := by omega
  rw [pl_X12_happen_35]
  simp (disch := omega) only [h, q_onlt, if_neg c1, q_g, q_onC]
-- an injector goes on
theorem q_injC {N cc : Nat} (h : s 57 = Int32.ofNat N) (hN : N < 64) (hcc : cc < 8) (h1 : 0 ≤ (x 11).toInt) (t : Int64) (d : Int32) : pf_X6_beginInjection t (Int32.ofNat cc) d s l x y = some ((), pj_u (pj_u (pj_u (pj_u (pj_u (pj_u (pj_u s (18000 + cc) 1) (23000 + cc) 1) (25000 + cc) d) (21000 + q_slot x) 0) (22000 + q_slot x) (Int32.ofNat cc)) (17000 + N) (Int32.ofNat cc)) 57 (Int32.ofNat (N + 1)), pj_u (pj_u (pj_u l 61 (l 61 + d.toInt64)) (20000 + q_slot x) t) (16000 + N) (t + d.toInt64), pj_u (pj_u (pj_u x 11 (x 11 + 1)) (5000 + N) 3) (6000 + N) 0, y) := by
  have hs := q_slot_lt (x := x)
  have hq : q_edge x (fun _ => (x 11).toInt64) (x 11).toInt := ⟨rfl, h1, Int.le_refl _⟩
  simp (disch := omega) only [pf_X6_beginInjection, q_g, q_onC, q_logC hq, q_b]
  rw [q_putC hN (by rw [q_un (by omega), q_un (by omega), q_un (by omega), q_un (by omega), q_un (by omega)]; exact h), q_b]
theorem q_injR {N cc : Nat} (h : s 57 = Int32.ofNat N) (hN : N < 64) (hcc : cc < 8) (h1 : 0 ≤ (x 11).toInt) (hv : v 3 = (x 11).toInt64) {t : Int64} (h93 : l 93 = t) (d : Int32) : pj_b (pf_X12_log 0 (Int32.ofNat cc) (pj_u (pj_u (pj_u s (18000 + cc) 1) (23000 + cc) 1) (25000 + cc) d) (pj_u l 61 (l 61 + d.toInt64)) u v) (fun r1 s1 l1 x1 y1 => pj_b (pf_X12_put (l1 93 + d.toInt64) 1 (Int32.ofNat cc) 0 s1 l1 x1 y1) (fun r2 s2 l2 x2 y2 => some ((), s2, l2, x2, y2))) = some ((), pj_u (pj_u (pj_u (pj_u (pj_u (pj_u (pj_u s (18000 + cc) 1) (23000 + cc) 1) (25000 + cc) d) (21000 + q_slot x) 0) (22000 + q_slot x) (Int32.ofNat cc)) (17000 + N) (Int32.ofNat cc)) 57 (Int32.ofNat (N + 1)), pj_u (pj_u (pj_u l 61 (l 61 + d.toInt64)) (20000 + q_slot x) t) (16000 + N) (t + d.toInt64), pj_u (pj_u u (8000 + N) 1) (9000 + N) 0, pj_u v 3 (v 3 + 1)) := by
  have hs := q_slot_lt (x := x)
  have hq : q_edge x v (x 11).toInt := ⟨hv, h1, Int.le_refl _⟩
  rw [q_logR hq, q_b, q_putR hN (by rw [q_un (by omega), q_un (by omega), q_un (by omega), q_un (by omega), q_un (by omega)]; exact h), q_b]
  rw [q_un (f := l) (v := 61) (by omega), q_un (f := pj_u l 61 (l 61 + d.toInt64)) (by omega), q_un (f := l) (by omega), h93]
end QH

/-! PURE: what holds between class and reference -/
section QIV
variable {s x u s' x' u' : Nat → Int32} {l y v l' y' v' : Nat → Int64} {D : Int}
/-- LINES and axes -/
def q_Ln (s : Nat → Int32) : Prop := (∀ k, k < 12 → ∃ n, q_isLn s k n (-10000)) ∧ (∃ n, q_isLn s 12 n 100) ∧ ∀ k, k < 4 → q_isAx (fun j => s (11000 + 4 * k + j))
/-- counts that are ints there, longs here -/
def q_Ct (E W : Int) (l : Nat → Int64) (x : Nat → Int32) (v : Nat → Int64) : Prop := (v 12 = (x 1).toInt64 ∧ 0 ≤ (x 1).toInt ∧ (x 1).toInt * 10000 ≤ (l 93).toInt) ∧ (v 2 = (x 3).toInt64 ∧ 0 ≤ (x 3).toInt ∧ (x 3).toInt ≤ W) ∧ (v 3 = (x 11).toInt64 ∧ 0 ≤ (x 11).toInt ∧ (x 11).toInt ≤ E) ∧ (v 20 = (x 22).toInt64 ∧ 0 ≤ (x 22).toInt ∧ (x 22).toInt ≤ 3 * (x 1).toInt) ∧ 0 ≤ (l 93).toInt ∧ (l 93).toInt ≤ 20000000000
/-- loops since the key -/
def q_Kl (x : Nat → Int32) (v : Nat → Int64) : Prop := v 13 = (x 2).toInt64 ∧ 0 ≤ (x 2).toInt ∧ (x 2).toInt ≤ (x 1).toInt
/-- the wheel -/
def q_Wl (D : Int) (s : Nat → Int32) (l : Nat → Int64) (x u : Nat → Int32) (v : Nat → Int64) : Prop := (v 6 = (x 4).toInt64 ∧ 0 ≤ (x 4).toInt ∧ (x 4).toInt ≤ 2010000) ∧ (¬ s 19 < 2 → 0 < (x 4).toInt) ∧ x 5 = q_sp s x ∧ q_wh s x u ∧ (0 ≤ (x 6).toInt ∧ (x 6).toInt ≤ 57) ∧ (0 ≤ (x 7).toInt ∧ (x 7).toInt ≤ 1) ∧ (0 ≤ (u 4).toInt ∧ (u 4).toInt ≤ 57) ∧ (0 ≤ (u 5).toInt ∧ (u 5).toInt ≤ 1) ∧ 0 ≤ (l 20).toInt ∧ (l 20).toInt ≤ (l 93).toInt ∧ (¬ s 94 = 0 → ¬ s 19 = 0 → (l 93).toInt / 10000 * 10000 - (l 20).toInt < (s 10002).toInt + D)
/-- the PLANNING before -/
def q_Pl (l : Nat → Int64) (x : Nat → Int32) (y : Nat → Int64) (u : Nat → Int32) (v : Nat → Int64) : Prop := (u 7 = 0 ∨ u 7 = 1) ∧ (u 10 = 0 ∨ u 10 = 1) ∧ (u 7 = 0 → y 8 = -1 ∧ u 10 = 0) ∧ (u 7 = 1 → y 8 = v 8 ∧ 0 ≤ (v 8).toInt ∧ (v 8).toInt ≤ (l 93).toInt ∧ x 10 = u 9) ∧ (u 10 = 0 → y 9 = -1) ∧ (u 10 = 1 → y 9 = v 11 ∧ 0 ≤ (v 11).toInt ∧ (v 11).toInt ≤ (l 93).toInt) ∧ (0 ≤ (x 10).toInt ∧ (x 10).toInt ≤ 7) ∧ (0 ≤ (u 9).toInt ∧ (u 9).toInt ≤ 7)
/-- what waits for an angle: a, b, d there (-1: nothing); the bits w and the angles here -/
def q_W1 (a b d w i k p : Int32) : Prop := w = (if a = -1 then 0 else 1) + (if b = -1 then 0 else 2) + (if d = -1 then 0 else 4) ∧ (¬ a = -1 → a = i) ∧ (¬ b = -1 → b = k) ∧ (¬ d = -1 → d = p)
def q_Wt (s x u : Nat → Int32) : Prop := (∀ c, c < 8 → q_W1 (x (4000 + c)) (x (4008 + c)) (x (4016 + c)) (u (3000 + c)) (u (4000 + c)) (u (5000 + c)) (u (6000 + c))) ∧ (∀ c : Nat, c < 8 → s 19 = 0 ∨ (s 10000).toInt ≤ c → u (3000 + c) = 0)
/-- single things -/
def q_Fg (s : Nat → Int32) (l : Nat → Int64) (x : Nat → Int32) (y : Nat → Int64) (u : Nat → Int32) (v : Nat → Int64) : Prop := ((u 14 = 0 ∧ x 13 = 1) ∨ (u 14 = 1 ∧ x 13 = 0)) ∧ (¬ s 40 = 0 → x 16 = u 15 ∧ x 17 = u 16) ∧ (¬ s 67 = 0 → x 19 = u 18 ∧ 0 ≤ (x 19).toInt ∧ (x 19).toInt ≤ 65535) ∧ (¬ s 70 = -1 → x 21 = u 23 ∧ 0 ≤ (x 21).toInt ∧ (x 21).toInt ≤ 16) ∧ (0 < (s 62).toInt → y 18 = v 17 ∧ 0 ≤ (y 18).toInt ∧ (y 18).toInt ≤ (l 93).toInt) ∧ (0 ≤ (y 18).toInt ∧ (y 18).toInt ≤ (l 93).toInt) ∧ ((u 21 = 0 ∧ x 23 = -1) ∨ (u 21 = 1 ∧ x 23 = u 22 ∧ 0 ≤ (x 23).toInt ∧ (x 23).toInt ≤ 15))
/-- the FRAME -/
def q_Fm (s x u : Nat → Int32) : Prop := (¬ s 87 = 0 → (∀ i, i < 8 → x (8000 + i) = u (10000 + i)) ∧ 0 ≤ (x 8000).toInt ∧ (x 8000).toInt ≤ 27) ∧ (s 87 = 0 → ∀ i, i < 8 → x (8000 + i) = 0)
/-- the RECORDER -/
def q_Rc (l : Nat → Int64) (x u : Nat → Int32) (v : Nat → Int64) : Prop := ((x 29 = 0 ∧ u 29 = 0) ∨ (¬ x 29 = 0 ∧ u 29 = 1)) ∧ (0 ≤ (v 30).toInt ∧ (v 30).toInt * 10000 ≤ (l 93).toInt) ∧ (x 27).toInt = (if (v 30).toInt < 128 then (v 30).toInt else 128) ∧ (x 28).toInt = ((v 30).toInt - (x 27).toInt) % 128
/-- THE valid copies -/
def q_Vd (s x : Nat → Int32) : Prop := x 2000 = q_val s ∧ x 3000 = q_head s ∧ x 2001 = q_valB s ∧ x 3001 = q_headB s
/-- the bounds of LIMITS; nothing is thrown -/
def q_Kn (u : Nat → Int32) : Prop := (∀ k, k < 24 → u (1000 + k) = pj_xf 3 k ∧ u (2000 + k) = pj_xf 4 k) ∧ u 1 = 0
/-- both programs give the same OUTS -/
def q_Pg (x u : Nat → Int32) : Prop := ∀ (s : Nat → Int32) (l : Nat → Int64) (x1 : Nat → Int32) (y : Nat → Int64) (u1 : Nat → Int32) (v : Nat → Int64), x1 24 = x 24 → (∀ w, 11000 ≤ w → w < 11512 → x1 w = x w) → u1 25 = u 25 → (∀ w, 13000 ≤ w → w < 14600 → u1 w = u w) → (∀ (s2 u2 : Nat → Int32) (i : Nat), (∀ w, w < 2000 ∨ 2004 ≤ w → s2 w = s w) → i < 8 → pf_X12_input (Int32.ofNat i) s2 l u2 v = some (x1 (13000 + i), s2, l, u2, v)) → ∃ (s' x' u' : Nat → Int32), pf_X0_followProgram s l x1 y = some ((), s', l, x', y) ∧ pf_X12_work s l u1 v = some ((), s', l, u', v) ∧ (∀ w, w < 2000 ∨ 2004 ≤ w → s' w = s w) ∧ (∀ w, w < 14000 ∨ 14256 ≤ w → x' w = x1 w) ∧ (∀ w, w < 19000 ∨ 19300 ≤ w → u' w = u1 w)
/-- the cells of a MAP that is LOADING are cells of it -/
def q_Ld (s x : Nat → Int32) : Prop := ¬ s 70 = -1 → ∀ j : Nat, j < 16 → (j : Int) < (x 21).toInt → ¬ q_ic (s 70) (s (39000 + j)) = 0
theorem q_Ld_c (h70 : s' 70 = s 70) (h : ∀ j : Nat, j < 16 → s' (39000 + j) = s (39000 + j)) (k : x' 21 = x 21) : q_Ld s' x' = q_Ld s x := by
  unfold q_Ld
  rw [h70, k]
  refine propext ⟨fun z p j hj q => ?_, fun z p j hj q => ?_⟩
  · rw [← h j hj]; exact z p j hj q
  · rw [h j hj]; exact z p j hj q
theorem q_Ld_i (h70 : s' 70 = s 70) (h : ∀ j : Nat, j < 16 → s' (39000 + j) = s (39000 + j)) (k : x' 21 = x 21) : q_Ld s x → q_Ld s' x' := by rw [q_Ld_c h70 h k]; exact id
/-- metres; MUTE, AFTER and a SESSION count to an end -/
def q_Ex (s : Nat → Int32) (l : Nat → Int64) (x : Nat → Int32) : Prop := (0 ≤ (s 54).toInt ∧ (s 54).toInt * 10000 ≤ (l 93).toInt) ∧ ((¬ s 7 = 0 → (s 8).toInt ≤ 99) ∧ (s 7 = 0 → (s 6).toInt ≤ 255)) ∧ (s 94 = 2 → (s 95).toInt ≤ 100) ∧ (¬ s 63 = 0 → 0 ≤ (s 65).toInt ∧ (s 65).toInt ≤ 499) ∧ (¬ s 4 = 0 → 0 < (s 3).toInt) ∧ ¬ s 44 = 0 ∧ (0 < (s 62).toInt → (s 62).toInt < (s 37000 &&& (63 : Int32)).toInt + 4) ∧ q_Ld s x
def q_Es (s : Nat → Int32) (l : Nat → Int64) (x u : Nat → Int32) : Prop := (∃ n, q_Ev s x u n ∧ q_Tm l n) ∧ q_Ex s l x
-- when nothing of it is touched
theorem q_isLn_c {k n : Nat} {lo : Int} (h : q_isLn s k n lo) (hk : k < 13) (g : ∀ w, 26000 ≤ w → w < 29000 → s' w = s w) : q_isLn s' k n lo := by
  obtain ⟨h1, h2, h3, h4, h5⟩ := h
  refine ⟨h1, h2, ?_, ?_, ?_⟩
  · rw [g _ (by omega) (by omega)]; exact h3
  · intro j hj
    rw [g _ (by omega) (by omega), g _ (by omega) (by omega)]; exact h4 j hj
  · intro j hj
    rw [g _ (by omega) (by omega), g _ (by omega) (by omega)]; exact h5 j hj
theorem q_Ln_c (h : q_Ln s) (g : ∀ w, 26000 ≤ w → w < 29000 → s' w = s w) (g1 : ∀ w, 11000 ≤ w → w < 11016 → s' w = s w) : q_Ln s' := by
  obtain ⟨h1, ⟨n, h2⟩, h3⟩ := h
  refine ⟨?_, ⟨n, q_isLn_c h2 (by omega) g⟩, ?_⟩
  · intro k hk
    obtain ⟨n, hn⟩ := h1 k hk
    exact ⟨n, q_isLn_c hn (by omega) g⟩
  · intro k hk
    have e : ∀ j, j < 4 → s' (11000 + 4 * k + j) = s (11000 + 4 * k + j) := fun j hj => g1 _ (by omega) (by omega)
    have z : q_isAx (fun j => s (11000 + 4 * k + j)) := h3 k hk
    unfold q_isAx
    show 0 ≤ (s' (11000 + 4 * k + 0)).toInt ∧ (s' (11000 + 4 * k + 0)).toInt < (s' (11000 + 4 * k + 1)).toInt ∧ (s' (11000 + 4 * k + 1)).toInt < (s' (11000 + 4 * k + 2)).toInt ∧ (s' (11000 + 4 * k + 2)).toInt < (s' (11000 + 4 * k + 3)).toInt ∧ (s' (11000 + 4 * k + 3)).toInt ≤ 10000
    rw [e 0 (by omega), e 1 (by omega), e 2 (by omega), e 3 (by omega)]
    exact z
theorem q_Ct_c {E W : Int} (h : q_Ct E W l x v) (g : l' 93 = l 93) (g1 : x' 1 = x 1) (g3 : x' 3 = x 3) (g4 : x' 11 = x 11) (g5 : x' 22 = x 22) (k1 : v' 12 = v 12) (k3 : v' 2 = v 2) (k4 : v' 3 = v 3) (k5 : v' 20 = v 20) : q_Ct E W l' x' v' := by
  unfold q_Ct
  rw [g, g1, g3, g4, g5, k1, k3, k4, k5]
  exact h
theorem q_sp_c (g : s' 19 = s 19) (g1 : x' 4 = x 4) : q_sp s' x' = q_sp s x := by
  unfold q_sp
  rw [g, g1]
theorem q_Wl_c (h : q_Wl D s l x u v) (g1 : s' 19 = s 19) (g2 : s' 94 = s 94) (g3 : s' 10002 = s 10002) (g4 : l' 20 = l 20) (g5 : l' 93 = l 93) (k1 : x' 4 = x 4) (k2 : x' 5 = x 5) (k3 : x' 6 = x 6) (k4 : x' 7 = x 7) (k5 : u' 4 = u 4) (k6 : u' 5 = u 5) (k7 : v' 6 = v 6) : q_Wl D s' l' x' u' v' := by
  unfold q_Wl q_wh
  rw [q_sp_c g1 k1, g1, g2, g3, g4, g5, k1, k2, k3, k4, k5, k6, k7]
  exact h
theorem q_Pl_c (h : q_Pl l x y u v) (g : l' 93 = l 93) (k1 : x' 10 = x 10) (k2 : y' 8 = y 8) (k3 : y' 9 = y 9) (k4 : u' 7 = u 7) (k5 : u' 9 = u 9) (k6 : u' 10 = u 10) (k7 : v' 8 = v 8) (k8 : v' 11 = v 11) : q_Pl l' x' y' u' v' := by
  unfold q_Pl
  rw [g, k1, k2, k3, k4, k5, k6, k7, k8]
  exact h
theorem q_Wt_c (h : q_Wt s x u) (g1 : s' 19 = s 19) (g2 : s' 10000 = s 10000) (k1 : ∀ w, 4000 ≤ w → w < 4024 → x' w = x w) (k2 : ∀ w, 3000 ≤ w → w < 6008 → u' w = u w) : q_Wt s' x' u' := by
  obtain ⟨h1, h2⟩ := h
  refine ⟨?_, ?_⟩
  · intro c hc
    rw [k1 _ (by omega) (by omega), k1 _ (by omega) (by omega), k1 _ (by omega) (by omega), k2 _ (by omega) (by omega), k2 _ (by omega) (by omega), k2 _ (by omega) (by omega), k2 _ (by omega) (by omega)]
    exact h1 c hc
  · intro c hc
    rw [g1, g2, k2 _ (by omega) (by omega)]
    exact h2 c hc
theorem q_Fg_c (h : q_Fg s l x y u v) (g1 : s' 40 = s 40) (g2 : s' 62 = s 62) (g3 : s' 67 = s 67) (g4 : s' 70 = s 70) (g5 : l' 93 = l 93) (k1 : x' 13 = x 13) (k2 : x' 16 = x 16) (k3 : x' 17 = x 17) (k4 : x' 19 = x 19) (k5 : x' 21 = x 21) (k6 : x' 23 = x 23) (k7 : y' 18 = y 18) (m1 : u' 14 = u 14) (m2 : u' 15 = u 15) (m3 : u' 16 = u 16) (m4 : u' 18 = u 18) (m5 : u' 21 = u 21) (m6 : u' 22 = u 22) (m7 : u' 23 = u 23) (m8 : v' 17 = v 17) : q_Fg s' l' x' y' u' v' := by
  unfold q_Fg
  rw [g1, g2, g3, g4, g5, k1, k2, k3, k4, k5, k6, k7, m1, m2, m3, m4, m5, m6, m7, m8]
  exact h
theorem q_Fm_c (h : q_Fm s x u) (g : s' 87 = s 87) (k1 : ∀ w, 8000 ≤ w → w < 8008 → x' w = x w) (k2 : ∀ w, 10000 ≤ w → w < 10008 → u' w = u w) : q_Fm s' x' u' := by
  obtain ⟨h1, h2⟩ := h
  refine ⟨?_, ?_⟩
  · intro c
    rw [g] at c
    obtain ⟨a, b⟩ := h1 c
    rw [k1 8000 (by omega) (by omega)]
    refine ⟨?_, b⟩
    intro i hi
    rw [k1 _ (by omega) (by omega), k2 _ (by omega) (by omega)]
    exact a i hi
  · intro c i hi
    rw [g] at c
    rw [k1 _ (by omega) (by omega)]
    exact h2 c i hi
theorem q_Rc_c (h : q_Rc l x u v) (g : l' 93 = l 93) (k1 : x' 27 = x 27) (k2 : x' 28 = x 28) (k3 : x' 29 = x 29) (k4 : u' 29 = u 29) (k5 : v' 30 = v 30) : q_Rc l' x' u' v' := by
  unfold q_Rc
  rw [g, k1, k2, k3, k4, k5]
  exact h
theorem q_sm_c {f f' : Nat → Int32} : ∀ (m i : Nat) (c : Int32), (∀ j, i ≤ j → j < i + m → f' j = f j) → q_sm f' m i c = q_sm f m i c := by
  intro m
  induction m with
  | zero => intro i c _; rfl
  | succ m ih =>
    intro i c h
    unfold q_sm
    rw [h i (by omega) (by omega)]
    exact ih (i + 1) _ (fun j h1 h2 => h j (by omega) (by omega))
theorem q_ok_c {b : Nat} (h : ∀ w, b ≤ w → w < b + 55 → s' w = s w) : q_ok s' b = q_ok s b := by
  unfold q_ok
  rw [q_sm_c (f := fun j => s (b + j)) (f' := fun j => s' (b + j)) 53 1 _ (fun j _ _ => h _ (by omega) (by omega)), h b (by omega) (by omega), h (b + 54) (by omega) (by omega)]
theorem q_all_c {f f' : Nat → Int32} : ∀ (m i : Nat), (∀ j, i ≤ j → j < i + m → f' j = f j) → q_all f' m i = q_all f m i := by
  intro m
  induction m with
  | zero => intro i _; rfl
  | succ m ih =>
    intro i h
    unfold q_all
    rw [h i (by omega) (by omega), ih (i + 1) (fun j h1 h2 => h j (by omega) (by omega))]
theorem q_okB_c {b : Nat} (h : ∀ w, b ≤ w → w < b + 34 → s' w = s w) : q_okB s' b = q_okB s b := by
  unfold q_okB
  rw [q_sm_c (f := fun j => s (b + j)) (f' := fun j => s' (b + j)) 32 1 _ (fun j _ _ => h _ (by omega) (by omega)), q_all_c (f := fun j => s (b + j)) (f' := fun j => s' (b + j)) 32 1 (fun j _ _ => h _ (by omega) (by omega)), h b (by omega) (by omega), h (b + 33) (by omega) (by omega)]
theorem q_val_c (h : ∀ w, 13000 ≤ w → w < 13110 → s' w = s w) : q_val s' = q_val s ∧ q_head s' = q_head s := by
  unfold q_val q_head
  rw [q_ok_c (b := 13000) (fun w _ _ => h w (by omega) (by omega)), q_ok_c (b := 13055) (fun w _ _ => h w (by omega) (by omega)), h 13000 (by omega) (by omega), h 13055 (by omega) (by omega)]
  exact ⟨rfl, rfl⟩
theorem q_valB_c (h : ∀ w, 14000 ≤ w → w < 14068 → s' w = s w) : q_valB s' = q_valB s ∧ q_headB s' = q_headB s := by
  unfold q_valB q_headB
  rw [q_okB_c (b := 14000) (fun w _ _ => h w (by omega) (by omega)), q_okB_c (b := 14034) (fun w _ _ => h w (by omega) (by omega)), h 14000 (by omega) (by omega), h 14034 (by omega) (by omega)]
  exact ⟨rfl, rfl⟩
theorem q_Vd_c (h : q_Vd s x) (g : ∀ w, 13000 ≤ w → w < 15000 → s' w = s w) (k : ∀ w, 2000 ≤ w → w < 3002 → x' w = x w) : q_Vd s' x' := by
  have a := q_val_c (s := s) (s' := s') (fun w _ _ => g w (by omega) (by omega))
  have b := q_valB_c (s := s) (s' := s') (fun w _ _ => g w (by omega) (by omega))
  unfold q_Vd
  rw [a.1, a.2, b.1, b.2, k 2000 (by omega) (by omega), k 3000 (by omega) (by omega), k 2001 (by omega) (by omega), k 3001 (by omega) (by omega)]
  exact h
theorem q_Kn_c (h : q_Kn u) (k : ∀ w, 1 ≤ w → (w = 1 ∨ 1000 ≤ w ∧ w < 2024) → u' w = u w) : q_Kn u' := by
  refine ⟨?_, by rw [k 1 (by omega) (by omega)]; exact h.2⟩
  intro i hi
  rw [k _ (by omega) (by omega), k _ (by omega) (by omega)]
  exact h.1 i hi
theorem q_Pg_c (h : q_Pg x u) (k1 : x' 24 = x 24) (k2 : ∀ w, 11000 ≤ w → w < 11512 → x' w = x w) (k3 : u' 25 = u 25) (k4 : ∀ w, 13000 ≤ w → w < 14600 → u' w = u w) : q_Pg x' u' := by
  intro s l x1 y u1 v a b c d e
  exact h s l x1 y u1 v (by rw [a, k1]) (fun w p q => by rw [b w p q, k2 w p q]) (by rw [c, k3]) (fun w p q => by rw [d w p q, k4 w p q]) e
theorem q_Es_c (h : q_Es s l x u) (g0 : s' 57 = s 57) (gx : ∀ w, w = 6 ∨ w = 44 ∨ w = 3 ∨ w = 4 ∨ w = 7 ∨ w = 8 ∨ w = 54 ∨ w = 63 ∨ w = 65 ∨ w = 94 ∨ w = 95 ∨ w = 62 ∨ w = 37000 → s' w = s w) (g1 : ∀ w, 17000 ≤ w → w < 17064 → s' w = s w) (g2 : l' 93 = l 93) (g3 : ∀ w, 16000 ≤ w → w < 16064 → l' w = l w) (k1 : ∀ w, 5000 ≤ w → w < 7008 → x' w = x w) (k2 : ∀ w, 7000 ≤ w → w < 9064 → u' w = u w) (hl : q_Ld s x → q_Ld s' x') : q_Es s' l' x' u' := by
  obtain ⟨⟨n, h1, h2⟩, h3⟩ := h
  have hn := h1.2.1
  refine ⟨⟨n, q_Ev_c h1 g0 (fun i hi => g1 _ (by omega) (by omega)) (fun i hi => k1 _ (by omega) (by omega)) (fun i hi => k1 _ (by omega) (by omega)) (fun i hi => k2 _ (by omega) (by omega)) (fun i hi => k2 _ (by omega) (by omega)) (fun c hc => ?_), q_Tm_c h2 g2 (fun i hi => g3 _ (by omega) (by omega))⟩, by unfold q_Ex; rw [gx 54 (by omega), gx 7 (by omega), gx 6 (by omega), gx 8 (by omega), gx 94 (by omega), gx 95 (by omega), gx 63 (by omega), gx 65 (by omega), gx 3 (by omega), gx 4 (by omega), gx 44 (by omega), gx 62 (by omega), gx 37000 (by omega), g2]; exact ⟨h3.1, h3.2.1, h3.2.2.1, h3.2.2.2.1, h3.2.2.2.2.1, h3.2.2.2.2.2.1, h3.2.2.2.2.2.2.1, hl h3.2.2.2.2.2.2.2⟩⟩
  rw [k1 _ (by omega) (by omega), k2 _ (by omega) (by omega), Int32.sub_self, Int32.sub_self]
end QIV

/-! PURE: STORE is written: reference, all words -/
section QWRS
variable {s s0 x u s' x' u' : Nat → Int32} {l y v l' y' v' : Nat → Int64} {D E W : Int} {fu k : Nat}
theorem q_wrRS {a : Nat} (ha : a < 2) (hd : Int32) (Wd : Nat → Int32) (h0 : ¬ s0 94 = 0) (hw : ∀ (s' : Nat → Int32) (v' : Nat → Int64), (∀ w, ¬ w = 44 → w < 13000 ∨ 15000 ≤ w → s' w = s0 w) → ∀ k, 1 ≤ k → k ≤ 53 → pf_X12_wordOf (Int32.ofNat k) s' l u v' = some (Wd k, s', l, u, v')) : ∀ (m k f : Nat) (s : Nat → Int32) (acc : Int32) (c : Int64), 1 ≤ k → k + m = 54 → m < f → ¬ s 44 = 0 → -1 ≤ (s 44).toInt → (s 44).toInt ≤ 1000 → (∀ w, ¬ w = 44 → w < 13000 ∨ 15000 ≤ w → s w = s0 w) → Wd 54 = q_sm Wd m k acc → pl_X12_writeStore_51 fu f hd (Int32.ofNat a) acc 1 (Int32.ofNat k) s l u (pj_u v 2 c) = q_afS (q_wl (q_t9 (13000 + 55 * a) Wd hd (m + 1) k) s) l u v c := by
  have n1 : ¬ (1 : Int32) = 0 := by decide
  have end0 : ∀ (f : Nat) (acc z : Int32) (s : Nat → Int32) (l : Nat → Int64) (U : Nat → Int32) (V : Nat → Int64), pl_X12_writeStore_51 fu (f + 1) hd (Int32.ofNat a) acc 0 z s l U V = some (0, s, l, U, V) := by
    intro f acc z s l U V
    rw [pl_X12_writeStore_51]
    unfold pl_X12_writeStore_100
    rw [if_pos rfl, if_pos rfl]
    split <;> rfl
  have cnt : ∀ (c : Int64) (n : Nat), c + 1 + Int64.ofNat n = c + Int64.ofNat (n + 1) := by
    intro c n
    have z : Int64.ofNat (n + 1) = Int64.ofNat n + 1 := Int64.ofNat_add n 1
    rw [z, Int64.add_assoc, Int64.add_comm 1]
  intro m
  induction m with
  | zero =>
    intro k f s acc c k1 hk hf h1 h2 h3 hs hW
    obtain ⟨f, rfl⟩ : ∃ f9, f = f9 + 1 := ⟨f - 1, by omega⟩
    obtain rfl : k = 54 := by omega
    have hW : acc = Wd 54 := hW.symm
    have cc : (53 : Int32) < Int32.ofNat 54 := by decide
    rw [pl_X12_writeStore_51, if_pos cc]
    unfold pl_X12_writeStore_100
    have s94 : ¬ s 94 = 0 := by rw [hs 94 (by omega) (by omega)]; exact h0
    have w := q_layS (l := l) (u := u) (v := pj_u v 2 c) ha (i := 54) (by omega) h1 h2 s94 acc
    have w : pf_X12_lay (Int32.ofNat a) 54 acc s l u (pj_u v 2 c) = _ := w
    rw [if_neg n1, w]
    show _ = q_afS (q_wl ((13000 + 55 * a + 54, Wd 54) :: [(13000 + 55 * a, hd)]) s) l u v c
    rw [q_wl_c, q_ua, q_uu, ← hW]
    unfold q_afS
    by_cases z : s 44 = 1
    · rw [if_pos z, if_pos z, q_b, if_pos rfl, if_pos rfl]
      rfl
    · rw [if_neg z, if_neg z, q_b, if_neg n1]
      have p := q_w1_44 h1 h2 h3 z (A := 13000 + 55 * a + 54) (by omega) acc
      have s94' : ¬ q_w1 s (13000 + 55 * a + 54) acc 94 = 0 := by rw [q_w1_out (by omega) (by omega)]; exact s94
      have w2 := q_layS (l := l) (u := u) (v := pj_u v 2 (c + 1)) ha (i := 0) (by omega) p.1 p.2.1 s94' hd
      have w2 : pf_X12_lay (Int32.ofNat a) 0 hd (q_w1 s (13000 + 55 * a + 54) acc) l u (pj_u v 2 (c + 1)) = _ := w2
      rw [w2, q_wl_c, q_ua, q_uu, Nat.add_zero]
      by_cases z2 : q_w1 s (13000 + 55 * a + 54) acc 44 = 1
      · rw [if_pos z2, if_pos z2, q_b, if_pos rfl, if_pos rfl]
        show some (0, _, _, _, pj_u (pj_u (pj_u (pj_u (pj_u v 2 (c + 1 + Int64.ofNat 1)) 6 0) 12 0) 13 0) 20 0) = _
        rw [cnt c 1]
        rfl
      · have e : c + 1 + 1 = c + Int64.ofNat 2 := cnt c 1
        rw [if_neg z2, if_neg z2, q_b, if_neg n1, e]
        rfl
  | succ m ih =>
    intro k f s acc c k1 hk hf h1 h2 h3 hs hW
    obtain ⟨f, rfl⟩ : ∃ f9, f = f9 + 1 := ⟨f - 1, by omega⟩
    have cc : ¬ (53 : Int32) < Int32.ofNat k := by rw [q_onltR (by omega) (by omega)]; omega
    have s94 : ¬ s 94 = 0 := by rw [hs 94 (by omega) (by omega)]; exact h0
    have w := q_layS (l := l) (u := u) (v := pj_u v 2 c) ha (i := k) (by omega) h1 h2 s94 (Wd k)
    rw [pl_X12_writeStore_51, if_neg cc, if_neg n1, hw s _ hs k k1 (by omega), q_b, w]
    show _ = q_afS (q_wl ((13000 + 55 * a + k, Wd k) :: q_t9 (13000 + 55 * a) Wd hd (m + 1) (k + 1)) s) l u v c
    rw [q_wl_c, q_ua, q_uu, q_onaL]
    by_cases z : s 44 = 1
    · rw [if_pos z, if_pos z, q_b]
      obtain ⟨f, rfl⟩ : ∃ f9, f = f9 + 1 := ⟨f - 1, by omega⟩
      rw [end0]
      unfold q_afS
      rw [if_pos rfl]
      rfl
    · rw [if_neg z, if_neg z, q_b]
      have p := q_w1_44 h1 h2 h3 z (A := 13000 + 55 * a + k) (by omega) (Wd k)
      have hs2 : ∀ w, ¬ w = 44 → w < 13000 ∨ 15000 ≤ w → q_w1 s (13000 + 55 * a + k) (Wd k) w = s0 w := by
        intro w n hw
        rw [q_w1_out (by omega) n, hs w n hw]
      rw [ih (k + 1) f (q_w1 s (13000 + 55 * a + k) (Wd k)) _ (c + 1) (by omega) (by omega) (by omega) p.1 p.2.1 p.2.2 hs2 hW]
      unfold q_afS
      generalize q_wl (q_t9 (13000 + 55 * a) Wd hd (m + 1) (k + 1)) (q_w1 s (13000 + 55 * a + k) (Wd k)) = Z
      show (if Z.1 = 0 then _ else _) = (if Z.1 = 0 then _ else _)
      rw [cnt c Z.2.2]
end QWRS
/-! PURE: the BOOK is written: reference, all words -/
section QWRB
variable {s s0 x u s' x' u' : Nat → Int32} {l y v l' y' v' : Nat → Int64} {D E W : Int} {fu k : Nat}
theorem q_wrRB {a : Nat} (ha : a < 2) (hd : Int32) (Wd : Nat → Int32) (h0 : ¬ s0 94 = 0) (hw : ∀ k, 1 ≤ k → k ≤ 32 → s0 (12000 + (k - 1)) = Wd k) : ∀ (m k f : Nat) (s : Nat → Int32) (acc : Int32) (c : Int64), 1 ≤ k → k + m = 33 → m < f → ¬ s 44 = 0 → -1 ≤ (s 44).toInt → (s 44).toInt ≤ 1000 → (∀ w, ¬ w = 44 → w < 13000 ∨ 15000 ≤ w → s w = s0 w) → Wd 33 = q_sm Wd m k acc → pl_X12_writeBook_51 fu f hd (Int32.ofNat a) acc 1 (Int32.ofNat k) s l u (pj_u v 2 c) = q_afB (q_wl (q_t9 (14000 + 34 * a) Wd hd (m + 1) k) s) l u v c := by
  have n1 : ¬ (1 : Int32) = 0 := by decide
  have end0 : ∀ (f : Nat) (acc z : Int32) (s : Nat → Int32) (l : Nat → Int64) (U : Nat → Int32) (V : Nat → Int64), pl_X12_writeBook_51 fu (f + 1) hd (Int32.ofNat a) acc 0 z s l U V = some (0, s, l, U, V) := by
    intro f acc z s l U V
    rw [pl_X12_writeBook_51]
    unfold pl_X12_writeBook_103
    rw [if_pos rfl, if_pos rfl]
    split <;> rfl
  have cnt : ∀ (c : Int64) (n : Nat), c + 1 + Int64.ofNat n = c + Int64.ofNat (n + 1) := by
    intro c n
    have z : Int64.ofNat (n + 1) = Int64.ofNat n + 1 := Int64.ofNat_add n 1
    rw [z, Int64.add_assoc, Int64.add_comm 1]
  intro m
  induction m with
  | zero =>
    intro k f s acc c k1 hk hf h1 h2 h3 hs hW
    obtain ⟨f, rfl⟩ : ∃ f9, f = f9 + 1 := ⟨f - 1, by omega⟩
    obtain rfl : k = 33 := by omega
    have hW : acc = Wd 33 := hW.symm
    have cc : (32 : Int32) < Int32.ofNat 33 := by decide
    rw [pl_X12_writeBook_51, if_pos cc]
    unfold pl_X12_writeBook_103
    have s94 : ¬ s 94 = 0 := by rw [hs 94 (by omega) (by omega)]; exact h0
    have w := q_layB (l := l) (u := u) (v := pj_u v 2 c) ha (i := 33) (by omega) h1 h2 s94 acc
    have w : pf_X12_layPage (Int32.ofNat a) 33 acc s l u (pj_u v 2 c) = _ := w
    rw [if_neg n1, w]
    show _ = q_afB (q_wl ((14000 + 34 * a + 33, Wd 33) :: [(14000 + 34 * a, hd)]) s) l u v c
    rw [q_wl_c, q_ua, q_uu, ← hW]
    unfold q_afB
    by_cases z : s 44 = 1
    · rw [if_pos z, if_pos z, q_b, if_pos rfl, if_pos rfl]
      rfl
    · rw [if_neg z, if_neg z, q_b, if_neg n1]
      have p := q_w1_44 h1 h2 h3 z (A := 14000 + 34 * a + 33) (by omega) acc
      have s94' : ¬ q_w1 s (14000 + 34 * a + 33) acc 94 = 0 := by rw [q_w1_out (by omega) (by omega)]; exact s94
      have w2 := q_layB (l := l) (u := u) (v := pj_u v 2 (c + 1)) ha (i := 0) (by omega) p.1 p.2.1 s94' hd
      have w2 : pf_X12_layPage (Int32.ofNat a) 0 hd (q_w1 s (14000 + 34 * a + 33) acc) l u (pj_u v 2 (c + 1)) = _ := w2
      rw [w2, q_wl_c, q_ua, q_uu, Nat.add_zero]
      by_cases z2 : q_w1 s (14000 + 34 * a + 33) acc 44 = 1
      · rw [if_pos z2, if_pos z2, q_b, if_pos rfl, if_pos rfl]
        show some (0, _, _, _, pj_u (pj_u (pj_u (pj_u (pj_u v 2 (c + 1 + Int64.ofNat 1)) 6 0) 12 0) 13 0) 20 0) = _
        rw [cnt c 1]
        rfl
      · have e : c + 1 + 1 = c + Int64.ofNat 2 := cnt c 1
        rw [if_neg z2, if_neg z2, q_b, if_neg n1, e]
        rfl
  | succ m ih =>
    intro k f s acc c k1 hk hf h1 h2 h3 hs hW
    obtain ⟨f, rfl⟩ : ∃ f9, f = f9 + 1 := ⟨f - 1, by omega⟩
    have cc : ¬ (32 : Int32) < Int32.ofNat k := by rw [q_onltR (by omega) (by omega)]; omega
    have s94 : ¬ s 94 = 0 := by rw [hs 94 (by omega) (by omega)]; exact h0
    have w := q_layB (l := l) (u := u) (v := pj_u v 2 c) ha (i := k) (by omega) h1 h2 s94 (Wd k)
    have kw : Int32.ofNat k - 1 = Int32.ofNat (k - 1) := q_onsL (n := 1) k1
    have hv : s (12000 + (k - 1)) = Wd k := by rw [hs _ (by omega) (by omega)]; exact hw k k1 (by omega)
    rw [pl_X12_writeBook_51, if_neg cc, if_neg n1, kw, q_g (by omega) (by omega), q_onC (by omega), hv, w]
    show _ = q_afB (q_wl ((14000 + 34 * a + k, Wd k) :: q_t9 (14000 + 34 * a) Wd hd (m + 1) (k + 1)) s) l u v c
    rw [q_wl_c, q_ua, q_uu, q_onaL]
    by_cases z : s 44 = 1
    · rw [if_pos z, if_pos z, q_b]
      obtain ⟨f, rfl⟩ : ∃ f9, f = f9 + 1 := ⟨f - 1, by omega⟩
      rw [end0]
      unfold q_afB
      rw [if_pos rfl]
      rfl
    · rw [if_neg z, if_neg z, q_b]
      have p := q_w1_44 h1 h2 h3 z (A := 14000 + 34 * a + k) (by omega) (Wd k)
      have hs2 : ∀ w, ¬ w = 44 → w < 13000 ∨ 15000 ≤ w → q_w1 s (14000 + 34 * a + k) (Wd k) w = s0 w := by
        intro w n hw
        rw [q_w1_out (by omega) n, hs w n hw]
      rw [ih (k + 1) f (q_w1 s (14000 + 34 * a + k) (Wd k)) _ (c + 1) (by omega) (by omega) (by omega) p.1 p.2.1 p.2.2 hs2 hW]
      unfold q_afB
      generalize q_wl (q_t9 (14000 + 34 * a) Wd hd (m + 1) (k + 1)) (q_w1 s (14000 + 34 * a + k) (Wd k)) = Z
      show (if Z.1 = 0 then _ else _) = (if Z.1 = 0 then _ else _)
      rw [cnt c Z.2.2]
end QWRB

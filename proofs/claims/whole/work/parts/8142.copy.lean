/-! PURE: STORE is written: class and reference, word by word -/
section QWCS
variable {s x u s' x' u' : Nat → Int32} {l y v l' y' v' : Nat → Int64} {D E W : Int} {fu k : Nat}
theorem q_wcCS {a : Nat} (ha : a < 2) (hd : Int32) : ∀ (m k f : Nat) (s : Nat → Int32) (c : Int32), k + m = 55 → m < f → ¬ s 44 = 0 → -1 ≤ (s 44).toInt → (s 44).toInt ≤ 1000 → pl_X4_writeCopy_105 fu f a (Int32.ofNat 54) hd 1 (Int32.ofNat k) s l (pj_u x 3 c) y = some ((q_wl (q_t9 (13000 + 55 * a) (fun j => x (1000 + j)) hd m k) s).1, (q_wl (q_t9 (13000 + 55 * a) (fun j => x (1000 + j)) hd m k) s).2.1, l, pj_u x 3 (c + Int32.ofNat (q_wl (q_t9 (13000 + 55 * a) (fun j => x (1000 + j)) hd m k) s).2.2), y) := by
  have n1 : ¬ (1 : Int32) = 0 := by decide
  have end0 : ∀ (f : Nat) (z : Int32) (s : Nat → Int32) (X : Nat → Int32), pl_X4_writeCopy_105 fu (f + 1) a (Int32.ofNat 54) hd 0 z s l X y = some (0, s, l, X, y) := by
    intro f z s X
    rw [pl_X4_writeCopy_105, if_pos rfl]
    unfold pl_X4_writeCopy_139
    rw [if_pos rfl]
  intro m
  induction m with
  | zero =>
    intro k f s c hk hf h1 h2 h3
    obtain ⟨f, rfl⟩ : ∃ f9, f = f9 + 1 := ⟨f - 1, by omega⟩
    obtain rfl : k = 55 := by omega
    have cc : Int32.ofNat 54 < Int32.ofNat 55 := by decide
    rw [pl_X4_writeCopy_105, if_neg n1, if_pos cc]
    unfold pl_X4_writeCopy_139
    have w := q_word1 (l := l) (x := pj_u x 3 c) (y := y) ha (i := 0) (by omega) h1 h2 hd
    have w : pf_X4_writeWord_v1 a 0 hd s l (pj_u x 3 c) y = _ := w
    rw [if_neg n1, w]
    show _ = some ((q_wl [((13000 + 55 * a), hd)] s).1, (q_wl [((13000 + 55 * a), hd)] s).2.1, l, pj_u x 3 (c + Int32.ofNat (q_wl [((13000 + 55 * a), hd)] s).2.2), y)
    rw [q_wl_c, q_ua, q_uu, Nat.add_zero]
    by_cases z : s 44 = 1
    · rw [if_pos z, if_pos z, q_b, if_pos rfl]
      rfl
    · rw [if_neg z, if_neg z, q_b, if_neg n1]
      rfl
  | succ m ih =>
    intro k f s c hk hf h1 h2 h3
    obtain ⟨f, rfl⟩ : ∃ f9, f = f9 + 1 := ⟨f - 1, by omega⟩
    have cc : ¬ Int32.ofNat 54 < Int32.ofNat k := by rw [q_onlt (by omega) (by omega)]; omega
    rw [pl_X4_writeCopy_105, if_neg n1, if_neg cc, q_g (by omega) (by omega), q_onC (by omega), q_un (f := x) (w := 1000 + k) (by omega)]
    have w := q_word1 (l := l) (x := pj_u x 3 c) (y := y) ha (i := k) (by omega) h1 h2 (x (1000 + k))
    rw [w]
    show _ = some ((q_wl ((13000 + 55 * a + k, x (1000 + k)) :: q_t9 (13000 + 55 * a) (fun j => x (1000 + j)) hd m (k + 1)) s).1, (q_wl ((13000 + 55 * a + k, x (1000 + k)) :: q_t9 (13000 + 55 * a) (fun j => x (1000 + j)) hd m (k + 1)) s).2.1, l, pj_u x 3 (c + Int32.ofNat (q_wl ((13000 + 55 * a + k, x (1000 + k)) :: q_t9 (13000 + 55 * a) (fun j => x (1000 + j)) hd m (k + 1)) s).2.2), y)
    rw [q_wl_c, q_ua, q_uu, q_onaL]
    by_cases z : s 44 = 1
    · rw [if_pos z, if_pos z, q_b]
      obtain ⟨f, rfl⟩ : ∃ f9, f = f9 + 1 := ⟨f - 1, by omega⟩
      rw [end0]
      rfl
    · rw [if_neg z, if_neg z, q_b]
      have p := q_w1_44 h1 h2 h3 z (A := 13000 + 55 * a + k) (by omega) (x (1000 + k))
      rw [ih (k + 1) f (q_w1 s (13000 + 55 * a + k) (x (1000 + k))) (c + 1) (by omega) (by omega) p.1 p.2.1 p.2.2]
      generalize q_wl (q_t9 (13000 + 55 * a) (fun j => x (1000 + j)) hd m (k + 1)) (q_w1 s (13000 + 55 * a + k) (x (1000 + k))) = Z
      rw [Int32.add_assoc, show (1 : Int32) + Int32.ofNat Z.2.2 = Int32.ofNat (Z.2.2 + 1) by rw [← q_onaL, Int32.add_comm]]
/-- what the reference has behind words, the last of them cut or not -/
def q_afS (z : Int32 × (Nat → Int32) × Nat) (l : Nat → Int64) (u : Nat → Int32) (v : Nat → Int64) (c : Int64) : Option (Int32 × pj_Z) := if z.1 = 0 then some (0, q_off0 q_rz z.2.1, pj_u (pj_u l 20 0) 61 0, q_off0 q_ru u, pj_u (pj_u (pj_u (pj_u (pj_u v 2 (c + Int64.ofNat z.2.2)) 6 0) 12 0) 13 0) 20 0) else some (1, z.2.1, l, u, pj_u v 2 (c + Int64.ofNat z.2.2))
theorem q_layS {a : Nat} (ha : a < 2) {i : Nat} (hi : i < 55) (h : ¬ s 44 = 0) (h2 : -1 ≤ (s 44).toInt) (h0 : ¬ s 94 = 0) (b : Int32) : pf_X12_lay (Int32.ofNat a) (Int32.ofNat i) b s l u v = if s 44 = 1 then some (0, q_off0 q_rz (pj_u (pj_u s (13000 + 55 * a + i) b) 44 (-1)), pj_u (pj_u l 20 0) 61 0, q_off0 q_ru u, pj_u (pj_u (pj_u (pj_u (pj_u v 2 (v 2 + 1)) 6 0) 12 0) 13 0) 20 0) else some (1, q_w1 s (13000 + 55 * a + i) b, l, u, pj_u v 2 (v 2 + 1)) := by
  have p := q_44 h h2
  unfold pf_X12_lay pf_X12_counted pf_X12_cutNow q_w1
  rw [show (55 : Int32) * Int32.ofNat a = Int32.ofNat (55 * a) from q_onmL a 55, q_ona]
  simp (disch := omega) only [q_g, q_onC, q_un, q_uu]
  rw [show 13000 + (55 * a + i) = 13000 + 55 * a + i by omega]
  by_cases z : s 44 = 1
  · have g1 : 0 < s 44 := by rw [z]; decide
    have g2 : s 44 - 1 = 0 := p.2.mpr z
    simp only [if_pos z, if_pos g1, if_pos g2, if_neg h0]
    rw [q_forget, q_b, q_b, q_b, q_bz0, q_rs_rz]
  · have g2 : ¬ s 44 - 1 = 0 := fun q => z (p.2.mp q)
    simp only [if_neg z, if_neg g2]
    split
    · rw [q_b, q_bz1]
    · rw [q_b, q_bz1]
end QWCS
/-! PURE: the BOOK is written: class and reference, word by word -/
section QWCB
variable {s x u s' x' u' : Nat → Int32} {l y v l' y' v' : Nat → Int64} {D E W : Int} {fu k : Nat}
theorem q_wcCB {a : Nat} (ha : a < 2) (hd : Int32) : ∀ (m k f : Nat) (s : Nat → Int32) (c : Int32), k + m = 34 → m < f → ¬ s 44 = 0 → -1 ≤ (s 44).toInt → (s 44).toInt ≤ 1000 → pl_X4_writeCopy_v1_105 fu f a (Int32.ofNat 33) hd 1 (Int32.ofNat k) s l (pj_u x 3 c) y = some ((q_wl (q_t9 (14000 + 34 * a) (fun j => x (1000 + j)) hd m k) s).1, (q_wl (q_t9 (14000 + 34 * a) (fun j => x (1000 + j)) hd m k) s).2.1, l, pj_u x 3 (c + Int32.ofNat (q_wl (q_t9 (14000 + 34 * a) (fun j => x (1000 + j)) hd m k) s).2.2), y) := by
  have n1 : ¬ (1 : Int32) = 0 := by decide
  have end0 : ∀ (f : Nat) (z : Int32) (s : Nat → Int32) (X : Nat → Int32), pl_X4_writeCopy_v1_105 fu (f + 1) a (Int32.ofNat 33) hd 0 z s l X y = some (0, s, l, X, y) := by
    intro f z s X
    rw [pl_X4_writeCopy_v1_105, if_pos rfl]
    unfold pl_X4_writeCopy_v1_139
    rw [if_pos rfl]
  intro m
  induction m with
  | zero =>
    intro k f s c hk hf h1 h2 h3
    obtain ⟨f, rfl⟩ : ∃ f9, f = f9 + 1 := ⟨f - 1, by omega⟩
    obtain rfl : k = 34 := by omega
    have cc : Int32.ofNat 33 < Int32.ofNat 34 := by decide
    rw [pl_X4_writeCopy_v1_105, if_neg n1, if_pos cc]
    unfold pl_X4_writeCopy_v1_139
    have w := q_word3 (l := l) (x := pj_u x 3 c) (y := y) ha (i := 0) (by omega) h1 h2 hd
    have w : pf_X4_writeWord_v3 a 0 hd s l (pj_u x 3 c) y = _ := w
    rw [if_neg n1, w]
    show _ = some ((q_wl [((14000 + 34 * a), hd)] s).1, (q_wl [((14000 + 34 * a), hd)] s).2.1, l, pj_u x 3 (c + Int32.ofNat (q_wl [((14000 + 34 * a), hd)] s).2.2), y)
    rw [q_wl_c, q_ua, q_uu, Nat.add_zero]
    by_cases z : s 44 = 1
    · rw [if_pos z, if_pos z, q_b, if_pos rfl]
      rfl
    · rw [if_neg z, if_neg z, q_b, if_neg n1]
      rfl
  | succ m ih =>
    intro k f s c hk hf h1 h2 h3
    obtain ⟨f, rfl⟩ : ∃ f9, f = f9 + 1 := ⟨f - 1, by omega⟩
    have cc : ¬ Int32.ofNat 33 < Int32.ofNat k := by rw [q_onlt (by omega) (by omega)]; omega
    rw [pl_X4_writeCopy_v1_105, if_neg n1, if_neg cc, q_g (by omega) (by omega), q_onC (by omega), q_un (f := x) (w := 1000 + k) (by omega)]
    have w := q_word3 (l := l) (x := pj_u x 3 c) (y := y) ha (i := k) (by omega) h1 h2 (x (1000 + k))
    rw [w]
    show _ = some ((q_wl ((14000 + 34 * a + k, x (1000 + k)) :: q_t9 (14000 + 34 * a) (fun j => x (1000 + j)) hd m (k + 1)) s).1, (q_wl ((14000 + 34 * a + k, x (1000 + k)) :: q_t9 (14000 + 34 * a) (fun j => x (1000 + j)) hd m (k + 1)) s).2.1, l, pj_u x 3 (c + Int32.ofNat (q_wl ((14000 + 34 * a + k, x (1000 + k)) :: q_t9 (14000 + 34 * a) (fun j => x (1000 + j)) hd m (k + 1)) s).2.2), y)
    rw [q_wl_c, q_ua, q_uu, q_onaL]
    by_cases z : s 44 = 1
    · rw [if_pos z, if_pos z, q_b]
      obtain ⟨f, rfl⟩ : ∃ f9, f = f9 + 1 := ⟨f - 1, by omega⟩
      rw [end0]
      rfl
    · rw [if_neg z, if_neg z, q_b]
      have p := q_w1_44 h1 h2 h3 z (A := 14000 + 34 * a + k) (by omega) (x (1000 + k))
      rw [ih (k + 1) f (q_w1 s (14000 + 34 * a + k) (x (1000 + k))) (c + 1) (by omega) (by omega) p.1 p.2.1 p.2.2]
      generalize q_wl (q_t9 (14000 + 34 * a) (fun j => x (1000 + j)) hd m (k + 1)) (q_w1 s (14000 + 34 * a + k) (x (1000 + k))) = Z
      rw [Int32.add_assoc, show (1 : Int32) + Int32.ofNat Z.2.2 = Int32.ofNat (Z.2.2 + 1) by rw [← q_onaL, Int32.add_comm]]
/-- what the reference has behind words, the last of them cut or not -/
def q_afB (z : Int32 × (Nat → Int32) × Nat) (l : Nat → Int64) (u : Nat → Int32) (v : Nat → Int64) (c : Int64) : Option (Int32 × pj_Z) := if z.1 = 0 then some (0, q_off0 q_rz z.2.1, pj_u (pj_u l 20 0) 61 0, q_off0 q_ru u, pj_u (pj_u (pj_u (pj_u (pj_u v 2 (c + Int64.ofNat z.2.2)) 6 0) 12 0) 13 0) 20 0) else some (1, z.2.1, l, u, pj_u v 2 (c + Int64.ofNat z.2.2))
theorem q_layB {a : Nat} (ha : a < 2) {i : Nat} (hi : i < 34) (h : ¬ s 44 = 0) (h2 : -1 ≤ (s 44).toInt) (h0 : ¬ s 94 = 0) (b : Int32) : pf_X12_layPage (Int32.ofNat a) (Int32.ofNat i) b s l u v = if s 44 = 1 then some (0, q_off0 q_rz (pj_u (pj_u s (14000 + 34 * a + i) b) 44 (-1)), pj_u (pj_u l 20 0) 61 0, q_off0 q_ru u, pj_u (pj_u (pj_u (pj_u (pj_u v 2 (v 2 + 1)) 6 0) 12 0) 13 0) 20 0) else some (1, q_w1 s (14000 + 34 * a + i) b, l, u, pj_u v 2 (v 2 + 1)) := by
  have p := q_44 h h2
  unfold pf_X12_layPage pf_X12_counted pf_X12_cutNow q_w1
  rw [show (34 : Int32) * Int32.ofNat a = Int32.ofNat (34 * a) from q_onmL a 34, q_ona]
  simp (disch := omega) only [q_g, q_onC, q_un, q_uu]
  rw [show 14000 + (34 * a + i) = 14000 + 34 * a + i by omega]
  by_cases z : s 44 = 1
  · have g1 : 0 < s 44 := by rw [z]; decide
    have g2 : s 44 - 1 = 0 := p.2.mpr z
    simp only [if_pos z, if_pos g1, if_pos g2, if_neg h0]
    rw [q_forget, q_b, q_b, q_b, q_bz0, q_rs_rz]
  · have g2 : ¬ s 44 - 1 = 0 := fun q => z (p.2.mp q)
    simp only [if_neg z, if_neg g2]
    split
    · rw [q_b, q_bz1]
    · rw [q_b, q_bz1]
end QWCB

/-! PURE: STORE is written: the pair -/
section QWPS
variable {s x u s' x' u' : Nat → Int32} {l y v l' y' v' : Nat → Int64} {D E W : Int} {fu k : Nat}
theorem q_cpCS {a : Nat} (ha : a < 2) (hd : Int32) (X : Nat → Int32) (h1 : ¬ s 44 = 0) (h2 : -1 ≤ (s 44).toInt) (h3 : (s 44).toInt ≤ 1000) : pl_X4_writeCopy_73 1000 a 54 hd s l X y = some ((q_wl ((13000 + 55 * a, 0) :: q_t9 (13000 + 55 * a) (fun j => pj_u X (1000 + 54) (q_sm (fun j => X (1000 + j)) 53 1 hd) (1000 + j)) hd 54 1) s).1, (q_wl ((13000 + 55 * a, 0) :: q_t9 (13000 + 55 * a) (fun j => pj_u X (1000 + 54) (q_sm (fun j => X (1000 + j)) 53 1 hd) (1000 + j)) hd 54 1) s).2.1, l, pj_u (pj_u X (1000 + 54) (q_sm (fun j => X (1000 + j)) 53 1 hd)) 3 (X 3 + Int32.ofNat (q_wl ((13000 + 55 * a, 0) :: q_t9 (13000 + 55 * a) (fun j => pj_u X (1000 + 54) (q_sm (fun j => X (1000 + j)) 53 1 hd) (1000 + j)) hd 54 1) s).2.2), y) := by
  have n1 : ¬ (1 : Int32) = 0 := by decide
  have sm : pf_X4_sumOf 54 hd s l X y = some (q_sm (fun j => X (1000 + j)) 53 1 hd, s, l, X, y) := by
    have q := q_X4_sumOf (fu := 1000) (s := s) (l := l) (x := X) (y := y) (n := 54) (by omega) 53 1 1000 hd (by omega) (by omega)
    have e1 : (54 : Int32) = Int32.ofNat 54 := rfl
    have e2 : (1 : Int32) = Int32.ofNat 1 := rfl
    unfold pf_X4_sumOf po_X4_sumOf
    rw [e1, e2]
    exact q
  unfold pl_X4_writeCopy_73
  rw [sm, q_b]
  have g : pj_g (54 : Int32) 55 = pj_g (A := Int32 × pj_Z) (Int32.ofNat 54) 55 := rfl
  rw [g, q_g (by omega) (by omega), show ((54 : Int32).toNatClampNeg) = 54 from rfl]
  have x3 : pj_u X (1000 + 54) (q_sm (fun j => X (1000 + j)) 53 1 hd) 3 = X 3 := q_un (by omega)
  generalize pj_u X (1000 + 54) (q_sm (fun j => X (1000 + j)) 53 1 hd) = Y at x3
  have w := q_word1 (l := l) (x := Y) (y := y) ha (i := 0) (by omega) h1 h2 0
  have w : pf_X4_writeWord_v1 a 0 0 s l Y y = _ := w
  rw [w, q_wl_c, Nat.add_zero, x3]
  by_cases z : s 44 = 1
  · rw [if_pos z, if_pos z, q_b]
    show pl_X4_writeCopy_105 1000 (999 + 1) a 54 hd 0 1 _ l _ y = _
    rw [pl_X4_writeCopy_105, if_pos rfl]
    unfold pl_X4_writeCopy_139
    rw [if_pos rfl]
    rfl
  · rw [if_neg z, if_neg z, q_b]
    have p := q_w1_44 h1 h2 h3 z (A := 13000 + 55 * a) (by omega) 0
    have q := q_wcCS (fu := 1000) (l := l) (x := Y) (y := y) ha hd 54 1 1000 (q_w1 s (13000 + 55 * a) 0) (X 3 + 1) (by omega) (by omega) p.1 p.2.1 p.2.2
    have q : pl_X4_writeCopy_105 1000 1000 a 54 hd 1 1 (q_w1 s (13000 + 55 * a) 0) l (pj_u Y 3 (X 3 + 1)) y = _ := q
    rw [q]
    generalize q_wl (q_t9 (13000 + 55 * a) (fun j => Y (1000 + j)) hd 54 1) (q_w1 s (13000 + 55 * a) 0) = Z
    rw [Int32.add_assoc, show (1 : Int32) + Int32.ofNat Z.2.2 = Int32.ofNat (Z.2.2 + 1) by rw [← q_onaL, Int32.add_comm]]
theorem q_cpRS {a : Nat} (ha : a < 2) (hd : Int32) (Wd : Nat → Int32) (h0 : ¬ s 94 = 0) (h1 : ¬ s 44 = 0) (h2 : -1 ≤ (s 44).toInt) (h3 : (s 44).toInt ≤ 1000) (hw : ∀ (s' : Nat → Int32) (v' : Nat → Int64), (∀ w, ¬ w = 44 → w < 13000 ∨ 15000 ≤ w → s' w = s w) → ∀ k, 1 ≤ k → k ≤ 53 → pf_X12_wordOf (Int32.ofNat k) s' l u v' = some (Wd k, s', l, u, v')) (hW : Wd 54 = q_sm Wd 53 1 hd) : pl_X12_writeStore_35 1000 hd (Int32.ofNat a) s l u v = q_afS (q_wl ((13000 + 55 * a, 0) :: q_t9 (13000 + 55 * a) Wd hd 54 1) s) l u v (v 2) := by
  have n1 : ¬ (1 : Int32) = 0 := by decide
  have w := q_layS (l := l) (u := u) (v := v) ha (i := 0) (by omega) h1 h2 h0 0
  have w : pf_X12_lay (Int32.ofNat a) 0 0 s l u v = _ := w
  unfold pl_X12_writeStore_35
  rw [w, q_wl_c, Nat.add_zero]
  by_cases z : s 44 = 1
  · rw [if_pos z, if_pos z, q_b]
    show pl_X12_writeStore_51 1000 (999 + 1) hd (Int32.ofNat a) hd 0 1 _ _ _ _ = _
    rw [pl_X12_writeStore_51, if_neg (by decide), if_pos rfl]
    unfold pl_X12_writeStore_100
    rw [if_pos rfl]
    rfl
  · rw [if_neg z, if_neg z, q_b]
    have p := q_w1_44 h1 h2 h3 z (A := 13000 + 55 * a) (by omega) 0
    have hs2 : ∀ w, ¬ w = 44 → w < 13000 ∨ 15000 ≤ w → q_w1 s (13000 + 55 * a) 0 w = s w := by
      intro w n hw
      rw [q_w1_out (by omega) n]
    have q := q_wrRS (fu := 1000) (l := l) (u := u) (v := v) ha hd Wd h0 hw 53 1 1000 (q_w1 s (13000 + 55 * a) 0) hd (v 2 + 1) (by omega) (by omega) (by omega) p.1 p.2.1 p.2.2 hs2 hW
    have q : pl_X12_writeStore_51 1000 1000 hd (Int32.ofNat a) hd 1 1 (q_w1 s (13000 + 55 * a) 0) l u (pj_u v 2 (v 2 + 1)) = _ := q
    rw [q]
    unfold q_afS
    generalize q_wl (q_t9 (13000 + 55 * a) Wd hd (53 + 1) 1) (q_w1 s (13000 + 55 * a) 0) = Z
    have cnt : v 2 + 1 + Int64.ofNat Z.2.2 = v 2 + Int64.ofNat (Z.2.2 + 1) := by
      have z : Int64.ofNat (Z.2.2 + 1) = Int64.ofNat Z.2.2 + 1 := Int64.ofNat_add Z.2.2 1
      rw [z, Int64.add_assoc, Int64.add_comm 1]
    rw [cnt]
end QWPS
/-! PURE: the BOOK is written: the pair -/
section QWPB
variable {s x u s' x' u' : Nat → Int32} {l y v l' y' v' : Nat → Int64} {D E W : Int} {fu k : Nat}
theorem q_cpCB {a : Nat} (ha : a < 2) (hd : Int32) (X : Nat → Int32) (h1 : ¬ s 44 = 0) (h2 : -1 ≤ (s 44).toInt) (h3 : (s 44).toInt ≤ 1000) : pl_X4_writeCopy_v1_73 1000 a 33 hd s l X y = some ((q_wl ((14000 + 34 * a, 0) :: q_t9 (14000 + 34 * a) (fun j => pj_u X (1000 + 33) (q_sm (fun j => X (1000 + j)) 32 1 hd) (1000 + j)) hd 33 1) s).1, (q_wl ((14000 + 34 * a, 0) :: q_t9 (14000 + 34 * a) (fun j => pj_u X (1000 + 33) (q_sm (fun j => X (1000 + j)) 32 1 hd) (1000 + j)) hd 33 1) s).2.1, l, pj_u (pj_u X (1000 + 33) (q_sm (fun j => X (1000 + j)) 32 1 hd)) 3 (X 3 + Int32.ofNat (q_wl ((14000 + 34 * a, 0) :: q_t9 (14000 + 34 * a) (fun j => pj_u X (1000 + 33) (q_sm (fun j => X (1000 + j)) 32 1 hd) (1000 + j)) hd 33 1) s).2.2), y) := by
  have n1 : ¬ (1 : Int32) = 0 := by decide
  have sm : pf_X4_sumOf 33 hd s l X y = some (q_sm (fun j => X (1000 + j)) 32 1 hd, s, l, X, y) := by
    have q := q_X4_sumOf (fu := 1000) (s := s) (l := l) (x := X) (y := y) (n := 33) (by omega) 32 1 1000 hd (by omega) (by omega)
    have e1 : (33 : Int32) = Int32.ofNat 33 := rfl
    have e2 : (1 : Int32) = Int32.ofNat 1 := rfl
    unfold pf_X4_sumOf po_X4_sumOf
    rw [e1, e2]
    exact q
  unfold pl_X4_writeCopy_v1_73
  rw [sm, q_b]
  have g : pj_g (33 : Int32) 55 = pj_g (A := Int32 × pj_Z) (Int32.ofNat 33) 55 := rfl
  rw [g, q_g (by omega) (by omega), show ((33 : Int32).toNatClampNeg) = 33 from rfl]
  have x3 : pj_u X (1000 + 33) (q_sm (fun j => X (1000 + j)) 32 1 hd) 3 = X 3 := q_un (by omega)
  generalize pj_u X (1000 + 33) (q_sm (fun j => X (1000 + j)) 32 1 hd) = Y at x3
  have w := q_word3 (l := l) (x := Y) (y := y) ha (i := 0) (by omega) h1 h2 0
  have w : pf_X4_writeWord_v3 a 0 0 s l Y y = _ := w
  rw [w, q_wl_c, Nat.add_zero, x3]
  by_cases z : s 44 = 1
  · rw [if_pos z, if_pos z, q_b]
    show pl_X4_writeCopy_v1_105 1000 (999 + 1) a 33 hd 0 1 _ l _ y = _
    rw [pl_X4_writeCopy_v1_105, if_pos rfl]
    unfold pl_X4_writeCopy_v1_139
    rw [if_pos rfl]
    rfl
  · rw [if_neg z, if_neg z, q_b]
    have p := q_w1_44 h1 h2 h3 z (A := 14000 + 34 * a) (by omega) 0
    have q := q_wcCB (fu := 1000) (l := l) (x := Y) (y := y) ha hd 33 1 1000 (q_w1 s (14000 + 34 * a) 0) (X 3 + 1) (by omega) (by omega) p.1 p.2.1 p.2.2
    have q : pl_X4_writeCopy_v1_105 1000 1000 a 33 hd 1 1 (q_w1 s (14000 + 34 * a) 0) l (pj_u Y 3 (X 3 + 1)) y = _ := q
    rw [q]
    generalize q_wl (q_t9 (14000 + 34 * a) (fun j => Y (1000 + j)) hd 33 1) (q_w1 s (14000 + 34 * a) 0) = Z
    rw [Int32.add_assoc, show (1 : Int32) + Int32.ofNat Z.2.2 = Int32.ofNat (Z.2.2 + 1) by rw [← q_onaL, Int32.add_comm]]
theorem q_cpRB {a : Nat} (ha : a < 2) (hd : Int32) (Wd : Nat → Int32) (h0 : ¬ s 94 = 0) (h1 : ¬ s 44 = 0) (h2 : -1 ≤ (s 44).toInt) (h3 : (s 44).toInt ≤ 1000) (hw : ∀ k, 1 ≤ k → k ≤ 32 → s (12000 + (k - 1)) = Wd k) (hW : Wd 33 = q_sm Wd 32 1 hd) : pl_X12_writeBook_35 1000 hd (Int32.ofNat a) s l u v = q_afB (q_wl ((14000 + 34 * a, 0) :: q_t9 (14000 + 34 * a) Wd hd 33 1) s) l u v (v 2) := by
  have n1 : ¬ (1 : Int32) = 0 := by decide
  have w := q_layB (l := l) (u := u) (v := v) ha (i := 0) (by omega) h1 h2 h0 0
  have w : pf_X12_layPage (Int32.ofNat a) 0 0 s l u v = _ := w
  unfold pl_X12_writeBook_35
  rw [w, q_wl_c, Nat.add_zero]
  by_cases z : s 44 = 1
  · rw [if_pos z, if_pos z, q_b]
    show pl_X12_writeBook_51 1000 (999 + 1) hd (Int32.ofNat a) hd 0 1 _ _ _ _ = _
    rw [pl_X12_writeBook_51, if_neg (by decide), if_pos rfl]
    unfold pl_X12_writeBook_103
    rw [if_pos rfl]
    rfl
  · rw [if_neg z, if_neg z, q_b]
    have p := q_w1_44 h1 h2 h3 z (A := 14000 + 34 * a) (by omega) 0
    have hs2 : ∀ w, ¬ w = 44 → w < 13000 ∨ 15000 ≤ w → q_w1 s (14000 + 34 * a) 0 w = s w := by
      intro w n hw
      rw [q_w1_out (by omega) n]
    have q := q_wrRB (fu := 1000) (l := l) (u := u) (v := v) ha hd Wd h0 hw 32 1 1000 (q_w1 s (14000 + 34 * a) 0) hd (v 2 + 1) (by omega) (by omega) (by omega) p.1 p.2.1 p.2.2 hs2 hW
    have q : pl_X12_writeBook_51 1000 1000 hd (Int32.ofNat a) hd 1 1 (q_w1 s (14000 + 34 * a) 0) l u (pj_u v 2 (v 2 + 1)) = _ := q
    rw [q]
    unfold q_afB
    generalize q_wl (q_t9 (14000 + 34 * a) Wd hd (32 + 1) 1) (q_w1 s (14000 + 34 * a) 0) = Z
    have cnt : v 2 + 1 + Int64.ofNat Z.2.2 = v 2 + Int64.ofNat (Z.2.2 + 1) := by
      have z : Int64.ofNat (Z.2.2 + 1) = Int64.ofNat Z.2.2 + 1 := Int64.ofNat_add Z.2.2 1
      rw [z, Int64.add_assoc, Int64.add_comm 1]
    rw [cnt]
end QWPB

/-! PURE: the crank's edge: the pair, put together -/
section QCT
variable {s x u s' x' u' : Nat → Int32} {l y v l' y' v' : Nat → Int64} {D E W : Int} {fu f k n c : Nat}
theorem q_Pq_I {F F' G G' : Option (Unit × pj_Z)} (hF : F = F') (hG : G = G') (h : q_Pq D E W s l x v F' G') : q_Pq D E W s l x v F G := by rw [hF, hG]; exact h
theorem q_Pq_t {s1 x1 : Nat → Int32} {l1 v1 : Nat → Int64} {F G : Option (Unit × pj_Z)} (k : q_K4 s l x v s1 l1 x1 v1) (h : q_Pq D E W s1 l1 x1 v1 F G) : q_Pq D E W s l x v F G := by
  obtain ⟨s2, l2, x2, y2, u2, v2, p, q, hI, a1, a2, a3, a4, a5, a6⟩ := h
  obtain ⟨b1, b2, b3, b4, b5, b6⟩ := k
  exact ⟨s2, l2, x2, y2, u2, v2, p, q, hI, by rw [a1, b1], by rw [a2, b2], by rw [a3, b3], by rw [a4, b4], by rw [a5, b5], by rw [a6, b6]⟩
theorem q_Pq_m {E' : Int} {F G : Option (Unit × pj_Z)} (hE : E ≤ E') (h : q_Pq D E W s l x v F G) : q_Pq D E' W s l x v F G := by
  obtain ⟨s2, l2, x2, y2, u2, v2, p, q, hI, a⟩ := h
  exact ⟨s2, l2, x2, y2, u2, v2, p, q, q_I_mono hI hE (Int.le_refl _), a⟩
/-- behind hearTooth -/
def q_bh (r1 : Int32) (s1 : Nat → Int32) (l1 : Nat → Int64) (x1 : Nat → Int32) (y1 : Nat → Int64) : Option (Unit × pj_Z) := if r1 = 2 then pj_b (pf_X11_allOff s1 l1 x1 y1) (fun _ s2 l2 x2 y2 => pl_X11_crankEdge_29 1000 r1 s2 l2 x2 y2) else pl_X11_crankEdge_29 1000 r1 s1 l1 x1 y1
theorem q_bh0 : q_bh 0 s l x y = some ((), s, l, x, y) := by
  unfold q_bh pl_X11_crankEdge_29
  rw [if_neg (by decide), if_neg (by decide)]
theorem q_bh1 : q_bh 1 s l x y = pl_X11_crankEdge_29 1000 1 s l x y := by
  unfold q_bh
  rw [if_neg (by decide)]
/-- a right tooth: what comes behind it -/
theorem q_right (hI : q_I 0 E W s l x y u v) (h0 : ¬ s 94 = 0) (h1 : ¬ s 19 < 2) (ht : l 20 = l 93) (h25 : s 22 = s 22) : q_Pq 0 E W s l x v (q_bh (if s 19 = 3 then 1 else 0) s l x y) (if s 19 = 3 then pl_X12_crank_400 s l u v else some ((), s, l, u, v)) := by
  by_cases c : s 19 = 3
  · rw [if_pos c, if_pos c, q_bh1]
    exact q_planP hI h0 c ht
  · rw [if_neg c, if_neg c, q_bh0]
    exact ⟨s, l, x, y, u, v, rfl, rfl, hI, rfl, rfl, rfl, rfl, rfl, rfl⟩
theorem q_340 (hr : q_R s) : pl_X12_crank_340 1 s l u v = if s 19 = 3 then pl_X12_crank_400 (q_cnt s (u 4) (u 5)) l u v else some ((), s, l, u, v) := by
  have r : 0 ≤ (s 22).toInt ∧ (s 22).toInt ≤ 100 := hr 22
  have e : (s 22 + 1).toInt = (s 22).toInt + 1 := q_one (by omega) (by omega)
  have o : (100 : Int32).toInt = 100 := rfl
  unfold pl_X12_crank_340 pl_X12_crank_397 q_cnt
  rw [if_neg (by decide)]
  by_cases c1 : s 19 = 3
  · rw [if_pos c1, if_pos c1, if_pos c1]
    by_cases c2 : u 4 = 21
    · rw [if_pos c2, if_pos c2]
      by_cases c3 : u 5 = 0
      · rw [if_pos c3, if_pos c3]
        by_cases c4 : s 25 = 0
        · rw [if_pos c4, if_pos c4]
          by_cases c5 : s 22 + 1 < 100
          · have c6 : s 22 < 100 := by rw [Int32.lt_iff_toInt_lt, o] at c5 ⊢; omega
            rw [if_pos c6, if_pos c5]
          · rw [if_neg c5]
            by_cases c6 : s 22 < 100
            · rw [if_pos c6]
              rw [Int32.lt_iff_toInt_lt, o] at c5 c6
              have : s 22 + 1 = 100 := by rw [← Int32.toInt_inj, o]; omega
              rw [this]
            · rw [if_neg c6]
        · rw [if_neg c4, if_neg c4]
      · rw [if_neg c3, if_neg c3]
    · rw [if_neg c2, if_neg c2]
  · rw [if_neg c1, if_neg c1]
theorem q_cnt_c {a b : Int32} {w : Nat} (h : ¬ w = 22) : q_cnt s a b w = s w := by
  unfold q_cnt
  split
  · split
    · split
      · split
        · rw [q_un h]
        · rfl
      · rfl
    · rfl
  · rfl
theorem q_cnt_n {a b : Int32} (h : ¬ a = 21) : q_cnt s a b = s := by
  unfold q_cnt
  rw [if_neg h]
  split <;> rfl
theorem q_cnt_3 {a b : Int32} (h : ¬ s 19 = 3) : q_cnt s a b = s := by
  unfold q_cnt
  rw [if_neg h]
theorem q_R_cnt {a b : Int32} (hr : q_R s) : q_R (q_cnt s a b) := by
  have r : 0 ≤ (s 22).toInt ∧ (s 22).toInt ≤ 100 := hr 22
  have e : (s 22 + 1).toInt = (s 22).toInt + 1 := q_one (by omega) (by omega)
  have o : (100 : Int32).toInt = 100 := rfl
  have k : q_R (pj_u s 22 (if s 22 + 1 < 100 then s 22 + 1 else 100)) := by
    refine q_R_u hr ?_
    show (0 : Int) ≤ _ ∧ _ ≤ (100 : Int)
    by_cases c : s 22 + 1 < 100
    · rw [if_pos c]
      rw [Int32.lt_iff_toInt_lt, o] at c
      omega
    · rw [if_neg c]; decide
  unfold q_cnt
  split
  · split
    · split
      · split
        · exact k
        · exact hr
      · exact hr
    · exact hr
  · exact hr
theorem q_crankP (hI : q_I 0 E W s l x y u v) (hE : E + 16 < 2147483647) : q_Pq 0 (E + 16) W s l x v (pf_X11_crankEdge s l x y) (pf_X12_crank s l u v) := by
  by_cases h0 : s 94 = 0
  · unfold pf_X11_crankEdge po_X11_crankEdge
    rw [q_crank1, if_pos h0, if_pos h0]
    exact ⟨s, l, x, y, u, v, rfl, rfl, q_I_mono hI (by omega) (by omega), rfl, rfl, rfl, rfl, rfl, rfl⟩
  · have hr := hI.1
    have w := hI.2.2.2.1
    have w1 := w.1
    have r6 := w.2.2.2.2.1
    have r7 := w.2.2.2.2.2.1
    have q6 := w.2.2.2.2.2.2.1
    have q7 := w.2.2.2.2.2.2.2.1
    have lt2 : ¬ s 19 = 0 → ¬ s 19 = 1 → ¬ s 19 < 2 := by
      intro a b z
      have r : 0 ≤ (s 19).toInt ∧ (s 19).toInt ≤ 3 := hr 19
      rw [Int32.lt_iff_toInt_lt] at z
      have o : (2 : Int32).toInt = 2 := rfl
      rw [o] at z
      have a : ¬ (s 19).toInt = 0 := fun q => a (by rw [← Int32.toInt_inj, q]; rfl)
      have b : ¬ (s 19).toInt = 1 := fun q => b (by rw [← Int32.toInt_inj, q]; rfl)
      omega
    have hC : pf_X11_crankEdge s l x y = pj_b (pf_X2_hearTooth (l 93) s l x y) q_bh := by
      unfold pf_X11_crankEdge po_X11_crankEdge
      rw [if_neg h0]
      rfl
    rw [hC, q_hear w1.2.1 (fun a b => by rw [Int32.lt_iff_toInt_lt]; exact w.2.1 (lt2 a b)), q_crank1, if_neg h0, q_crank2, w1.1]
    by_cases c0 : s 19 = 0
    · rw [if_pos c0, if_pos c0, q_t116, q_b, q_bh0]
      have nl : pj_u s 19 1 19 < 2 := by rw [q_ua]; decide
      refine ⟨_, _, _, _, _, _, rfl, rfl, q_I_mono (E := E) (W := W) (q_I_to hI h0 (q_R_u hr (by decide)) ?_ (by rw [q_ua]; decide) ?_ (fun _ _ => rfl) ?_ ?_ ?_ ?_ ?_ ?_ ?_ q6 q7 ?_) (by omega) (by omega), ?_, ?_, ?_, ?_, ?_, ?_⟩
      · intro w a b; rw [q_un a]
      · intro w a; rw [q_un (by omega), q_un (by omega)]
      · intro w a; rw [q_un a]
      · rw [q_ua, q_un (by omega), q_ua]; rfl
      · rw [q_un (by omega), q_ua]; decide
      · rw [q_un (by omega), q_ua]; decide
      · intro z; exact absurd nl z
      · rw [q_un (by omega), q_un (by omega)]; exact r6
      · rw [q_un (by omega), q_un (by omega)]; exact r7
      · rw [q_ua, q_sp0 nl, q_sp0 nl]
      · rw [q_un (by omega)]
      · rw [q_un (by omega)]
      · rw [q_un (by omega)]
      · rw [q_un (by omega), q_un (by omega)]
      · rw [q_un (by omega), q_un (by omega)]
      · rw [q_un (by omega)]
    · rw [if_neg c0, if_neg c0]
      obtain ⟨gb1, gb2⟩ := q_gapB hI h0 c0
      generalize q_mx (l 93 - l 20) = g at gb1 gb2
      have mnI := q_mnI g
      have mn1 : 1 ≤ (q_mn g).toInt ∧ (q_mn g).toInt ≤ 1000000 := by rw [mnI]; split <;> omega
      have o3 : (3 : Int64).toInt = 3 := rfl
      have d3 : (g / 3).toInt = g.toInt / 3 := by rw [q_divL (by omega) (by decide), o3]
      have mxI := q_mxI (g / 3)
      have mx1 : 1 ≤ (q_mx (g / 3)).toInt ∧ (q_mx (g / 3)).toInt ≤ 2010000 := by rw [mxI, d3]; split <;> omega
      obtain ⟨a1, a2⟩ := q_3264 (g := q_mn g) (by omega) (by omega)
      obtain ⟨b1, b2⟩ := q_3264 (g := q_mx (g / 3)) (by omega) (by omega)
      obtain ⟨e1, e2⟩ := q_3264 (g := g) (by omega) (by omega)
      by_cases c1 : s 19 = 1
      · rw [if_pos c1, if_pos c1]
        by_cases d : q_gap (x 4).toInt64 g = 0
        · rw [if_pos d, if_pos d, q_t116, q_b, q_bh0]
          have nl : s 19 < 2 := by rw [c1]; decide
          refine ⟨_, _, _, _, _, _, rfl, rfl, q_I_mono (E := E) (W := W) (q_I_to hI h0 hr (fun _ _ _ => rfl) c0 ?_ (fun _ _ => rfl) ?_ ?_ ?_ ?_ ?_ ?_ ?_ q6 q7 ?_) (by omega) (by omega), rfl, rfl, ?_, ?_, ?_, ?_⟩
          · intro w a; rw [q_un (by omega), q_un (by omega)]
          · intro w a; rw [q_un a]
          · rw [q_ua, q_un (by omega), q_ua, a1]
          · rw [q_un (by omega), q_ua, a2]; omega
          · rw [q_un (by omega), q_ua, a2]; omega
          · intro z; exact absurd nl z
          · rw [q_un (by omega), q_un (by omega)]; exact r6
          · rw [q_un (by omega), q_un (by omega)]; exact r7
          · rw [q_ua, q_sp0 nl, q_sp0 nl]
          · rw [q_un (by omega)]
          · rw [q_un (by omega), q_un (by omega)]
          · rw [q_un (by omega), q_un (by omega)]
          · rw [q_un (by omega)]
        · rw [if_neg d, if_neg d, q_t116, q_b, q_bh0]
          refine ⟨_, _, _, _, _, _, rfl, rfl, q_I_mono (E := E) (W := W) (q_I_to hI h0 (q_R_u (q_R_u hr (by decide)) (by decide)) ?_ (by rw [q_un (by omega), q_ua]; decide) ?_ ?_ ?_ ?_ ?_ ?_ ?_ ?_ ?_ ?_ ?_ ?_) (by omega) (by omega), ?_, ?_, ?_, ?_, ?_, ?_⟩
          · intro w a b; rw [q_un (by omega), q_un a]
          · intro w a; rw [q_un (by omega), q_un (by omega), q_un (by omega), q_un (by omega)]
          · intro w a; rw [q_un (by omega), q_un (by omega)]
          · intro w a; rw [q_un a]
          · rw [q_ua, q_un (by omega), q_ua, b1]
          · rw [q_un (by omega), q_ua, b2]; omega
          · rw [q_un (by omega), q_ua, b2]; omega
          · intro z
            rw [q_un (by omega), q_ua, b2]
            refine ⟨by omega, ?_, ?_⟩
            · rw [q_un (by omega), q_un (by omega), q_ua, q_un (by omega), q_ua]
            · rw [q_un (by omega), q_un (by omega), q_un (by omega), q_ua, q_ua]
          · rw [q_un (by omega), q_un (by omega), q_ua]; decide
          · rw [q_un (by omega), q_un (by omega), q_un (by omega), q_ua]; decide
          · rw [q_un (by omega), q_ua]; decide
          · rw [q_ua]; decide
          · rw [q_ua, q_sp_5]
          · rw [q_un (by omega), q_un (by omega)]
          · rw [q_un (by omega), q_un (by omega)]
          · rw [q_un (by omega)]
          · rw [q_un (by omega), q_un (by omega), q_un (by omega), q_un (by omega)]
          · rw [q_un (by omega), q_un (by omega), q_un (by omega), q_un (by omega)]
          · rw [q_un (by omega)]
      · rw [if_neg c1, if_neg c1]
        have l2 := lt2 c0 c1
        obtain ⟨e6, e7⟩ := w.2.2.2.1 l2
        have wrong : q_Pq 0 (E + 16) W s l x v (pj_b (pl_X2_hearTooth_116 2 (pj_u (pj_u s 21 (s 21 + 1)) 19 1) (pj_u l 20 (l 93)) (pj_u x 4 (q_mn g).toInt32) y) q_bh) (pl_X12_crank_316 (q_mn g) s (pj_u l 20 (l 93)) u v) := q_wrong hI h0 hE (q_mn g) (by omega) (by omega)
        have fin : ∀ (s5 x5 u5 : Nat → Int32) (v5 : Nat → Int64), q_I 0 E W s5 (pj_u l 20 (l 93)) (pj_u x5 5 (q_sp s5 x5)) y u5 v5 → s5 19 = s 19 → s5 94 = s 94 → s5 95 = s 95 → x5 1 = x 1 → x5 2 = x 2 → v5 13 = v 13 → q_Pq 0 (E + 16) W s l x v (pj_b (if s5 19 = 3 then pl_X2_hearTooth_116 1 s5 (pj_u l 20 (l 93)) x5 y else pl_X2_hearTooth_116 0 s5 (pj_u l 20 (l 93)) x5 y) q_bh) (if s5 19 = 3 then pl_X12_crank_400 s5 (pj_u l 20 (l 93)) u5 v5 else some ((), s5, pj_u l 20 (l 93), u5, v5)) := by
          intro s5 x5 u5 v5 hJ g19 g94 g95 k1 k2 m13
          have q := q_right hJ (by rw [g94]; exact h0) (by rw [g19]; exact l2) (by rw [q_ua, q_un (by omega)]) rfl
          refine q_Pq_m (E := E) (by omega) (q_Pq_t (s1 := s5) (l1 := pj_u l 20 (l 93)) (x1 := pj_u x5 5 (q_sp s5 x5)) (v1 := v5) ⟨g94, g95, q_un (by omega), by rw [q_un (by omega), k1], by rw [q_un (by omega), k2], m13⟩ (q_Pq_I ?_ rfl q))
          rw [q_t116, q_t116]
          by_cases c3 : s5 19 = 3
          · rw [if_pos c3, if_pos c3, q_b]
          · rw [if_neg c3, if_neg c3, q_b]
        rw [← e6]
        unfold q_rt
        by_cases c57 : x 6 = 57
        · rw [if_pos c57, if_pos c57]
          by_cases d : q_gap (x 4).toInt64 g = 0
          · rw [if_pos d, if_pos d]
            exact wrong
          · rw [if_neg d, if_neg d, q_goOn, if_pos c57, q_b, q_340 (s := pj_u (pj_u s 24 (s 24 + 1)) 25 0) (q_R_u (v := 25) (a := 0) (q_R_u (v := 24) (a := s 24 + 1) hr q_R_any) (by decide))]
            have cn : q_cnt (pj_u (pj_u s 24 (s 24 + 1)) 25 0) (pj_u (pj_u u 4 0) 5 (1 - u 5) 4) (pj_u (pj_u u 4 0) 5 (1 - u 5) 5) = pj_u (pj_u s 24 (s 24 + 1)) 25 0 := q_cnt_n (by rw [q_un (by omega), q_ua]; decide)
            rw [cn]
            have o1 : (1 : Int32).toInt = 1 := rfl
            have f7 : (1 - x 7).toInt = 1 - (x 7).toInt := by rw [q_sub (by rw [o1]; omega) (by rw [o1]; omega), o1]
            have g7 : (1 - u 5).toInt = 1 - (u 5).toInt := by rw [q_sub (by rw [o1]; omega) (by rw [o1]; omega), o1]
            refine fin _ _ _ _ (q_I_to hI h0 (q_R_u (q_R_u hr q_R_any) (by decide)) ?_ ?_ ?_ ?_ ?_ ?_ ?_ ?_ ?_ ?_ ?_ ?_ ?_ ?_) ?_ ?_ ?_ ?_ ?_ ?_
            · intro w a b; rw [q_un (by omega), q_un (by omega)]
            · rw [q_un (by omega), q_un (by omega)]; exact c0
            · intro w a; rw [q_un (by omega), q_un (by omega), q_un (by omega), q_un (by omega)]
            · intro w a; rw [q_un (by omega), q_un (by omega)]
            · intro w a; rw [q_un a]
            · rw [q_ua, q_un (by omega), q_ua, b1]
            · rw [q_un (by omega), q_ua, b2]; omega
            · rw [q_un (by omega), q_ua, b2]; omega
            · intro z
              rw [q_un (by omega), q_ua, b2]
              refine ⟨by omega, ?_, ?_⟩
              · rw [q_un (by omega), q_un (by omega), q_ua, q_un (by omega), q_ua]
              · rw [q_un (by omega), q_un (by omega), q_un (by omega), q_ua, q_ua, e7]
            · rw [q_un (by omega), q_un (by omega), q_ua]; decide
            · rw [q_un (by omega), q_un (by omega), q_un (by omega), q_ua, f7]; omega
            · rw [q_un (by omega), q_ua]; decide
            · rw [q_ua, g7]; omega
            · rw [q_ua, q_sp_5]
            · rw [q_un (by omega), q_un (by omega)]
            · rw [q_un (by omega), q_un (by omega)]
            · rw [q_un (by omega), q_un (by omega)]
            · rw [q_un (by omega), q_un (by omega), q_un (by omega)]
            · rw [q_un (by omega), q_un (by omega), q_un (by omega)]
            · rw [q_un (by omega)]
        · rw [if_neg c57, if_neg c57]
          by_cases d : (x 4).toInt64 < 2 * g
          · rw [if_pos d, if_pos d]
            by_cases d2 : 2 * (x 4).toInt64 < g
            · rw [if_pos d2, if_pos d2, if_pos rfl]
              exact wrong
            · rw [if_neg d2, if_neg d2, if_neg (show ¬ (1 : Int32) = 0 by decide), q_goOn, if_neg c57, q_b, q_340 hr]
              have n57 : ¬ (x 6).toInt = 57 := fun q => c57 (by rw [← Int32.toInt_inj, q]; rfl)
              have f6 : (x 6 + 1).toInt = (x 6).toInt + 1 := q_one (by omega) (by omega)
              have eu4 : pj_u u 4 (x 6 + 1) 4 = x 6 + 1 := q_ua
              have eu5 : pj_u u 4 (x 6 + 1) 5 = x 7 := by rw [q_un (by omega), e7]
              rw [eu4, eu5]
              have eG : (if s 19 = 3 then pl_X12_crank_400 (q_cnt s (x 6 + 1) (x 7)) (pj_u l 20 (l 93)) (pj_u u 4 (x 6 + 1)) (pj_u v 6 g) else some ((), s, pj_u l 20 (l 93), pj_u u 4 (x 6 + 1), pj_u v 6 g)) = (if q_cnt s (x 6 + 1) (x 7) 19 = 3 then pl_X12_crank_400 (q_cnt s (x 6 + 1) (x 7)) (pj_u l 20 (l 93)) (pj_u u 4 (x 6 + 1)) (pj_u v 6 g) else some ((), q_cnt s (x 6 + 1) (x 7), pj_u l 20 (l 93), pj_u u 4 (x 6 + 1), pj_u v 6 g)) := by
                rw [q_cnt_c (by omega)]
                by_cases c3 : s 19 = 3
                · rw [if_pos c3, if_pos c3]
                · rw [if_neg c3, if_neg c3, q_cnt_3 c3]
              rw [eG]
              have l3 : ¬ q_cnt s (x 6 + 1) (x 7) 19 = 0 := by rw [q_cnt_c (by omega)]; exact c0
              refine fin _ _ _ _ (q_I_to hI h0 (q_R_cnt hr) ?_ l3 ?_ ?_ ?_ ?_ ?_ ?_ ?_ ?_ ?_ ?_ ?_ ?_) ?_ ?_ ?_ ?_ ?_ ?_
              · intro w a b; rw [q_cnt_c (by omega)]
              · intro w a; rw [q_un (by omega), q_un (by omega), q_un (by omega)]
              · intro w a; rw [q_un (by omega)]
              · intro w a; rw [q_un a]
              · rw [q_ua, q_un (by omega), q_ua, e1]
              · rw [q_un (by omega), q_ua, e2]; omega
              · rw [q_un (by omega), q_ua, e2]; omega
              · intro z
                rw [q_un (by omega), q_ua, e2]
                refine ⟨by omega, ?_, ?_⟩
                · rw [q_un (by omega), q_un (by omega), q_ua, q_ua]
                · rw [q_un (by omega), q_un (by omega), q_un (by omega), q_un (by omega), e7]
              · rw [q_un (by omega), q_un (by omega), q_ua, f6]; omega
              · rw [q_un (by omega), q_un (by omega), q_un (by omega)]; exact r7
              · rw [q_ua, f6]; omega
              · rw [q_un (by omega)]; exact q7
              · rw [q_ua, q_sp_5]
              · rw [q_cnt_c (by omega)]
              · rw [q_cnt_c (by omega)]
              · rw [q_cnt_c (by omega)]
              · rw [q_un (by omega), q_un (by omega)]
              · rw [q_un (by omega), q_un (by omega)]
              · rw [q_un (by omega)]
          · rw [if_neg d, if_neg d, if_pos rfl]
            exact wrong
end QCT

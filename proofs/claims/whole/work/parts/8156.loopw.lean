/-! PURE: one LOOP, whole -/
section QLR
variable {s x u s' x' u' : Nat → Int32} {l y v l' y' v' : Nat → Int64} {D E W : Int} {t : Int64}
/-- ON-loops as they will be: the class has counted, the reference not yet -/
def q_n13 (s : Nat → Int32) (v : Nat → Int64) : Int64 := if s 94 = 1 then v 13 + 1 else v 13
theorem q_tailB (hI : q_I 0 E W s l x y u v) (h0 : ¬ s 94 = 0) (hK : q_Kl x (pj_u v 13 (q_n13 s v))) (hA : q_Af s) (hW : W + 60 < 2147483647) (h30 : (v 30).toInt * 10000 + 10000 ≤ (l 93).toInt) (h22 : (x 22).toInt + 3 ≤ 3 * (x 1).toInt) : q_Lp E (W + 60) (l 93) (pl_X11_oneLoop_242 s l x y) (pj_b (pf_X12_warmth s l u v) (fun _ s3 l3 x3 y3 => pj_b (pf_X12_mixture s3 l3 x3 y3) (fun _ s4 l4 x4 y4 => (if s4 94 = 1 then pl_X12_loop_156 (x 14) (x 15) (y4 13 + 1) s4 l4 x4 y4 else pl_X12_loop_156 (x 14) (x 15) (y4 13) s4 l4 x4 y4)))) := by
  unfold pl_X11_oneLoop_242
  rw [q_heatC, q_b, q_heatR, q_b]
  obtain ⟨hI1, e94⟩ := q_heatP hI h0
  have e95 : q_ht s 95 = s 95 := by unfold q_ht; rw [q_un (by omega), q_un (by omega), q_un (by omega)]
  generalize q_ht s = s1 at hI1 e94 e95
  obtain ⟨s2, x2, u2, f1, f2, hI2, p94, p95, x21, x22, x214, x215⟩ := q_mixP hI1 (by rw [e94]; exact h0)
  rw [f1, q_b, f2, q_b]
  have p94 : s2 94 = s 94 := by rw [p94, e94]
  have p95 : s2 95 = s 95 := by rw [p95, e95]
  have n2 : ¬ s2 94 = 0 := by rw [p94]; exact h0
  have x222 : x2 22 = x 22 := q_i64 (by rw [← hI2.2.2.1.2.2.2.1.1, ← hI1.2.2.1.2.2.2.1.1])
  have eb : (if s2 94 = 1 then pl_X12_loop_156 (x 14) (x 15) (v 13 + 1) s2 l u2 v else pl_X12_loop_156 (x 14) (x 15) (v 13) s2 l u2 v) = pl_X12_loop_156 (x 14) (x 15) (q_n13 s v) s2 l u2 v := by
    unfold q_n13
    rw [p94]
    by_cases c : s 94 = 1
    · rw [if_pos c, if_pos c]
    · rw [if_neg c, if_neg c]
  rw [eb]
  have hI3 := q_I_13 hI2 n2 (q_n13 s v)
  have e13 : q_n13 s v = (x 2).toInt64 := by have := hK.1; rw [q_ua] at this; exact this
  have lt : (200 : Int32) < x2 2 ↔ (200 : Int64) < q_n13 s v := by
    rw [e13, x22, Int32.lt_iff_toInt_lt, Int64.lt_iff_toInt_lt, Int32.toInt_toInt64]; exact Iff.rfl
  have hA2 : q_Af s2 := by unfold q_Af at hA ⊢; rw [p94, p95]; exact hA
  have hK2 : q_Kl x2 (pj_u v 13 (q_n13 s v)) := by unfold q_Kl at hK ⊢; rw [x21, x22]; exact hK
  have T := fun (b : Int32) (hb : b = 0 ∨ b = 1) => q_tailA hI3 n2 hK2 hA2 hW (by rw [q_un (by omega)]; exact h30) (by rw [x222, x21]; exact h22) hb
  rw [x214, x215] at T
  unfold pl_X12_loop_156 pl_X11_oneLoop_303 pl_X11_oneLoop_299 pl_X12_loop_187 pl_X12_loop_191
  by_cases c : s2 94 = 1
  · rw [if_pos c, if_pos c]
    by_cases d : 200 < x2 2
    · rw [if_pos d, if_pos (lt.mp d)]
      by_cases e : s2 19 < 2
      · rw [if_pos e, if_pos e]; exact T 0 (Or.inl rfl)
      · rw [if_neg e, if_neg e]; exact T 1 (Or.inr rfl)
    · rw [if_neg d, if_neg (fun z => d (lt.mpr z))]; exact T 1 (Or.inr rfl)
  · rw [if_neg c, if_neg c]; exact T 0 (Or.inl rfl)
theorem q_bif {A R : Type} (o : Option (Int32 × pj_Z)) (B : pj_F (R × pj_Z)) (r0 : R) (k : pj_F A) : pj_b o (fun r s l x y => if r = 0 then k s l x y else pj_b (B s l x y) (fun _ s3 l3 x3 y3 => k s3 l3 x3 y3)) = pj_b (pj_b o (fun r s l x y => if r = 0 then some (r0, s, l, x, y) else B s l x y)) (fun _ s3 l3 x3 y3 => k s3 l3 x3 y3) := by
  rw [q_bb]
  congr 1
  funext r s l x y
  by_cases c : r = 0
  · rw [if_pos c, if_pos c, q_b]
  · rw [if_neg c, if_neg c]
theorem q_tailC (hI : q_I 0 E W s l x y u v) (h0 : ¬ s 94 = 0) (hK : q_Kl x (pj_u v 13 (q_n13 s v))) (hA : q_Af s) (hW : W + 60 < 2147483647) (hE : E + 16 < 2147483647) (h30 : (v 30).toInt * 10000 + 10000 ≤ (l 93).toInt) (h22 : (x 22).toInt + 3 ≤ 3 * (x 1).toInt) : q_Lp (E + 16) (W + 60) (l 93) (if s 94 = 1 then pl_X11_oneLoop_198 1 s l x y else pl_X11_oneLoop_198 0 s l x y) (if s 94 = 1 then (if s 29 = 0 then (if s 36 = 0 then pl_X12_loop_115 1 s l u v else pl_X12_loop_114 s l u v) else pl_X12_loop_114 s l u v) else pl_X12_loop_114 s l u v) := by
  have eF : (if s 94 = 1 then pl_X11_oneLoop_198 1 s l x y else pl_X11_oneLoop_198 0 s l x y) = pl_X11_oneLoop_198 (if s 94 = 1 then 1 else 0) s l x y := by
    by_cases c : s 94 = 1
    · rw [if_pos c, if_pos c]
    · rw [if_neg c, if_neg c]
  have eG : (if s 94 = 1 then (if s 29 = 0 then (if s 36 = 0 then pl_X12_loop_115 1 s l u v else pl_X12_loop_114 s l u v) else pl_X12_loop_114 s l u v) else pl_X12_loop_114 s l u v) = pl_X12_loop_115 (q_pw s) s l u v := by
    unfold q_pw pl_X12_loop_114
    by_cases c : s 94 = 1
    · rw [if_pos c, if_pos c]
      by_cases d : s 29 = 0
      · rw [if_pos d, if_pos d]
        by_cases e : s 36 = 0
        · rw [if_pos e, if_pos e]
        · rw [if_neg e, if_neg e]
      · rw [if_neg d, if_neg d]
    · rw [if_neg c, if_neg c]
  rw [eF, eG]
  unfold pl_X11_oneLoop_198 pl_X12_loop_115
  rw [q_lookC, q_b, q_lookR, q_b]
  obtain ⟨hI1, e94⟩ := q_lookP hI h0
  have e95 : q_la s 95 = s 95 := by
    unfold q_la
    split
    · rfl
    · split
      · rw [q_un (by omega)]
      · rw [q_un (by omega), q_un (by omega)]
  have y14 : pj_u (pj_u x 14 (q_pw s)) 15 (q_lim s) 14 = q_pw s := by rw [q_un (by omega), q_ua]
  have y15 : pj_u (pj_u x 14 (q_pw s)) 15 (q_lim s) 15 = q_lim s := q_ua
  have yy : ∀ w, ¬ w = 14 → ¬ w = 15 → pj_u (pj_u x 14 (q_pw s)) 15 (q_lim s) w = x w := fun w a b => by rw [q_un b, q_un a]
  generalize pj_u (pj_u x 14 (q_pw s)) 15 (q_lim s) = x1 at hI1 y14 y15 yy
  generalize q_la s = s1 at hI1 e94 e95
  obtain ⟨s2, l2, x2, y2, u2, v2, f1, f2, hI2, ⟨k94, k93, k1, k2, k22, k13, k30, k95⟩, k14, k15⟩ := q_watchP hI1 (by rw [e94]; exact h0) hE
  rw [q_bif (r0 := ()) (k := pl_X11_oneLoop_242), f1, q_b, f2, q_b]
  have en : q_n13 s2 v2 = q_n13 s v := by unfold q_n13; rw [k94, e94, k13]
  have q := q_tailB hI2 (by rw [k94, e94]; exact h0) (by
      unfold q_Kl at hK ⊢
      rw [en, q_ua, k1, k2, yy _ (by omega) (by omega), yy _ (by omega) (by omega)]
      rw [q_ua] at hK; exact hK) (by unfold q_Af at hA ⊢; rw [k94, k95, e94, e95]; exact hA) hW (by rw [k30, k93]; exact h30) (by rw [k22, k1, yy _ (by omega) (by omega), yy _ (by omega) (by omega)]; exact h22)
  rw [k14, k15, y14, y15, k93] at q
  exact q
theorem q_tailD (hI : q_I 0 E W s l x y u v) (h0 : ¬ s 94 = 0) (a : Int32) (ha : (1 < v 12) ↔ a = 0) (hK : q_Kl x (pj_u v 13 (q_n13 s v))) (hA : q_Af s) (hW : W + 60 < 2147483647) (hE : E + 16 < 2147483647) (h30 : (v 30).toInt * 10000 + 10000 ≤ (l 93).toInt) (h22 : (x 22).toInt + 3 ≤ 3 * (x 1).toInt) : q_Lp (E + 16) (W + 60) (l 93) (pj_b (pf_X9_readPedals s l x y) (fun _ s3 l3 x3 y3 => pj_b (pf_X9_readPlates s3 l3 x3 y3) (fun r4 s4 l4 x4 y4 => (if r4 = 0 then pl_X11_oneLoop_141 a s4 l4 x4 y4 else pl_X11_oneLoop_141 a (pj_u s4 29 1) l4 x4 y4)))) (pl_X12_loop_80 s l u v) := by
  unfold pl_X12_loop_80
  obtain ⟨S1, S2, S4, r, o, f1, f2, f3, f4, hI4, e94, e95⟩ := q_pedP hI h0 a ha
  have n4 : ¬ S4 94 = 0 := by rw [e94]; exact h0
  obtain ⟨T1, T2, T3, p, b, g1, g2, g3, g4, hI5, k94, k95⟩ := q_driveP hI4 n4
  have en : q_n13 T3 v = q_n13 s v := by unfold q_n13; rw [k94, e94]
  have xx : ∀ w, ¬ w = 12 → ¬ w = 13 → pj_u (pj_u x 12 o) 13 p w = x w := fun w a b => by rw [q_un b, q_un a]
  have q := q_tailC hI5 (by rw [k94]; exact n4) (by
      unfold q_Kl at hK ⊢
      rw [en, q_ua, xx _ (by omega) (by omega), xx _ (by omega) (by omega)]
      rw [q_ua] at hK; exact hK) (by unfold q_Af at hA ⊢; rw [k94, k95, e94, e95]; exact hA) hW hE h30 (by rw [xx _ (by omega) (by omega), xx _ (by omega) (by omega)]; exact h22)
  refine q_Lp_I ?_ ?_ q
  · rw [f1, q_b, f2, q_b]
    have z : (if r = 0 then pl_X11_oneLoop_141 a S2 l (pj_u x 12 o) y else pl_X11_oneLoop_141 a (pj_u S2 29 1) l (pj_u x 12 o) y) = pl_X11_oneLoop_141 a (if r = 0 then S2 else pj_u S2 29 1) l (pj_u x 12 o) y := by
      by_cases c : r = 0
      · rw [if_pos c, if_pos c]
      · rw [if_neg c, if_neg c]
    rw [z]
    unfold pl_X11_oneLoop_141
    rw [f3, q_b, g1, q_b, g2, q_b, g3, q_b]
  · rw [f4, q_b, g4, q_b]
end QLR

/-! PURE: one LOOP, from its end to its beginning -/
section QLQ
variable {s x u s' x' u' : Nat → Int32} {l y v l' y' v' : Nat → Int64} {D E W : Int} {t : Int64}
theorem q_i64 {a b : Int32} (h : a.toInt64 = b.toInt64) : a = b := by
  rw [← Int32.toInt_inj, ← Int32.toInt_toInt64, ← Int32.toInt_toInt64, h]
theorem q_I_13 (hI : q_I D E W s l x y u v) (h0 : ¬ s 94 = 0) (a : Int64) : q_I D E W s l x y u (pj_u v 13 a) := by
  obtain ⟨h1, h2, h3, h4, h5, h6, h7, h8, h9, h10, h11, h12, h13, h14⟩ := hI
  refine ⟨h1, h2, q_Ct_c h3 rfl rfl rfl rfl rfl ?_ ?_ ?_ ?_, q_Wl_c h4 rfl rfl rfl rfl rfl rfl rfl rfl rfl rfl rfl ?_, q_Pl_c h5 rfl rfl rfl rfl rfl rfl rfl ?_ ?_, h6, q_Fg_c h7 rfl rfl rfl rfl rfl rfl rfl rfl rfl rfl rfl rfl rfl rfl rfl rfl rfl rfl rfl ?_, h8, q_Rc_c h9 rfl rfl rfl rfl rfl ?_, h10, h11, h12, h13, fun z => absurd z h0⟩
  all_goals rw [q_un (by omega)]
theorem q_tailA (hI : q_I 0 E W s l x y u v) (h0 : ¬ s 94 = 0) (hK : q_Kl x v) (hA : q_Af s) (hW : W + 60 < 2147483647) (h30 : (v 30).toInt * 10000 + 10000 ≤ (l 93).toInt) (h22 : (x 22).toInt + 3 ≤ 3 * (x 1).toInt) {b : Int32} (hb : b = 0 ∨ b = 1) : q_Lp E (W + 60) (l 93) (pl_X11_oneLoop_304 b s l x y) (pl_X12_loop_192 (x 14) (x 15) b s l u v) := by
  unfold pl_X11_oneLoop_304 pl_X12_loop_192
  rw [q_bz hb, q_bz hb]
  have hI1 : q_I 0 E W (pj_u s 96 b) l x y u v := q_I_s hI h0 (q_R_u hI.1 (by rcases hb with z | z <;> rw [z] <;> decide)) (fun w hw => q_un (by unfold q_Ss at hw; omega))
  have e94 : pj_u s 96 b 94 = s 94 := q_un (by omega)
  have e95 : pj_u s 96 b 95 = s 95 := q_un (by omega)
  generalize pj_u s 96 b = s1 at hI1 e94 e95
  obtain ⟨s2, x2, u2, f1, f2, hI2, g1, g2, -⟩ := q_testsP hI1 (by rw [e94]; exact h0)
  have p94 : s2 94 = s 94 := by rw [g1 _ (by omega) (by omega) (by omega), e94]
  have p95 : s2 95 = s 95 := by rw [g1 _ (by omega) (by omega) (by omega), e95]
  obtain ⟨X, s3, x3, u3, f3, f4, f5, hI3, g3, g4⟩ := q_rulesP hI2 (by rw [p94]; exact h0)
  have r94 : s3 94 = s 94 := by rw [g3 _ (by omega), p94]
  have r95 : s3 95 = s 95 := by rw [g3 _ (by omega), p95]
  have x31 : x3 1 = x 1 := by rw [g4 _ (by omega), g2 _ (by omega)]
  have x32 : x3 2 = x 2 := by rw [g4 _ (by omega), g2 _ (by omega)]
  have x322 : x3 22 = x 22 := by rw [g4 _ (by omega), g2 _ (by omega)]
  obtain ⟨s4, l4, x4, u4, v4, f6, f7, hI4, t94, t95, t93, x41, x42, x422, t13⟩ := q_rowP hI3 (by rw [r94]; exact h0) h30
  have n4 : ¬ s4 94 = 0 := by rw [t94, r94]; exact h0
  obtain ⟨hI5, z94, z95⟩ := q_sesI hI4 n4
  have hx4 := hI4.2.2.2.2.2.2.2.2.2.2.2.2.1.2
  have n5 : ¬ q_ses s4 94 = 0 := by rw [z94]; exact n4
  obtain ⟨s6, x6, u6, v6, f8, f9, hI6, w94, w95, x61, x62, w13⟩ := q_busP hI5 n5 (by rw [x422, x41, x322, x31]; exact h22)
  have hK6 : q_Kl x6 v6 := by
    unfold q_Kl at hK ⊢
    rw [w13, x62, x61, t13, x42, x41, x31, x32]; exact hK
  have hA6 : q_Af s6 := by
    unfold q_Af at hA ⊢
    rw [w94, w95, z94, z95, t94, t95, r94, r95]; exact hA
  have n6 : ¬ s6 94 = 0 := by rw [w94]; exact n5
  have q := q_endP hI6 n6 hK6 hA6 hW
  rw [← t93]
  refine q_Lp_I ?_ ?_ q
  · rw [← q_bb, f1, q_b, f3, q_b, f4, q_b, f6, q_b, q_sesC, q_b, f8, q_b]
  · rw [f2, q_b, f5, q_b, f7, q_b]
    rw [q_sesR hx4]
    unfold pl_X12_loop_251
    rw [f9, q_b]
end QLQ

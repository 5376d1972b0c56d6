/-! PURE: the crank's edge: the pair, whole -/
section QCS
variable {s x u s' x' u' : Nat → Int32} {l y v l' y' v' : Nat → Int64} {D E W : Int} {fu f k n c : Nat}
theorem q_sp_5 {a : Int32} : q_sp s (pj_u x 5 a) = q_sp s x := q_sp_c rfl (q_un (by omega))
/-- the tooth is wrong: ALL OFF -/
theorem q_wrong (hI : q_I 0 E W s l x y u v) (h0 : ¬ s 94 = 0) (hE : E + 16 < 2147483647) (m : Int64) (m1 : 0 ≤ m.toInt) (m2 : m.toInt ≤ 1000000) : q_Pq 0 (E + 16) W s l x v (pj_b (pl_X2_hearTooth_116 2 (pj_u (pj_u s 21 (s 21 + 1)) 19 1) (pj_u l 20 (l 93)) (pj_u x 4 m.toInt32) y) (fun r1 s1 l1 x1 y1 => (if r1 = 2 then pj_b (pf_X11_allOff s1 l1 x1 y1) (fun r2 s2 l2 x2 y2 => pl_X11_crankEdge_29 1000 r1 s2 l2 x2 y2) else pl_X11_crankEdge_29 1000 r1 s1 l1 x1 y1))) (pl_X12_crank_316 m s (pj_u l 20 (l 93)) u v) := by
  obtain ⟨c1, c2⟩ := q_3264 (g := m) (by omega) (by omega)
  have w := hI.2.2.2.1
  have nl : pj_u (pj_u s 21 (s 21 + 1)) 19 1 19 < 2 := by rw [q_ua]; decide
  rw [q_t116, q_b, if_pos rfl, q_sp0 nl]
  have c11 := hI.2.2.1.2.2.1
  -- behind the tooth, before ALL OFF
  have hJ : q_I 0 E W (pj_u (pj_u s 21 (s 21 + 1)) 19 1) (pj_u l 20 (l 93)) (pj_u (pj_u x 4 m.toInt32) 5 0) y u (pj_u v 6 m) := by
    refine q_I_to hI h0 (q_R_u (q_R_u hI.1 q_R_any) (by decide)) ?_ (by rw [q_ua]; decide) ?_ (fun _ _ => rfl) ?_ ?_ ?_ ?_ ?_ ?_ ?_ w.2.2.2.2.2.2.1 w.2.2.2.2.2.2.2.1 ?_
    · intro w a b; rw [q_un a, q_un (by omega)]
    · intro w a; rw [q_un (by omega), q_un (by omega)]
    · intro w a; rw [q_un a]
    · rw [q_ua, q_un (by omega), q_ua, c1]
    · rw [q_un (by omega), q_ua, c2]; exact m1
    · rw [q_un (by omega), q_ua, c2]; omega
    · intro z; exact absurd nl z
    · rw [q_un (by omega), q_un (by omega)]; exact w.2.2.2.2.1
    · rw [q_un (by omega), q_un (by omega)]; exact w.2.2.2.2.2.1
    · rw [q_ua, q_sp0 nl]
  have hJ0 : ¬ pj_u (pj_u s 21 (s 21 + 1)) 19 1 94 = 0 := by rw [q_un (by omega), q_un (by omega)]; exact h0
  have oI := q_offI hJ hJ0 hE
  have o1 := (q_offE (s := pj_u (pj_u s 21 (s 21 + 1)) 19 1) (l := pj_u l 20 (l 93)) (x := pj_u (pj_u x 4 m.toInt32) 5 0) (y := y) (u := u) (v := pj_u v 6 m) (by rw [q_un (by omega), q_un (by omega)]; exact c11.2.1) (by rw [q_un (by omega), q_un (by omega)]; omega) (by rw [q_un (by omega), q_un (by omega), q_un (by omega)]; exact c11.1)).1
  have o2 := (q_offE (s := pj_u s 21 (s 21 + 1)) (l := pj_u l 20 (l 93)) (x := x) (y := y) (u := u) (v := v) c11.2.1 (by omega) c11.1).2
  have ex := q_ne_x (s := pj_u (pj_u s 21 (s 21 + 1)) 19 1) (l := pj_u l 20 (l 93)) (x := x) (x' := pj_u (pj_u x 4 m.toInt32) 5 0) (by rw [q_un (by omega), q_un (by omega)])
  rw [ex.1, ex.2.1, ex.2.2] at o1 oI
  rw [q_ne_w (by omega), q_ao_w1 (by omega), q_ao_w2 (by omega)] at o1 oI
  obtain ⟨k1, k2, k3, k4, k5, k6, k7⟩ := q_ao_k (s := pj_u s 21 (s 21 + 1)) (l := pj_u l 20 (l 93)) (x := x) c11.2.1 (by omega)
  have hX : ∀ w, (w < 4000 ∨ 4024 ≤ w) → q_nw (pj_u (pj_u x 4 m.toInt32) 5 0) w = pj_u (pj_u x 4 m.toInt32) 5 0 w := fun w h => q_nw_out h
  clear k2 k3 k4 k6 k7 ex hJ
  generalize (q_ao (pj_u s 21 (s 21 + 1)) (pj_u l 20 (l 93)) x).1 = A at *
  generalize (q_ao (pj_u s 21 (s 21 + 1)) (pj_u l 20 (l 93)) x).2.1 = L at *
  generalize q_ne (pj_u s 21 (s 21 + 1)) (pj_u l 20 (l 93)) x = N at *
  generalize q_nw (pj_u (pj_u x 4 m.toInt32) 5 0) = X at *
  generalize q_nu u = U at *
  unfold pl_X12_crank_316 pl_X11_crankEdge_29
  rw [o1, q_b, if_neg (show ¬ (2 : Int32) = 1 by decide), o2, q_b, q_crank0]
  rw [q_u2 (show ¬ 6 = 3 by omega)] at oI
  refine ⟨_, _, _, _, _, _, rfl, rfl, oI, ?_, ?_, ?_, ?_, ?_, ?_⟩
  · rw [q_un (by omega), k5 _ (by omega) (by omega), q_un (by omega)]
  · rw [q_un (by omega), k5 _ (by omega) (by omega), q_un (by omega)]
  · rw [k1 _ (by omega), q_un (by omega)]
  · rw [q_un (by omega), hX _ (by omega), q_un (by omega), q_un (by omega)]
  · rw [q_un (by omega), hX _ (by omega), q_un (by omega), q_un (by omega)]
  · rw [q_un (by omega), q_un (by omega)]
end QCS

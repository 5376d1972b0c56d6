/-! PURE: the spark and the angles to wait for -/
section QSP
variable {s x u s' x' u' : Nat → Int32} {l y v l' y' v' : Nat → Int64} {D E W : Int} {fu k n c : Nat}
def q_tlR (c : Nat) (s : Nat → Int32) (l : Nat → Int64) (u : Nat → Int32) (v : Nat → Int64) : Option (Unit × pj_Z) := pj_b (pf_X12_topOf (Int32.ofNat c) s l u v) (fun r2 s2 l2 x2 y2 => pj_b (pf_X12_lineValue 12 (s2 34008) s2 l2 x2 y2) (fun r3 s3 l3 x3 y3 => pj_b (pf_X12_down (r3.toInt64 * 60) (y3 6) s3 l3 x3 y3) (fun r4 s4 l4 x4 y4 => (if 1200 < r4 then pl_X12_planOne_228 (Int32.ofNat c) r2 1200 s4 l4 x4 y4 else pl_X12_planOne_228 (Int32.ofNat c) r2 r4 s4 l4 x4 y4))))
theorem q_advP (hI : q_I D E W s l x y u v) (hc : c < 8) : ∃ a : Int32, -100 ≤ a.toInt ∧ a.toInt ≤ 450 ∧ pl_X11_planCylinder_122 (Int32.ofNat c) s l x y = pl_X11_planCylinder_148 (Int32.ofNat c) (pj_u s (8024 + c) a) l x y ∧ pj_b (pf_X12_down (((x 5 - s 27) + 300).toInt64) 4 s l u v) (fun r2 s2 l2 x2 y2 => pj_b (pf_X12_mapValue 1 (x 5) (s2 34004) s2 l2 x2 y2) (fun r3 s3 l3 x3 y3 => pj_g (Int32.ofNat c) 8 (pj_b (pf_X12_cutTo ((s3 2001).toInt64) 0 200 s3 l3 x3 y3) (fun r4 s4 l4 x4 y4 => (if 0 < r2.toInt32 then pl_X12_planOne_155 (Int32.ofNat c) ((r3 - s3 (8000 + (Int32.ofNat c).toNatClampNeg)) - r4.toInt32) r2.toInt32 s4 l4 x4 y4 else pl_X12_planOne_155 (Int32.ofNat c) ((r3 - s3 (8000 + (Int32.ofNat c).toNatClampNeg)) - r4.toInt32) 0 s4 l4 x4 y4))))) = q_tlR c (pj_u s (8024 + c) a) l u v := by
  have hr := hI.1
  have hx5 := q_x5 hI.2.2.2.1
  have r27 : 0 ≤ (s 27).toInt ∧ (s 27).toInt ≤ 9000 := hr 27
  have r8 := q_knR hr hc
  obtain ⟨r, c1, d1, rl, -, rh⟩ := q_mapP (s := s) (l := l) (x := x) (y := y) (u := u) (v := v) (m := 1) (by omega) hI.2.1 hr (x 5) (s 34004)
  have rh := rh rfl
  have c1 : pf_X4_mapValue 1 (x 5) (s 34004) s l x y = some (r, s, l, x, y) := c1
  have d1 : pf_X12_mapValue 1 (x 5) (s 34004) s l u v = some (r, s, l, u, v) := d1
  have o300 : (300 : Int32).toInt = 300 := rfl
  have o4 : (4 : Int32).toInt = 4 := rfl
  have e1 : (x 5 - s 27).toInt = (x 5).toInt - (s 27).toInt := q_sub (by omega) (by omega)
  have e2 : (x 5 - s 27 + 300).toInt = (x 5).toInt - (s 27).toInt + 300 := by rw [q_add (by rw [o300]; omega) (by rw [o300]; omega), e1, o300]
  obtain ⟨g1, g2⟩ := q_fiI (a := x 5 - s 27 + 300) (b := 4) (by decide)
  rw [e2, o4] at g1
  have g2 : q_fd (x 5 - s 27 + 300).toInt64 4 = (q_fi (x 5 - s 27 + 300) 4).toInt64 := g2
  have z4 : ¬ (4 : Int64) = 0 := by decide
  have kk := q_clG (a := (s 2001).toInt64) (lo := 0) (hi := 200) (by decide)
  have kk : 0 ≤ (q_cl (s 2001).toInt64 0 200).toInt ∧ (q_cl (s 2001).toInt64 0 200).toInt ≤ 200 := kk
  have cl2 : ∀ b : Int64, (q_ct b 0 200).toInt32 = q_cl b 0 200 := fun b => q_cut_cl b 0 200
  have cl4 : ∀ b : Int64, (q_ct b (-100) 450).toInt32 = q_cl b (-100) 450 := fun b => q_cut_cl b (-100) 450
  have ac := q_clG (a := ((r - s (8000 + c) - q_cl (s 2001).toInt64 0 200) - (if 0 < q_fi (x 5 - s 27 + 300) 4 then q_fi (x 5 - s 27 + 300) 4 else 0)).toInt64) (lo := -100) (hi := 450) (by decide)
  have fI : pf_J9_floorDiv_7cf53 (x 5 - s 27 + 300) 4 s l x y = some (q_fi (x 5 - s 27 + 300) 4, s, l, x, y) := q_floorI (by decide)
  have fK : pf_X11_clip (s 2001).toInt64 0 200 s l x y = some (q_cl (s 2001).toInt64 0 200, s, l, x, y) := q_clip _ _ _
  have fR : (q_ct (s 2001).toInt64 0 200).toInt32 = q_cl (s 2001).toInt64 0 200 := cl2 _
  generalize q_fi (x 5 - s 27 + 300) 4 = g at g1 g2 ac fI
  generalize q_cl (s 2001).toInt64 0 200 = kx at kk ac fK fR
  have o0 : (0 : Int32).toInt = 0 := rfl
  have s1 : (s (8000 + c) + kx).toInt = (s (8000 + c)).toInt + kx.toInt := q_add (by omega) (by omega)
  have s2 : (r - s (8000 + c)).toInt = r.toInt - (s (8000 + c)).toInt := q_sub (by omega) (by omega)
  have s3 : (r - s (8000 + c) - kx).toInt = r.toInt - (s (8000 + c)).toInt - kx.toInt := by rw [q_sub (by omega) (by omega), s2]
  have t1 : r.toInt64 - (s (8000 + c) + kx).toInt64 = (r - s (8000 + c) - kx).toInt64 := by
    rw [← Int64.toInt_inj, q_subL (by rw [Int32.toInt_toInt64, Int32.toInt_toInt64]; omega) (by rw [Int32.toInt_toInt64, Int32.toInt_toInt64]; omega), Int32.toInt_toInt64, Int32.toInt_toInt64, Int32.toInt_toInt64]
    omega
  have t2 : (r - s (8000 + c) - kx).toInt64 - g.toInt64 = (r - s (8000 + c) - kx - g).toInt64 := q_sub64 (by omega) (by omega)
  have t3 : r - s (8000 + c) - kx - 0 = r - s (8000 + c) - kx := Int32.sub_zero _
  refine ⟨_, ac.1, ac.2, ?_, ?_⟩
  · unfold pl_X11_planCylinder_122 pf_X11_advanceNow pl_X11_advanceNow_85
    rw [q_g (by omega) (by omega), q_onC (by omega), c1, q_b, fI, q_b, fK, q_b, t1, t2]
    by_cases d : 0 < g
    · rw [if_pos d, if_pos d, q_clip, q_b, q_b, q_g (by omega) (by omega)]
    · rw [if_neg d, if_neg d, t3, q_clip, q_b, q_b, q_g (by omega) (by omega)]
  · unfold q_tlR
    rw [q_down z4, q_b, d1, q_b, q_g (by omega) (by omega), q_cut, q_b, q_onC (by omega), g2, Int32.toInt32_toInt64, fR]
    unfold pl_X12_planOne_155
    rw [q_cut, q_cut, q_b, q_b, q_g (by omega) (by omega), q_g (by omega) (by omega), q_onC (by omega), cl4, cl4]
    by_cases d : 0 < g
    · rw [if_pos d, if_pos d]
    · rw [if_neg d, if_neg d]
end QSP

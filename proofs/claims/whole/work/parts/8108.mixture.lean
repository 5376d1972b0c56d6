/-! PURE: the mixture: the pair -/
section QMI
variable {s x u s' x' u' s2 u2 : Nat → Int32} {l y v l' y' v' l2 v2 : Nat → Int64} {D E W : Int}
/-- is the loop closed -/
def q_cd (s : Nat → Int32) (p : Int32) : Int32 := if s 94 = 1 then (if s 19 = 3 then (if s 34005 < s 10013 then 0 else (if s 36007 = 0 then (if s 28 = 0 then (if s 36 = 0 then (if p < 500 then 0 else (if 4500 < p then 0 else (if s 75 = 0 then 1 else 0))) else 0) else 0) else 0)) else 0) else 0
theorem q_cd01 (p : Int32) : q_cd s p = 0 ∨ q_cd s p = 1 := by
  unfold q_cd
  repeat' split
  all_goals first | exact Or.inl rfl | exact Or.inr rfl
/-- relax -/
def q_rx (s : Nat → Int32) : Nat → Int32 := pj_u (pj_u (pj_u s 43 (q_tw (s 43) 0 1)) 41 0) 42 0
theorem q_relax (hr : q_R s) : pf_X3_relax s l x y = some ((), q_rx s, l, x, y) := by
  have a := q_R43 hr
  have w := q_twV (a := s 43) (b := 0) (c := 1) (by omega) (by omega) (by decide) (by decide)
  simp only [Int32.reduceToInt] at w
  have zm : (-1 : Int32).toInt = -1 := rfl
  have z1 : (1 : Int32).toInt = 1 := rfl
  have z0 : (0 : Int32).toInt = 0 := rfl
  have e1 : (s 43 + -1).toInt = (s 43).toInt - 1 := by rw [q_add (by rw [zm]; omega) (by rw [zm]; omega), zm]; omega
  have e2 : (s 43 + 1).toInt = (s 43).toInt + 1 := by rw [q_add (by rw [z1]; omega) (by rw [z1]; omega), z1]
  have e3 : (s 43 + 0).toInt = (s 43).toInt := by rw [q_add (by rw [z0]; omega) (by rw [z0]; omega), z0]; omega
  unfold pf_X3_relax pl_X3_relax_28 q_rx
  split
  · rename_i h
    rw [Int32.lt_iff_toInt_lt, z0] at h
    have e : s 43 + -1 = q_tw (s 43) 0 1 := by
      rw [← Int32.toInt_inj, e1, w]
      repeat' split
      all_goals omega
    rw [e]
  · rename_i h
    rw [Int32.lt_iff_toInt_lt, z0] at h
    split
    · rename_i h2
      rw [Int32.lt_iff_toInt_lt, z0] at h2
      have e : s 43 + 1 = q_tw (s 43) 0 1 := by
        rw [← Int32.toInt_inj, e2, w]
        repeat' split
        all_goals omega
      rw [e]
    · rename_i h2
      rw [Int32.lt_iff_toInt_lt, z0] at h2
      have e : s 43 + 0 = q_tw (s 43) 0 1 := by
        rw [← Int32.toInt_inj, e3, w]
        repeat' split
        all_goals omega
      rw [e]
-- trim: o: the other side; b: by; d: is it rich; c: the cell; f: was it closed; g: the cell before
def q_m1 (s : Nat → Int32) (o : Int32) : Nat → Int32 := pj_u s 41 (if o = 0 then (if s 41 < 1000 then s 41 + 1 else 1000) else 0)
def q_m2 (s : Nat → Int32) (b d : Int32) : Nat → Int32 := pj_u s 43 (q_cl (s 43 + (if d = 0 then b else -b)).toInt64 (-250) 250)
def q_m3 (s : Nat → Int32) (c : Nat) (h : Int32) : Nat → Int32 := if h = 100 then pj_u (pj_u s 42 0) (9000 + c) (q_cl (s (9000 + c) + (if 20 < s 43 then 1 else if s 43 < -20 then -1 else 0)).toInt64 (-100) 100) else pj_u s 42 h
def q_tm (s : Nat → Int32) (f d g : Int32) (c : Nat) (o : Int32) : Nat → Int32 := q_m3 (q_m2 (q_m1 s o) (if o = 0 then s 10012 else 5 * s 10012) d) c (if f = 0 then 0 else if Int32.ofNat c = g then s 42 + 1 else 0)
theorem q_t133 {c : Nat} (hc : c < 16) (d h : Int32) (hd : d = 0 ∨ d = 1) : pl_X3_trim_133 d (Int32.ofNat c) h s l x y = some ((), q_m3 s c h, l, pj_u (pj_u x 16 d) 17 (Int32.ofNat c), y) := by
  have k : ∀ m, pl_X3_trim_177 d (Int32.ofNat c) m (pj_u (pj_u s 42 h) 42 0) l x y = some ((), pj_u (pj_u s 42 0) (9000 + c) (q_cl (s (9000 + c) + m).toInt64 (-100) 100), l, pj_u (pj_u x 16 d) 17 (Int32.ofNat c), y) := by
    intro m
    unfold pl_X3_trim_177 pl_X3_trim_202
    rw [q_uu]
    simp (disch := omega) only [q_g, q_onC, q_clip, q_b, q_bz hd, q_un]
  unfold pl_X3_trim_133 q_m3
  rw [k, k, k]
  unfold pl_X3_trim_202
  rw [q_bz hd]
  by_cases c1 : h = 100
  · simp only [if_pos c1]
    by_cases c2 : 20 < s 43
    · simp only [if_pos c2]
    · simp only [if_neg c2]
      by_cases c3 : s 43 < -20
      · simp only [if_pos c3]
      · simp only [if_neg c3]
  · simp only [if_neg c1]
theorem q_t47 {c : Nat} (hc : c < 16) (hr : q_R s) (f d o b : Int32) (hd : d = 0 ∨ d = 1) : pl_X3_trim_47 f d (Int32.ofNat c) o b s l x y = some ((), q_m3 (q_m2 (q_m1 s o) b d) c (if f = 0 then 0 else if Int32.ofNat c = x 17 then s 42 + 1 else 0), l, pj_u (pj_u x 16 d) 17 (Int32.ofNat c), y) := by
  have a := q_R41 hr
  have e : (s 41 + 1).toInt = (s 41).toInt + 1 := q_add (by simp only [Int32.reduceToInt]; omega) (by simp only [Int32.reduceToInt]; omega)
  have e2 : (if s 41 + 1 < 1000 then s 41 + 1 else 1000) = (if s 41 < 1000 then s 41 + 1 else 1000) := by
    rw [← Int32.toInt_inj]
    simp only [q_ifI, Int32.lt_iff_toInt_lt, e, Int32.reduceToInt]
    omega
  have k1 : ∀ (z : Int32) (s : Nat → Int32), pl_X3_trim_98 f d (Int32.ofNat c) z.toInt64 s l x y = some ((), q_m3 (pj_u s 43 (q_cl z.toInt64 (-250) 250)) c (if f = 0 then 0 else if Int32.ofNat c = x 17 then s 42 + 1 else 0), l, pj_u (pj_u x 16 d) 17 (Int32.ofNat c), y) := by
    intro z s
    unfold pl_X3_trim_98 pl_X3_trim_132
    rw [q_clip, q_b, q_t133 hc _ _ hd, q_t133 hc _ _ hd]
    split
    · rfl
    · split <;> rfl
  have k2 : ∀ b1, pl_X3_trim_71 f d (Int32.ofNat c) b b1 s l x y = some ((), q_m3 (q_m2 (pj_u s 41 b1) b d) c (if f = 0 then 0 else if Int32.ofNat c = x 17 then s 42 + 1 else 0), l, pj_u (pj_u x 16 d) 17 (Int32.ofNat c), y) := by
    intro b1
    unfold pl_X3_trim_71 q_m2
    rw [k1, k1, Int32.sub_eq_add_neg, q_un (f := s) (w := 43) (by omega), q_un (f := s) (w := 42) (by omega)]
    split <;> rfl
  unfold pl_X3_trim_47 q_m1
  rw [q_min, q_b, e2, k2, k2]
  split <;> rfl
/-- the other side? -/
def q_os (f d g : Int32) : Int32 := if f = 0 then 0 else if d = g then 0 else 1
theorem q_trimC {c : Nat} (hc : c < 16) (hr : q_R s) (f d : Int32) (hd : d = 0 ∨ d = 1) : pf_X3_trim f d (Int32.ofNat c) (s 10012) s l x y = some ((), q_tm s f d (x 17) c (q_os f d (x 16)), l, pj_u (pj_u x 16 d) 17 (Int32.ofNat c), y) := by
  have n1 : ¬ (1 : Int32) = 0 := by decide
  have c16 : Int32.ofNat c < 16 := by rw [q_onltL (by omega) (by omega)]; exact hc
  unfold pf_X3_trim pl_X3_trim_30 pl_X3_trim_31 q_tm q_os
  rw [if_neg (q_onnn (by omega)), if_pos c16, if_pos rfl, if_neg n1, q_t47 hc hr _ _ _ _ hd, q_t47 hc hr _ _ _ _ hd]
  by_cases c1 : f = 0
  · simp only [if_pos c1, if_true]
  · simp only [if_neg c1]
    by_cases c2 : d = x 16
    · simp only [if_pos c2, if_true]
    · simp only [if_neg c2, if_neg n1]
theorem q_mixC (hr : q_R s) (h5 : 0 ≤ (x 5).toInt) : pf_X11_trimMixture s l x y = if q_cd s (x 5) = 0 then some ((), q_rx (pj_u s 40 0), l, x, y) else some ((), q_tm (pj_u s 40 1) (s 40) (if 450 < s 34007 then 1 else 0) (x 17) (q_ca (x 5) (s 34004)).toNatClampNeg (q_os (s 40) (if 450 < s 34007 then 1 else 0) (x 16)), l, pj_u (pj_u x 16 (if 450 < s 34007 then 1 else 0)) 17 (q_ca (x 5) (s 34004)), y) := by
  have n1 : ¬ (1 : Int32) = 0 := by decide
  have r0 : q_R (pj_u s 40 0) := q_R_u hr (by decide)
  have r1 : q_R (pj_u s 40 1) := q_R_u hr (by decide)
  have cv := q_caV (x 5) (s 34004) h5
  obtain ⟨c, ec, hc1, hc2⟩ := q_nat (a := q_ca (x 5) (s 34004)) cv.1
  have ec2 : (q_ca (x 5) (s 34004)).toNatClampNeg = c := by rw [ec, q_onC hc2]
  have m0 : pl_X11_trimMixture_127 (s 40) 0 s l x y = some ((), q_rx (pj_u s 40 0), l, x, y) := by
    unfold pl_X11_trimMixture_127
    rw [q_bz0, if_pos rfl, q_relax r0, q_b]
  have k : ∀ d, (d = 0 ∨ d = 1) → pl_X11_trimMixture_166 (s 40) d (pj_u s 40 1) l x y = some ((), q_tm (pj_u s 40 1) (s 40) d (x 17) c (q_os (s 40) d (x 16)), l, pj_u (pj_u x 16 d) 17 (q_ca (x 5) (s 34004)), y) := by
    intro d hd
    unfold pl_X11_trimMixture_166
    rw [q_cellC, q_b, q_un (f := s) (w := 34004) (by omega), ec, q_trimC (by omega) r1 _ _ hd, q_b]
  have m1 : pl_X11_trimMixture_127 (s 40) 1 s l x y = some ((), q_tm (pj_u s 40 1) (s 40) (if 450 < s 34007 then 1 else 0) (x 17) c (q_os (s 40) (if 450 < s 34007 then 1 else 0) (x 16)), l, pj_u (pj_u x 16 (if 450 < s 34007 then 1 else 0)) 17 (q_ca (x 5) (s 34004)), y) := by
    unfold pl_X11_trimMixture_127
    rw [q_bz1, if_neg n1, k 0 (Or.inl rfl), k 1 (Or.inr rfl)]
    split <;> rfl
  rw [ec2]
  unfold pf_X11_trimMixture pl_X11_trimMixture_126 q_cd
  rw [m0, m1]
  by_cases c1 : s 94 = 1
  · simp only [if_pos c1]
    by_cases c2 : s 19 = 3
    · simp only [if_pos c2]
      by_cases c3 : s 34005 < s 10013
      · simp only [if_pos c3, if_true]
      · simp only [if_neg c3]
        by_cases c4 : s 36007 = 0
        · simp only [if_pos c4]
          by_cases c5 : s 28 = 0
          · simp only [if_pos c5]
            by_cases c6 : s 36 = 0
            · simp only [if_pos c6]
              by_cases c7 : x 5 < 500
              · simp only [if_pos c7, if_true]
              · simp only [if_neg c7]
                by_cases c8 : 4500 < x 5
                · simp only [if_pos c8, if_true]
                · simp only [if_neg c8]
                  by_cases c9 : s 75 = 0
                  · simp only [if_pos c9, if_neg n1]
                  · simp only [if_neg c9, if_true]
            · simp only [if_neg c6, if_true]
          · simp only [if_neg c5, if_true]
        · simp only [if_neg c4, if_true]
    · simp only [if_neg c2, if_true]
  · simp only [if_neg c1, if_true]
-- reference
theorem q_m276 {c : Nat} (hc : c < 16) (h : Int32) : pl_X12_mixture_276 (Int32.ofNat c) h s l u v = some ((), q_m3 s c h, l, pj_u u 16 (Int32.ofNat c), v) := by
  have k : ∀ m, pl_X12_mixture_325 (Int32.ofNat c) m (pj_u (pj_u s 42 h) 42 0) l (pj_u u 16 (Int32.ofNat c)) v = some ((), pj_u (pj_u s 42 0) (9000 + c) (q_cl (s (9000 + c) + m).toInt64 (-100) 100), l, pj_u u 16 (Int32.ofNat c), v) := by
    intro m
    have z : (q_ct (s (9000 + c) + m).toInt64 (-100) 100).toInt32 = q_cl (s (9000 + c) + m).toInt64 (-100) 100 := q_cut_cl _ (-100) 100
    unfold pl_X12_mixture_325
    rw [q_uu]
    simp (disch := omega) only [q_g, q_onC, q_cut, q_b, q_un, z]
  unfold pl_X12_mixture_276 q_m3
  rw [k, k, k]
  by_cases c1 : h = 100
  · simp only [if_pos c1]
    by_cases c2 : 20 < s 43
    · simp only [if_pos c2]
    · simp only [if_neg c2]
      by_cases c3 : s 43 < -20
      · simp only [if_pos c3]
      · simp only [if_neg c3]
  · simp only [if_neg c1]
theorem q_m214 {c : Nat} (hc : c < 16) (f d b : Int32) (hd : d = 0 ∨ d = 1) : pl_X12_mixture_214 f (Int32.ofNat c) d b s l u v = some ((), q_m3 (q_m2 s b d) c (if f = 0 then 0 else if Int32.ofNat c = u 16 then s 42 + 1 else 0), l, pj_u (pj_u u 15 d) 16 (Int32.ofNat c), v) := by
  have k : ∀ z u, pl_X12_mixture_238 f (Int32.ofNat c) (s 43) z s l u v = some ((), q_m3 (pj_u s 43 (q_cl (s 43 + z).toInt64 (-250) 250)) c (if f = 0 then 0 else if Int32.ofNat c = u 16 then s 42 + 1 else 0), l, pj_u u 16 (Int32.ofNat c), v) := by
    intro z u
    have e : (q_ct (s 43 + z).toInt64 (-250) 250).toInt32 = q_cl (s 43 + z).toInt64 (-250) 250 := q_cut_cl _ (-250) 250
    unfold pl_X12_mixture_238 pl_X12_mixture_275
    rw [q_cut, q_b, e, q_m276 hc, q_m276 hc]
    split
    · rfl
    · split <;> rfl
  unfold pl_X12_mixture_214 q_m2
  rw [q_bz hd, k, k, q_un (f := u) (by omega)]
  split <;> rfl
theorem q_m150 {c : Nat} (hc : c < 16) (f d : Int32) (hd : d = 0 ∨ d = 1) : pl_X12_mixture_150 f (Int32.ofNat c) d s l u v = some ((), q_tm s f d (u 16) c (q_os f d (u 15)), l, pj_u (pj_u u 15 d) 16 (Int32.ofNat c), v) := by
  have n1 : ¬ (1 : Int32) = 0 := by decide
  have k : ∀ b, pl_X12_mixture_188 f (Int32.ofNat c) d b s l u v = some ((), q_m3 (q_m2 (q_m1 s 0) b d) c (if f = 0 then 0 else if Int32.ofNat c = u 16 then s 42 + 1 else 0), l, pj_u (pj_u u 15 d) 16 (Int32.ofNat c), v) := by
    intro b
    unfold pl_X12_mixture_188 pl_X12_mixture_211 q_m1
    rw [q_m214 hc _ _ _ hd, q_m214 hc _ _ _ hd, q_un (f := s) (w := 42) (by omega), q_un (f := s) (w := 42) (by omega), if_pos rfl]
    split <;> rfl
  unfold pl_X12_mixture_150 q_tm q_os
  rw [k, q_m214 hc _ _ _ hd, q_un (f := s) (w := 42) (by omega)]
  by_cases c1 : f = 0
  · simp only [if_pos c1, if_true]
  · simp only [if_neg c1]
    by_cases c2 : d = u 15
    · simp only [if_pos c2, if_true]
    · simp only [if_neg c2, if_neg n1]
      rfl
theorem q_mixR (hr : q_R s) (hw : q_Wl D s l x u v) : pf_X12_mixture s l u v = if q_cd s (x 5) = 0 then some ((), q_rx (pj_u s 40 0), l, u, v) else some ((), q_tm (pj_u s 40 1) (s 40) (if 450 < s 34007 then 1 else 0) (u 16) (q_ca (x 5) (s 34004)).toNatClampNeg (q_os (s 40) (if 450 < s 34007 then 1 else 0) (u 15)), l, pj_u (pj_u u 15 (if 450 < s 34007 then 1 else 0)) 16 (q_ca (x 5) (s 34004)), v) := by
  have n1 : ¬ (1 : Int32) = 0 := by decide
  have h5 := (q_x5 hw).1
  have cv := q_caV (x 5) (s 34004) h5
  obtain ⟨c, ec, hc1, hc2⟩ := q_nat (a := q_ca (x 5) (s 34004)) cv.1
  have ec2 : (q_ca (x 5) (s 34004)).toNatClampNeg = c := by rw [ec, q_onC hc2]
  have m0 : pl_X12_mixture_98 (s 40) (Int32.ofNat c) 0 s l u v = some ((), q_rx (pj_u s 40 0), l, u, v) := by
    unfold pl_X12_mixture_98 q_rx
    rw [q_bz0, if_pos rfl, q_toward, q_b, q_un (f := s) (w := 43) (by omega)]
  have m1 : pl_X12_mixture_98 (s 40) (Int32.ofNat c) 1 s l u v = some ((), q_tm (pj_u s 40 1) (s 40) (if 450 < s 34007 then 1 else 0) (u 16) c (q_os (s 40) (if 450 < s 34007 then 1 else 0) (u 15)), l, pj_u (pj_u u 15 (if 450 < s 34007 then 1 else 0)) 16 (Int32.ofNat c), v) := by
    unfold pl_X12_mixture_98
    rw [q_bz1, if_neg n1, q_m150 (by omega) _ _ (Or.inl rfl), q_m150 (by omega) _ _ (Or.inr rfl)]
    split <;> rfl
  rw [ec2]
  unfold pf_X12_mixture pl_X12_mixture_97 q_cd
  rw [q_spd hw rfl rfl, q_b, q_cellR hw rfl rfl, q_b, ec, m0, m1]
  by_cases c1 : s 94 = 1
  · simp only [if_pos c1]
    by_cases c2 : s 19 = 3
    · simp only [if_pos c2]
      by_cases c3 : s 34005 < s 10013
      · simp only [if_pos c3, if_true]
      · simp only [if_neg c3]
        by_cases c4 : s 36007 = 0
        · simp only [if_pos c4]
          by_cases c5 : s 28 = 0
          · simp only [if_pos c5]
            by_cases c6 : s 36 = 0
            · simp only [if_pos c6]
              by_cases c7 : x 5 < 500
              · simp only [if_pos c7, if_true]
              · simp only [if_neg c7]
                by_cases c8 : 4500 < x 5
                · simp only [if_pos c8, if_true]
                · simp only [if_neg c8]
                  by_cases c9 : s 75 = 0
                  · simp only [if_pos c9, if_neg n1]
                  · simp only [if_neg c9, if_true]
            · simp only [if_neg c6, if_true]
          · simp only [if_neg c5, if_true]
        · simp only [if_neg c4, if_true]
    · simp only [if_neg c2, if_true]
  · simp only [if_neg c1, if_true]
theorem q_m3_out {w : Nat} {h : Int32} {c : Nat} (hc : c < 16) (hw : w < 42 ∨ (42 < w ∧ w < 9000) ∨ 9016 ≤ w) : q_m3 s c h w = s w := by
  unfold q_m3
  split
  · rw [q_un (by omega), q_un (by omega)]
  · rw [q_un (by omega)]
theorem q_tm_out {w : Nat} {f d g o : Int32} {c : Nat} (hc : c < 16) (h : w < 41 ∨ (43 < w ∧ w < 9000) ∨ 9016 ≤ w) : q_tm s f d g c o w = s w := by
  unfold q_tm
  rw [q_m3_out hc (by omega)]
  unfold q_m2 q_m1
  rw [q_un (by omega), q_un (by omega)]
theorem q_R_m3 {h : Int32} {c : Nat} (hc : c < 16) (hr : q_R s) (hh : 0 ≤ h.toInt ∧ h.toInt ≤ 100) : q_R (q_m3 s c h) := by
  unfold q_m3
  split
  · refine q_R_u (q_R_u hr (by decide)) ?_
    have z : q_rg (9000 + c) = (-100, 100) := by
      unfold q_rg
      rw [show (9000 + c) / 1000 = 9 by omega]
      rfl
    rw [z]
    exact q_clI (by decide)
  · rename_i n
    refine q_R_u hr ?_
    rw [← Int32.toInt_inj] at n
    simp only [Int32.reduceToInt] at n
    exact (by omega : 0 ≤ h.toInt ∧ h.toInt ≤ 99)
theorem q_R_tm {f d g o : Int32} {c : Nat} (hc : c < 16) (hr : q_R s) : q_R (q_tm s f d g c o) := by
  have a := q_R41 hr
  have b := q_R42 hr
  have e : (s 41 + 1).toInt = (s 41).toInt + 1 := q_add (by simp only [Int32.reduceToInt]; omega) (by simp only [Int32.reduceToInt]; omega)
  have e2 : (s 42 + 1).toInt = (s 42).toInt + 1 := q_add (by simp only [Int32.reduceToInt]; omega) (by simp only [Int32.reduceToInt]; omega)
  have r1 : q_R (q_m1 s o) := by
    refine q_R_u hr ?_
    show 0 ≤ (if o = 0 then (if s 41 < 1000 then s 41 + 1 else 1000) else 0).toInt ∧ (if o = 0 then (if s 41 < 1000 then s 41 + 1 else 1000) else 0).toInt ≤ 1000
    simp only [q_ifI, Int32.lt_iff_toInt_lt, e, Int32.reduceToInt]
    repeat' split
    all_goals omega
  have hh : 0 ≤ (if f = 0 then 0 else if Int32.ofNat c = g then s 42 + 1 else 0).toInt ∧ (if f = 0 then 0 else if Int32.ofNat c = g then s 42 + 1 else 0).toInt ≤ 100 := by
    split
    · decide
    · split
      · rw [e2]; omega
      · decide
  unfold q_tm
  exact q_R_m3 hc (q_R_u r1 (q_clI (by decide))) hh
theorem q_mixP (hI : q_I D E W s l x y u v) (h0 : ¬ s 94 = 0) : ∃ s' x' u', pf_X11_trimMixture s l x y = some ((), s', l, x', y) ∧ pf_X12_mixture s l u v = some ((), s', l, u', v) ∧ q_I D E W s' l x' y u' v ∧ s' 94 = s 94 ∧ s' 95 = s 95 ∧ x' 1 = x 1 ∧ x' 2 = x 2 ∧ x' 14 = x 14 ∧ x' 15 = x 15 := by
  have hr := hI.1
  have hw := hI.2.2.2.1
  have hf := hI.2.2.2.2.2.2.1
  have h5 := (q_x5 hw).1
  have cv := q_caV (x 5) (s 34004) h5
  have cn : (q_ca (x 5) (s 34004)).toNatClampNeg < 16 := by
    have := q_clampI cv.1
    omega
  rw [q_mixC hr h5, q_mixR hr hw]
  by_cases c : q_cd s (x 5) = 0
  · rw [if_pos c, if_pos c]
    have o : ∀ w, (w < 40 ∨ 43 < w) → q_rx (pj_u s 40 0) w = s w := by
      intro w hw
      unfold q_rx
      rw [q_un (by omega), q_un (by omega), q_un (by omega), q_un (by omega)]
    have o40 : q_rx (pj_u s 40 0) 40 = 0 := by
      unfold q_rx
      rw [q_un (by omega), q_un (by omega), q_un (by omega), q_ua]
    have a := q_R43 hr
    have w := q_twV (a := s 43) (b := 0) (c := 1) (by omega) (by omega) (by decide) (by decide)
    simp only [Int32.reduceToInt] at w
    refine ⟨_, _, _, rfl, rfl, q_I_g hI h0 ?_ ?_ ?_ (fun _ _ _ => rfl) (fun _ _ => rfl) (fun _ _ _ => rfl) (fun _ _ => rfl) (q_Ld_i (o 70 (by omega)) (fun j _ => o _ (by omega)) rfl), o 94 (by omega), o 95 (by omega), rfl, rfl, rfl, rfl⟩
    · unfold q_rx
      refine q_R_u (q_R_u (q_R_u (q_R_u hr (by decide)) ?_) (by decide)) (by decide)
      rw [q_un (by omega), w]
      show -250 ≤ _ ∧ _ ≤ 250
      repeat' split
      all_goals omega
    · unfold q_Fg
      rw [o40, o 62 (by omega), o 67 (by omega), o 70 (by omega)]
      exact ⟨hf.1, fun z => absurd rfl z, hf.2.2⟩
    · intro w hw hn
      unfold q_Ss at hw
      exact o w (by omega)
  · rw [if_neg c, if_neg c]
    have o : ∀ f d g o w, (w < 40 ∨ (43 < w ∧ w < 9000) ∨ 9016 ≤ w) → q_tm (pj_u s 40 1) f d g (q_ca (x 5) (s 34004)).toNatClampNeg o w = s w := by
      intro f d g o w hw
      rw [q_tm_out cn (by omega), q_un (by omega)]
    have o40 : ∀ f d g o, q_tm (pj_u s 40 1) f d g (q_ca (x 5) (s 34004)).toNatClampNeg o 40 = 1 := by
      intro f d g o
      rw [q_tm_out cn (by omega), q_ua]
    -- both give the same
    have e : q_tm (pj_u s 40 1) (s 40) (if 450 < s 34007 then 1 else 0) (u 16) (q_ca (x 5) (s 34004)).toNatClampNeg (q_os (s 40) (if 450 < s 34007 then 1 else 0) (u 15)) = q_tm (pj_u s 40 1) (s 40) (if 450 < s 34007 then 1 else 0) (x 17) (q_ca (x 5) (s 34004)).toNatClampNeg (q_os (s 40) (if 450 < s 34007 then 1 else 0) (x 16)) := by
      by_cases z : s 40 = 0
      · unfold q_tm q_os
        simp only [if_pos z]
      · rw [(hf.2.1 z).1, (hf.2.1 z).2]
    rw [e]
    refine ⟨_, _, _, rfl, rfl, q_I_g hI h0 (q_R_tm cn (q_R_u hr (by decide))) ?_ ?_ ?_ (fun _ _ => rfl) ?_ (fun _ _ => rfl) (q_Ld_i (o _ _ _ _ 70 (by omega)) (fun j _ => o _ _ _ _ _ (by omega)) ?_), o _ _ _ _ 94 (by omega), o _ _ _ _ 95 (by omega), ?_, ?_, ?_, ?_⟩
    · unfold q_Fg
      rw [o40, o _ _ _ _ 62 (by omega), o _ _ _ _ 67 (by omega), o _ _ _ _ 70 (by omega)]
      simp (disch := omega) only [q_un, q_ua]
      exact ⟨hf.1, fun _ => ⟨trivial, trivial⟩, hf.2.2⟩
    · intro w hw hn
      unfold q_Ss at hw
      exact o _ _ _ _ w (by omega)
    · intro w hw hn
      rw [q_un (by omega), q_un (by omega)]
    · intro w hw hn
      rw [q_un (by omega), q_un (by omega)]
    all_goals rw [q_un (by omega), q_un (by omega)]
end QMI

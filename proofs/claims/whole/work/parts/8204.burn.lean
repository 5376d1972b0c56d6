/-! PURE: the wheel is pushed: the pair; run -/
section QBN
variable {s x u s' x' u' : Nat → Int32} {l y v l' y' v' : Nat → Int64} {D E W : Int} {fu f k n c : Nat} {t : Int64} {a b : Int32}
theorem q_burnR (hr : q_R s) (hc : c < 8) (K : Int32 → pj_F (Unit × pj_Z)) : pj_g (Int32.ofNat c) 8 ((if s (23000 + (Int32.ofNat c).toNatClampNeg) = 0 then pl_X12_burn_90 fu K (Int32.ofNat c) s l u v else pj_g (Int32.ofNat c) 8 ((if s (24000 + (Int32.ofNat c).toNatClampNeg) = 0 then pl_X12_burn_90 fu K (Int32.ofNat c) s l u v else pj_g (Int32.ofNat c) 8 ((if s (25000 + (Int32.ofNat c).toNatClampNeg) < 12000 then pj_g (Int32.ofNat c) 8 (pl_X12_burn_74 fu K (Int32.ofNat c) (s 46) (s (25000 + (Int32.ofNat c).toNatClampNeg)) s l u v) else pl_X12_burn_74 fu K (Int32.ofNat c) (s 46) 12000 s l u v)))))) = K (Int32.ofNat (c + 1)) (q_bs s c) l u v := by
  have gc : ∀ {A : Type} (K : Option A), pj_g (Int32.ofNat c) 8 K = K := fun K => q_g (by omega) (by omega)
  have ej : Int32.ofNat c + 1 = Int32.ofNat (c + 1) := q_onaL c 1
  have cl9 : ∀ b : Int64, (q_ct b 0 9000).toInt32 = q_cl b 0 9000 := fun b => q_cut_cl b 0 9000
  have r : 0 ≤ (s 46).toInt ∧ (s 46).toInt ≤ 9000 := hr 46
  have o9 : (9000 : Int32).toInt = 9000 := rfl
  have b90 : ∀ (S : Nat → Int32), pl_X12_burn_90 fu K (Int32.ofNat c) S l u v = K (Int32.ofNat (c + 1)) (pj_u (pj_u S (23000 + c) 0) (24000 + c) 0) l u v := by
    intro S
    unfold pl_X12_burn_90 pl_X12_burn_104
    rw [gc, gc, q_onC (by omega), ej]
  have same : pj_u s 46 (s 46) = s := q_uv rfl
  have z := q_64 hr hc
  have b74 : ∀ q : Int32, 0 ≤ (q / 64).toInt → (q / 64).toInt ≤ 187 → pl_X12_burn_74 fu K (Int32.ofNat c) (s 46) q s l u v = K (Int32.ofNat (c + 1)) (pj_u (pj_u (pj_u s 46 (if 9000 < s 46 + q / 64 then 9000 else s 46 + q / 64)) (23000 + c) 0) (24000 + c) 0) l u v := by
    intro q h1 h2
    unfold pl_X12_burn_74
    rw [q_cut, q_b, cl9, b90]
    have e : (s 46 + q / 64).toInt = (s 46).toInt + (q / 64).toInt := q_add (by omega) (by omega)
    have m : q_cl (s 46 + q / 64).toInt64 0 9000 = if 9000 < s 46 + q / 64 then 9000 else s 46 + q / 64 := by
      unfold q_cl
      rw [if_neg]
      · by_cases d : (9000 : Int32) < s 46 + q / 64
        · rw [if_pos d, if_pos]
          rw [Int64.lt_iff_toInt_lt, Int32.toInt_toInt64, Int32.toInt_toInt64]
          rw [Int32.lt_iff_toInt_lt] at d
          exact d
        · rw [if_neg d, if_neg, Int32.toInt32_toInt64]
          rw [Int64.lt_iff_toInt_lt, Int32.toInt_toInt64, Int32.toInt_toInt64]
          rw [Int32.lt_iff_toInt_lt] at d
          exact d
      · rw [Int64.lt_iff_toInt_lt, Int32.toInt_toInt64, Int32.toInt_toInt64]
        have : (0 : Int32).toInt = 0 := rfl
        omega
    rw [m]
  simp only [gc, q_onC (show c < 2147483648 by omega)]
  unfold q_bs q_bu
  by_cases c1 : s (23000 + c) = 0
  · rw [if_pos c1, if_pos c1, b90, same]
  · rw [if_neg c1, if_neg c1]
    by_cases c2 : s (24000 + c) = 0
    · rw [if_pos c2, if_pos c2, b90, same]
    · rw [if_neg c2, if_neg c2]
      by_cases d : s (25000 + c) < 12000
      · rw [if_pos d] at z
        rw [if_pos d, if_pos d, b74 _ z.1 z.2]
      · rw [if_neg d] at z
        rw [if_neg d, if_neg d, b74 _ z.1 z.2]
def q_slw (s : Nat → Int32) : Nat → Int32 := if pj_rem (s 45) 10 = 0 then pj_u s 46 (if 0 < s 46 - (s 46 / 64 + s 47 / 4) then s 46 - (s 46 / 64 + s 47 / 4) else 0) else s
theorem q_slwI (hr : q_R s) : (s 46 - (s 46 / 64 + s 47 / 4)).toInt ≤ 9000 := by
  have r : 0 ≤ (s 46).toInt ∧ (s 46).toInt ≤ 9000 := hr 46
  have r7 : 0 ≤ (s 47).toInt ∧ (s 47).toInt ≤ 400 := hr 47
  have o4 : (4 : Int32).toInt = 4 := rfl
  have o6 : (64 : Int32).toInt = 64 := rfl
  have e1 : (s 46 / 64).toInt = (s 46).toInt / 64 := by rw [q_divI (by omega) (by decide), o6]
  have e2 : (s 47 / 4).toInt = (s 47).toInt / 4 := by rw [q_divI (by omega) (by decide), o4]
  have e3 : (s 46 / 64 + s 47 / 4).toInt = (s 46).toInt / 64 + (s 47).toInt / 4 := by rw [q_add (by omega) (by omega), e1, e2]
  rw [q_sub (by omega) (by omega), e3]
  omega
theorem q_R_slw (hr : q_R s) : q_R (q_slw s) := by
  unfold q_slw
  by_cases c : pj_rem (s 45) 10 = 0
  · rw [if_pos c]
    refine q_R_u hr ?_
    show (0 : Int) ≤ _ ∧ _ ≤ (9000 : Int)
    have z := q_slwI hr
    by_cases d : 0 < s 46 - (s 46 / 64 + s 47 / 4)
    · rw [if_pos d]
      rw [Int32.lt_iff_toInt_lt] at d
      have o : (0 : Int32).toInt = 0 := rfl
      rw [o] at d
      omega
    · rw [if_neg d]; decide
  · rw [if_neg c]; exact hr
theorem q_slwC : pl_X11_pushWheel_62 fu s l x y = some ((), q_slw s, l, x, y) := by
  unfold pl_X11_pushWheel_62 q_slw pf_X5_slowDown pf_J9_max_7cf53
  by_cases c : pj_rem (s 45) 10 = 0
  · rw [if_pos c, if_pos c]
    by_cases d : 0 < s 46 - (s 46 / 64 + s 47 / 4)
    · rw [if_pos d, if_pos d, q_b, q_b]
    · rw [if_neg d, if_neg d, q_b, q_b]
  · rw [if_neg c, if_neg c]
theorem q_slwR (hr : q_R s) : (if (pj_rem (s 45) 10) = 0 then pj_b (pf_X12_cutTo ((s 46 - ((s 46 / 64) + (s 47 / 4))).toInt64) 0 9000 s l u v) (fun r2 s2 l2 x2 y2 => some ((), (pj_u s2 46 r2.toInt32), l2, x2, y2)) else some ((), s, l, u, v)) = some ((), q_slw s, l, u, v) := by
  have cl9 : ∀ b : Int64, (q_ct b 0 9000).toInt32 = q_cl b 0 9000 := fun b => q_cut_cl b 0 9000
  have z := q_slwI hr
  unfold q_slw
  by_cases c : pj_rem (s 45) 10 = 0
  · rw [if_pos c, if_pos c, q_cut, q_b, cl9]
    generalize s 46 - (s 46 / 64 + s 47 / 4) = q at z
    have o : (0 : Int32).toInt = 0 := rfl
    have o9 : (9000 : Int32).toInt = 9000 := rfl
    have m : q_cl q.toInt64 0 9000 = if 0 < q then q else 0 := by
      unfold q_cl
      by_cases d : q < 0
      · rw [if_pos, if_neg]
        · rw [Int32.lt_iff_toInt_lt] at d ⊢; omega
        · rw [Int64.lt_iff_toInt_lt, Int32.toInt_toInt64, Int32.toInt_toInt64]
          rw [Int32.lt_iff_toInt_lt] at d
          exact d
      · rw [if_neg, if_neg, Int32.toInt32_toInt64]
        · by_cases e : 0 < q
          · rw [if_pos e]
          · rw [if_neg e]
            rw [Int32.lt_iff_toInt_lt] at d e
            rw [← Int32.toInt_inj]; omega
        · rw [Int64.lt_iff_toInt_lt, Int32.toInt_toInt64, Int32.toInt_toInt64, o9]; omega
        · rw [Int64.lt_iff_toInt_lt, Int32.toInt_toInt64, Int32.toInt_toInt64]
          rw [Int32.lt_iff_toInt_lt] at d
          exact d
    rw [m]
  · rw [if_neg c, if_neg c]
theorem q_burnI {N : Nat} (hN : N ≤ 8) : ∀ (m i f1 f2 : Nat) (s : Nat → Int32), i + m = N → m < f1 → m < f2 → q_R s → s 10000 = Int32.ofNat N → 1 ≤ N → ∃ s', pl_X11_pushWheel_12 fu f1 (Int32.ofNat N) (Int32.ofNat i) s l x y = some ((), s', l, x, y) ∧ pl_X12_burn_2 fu f2 (Int32.ofNat i) s l u v = some ((), s', l, u, v) ∧ q_R s' ∧ (∀ w, ¬ w = 46 → (w < 23000 ∨ 26000 ≤ w) → s' w = s w) := by
  intro m
  induction m with
  | zero =>
    intro i f1 f2 s hi hf1 hf2 hr e0 h1
    obtain ⟨f1, rfl⟩ : ∃ f9, f1 = f9 + 1 := ⟨f1 - 1, by omega⟩
    obtain ⟨f2, rfl⟩ : ∃ f9, f2 = f9 + 1 := ⟨f2 - 1, by omega⟩
    have c : ¬ Int32.ofNat i < Int32.ofNat N := by rw [q_onlt (by omega) (by omega)]; omega
    rw [pl_X11_pushWheel_12, if_neg c, pl_X12_burn_2, e0, if_neg c, q_slwC, q_slwR hr]
    refine ⟨_, rfl, rfl, q_R_slw hr, ?_⟩
    intro w a _
    unfold q_slw
    split
    · rw [q_un a]
    · rfl
  | succ m ih =>
    intro i f1 f2 s hi hf1 hf2 hr e0 h1
    obtain ⟨f1, rfl⟩ : ∃ f9, f1 = f9 + 1 := ⟨f1 - 1, by omega⟩
    obtain ⟨f2, rfl⟩ : ∃ f9, f2 = f9 + 1 := ⟨f2 - 1, by omega⟩
    have c : Int32.ofNat i < Int32.ofNat N := by rw [q_onlt (by omega) (by omega)]; omega
    have c8 : Int32.ofNat i < 8 := by rw [q_onltL (by omega) (by omega)]; omega
    have ej : Int32.ofNat i + 1 = Int32.ofNat (i + 1) := q_onaL i 1
    have rN : 1 ≤ (s 10000).toInt ∧ (s 10000).toInt ≤ 8 := hr 10000
    have rT : 0 ≤ (s 10001).toInt ∧ (s 10001).toInt ≤ 7199 := hr 10001
    have tC := q_topC (s := s) (l := l) (x := x) (y := y) (c := i) rN.1
    have tR := q_topR (s := s) (l := l) (u := u) (v := v) (c := i) (by omega) rN.1 rT.1 rT.2
    rw [pl_X11_pushWheel_12, if_pos c, if_pos c8, tC, q_b, pl_X12_burn_2, e0, if_pos c, tR, q_b]
    by_cases d : s 45 = q_top s i / 60
    · rw [if_pos d, if_pos d, q_burnR hr (by omega)]
      have p := q_pushC (l := l) (x := x) (y := y) hr (c := i) (by omega) (fun s3 l3 x3 y3 => pl_X11_pushWheel_56 fu (pl_X11_pushWheel_12 fu f1) (Int32.ofNat N) (Int32.ofNat i) s3 l3 x3 y3)
      rw [p]
      unfold pl_X11_pushWheel_56
      rw [ej]
      have g : ∀ w, ¬ w = 46 → (w < 23000 ∨ 26000 ≤ w) → q_bs s i w = s w := fun w a b => by unfold q_bs; rw [q_un (by omega), q_un (by omega), q_un a]
      obtain ⟨s2, F, G, r2, g2⟩ := ih (i + 1) f1 f2 (q_bs s i) (by omega) (by omega) (by omega) (q_R_bs hr (by omega)) (by rw [g _ (by omega) (by omega)]; exact e0) h1
      exact ⟨s2, F, G, r2, fun w a b => by rw [g2 w a b, g w a b]⟩
    · rw [if_neg d, if_neg d]
      unfold pl_X11_pushWheel_56 pl_X12_burn_104
      rw [ej]
      exact ih (i + 1) f1 f2 s (by omega) (by omega) (by omega) hr e0 h1
theorem q_burnP (hI : q_I D E W s l x y u v) : ∃ s', pf_X11_pushWheel s l x y = some ((), s', l, x, y) ∧ pf_X12_burn s l u v = some ((), s', l, u, v) ∧ q_I D E W s' l x y u v ∧ s' 94 = s 94 ∧ s' 95 = s 95 := by
  have hr := hI.1
  have rN : 1 ≤ (s 10000).toInt ∧ (s 10000).toInt ≤ 8 := hr 10000
  have eN : s 10000 = Int32.ofNat (s 10000).toInt.toNat := by rw [← Int32.toInt_inj, q_onI (by omega)]; omega
  obtain ⟨s2, F, G, r2, g2⟩ := q_burnI (fu := 1000) (l := l) (x := x) (y := y) (u := u) (v := v) (N := (s 10000).toInt.toNat) (by omega) (s 10000).toInt.toNat 0 1000 1000 s (by omega) (by omega) (by omega) hr eN (by omega)
  rw [← eN] at F
  exact ⟨s2, F, G, q_I_46 hI r2 g2, g2 _ (by omega) (by omega), g2 _ (by omega) (by omega)⟩
end QBN
section QRV
variable {s x u s' x' u' : Nat → Int32} {l y v l' y' v' : Nat → Int64} {D E W : Int} {fu f k n c : Nat} {t : Int64} {a b : Int32}
/-- the speed before a step -/
def q_s46 (s : Nat → Int32) : Int32 := if s 48 = 0 then s 46 else if s 46 < 250 then 250 else s 46
theorem q_s46I (hr : q_R s) : 0 ≤ (q_s46 s).toInt ∧ (q_s46 s).toInt ≤ 9000 := by
  have r : 0 ≤ (s 46).toInt ∧ (s 46).toInt ≤ 9000 := hr 46
  unfold q_s46
  split
  · exact r
  · split
    · decide
    · exact r
theorem q_ticks : pf_X5_stepTicks s l x y = if q_s46 s < 50 then some (-1, pj_u s 46 0, l, x, y) else some (1000000 / q_s46 s, pj_u s 46 (q_s46 s), l, x, y) := by
  have main : ∀ b : Int32, (∀ S : Nat → Int32, S = pj_u s 46 b → pl_X5_stepTicks_24 S l x y = if b < 50 then some (-1, pj_u s 46 0, l, x, y) else some (1000000 / b, pj_u s 46 b, l, x, y)) := by
    intro b S hS
    have e : S 46 = b := by rw [hS, q_ua]
    unfold pl_X5_stepTicks_24
    rw [e]
    by_cases c : b < 50
    · rw [if_pos c, if_pos c, hS, q_uu]
    · rw [if_neg c, if_neg c, hS]
      rw [q_d]
      intro z
      rw [z] at c
      exact c (by decide)
  unfold pf_X5_stepTicks q_s46
  by_cases c : s 48 = 0
  · rw [if_pos c, if_pos c]
    exact main (s 46) s (q_uv rfl).symm
  · rw [if_neg c, if_neg c]
    by_cases d : s 46 < 250
    · rw [if_pos d, if_pos d]
      exact main 250 _ rfl
    · rw [if_neg d, if_neg d]
      exact main (s 46) s (q_uv rfl).symm
theorem q_runR {k36 : Int32 → Int32 → Int32 → pj_F (Int32 × pj_Z)} {a1 a2 : Int32} : (if s 48 = 0 then pl_X12_run_69 fu k36 a1 a2 1 s l u v else (if s 46 < 250 then pl_X12_run_73 fu k36 a1 a2 1 250 s l u v else pl_X12_run_69 fu k36 a1 a2 1 s l u v)) = if q_s46 s < 50 then k36 a1 a2 0 (pj_u s 46 0) l u v else pj_b (pf_X12_step ((1000000 / q_s46 s).toInt64) (pj_u s 46 (q_s46 s)) l u v) (fun _ s1 l1 x1 y1 => pj_b (pf_X12_burn s1 l1 x1 y1) (fun _ s2 l2 x2 y2 => k36 a1 (a2 + 1) 1 s2 l2 x2 y2)) := by
  have main : ∀ b : Int32, pl_X12_run_73 fu k36 a1 a2 1 b s l u v = if b < 50 then k36 a1 a2 0 (pj_u s 46 0) l u v else pj_b (pf_X12_step ((1000000 / b).toInt64) (pj_u s 46 b) l u v) (fun _ s1 l1 x1 y1 => pj_b (pf_X12_burn s1 l1 x1 y1) (fun _ s2 l2 x2 y2 => k36 a1 (a2 + 1) 1 s2 l2 x2 y2)) := by
    intro b
    unfold pl_X12_run_73
    by_cases c : b < 50
    · rw [if_pos c, if_pos c, q_uu]
    · rw [if_neg c, if_neg c]
      rw [q_d]
      intro z
      rw [z] at c
      exact c (by decide)
  unfold q_s46 pl_X12_run_69
  by_cases c : s 48 = 0
  · rw [if_pos c, if_pos c]; exact main _
  · rw [if_neg c, if_neg c]
    by_cases d : s 46 < 250
    · rw [if_pos d, if_pos d]; exact main _
    · rw [if_neg d, if_neg d]; exact main _
theorem q_runI {N : Nat} (hN : N ≤ 240) : ∀ (m i f1 f2 : Nat) (E W : Int) (s x u : Nat → Int32) (l y v : Nat → Int64), i + m = N → m < f1 → m + 1 < f2 → q_I 0 E W s l x y u v → q_Kl x v → q_Af s → (l 93).toInt + 100000 * m ≤ 20000000000 → E + 1760 * m < 2147483647 → W + 600 * m < 2147483647 → q_Ls (E + 1760 * m) (W + 600 * m) ((l 93).toInt + 100000 * m) (pl_X11_run_24 fu f1 (Int32.ofNat N) (Int32.ofNat i) s l x y) (pl_X12_run_36 fu f2 (Int32.ofNat N) (Int32.ofNat i) 1 s l u v) := by
  intro m
  induction m with
  | zero =>
    intro i f1 f2 E W s x u l y v hi hf1 hf2 hI hK hA ht hE hW
    obtain ⟨f1, rfl⟩ : ∃ f9, f1 = f9 + 1 := ⟨f1 - 1, by omega⟩
    obtain ⟨f2, rfl⟩ : ∃ f9, f2 = f9 + 1 := ⟨f2 - 1, by omega⟩
    have c : ¬ Int32.ofNat i < Int32.ofNat N := by rw [q_onlt (by omega) (by omega)]; omega
    have ei : i = N := by omega
    rw [pl_X11_run_24, if_neg c, pl_X12_run_36, if_neg (show ¬ (1 : Int32) = 0 by decide), if_neg c, ei]
    exact ⟨_, _, _, _, _, _, _, rfl, rfl, q_I_mono hI (by omega) (by omega), hK, hA, by omega⟩
  | succ m ih =>
    intro i f1 f2 E W s x u l y v hi hf1 hf2 hI hK hA ht hE hW
    obtain ⟨f1, rfl⟩ : ∃ f9, f1 = f9 + 1 := ⟨f1 - 1, by omega⟩
    obtain ⟨f2, rfl⟩ : ∃ f9, f2 = f9 + 1 + 1 := ⟨f2 - 2, by omega⟩
    have c : Int32.ofNat i < Int32.ofNat N := by rw [q_onlt (by omega) (by omega)]; omega
    have ej : Int32.ofNat i + 1 = Int32.ofNat (i + 1) := q_onaL i 1
    have tl := hI.2.2.1.2.2.2.2
    have sI := q_s46I hI.1
    have o50 : (50 : Int32).toInt = 50 := rfl
    rw [pl_X11_run_24, if_pos c, q_ticks, pl_X12_run_36, if_neg (show ¬ (1 : Int32) = 0 by decide), if_pos c, q_runR]
    have mk : ∀ b : Int32, 0 ≤ b.toInt → b.toInt ≤ 9000 → q_I 0 E W (pj_u s 46 b) l x y u v ∧ q_Af (pj_u s 46 b) := by
      intro b p q
      refine ⟨q_I_46 hI (q_R_u hI.1 ⟨p, q⟩) (fun w a _ => q_un a), ?_⟩
      unfold q_Af at hA ⊢
      rw [q_un (by omega), q_un (by omega)]; exact hA
    by_cases d : q_s46 s < 50
    · rw [if_pos d, if_pos d, q_b, if_pos rfl, pl_X12_run_36, if_pos rfl]
      obtain ⟨h1, h2⟩ := mk 0 (by decide) (by decide)
      exact ⟨_, _, _, _, _, _, _, rfl, rfl, q_I_mono h1 (by omega) (by omega), hK, h2, by omega⟩
    · rw [if_neg d, if_neg d, q_b]
      rw [Int32.lt_iff_toInt_lt, o50] at d
      have om : (1000000 : Int32).toInt = 1000000 := rfl
      have dv : (1000000 / q_s46 s).toInt = 1000000 / (q_s46 s).toInt := by rw [q_divI (by decide) (by omega), om]
      have b1 : 0 ≤ (1000000 / q_s46 s).toInt := by rw [dv]; exact Int.ediv_nonneg (by omega) (by omega)
      have b2 : (1000000 / q_s46 s).toInt ≤ 100000 := by
        rw [dv]
        have := Int.ediv_le_of_le_mul (a := 1000000) (b := 100000) (c := (q_s46 s).toInt) (by omega) (by omega)
        exact this
      have nm : ¬ 1000000 / q_s46 s = -1 := by
        intro z
        have : (1000000 / q_s46 s).toInt = -1 := by rw [z]; rfl
        omega
      rw [if_neg nm]
      obtain ⟨h1, h2⟩ := mk (q_s46 s) sI.1 sI.2
      have a3 : (1000000 / q_s46 s).toInt64.toInt = (1000000 / q_s46 s).toInt := Int32.toInt_toInt64 _
      generalize 1000000 / q_s46 s = a2 at *
      obtain ⟨s1, l1, x1, y1, u1, v1, F, G, hI1, hK1, hA1, e1⟩ := q_stepQ h1 hK h2 (a := a2.toInt64) (by omega) (by omega) (by omega) (by omega) (by omega)
      have e2 : (l 93 + a2.toInt64).toInt = (l 93).toInt + a2.toInt := by rw [q_addL (by omega) (by omega), a3]
      rw [q_bc F, G, q_b]
      obtain ⟨s2, F2, G2, hI2, g94, g95⟩ := q_burnP hI1
      have hA2 : q_Af s2 := by unfold q_Af at hA1 ⊢; rw [g94, g95]; exact hA1
      rw [F2, q_b, G2, q_b, ej]
      obtain ⟨r, s3, l3, x3, y3, u3, v3, F3, G3, hI3, hK3, hA3, e3⟩ := ih (i + 1) f1 (f2 + 1) (E + 1760) (W + 600) s2 x1 u1 l1 y1 v1 (by omega) (by omega) (by omega) hI2 hK1 hA2 (by rw [e1, e2]; omega) (by omega) (by omega)
      refine ⟨r, s3, l3, x3, y3, u3, v3, F3, G3, q_I_mono hI3 (by omega) (by omega), hK3, hA3, ?_⟩
      rw [e1, e2] at e3
      omega
theorem q_F_run (hV : q_V k s l x y u v) (hk : k < 512) (h1 : ¬ a < 1) (h2 : ¬ 240 < a) : q_Fa (k + 1) (pf_X11_run a s l x y) (pf_X12_run a s l u v) := by
  obtain ⟨t1, t2, t3⟩ := q_V_t hV hk
  have a1 : 1 ≤ a.toInt ∧ a.toInt ≤ 240 := by
    rw [Int32.lt_iff_toInt_lt] at h1 h2
    have o : (1 : Int32).toInt = 1 := rfl
    have o2 : (240 : Int32).toInt = 240 := rfl
    rw [o] at h1; rw [o2] at h2
    omega
  have ea : a = Int32.ofNat a.toInt.toNat := by rw [← Int32.toInt_inj, q_onI (by omega)]; omega
  obtain ⟨hI, hK, hA, -⟩ := hV
  obtain ⟨r, s2, l2, x2, y2, u2, v2, F, G, hI2, hK2, hA2, e3⟩ := q_runI (fu := 1000) (N := a.toInt.toNat) (by omega) a.toInt.toNat 0 1000 1000 (500000 * k) (200000 * k) s x (pj_u u 1 0) l y v (by omega) (by omega) (by omega) hI hK hA (by omega) (by omega) (by omega)
  rw [← ea] at F G
  obtain ⟨z1, z2⟩ := q_V_L (k := k + 1) hI2 hK2 hA2 (by omega) (by omega) (by omega)
  refine ⟨r, s2, l2, x2, y2, u2, v2, ?_, ?_, z1, z2⟩
  · unfold pf_X11_run po_X11_run
    rw [if_neg h1, if_neg h2]
    exact F
  · have q1 : pf_X12_isIn a.toInt64 1 240 s l u v = some (if a < 1 then 0 else if 240 < a then 0 else 1, s, l, u, v) := q_isI a 1 240
    unfold pf_X12_run po_X12_run pl_X12_run_18 pl_X12_run_35
    rw [q1, q_b, if_neg h1, if_neg h2, if_neg (show ¬ (1 : Int32) = 0 by decide), if_pos rfl]
    exact G
theorem q_F_run0 (hV : q_V k s l x y u v) (h : a < 1 ∨ (240 : Int32) < a) : q_Rf (k + 1) 1 s l x y (pf_X12_run a s l u v) := by
  have q1 : pf_X12_isIn a.toInt64 1 240 s l u v = some (if a < 1 then 0 else if 240 < a then 0 else 1, s, l, u, v) := q_isI a 1 240
  have e : (if a < 1 then (0 : Int32) else if 240 < a then 0 else 1) = 0 := by
    by_cases c : a < 1
    · rw [if_pos c]
    · rw [if_neg c, if_pos (h.resolve_left c)]
  have fin : ∀ fu, 1 < fu → q_Rf (k + 1) 1 s l x y (pl_X12_run_18 fu a 1 s l u v) := by
    intro fu hf
    obtain ⟨f, rfl⟩ : ∃ f9, fu = f9 + 1 := ⟨fu - 1, by omega⟩
    unfold pl_X12_run_18 pl_X12_run_35
    rw [if_neg (show ¬ (1 : Int32) = 0 by decide), pl_X12_run_36, if_pos rfl]
    exact ⟨_, _, _, rfl, q_ua, q_V_u1 (q_V_m hV) 1⟩
  unfold pf_X12_run po_X12_run
  rw [q1, q_b, e, if_pos rfl]
  exact fin 1000 (by omega)
end QRV

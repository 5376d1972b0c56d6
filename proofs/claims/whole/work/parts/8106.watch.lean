/-! PURE: the SECOND LOOK, WATCH, heat: pairs -/
section QWA
variable {s x u s' x' u' s2 u2 : Nat → Int32} {l y v l' y' v' l2 v2 : Nat → Int64} {D E W : Int}
def q_lf1 (s : Nat → Int32) : Int32 := if s 10018 < (if s 80 < 0 then -(s 80) else s 80) then s 30 + 1 else 0
def q_lim (s : Nat → Int32) : Int32 := if q_pw s = 0 then 0 else if q_lf1 s < s 10019 then 0 else 1
def q_la (s : Nat → Int32) : Nat → Int32 := if q_pw s = 0 then s else if q_lf1 s < s 10019 then pj_u s 30 (q_lf1 s) else pj_u (pj_u s 30 (q_lf1 s)) 29 1
theorem q_pw1 (h : ¬ q_pw s = 0) : q_pw s = 1 ∧ s 94 = 1 ∧ s 29 = 0 ∧ s 36 = 0 := by
  unfold q_pw at h ⊢
  by_cases c1 : s 94 = 1
  · rw [if_pos c1] at h ⊢
    by_cases c2 : s 29 = 0
    · rw [if_pos c2] at h ⊢
      by_cases c3 : s 36 = 0
      · rw [if_pos c3]; exact ⟨rfl, c1, c2, c3⟩
      · rw [if_neg c3] at h; exact absurd rfl h
    · rw [if_neg c2] at h; exact absurd rfl h
  · rw [if_neg c1] at h; exact absurd rfl h
theorem q_lookC : pf_X3_lookAgain (if s 94 = 1 then 1 else 0) (s 80) (s 10018) (s 10019) s l x y = some ((), q_la s, l, pj_u (pj_u x 14 (q_pw s)) 15 (q_lim s), y) := by
  have n1 : ¬ (1 : Int32) = 0 := by decide
  have m0 : pl_X3_lookAgain_24 (s 80) (s 10018) (s 10019) 0 s l x y = some ((), s, l, pj_u (pj_u x 14 0) 15 0, y) := by
    unfold pl_X3_lookAgain_24
    rw [q_bz0, if_pos rfl]
  have m1 : pl_X3_lookAgain_24 (s 80) (s 10018) (s 10019) 1 s l x y = some ((), (if q_lf1 s < s 10019 then pj_u s 30 (q_lf1 s) else pj_u (pj_u s 30 (q_lf1 s)) 29 1), l, pj_u (pj_u x 14 1) 15 (if q_lf1 s < s 10019 then 0 else 1), y) := by
    have k : ∀ b, pl_X3_lookAgain_59 (s 10019) b s l (pj_u (pj_u x 14 1) 15 0) y = some ((), (if b < s 10019 then pj_u s 30 b else pj_u (pj_u s 30 b) 29 1), l, pj_u (pj_u x 14 1) 15 (if b < s 10019 then 0 else 1), y) := by
      intro b
      unfold pl_X3_lookAgain_59
      split
      · rfl
      · rw [q_uu]
    unfold pl_X3_lookAgain_24
    rw [q_bz1, if_neg n1, q_abs, q_b, k, k]
    unfold q_lf1
    split
    · split <;> rfl
    · split <;> rfl
  unfold pf_X3_lookAgain pl_X3_lookAgain_23 q_la q_lim q_pw
  rw [m0, m1]
  by_cases c1 : s 94 = 1
  · simp only [if_pos c1, if_neg n1]
    by_cases c2 : s 29 = 0
    · simp only [if_pos c2]
      by_cases c3 : s 36 = 0
      · simp only [if_pos c3, if_neg n1]
      · simp only [if_neg c3, if_true]
    · simp only [if_neg c2, if_true]
  · simp only [if_neg c1, if_true]
theorem q_lookR : pf_X12_lookAgain (q_pw s) s l u v = some (q_lim s, q_la s, l, u, v) := by
  have n1 : ¬ (1 : Int32) = 0 := by decide
  unfold pf_X12_lookAgain q_la q_lim
  by_cases c : q_pw s = 0
  · rw [if_pos c, if_pos c, if_pos c]
  · rw [if_neg c, if_neg c, if_neg c]
    have h29 := (q_pw1 c).2.2.1
    have k : ∀ b, pl_X12_lookAgain_46 b s l u v = some ((if b < s 10019 then 0 else 1), (if b < s 10019 then pj_u s 30 b else pj_u (pj_u s 30 b) 29 1), l, u, v) := by
      intro b
      unfold pl_X12_lookAgain_46 pl_X12_lookAgain_68 pl_X12_lookAgain_81 pl_X12_lookAgain_86
      rw [q_un (by omega), if_pos h29, if_pos rfl, q_bz0, q_bz0, if_pos h29, if_neg n1, q_bz1, q_bz1]
      have e : pj_u (pj_u s 30 b) 29 0 = pj_u s 30 b := by
        rw [show (0 : Int32) = pj_u s 30 b 29 by rw [q_un (by omega)]; exact h29.symm, q_ui]
      rw [e]
      split <;> rfl
    unfold pl_X12_lookAgain_26
    rw [k, k]
    unfold q_lf1
    split
    · split <;> rfl
    · split <;> rfl
theorem q_R_la (hr : q_R s) : q_R (q_la s) := by
  unfold q_la
  repeat' split
  · exact hr
  · exact q_R_u hr q_R_any
  · exact q_R_u (q_R_u hr q_R_any) (by decide)
theorem q_la_out {w : Nat} (h : w < 29 ∨ 30 < w) : q_la s w = s w := by
  unfold q_la
  repeat' split
  · rfl
  · rw [q_un (by omega)]
  · rw [q_un (by omega), q_un (by omega)]
theorem q_lookP (hI : q_I D E W s l x y u v) (h0 : ¬ s 94 = 0) : q_I D E W (q_la s) l (pj_u (pj_u x 14 (q_pw s)) 15 (q_lim s)) y u v ∧ q_la s 94 = s 94 := by
  refine ⟨q_I_f hI h0 (q_R_la hI.1) ?_ ?_ (fun _ _ => rfl), q_la_out (by omega)⟩
  · intro w hw
    unfold q_Ss at hw
    exact q_la_out (by omega)
  · intro w hw
    unfold q_Xs at hw
    rw [q_un (by omega), q_un (by omega)]
-- WATCH
def q_wr (s : Nat → Int32) : Int32 := if s 33 = 0 then (if s 35 < 5 then s 35 + 1 else 5) else (if 0 < s 35 then s 35 - 1 else 0)
def q_w0 (s : Nat → Int32) : Nat → Int32 := pj_u (pj_u (pj_u (pj_u s 34 0) 35 (q_wr s)) 32 (pj_rem (5 * s 32 + 1) 16)) 33 0
theorem q_wrV (hr : q_R s) : 0 ≤ (q_wr s).toInt ∧ (q_wr s).toInt ≤ 5 ∧ (s 33 = 0 → q_cl (s 35 + 1).toInt64 0 5 = q_wr s) ∧ (¬ s 33 = 0 → q_cl (s 35 - 1).toInt64 0 5 = q_wr s) := by
  have a := q_R35 hr
  have e1 : (s 35 + 1).toInt = (s 35).toInt + 1 := q_add (by simp only [Int32.reduceToInt]; omega) (by simp only [Int32.reduceToInt]; omega)
  have e2 : (s 35 - 1).toInt = (s 35).toInt - 1 := q_sub (by simp only [Int32.reduceToInt]; omega) (by simp only [Int32.reduceToInt]; omega)
  unfold q_wr
  refine ⟨?_, ?_, ?_, ?_⟩
  · simp only [q_ifI, Int32.lt_iff_toInt_lt, e1, e2, Int32.reduceToInt]
    repeat' split
    all_goals omega
  · simp only [q_ifI, Int32.lt_iff_toInt_lt, e1, e2, Int32.reduceToInt]
    repeat' split
    all_goals omega
  · intro c
    rw [if_pos c, ← Int32.toInt_inj, q_clV]
    simp only [q_ifI, Int32.lt_iff_toInt_lt, e1, e2, Int32.reduceToInt]
    omega
  · intro c
    rw [if_neg c, ← Int32.toInt_inj, q_clV]
    simp only [q_ifI, Int32.lt_iff_toInt_lt, e1, e2, Int32.reduceToInt]
    omega
theorem q_R_w0 (hr : q_R s) : q_R (q_w0 s) := by
  have a := q_R32 hr
  have w := q_wrV hr
  have e : (5 * s 32 + 1).toInt = 5 * (s 32).toInt + 1 := by
    have m : (5 * s 32).toInt = 5 * (s 32).toInt := q_mul (by simp only [Int32.reduceToInt]; omega) (by simp only [Int32.reduceToInt]; omega)
    rw [q_add (by rw [m]; simp only [Int32.reduceToInt]; omega) (by rw [m]; simp only [Int32.reduceToInt]; omega), m]; rfl
  have r := q_remI (a := 5 * s 32 + 1) (b := 16) (by rw [e]; omega) (by decide)
  rw [e] at r
  have z : (16 : Int32).toInt = 16 := rfl
  rw [z] at r
  refine q_R_u (q_R_u (q_R_u (q_R_u hr (by decide)) ⟨w.1, w.2.1⟩) ?_) (by decide)
  exact (by rw [r]; omega : 0 ≤ (pj_rem (5 * s 32 + 1) 16).toInt ∧ (pj_rem (5 * s 32 + 1) 16).toInt ≤ 15)
theorem q_w0_out {w : Nat} (h : w < 32 ∨ 35 < w) : q_w0 s w = s w := by
  unfold q_w0
  rw [q_un (by omega), q_un (by omega), q_un (by omega), q_un (by omega)]
theorem q_w0_35 : q_w0 s 35 = q_wr s := by
  unfold q_w0
  rw [q_un (by omega), q_un (by omega), q_ua]
theorem q_watC (hr : q_R s) : pf_X3_tickWatch s l x y = if s 31 = 0 then some (0, s, l, x, y) else if s 34 + 1 < 10 then some (0, pj_u s 34 (s 34 + 1), l, x, y) else if q_wr s = 3 then (if s 36 = 0 then some (1, pj_u (q_w0 s) 36 1, l, x, y) else some (0, q_w0 s, l, x, y)) else if q_wr s = 0 then some (0, pj_u (q_w0 s) 36 0, l, x, y) else some (0, q_w0 s, l, x, y) := by
  have n1 : ¬ (1 : Int32) = 0 := by decide
  have w := q_wrV hr
  have k : ∀ z : Int64, q_cl z 0 5 = q_wr s → pl_X3_tickWatch_60 z (pj_u s 34 0) l x y = if q_wr s = 3 then (if s 36 = 0 then some (1, pj_u (q_w0 s) 36 1, l, x, y) else some (0, q_w0 s, l, x, y)) else if q_wr s = 0 then some (0, pj_u (q_w0 s) 36 0, l, x, y) else some (0, q_w0 s, l, x, y) := by
    intro z hz
    unfold pl_X3_tickWatch_60 pl_X3_tickWatch_107
    rw [q_clip, q_b, hz, q_un (f := s) (w := 36) (by omega), q_un (f := s) (w := 32) (by omega)]
    show (if q_wr s = 3 then (if s 36 = 0 then pl_X3_tickWatch_108 1 (q_w0 s) l x y else pl_X3_tickWatch_108 0 (q_w0 s) l x y) else pl_X3_tickWatch_108 0 (q_w0 s) l x y) = _
    have t1 : pl_X3_tickWatch_108 1 (q_w0 s) l x y = some (1, pj_u (q_w0 s) 36 1, l, x, y) := by
      unfold pl_X3_tickWatch_108
      rw [if_neg n1, q_bz1]
    have t0 : pl_X3_tickWatch_108 0 (q_w0 s) l x y = if q_wr s = 0 then some (0, pj_u (q_w0 s) 36 0, l, x, y) else some (0, q_w0 s, l, x, y) := by
      unfold pl_X3_tickWatch_108
      rw [if_pos rfl, q_bz0, q_bz0, q_w0_35]
    rw [t1, t0]
    by_cases c : q_wr s = 3
    · have c0 : ¬ q_wr s = 0 := by rw [c]; decide
      simp only [if_pos c, if_neg c0]
    · simp only [if_neg c]
  unfold pf_X3_tickWatch
  rw [q_uu]
  by_cases c1 : s 31 = 0
  · rw [if_pos c1, if_pos c1]
  · rw [if_neg c1, if_neg c1]
    by_cases c2 : s 34 + 1 < 10
    · rw [if_pos c2, if_pos c2]
    · rw [if_neg c2, if_neg c2]
      by_cases c3 : s 33 = 0
      · rw [if_pos c3, k _ (w.2.2.1 c3)]
      · rw [if_neg c3, k _ (w.2.2.2 c3)]
theorem q_watR : pf_X12_watchNow s l u v = if s 31 = 0 then some ((), s, l, u, v) else if s 34 + 1 < 10 then some ((), pj_u s 34 (s 34 + 1), l, u, v) else if q_wr s = 3 then (if s 36 = 0 then pj_b (pf_X12_allOff (pj_u (q_w0 s) 36 1) l u v) (fun _ s1 l1 x1 y1 => pl_X12_watchNow_130 s1 l1 x1 y1) else pl_X12_watchNow_130 (q_w0 s) l u v) else pl_X12_watchNow_130 (q_w0 s) l u v := by
  have k : ∀ b, b = q_wr s → pl_X12_watchNow_86 (pj_u (pj_u s 34 0) 35 b) l u v = if q_wr s = 3 then (if s 36 = 0 then pj_b (pf_X12_allOff (pj_u (q_w0 s) 36 1) l u v) (fun _ s1 l1 x1 y1 => pl_X12_watchNow_130 s1 l1 x1 y1) else pl_X12_watchNow_130 (q_w0 s) l u v) else pl_X12_watchNow_130 (q_w0 s) l u v := by
    intro b hb
    unfold pl_X12_watchNow_86
    rw [q_ua, q_un (f := pj_u s 34 0) (w := 36) (by omega), q_un (f := s) (w := 36) (by omega), q_un (f := pj_u s 34 0) (w := 32) (by omega), q_un (f := s) (w := 32) (by omega), hb]
    rfl
  unfold pf_X12_watchNow pl_X12_watchNow_83 pl_X12_watchNow_58
  rw [q_uu]
  by_cases c1 : s 31 = 0
  · rw [if_pos c1, if_pos c1]
  · rw [if_neg c1, if_neg c1]
    by_cases c2 : s 34 + 1 < 10
    · rw [if_pos c2, if_pos c2]
    · rw [if_neg c2, if_neg c2]
      by_cases c3 : s 33 = 0
      · rw [if_pos c3]
        by_cases c4 : s 35 < 5
        · rw [if_pos c4]; exact k _ (by unfold q_wr; rw [if_pos c3, if_pos c4])
        · rw [if_neg c4]; exact k _ (by unfold q_wr; rw [if_pos c3, if_neg c4])
      · rw [if_neg c3]
        by_cases c4 : 0 < s 35
        · rw [if_pos c4]; exact k _ (by unfold q_wr; rw [if_neg c3, if_pos c4])
        · rw [if_neg c4]; exact k _ (by unfold q_wr; rw [if_neg c3, if_neg c4])
theorem q_130 (h : s 36 = 0 ∨ s 36 = 1) (h35 : 0 ≤ (s 35).toInt) : pl_X12_watchNow_130 s l u v = some ((), (if s 35 = 0 then pj_u s 36 0 else s), l, u, v) := by
  have c : (0 < s 35) ↔ ¬ s 35 = 0 := by
    rw [Int32.lt_iff_toInt_lt, ← Int32.toInt_inj]
    simp only [Int32.reduceToInt]
    omega
  unfold pl_X12_watchNow_130 pl_X12_watchNow_149 pl_X12_watchNow_150
  rw [q_bz0, q_bz1]
  rcases h with h | h
  · rw [if_pos h]
    have e : pj_u s 36 0 = s := by rw [← h, q_ui]
    rw [e, ite_self]
  · rw [if_neg (by rw [h]; decide)]
    have e : pj_u s 36 1 = s := by rw [← h, q_ui]
    rw [e]
    by_cases d : s 35 = 0
    · rw [if_neg (fun z => c.mp z d), if_pos d]
    · rw [if_pos (c.mpr d), if_neg d]
theorem q_watchP (hI : q_I D E W s l x y u v) (h0 : ¬ s 94 = 0) (hE : E + 16 < 2147483647) : ∃ s' l' x' y' u' v', pj_b (pf_X3_tickWatch s l x y) (fun r2 s2 l2 x2 y2 => if r2 = 0 then some ((), s2, l2, x2, y2) else pf_X11_allOff s2 l2 x2 y2) = some ((), s', l', x', y') ∧ pf_X12_watchNow s l u v = some ((), s', l', u', v') ∧ q_I D (E + 16) W s' l' x' y' u' v' ∧ q_K s l x v s' l' x' v' ∧ x' 14 = x 14 ∧ x' 15 = x 15 := by
  have hr := hI.1
  have n1 : ¬ (1 : Int32) = 0 := by decide
  have st := q_I_mono (E' := E + 16) (W' := W) hI (by omega) (by omega)
  have r0 := q_R_w0 hr
  have h36 := q_R36 r0
  have b36 := q_b01 h36.1 h36.2
  have w := q_wrV hr
  have ss : ∀ {s1 : Nat → Int32}, q_R s1 → (∀ w, (w < 32 ∨ 36 < w) → s1 w = s w) → q_I D (E + 16) W s1 l x y u v := by
    intro s1 hr1 g
    refine q_I_s st h0 hr1 ?_
    intro w hw
    unfold q_Ss at hw
    exact g w (by omega)
  rw [q_watC hr, q_watR]
  by_cases c1 : s 31 = 0
  · rw [if_pos c1, if_pos c1, q_b, if_pos rfl]
    exact ⟨s, l, x, y, u, v, rfl, rfl, st, ⟨rfl, rfl, rfl, rfl, rfl, rfl, rfl, rfl⟩, rfl, rfl⟩
  · rw [if_neg c1, if_neg c1]
    by_cases c2 : s 34 + 1 < 10
    · rw [if_pos c2, if_pos c2, q_b, if_pos rfl]
      have a34 := q_R34 hr
      have e : (s 34 + 1).toInt = (s 34).toInt + 1 := q_add (by simp only [Int32.reduceToInt]; omega) (by simp only [Int32.reduceToInt]; omega)
      rw [Int32.lt_iff_toInt_lt, e] at c2
      simp only [Int32.reduceToInt] at c2
      refine ⟨_, _, _, _, _, _, rfl, rfl, ss (q_R_u hr ?_) (fun w hw => q_un (by omega)), ⟨q_un (by omega), rfl, rfl, rfl, rfl, rfl, rfl, q_un (by omega)⟩, rfl, rfl⟩
      rw [e]
      exact (by omega : 0 ≤ (s 34).toInt + 1 ∧ (s 34).toInt + 1 ≤ 10)
    · rw [if_neg c2, if_neg c2]
      have q130 := q_130 (s := q_w0 s) (l := l) (u := u) (v := v) b36 (by rw [q_w0_35]; exact w.1)
      rw [q_w0_35] at q130
      by_cases c3 : q_wr s = 3
      · have c30 : ¬ q_wr s = 0 := by rw [c3]; decide
        rw [if_neg c30] at q130
        rw [if_pos c3, if_pos c3]
        by_cases c4 : s 36 = 0
        · rw [if_pos c4, if_pos c4, q_b, if_neg n1]
          have r1 : q_R (pj_u (q_w0 s) 36 1) := q_R_u r0 (by decide)
          have hJ : q_I D E W (pj_u (q_w0 s) 36 1) l x y u v := by
            refine q_I_s hI h0 r1 ?_
            intro w hw
            unfold q_Ss at hw
            rw [q_un (by omega), q_w0_out (by omega)]
          have p94 : (pj_u (q_w0 s) 36 1) 94 = s 94 := by rw [q_un (by omega), q_w0_out (by omega)]
          have p95 : (pj_u (q_w0 s) 36 1) 95 = s 95 := by rw [q_un (by omega), q_w0_out (by omega)]
          have p36 : (pj_u (q_w0 s) 36 1) 36 = 1 := q_ua
          have p35 : (pj_u (q_w0 s) 36 1) 35 = 3 := by rw [q_un (by omega), q_w0_35, c3]
          generalize pj_u (q_w0 s) 36 1 = S at hJ p94 p95 p36 p35
          have c11 := hJ.2.2.1.2.2.1
          have oI := q_offI hJ (by rw [p94]; exact h0) hE
          have oE := q_offE (s := S) (l := l) (x := x) (y := y) (u := u) (v := v) c11.2.1 (by omega) c11.1
          obtain ⟨k1, k2, k3, k4, k5, k6, k7⟩ := q_ao_k (s := S) (l := l) (x := x) c11.2.1 (by omega)
          have hX : ∀ w, (w < 4000 ∨ 4024 ≤ w) → q_nw x w = x w := fun w h => q_nw_out h
          obtain ⟨o1, o2⟩ := oE
          clear k2 k3 k4 k6 k7
          generalize (q_ao S l x).1 = A at *
          generalize (q_ao S l x).2.1 = L at *
          generalize q_ne S l x = N at *
          generalize q_nw x = X at *
          generalize q_nu u = U at *
          have a36 : A 36 = 1 := by rw [k5 _ (by omega) (by omega)]; exact p36
          have a35 : A 35 = 3 := by rw [k5 _ (by omega) (by omega)]; exact p35
          rw [o1, o2, q_b, q_130 (Or.inr a36) (by rw [a35]; decide), if_neg (by rw [a35]; decide)]
          refine ⟨_, _, _, _, _, _, rfl, rfl, oI, ⟨?_, ?_, ?_, ?_, ?_, ?_, ?_, ?_⟩, ?_, ?_⟩
          · rw [k5 _ (by omega) (by omega), p94]
          · rw [k1 _ (by omega)]
          · rw [q_un (by omega), hX _ (by omega)]
          · rw [q_un (by omega), hX _ (by omega)]
          · rw [q_un (by omega), hX _ (by omega)]
          · rw [q_un (by omega)]
          · rw [q_un (by omega)]
          · rw [k5 _ (by omega) (by omega), p95]
          · rw [q_un (by omega), hX _ (by omega)]
          · rw [q_un (by omega), hX _ (by omega)]
        · rw [if_neg c4, if_neg c4, q_b, if_pos rfl, q130]
          exact ⟨_, _, _, _, _, _, rfl, rfl, ss r0 (fun w hw => q_w0_out (by omega)), ⟨q_w0_out (by omega), rfl, rfl, rfl, rfl, rfl, rfl, q_w0_out (by omega)⟩, rfl, rfl⟩
      · rw [if_neg c3, if_neg c3, q130]
        by_cases c5 : q_wr s = 0
        · rw [if_pos c5, if_pos c5, q_b, if_pos rfl]
          refine ⟨_, _, _, _, _, _, rfl, rfl, ss (q_R_u r0 (by decide)) (fun w hw => by rw [q_un (by omega), q_w0_out (by omega)]), ⟨?_, rfl, rfl, rfl, rfl, rfl, rfl, ?_⟩, rfl, rfl⟩
          · rw [q_un (by omega), q_w0_out (by omega)]
          · rw [q_un (by omega), q_w0_out (by omega)]
        · rw [if_neg c5, if_neg c5, q_b, if_pos rfl]
          exact ⟨_, _, _, _, _, _, rfl, rfl, ss r0 (fun w hw => q_w0_out (by omega)), ⟨q_w0_out (by omega), rfl, rfl, rfl, rfl, rfl, rfl, q_w0_out (by omega)⟩, rfl, rfl⟩
-- heat
def q_ov (a c f : Int32) : Int32 := if c < f then (if a = 0 then 0 else if c < f - 5 then 0 else 1) else 1
theorem q_ov01 (a c f : Int32) : q_ov a c f = 0 ∨ q_ov a c f = 1 := by
  unfold q_ov
  repeat' split
  all_goals simp
theorem q_isOver (a c f : Int32) : pf_X3_isOver a c f s l x y = some (q_ov a c f, s, l, x, y) := by
  unfold pf_X3_isOver pl_X3_isOver_16 q_ov
  repeat' split
  all_goals rfl
def q_ht (s : Nat → Int32) : Nat → Int32 := pj_u (pj_u (pj_u s 37 (q_ov (s 37) (s 34005) (s 10008))) 38 (q_ov (s 38) (s 34005) (s 10014))) 39 (q_ov (s 39) (s 34005) (s 10015))
theorem q_heatC : pf_X3_feelHeat (s 34005) s l x y = some ((), q_ht s, l, x, y) := by
  unfold pf_X3_feelHeat q_ht
  rw [q_isOver, q_b, q_bz (q_ov01 _ _ _), q_isOver, q_b, q_bz (q_ov01 _ _ _), q_isOver, q_b, q_bz (q_ov01 _ _ _)]
  simp (disch := omega) only [q_un]
theorem q_heatR : pf_X12_warmth s l u v = some ((), q_ht s, l, u, v) := by
  have k3 : ∀ (b : Int32) (s : Nat → Int32), (b = 0 ∨ b = 1) → pl_X12_warmth_84 (s 34005) b s l u v = some ((), pj_u (pj_u s 38 b) 39 (q_ov (s 39) (s 34005) (s 10015)), l, u, v) := by
    intro b s hb
    unfold pl_X12_warmth_84 pl_X12_warmth_119 pl_X12_warmth_123 pl_X12_warmth_124 q_ov
    rw [q_bz hb, q_bz0, q_bz1]
    repeat' split
    all_goals rfl
  have k3' : ∀ (b c : Int32) (s : Nat → Int32), (b = 0 ∨ b = 1) → pl_X12_warmth_84 (s 34005) b (pj_u s 37 c) l u v = some ((), pj_u (pj_u (pj_u s 37 c) 38 b) 39 (q_ov (s 39) (s 34005) (s 10015)), l, u, v) := by
    intro b c s hb
    have z := k3 b (pj_u s 37 c) hb
    rw [q_un (by omega), q_un (by omega), q_un (by omega)] at z
    exact z
  have k2 : ∀ (b : Int32), (b = 0 ∨ b = 1) → pl_X12_warmth_44 (s 34005) b s l u v = some ((), pj_u (pj_u (pj_u s 37 b) 38 (q_ov (s 38) (s 34005) (s 10014))) 39 (q_ov (s 39) (s 34005) (s 10015)), l, u, v) := by
    intro b hb
    unfold pl_X12_warmth_44 pl_X12_warmth_79 pl_X12_warmth_83
    rw [q_bz hb, k3' 0 b s (Or.inl rfl), k3' 1 b s (Or.inr rfl)]
    unfold q_ov
    by_cases c1 : s 34005 < s 10014
    · by_cases c2 : s 38 = 0
      · simp only [if_pos c1, if_pos c2]
      · by_cases c3 : s 34005 < s 10014 - 5
        · simp only [if_pos c1, if_neg c2, if_pos c3]
        · simp only [if_pos c1, if_neg c2, if_neg c3]
    · simp only [if_neg c1]
  unfold pf_X12_warmth pl_X12_warmth_39 pl_X12_warmth_43 q_ht
  rw [k2 0 (Or.inl rfl), k2 1 (Or.inr rfl)]
  generalize q_ov (s 38) (s 34005) (s 10014) = B
  generalize q_ov (s 39) (s 34005) (s 10015) = C
  unfold q_ov
  by_cases c1 : s 34005 < s 10008
  · by_cases c2 : s 37 = 0
    · simp only [if_pos c1, if_pos c2]
    · by_cases c3 : s 34005 < s 10008 - 5
      · simp only [if_pos c1, if_neg c2, if_pos c3]
      · simp only [if_pos c1, if_neg c2, if_neg c3]
  · simp only [if_neg c1]
theorem q_heatP (hI : q_I D E W s l x y u v) (h0 : ¬ s 94 = 0) : q_I D E W (q_ht s) l x y u v ∧ q_ht s 94 = s 94 := by
  have b : ∀ a c f, 0 ≤ (q_ov a c f).toInt ∧ (q_ov a c f).toInt ≤ 1 := by
    intro a c f
    rcases q_ov01 a c f with h | h
    · rw [h]; decide
    · rw [h]; decide
  have o : ∀ w, (w < 37 ∨ 39 < w) → q_ht s w = s w := by
    intro w hw
    unfold q_ht
    rw [q_un (by omega), q_un (by omega), q_un (by omega)]
  refine ⟨q_I_s hI h0 (q_R_u (q_R_u (q_R_u hI.1 (b _ _ _)) (b _ _ _)) (b _ _ _)) ?_, o 94 (by omega)⟩
  intro w hw
  unfold q_Ss at hw
  exact o w (by omega)
end QWA

/-! PURE: the BUS in the LOOP; the tester's clock -/
section QBX
variable {s x u s' x' u' s1 x1 u1 s2 u2 : Nat → Int32} {l y v l' y' v' l2 v2 : Nat → Int64} {D E W : Int} {fu : Nat}
theorem q_I_x (h : q_I D E W s l x y u v) (h0 : ¬ s 94 = 0) (hr : q_R s') (hx : q_Ex s' l x) (hf : q_Fg s' l x y u v) (g : ∀ w, q_Ss w → ¬ (w = 6 ∨ w = 44 ∨ w = 3 ∨ w = 4 ∨ w = 7 ∨ w = 8 ∨ w = 54 ∨ w = 63 ∨ w = 65 ∨ w = 95 ∨ w = 40 ∨ w = 62 ∨ w = 67 ∨ w = 70 ∨ w = 37000) → s' w = s w) : q_I D E W s' l x y u v := by
  obtain ⟨-, h2, h3, h4, h5, h6, h7, h8, h9, h10, h11, h12, h13, -⟩ := h
  obtain ⟨⟨n, a, b⟩, -⟩ := h13
  refine ⟨hr, q_Ln_c h2 ?_ ?_, h3, q_Wl_c h4 ?_ ?_ ?_ rfl rfl rfl rfl rfl rfl rfl rfl rfl, h5, q_Wt_c h6 ?_ ?_ (fun _ _ _ => rfl) (fun _ _ _ => rfl), hf, q_Fm_c h8 ?_ (fun _ _ _ => rfl) (fun _ _ _ => rfl), h9, q_Vd_c h10 ?_ (fun _ _ _ => rfl), h11, h12, ⟨⟨n, q_Ev_c a ?_ ?_ (fun _ _ => rfl) (fun _ _ => rfl) (fun _ _ => rfl) (fun _ _ => rfl) (fun c _ => by rw [Int32.sub_self, Int32.sub_self]), b⟩, hx⟩, ?_⟩
  all_goals try (intro w p q)
  all_goals first
    | (apply g; (unfold q_Ss; omega); omega)
    | skip
  · intro i hi
    exact g _ (by unfold q_Ss; omega) (by omega)
  · intro z
    rw [g 94 (by unfold q_Ss; omega) (by omega)] at z
    exact absurd z h0
def q_de (a : Int32) : Int32 := if 0 < a then a - 1 else 0
theorem q_deC {a : Int32} (h : 0 ≤ a.toInt) : (if 0 < a - 1 then a - 1 else 0) = q_de a := by
  have e : (a - 1).toInt = a.toInt - 1 := q_sub (by simp only [Int32.reduceToInt]; omega) (by simp only [Int32.reduceToInt]; have := a.toInt_lt; omega)
  unfold q_de
  rw [← Int32.toInt_inj]
  simp only [q_ifI, Int32.lt_iff_toInt_lt, e, Int32.reduceToInt]
  omega
theorem q_deV {a : Int32} {n : Int} (h : 0 ≤ a.toInt ∧ a.toInt ≤ n) : 0 ≤ (q_de a).toInt ∧ (q_de a).toInt ≤ n := by
  have e : (a - 1).toInt = a.toInt - 1 := q_sub (by simp only [Int32.reduceToInt]; omega) (by simp only [Int32.reduceToInt]; have := a.toInt_lt; omega)
  unfold q_de
  simp only [q_ifI, Int32.lt_iff_toInt_lt, e, Int32.reduceToInt]
  split <;> omega
def q_tk (s : Nat → Int32) : Nat → Int32 := if s 7 = 0 then pj_u (pj_u s 15 (q_de (s 15))) 6 (q_de (s 6)) else if s 8 + 1 < 100 then pj_u (pj_u s 15 (q_de (s 15))) 8 (s 8 + 1) else pj_u (pj_u (pj_u (pj_u s 15 (q_de (s 15))) 8 (s 8 + 1)) 7 0) 6 0
theorem q_tickC (hr : q_R s) : pf_X1_tick s l x y = some ((), q_tk s, l, x, y) := by
  unfold pf_X1_tick q_tk
  rw [q_max, q_b, q_deC (q_R15 hr).1, q_max, q_b, q_deC (q_R6 hr).1]
  split
  · rfl
  · split <;> rfl
theorem q_busR (hr : q_R s) (hx : q_Ex s l x) : pf_X12_busNow s l u v = pl_X12_busNow_81 (q_tk s) l u v := by
  have a8 := q_R8 hr
  have e : (s 8 + 1).toInt = (s 8).toInt + 1 := q_one (by omega) (by omega)
  have k : ∀ b, b = q_de (s 15) → pl_X12_busNow_18 b s l u v = pl_X12_busNow_81 (q_tk s) l u v := by
    intro b hb
    unfold pl_X12_busNow_18 pl_X12_busNow_46 q_tk
    rw [hb]
    by_cases c : s 7 = 0
    · rw [if_pos c, if_pos c]
      unfold q_de
      by_cases c2 : 0 < s 6
      · rw [if_pos c2, if_pos c2]
      · rw [if_neg c2, if_neg c2]
    · have h8 := hx.2.1.1 c
      rw [if_neg c, if_neg c]
      by_cases c2 : s 8 + 1 < 100
      · have c3 : ¬ s 8 + 1 = 100 := by
          intro z
          rw [z] at c2
          exact absurd c2 (by decide)
        rw [if_pos c2, if_neg c3]
      · have c3 : s 8 + 1 = 100 := by
          rw [Int32.lt_iff_toInt_lt, e] at c2
          simp only [Int32.reduceToInt] at c2
          rw [← Int32.toInt_inj, e]
          simp only [Int32.reduceToInt]
          omega
        rw [if_neg c2, if_pos c3]
  unfold pf_X12_busNow
  split
  · rename_i h
    exact k _ (by unfold q_de; rw [if_pos h])
  · rename_i h
    exact k _ (by unfold q_de; rw [if_neg h])
theorem q_tkI (hI : q_I D E W s l x y u v) (h0 : ¬ s 94 = 0) : q_I D E W (q_tk s) l x y u v ∧ ∀ w, (w < 6 ∨ 15 < w) → q_tk s w = s w := by
  have hr := hI.1
  have hx := hI.2.2.2.2.2.2.2.2.2.2.2.2.1.2
  have hf := hI.2.2.2.2.2.2.1
  have a8 := q_R8 hr
  have e : (s 8 + 1).toInt = (s 8).toInt + 1 := q_one (by omega) (by omega)
  have o : ∀ w, ¬ (w = 6 ∨ w = 7 ∨ w = 8 ∨ w = 15) → q_tk s w = s w := by
    intro w hw
    unfold q_tk
    repeat' split
    · rw [q_un (by omega), q_un (by omega)]
    · rw [q_un (by omega), q_un (by omega)]
    · rw [q_un (by omega), q_un (by omega), q_un (by omega), q_un (by omega)]
  have d15 := q_deV (q_R15 hr)
  have d6 := q_deV (q_R6 hr)
  have r15 : q_R (pj_u s 15 (q_de (s 15))) := q_R_u hr d15
  refine ⟨q_I_x hI h0 ?_ ?_ (q_Fg_c hf (o _ (by omega)) (o _ (by omega)) (o _ (by omega)) (o _ (by omega)) rfl rfl rfl rfl rfl rfl rfl rfl rfl rfl rfl rfl rfl rfl rfl rfl) ?_, fun w hw => o w (by omega)⟩
  · unfold q_tk
    split
    · exact q_R_u r15 d6
    · split
      · rename_i c
        rw [Int32.lt_iff_toInt_lt, e] at c
        simp only [Int32.reduceToInt] at c
        refine q_R_u r15 ?_
        rw [e]
        exact (by omega : 0 ≤ (s 8).toInt + 1 ∧ (s 8).toInt + 1 ≤ 100)
      · rename_i c2 c
        have h8 := hx.2.1.1 c2
        refine q_R_u (q_R_u (q_R_u r15 ?_) (by decide)) (by decide)
        rw [e]
        exact (by omega : 0 ≤ (s 8).toInt + 1 ∧ (s 8).toInt + 1 ≤ 100)
  · unfold q_Ex
    rw [o 54 (by omega), o 94 (by omega), o 95 (by omega), o 63 (by omega), o 65 (by omega), o 3 (by omega), o 4 (by omega), o 44 (by omega), o 62 (by omega), o 37000 (by omega), q_Ld_c (x' := x) (x := x) (o 70 (by omega)) (fun j _ => o _ (by omega)) rfl]
    refine ⟨hx.1, ?_, hx.2.2⟩
    unfold q_tk
    by_cases c : s 7 = 0
    · rw [if_pos c]
      refine ⟨?_, ?_⟩
      · intro z
        rw [q_un (by omega), q_un (by omega)] at z
        exact absurd c z
      · intro _
        rw [q_ua]
        have := q_deV (n := 255) ⟨(q_R6 hr).1, hx.2.1.2 c⟩
        exact this.2
    · rw [if_neg c]
      by_cases c2 : s 8 + 1 < 100
      · rw [if_pos c2]
        refine ⟨?_, ?_⟩
        · intro _
          rw [q_ua, e]
          rw [Int32.lt_iff_toInt_lt, e] at c2
          simp only [Int32.reduceToInt] at c2
          omega
        · intro z
          rw [q_un (by omega), q_un (by omega)] at z
          exact absurd z c
      · rw [if_neg c2]
        refine ⟨?_, ?_⟩
        · intro z
          rw [q_un (by omega), q_ua] at z
          exact absurd rfl z
        · intro _
          rw [q_ua]; decide
  · intro w hw hn
    exact o w (by unfold q_Ss at hw; omega)
def q_si (s : Nat → Int32) : Int32 := if s 10 < 20 then s 10 + 1 else 20
def q_ti (s : Nat → Int32) : Nat → Int32 := if q_si s = 20 then pj_u (pj_u s 10 (q_si s)) 9 1000 else pj_u s 10 (q_si s)
theorem q_siV (hr : q_R s) : 0 ≤ (q_si s).toInt ∧ (q_si s).toInt ≤ 20 := by
  have a := q_R10 hr
  have e : (s 10 + 1).toInt = (s 10).toInt + 1 := q_one (by omega) (by omega)
  unfold q_si
  simp only [q_ifI, Int32.lt_iff_toInt_lt, e, Int32.reduceToInt]
  split <;> omega
theorem q_sinceC (hr : q_R s) : pf_X1_tickSince s l x y = some ((), q_ti s, l, x, y) := by
  have a := q_R10 hr
  have e : (s 10 + 1).toInt = (s 10).toInt + 1 := q_one (by omega) (by omega)
  have e2 : (if s 10 + 1 < 20 then s 10 + 1 else 20) = q_si s := by
    unfold q_si
    rw [← Int32.toInt_inj]
    simp only [q_ifI, Int32.lt_iff_toInt_lt, e, Int32.reduceToInt]
    omega
  unfold pf_X1_tickSince q_ti
  rw [q_min, q_b, e2]
  split <;> rfl
theorem q_sinceR : pl_X12_busNow_184 s l u v = some ((), q_ti s, l, u, v) := by
  have e : ∀ b, pl_X12_busNow_205 b s l u v = some ((), (if b = 20 then pj_u (pj_u s 10 b) 9 1000 else pj_u s 10 b), l, u, v) := by
    intro b
    unfold pl_X12_busNow_205 pl_X12_busNow_228
    split
    · rfl
    · have z : s 9 = pj_u s 10 b 9 := (q_un (by omega)).symm
      rw [z, q_ui]
  have k : ∀ b, b = q_si s → pl_X12_busNow_205 b s l u v = some ((), q_ti s, l, u, v) := by
    intro b hb
    rw [e, hb]
    rfl
  unfold pl_X12_busNow_184
  split
  · rename_i h
    exact k _ (by unfold q_si; rw [if_pos h])
  · rename_i h
    exact k _ (by unfold q_si; rw [if_neg h])
theorem q_tiI (hI : q_I D E W s l x y u v) (h0 : ¬ s 94 = 0) : q_I D E W (q_ti s) l x y u v ∧ q_ti s 94 = s 94 ∧ q_ti s 95 = s 95 := by
  have hr := hI.1
  have a := q_siV hr
  have o : ∀ w, ¬ (w = 9 ∨ w = 10) → q_ti s w = s w := by
    intro w hw
    unfold q_ti
    split
    · rw [q_un (by omega), q_un (by omega)]
    · rw [q_un (by omega)]
  have r : q_R (q_ti s) := by
    unfold q_ti
    split
    · exact q_R_u (q_R_u hr a) (by decide)
    · exact q_R_u hr a
  exact ⟨q_I_s hI h0 r (fun w hw => o w (by unfold q_Ss at hw; omega)), o _ (by omega), o _ (by omega)⟩
/-- what the BUS gives in the LOOP -/
def q_Bq (D E W : Int) (F G : Option (Unit × pj_Z)) (s : Nat → Int32) (l : Nat → Int64) (x : Nat → Int32) (y : Nat → Int64) (v : Nat → Int64) : Prop := ∃ s' x' u' v', F = some ((), s', l, x', y) ∧ G = some ((), s', l, u', v') ∧ q_I D E W s' l x' y u' v' ∧ s' 94 = s 94 ∧ s' 95 = s 95 ∧ x' 1 = x 1 ∧ x' 2 = x 2 ∧ v' 13 = v 13
theorem q_b82 (hI : q_I D E W s l x y u v) (h0 : ¬ s 94 = 0) : q_Bq D E W (pl_X11_useBus_82 s l x y) (pl_X12_busNow_184 s l u v) s l x y v := by
  have t := q_tiI hI h0
  unfold pl_X11_useBus_82
  rw [q_sinceC hI.1, q_b, q_sinceR]
  exact ⟨_, _, _, _, rfl, rfl, t.1, t.2.1, t.2.2, rfl, rfl, rfl⟩
theorem q_b44 (hI : q_I D E W s l x y u v) (h0 : ¬ s 94 = 0) (hb : (x 22).toInt + 1 ≤ 3 * (x 1).toInt) : q_Bq D E W (pl_X11_useBus_44 s l x y) (pl_X12_busNow_122 s l u v) s l x y v := by
  have h12 := hI.2.2.1.1
  have c := q_rem50 (n := 50) (m := 50) h12.1 h12.2.1 rfl (by decide)
  unfold pl_X11_useBus_44 pl_X12_busNow_122
  by_cases c1 : pj_rem (x 1) 50 = 0
  · rw [if_pos c1, if_pos (c.mp c1)]
    by_cases c2 : s 13 = 0
    · rw [if_pos c2, if_pos c2]
      exact q_b82 hI h0
    · rw [if_neg c2, if_neg c2]
      obtain ⟨s', u', e1, e2, e3, e4⟩ := q_chal hI h0 hb (F := fun r4 s4 l4 x4 y4 => pl_X12_busNow_184 s4 l4 x4 y4)
      rw [e1, e2, q_b]
      obtain ⟨s2, x2, u2, v2, f1, f2, f3, f4, f5, f6, f7, f8⟩ := q_b82 e3 (by rw [e4 94 (by omega)]; exact h0)
      exact ⟨s2, x2, u2, v2, f1, f2, f3, by rw [f4, e4 94 (by omega)], by rw [f5, e4 95 (by omega)], by rw [f6, q_un (by omega)], by rw [f7, q_un (by omega)], by rw [f8, q_un (by omega)]⟩
  · rw [if_neg c1, if_neg (fun z => c1 (c.mpr z))]
    exact q_b82 hI h0
theorem q_b30 (hI : q_I D E W s l x y u v) (h0 : ¬ s 94 = 0) (hb : (x 22).toInt + 2 ≤ 3 * (x 1).toInt) : q_Bq D E W (pl_X11_useBus_30 s l x y) (pl_X12_busNow_105 s l u v) s l x y v := by
  have h12 := hI.2.2.1.1
  have c := q_rem50 (n := 10) (m := 10) h12.1 h12.2.1 rfl (by decide)
  unfold pl_X11_useBus_30 pl_X12_busNow_105
  by_cases c1 : pj_rem (x 1) 10 = 0
  · rw [if_pos c1, if_pos (c.mp c1)]
    obtain ⟨s', x', u', v', e1, e2, e3, e4, e5, e6, e7, e8, e9, e10⟩ := q_state hI h0 (by omega)
    rw [e1, e2, q_b, q_b]
    obtain ⟨s2, x2, u2, v2, f1, f2, f3, f4, f5, f6, f7, f8⟩ := q_b44 e3 (by rw [e4]; exact h0) (by rw [e6]; omega)
    exact ⟨s2, x2, u2, v2, f1, f2, f3, by rw [f4, e4], by rw [f5, e5], by rw [f6, e6], by rw [f7, e7], by rw [f8, e8]⟩
  · rw [if_neg c1, if_neg (fun z => c1 (c.mpr z))]
    exact q_b44 hI h0 (by omega)
theorem q_busP (hI : q_I D E W s l x y u v) (h0 : ¬ s 94 = 0) (hb : (x 22).toInt + 3 ≤ 3 * (x 1).toInt) : q_Bq D E W (pf_X11_useBus s l x y) (pf_X12_busNow s l u v) s l x y v := by
  have hx := hI.2.2.2.2.2.2.2.2.2.2.2.2.1.2
  have t := q_tkI hI h0
  have h12 := hI.2.2.1.1
  have c := q_rem50 (n := 2) (m := 2) h12.1 h12.2.1 rfl (by decide)
  have t94 := t.2 94 (by omega)
  have t95 := t.2 95 (by omega)
  unfold pf_X11_useBus
  rw [q_tickC hI.1, q_b, q_busR hI.1 hx]
  obtain ⟨tI, -⟩ := t
  generalize q_tk s = S at tI t94 t95
  unfold pl_X12_busNow_81
  by_cases c0 : S 7 = 0
  · rw [if_pos c0, if_pos c0]
    by_cases c1 : pj_rem (x 1) 2 = 0
    · rw [if_pos c1, if_pos (c.mp c1)]
      obtain ⟨s', x', u', v', e1, e2, e3, e4, e5, e6, e7, e8, e9, e10⟩ := q_motion tI (by rw [t94]; exact h0) (by omega)
      rw [e1, e2, q_b, q_b]
      obtain ⟨s2, x2, u2, v2, f1, f2, f3, f4, f5, f6, f7, f8⟩ := q_b30 e3 (by rw [e4, t94]; exact h0) (by rw [e6]; omega)
      exact ⟨s2, x2, u2, v2, f1, f2, f3, by rw [f4, e4, t94], by rw [f5, e5, t95], by rw [f6, e6], by rw [f7, e7], by rw [f8, e8]⟩
    · rw [if_neg c1, if_neg (fun z => c1 (c.mpr z))]
      obtain ⟨s2, x2, u2, v2, f1, f2, f3, f4, f5, f6, f7, f8⟩ := q_b30 tI (by rw [t94]; exact h0) (by omega)
      exact ⟨s2, x2, u2, v2, f1, f2, f3, by rw [f4, t94], by rw [f5, t95], f6, f7, f8⟩
  · rw [if_neg c0, if_neg c0]
    obtain ⟨s2, x2, u2, v2, f1, f2, f3, f4, f5, f6, f7, f8⟩ := q_b82 tI (by rw [t94]; exact h0)
    exact ⟨s2, x2, u2, v2, f1, f2, f3, by rw [f4, t94], by rw [f5, t95], f6, f7, f8⟩
-- the tester's clock
def q_ses (s : Nat → Int32) : Nat → Int32 := if s 63 = 0 then s else if s 65 + 1 < 500 then pj_u s 65 (s 65 + 1) else pj_u (pj_u (pj_u (pj_u s 65 (s 65 + 1)) 63 0) 64 0) 70 (-1)
theorem q_sesC : pf_X8_tick s l x y = some ((), q_ses s, l, x, y) := by
  unfold pf_X8_tick pf_X8_endSession pf_X8_close q_ses
  rw [q_b, q_b]
  repeat' split
  all_goals rfl
theorem q_sesR (hx : q_Ex s l x) : (if s 63 = 0 then pl_X12_loop_251 s l u v else (if (s 65 + 1) = 500 then pl_X12_loop_251 (pj_u (pj_u (pj_u (pj_u s 65 (s 65 + 1)) 63 0) 64 0) 70 (-1)) l u v else pl_X12_loop_251 (pj_u s 65 (s 65 + 1)) l u v)) = pl_X12_loop_251 (q_ses s) l u v := by
  unfold q_ses
  by_cases c : s 63 = 0
  · rw [if_pos c, if_pos c]
  · have h := hx.2.2.2.1 c
    have e : (s 65 + 1).toInt = (s 65).toInt + 1 := q_one (by omega) (by omega)
    rw [if_neg c, if_neg c]
    by_cases c2 : s 65 + 1 < 500
    · have c3 : ¬ s 65 + 1 = 500 := by
        intro z
        rw [z] at c2
        exact absurd c2 (by decide)
      rw [if_pos c2, if_neg c3]
    · have c3 : s 65 + 1 = 500 := by
        rw [Int32.lt_iff_toInt_lt, e] at c2
        simp only [Int32.reduceToInt] at c2
        rw [← Int32.toInt_inj, e]
        simp only [Int32.reduceToInt]
        omega
      rw [if_neg c2, if_pos c3]
theorem q_sesI (hI : q_I D E W s l x y u v) (h0 : ¬ s 94 = 0) : q_I D E W (q_ses s) l x y u v ∧ q_ses s 94 = s 94 ∧ q_ses s 95 = s 95 := by
  have hr := hI.1
  have hx := hI.2.2.2.2.2.2.2.2.2.2.2.2.1.2
  have hf := hI.2.2.2.2.2.2.1
  have o : ∀ w, ¬ (w = 63 ∨ w = 64 ∨ w = 65 ∨ w = 70) → q_ses s w = s w := by
    intro w hw
    unfold q_ses
    repeat' split
    · rfl
    · rw [q_un (by omega)]
    · rw [q_un (by omega), q_un (by omega), q_un (by omega), q_un (by omega)]
  refine ⟨q_I_x hI h0 ?_ ?_ ?_ ?_, o _ (by omega), o _ (by omega)⟩
  · unfold q_ses
    repeat' split
    · exact hr
    · exact q_R_u hr q_R_any
    · exact q_R_u (q_R_u (q_R_u (q_R_u hr q_R_any) (by decide)) (by decide)) (by decide)
  · unfold q_Ex
    rw [o 54 (by omega), o 94 (by omega), o 95 (by omega), o 7 (by omega), o 6 (by omega), o 8 (by omega), o 3 (by omega), o 4 (by omega), o 44 (by omega), o 62 (by omega), o 37000 (by omega)]
    refine ⟨hx.1, hx.2.1, hx.2.2.1, ?_, hx.2.2.2.2.1, hx.2.2.2.2.2.1, hx.2.2.2.2.2.2.1, ?_⟩
    rotate_left 1
    · have ld := hx.2.2.2.2.2.2.2
      unfold q_ses
      split
      · exact ld
      · split
        · exact q_Ld_i (q_un (by omega)) (fun j _ => q_un (by omega)) rfl ld
        · intro z
          rw [q_ua] at z
          exact absurd rfl z
    unfold q_ses
    by_cases c : s 63 = 0
    · rw [if_pos c]
      exact hx.2.2.2.1
    · have h := hx.2.2.2.1 c
      have e : (s 65 + 1).toInt = (s 65).toInt + 1 := q_one (by omega) (by omega)
      rw [if_neg c]
      by_cases c2 : s 65 + 1 < 500
      · rw [if_pos c2]
        intro _
        rw [q_ua, e]
        rw [Int32.lt_iff_toInt_lt, e] at c2
        simp only [Int32.reduceToInt] at c2
        omega
      · rw [if_neg c2]
        intro z
        rw [q_un (by omega), q_un (by omega), q_ua] at z
        exact absurd rfl z
  · unfold q_Fg
    rw [o 40 (by omega), o 62 (by omega), o 67 (by omega)]
    refine ⟨hf.1, hf.2.1, hf.2.2.1, ?_, hf.2.2.2.2⟩
    unfold q_ses
    repeat' split
    · exact hf.2.2.2.1
    · rw [q_un (by omega)]; exact hf.2.2.2.1
    · intro z; rw [q_ua] at z; exact absurd rfl z
  · intro w hw hn
    exact o w (by unfold q_Ss at hw; omega)
end QBX

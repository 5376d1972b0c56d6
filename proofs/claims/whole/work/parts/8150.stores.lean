/-! PURE: STORE and the BOOK are written: pairs -/
section QWQ
variable {s x u s' x' u' : Nat → Int32} {l y v l' y' v' : Nat → Int64} {D E W : Int} {fu k : Nat}
theorem q_I_wd (hI : q_I D E W s l x y u v) (h0 : ¬ s 94 = 0) {n : Nat} (hn : n ≤ 60) (hW : W + 60 < 2147483647) (hr : q_R s') (hV : q_Vd s' x') (h44 : ¬ s' 44 = 0) (g : ∀ w, ¬ w = 44 → w < 13000 ∨ 15000 ≤ w → s' w = s w) (k3 : x' 3 = x 3 + Int32.ofNat n) (kx : ∀ w, q_Xs w → ¬ w = 3 → (w < 2000 ∨ 3002 ≤ w) → x' w = x w) (k2 : v' 2 = v 2 + Int64.ofNat n) (mv : ∀ w, ¬ w = 2 → v' w = v w) : q_I D E (W + 60) s' l x' y u v' := by
  obtain ⟨h1, h2, h3, h4, h5, h6, h7, h8, h9, h10, h11, h12, h13, h14⟩ := hI
  obtain ⟨c1, c2, c3, c4, c5⟩ := h3
  have e : (x 3 + Int32.ofNat n).toInt = (x 3).toInt + n := by
    rw [q_add (by rw [q_onI (by omega)]; omega) (by rw [q_onI (by omega)]; omega), q_onI (by omega)]
  have eL : v 2 + Int64.ofNat n = (x 3 + Int32.ofNat n).toInt64 := by
    have z : (Int64.ofNat n).toInt = n := Int64.toInt_ofNat_of_lt (by omega)
    rw [← Int64.toInt_inj, Int32.toInt_toInt64, e, q_addL (by rw [z, c2.1, Int32.toInt_toInt64]; omega) (by rw [z, c2.1, Int32.toInt_toInt64]; omega), z, c2.1, Int32.toInt_toInt64]
  have gs : ∀ w, q_Ss w → ¬ w = 44 → (w < 13000 ∨ 15000 ≤ w) → s' w = s w := fun w _ a b => g w a b
  refine ⟨hr, q_Ln_c h2 (fun w _ _ => g w (by omega) (by omega)) (fun w _ _ => g w (by omega) (by omega)), ⟨?_, ?_, ?_, ?_, c5⟩, q_Wl_c h4 (g _ (by omega) (by omega)) (g _ (by omega) (by omega)) (g _ (by omega) (by omega)) rfl rfl ?_ ?_ ?_ ?_ rfl rfl (mv _ (by omega)), q_Pl_c h5 rfl ?_ rfl rfl rfl rfl rfl (mv _ (by omega)) (mv _ (by omega)), q_Wt_c h6 (g _ (by omega) (by omega)) (g _ (by omega) (by omega)) ?_ (fun _ _ _ => rfl), q_Fg_c h7 (g _ (by omega) (by omega)) (g _ (by omega) (by omega)) (g _ (by omega) (by omega)) (g _ (by omega) (by omega)) rfl ?_ ?_ ?_ ?_ ?_ ?_ rfl rfl rfl rfl rfl rfl rfl rfl (mv _ (by omega)), q_Fm_c h8 (g _ (by omega) (by omega)) ?_ (fun _ _ _ => rfl), q_Rc_c h9 rfl ?_ ?_ ?_ rfl (mv _ (by omega)), hV, h11, q_Pg_c h12 ?_ ?_ rfl (fun _ _ _ => rfl), ?_, ?_⟩
  · rw [kx 1 (by unfold q_Xs; omega) (by omega) (by omega), mv _ (by omega)]; exact c1
  · rw [k3, k2, eL, e]; exact ⟨rfl, by omega, by omega⟩
  · rw [kx 11 (by unfold q_Xs; omega) (by omega) (by omega), mv _ (by omega)]; exact c3
  · rw [kx 22 (by unfold q_Xs; omega) (by omega) (by omega), kx 1 (by unfold q_Xs; omega) (by omega) (by omega), mv _ (by omega)]; exact c4
  all_goals try (intro w a b)
  all_goals first
    | (apply kx; (unfold q_Xs; omega); omega; omega)
    | skip
  · obtain ⟨⟨n9, a, b⟩, hx⟩ := h13
    refine ⟨⟨n9, q_Ev_c a (g _ (by omega) (by omega)) (fun i hi => g _ (by omega) (by omega)) (fun i hi => kx _ (by unfold q_Xs; omega) (by omega) (by omega)) (fun i hi => kx _ (by unfold q_Xs; omega) (by omega) (by omega)) (fun _ _ => rfl) (fun _ _ => rfl) (fun c hc => by rw [kx _ (by unfold q_Xs; omega) (by omega) (by omega), Int32.sub_self, Int32.sub_self]), b⟩, ?_⟩
    unfold q_Ex at hx ⊢
    rw [g 54 (by omega) (by omega), g 7 (by omega) (by omega), g 6 (by omega) (by omega), g 8 (by omega) (by omega), g 94 (by omega) (by omega), g 95 (by omega) (by omega), g 63 (by omega) (by omega), g 65 (by omega) (by omega), g 3 (by omega) (by omega), g 4 (by omega) (by omega), g 62 (by omega) (by omega), g 37000 (by omega) (by omega), q_Ld_c (x := x) (g 70 (by omega) (by omega)) (fun j _ => g _ (by omega) (by omega)) (kx 21 (by unfold q_Xs; omega) (by omega) (by omega))]
    exact ⟨hx.1, hx.2.1, hx.2.2.1, hx.2.2.2.1, hx.2.2.2.2.1, h44, hx.2.2.2.2.2.2⟩
  · intro z
    rw [g 94 (by omega) (by omega)] at z
    exact absurd z h0
theorem q_R_wd (hr : q_R s) (g : ∀ w, ¬ w = 44 → w < 13000 ∨ 15000 ≤ w → s' w = s w) (h2 : -1 ≤ (s' 44).toInt) (h3 : (s' 44).toInt ≤ 1000) : q_R s' := by
  intro w
  by_cases c : w = 44
  · rw [c]; exact ⟨h2, h3⟩
  · by_cases d : w < 13000 ∨ 15000 ≤ w
    · rw [g w c d]; exact hr w
    · have z : q_rg w = (-2147483648, 2147483647) := by
        unfold q_rg
        by_cases d2 : w < 14000
        · rw [show w / 1000 = 13 by omega]; rfl
        · rw [show w / 1000 = 14 by omega]; rfl
      rw [z]; exact q_R_any
theorem q_t9_in {lo hi b : Nat} {w : Nat → Int32} {hd : Int32} : ∀ (m k : Nat), lo ≤ b → b + k + m ≤ hi → b < hi → (∀ p ∈ q_t9 b w hd m k, lo ≤ p.1 ∧ p.1 < hi) ∧ (q_t9 b w hd m k).length = m + 1 := by
  intro m
  induction m with
  | zero =>
    intro k h1 h2 h3
    refine ⟨?_, rfl⟩
    intro p hp
    have hp : p = (b, hd) := by simpa [q_t9] using hp
    rw [hp]
    exact ⟨h1, h3⟩
  | succ m ih =>
    intro k h1 h2 h3
    have i := ih (k + 1) h1 (by omega) h3
    refine ⟨?_, ?_⟩
    · intro p hp
      unfold q_t9 at hp
      rcases List.mem_cons.mp hp with z | z
      · rw [z]; exact ⟨by show lo ≤ b + k; omega, by show b + k < hi; omega⟩
      · exact i.1 p z
    · show (q_t9 b w hd m (k + 1)).length + 1 = m + 1 + 1
      rw [i.2]
theorem q_storeP (hI : q_I D E W s l x y u v) (h0 : ¬ s 94 = 0) (hW : W + 60 < 2147483647) : ∃ r S X V, (r = 0 ∨ r = 1) ∧ pf_X11_writeStore s l x y = some (r, S, l, X, y) ∧ pf_X12_writeStore s l u v = (if r = 0 then some (0, q_off0 q_rz S, pj_u (pj_u l 20 0) 61 0, q_off0 q_ru u, pj_u (pj_u (pj_u (pj_u V 6 0) 12 0) 13 0) 20 0) else some (1, S, l, u, V)) ∧ q_I D E (W + 60) S l X y u V ∧ (∀ w, ¬ w = 44 → w < 13000 ∨ 15000 ≤ w → S w = s w) ∧ X 1 = x 1 ∧ X 2 = x 2 ∧ V 13 = v 13 ∧ (∀ w, 9000 ≤ w → w < 11000 → X w = x w) ∧ X 20 = x 20 := by
  have hr := hI.1
  have hv := hI.2.2.2.2.2.2.2.2.2.1
  have hf := hI.2.2.2.2.2.2.2.1
  have hx := hI.2.2.2.2.2.2.2.2.2.2.2.2.1.2
  have h44 : ¬ s 44 = 0 := hx.2.2.2.2.2.1
  have r44 : -1 ≤ (s 44).toInt ∧ (s 44).toInt ≤ 1000 := hr 44
  have n1 : ¬ (1 : Int32) = 0 := by decide
  obtain ⟨X1, X, f1, f2, Xw, Xo⟩ := q_draft (s := s) (x := x) (u := u) (l := l) (y := y) hr hf
  have X20 : X 2000 = q_val s := by rw [Xo 2000 (by omega)]; exact hv.1
  have X30 : X 3000 = q_head s := by rw [Xo 3000 (by omega)]; exact hv.2.1
  have hdd := q_hd (s := s)
  -- the copy and its head
  have cases3 : ∃ (a : Nat) (hd : Int32), a < 2 ∧ pf_X4_writeCopy s l X y = pl_X4_writeCopy_73 1000 a 54 hd s l X y ∧ pf_X12_writeStore s l u v = pl_X12_writeStore_35 1000 hd (Int32.ofNat a) s l u v := by
    unfold pf_X4_writeCopy po_X4_writeCopy pl_X4_writeCopy_43 pf_X12_writeStore po_X12_writeStore pl_X12_writeStore_25
    rw [q_validCopy, q_b, X20, X30]
    rcases hdd.2 with c | c | c
    · refine ⟨0, 1, by omega, ?_, ?_⟩
      · have m : ¬ q_val s = 0 := by rw [c]; decide
        rw [if_neg m, if_pos c]
        rfl
      · have m : ¬ q_val s = 0 := by rw [c]; decide
        rw [if_pos c, if_neg m]
        rfl
    · refine ⟨1, q_head s + 1, by omega, ?_, ?_⟩
      · have m : ¬ q_val s = -1 := by rw [c]; decide
        rw [if_pos c, if_neg m]
        rfl
      · have m : ¬ q_val s = -1 := by rw [c]; decide
        have e := hdd.1
        rw [if_neg m] at e
        rw [if_neg m, if_pos c, e, c]
        rfl
    · refine ⟨0, q_head s + 1, by omega, ?_, ?_⟩
      · have m : ¬ q_val s = -1 := by rw [c]; decide
        have m2 : ¬ q_val s = 0 := by rw [c]; decide
        rw [if_neg m2, if_neg m]
        rfl
      · have m : ¬ q_val s = -1 := by rw [c]; decide
        have m2 : ¬ q_val s = 0 := by rw [c]; decide
        have e := hdd.1
        rw [if_neg m] at e
        rw [if_neg m, if_neg m2, e, c]
        rfl
  obtain ⟨a, hd, ha, eC, eR⟩ := cases3
  have cC := q_cpCS (s := s) (l := l) (y := y) ha hd X h44 r44.1 r44.2
  have Y54 : pj_u X (1000 + 54) (q_sm (fun j => X (1000 + j)) 53 1 hd) (1000 + 54) = q_sm (fun j => pj_u X (1000 + 54) (q_sm (fun j => X (1000 + j)) 53 1 hd) (1000 + j)) 53 1 hd := by
    rw [q_ua]
    exact (q_sm_c 53 1 hd (fun j _ h => q_un (by omega))).symm
  have Yw : ∀ k, 1 ≤ k → k ≤ 53 → pj_u X (1000 + 54) (q_sm (fun j => X (1000 + j)) 53 1 hd) (1000 + k) = X (1000 + k) := fun k _ _ => q_un (by omega)
  have Yo : ∀ w, ¬ w = 1000 + 54 → pj_u X (1000 + 54) (q_sm (fun j => X (1000 + j)) 53 1 hd) w = X w := fun w h => q_un h
  generalize pj_u X (1000 + 54) (q_sm (fun j => X (1000 + j)) 53 1 hd) = Y at cC Y54 Yw Yo
  have cR := q_cpRS (s := s) (l := l) (u := u) (v := v) ha hd (fun j => Y (1000 + j)) h0 h44 r44.1 r44.2 (fun s' v' g k a b => by rw [q_wordOf a b, q_wd_c g a b, Yw k a b, Xw k a b]) Y54
  have tin := q_t9_in (lo := 13000) (hi := 13110) (b := 13000 + 55 * a) (w := fun j => Y (1000 + j)) (hd := hd) 54 1 (by omega) (by omega) (by omega)
  have kk := q_wl_k (lo := 13000) (hi := 13110) (by omega) ((13000 + 55 * a, 0) :: q_t9 (13000 + 55 * a) (fun j => Y (1000 + j)) hd 54 1) s (fun p hp => by
    rcases List.mem_cons.mp hp with z | z
    · rw [z]; exact ⟨by show 13000 ≤ 13000 + 55 * a; omega, by show 13000 + 55 * a < 13110; omega⟩
    · exact tin.1 p z) h44 r44.1 r44.2
  have hlen : ((13000 + 55 * a, (0 : Int32)) :: q_t9 (13000 + 55 * a) (fun j => Y (1000 + j)) hd 54 1).length = 54 + 2 := by
    rw [List.length_cons, tin.2]
  rw [hlen] at kk
  generalize q_wl ((13000 + 55 * a, 0) :: q_t9 (13000 + 55 * a) (fun j => Y (1000 + j)) hd 54 1) s = Z at cC cR kk
  obtain ⟨k1, k20, k3, k4, k5, k6⟩ := kk
  have k2 : ∀ w, ¬ w = 44 → w < 13000 ∨ 15000 ≤ w → Z.2.1 w = s w := fun w n h => k20 w n (by omega)
  have x3 : X 3 = x 3 := Xo 3 (by omega)
  refine ⟨Z.1, Z.2.1, pj_u (pj_u (pj_u Y 3 (X 3 + Int32.ofNat Z.2.2)) 2000 (q_val Z.2.1)) 3000 (q_head Z.2.1), pj_u v 2 (v 2 + Int64.ofNat Z.2.2), k1, ?_, ?_, ?_, k2, ?_, ?_, ?_, ?_, ?_⟩
  · unfold pf_X11_writeStore
    rw [f1, q_b, f2, q_b]
    rw [eC, cC, q_b, q_lookOver, q_b, q_bz k1]
  · rw [eR, cR]
    rfl
  · refine q_I_wd hI h0 (n := Z.2.2) (by omega) hW (q_R_wd hr k2 k5 k6) ?_ k4 k2 ?_ ?_ ?_ ?_
    · have vB : q_valB Z.2.1 = q_valB s ∧ q_headB Z.2.1 = q_headB s := q_valB_c (fun w _ _ => k20 w (by omega) (by omega))
      unfold q_Vd at hv ⊢
      rw [vB.1, vB.2]
      simp (disch := omega) only [q_un, q_ua, Yo]
      rw [Xo _ (by omega), Xo _ (by omega)]
      exact ⟨trivial, trivial, hv.2.2⟩
    · rw [q_un (by omega), q_un (by omega), q_ua, x3]
    · intro w hw h3 h2
      unfold q_Xs at hw
      rw [q_un (by omega), q_un (by omega), q_un (by omega), Yo w (by omega), Xo w (by omega)]
    · rw [q_ua]
    · intro w hw; rw [q_un hw]
  · rw [q_un (by omega), q_un (by omega), q_un (by omega), Yo _ (by omega), Xo _ (by omega)]
  · rw [q_un (by omega), q_un (by omega), q_un (by omega), Yo _ (by omega), Xo _ (by omega)]
  · rw [q_un (by omega)]
  · intro w a b; rw [q_un (by omega), q_un (by omega), q_un (by omega), Yo _ (by omega), Xo _ (by omega)]
  · rw [q_un (by omega), q_un (by omega), q_un (by omega), Yo _ (by omega), Xo _ (by omega)]
theorem q_bookP (hI : q_I D E W s l x y u v) (h0 : ¬ s 94 = 0) (hW : W + 60 < 2147483647) : ∃ r S X V, (r = 0 ∨ r = 1) ∧ pf_X11_writeBook s l x y = some (r, S, l, X, y) ∧ pf_X12_writeBook s l u v = (if r = 0 then some (0, q_off0 q_rz S, pj_u (pj_u l 20 0) 61 0, q_off0 q_ru u, pj_u (pj_u (pj_u (pj_u V 6 0) 12 0) 13 0) 20 0) else some (1, S, l, u, V)) ∧ q_I D E (W + 60) S l X y u V ∧ (∀ w, ¬ w = 44 → w < 13000 ∨ 15000 ≤ w → S w = s w) ∧ X 1 = x 1 ∧ X 2 = x 2 ∧ V 13 = v 13 ∧ (∀ w, 9000 ≤ w → w < 11000 → X w = x w) ∧ X 20 = x 20 := by
  have hr := hI.1
  have hv := hI.2.2.2.2.2.2.2.2.2.1
  have hf := hI.2.2.2.2.2.2.2.1
  have hx := hI.2.2.2.2.2.2.2.2.2.2.2.2.1.2
  have h44 : ¬ s 44 = 0 := hx.2.2.2.2.2.1
  have r44 : -1 ≤ (s 44).toInt ∧ (s 44).toInt ≤ 1000 := hr 44
  have n1 : ¬ (1 : Int32) = 0 := by decide
  obtain ⟨X, hX⟩ : ∃ X, X = pj_y (pj_y x 1001 16 s 12000) 1017 16 s 12016 := ⟨_, rfl⟩
  have Xo : ∀ w, w < 1001 ∨ 1033 ≤ w → X w = x w := by
    intro w hw
    rw [hX, q_y_out (by omega), q_y_out (by omega)]
  have Xw : ∀ k, 1 ≤ k → k ≤ 32 → s (12000 + (k - 1)) = X (1000 + k) := by
    intro k h1 h2
    rw [hX]
    by_cases c : k ≤ 16
    · rw [q_y_out (by omega), q_y_at (by omega), show 12000 + (1000 + k - 1001) = 12000 + (k - 1) by omega]
    · rw [q_y_at (by omega), show 12016 + (1000 + k - 1017) = 12000 + (k - 1) by omega]
  have X20 : X 2001 = q_valB s := by rw [Xo 2001 (by omega)]; exact hv.2.2.1
  have X30 : X 3001 = q_headB s := by rw [Xo 3001 (by omega)]; exact hv.2.2.2
  have hdd := q_hdB (s := s)
  -- the copy and its head
  have cases3 : ∃ (a : Nat) (hd : Int32), a < 2 ∧ pf_X4_writeCopy_v1 s l X y = pl_X4_writeCopy_v1_73 1000 a 33 hd s l X y ∧ pf_X12_writeBook s l u v = pl_X12_writeBook_35 1000 hd (Int32.ofNat a) s l u v := by
    unfold pf_X4_writeCopy_v1 po_X4_writeCopy_v1 pl_X4_writeCopy_v1_43 pf_X12_writeBook po_X12_writeBook pl_X12_writeBook_25
    rw [q_validBook, q_b, X20, X30]
    rcases hdd.2 with c | c | c
    · refine ⟨0, 1, by omega, ?_, ?_⟩
      · have m : ¬ q_valB s = 0 := by rw [c]; decide
        rw [if_neg m, if_pos c]
        rfl
      · have m : ¬ q_valB s = 0 := by rw [c]; decide
        rw [if_pos c, if_neg m]
        rfl
    · refine ⟨1, q_headB s + 1, by omega, ?_, ?_⟩
      · have m : ¬ q_valB s = -1 := by rw [c]; decide
        rw [if_pos c, if_neg m]
        rfl
      · have m : ¬ q_valB s = -1 := by rw [c]; decide
        have e := hdd.1
        rw [if_neg m] at e
        rw [if_neg m, if_pos c, e, c]
        rfl
    · refine ⟨0, q_headB s + 1, by omega, ?_, ?_⟩
      · have m : ¬ q_valB s = -1 := by rw [c]; decide
        have m2 : ¬ q_valB s = 0 := by rw [c]; decide
        rw [if_neg m2, if_neg m]
        rfl
      · have m : ¬ q_valB s = -1 := by rw [c]; decide
        have m2 : ¬ q_valB s = 0 := by rw [c]; decide
        have e := hdd.1
        rw [if_neg m] at e
        rw [if_neg m, if_neg m2, e, c]
        rfl
  obtain ⟨a, hd, ha, eC, eR⟩ := cases3
  have cC := q_cpCB (s := s) (l := l) (y := y) ha hd X h44 r44.1 r44.2
  have Y54 : pj_u X (1000 + 33) (q_sm (fun j => X (1000 + j)) 32 1 hd) (1000 + 33) = q_sm (fun j => pj_u X (1000 + 33) (q_sm (fun j => X (1000 + j)) 32 1 hd) (1000 + j)) 32 1 hd := by
    rw [q_ua]
    exact (q_sm_c 32 1 hd (fun j _ h => q_un (by omega))).symm
  have Yw : ∀ k, 1 ≤ k → k ≤ 32 → pj_u X (1000 + 33) (q_sm (fun j => X (1000 + j)) 32 1 hd) (1000 + k) = X (1000 + k) := fun k _ _ => q_un (by omega)
  have Yo : ∀ w, ¬ w = 1000 + 33 → pj_u X (1000 + 33) (q_sm (fun j => X (1000 + j)) 32 1 hd) w = X w := fun w h => q_un h
  generalize pj_u X (1000 + 33) (q_sm (fun j => X (1000 + j)) 32 1 hd) = Y at cC Y54 Yw Yo
  have cR := q_cpRB (s := s) (l := l) (u := u) (v := v) ha hd (fun j => Y (1000 + j)) h0 h44 r44.1 r44.2 (fun k a b => by rw [Yw k a b]; exact Xw k a b) Y54
  have tin := q_t9_in (lo := 14000) (hi := 14068) (b := 14000 + 34 * a) (w := fun j => Y (1000 + j)) (hd := hd) 33 1 (by omega) (by omega) (by omega)
  have kk := q_wl_k (lo := 14000) (hi := 14068) (by omega) ((14000 + 34 * a, 0) :: q_t9 (14000 + 34 * a) (fun j => Y (1000 + j)) hd 33 1) s (fun p hp => by
    rcases List.mem_cons.mp hp with z | z
    · rw [z]; exact ⟨by show 14000 ≤ 14000 + 34 * a; omega, by show 14000 + 34 * a < 14068; omega⟩
    · exact tin.1 p z) h44 r44.1 r44.2
  have hlen : ((14000 + 34 * a, (0 : Int32)) :: q_t9 (14000 + 34 * a) (fun j => Y (1000 + j)) hd 33 1).length = 33 + 2 := by
    rw [List.length_cons, tin.2]
  rw [hlen] at kk
  generalize q_wl ((14000 + 34 * a, 0) :: q_t9 (14000 + 34 * a) (fun j => Y (1000 + j)) hd 33 1) s = Z at cC cR kk
  obtain ⟨k1, k20, k3, k4, k5, k6⟩ := kk
  have k2 : ∀ w, ¬ w = 44 → w < 13000 ∨ 15000 ≤ w → Z.2.1 w = s w := fun w n h => k20 w n (by omega)
  have x3 : X 3 = x 3 := Xo 3 (by omega)
  refine ⟨Z.1, Z.2.1, pj_u (pj_u (pj_u Y 3 (X 3 + Int32.ofNat Z.2.2)) 2001 (q_valB Z.2.1)) 3001 (q_headB Z.2.1), pj_u v 2 (v 2 + Int64.ofNat Z.2.2), k1, ?_, ?_, ?_, k2, ?_, ?_, ?_, ?_, ?_⟩
  · unfold pf_X11_writeBook pj_c
    rw [if_neg (by decide), if_neg (by decide), ← hX]
    rw [eC, cC, q_b, q_lookOverB, q_b, q_bz k1]
  · rw [eR, cR]
    rfl
  · refine q_I_wd hI h0 (n := Z.2.2) (by omega) hW (q_R_wd hr k2 k5 k6) ?_ k4 k2 ?_ ?_ ?_ ?_
    · have vB : q_val Z.2.1 = q_val s ∧ q_head Z.2.1 = q_head s := q_val_c (fun w _ _ => k20 w (by omega) (by omega))
      unfold q_Vd at hv ⊢
      rw [vB.1, vB.2]
      simp (disch := omega) only [q_un, q_ua, Yo]
      rw [Xo _ (by omega), Xo _ (by omega)]
      exact ⟨hv.1, hv.2.1, trivial, trivial⟩
    · rw [q_un (by omega), q_un (by omega), q_ua, x3]
    · intro w hw h3 h2
      unfold q_Xs at hw
      rw [q_un (by omega), q_un (by omega), q_un (by omega), Yo w (by omega), Xo w (by omega)]
    · rw [q_ua]
    · intro w hw; rw [q_un hw]
  · rw [q_un (by omega), q_un (by omega), q_un (by omega), Yo _ (by omega), Xo _ (by omega)]
  · rw [q_un (by omega), q_un (by omega), q_un (by omega), Yo _ (by omega), Xo _ (by omega)]
  · rw [q_un (by omega)]
  · intro w a b; rw [q_un (by omega), q_un (by omega), q_un (by omega), Yo _ (by omega), Xo _ (by omega)]
  · rw [q_un (by omega), q_un (by omega), q_un (by omega), Yo _ (by omega), Xo _ (by omega)]
end QWQ

/-! THE WRAPPERS, printed by gwr.py -/
theorem mt_R_le {d d' j : Nat} {vs : List Value} {M M' : mj_M} {E : String} (hd : d ≤ d') (h : mt_R ic_P d j vs M E M') : mt_R ic_P d' j vs M E M' := by
  obtain ⟨Y, hY, hs, n, S', ik, is, ic, w, i, q, h1, h2⟩ := h
  exact ⟨Y, hY, hs, n, S', ik, is, ic, w, i, q, mj_steps_mono (fun _ _ _ _ _ h => mj_R_le hd h) n h1, h2⟩
section AW
variable {Rel : Nat → List Value → mj_M → Option Value → mj_M → Prop} {Y : mj_Y} {Q : Option Value → mj_M → Prop} {pc ix jf n ci o m : Nat} {lv : List (Nat × Value)} {vs rest r : List Value} {v : Option Value} {M M' : mj_M}
theorem aw_cv (hl : mj_lk Y.2.2.2.2 pc = some (.invokevirtual ix, 3)) (hg : mj_pG ic_P 13000 ix = some (jf, n, some ci)) (hn : vs.length = n) (hc : ci < 100) (ho : M.1[o]? = some (ci, m)) (hs : mj_sum rest ≤ 8) (hr : Rel jf (.ref o :: vs) M v M') (k : mj_wp ic_P Rel true 13000 Y (pc + 3, lv, v.toList ++ rest, M') Q) : mj_wp ic_P Rel true 13000 Y (pc, lv, vs.reverse ++ .ref o :: rest, M) Q := by
  refine mj_wp_call hl (j' := jf) (vs := .ref o :: vs) (rest := rest) ?_ hr k
  show mj_cv ic_P 13000 ix 3 (pc, lv, vs.reverse ++ .ref o :: rest, M) = _
  unfold mj_cv
  rw [hg]
  dsimp only
  have e1 : (vs.reverse ++ .ref o :: rest).take n = vs.reverse := by rw [← hn, List.take_left' (by simp)]
  have e2 : (vs.reverse ++ .ref o :: rest).drop n = .ref o :: rest := by rw [← hn, List.drop_left' (by simp)]
  rw [e1, e2]
  dsimp only
  rw [if_pos (Or.inl ⟨rfl, by simp [hn], hc, by rw [pj_len_of ho]; rfl, hs⟩), List.reverse_reverse]
theorem aw_last {w : Int64} (hl : mj_lk Y.2.2.2.2 pc = some (.lastore, 1)) (ho : M.1[o]? = some (101, n)) (hn : 0 < n) (k : mj_wp ic_P Rel true 13000 Y (pc + 1, lv, r, (M.1, M.2.1, mj_u M.2.2.1 o 0 w, M.2.2.2)) Q) : mj_wp ic_P Rel true 13000 Y (pc, lv, .long w :: .int 0 :: .ref o :: r, M) Q := by
  refine pj_g_hw hl rfl rfl rfl rfl ?_ k
  unfold mj_hw mj_asl
  dsimp only
  rw [pj_len_of ho]
  dsimp only
  have z0 : (0 : Int32).toNatClampNeg = 0 := by decide
  have c0 : ¬ ((0 : Int32) < 0 ∨ n ≤ (0 : Int32).toNatClampNeg) := fun q => q.elim (fun z => absurd z (by decide)) (fun z => by rw [z0] at z; omega)
  rw [if_neg c0]
  rfl
end AW

set_option maxRecDepth 20000 in
theorem aw_pass {d : Nat} {M M1 : mj_M} (a1 : Int32) (r : Int32) (h0 : M.1[0]? = some (11, 17)) (h1 : M1.1[194]? = some (101, 1)) (hr : mj_R ic_P d 11002 (.ref 0 :: [.int a1]) M (some (.int r)) M1) : mj_wp ic_P (mj_R ic_P d) true 13000 il_pass (0, lv_args 0 [.ref 0, .int a1, .ref 194], [], M) (fun r9 M9 => r9 = some (.int 0) ∧ M9 = (M1.1, M1.2.1, mj_u M1.2.2.1 194 0 r.toInt64, M1.2.2.2)) := by
  refine mj_wp_one rfl rfl ?_
  refine mj_wp_one rfl rfl ?_
  refine mj_wp_one rfl rfl ?_
  refine mj_wp_one rfl rfl ?_
  refine aw_cv (vs := [.int a1]) (rest := [.int 0, .ref 194]) rfl rfl rfl (by decide) h0 (by decide) hr ?_
  refine mj_wp_one rfl rfl ?_
  refine aw_last rfl h1 (by decide) ?_
  refine mj_wp_one rfl rfl ?_
  refine mj_wp_one rfl rfl ?_
  exact mj_wp_ret rfl rfl ⟨rfl, rfl⟩

set_option maxRecDepth 20000 in
theorem ax_pass_1 {l : Launch} (hl9 : l.stackTraces = false) (hMa : mj_MaOk vwCl ic_ty mj_AW) {d : Nat} (hd : 6 ≤ d) {M M1 : mj_M} (a1 : Int32) (h0 : M.1[0]? = some (11, 17)) (hv : ∀ v ∈ ([.ref 0, .int a1, .ref 194] : List Value), mj_wv M.1.length v) (hM : mj_wM M) (ht : mt_R ic_P d 11002 (.ref 0 :: [.int a1]) M "java/lang/IllegalArgumentException" M1) : mw_Met l mj_AW ic_Ns vwCl ic_ty ic_X il_pass ih_pass (d + 2) [.ref 0, .int a1, .ref 194] M (some (.int (Int32.ofInt 1))) M1 :=
  mw_thr (n := 4) (S' := (4, lv_args 0 [.ref 0, .int a1, .ref 194], List.reverse [.int a1] ++ .ref 0 :: [.int 0, .ref 194], M)) (ix := 7) (jf := 11002) (nf := 1) (ci := 11) (o := 0) (As := [.int a1]) (rest := [.int 0, .ref 194]) (nn := 17) hl9 ic_Good hMa ig_pass (by decide +kernel) (Nat.le_of_ble_eq_true rfl) hd ⟨_, ⟨_, _, rfl, Or.inl rfl⟩, ⟨_, ⟨_, _, rfl, Or.inl rfl⟩, ⟨_, ⟨_, _, rfl, Or.inl rfl⟩, ⟨_, ⟨_, _, rfl, Or.inl rfl⟩, rfl⟩⟩⟩⟩ rfl rfl (by decide) rfl (by decide) rfl h0 (fun Y2 h => by cases h; exact mj_wa_in (q := (5, 93)) (by decide +kernel)) ht [] ⟨0, 9, 12, 13⟩ [] rfl (fun _ h => absurd h List.not_mem_nil) rfl (by decide) (mj_wa_in (q := (5, 92)) (by decide +kernel)) (List.mem_of_getElem? (i := 20) rfl) (ka := 1) (c9 := 1) rfl rfl rfl rfl rfl hv hM

set_option maxRecDepth 20000 in
theorem aw_tooth {d : Nat} {M M1 : mj_M} (a1 : Int32) (r : Int32) (h0 : M.1[0]? = some (11, 17)) (h1 : M1.1[194]? = some (101, 1)) (hr : mj_R ic_P d 11003 (.ref 0 :: [.int a1]) M (some (.int r)) M1) : mj_wp ic_P (mj_R ic_P d) true 13000 il_tooth (0, lv_args 0 [.ref 0, .int a1, .ref 194], [], M) (fun r9 M9 => r9 = some (.int 0) ∧ M9 = (M1.1, M1.2.1, mj_u M1.2.2.1 194 0 r.toInt64, M1.2.2.2)) := by
  refine mj_wp_one rfl rfl ?_
  refine mj_wp_one rfl rfl ?_
  refine mj_wp_one rfl rfl ?_
  refine mj_wp_one rfl rfl ?_
  refine aw_cv (vs := [.int a1]) (rest := [.int 0, .ref 194]) rfl rfl rfl (by decide) h0 (by decide) hr ?_
  refine mj_wp_one rfl rfl ?_
  refine aw_last rfl h1 (by decide) ?_
  refine mj_wp_one rfl rfl ?_
  refine mj_wp_one rfl rfl ?_
  exact mj_wp_ret rfl rfl ⟨rfl, rfl⟩

set_option maxRecDepth 20000 in
theorem ax_tooth_1 {l : Launch} (hl9 : l.stackTraces = false) (hMa : mj_MaOk vwCl ic_ty mj_AW) {d : Nat} (hd : 6 ≤ d) {M M1 : mj_M} (a1 : Int32) (h0 : M.1[0]? = some (11, 17)) (hv : ∀ v ∈ ([.ref 0, .int a1, .ref 194] : List Value), mj_wv M.1.length v) (hM : mj_wM M) (ht : mt_R ic_P d 11003 (.ref 0 :: [.int a1]) M "java/lang/IllegalArgumentException" M1) : mw_Met l mj_AW ic_Ns vwCl ic_ty ic_X il_tooth ih_tooth (d + 2) [.ref 0, .int a1, .ref 194] M (some (.int (Int32.ofInt 1))) M1 :=
  mw_thr (n := 4) (S' := (4, lv_args 0 [.ref 0, .int a1, .ref 194], List.reverse [.int a1] ++ .ref 0 :: [.int 0, .ref 194], M)) (ix := 15) (jf := 11003) (nf := 1) (ci := 11) (o := 0) (As := [.int a1]) (rest := [.int 0, .ref 194]) (nn := 17) hl9 ic_Good hMa ig_tooth (by decide +kernel) (Nat.le_of_ble_eq_true rfl) hd ⟨_, ⟨_, _, rfl, Or.inl rfl⟩, ⟨_, ⟨_, _, rfl, Or.inl rfl⟩, ⟨_, ⟨_, _, rfl, Or.inl rfl⟩, ⟨_, ⟨_, _, rfl, Or.inl rfl⟩, rfl⟩⟩⟩⟩ rfl rfl (by decide) rfl (by decide) rfl h0 (fun Y2 h => by cases h; exact mj_wa_in (q := (7, 92)) (by decide +kernel)) ht [] ⟨0, 9, 12, 13⟩ [] rfl (fun _ h => absurd h List.not_mem_nil) rfl (by decide) (mj_wa_in (q := (5, 92)) (by decide +kernel)) (List.mem_of_getElem? (i := 20) rfl) (ka := 1) (c9 := 1) rfl rfl rfl rfl rfl hv hM

set_option maxRecDepth 20000 in
theorem aw_cam {d : Nat} {M M1 : mj_M} (a1 : Int32) (r : Int32) (h0 : M.1[0]? = some (11, 17)) (h1 : M1.1[194]? = some (101, 1)) (hr : mj_R ic_P d 11004 (.ref 0 :: [.int a1]) M (some (.int r)) M1) : mj_wp ic_P (mj_R ic_P d) true 13000 il_cam (0, lv_args 0 [.ref 0, .int a1, .ref 194], [], M) (fun r9 M9 => r9 = some (.int 0) ∧ M9 = (M1.1, M1.2.1, mj_u M1.2.2.1 194 0 r.toInt64, M1.2.2.2)) := by
  refine mj_wp_one rfl rfl ?_
  refine mj_wp_one rfl rfl ?_
  refine mj_wp_one rfl rfl ?_
  refine mj_wp_one rfl rfl ?_
  refine aw_cv (vs := [.int a1]) (rest := [.int 0, .ref 194]) rfl rfl rfl (by decide) h0 (by decide) hr ?_
  refine mj_wp_one rfl rfl ?_
  refine aw_last rfl h1 (by decide) ?_
  refine mj_wp_one rfl rfl ?_
  refine mj_wp_one rfl rfl ?_
  exact mj_wp_ret rfl rfl ⟨rfl, rfl⟩

set_option maxRecDepth 20000 in
theorem ax_cam_1 {l : Launch} (hl9 : l.stackTraces = false) (hMa : mj_MaOk vwCl ic_ty mj_AW) {d : Nat} (hd : 6 ≤ d) {M M1 : mj_M} (a1 : Int32) (h0 : M.1[0]? = some (11, 17)) (hv : ∀ v ∈ ([.ref 0, .int a1, .ref 194] : List Value), mj_wv M.1.length v) (hM : mj_wM M) (ht : mt_R ic_P d 11004 (.ref 0 :: [.int a1]) M "java/lang/IllegalArgumentException" M1) : mw_Met l mj_AW ic_Ns vwCl ic_ty ic_X il_cam ih_cam (d + 2) [.ref 0, .int a1, .ref 194] M (some (.int (Int32.ofInt 1))) M1 :=
  mw_thr (n := 4) (S' := (4, lv_args 0 [.ref 0, .int a1, .ref 194], List.reverse [.int a1] ++ .ref 0 :: [.int 0, .ref 194], M)) (ix := 18) (jf := 11004) (nf := 1) (ci := 11) (o := 0) (As := [.int a1]) (rest := [.int 0, .ref 194]) (nn := 17) hl9 ic_Good hMa ig_cam (by decide +kernel) (Nat.le_of_ble_eq_true rfl) hd ⟨_, ⟨_, _, rfl, Or.inl rfl⟩, ⟨_, ⟨_, _, rfl, Or.inl rfl⟩, ⟨_, ⟨_, _, rfl, Or.inl rfl⟩, ⟨_, ⟨_, _, rfl, Or.inl rfl⟩, rfl⟩⟩⟩⟩ rfl rfl (by decide) rfl (by decide) rfl h0 (fun Y2 h => by cases h; exact mj_wa_in (q := (7, 198)) (by decide +kernel)) ht [] ⟨0, 9, 12, 13⟩ [] rfl (fun _ h => absurd h List.not_mem_nil) rfl (by decide) (mj_wa_in (q := (5, 92)) (by decide +kernel)) (List.mem_of_getElem? (i := 20) rfl) (ka := 1) (c9 := 1) rfl rfl rfl rfl rfl hv hM

set_option maxRecDepth 20000 in
theorem aw_turn {d : Nat} {M M1 : mj_M} (a1 : Int32) (a2 : Int32) (r : Int32) (h0 : M.1[0]? = some (11, 17)) (h1 : M1.1[194]? = some (101, 1)) (hr : mj_R ic_P d 11005 (.ref 0 :: [.int a1, .int a2]) M (some (.int r)) M1) : mj_wp ic_P (mj_R ic_P d) true 13000 il_turn (0, lv_args 0 [.ref 0, .int a1, .int a2, .ref 194], [], M) (fun r9 M9 => r9 = some (.int 0) ∧ M9 = (M1.1, M1.2.1, mj_u M1.2.2.1 194 0 r.toInt64, M1.2.2.2)) := by
  refine mj_wp_one rfl rfl ?_
  refine mj_wp_one rfl rfl ?_
  refine mj_wp_one rfl rfl ?_
  refine mj_wp_one rfl rfl ?_
  refine mj_wp_one rfl rfl ?_
  refine aw_cv (vs := [.int a1, .int a2]) (rest := [.int 0, .ref 194]) rfl rfl rfl (by decide) h0 (by decide) hr ?_
  refine mj_wp_one rfl rfl ?_
  refine aw_last rfl h1 (by decide) ?_
  refine mj_wp_one rfl rfl ?_
  refine mj_wp_one rfl rfl ?_
  exact mj_wp_ret rfl rfl ⟨rfl, rfl⟩

set_option maxRecDepth 20000 in
theorem ax_turn_1 {l : Launch} (hl9 : l.stackTraces = false) (hMa : mj_MaOk vwCl ic_ty mj_AW) {d : Nat} (hd : 6 ≤ d) {M M1 : mj_M} (a1 : Int32) (a2 : Int32) (h0 : M.1[0]? = some (11, 17)) (hv : ∀ v ∈ ([.ref 0, .int a1, .int a2, .ref 194] : List Value), mj_wv M.1.length v) (hM : mj_wM M) (ht : mt_R ic_P d 11005 (.ref 0 :: [.int a1, .int a2]) M "java/lang/IllegalArgumentException" M1) : mw_Met l mj_AW ic_Ns vwCl ic_ty ic_X il_turn ih_turn (d + 2) [.ref 0, .int a1, .int a2, .ref 194] M (some (.int (Int32.ofInt 1))) M1 :=
  mw_thr (n := 5) (S' := (5, lv_args 0 [.ref 0, .int a1, .int a2, .ref 194], List.reverse [.int a1, .int a2] ++ .ref 0 :: [.int 0, .ref 194], M)) (ix := 21) (jf := 11005) (nf := 2) (ci := 11) (o := 0) (As := [.int a1, .int a2]) (rest := [.int 0, .ref 194]) (nn := 17) hl9 ic_Good hMa ig_turn (by decide +kernel) (Nat.le_of_ble_eq_true rfl) hd ⟨_, ⟨_, _, rfl, Or.inl rfl⟩, ⟨_, ⟨_, _, rfl, Or.inl rfl⟩, ⟨_, ⟨_, _, rfl, Or.inl rfl⟩, ⟨_, ⟨_, _, rfl, Or.inl rfl⟩, ⟨_, ⟨_, _, rfl, Or.inl rfl⟩, rfl⟩⟩⟩⟩⟩ rfl rfl (by decide) rfl (by decide) rfl h0 (fun Y2 h => by cases h; exact mj_wa_in (q := (7, 214)) (by decide +kernel)) ht [] ⟨0, 10, 13, 13⟩ [] rfl (fun _ h => absurd h List.not_mem_nil) rfl (by decide) (mj_wa_in (q := (5, 92)) (by decide +kernel)) (List.mem_of_getElem? (i := 20) rfl) (ka := 2) (c9 := 1) rfl rfl rfl rfl rfl hv hM

set_option maxRecDepth 20000 in
theorem aw_run {d : Nat} {M M1 : mj_M} (a1 : Int32) (r : Int32) (h0 : M.1[0]? = some (11, 17)) (h1 : M1.1[194]? = some (101, 1)) (hr : mj_R ic_P d 11006 (.ref 0 :: [.int a1]) M (some (.int r)) M1) : mj_wp ic_P (mj_R ic_P d) true 13000 il_run (0, lv_args 0 [.ref 0, .int a1, .ref 194], [], M) (fun r9 M9 => r9 = some (.int 0) ∧ M9 = (M1.1, M1.2.1, mj_u M1.2.2.1 194 0 r.toInt64, M1.2.2.2)) := by
  refine mj_wp_one rfl rfl ?_
  refine mj_wp_one rfl rfl ?_
  refine mj_wp_one rfl rfl ?_
  refine mj_wp_one rfl rfl ?_
  refine aw_cv (vs := [.int a1]) (rest := [.int 0, .ref 194]) rfl rfl rfl (by decide) h0 (by decide) hr ?_
  refine mj_wp_one rfl rfl ?_
  refine aw_last rfl h1 (by decide) ?_
  refine mj_wp_one rfl rfl ?_
  refine mj_wp_one rfl rfl ?_
  exact mj_wp_ret rfl rfl ⟨rfl, rfl⟩

set_option maxRecDepth 20000 in
theorem ax_run_1 {l : Launch} (hl9 : l.stackTraces = false) (hMa : mj_MaOk vwCl ic_ty mj_AW) {d : Nat} (hd : 6 ≤ d) {M M1 : mj_M} (a1 : Int32) (h0 : M.1[0]? = some (11, 17)) (hv : ∀ v ∈ ([.ref 0, .int a1, .ref 194] : List Value), mj_wv M.1.length v) (hM : mj_wM M) (ht : mt_R ic_P d 11006 (.ref 0 :: [.int a1]) M "java/lang/IllegalArgumentException" M1) : mw_Met l mj_AW ic_Ns vwCl ic_ty ic_X il_run ih_run (d + 2) [.ref 0, .int a1, .ref 194] M (some (.int (Int32.ofInt 1))) M1 :=
  mw_thr (n := 4) (S' := (4, lv_args 0 [.ref 0, .int a1, .ref 194], List.reverse [.int a1] ++ .ref 0 :: [.int 0, .ref 194], M)) (ix := 25) (jf := 11006) (nf := 1) (ci := 11) (o := 0) (As := [.int a1]) (rest := [.int 0, .ref 194]) (nn := 17) hl9 ic_Good hMa ig_run (by decide +kernel) (Nat.le_of_ble_eq_true rfl) hd ⟨_, ⟨_, _, rfl, Or.inl rfl⟩, ⟨_, ⟨_, _, rfl, Or.inl rfl⟩, ⟨_, ⟨_, _, rfl, Or.inl rfl⟩, ⟨_, ⟨_, _, rfl, Or.inl rfl⟩, rfl⟩⟩⟩⟩ rfl rfl (by decide) rfl (by decide) rfl h0 (fun Y2 h => by cases h; exact mj_wa_in (q := (7, 228)) (by decide +kernel)) ht [] ⟨0, 9, 12, 13⟩ [] rfl (fun _ h => absurd h List.not_mem_nil) rfl (by decide) (mj_wa_in (q := (5, 92)) (by decide +kernel)) (List.mem_of_getElem? (i := 20) rfl) (ka := 1) (c9 := 1) rfl rfl rfl rfl rfl hv hM

set_option maxRecDepth 20000 in
theorem aw_set {d : Nat} {M M1 : mj_M} (a1 : Int32) (a2 : Int32) (r : Int32) (h0 : M.1[0]? = some (11, 17)) (h1 : M1.1[194]? = some (101, 1)) (hr : mj_R ic_P d 11008 (.ref 0 :: [.int a1, .int a2]) M (some (.int r)) M1) : mj_wp ic_P (mj_R ic_P d) true 13000 il_set (0, lv_args 0 [.ref 0, .int a1, .int a2, .ref 194], [], M) (fun r9 M9 => r9 = some (.int 0) ∧ M9 = (M1.1, M1.2.1, mj_u M1.2.2.1 194 0 (if r = 0 then 0 else 1), M1.2.2.2)) := by
  refine mj_wp_one rfl rfl ?_
  refine mj_wp_one rfl rfl ?_
  refine mj_wp_one rfl rfl ?_
  refine mj_wp_one rfl rfl ?_
  refine mj_wp_one rfl rfl ?_
  refine aw_cv (vs := [.int a1, .int a2]) (rest := [.int 0, .ref 194]) rfl rfl rfl (by decide) h0 (by decide) hr ?_
  refine mj_wp_one rfl rfl ?_
  refine mj_wp_if (c := mj_c .eq r 0) (fun h => ?_) (fun h => ?_)
  · rw [if_pos (of_decide_eq_true h)]
    refine mj_wp_one rfl rfl ?_
    refine aw_last rfl h1 (by decide) ?_
    refine mj_wp_one rfl rfl ?_
    refine mj_wp_one rfl rfl ?_
    exact mj_wp_ret rfl rfl ⟨rfl, rfl⟩
  · rw [if_neg (of_decide_eq_false h)]
    refine mj_wp_one rfl rfl ?_
    refine mj_wp_one rfl rfl ?_
    refine aw_last rfl h1 (by decide) ?_
    refine mj_wp_one rfl rfl ?_
    refine mj_wp_one rfl rfl ?_
    exact mj_wp_ret rfl rfl ⟨rfl, rfl⟩

set_option maxRecDepth 20000 in
theorem ax_set_1 {l : Launch} (hl9 : l.stackTraces = false) (hMa : mj_MaOk vwCl ic_ty mj_AW) {d : Nat} (hd : 6 ≤ d) {M M1 : mj_M} (a1 : Int32) (a2 : Int32) (h0 : M.1[0]? = some (11, 17)) (hv : ∀ v ∈ ([.ref 0, .int a1, .int a2, .ref 194] : List Value), mj_wv M.1.length v) (hM : mj_wM M) (ht : mt_R ic_P d 11008 (.ref 0 :: [.int a1, .int a2]) M "java/lang/IndexOutOfBoundsException" M1) : mw_Met l mj_AW ic_Ns vwCl ic_ty ic_X il_set ih_set (d + 2) [.ref 0, .int a1, .int a2, .ref 194] M (some (.int (Int32.ofInt 1))) M1 :=
  mw_thr (n := 5) (S' := (5, lv_args 0 [.ref 0, .int a1, .int a2, .ref 194], List.reverse [.int a1, .int a2] ++ .ref 0 :: [.int 0, .ref 194], M)) (ix := 28) (jf := 11008) (nf := 2) (ci := 11) (o := 0) (As := [.int a1, .int a2]) (rest := [.int 0, .ref 194]) (nn := 17) hl9 ic_Good hMa ig_set (by decide +kernel) (Nat.le_of_ble_eq_true rfl) hd ⟨_, ⟨_, _, rfl, Or.inl rfl⟩, ⟨_, ⟨_, _, rfl, Or.inl rfl⟩, ⟨_, ⟨_, _, rfl, Or.inl rfl⟩, ⟨_, ⟨_, _, rfl, Or.inl rfl⟩, ⟨_, ⟨_, _, rfl, Or.inl rfl⟩, rfl⟩⟩⟩⟩⟩ rfl rfl (by decide) rfl (by decide) rfl h0 (fun Y2 h => by cases h; exact mj_wa_in (q := (8, 17)) (by decide +kernel)) ht [] ⟨0, 17, 20, 32⟩ [] rfl (fun _ h => absurd h List.not_mem_nil) rfl (by decide) (mj_wa_in (q := (8, 16)) (by decide +kernel)) (List.mem_of_getElem? (i := 21) rfl) (ka := 2) (c9 := 1) rfl rfl rfl rfl rfl hv hM

set_option maxRecDepth 20000 in
theorem aw_load {d : Nat} {M M1 : mj_M} (a1 : Int32) (r : Int32) (h0 : M.1[0]? = some (11, 17)) (h1 : M1.1[194]? = some (101, 1)) (hr : mj_R ic_P d 11009 (.ref 0 :: [.int a1]) M (some (.int r)) M1) : mj_wp ic_P (mj_R ic_P d) true 13000 il_load (0, lv_args 0 [.ref 0, .int a1, .ref 194], [], M) (fun r9 M9 => r9 = some (.int 0) ∧ M9 = (M1.1, M1.2.1, mj_u M1.2.2.1 194 0 r.toInt64, M1.2.2.2)) := by
  refine mj_wp_one rfl rfl ?_
  refine mj_wp_one rfl rfl ?_
  refine mj_wp_one rfl rfl ?_
  refine mj_wp_one rfl rfl ?_
  refine aw_cv (vs := [.int a1]) (rest := [.int 0, .ref 194]) rfl rfl rfl (by decide) h0 (by decide) hr ?_
  refine mj_wp_one rfl rfl ?_
  refine aw_last rfl h1 (by decide) ?_
  refine mj_wp_one rfl rfl ?_
  refine mj_wp_one rfl rfl ?_
  exact mj_wp_ret rfl rfl ⟨rfl, rfl⟩

set_option maxRecDepth 20000 in
theorem ax_load_1 {l : Launch} (hl9 : l.stackTraces = false) (hMa : mj_MaOk vwCl ic_ty mj_AW) {d : Nat} (hd : 6 ≤ d) {M M1 : mj_M} (a1 : Int32) (h0 : M.1[0]? = some (11, 17)) (hv : ∀ v ∈ ([.ref 0, .int a1, .ref 194] : List Value), mj_wv M.1.length v) (hM : mj_wM M) (ht : mt_R ic_P d 11009 (.ref 0 :: [.int a1]) M "java/lang/IllegalArgumentException" M1) : mw_Met l mj_AW ic_Ns vwCl ic_ty ic_X il_load ih_load (d + 2) [.ref 0, .int a1, .ref 194] M (some (.int (Int32.ofInt 1))) M1 :=
  mw_thr (n := 4) (S' := (4, lv_args 0 [.ref 0, .int a1, .ref 194], List.reverse [.int a1] ++ .ref 0 :: [.int 0, .ref 194], M)) (ix := 34) (jf := 11009) (nf := 1) (ci := 11) (o := 0) (As := [.int a1]) (rest := [.int 0, .ref 194]) (nn := 17) hl9 ic_Good hMa ig_load (by decide +kernel) (Nat.le_of_ble_eq_true rfl) hd ⟨_, ⟨_, _, rfl, Or.inl rfl⟩, ⟨_, ⟨_, _, rfl, Or.inl rfl⟩, ⟨_, ⟨_, _, rfl, Or.inl rfl⟩, ⟨_, ⟨_, _, rfl, Or.inl rfl⟩, rfl⟩⟩⟩⟩ rfl rfl (by decide) rfl (by decide) rfl h0 (fun Y2 h => by cases h; exact mj_wa_in (q := (8, 40)) (by decide +kernel)) ht [] ⟨0, 9, 12, 13⟩ [] rfl (fun _ h => absurd h List.not_mem_nil) rfl (by decide) (mj_wa_in (q := (5, 92)) (by decide +kernel)) (List.mem_of_getElem? (i := 20) rfl) (ka := 1) (c9 := 1) rfl rfl rfl rfl rfl hv hM

set_option maxRecDepth 20000 in
theorem aw_pin {d : Nat} {M M1 : mj_M} (a1 : Int32) (a2 : Int32) (r : Int32) (h0 : M.1[0]? = some (11, 17)) (h1 : M1.1[194]? = some (101, 1)) (hr : mj_R ic_P d 11010 (.ref 0 :: [.int a1, .int a2]) M (some (.int r)) M1) : mj_wp ic_P (mj_R ic_P d) true 13000 il_pin (0, lv_args 0 [.ref 0, .int a1, .int a2, .ref 194], [], M) (fun r9 M9 => r9 = some (.int 0) ∧ M9 = (M1.1, M1.2.1, mj_u M1.2.2.1 194 0 r.toInt64, M1.2.2.2)) := by
  refine mj_wp_one rfl rfl ?_
  refine mj_wp_one rfl rfl ?_
  refine mj_wp_one rfl rfl ?_
  refine mj_wp_one rfl rfl ?_
  refine mj_wp_one rfl rfl ?_
  refine aw_cv (vs := [.int a1, .int a2]) (rest := [.int 0, .ref 194]) rfl rfl rfl (by decide) h0 (by decide) hr ?_
  refine mj_wp_one rfl rfl ?_
  refine aw_last rfl h1 (by decide) ?_
  refine mj_wp_one rfl rfl ?_
  refine mj_wp_one rfl rfl ?_
  exact mj_wp_ret rfl rfl ⟨rfl, rfl⟩

set_option maxRecDepth 20000 in
theorem ax_pin_1 {l : Launch} (hl9 : l.stackTraces = false) (hMa : mj_MaOk vwCl ic_ty mj_AW) {d : Nat} (hd : 6 ≤ d) {M M1 : mj_M} (a1 : Int32) (a2 : Int32) (h0 : M.1[0]? = some (11, 17)) (hv : ∀ v ∈ ([.ref 0, .int a1, .int a2, .ref 194] : List Value), mj_wv M.1.length v) (hM : mj_wM M) (ht : mt_R ic_P d 11010 (.ref 0 :: [.int a1, .int a2]) M "java/lang/IndexOutOfBoundsException" M1) : mw_Met l mj_AW ic_Ns vwCl ic_ty ic_X il_pin ih_pin (d + 2) [.ref 0, .int a1, .int a2, .ref 194] M (some (.int (Int32.ofInt 1))) M1 :=
  mw_thr (n := 5) (S' := (5, lv_args 0 [.ref 0, .int a1, .int a2, .ref 194], List.reverse [.int a1, .int a2] ++ .ref 0 :: [.int 0, .ref 194], M)) (ix := 37) (jf := 11010) (nf := 2) (ci := 11) (o := 0) (As := [.int a1, .int a2]) (rest := [.int 0, .ref 194]) (nn := 17) hl9 ic_Good hMa ig_pin (by decide +kernel) (Nat.le_of_ble_eq_true rfl) hd ⟨_, ⟨_, _, rfl, Or.inl rfl⟩, ⟨_, ⟨_, _, rfl, Or.inl rfl⟩, ⟨_, ⟨_, _, rfl, Or.inl rfl⟩, ⟨_, ⟨_, _, rfl, Or.inl rfl⟩, ⟨_, ⟨_, _, rfl, Or.inl rfl⟩, rfl⟩⟩⟩⟩⟩ rfl rfl (by decide) rfl (by decide) rfl h0 (fun Y2 h => by cases h; exact mj_wa_in (q := (8, 48)) (by decide +kernel)) ht [] ⟨0, 10, 13, 32⟩ [⟨0, 10, 17, 13⟩] rfl (fun _ h => absurd h List.not_mem_nil) rfl (by decide) (mj_wa_in (q := (8, 16)) (by decide +kernel)) (List.mem_of_getElem? (i := 21) rfl) (ka := 2) (c9 := 1) rfl rfl rfl rfl rfl hv hM

set_option maxRecDepth 20000 in
theorem ax_pin_2 {l : Launch} (hl9 : l.stackTraces = false) (hMa : mj_MaOk vwCl ic_ty mj_AW) {d : Nat} (hd : 6 ≤ d) {M M1 : mj_M} (a1 : Int32) (a2 : Int32) (h0 : M.1[0]? = some (11, 17)) (hv : ∀ v ∈ ([.ref 0, .int a1, .int a2, .ref 194] : List Value), mj_wv M.1.length v) (hM : mj_wM M) (ht : mt_R ic_P d 11010 (.ref 0 :: [.int a1, .int a2]) M "java/lang/IllegalArgumentException" M1) : mw_Met l mj_AW ic_Ns vwCl ic_ty ic_X il_pin ih_pin (d + 2) [.ref 0, .int a1, .int a2, .ref 194] M (some (.int (Int32.ofInt 2))) M1 :=
  mw_thr (n := 5) (S' := (5, lv_args 0 [.ref 0, .int a1, .int a2, .ref 194], List.reverse [.int a1, .int a2] ++ .ref 0 :: [.int 0, .ref 194], M)) (ix := 37) (jf := 11010) (nf := 2) (ci := 11) (o := 0) (As := [.int a1, .int a2]) (rest := [.int 0, .ref 194]) (nn := 17) hl9 ic_Good hMa ig_pin (by decide +kernel) (Nat.le_of_ble_eq_true rfl) hd ⟨_, ⟨_, _, rfl, Or.inl rfl⟩, ⟨_, ⟨_, _, rfl, Or.inl rfl⟩, ⟨_, ⟨_, _, rfl, Or.inl rfl⟩, ⟨_, ⟨_, _, rfl, Or.inl rfl⟩, ⟨_, ⟨_, _, rfl, Or.inl rfl⟩, rfl⟩⟩⟩⟩⟩ rfl rfl (by decide) rfl (by decide) rfl h0 (fun Y2 h => by cases h; exact mj_wa_in (q := (8, 48)) (by decide +kernel)) ht [⟨0, 10, 13, 32⟩] ⟨0, 10, 17, 13⟩ [] rfl (List.forall_mem_cons.mpr ⟨⟨by decide, "java/lang/IndexOutOfBoundsException", mj_wa_in (q := (8, 16)) (by decide +kernel), List.mem_of_getElem? (i := 0) rfl⟩, fun _ h => absurd h List.not_mem_nil⟩) rfl (by decide) (mj_wa_in (q := (5, 92)) (by decide +kernel)) (List.mem_of_getElem? (i := 20) rfl) (ka := 2) (c9 := 2) rfl rfl rfl rfl rfl hv hM

set_option maxRecDepth 20000 in
theorem aw_limits {d : Nat} {M M1 : mj_M} (a1 : Int32) (a2 : Int32) (a3 : Int32) (a4 : Int32)  (h0 : M.1[0]? = some (11, 17)) (h1 : M1.1[194]? = some (101, 1)) (hr : mj_R ic_P d 11011 (.ref 0 :: [.int a1, .int a2, .int a3, .int a4]) M none M1) : mj_wp ic_P (mj_R ic_P d) true 13000 il_limits (0, lv_args 0 [.ref 0, .int a1, .int a2, .int a3, .int a4], [], M) (fun r9 M9 => r9 = some (.int 0) ∧ M9 = M1) := by
  refine mj_wp_one rfl rfl ?_
  refine mj_wp_one rfl rfl ?_
  refine mj_wp_one rfl rfl ?_
  refine mj_wp_one rfl rfl ?_
  refine mj_wp_one rfl rfl ?_
  refine aw_cv (vs := [.int a1, .int a2, .int a3, .int a4]) (rest := []) rfl rfl rfl (by decide) h0 (by decide) hr ?_
  refine mj_wp_one rfl rfl ?_
  refine mj_wp_one rfl rfl ?_
  exact mj_wp_ret rfl rfl ⟨rfl, rfl⟩

set_option maxRecDepth 20000 in
theorem ax_limits_1 {l : Launch} (hl9 : l.stackTraces = false) (hMa : mj_MaOk vwCl ic_ty mj_AW) {d : Nat} (hd : 6 ≤ d) {M M1 : mj_M} (a1 : Int32) (a2 : Int32) (a3 : Int32) (a4 : Int32) (h0 : M.1[0]? = some (11, 17)) (hv : ∀ v ∈ ([.ref 0, .int a1, .int a2, .int a3, .int a4] : List Value), mj_wv M.1.length v) (hM : mj_wM M) (ht : mt_R ic_P d 11011 (.ref 0 :: [.int a1, .int a2, .int a3, .int a4]) M "java/lang/IndexOutOfBoundsException" M1) : mw_Met l mj_AW ic_Ns vwCl ic_ty ic_X il_limits ih_limits (d + 2) [.ref 0, .int a1, .int a2, .int a3, .int a4] M (some (.int (Int32.ofInt 1))) M1 :=
  mw_thr (n := 5) (S' := (6, lv_args 0 [.ref 0, .int a1, .int a2, .int a3, .int a4], List.reverse [.int a1, .int a2, .int a3, .int a4] ++ .ref 0 :: [], M)) (ix := 40) (jf := 11011) (nf := 4) (ci := 11) (o := 0) (As := [.int a1, .int a2, .int a3, .int a4]) (rest := []) (nn := 17) hl9 ic_Good hMa ig_limits (by decide +kernel) (Nat.le_of_ble_eq_true rfl) hd ⟨_, ⟨_, _, rfl, Or.inl rfl⟩, ⟨_, ⟨_, _, rfl, Or.inl rfl⟩, ⟨_, ⟨_, _, rfl, Or.inl rfl⟩, ⟨_, ⟨_, _, rfl, Or.inl rfl⟩, ⟨_, ⟨_, _, rfl, Or.inl rfl⟩, rfl⟩⟩⟩⟩⟩ rfl rfl (by decide) rfl (by decide) rfl h0 (fun Y2 h => by cases h; exact mj_wa_in (q := (8, 61)) (by decide +kernel)) ht [] ⟨0, 9, 12, 32⟩ [⟨0, 9, 16, 13⟩, ⟨0, 9, 20, 44⟩] rfl (fun _ h => absurd h List.not_mem_nil) rfl (by decide) (mj_wa_in (q := (8, 16)) (by decide +kernel)) (List.mem_of_getElem? (i := 21) rfl) (ka := 2) (c9 := 1) rfl rfl rfl rfl rfl hv hM

set_option maxRecDepth 20000 in
theorem ax_limits_2 {l : Launch} (hl9 : l.stackTraces = false) (hMa : mj_MaOk vwCl ic_ty mj_AW) {d : Nat} (hd : 6 ≤ d) {M M1 : mj_M} (a1 : Int32) (a2 : Int32) (a3 : Int32) (a4 : Int32) (h0 : M.1[0]? = some (11, 17)) (hv : ∀ v ∈ ([.ref 0, .int a1, .int a2, .int a3, .int a4] : List Value), mj_wv M.1.length v) (hM : mj_wM M) (ht : mt_R ic_P d 11011 (.ref 0 :: [.int a1, .int a2, .int a3, .int a4]) M "java/lang/IllegalArgumentException" M1) : mw_Met l mj_AW ic_Ns vwCl ic_ty ic_X il_limits ih_limits (d + 2) [.ref 0, .int a1, .int a2, .int a3, .int a4] M (some (.int (Int32.ofInt 2))) M1 :=
  mw_thr (n := 5) (S' := (6, lv_args 0 [.ref 0, .int a1, .int a2, .int a3, .int a4], List.reverse [.int a1, .int a2, .int a3, .int a4] ++ .ref 0 :: [], M)) (ix := 40) (jf := 11011) (nf := 4) (ci := 11) (o := 0) (As := [.int a1, .int a2, .int a3, .int a4]) (rest := []) (nn := 17) hl9 ic_Good hMa ig_limits (by decide +kernel) (Nat.le_of_ble_eq_true rfl) hd ⟨_, ⟨_, _, rfl, Or.inl rfl⟩, ⟨_, ⟨_, _, rfl, Or.inl rfl⟩, ⟨_, ⟨_, _, rfl, Or.inl rfl⟩, ⟨_, ⟨_, _, rfl, Or.inl rfl⟩, ⟨_, ⟨_, _, rfl, Or.inl rfl⟩, rfl⟩⟩⟩⟩⟩ rfl rfl (by decide) rfl (by decide) rfl h0 (fun Y2 h => by cases h; exact mj_wa_in (q := (8, 61)) (by decide +kernel)) ht [⟨0, 9, 12, 32⟩] ⟨0, 9, 16, 13⟩ [⟨0, 9, 20, 44⟩] rfl (List.forall_mem_cons.mpr ⟨⟨by decide, "java/lang/IndexOutOfBoundsException", mj_wa_in (q := (8, 16)) (by decide +kernel), List.mem_of_getElem? (i := 0) rfl⟩, fun _ h => absurd h List.not_mem_nil⟩) rfl (by decide) (mj_wa_in (q := (5, 92)) (by decide +kernel)) (List.mem_of_getElem? (i := 20) rfl) (ka := 2) (c9 := 2) rfl rfl rfl rfl rfl hv hM

set_option maxRecDepth 20000 in
theorem ax_limits_3 {l : Launch} (hl9 : l.stackTraces = false) (hMa : mj_MaOk vwCl ic_ty mj_AW) {d : Nat} (hd : 6 ≤ d) {M M1 : mj_M} (a1 : Int32) (a2 : Int32) (a3 : Int32) (a4 : Int32) (h0 : M.1[0]? = some (11, 17)) (hv : ∀ v ∈ ([.ref 0, .int a1, .int a2, .int a3, .int a4] : List Value), mj_wv M.1.length v) (hM : mj_wM M) (ht : mt_R ic_P d 11011 (.ref 0 :: [.int a1, .int a2, .int a3, .int a4]) M "java/lang/IllegalStateException" M1) : mw_Met l mj_AW ic_Ns vwCl ic_ty ic_X il_limits ih_limits (d + 2) [.ref 0, .int a1, .int a2, .int a3, .int a4] M (some (.int (Int32.ofInt 3))) M1 :=
  mw_thr (n := 5) (S' := (6, lv_args 0 [.ref 0, .int a1, .int a2, .int a3, .int a4], List.reverse [.int a1, .int a2, .int a3, .int a4] ++ .ref 0 :: [], M)) (ix := 40) (jf := 11011) (nf := 4) (ci := 11) (o := 0) (As := [.int a1, .int a2, .int a3, .int a4]) (rest := []) (nn := 17) hl9 ic_Good hMa ig_limits (by decide +kernel) (Nat.le_of_ble_eq_true rfl) hd ⟨_, ⟨_, _, rfl, Or.inl rfl⟩, ⟨_, ⟨_, _, rfl, Or.inl rfl⟩, ⟨_, ⟨_, _, rfl, Or.inl rfl⟩, ⟨_, ⟨_, _, rfl, Or.inl rfl⟩, ⟨_, ⟨_, _, rfl, Or.inl rfl⟩, rfl⟩⟩⟩⟩⟩ rfl rfl (by decide) rfl (by decide) rfl h0 (fun Y2 h => by cases h; exact mj_wa_in (q := (8, 61)) (by decide +kernel)) ht [⟨0, 9, 12, 32⟩, ⟨0, 9, 16, 13⟩] ⟨0, 9, 20, 44⟩ [] rfl (List.forall_mem_cons.mpr ⟨⟨by decide, "java/lang/IndexOutOfBoundsException", mj_wa_in (q := (8, 16)) (by decide +kernel), List.mem_of_getElem? (i := 1) rfl⟩, List.forall_mem_cons.mpr ⟨⟨by decide, "java/lang/IllegalArgumentException", mj_wa_in (q := (5, 92)) (by decide +kernel), List.mem_of_getElem? (i := 2) rfl⟩, fun _ h => absurd h List.not_mem_nil⟩⟩) rfl (by decide) (mj_wa_in (q := (8, 60)) (by decide +kernel)) (List.mem_of_getElem? (i := 22) rfl) (ka := 2) (c9 := 3) rfl rfl rfl rfl rfl hv hM

set_option maxRecDepth 20000 in
theorem aw_line {d : Nat} {M M1 : mj_M} (a1 : Int32) (a2 : Int32) (a3 : Int32) (a4 : Int32) (a5 : Int32)  (h0 : M.1[0]? = some (11, 17)) (h1 : M1.1[194]? = some (101, 1)) (hr : mj_R ic_P d 11015 (.ref 0 :: [.int a1, .int a2, .int a3, .int a4, .int a5]) M none M1) : mj_wp ic_P (mj_R ic_P d) true 13000 il_line (0, lv_args 0 [.ref 0, .int a1, .int a2, .int a3, .int a4, .int a5], [], M) (fun r9 M9 => r9 = some (.int 0) ∧ M9 = M1) := by
  refine mj_wp_one rfl rfl ?_
  refine mj_wp_one rfl rfl ?_
  refine mj_wp_one rfl rfl ?_
  refine mj_wp_one rfl rfl ?_
  refine mj_wp_one rfl rfl ?_
  refine mj_wp_one rfl rfl ?_
  refine aw_cv (vs := [.int a1, .int a2, .int a3, .int a4, .int a5]) (rest := []) rfl rfl rfl (by decide) h0 (by decide) hr ?_
  refine mj_wp_one rfl rfl ?_
  refine mj_wp_one rfl rfl ?_
  exact mj_wp_ret rfl rfl ⟨rfl, rfl⟩

set_option maxRecDepth 20000 in
theorem ax_line_1 {l : Launch} (hl9 : l.stackTraces = false) (hMa : mj_MaOk vwCl ic_ty mj_AW) {d : Nat} (hd : 6 ≤ d) {M M1 : mj_M} (a1 : Int32) (a2 : Int32) (a3 : Int32) (a4 : Int32) (a5 : Int32) (h0 : M.1[0]? = some (11, 17)) (hv : ∀ v ∈ ([.ref 0, .int a1, .int a2, .int a3, .int a4, .int a5] : List Value), mj_wv M.1.length v) (hM : mj_wM M) (ht : mt_R ic_P d 11015 (.ref 0 :: [.int a1, .int a2, .int a3, .int a4, .int a5]) M "java/lang/IndexOutOfBoundsException" M1) : mw_Met l mj_AW ic_Ns vwCl ic_ty ic_X il_line ih_line (d + 2) [.ref 0, .int a1, .int a2, .int a3, .int a4, .int a5] M (some (.int (Int32.ofInt 1))) M1 :=
  mw_thr (n := 6) (S' := (8, lv_args 0 [.ref 0, .int a1, .int a2, .int a3, .int a4, .int a5], List.reverse [.int a1, .int a2, .int a3, .int a4, .int a5] ++ .ref 0 :: [], M)) (ix := 46) (jf := 11015) (nf := 5) (ci := 11) (o := 0) (As := [.int a1, .int a2, .int a3, .int a4, .int a5]) (rest := []) (nn := 17) hl9 ic_Good hMa ig_line (by decide +kernel) (Nat.le_of_ble_eq_true rfl) hd ⟨_, ⟨_, _, rfl, Or.inl rfl⟩, ⟨_, ⟨_, _, rfl, Or.inl rfl⟩, ⟨_, ⟨_, _, rfl, Or.inl rfl⟩, ⟨_, ⟨_, _, rfl, Or.inl rfl⟩, ⟨_, ⟨_, _, rfl, Or.inl rfl⟩, ⟨_, ⟨_, _, rfl, Or.inl rfl⟩, rfl⟩⟩⟩⟩⟩⟩ rfl rfl (by decide) rfl (by decide) rfl h0 (fun Y2 h => by cases h; exact mj_wa_in (q := (8, 85)) (by decide +kernel)) ht [] ⟨0, 11, 14, 32⟩ [⟨0, 11, 18, 13⟩, ⟨0, 11, 22, 44⟩] rfl (fun _ h => absurd h List.not_mem_nil) rfl (by decide) (mj_wa_in (q := (8, 16)) (by decide +kernel)) (List.mem_of_getElem? (i := 21) rfl) (ka := 2) (c9 := 1) rfl rfl rfl rfl rfl hv hM

set_option maxRecDepth 20000 in
theorem ax_line_2 {l : Launch} (hl9 : l.stackTraces = false) (hMa : mj_MaOk vwCl ic_ty mj_AW) {d : Nat} (hd : 6 ≤ d) {M M1 : mj_M} (a1 : Int32) (a2 : Int32) (a3 : Int32) (a4 : Int32) (a5 : Int32) (h0 : M.1[0]? = some (11, 17)) (hv : ∀ v ∈ ([.ref 0, .int a1, .int a2, .int a3, .int a4, .int a5] : List Value), mj_wv M.1.length v) (hM : mj_wM M) (ht : mt_R ic_P d 11015 (.ref 0 :: [.int a1, .int a2, .int a3, .int a4, .int a5]) M "java/lang/IllegalArgumentException" M1) : mw_Met l mj_AW ic_Ns vwCl ic_ty ic_X il_line ih_line (d + 2) [.ref 0, .int a1, .int a2, .int a3, .int a4, .int a5] M (some (.int (Int32.ofInt 2))) M1 :=
  mw_thr (n := 6) (S' := (8, lv_args 0 [.ref 0, .int a1, .int a2, .int a3, .int a4, .int a5], List.reverse [.int a1, .int a2, .int a3, .int a4, .int a5] ++ .ref 0 :: [], M)) (ix := 46) (jf := 11015) (nf := 5) (ci := 11) (o := 0) (As := [.int a1, .int a2, .int a3, .int a4, .int a5]) (rest := []) (nn := 17) hl9 ic_Good hMa ig_line (by decide +kernel) (Nat.le_of_ble_eq_true rfl) hd ⟨_, ⟨_, _, rfl, Or.inl rfl⟩, ⟨_, ⟨_, _, rfl, Or.inl rfl⟩, ⟨_, ⟨_, _, rfl, Or.inl rfl⟩, ⟨_, ⟨_, _, rfl, Or.inl rfl⟩, ⟨_, ⟨_, _, rfl, Or.inl rfl⟩, ⟨_, ⟨_, _, rfl, Or.inl rfl⟩, rfl⟩⟩⟩⟩⟩⟩ rfl rfl (by decide) rfl (by decide) rfl h0 (fun Y2 h => by cases h; exact mj_wa_in (q := (8, 85)) (by decide +kernel)) ht [⟨0, 11, 14, 32⟩] ⟨0, 11, 18, 13⟩ [⟨0, 11, 22, 44⟩] rfl (List.forall_mem_cons.mpr ⟨⟨by decide, "java/lang/IndexOutOfBoundsException", mj_wa_in (q := (8, 16)) (by decide +kernel), List.mem_of_getElem? (i := 0) rfl⟩, fun _ h => absurd h List.not_mem_nil⟩) rfl (by decide) (mj_wa_in (q := (5, 92)) (by decide +kernel)) (List.mem_of_getElem? (i := 20) rfl) (ka := 2) (c9 := 2) rfl rfl rfl rfl rfl hv hM

set_option maxRecDepth 20000 in
theorem ax_line_3 {l : Launch} (hl9 : l.stackTraces = false) (hMa : mj_MaOk vwCl ic_ty mj_AW) {d : Nat} (hd : 6 ≤ d) {M M1 : mj_M} (a1 : Int32) (a2 : Int32) (a3 : Int32) (a4 : Int32) (a5 : Int32) (h0 : M.1[0]? = some (11, 17)) (hv : ∀ v ∈ ([.ref 0, .int a1, .int a2, .int a3, .int a4, .int a5] : List Value), mj_wv M.1.length v) (hM : mj_wM M) (ht : mt_R ic_P d 11015 (.ref 0 :: [.int a1, .int a2, .int a3, .int a4, .int a5]) M "java/lang/IllegalStateException" M1) : mw_Met l mj_AW ic_Ns vwCl ic_ty ic_X il_line ih_line (d + 2) [.ref 0, .int a1, .int a2, .int a3, .int a4, .int a5] M (some (.int (Int32.ofInt 3))) M1 :=
  mw_thr (n := 6) (S' := (8, lv_args 0 [.ref 0, .int a1, .int a2, .int a3, .int a4, .int a5], List.reverse [.int a1, .int a2, .int a3, .int a4, .int a5] ++ .ref 0 :: [], M)) (ix := 46) (jf := 11015) (nf := 5) (ci := 11) (o := 0) (As := [.int a1, .int a2, .int a3, .int a4, .int a5]) (rest := []) (nn := 17) hl9 ic_Good hMa ig_line (by decide +kernel) (Nat.le_of_ble_eq_true rfl) hd ⟨_, ⟨_, _, rfl, Or.inl rfl⟩, ⟨_, ⟨_, _, rfl, Or.inl rfl⟩, ⟨_, ⟨_, _, rfl, Or.inl rfl⟩, ⟨_, ⟨_, _, rfl, Or.inl rfl⟩, ⟨_, ⟨_, _, rfl, Or.inl rfl⟩, ⟨_, ⟨_, _, rfl, Or.inl rfl⟩, rfl⟩⟩⟩⟩⟩⟩ rfl rfl (by decide) rfl (by decide) rfl h0 (fun Y2 h => by cases h; exact mj_wa_in (q := (8, 85)) (by decide +kernel)) ht [⟨0, 11, 14, 32⟩, ⟨0, 11, 18, 13⟩] ⟨0, 11, 22, 44⟩ [] rfl (List.forall_mem_cons.mpr ⟨⟨by decide, "java/lang/IndexOutOfBoundsException", mj_wa_in (q := (8, 16)) (by decide +kernel), List.mem_of_getElem? (i := 1) rfl⟩, List.forall_mem_cons.mpr ⟨⟨by decide, "java/lang/IllegalArgumentException", mj_wa_in (q := (5, 92)) (by decide +kernel), List.mem_of_getElem? (i := 2) rfl⟩, fun _ h => absurd h List.not_mem_nil⟩⟩) rfl (by decide) (mj_wa_in (q := (8, 60)) (by decide +kernel)) (List.mem_of_getElem? (i := 22) rfl) (ka := 2) (c9 := 3) rfl rfl rfl rfl rfl hv hM

set_option maxRecDepth 20000 in
theorem aw_point {d : Nat} {M M1 : mj_M} (a1 : Int32) (a2 : Int32) (a3 : Int32) (r : Int32) (h0 : M.1[0]? = some (11, 17)) (h1 : M1.1[194]? = some (101, 1)) (hr : mj_R ic_P d 11016 (.ref 0 :: [.int a1, .int a2, .int a3]) M (some (.int r)) M1) : mj_wp ic_P (mj_R ic_P d) true 13000 il_point (0, lv_args 0 [.ref 0, .int a1, .int a2, .int a3, .ref 194], [], M) (fun r9 M9 => r9 = some (.int 0) ∧ M9 = (M1.1, M1.2.1, mj_u M1.2.2.1 194 0 r.toInt64, M1.2.2.2)) := by
  refine mj_wp_one rfl rfl ?_
  refine mj_wp_one rfl rfl ?_
  refine mj_wp_one rfl rfl ?_
  refine mj_wp_one rfl rfl ?_
  refine mj_wp_one rfl rfl ?_
  refine mj_wp_one rfl rfl ?_
  refine aw_cv (vs := [.int a1, .int a2, .int a3]) (rest := [.int 0, .ref 194]) rfl rfl rfl (by decide) h0 (by decide) hr ?_
  refine mj_wp_one rfl rfl ?_
  refine aw_last rfl h1 (by decide) ?_
  refine mj_wp_one rfl rfl ?_
  refine mj_wp_one rfl rfl ?_
  exact mj_wp_ret rfl rfl ⟨rfl, rfl⟩

set_option maxRecDepth 20000 in
theorem ax_point_1 {l : Launch} (hl9 : l.stackTraces = false) (hMa : mj_MaOk vwCl ic_ty mj_AW) {d : Nat} (hd : 6 ≤ d) {M M1 : mj_M} (a1 : Int32) (a2 : Int32) (a3 : Int32) (h0 : M.1[0]? = some (11, 17)) (hv : ∀ v ∈ ([.ref 0, .int a1, .int a2, .int a3, .ref 194] : List Value), mj_wv M.1.length v) (hM : mj_wM M) (ht : mt_R ic_P d 11016 (.ref 0 :: [.int a1, .int a2, .int a3]) M "java/lang/IndexOutOfBoundsException" M1) : mw_Met l mj_AW ic_Ns vwCl ic_ty ic_X il_point ih_point (d + 2) [.ref 0, .int a1, .int a2, .int a3, .ref 194] M (some (.int (Int32.ofInt 1))) M1 :=
  mw_thr (n := 6) (S' := (7, lv_args 0 [.ref 0, .int a1, .int a2, .int a3, .ref 194], List.reverse [.int a1, .int a2, .int a3] ++ .ref 0 :: [.int 0, .ref 194], M)) (ix := 50) (jf := 11016) (nf := 3) (ci := 11) (o := 0) (As := [.int a1, .int a2, .int a3]) (rest := [.int 0, .ref 194]) (nn := 17) hl9 ic_Good hMa ig_point (by decide +kernel) (Nat.le_of_ble_eq_true rfl) hd ⟨_, ⟨_, _, rfl, Or.inl rfl⟩, ⟨_, ⟨_, _, rfl, Or.inl rfl⟩, ⟨_, ⟨_, _, rfl, Or.inl rfl⟩, ⟨_, ⟨_, _, rfl, Or.inl rfl⟩, ⟨_, ⟨_, _, rfl, Or.inl rfl⟩, ⟨_, ⟨_, _, rfl, Or.inl rfl⟩, rfl⟩⟩⟩⟩⟩⟩ rfl rfl (by decide) rfl (by decide) rfl h0 (fun Y2 h => by cases h; exact mj_wa_in (q := (8, 98)) (by decide +kernel)) ht [] ⟨0, 12, 15, 32⟩ [⟨0, 12, 19, 13⟩, ⟨0, 12, 23, 44⟩] rfl (fun _ h => absurd h List.not_mem_nil) rfl (by decide) (mj_wa_in (q := (8, 16)) (by decide +kernel)) (List.mem_of_getElem? (i := 21) rfl) (ka := 2) (c9 := 1) rfl rfl rfl rfl rfl hv hM

set_option maxRecDepth 20000 in
theorem ax_point_2 {l : Launch} (hl9 : l.stackTraces = false) (hMa : mj_MaOk vwCl ic_ty mj_AW) {d : Nat} (hd : 6 ≤ d) {M M1 : mj_M} (a1 : Int32) (a2 : Int32) (a3 : Int32) (h0 : M.1[0]? = some (11, 17)) (hv : ∀ v ∈ ([.ref 0, .int a1, .int a2, .int a3, .ref 194] : List Value), mj_wv M.1.length v) (hM : mj_wM M) (ht : mt_R ic_P d 11016 (.ref 0 :: [.int a1, .int a2, .int a3]) M "java/lang/IllegalArgumentException" M1) : mw_Met l mj_AW ic_Ns vwCl ic_ty ic_X il_point ih_point (d + 2) [.ref 0, .int a1, .int a2, .int a3, .ref 194] M (some (.int (Int32.ofInt 2))) M1 :=
  mw_thr (n := 6) (S' := (7, lv_args 0 [.ref 0, .int a1, .int a2, .int a3, .ref 194], List.reverse [.int a1, .int a2, .int a3] ++ .ref 0 :: [.int 0, .ref 194], M)) (ix := 50) (jf := 11016) (nf := 3) (ci := 11) (o := 0) (As := [.int a1, .int a2, .int a3]) (rest := [.int 0, .ref 194]) (nn := 17) hl9 ic_Good hMa ig_point (by decide +kernel) (Nat.le_of_ble_eq_true rfl) hd ⟨_, ⟨_, _, rfl, Or.inl rfl⟩, ⟨_, ⟨_, _, rfl, Or.inl rfl⟩, ⟨_, ⟨_, _, rfl, Or.inl rfl⟩, ⟨_, ⟨_, _, rfl, Or.inl rfl⟩, ⟨_, ⟨_, _, rfl, Or.inl rfl⟩, ⟨_, ⟨_, _, rfl, Or.inl rfl⟩, rfl⟩⟩⟩⟩⟩⟩ rfl rfl (by decide) rfl (by decide) rfl h0 (fun Y2 h => by cases h; exact mj_wa_in (q := (8, 98)) (by decide +kernel)) ht [⟨0, 12, 15, 32⟩] ⟨0, 12, 19, 13⟩ [⟨0, 12, 23, 44⟩] rfl (List.forall_mem_cons.mpr ⟨⟨by decide, "java/lang/IndexOutOfBoundsException", mj_wa_in (q := (8, 16)) (by decide +kernel), List.mem_of_getElem? (i := 0) rfl⟩, fun _ h => absurd h List.not_mem_nil⟩) rfl (by decide) (mj_wa_in (q := (5, 92)) (by decide +kernel)) (List.mem_of_getElem? (i := 20) rfl) (ka := 2) (c9 := 2) rfl rfl rfl rfl rfl hv hM

set_option maxRecDepth 20000 in
theorem ax_point_3 {l : Launch} (hl9 : l.stackTraces = false) (hMa : mj_MaOk vwCl ic_ty mj_AW) {d : Nat} (hd : 6 ≤ d) {M M1 : mj_M} (a1 : Int32) (a2 : Int32) (a3 : Int32) (h0 : M.1[0]? = some (11, 17)) (hv : ∀ v ∈ ([.ref 0, .int a1, .int a2, .int a3, .ref 194] : List Value), mj_wv M.1.length v) (hM : mj_wM M) (ht : mt_R ic_P d 11016 (.ref 0 :: [.int a1, .int a2, .int a3]) M "java/lang/IllegalStateException" M1) : mw_Met l mj_AW ic_Ns vwCl ic_ty ic_X il_point ih_point (d + 2) [.ref 0, .int a1, .int a2, .int a3, .ref 194] M (some (.int (Int32.ofInt 3))) M1 :=
  mw_thr (n := 6) (S' := (7, lv_args 0 [.ref 0, .int a1, .int a2, .int a3, .ref 194], List.reverse [.int a1, .int a2, .int a3] ++ .ref 0 :: [.int 0, .ref 194], M)) (ix := 50) (jf := 11016) (nf := 3) (ci := 11) (o := 0) (As := [.int a1, .int a2, .int a3]) (rest := [.int 0, .ref 194]) (nn := 17) hl9 ic_Good hMa ig_point (by decide +kernel) (Nat.le_of_ble_eq_true rfl) hd ⟨_, ⟨_, _, rfl, Or.inl rfl⟩, ⟨_, ⟨_, _, rfl, Or.inl rfl⟩, ⟨_, ⟨_, _, rfl, Or.inl rfl⟩, ⟨_, ⟨_, _, rfl, Or.inl rfl⟩, ⟨_, ⟨_, _, rfl, Or.inl rfl⟩, ⟨_, ⟨_, _, rfl, Or.inl rfl⟩, rfl⟩⟩⟩⟩⟩⟩ rfl rfl (by decide) rfl (by decide) rfl h0 (fun Y2 h => by cases h; exact mj_wa_in (q := (8, 98)) (by decide +kernel)) ht [⟨0, 12, 15, 32⟩, ⟨0, 12, 19, 13⟩] ⟨0, 12, 23, 44⟩ [] rfl (List.forall_mem_cons.mpr ⟨⟨by decide, "java/lang/IndexOutOfBoundsException", mj_wa_in (q := (8, 16)) (by decide +kernel), List.mem_of_getElem? (i := 1) rfl⟩, List.forall_mem_cons.mpr ⟨⟨by decide, "java/lang/IllegalArgumentException", mj_wa_in (q := (5, 92)) (by decide +kernel), List.mem_of_getElem? (i := 2) rfl⟩, fun _ h => absurd h List.not_mem_nil⟩⟩) rfl (by decide) (mj_wa_in (q := (8, 60)) (by decide +kernel)) (List.mem_of_getElem? (i := 22) rfl) (ka := 2) (c9 := 3) rfl rfl rfl rfl rfl hv hM

set_option maxRecDepth 20000 in
theorem aw_lineAt {d : Nat} {M M1 : mj_M} (a1 : Int32) (a2 : Int32) (r : Int32) (h0 : M.1[0]? = some (11, 17)) (h1 : M1.1[194]? = some (101, 1)) (hr : mj_R ic_P d 11017 (.ref 0 :: [.int a1, .int a2]) M (some (.int r)) M1) : mj_wp ic_P (mj_R ic_P d) true 13000 il_lineAt (0, lv_args 0 [.ref 0, .int a1, .int a2, .ref 194], [], M) (fun r9 M9 => r9 = some (.int 0) ∧ M9 = (M1.1, M1.2.1, mj_u M1.2.2.1 194 0 r.toInt64, M1.2.2.2)) := by
  refine mj_wp_one rfl rfl ?_
  refine mj_wp_one rfl rfl ?_
  refine mj_wp_one rfl rfl ?_
  refine mj_wp_one rfl rfl ?_
  refine mj_wp_one rfl rfl ?_
  refine aw_cv (vs := [.int a1, .int a2]) (rest := [.int 0, .ref 194]) rfl rfl rfl (by decide) h0 (by decide) hr ?_
  refine mj_wp_one rfl rfl ?_
  refine aw_last rfl h1 (by decide) ?_
  refine mj_wp_one rfl rfl ?_
  refine mj_wp_one rfl rfl ?_
  exact mj_wp_ret rfl rfl ⟨rfl, rfl⟩

set_option maxRecDepth 20000 in
theorem ax_lineAt_1 {l : Launch} (hl9 : l.stackTraces = false) (hMa : mj_MaOk vwCl ic_ty mj_AW) {d : Nat} (hd : 6 ≤ d) {M M1 : mj_M} (a1 : Int32) (a2 : Int32) (h0 : M.1[0]? = some (11, 17)) (hv : ∀ v ∈ ([.ref 0, .int a1, .int a2, .ref 194] : List Value), mj_wv M.1.length v) (hM : mj_wM M) (ht : mt_R ic_P d 11017 (.ref 0 :: [.int a1, .int a2]) M "java/lang/IndexOutOfBoundsException" M1) : mw_Met l mj_AW ic_Ns vwCl ic_ty ic_X il_lineAt ih_lineAt (d + 2) [.ref 0, .int a1, .int a2, .ref 194] M (some (.int (Int32.ofInt 1))) M1 :=
  mw_thr (n := 5) (S' := (5, lv_args 0 [.ref 0, .int a1, .int a2, .ref 194], List.reverse [.int a1, .int a2] ++ .ref 0 :: [.int 0, .ref 194], M)) (ix := 54) (jf := 11017) (nf := 2) (ci := 11) (o := 0) (As := [.int a1, .int a2]) (rest := [.int 0, .ref 194]) (nn := 17) hl9 ic_Good hMa ig_lineAt (by decide +kernel) (Nat.le_of_ble_eq_true rfl) hd ⟨_, ⟨_, _, rfl, Or.inl rfl⟩, ⟨_, ⟨_, _, rfl, Or.inl rfl⟩, ⟨_, ⟨_, _, rfl, Or.inl rfl⟩, ⟨_, ⟨_, _, rfl, Or.inl rfl⟩, ⟨_, ⟨_, _, rfl, Or.inl rfl⟩, rfl⟩⟩⟩⟩⟩ rfl rfl (by decide) rfl (by decide) rfl h0 (fun Y2 h => by cases h; exact mj_wa_in (q := (8, 110)) (by decide +kernel)) ht [] ⟨0, 10, 13, 32⟩ [] rfl (fun _ h => absurd h List.not_mem_nil) rfl (by decide) (mj_wa_in (q := (8, 16)) (by decide +kernel)) (List.mem_of_getElem? (i := 21) rfl) (ka := 2) (c9 := 1) rfl rfl rfl rfl rfl hv hM

set_option maxRecDepth 20000 in
theorem aw_axis {d : Nat} {M M1 : mj_M} (a1 : Int32) (a2 : Int32) (a3 : Int32) (a4 : Int32) (a5 : Int32) (a6 : Int32)  (h0 : M.1[0]? = some (11, 17)) (h1 : M1.1[194]? = some (101, 1)) (hr : mj_R ic_P d 11018 (.ref 0 :: [.int a1, .int a2, .int a3, .int a4, .int a5, .int a6]) M none M1) : mj_wp ic_P (mj_R ic_P d) true 13000 il_axis (0, lv_args 0 [.ref 0, .int a1, .int a2, .int a3, .int a4, .int a5, .int a6], [], M) (fun r9 M9 => r9 = some (.int 0) ∧ M9 = M1) := by
  refine mj_wp_one rfl rfl ?_
  refine mj_wp_one rfl rfl ?_
  refine mj_wp_one rfl rfl ?_
  refine mj_wp_one rfl rfl ?_
  refine mj_wp_one rfl rfl ?_
  refine mj_wp_one rfl rfl ?_
  refine mj_wp_one rfl rfl ?_
  refine aw_cv (vs := [.int a1, .int a2, .int a3, .int a4, .int a5, .int a6]) (rest := []) rfl rfl rfl (by decide) h0 (by decide) hr ?_
  refine mj_wp_one rfl rfl ?_
  refine mj_wp_one rfl rfl ?_
  exact mj_wp_ret rfl rfl ⟨rfl, rfl⟩

set_option maxRecDepth 20000 in
theorem ax_axis_1 {l : Launch} (hl9 : l.stackTraces = false) (hMa : mj_MaOk vwCl ic_ty mj_AW) {d : Nat} (hd : 6 ≤ d) {M M1 : mj_M} (a1 : Int32) (a2 : Int32) (a3 : Int32) (a4 : Int32) (a5 : Int32) (a6 : Int32) (h0 : M.1[0]? = some (11, 17)) (hv : ∀ v ∈ ([.ref 0, .int a1, .int a2, .int a3, .int a4, .int a5, .int a6] : List Value), mj_wv M.1.length v) (hM : mj_wM M) (ht : mt_R ic_P d 11018 (.ref 0 :: [.int a1, .int a2, .int a3, .int a4, .int a5, .int a6]) M "java/lang/IndexOutOfBoundsException" M1) : mw_Met l mj_AW ic_Ns vwCl ic_ty ic_X il_axis ih_axis (d + 2) [.ref 0, .int a1, .int a2, .int a3, .int a4, .int a5, .int a6] M (some (.int (Int32.ofInt 1))) M1 :=
  mw_thr (n := 7) (S' := (10, lv_args 0 [.ref 0, .int a1, .int a2, .int a3, .int a4, .int a5, .int a6], List.reverse [.int a1, .int a2, .int a3, .int a4, .int a5, .int a6] ++ .ref 0 :: [], M)) (ix := 57) (jf := 11018) (nf := 6) (ci := 11) (o := 0) (As := [.int a1, .int a2, .int a3, .int a4, .int a5, .int a6]) (rest := []) (nn := 17) hl9 ic_Good hMa ig_axis (by decide +kernel) (Nat.le_of_ble_eq_true rfl) hd ⟨_, ⟨_, _, rfl, Or.inl rfl⟩, ⟨_, ⟨_, _, rfl, Or.inl rfl⟩, ⟨_, ⟨_, _, rfl, Or.inl rfl⟩, ⟨_, ⟨_, _, rfl, Or.inl rfl⟩, ⟨_, ⟨_, _, rfl, Or.inl rfl⟩, ⟨_, ⟨_, _, rfl, Or.inl rfl⟩, ⟨_, ⟨_, _, rfl, Or.inl rfl⟩, rfl⟩⟩⟩⟩⟩⟩⟩ rfl rfl (by decide) rfl (by decide) rfl h0 (fun Y2 h => by cases h; exact mj_wa_in (q := (8, 117)) (by decide +kernel)) ht [] ⟨0, 13, 16, 32⟩ [⟨0, 13, 20, 13⟩, ⟨0, 13, 24, 44⟩] rfl (fun _ h => absurd h List.not_mem_nil) rfl (by decide) (mj_wa_in (q := (8, 16)) (by decide +kernel)) (List.mem_of_getElem? (i := 21) rfl) (ka := 2) (c9 := 1) rfl rfl rfl rfl rfl hv hM

set_option maxRecDepth 20000 in
theorem ax_axis_2 {l : Launch} (hl9 : l.stackTraces = false) (hMa : mj_MaOk vwCl ic_ty mj_AW) {d : Nat} (hd : 6 ≤ d) {M M1 : mj_M} (a1 : Int32) (a2 : Int32) (a3 : Int32) (a4 : Int32) (a5 : Int32) (a6 : Int32) (h0 : M.1[0]? = some (11, 17)) (hv : ∀ v ∈ ([.ref 0, .int a1, .int a2, .int a3, .int a4, .int a5, .int a6] : List Value), mj_wv M.1.length v) (hM : mj_wM M) (ht : mt_R ic_P d 11018 (.ref 0 :: [.int a1, .int a2, .int a3, .int a4, .int a5, .int a6]) M "java/lang/IllegalArgumentException" M1) : mw_Met l mj_AW ic_Ns vwCl ic_ty ic_X il_axis ih_axis (d + 2) [.ref 0, .int a1, .int a2, .int a3, .int a4, .int a5, .int a6] M (some (.int (Int32.ofInt 2))) M1 :=
  mw_thr (n := 7) (S' := (10, lv_args 0 [.ref 0, .int a1, .int a2, .int a3, .int a4, .int a5, .int a6], List.reverse [.int a1, .int a2, .int a3, .int a4, .int a5, .int a6] ++ .ref 0 :: [], M)) (ix := 57) (jf := 11018) (nf := 6) (ci := 11) (o := 0) (As := [.int a1, .int a2, .int a3, .int a4, .int a5, .int a6]) (rest := []) (nn := 17) hl9 ic_Good hMa ig_axis (by decide +kernel) (Nat.le_of_ble_eq_true rfl) hd ⟨_, ⟨_, _, rfl, Or.inl rfl⟩, ⟨_, ⟨_, _, rfl, Or.inl rfl⟩, ⟨_, ⟨_, _, rfl, Or.inl rfl⟩, ⟨_, ⟨_, _, rfl, Or.inl rfl⟩, ⟨_, ⟨_, _, rfl, Or.inl rfl⟩, ⟨_, ⟨_, _, rfl, Or.inl rfl⟩, ⟨_, ⟨_, _, rfl, Or.inl rfl⟩, rfl⟩⟩⟩⟩⟩⟩⟩ rfl rfl (by decide) rfl (by decide) rfl h0 (fun Y2 h => by cases h; exact mj_wa_in (q := (8, 117)) (by decide +kernel)) ht [⟨0, 13, 16, 32⟩] ⟨0, 13, 20, 13⟩ [⟨0, 13, 24, 44⟩] rfl (List.forall_mem_cons.mpr ⟨⟨by decide, "java/lang/IndexOutOfBoundsException", mj_wa_in (q := (8, 16)) (by decide +kernel), List.mem_of_getElem? (i := 0) rfl⟩, fun _ h => absurd h List.not_mem_nil⟩) rfl (by decide) (mj_wa_in (q := (5, 92)) (by decide +kernel)) (List.mem_of_getElem? (i := 20) rfl) (ka := 2) (c9 := 2) rfl rfl rfl rfl rfl hv hM

set_option maxRecDepth 20000 in
theorem ax_axis_3 {l : Launch} (hl9 : l.stackTraces = false) (hMa : mj_MaOk vwCl ic_ty mj_AW) {d : Nat} (hd : 6 ≤ d) {M M1 : mj_M} (a1 : Int32) (a2 : Int32) (a3 : Int32) (a4 : Int32) (a5 : Int32) (a6 : Int32) (h0 : M.1[0]? = some (11, 17)) (hv : ∀ v ∈ ([.ref 0, .int a1, .int a2, .int a3, .int a4, .int a5, .int a6] : List Value), mj_wv M.1.length v) (hM : mj_wM M) (ht : mt_R ic_P d 11018 (.ref 0 :: [.int a1, .int a2, .int a3, .int a4, .int a5, .int a6]) M "java/lang/IllegalStateException" M1) : mw_Met l mj_AW ic_Ns vwCl ic_ty ic_X il_axis ih_axis (d + 2) [.ref 0, .int a1, .int a2, .int a3, .int a4, .int a5, .int a6] M (some (.int (Int32.ofInt 3))) M1 :=
  mw_thr (n := 7) (S' := (10, lv_args 0 [.ref 0, .int a1, .int a2, .int a3, .int a4, .int a5, .int a6], List.reverse [.int a1, .int a2, .int a3, .int a4, .int a5, .int a6] ++ .ref 0 :: [], M)) (ix := 57) (jf := 11018) (nf := 6) (ci := 11) (o := 0) (As := [.int a1, .int a2, .int a3, .int a4, .int a5, .int a6]) (rest := []) (nn := 17) hl9 ic_Good hMa ig_axis (by decide +kernel) (Nat.le_of_ble_eq_true rfl) hd ⟨_, ⟨_, _, rfl, Or.inl rfl⟩, ⟨_, ⟨_, _, rfl, Or.inl rfl⟩, ⟨_, ⟨_, _, rfl, Or.inl rfl⟩, ⟨_, ⟨_, _, rfl, Or.inl rfl⟩, ⟨_, ⟨_, _, rfl, Or.inl rfl⟩, ⟨_, ⟨_, _, rfl, Or.inl rfl⟩, ⟨_, ⟨_, _, rfl, Or.inl rfl⟩, rfl⟩⟩⟩⟩⟩⟩⟩ rfl rfl (by decide) rfl (by decide) rfl h0 (fun Y2 h => by cases h; exact mj_wa_in (q := (8, 117)) (by decide +kernel)) ht [⟨0, 13, 16, 32⟩, ⟨0, 13, 20, 13⟩] ⟨0, 13, 24, 44⟩ [] rfl (List.forall_mem_cons.mpr ⟨⟨by decide, "java/lang/IndexOutOfBoundsException", mj_wa_in (q := (8, 16)) (by decide +kernel), List.mem_of_getElem? (i := 1) rfl⟩, List.forall_mem_cons.mpr ⟨⟨by decide, "java/lang/IllegalArgumentException", mj_wa_in (q := (5, 92)) (by decide +kernel), List.mem_of_getElem? (i := 2) rfl⟩, fun _ h => absurd h List.not_mem_nil⟩⟩) rfl (by decide) (mj_wa_in (q := (8, 60)) (by decide +kernel)) (List.mem_of_getElem? (i := 22) rfl) (ka := 2) (c9 := 3) rfl rfl rfl rfl rfl hv hM

set_option maxRecDepth 20000 in
theorem aw_cell {d : Nat} {M M1 : mj_M} (a1 : Int32) (a2 : Int32) (a3 : Int32) (a4 : Int32) (r : Int32) (h0 : M.1[0]? = some (11, 17)) (h1 : M1.1[194]? = some (101, 1)) (hr : mj_R ic_P d 11019 (.ref 0 :: [.int a1, .int a2, .int a3, .int a4]) M (some (.int r)) M1) : mj_wp ic_P (mj_R ic_P d) true 13000 il_cell (0, lv_args 0 [.ref 0, .int a1, .int a2, .int a3, .int a4, .ref 194], [], M) (fun r9 M9 => r9 = some (.int 0) ∧ M9 = (M1.1, M1.2.1, mj_u M1.2.2.1 194 0 r.toInt64, M1.2.2.2)) := by
  refine mj_wp_one rfl rfl ?_
  refine mj_wp_one rfl rfl ?_
  refine mj_wp_one rfl rfl ?_
  refine mj_wp_one rfl rfl ?_
  refine mj_wp_one rfl rfl ?_
  refine mj_wp_one rfl rfl ?_
  refine mj_wp_one rfl rfl ?_
  refine aw_cv (vs := [.int a1, .int a2, .int a3, .int a4]) (rest := [.int 0, .ref 194]) rfl rfl rfl (by decide) h0 (by decide) hr ?_
  refine mj_wp_one rfl rfl ?_
  refine aw_last rfl h1 (by decide) ?_
  refine mj_wp_one rfl rfl ?_
  refine mj_wp_one rfl rfl ?_
  exact mj_wp_ret rfl rfl ⟨rfl, rfl⟩

set_option maxRecDepth 20000 in
theorem ax_cell_1 {l : Launch} (hl9 : l.stackTraces = false) (hMa : mj_MaOk vwCl ic_ty mj_AW) {d : Nat} (hd : 6 ≤ d) {M M1 : mj_M} (a1 : Int32) (a2 : Int32) (a3 : Int32) (a4 : Int32) (h0 : M.1[0]? = some (11, 17)) (hv : ∀ v ∈ ([.ref 0, .int a1, .int a2, .int a3, .int a4, .ref 194] : List Value), mj_wv M.1.length v) (hM : mj_wM M) (ht : mt_R ic_P d 11019 (.ref 0 :: [.int a1, .int a2, .int a3, .int a4]) M "java/lang/IndexOutOfBoundsException" M1) : mw_Met l mj_AW ic_Ns vwCl ic_ty ic_X il_cell ih_cell (d + 2) [.ref 0, .int a1, .int a2, .int a3, .int a4, .ref 194] M (some (.int (Int32.ofInt 1))) M1 :=
  mw_thr (n := 7) (S' := (9, lv_args 0 [.ref 0, .int a1, .int a2, .int a3, .int a4, .ref 194], List.reverse [.int a1, .int a2, .int a3, .int a4] ++ .ref 0 :: [.int 0, .ref 194], M)) (ix := 61) (jf := 11019) (nf := 4) (ci := 11) (o := 0) (As := [.int a1, .int a2, .int a3, .int a4]) (rest := [.int 0, .ref 194]) (nn := 17) hl9 ic_Good hMa ig_cell (by decide +kernel) (Nat.le_of_ble_eq_true rfl) hd ⟨_, ⟨_, _, rfl, Or.inl rfl⟩, ⟨_, ⟨_, _, rfl, Or.inl rfl⟩, ⟨_, ⟨_, _, rfl, Or.inl rfl⟩, ⟨_, ⟨_, _, rfl, Or.inl rfl⟩, ⟨_, ⟨_, _, rfl, Or.inl rfl⟩, ⟨_, ⟨_, _, rfl, Or.inl rfl⟩, ⟨_, ⟨_, _, rfl, Or.inl rfl⟩, rfl⟩⟩⟩⟩⟩⟩⟩ rfl rfl (by decide) rfl (by decide) rfl h0 (fun Y2 h => by cases h; exact mj_wa_in (q := (8, 126)) (by decide +kernel)) ht [] ⟨0, 14, 17, 32⟩ [⟨0, 14, 21, 13⟩, ⟨0, 14, 25, 44⟩] rfl (fun _ h => absurd h List.not_mem_nil) rfl (by decide) (mj_wa_in (q := (8, 16)) (by decide +kernel)) (List.mem_of_getElem? (i := 21) rfl) (ka := 2) (c9 := 1) rfl rfl rfl rfl rfl hv hM

set_option maxRecDepth 20000 in
theorem ax_cell_2 {l : Launch} (hl9 : l.stackTraces = false) (hMa : mj_MaOk vwCl ic_ty mj_AW) {d : Nat} (hd : 6 ≤ d) {M M1 : mj_M} (a1 : Int32) (a2 : Int32) (a3 : Int32) (a4 : Int32) (h0 : M.1[0]? = some (11, 17)) (hv : ∀ v ∈ ([.ref 0, .int a1, .int a2, .int a3, .int a4, .ref 194] : List Value), mj_wv M.1.length v) (hM : mj_wM M) (ht : mt_R ic_P d 11019 (.ref 0 :: [.int a1, .int a2, .int a3, .int a4]) M "java/lang/IllegalArgumentException" M1) : mw_Met l mj_AW ic_Ns vwCl ic_ty ic_X il_cell ih_cell (d + 2) [.ref 0, .int a1, .int a2, .int a3, .int a4, .ref 194] M (some (.int (Int32.ofInt 2))) M1 :=
  mw_thr (n := 7) (S' := (9, lv_args 0 [.ref 0, .int a1, .int a2, .int a3, .int a4, .ref 194], List.reverse [.int a1, .int a2, .int a3, .int a4] ++ .ref 0 :: [.int 0, .ref 194], M)) (ix := 61) (jf := 11019) (nf := 4) (ci := 11) (o := 0) (As := [.int a1, .int a2, .int a3, .int a4]) (rest := [.int 0, .ref 194]) (nn := 17) hl9 ic_Good hMa ig_cell (by decide +kernel) (Nat.le_of_ble_eq_true rfl) hd ⟨_, ⟨_, _, rfl, Or.inl rfl⟩, ⟨_, ⟨_, _, rfl, Or.inl rfl⟩, ⟨_, ⟨_, _, rfl, Or.inl rfl⟩, ⟨_, ⟨_, _, rfl, Or.inl rfl⟩, ⟨_, ⟨_, _, rfl, Or.inl rfl⟩, ⟨_, ⟨_, _, rfl, Or.inl rfl⟩, ⟨_, ⟨_, _, rfl, Or.inl rfl⟩, rfl⟩⟩⟩⟩⟩⟩⟩ rfl rfl (by decide) rfl (by decide) rfl h0 (fun Y2 h => by cases h; exact mj_wa_in (q := (8, 126)) (by decide +kernel)) ht [⟨0, 14, 17, 32⟩] ⟨0, 14, 21, 13⟩ [⟨0, 14, 25, 44⟩] rfl (List.forall_mem_cons.mpr ⟨⟨by decide, "java/lang/IndexOutOfBoundsException", mj_wa_in (q := (8, 16)) (by decide +kernel), List.mem_of_getElem? (i := 0) rfl⟩, fun _ h => absurd h List.not_mem_nil⟩) rfl (by decide) (mj_wa_in (q := (5, 92)) (by decide +kernel)) (List.mem_of_getElem? (i := 20) rfl) (ka := 2) (c9 := 2) rfl rfl rfl rfl rfl hv hM

set_option maxRecDepth 20000 in
theorem ax_cell_3 {l : Launch} (hl9 : l.stackTraces = false) (hMa : mj_MaOk vwCl ic_ty mj_AW) {d : Nat} (hd : 6 ≤ d) {M M1 : mj_M} (a1 : Int32) (a2 : Int32) (a3 : Int32) (a4 : Int32) (h0 : M.1[0]? = some (11, 17)) (hv : ∀ v ∈ ([.ref 0, .int a1, .int a2, .int a3, .int a4, .ref 194] : List Value), mj_wv M.1.length v) (hM : mj_wM M) (ht : mt_R ic_P d 11019 (.ref 0 :: [.int a1, .int a2, .int a3, .int a4]) M "java/lang/IllegalStateException" M1) : mw_Met l mj_AW ic_Ns vwCl ic_ty ic_X il_cell ih_cell (d + 2) [.ref 0, .int a1, .int a2, .int a3, .int a4, .ref 194] M (some (.int (Int32.ofInt 3))) M1 :=
  mw_thr (n := 7) (S' := (9, lv_args 0 [.ref 0, .int a1, .int a2, .int a3, .int a4, .ref 194], List.reverse [.int a1, .int a2, .int a3, .int a4] ++ .ref 0 :: [.int 0, .ref 194], M)) (ix := 61) (jf := 11019) (nf := 4) (ci := 11) (o := 0) (As := [.int a1, .int a2, .int a3, .int a4]) (rest := [.int 0, .ref 194]) (nn := 17) hl9 ic_Good hMa ig_cell (by decide +kernel) (Nat.le_of_ble_eq_true rfl) hd ⟨_, ⟨_, _, rfl, Or.inl rfl⟩, ⟨_, ⟨_, _, rfl, Or.inl rfl⟩, ⟨_, ⟨_, _, rfl, Or.inl rfl⟩, ⟨_, ⟨_, _, rfl, Or.inl rfl⟩, ⟨_, ⟨_, _, rfl, Or.inl rfl⟩, ⟨_, ⟨_, _, rfl, Or.inl rfl⟩, ⟨_, ⟨_, _, rfl, Or.inl rfl⟩, rfl⟩⟩⟩⟩⟩⟩⟩ rfl rfl (by decide) rfl (by decide) rfl h0 (fun Y2 h => by cases h; exact mj_wa_in (q := (8, 126)) (by decide +kernel)) ht [⟨0, 14, 17, 32⟩, ⟨0, 14, 21, 13⟩] ⟨0, 14, 25, 44⟩ [] rfl (List.forall_mem_cons.mpr ⟨⟨by decide, "java/lang/IndexOutOfBoundsException", mj_wa_in (q := (8, 16)) (by decide +kernel), List.mem_of_getElem? (i := 1) rfl⟩, List.forall_mem_cons.mpr ⟨⟨by decide, "java/lang/IllegalArgumentException", mj_wa_in (q := (5, 92)) (by decide +kernel), List.mem_of_getElem? (i := 2) rfl⟩, fun _ h => absurd h List.not_mem_nil⟩⟩) rfl (by decide) (mj_wa_in (q := (8, 60)) (by decide +kernel)) (List.mem_of_getElem? (i := 22) rfl) (ka := 2) (c9 := 3) rfl rfl rfl rfl rfl hv hM

set_option maxRecDepth 20000 in
theorem aw_value {d : Nat} {M M1 : mj_M} (a1 : Int32) (a2 : Int32) (a3 : Int32) (r : Int32) (h0 : M.1[0]? = some (11, 17)) (h1 : M1.1[194]? = some (101, 1)) (hr : mj_R ic_P d 11020 (.ref 0 :: [.int a1, .int a2, .int a3]) M (some (.int r)) M1) : mj_wp ic_P (mj_R ic_P d) true 13000 il_value (0, lv_args 0 [.ref 0, .int a1, .int a2, .int a3, .ref 194], [], M) (fun r9 M9 => r9 = some (.int 0) ∧ M9 = (M1.1, M1.2.1, mj_u M1.2.2.1 194 0 r.toInt64, M1.2.2.2)) := by
  refine mj_wp_one rfl rfl ?_
  refine mj_wp_one rfl rfl ?_
  refine mj_wp_one rfl rfl ?_
  refine mj_wp_one rfl rfl ?_
  refine mj_wp_one rfl rfl ?_
  refine mj_wp_one rfl rfl ?_
  refine aw_cv (vs := [.int a1, .int a2, .int a3]) (rest := [.int 0, .ref 194]) rfl rfl rfl (by decide) h0 (by decide) hr ?_
  refine mj_wp_one rfl rfl ?_
  refine aw_last rfl h1 (by decide) ?_
  refine mj_wp_one rfl rfl ?_
  refine mj_wp_one rfl rfl ?_
  exact mj_wp_ret rfl rfl ⟨rfl, rfl⟩

set_option maxRecDepth 20000 in
theorem ax_value_1 {l : Launch} (hl9 : l.stackTraces = false) (hMa : mj_MaOk vwCl ic_ty mj_AW) {d : Nat} (hd : 6 ≤ d) {M M1 : mj_M} (a1 : Int32) (a2 : Int32) (a3 : Int32) (h0 : M.1[0]? = some (11, 17)) (hv : ∀ v ∈ ([.ref 0, .int a1, .int a2, .int a3, .ref 194] : List Value), mj_wv M.1.length v) (hM : mj_wM M) (ht : mt_R ic_P d 11020 (.ref 0 :: [.int a1, .int a2, .int a3]) M "java/lang/IndexOutOfBoundsException" M1) : mw_Met l mj_AW ic_Ns vwCl ic_ty ic_X il_value ih_value (d + 2) [.ref 0, .int a1, .int a2, .int a3, .ref 194] M (some (.int (Int32.ofInt 1))) M1 :=
  mw_thr (n := 6) (S' := (7, lv_args 0 [.ref 0, .int a1, .int a2, .int a3, .ref 194], List.reverse [.int a1, .int a2, .int a3] ++ .ref 0 :: [.int 0, .ref 194], M)) (ix := 65) (jf := 11020) (nf := 3) (ci := 11) (o := 0) (As := [.int a1, .int a2, .int a3]) (rest := [.int 0, .ref 194]) (nn := 17) hl9 ic_Good hMa ig_value (by decide +kernel) (Nat.le_of_ble_eq_true rfl) hd ⟨_, ⟨_, _, rfl, Or.inl rfl⟩, ⟨_, ⟨_, _, rfl, Or.inl rfl⟩, ⟨_, ⟨_, _, rfl, Or.inl rfl⟩, ⟨_, ⟨_, _, rfl, Or.inl rfl⟩, ⟨_, ⟨_, _, rfl, Or.inl rfl⟩, ⟨_, ⟨_, _, rfl, Or.inl rfl⟩, rfl⟩⟩⟩⟩⟩⟩ rfl rfl (by decide) rfl (by decide) rfl h0 (fun Y2 h => by cases h; exact mj_wa_in (q := (8, 136)) (by decide +kernel)) ht [] ⟨0, 12, 15, 32⟩ [] rfl (fun _ h => absurd h List.not_mem_nil) rfl (by decide) (mj_wa_in (q := (8, 16)) (by decide +kernel)) (List.mem_of_getElem? (i := 21) rfl) (ka := 2) (c9 := 1) rfl rfl rfl rfl rfl hv hM

set_option maxRecDepth 20000 in
theorem aw_calibrate {d : Nat} {M M1 : mj_M} (a1 : Int32) (a2 : Int32) (r : Int32) (h0 : M.1[0]? = some (11, 17)) (h1 : M1.1[194]? = some (101, 1)) (hr : mj_R ic_P d 11021 (.ref 0 :: [.int a1, .int a2]) M (some (.int r)) M1) : mj_wp ic_P (mj_R ic_P d) true 13000 il_calibrate (0, lv_args 0 [.ref 0, .int a1, .int a2, .ref 194], [], M) (fun r9 M9 => r9 = some (.int 0) ∧ M9 = (M1.1, M1.2.1, mj_u M1.2.2.1 194 0 r.toInt64, M1.2.2.2)) := by
  refine mj_wp_one rfl rfl ?_
  refine mj_wp_one rfl rfl ?_
  refine mj_wp_one rfl rfl ?_
  refine mj_wp_one rfl rfl ?_
  refine mj_wp_one rfl rfl ?_
  refine aw_cv (vs := [.int a1, .int a2]) (rest := [.int 0, .ref 194]) rfl rfl rfl (by decide) h0 (by decide) hr ?_
  refine mj_wp_one rfl rfl ?_
  refine aw_last rfl h1 (by decide) ?_
  refine mj_wp_one rfl rfl ?_
  refine mj_wp_one rfl rfl ?_
  exact mj_wp_ret rfl rfl ⟨rfl, rfl⟩

set_option maxRecDepth 20000 in
theorem ax_calibrate_1 {l : Launch} (hl9 : l.stackTraces = false) (hMa : mj_MaOk vwCl ic_ty mj_AW) {d : Nat} (hd : 6 ≤ d) {M M1 : mj_M} (a1 : Int32) (a2 : Int32) (h0 : M.1[0]? = some (11, 17)) (hv : ∀ v ∈ ([.ref 0, .int a1, .int a2, .ref 194] : List Value), mj_wv M.1.length v) (hM : mj_wM M) (ht : mt_R ic_P d 11021 (.ref 0 :: [.int a1, .int a2]) M "java/lang/IndexOutOfBoundsException" M1) : mw_Met l mj_AW ic_Ns vwCl ic_ty ic_X il_calibrate ih_calibrate (d + 2) [.ref 0, .int a1, .int a2, .ref 194] M (some (.int (Int32.ofInt 1))) M1 :=
  mw_thr (n := 5) (S' := (5, lv_args 0 [.ref 0, .int a1, .int a2, .ref 194], List.reverse [.int a1, .int a2] ++ .ref 0 :: [.int 0, .ref 194], M)) (ix := 68) (jf := 11021) (nf := 2) (ci := 11) (o := 0) (As := [.int a1, .int a2]) (rest := [.int 0, .ref 194]) (nn := 17) hl9 ic_Good hMa ig_calibrate (by decide +kernel) (Nat.le_of_ble_eq_true rfl) hd ⟨_, ⟨_, _, rfl, Or.inl rfl⟩, ⟨_, ⟨_, _, rfl, Or.inl rfl⟩, ⟨_, ⟨_, _, rfl, Or.inl rfl⟩, ⟨_, ⟨_, _, rfl, Or.inl rfl⟩, ⟨_, ⟨_, _, rfl, Or.inl rfl⟩, rfl⟩⟩⟩⟩⟩ rfl rfl (by decide) rfl (by decide) rfl h0 (fun Y2 h => by cases h; exact mj_wa_in (q := (8, 144)) (by decide +kernel)) ht [] ⟨0, 10, 13, 32⟩ [⟨0, 10, 17, 13⟩, ⟨0, 10, 21, 44⟩] rfl (fun _ h => absurd h List.not_mem_nil) rfl (by decide) (mj_wa_in (q := (8, 16)) (by decide +kernel)) (List.mem_of_getElem? (i := 21) rfl) (ka := 2) (c9 := 1) rfl rfl rfl rfl rfl hv hM

set_option maxRecDepth 20000 in
theorem ax_calibrate_2 {l : Launch} (hl9 : l.stackTraces = false) (hMa : mj_MaOk vwCl ic_ty mj_AW) {d : Nat} (hd : 6 ≤ d) {M M1 : mj_M} (a1 : Int32) (a2 : Int32) (h0 : M.1[0]? = some (11, 17)) (hv : ∀ v ∈ ([.ref 0, .int a1, .int a2, .ref 194] : List Value), mj_wv M.1.length v) (hM : mj_wM M) (ht : mt_R ic_P d 11021 (.ref 0 :: [.int a1, .int a2]) M "java/lang/IllegalArgumentException" M1) : mw_Met l mj_AW ic_Ns vwCl ic_ty ic_X il_calibrate ih_calibrate (d + 2) [.ref 0, .int a1, .int a2, .ref 194] M (some (.int (Int32.ofInt 2))) M1 :=
  mw_thr (n := 5) (S' := (5, lv_args 0 [.ref 0, .int a1, .int a2, .ref 194], List.reverse [.int a1, .int a2] ++ .ref 0 :: [.int 0, .ref 194], M)) (ix := 68) (jf := 11021) (nf := 2) (ci := 11) (o := 0) (As := [.int a1, .int a2]) (rest := [.int 0, .ref 194]) (nn := 17) hl9 ic_Good hMa ig_calibrate (by decide +kernel) (Nat.le_of_ble_eq_true rfl) hd ⟨_, ⟨_, _, rfl, Or.inl rfl⟩, ⟨_, ⟨_, _, rfl, Or.inl rfl⟩, ⟨_, ⟨_, _, rfl, Or.inl rfl⟩, ⟨_, ⟨_, _, rfl, Or.inl rfl⟩, ⟨_, ⟨_, _, rfl, Or.inl rfl⟩, rfl⟩⟩⟩⟩⟩ rfl rfl (by decide) rfl (by decide) rfl h0 (fun Y2 h => by cases h; exact mj_wa_in (q := (8, 144)) (by decide +kernel)) ht [⟨0, 10, 13, 32⟩] ⟨0, 10, 17, 13⟩ [⟨0, 10, 21, 44⟩] rfl (List.forall_mem_cons.mpr ⟨⟨by decide, "java/lang/IndexOutOfBoundsException", mj_wa_in (q := (8, 16)) (by decide +kernel), List.mem_of_getElem? (i := 0) rfl⟩, fun _ h => absurd h List.not_mem_nil⟩) rfl (by decide) (mj_wa_in (q := (5, 92)) (by decide +kernel)) (List.mem_of_getElem? (i := 20) rfl) (ka := 2) (c9 := 2) rfl rfl rfl rfl rfl hv hM

set_option maxRecDepth 20000 in
theorem ax_calibrate_3 {l : Launch} (hl9 : l.stackTraces = false) (hMa : mj_MaOk vwCl ic_ty mj_AW) {d : Nat} (hd : 6 ≤ d) {M M1 : mj_M} (a1 : Int32) (a2 : Int32) (h0 : M.1[0]? = some (11, 17)) (hv : ∀ v ∈ ([.ref 0, .int a1, .int a2, .ref 194] : List Value), mj_wv M.1.length v) (hM : mj_wM M) (ht : mt_R ic_P d 11021 (.ref 0 :: [.int a1, .int a2]) M "java/lang/IllegalStateException" M1) : mw_Met l mj_AW ic_Ns vwCl ic_ty ic_X il_calibrate ih_calibrate (d + 2) [.ref 0, .int a1, .int a2, .ref 194] M (some (.int (Int32.ofInt 3))) M1 :=
  mw_thr (n := 5) (S' := (5, lv_args 0 [.ref 0, .int a1, .int a2, .ref 194], List.reverse [.int a1, .int a2] ++ .ref 0 :: [.int 0, .ref 194], M)) (ix := 68) (jf := 11021) (nf := 2) (ci := 11) (o := 0) (As := [.int a1, .int a2]) (rest := [.int 0, .ref 194]) (nn := 17) hl9 ic_Good hMa ig_calibrate (by decide +kernel) (Nat.le_of_ble_eq_true rfl) hd ⟨_, ⟨_, _, rfl, Or.inl rfl⟩, ⟨_, ⟨_, _, rfl, Or.inl rfl⟩, ⟨_, ⟨_, _, rfl, Or.inl rfl⟩, ⟨_, ⟨_, _, rfl, Or.inl rfl⟩, ⟨_, ⟨_, _, rfl, Or.inl rfl⟩, rfl⟩⟩⟩⟩⟩ rfl rfl (by decide) rfl (by decide) rfl h0 (fun Y2 h => by cases h; exact mj_wa_in (q := (8, 144)) (by decide +kernel)) ht [⟨0, 10, 13, 32⟩, ⟨0, 10, 17, 13⟩] ⟨0, 10, 21, 44⟩ [] rfl (List.forall_mem_cons.mpr ⟨⟨by decide, "java/lang/IndexOutOfBoundsException", mj_wa_in (q := (8, 16)) (by decide +kernel), List.mem_of_getElem? (i := 1) rfl⟩, List.forall_mem_cons.mpr ⟨⟨by decide, "java/lang/IllegalArgumentException", mj_wa_in (q := (5, 92)) (by decide +kernel), List.mem_of_getElem? (i := 2) rfl⟩, fun _ h => absurd h List.not_mem_nil⟩⟩) rfl (by decide) (mj_wa_in (q := (8, 60)) (by decide +kernel)) (List.mem_of_getElem? (i := 22) rfl) (ka := 2) (c9 := 3) rfl rfl rfl rfl rfl hv hM

set_option maxRecDepth 20000 in
theorem aw_cut {d : Nat} {M M1 : mj_M} (a1 : Int32) (r : Int32) (h0 : M.1[0]? = some (11, 17)) (h1 : M1.1[194]? = some (101, 1)) (hr : mj_R ic_P d 11007 (.ref 0 :: [.int a1]) M (some (.int r)) M1) : mj_wp ic_P (mj_R ic_P d) true 13000 il_cut (0, lv_args 0 [.ref 0, .int a1, .ref 194], [], M) (fun r9 M9 => r9 = some (.int 0) ∧ M9 = (M1.1, M1.2.1, mj_u M1.2.2.1 194 0 r.toInt64, M1.2.2.2)) := by
  refine mj_wp_one rfl rfl ?_
  refine mj_wp_one rfl rfl ?_
  refine mj_wp_one rfl rfl ?_
  refine mj_wp_one rfl rfl ?_
  refine aw_cv (vs := [.int a1]) (rest := [.int 0, .ref 194]) rfl rfl rfl (by decide) h0 (by decide) hr ?_
  refine mj_wp_one rfl rfl ?_
  refine aw_last rfl h1 (by decide) ?_
  refine mj_wp_one rfl rfl ?_
  refine mj_wp_one rfl rfl ?_
  exact mj_wp_ret rfl rfl ⟨rfl, rfl⟩

set_option maxRecDepth 20000 in
theorem ax_cut_1 {l : Launch} (hl9 : l.stackTraces = false) (hMa : mj_MaOk vwCl ic_ty mj_AW) {d : Nat} (hd : 6 ≤ d) {M M1 : mj_M} (a1 : Int32) (h0 : M.1[0]? = some (11, 17)) (hv : ∀ v ∈ ([.ref 0, .int a1, .ref 194] : List Value), mj_wv M.1.length v) (hM : mj_wM M) (ht : mt_R ic_P d 11007 (.ref 0 :: [.int a1]) M "java/lang/IllegalArgumentException" M1) : mw_Met l mj_AW ic_Ns vwCl ic_ty ic_X il_cut ih_cut (d + 2) [.ref 0, .int a1, .ref 194] M (some (.int (Int32.ofInt 1))) M1 :=
  mw_thr (n := 4) (S' := (4, lv_args 0 [.ref 0, .int a1, .ref 194], List.reverse [.int a1] ++ .ref 0 :: [.int 0, .ref 194], M)) (ix := 71) (jf := 11007) (nf := 1) (ci := 11) (o := 0) (As := [.int a1]) (rest := [.int 0, .ref 194]) (nn := 17) hl9 ic_Good hMa ig_cut (by decide +kernel) (Nat.le_of_ble_eq_true rfl) hd ⟨_, ⟨_, _, rfl, Or.inl rfl⟩, ⟨_, ⟨_, _, rfl, Or.inl rfl⟩, ⟨_, ⟨_, _, rfl, Or.inl rfl⟩, ⟨_, ⟨_, _, rfl, Or.inl rfl⟩, rfl⟩⟩⟩⟩ rfl rfl (by decide) rfl (by decide) rfl h0 (fun Y2 h => by cases h; exact mj_wa_in (q := (8, 160)) (by decide +kernel)) ht [] ⟨0, 9, 12, 13⟩ [] rfl (fun _ h => absurd h List.not_mem_nil) rfl (by decide) (mj_wa_in (q := (5, 92)) (by decide +kernel)) (List.mem_of_getElem? (i := 20) rfl) (ka := 1) (c9 := 1) rfl rfl rfl rfl rfl hv hM

set_option maxRecDepth 20000 in
theorem aw_spoil {d : Nat} {M M1 : mj_M} (a1 : Int32) (a2 : Int32) (a3 : Int32) (r : Int32) (h0 : M.1[0]? = some (11, 17)) (h1 : M1.1[194]? = some (101, 1)) (hr : mj_R ic_P d 11022 (.ref 0 :: [.int a1, .int a2, .int a3]) M (some (.int r)) M1) : mj_wp ic_P (mj_R ic_P d) true 13000 il_spoil (0, lv_args 0 [.ref 0, .int a1, .int a2, .int a3, .ref 194], [], M) (fun r9 M9 => r9 = some (.int 0) ∧ M9 = (M1.1, M1.2.1, mj_u M1.2.2.1 194 0 r.toInt64, M1.2.2.2)) := by
  refine mj_wp_one rfl rfl ?_
  refine mj_wp_one rfl rfl ?_
  refine mj_wp_one rfl rfl ?_
  refine mj_wp_one rfl rfl ?_
  refine mj_wp_one rfl rfl ?_
  refine mj_wp_one rfl rfl ?_
  refine aw_cv (vs := [.int a1, .int a2, .int a3]) (rest := [.int 0, .ref 194]) rfl rfl rfl (by decide) h0 (by decide) hr ?_
  refine mj_wp_one rfl rfl ?_
  refine aw_last rfl h1 (by decide) ?_
  refine mj_wp_one rfl rfl ?_
  refine mj_wp_one rfl rfl ?_
  exact mj_wp_ret rfl rfl ⟨rfl, rfl⟩

set_option maxRecDepth 20000 in
theorem ax_spoil_1 {l : Launch} (hl9 : l.stackTraces = false) (hMa : mj_MaOk vwCl ic_ty mj_AW) {d : Nat} (hd : 6 ≤ d) {M M1 : mj_M} (a1 : Int32) (a2 : Int32) (a3 : Int32) (h0 : M.1[0]? = some (11, 17)) (hv : ∀ v ∈ ([.ref 0, .int a1, .int a2, .int a3, .ref 194] : List Value), mj_wv M.1.length v) (hM : mj_wM M) (ht : mt_R ic_P d 11022 (.ref 0 :: [.int a1, .int a2, .int a3]) M "java/lang/IndexOutOfBoundsException" M1) : mw_Met l mj_AW ic_Ns vwCl ic_ty ic_X il_spoil ih_spoil (d + 2) [.ref 0, .int a1, .int a2, .int a3, .ref 194] M (some (.int (Int32.ofInt 1))) M1 :=
  mw_thr (n := 6) (S' := (7, lv_args 0 [.ref 0, .int a1, .int a2, .int a3, .ref 194], List.reverse [.int a1, .int a2, .int a3] ++ .ref 0 :: [.int 0, .ref 194], M)) (ix := 74) (jf := 11022) (nf := 3) (ci := 11) (o := 0) (As := [.int a1, .int a2, .int a3]) (rest := [.int 0, .ref 194]) (nn := 17) hl9 ic_Good hMa ig_spoil (by decide +kernel) (Nat.le_of_ble_eq_true rfl) hd ⟨_, ⟨_, _, rfl, Or.inl rfl⟩, ⟨_, ⟨_, _, rfl, Or.inl rfl⟩, ⟨_, ⟨_, _, rfl, Or.inl rfl⟩, ⟨_, ⟨_, _, rfl, Or.inl rfl⟩, ⟨_, ⟨_, _, rfl, Or.inl rfl⟩, ⟨_, ⟨_, _, rfl, Or.inl rfl⟩, rfl⟩⟩⟩⟩⟩⟩ rfl rfl (by decide) rfl (by decide) rfl h0 (fun Y2 h => by cases h; exact mj_wa_in (q := (8, 168)) (by decide +kernel)) ht [] ⟨0, 12, 15, 32⟩ [⟨0, 12, 19, 44⟩] rfl (fun _ h => absurd h List.not_mem_nil) rfl (by decide) (mj_wa_in (q := (8, 16)) (by decide +kernel)) (List.mem_of_getElem? (i := 21) rfl) (ka := 2) (c9 := 1) rfl rfl rfl rfl rfl hv hM

set_option maxRecDepth 20000 in
theorem ax_spoil_2 {l : Launch} (hl9 : l.stackTraces = false) (hMa : mj_MaOk vwCl ic_ty mj_AW) {d : Nat} (hd : 6 ≤ d) {M M1 : mj_M} (a1 : Int32) (a2 : Int32) (a3 : Int32) (h0 : M.1[0]? = some (11, 17)) (hv : ∀ v ∈ ([.ref 0, .int a1, .int a2, .int a3, .ref 194] : List Value), mj_wv M.1.length v) (hM : mj_wM M) (ht : mt_R ic_P d 11022 (.ref 0 :: [.int a1, .int a2, .int a3]) M "java/lang/IllegalStateException" M1) : mw_Met l mj_AW ic_Ns vwCl ic_ty ic_X il_spoil ih_spoil (d + 2) [.ref 0, .int a1, .int a2, .int a3, .ref 194] M (some (.int (Int32.ofInt 2))) M1 :=
  mw_thr (n := 6) (S' := (7, lv_args 0 [.ref 0, .int a1, .int a2, .int a3, .ref 194], List.reverse [.int a1, .int a2, .int a3] ++ .ref 0 :: [.int 0, .ref 194], M)) (ix := 74) (jf := 11022) (nf := 3) (ci := 11) (o := 0) (As := [.int a1, .int a2, .int a3]) (rest := [.int 0, .ref 194]) (nn := 17) hl9 ic_Good hMa ig_spoil (by decide +kernel) (Nat.le_of_ble_eq_true rfl) hd ⟨_, ⟨_, _, rfl, Or.inl rfl⟩, ⟨_, ⟨_, _, rfl, Or.inl rfl⟩, ⟨_, ⟨_, _, rfl, Or.inl rfl⟩, ⟨_, ⟨_, _, rfl, Or.inl rfl⟩, ⟨_, ⟨_, _, rfl, Or.inl rfl⟩, ⟨_, ⟨_, _, rfl, Or.inl rfl⟩, rfl⟩⟩⟩⟩⟩⟩ rfl rfl (by decide) rfl (by decide) rfl h0 (fun Y2 h => by cases h; exact mj_wa_in (q := (8, 168)) (by decide +kernel)) ht [⟨0, 12, 15, 32⟩] ⟨0, 12, 19, 44⟩ [] rfl (List.forall_mem_cons.mpr ⟨⟨by decide, "java/lang/IndexOutOfBoundsException", mj_wa_in (q := (8, 16)) (by decide +kernel), List.mem_of_getElem? (i := 1) rfl⟩, fun _ h => absurd h List.not_mem_nil⟩) rfl (by decide) (mj_wa_in (q := (8, 60)) (by decide +kernel)) (List.mem_of_getElem? (i := 22) rfl) (ka := 2) (c9 := 2) rfl rfl rfl rfl rfl hv hM

set_option maxRecDepth 20000 in
theorem aw_word {d : Nat} {M M1 : mj_M} (a1 : Int32) (a2 : Int32) (r : Int32) (h0 : M.1[0]? = some (11, 17)) (h1 : M1.1[194]? = some (101, 1)) (hr : mj_R ic_P d 11023 (.ref 0 :: [.int a1, .int a2]) M (some (.int r)) M1) : mj_wp ic_P (mj_R ic_P d) true 13000 il_word (0, lv_args 0 [.ref 0, .int a1, .int a2, .ref 194], [], M) (fun r9 M9 => r9 = some (.int 0) ∧ M9 = (M1.1, M1.2.1, mj_u M1.2.2.1 194 0 r.toInt64, M1.2.2.2)) := by
  refine mj_wp_one rfl rfl ?_
  refine mj_wp_one rfl rfl ?_
  refine mj_wp_one rfl rfl ?_
  refine mj_wp_one rfl rfl ?_
  refine mj_wp_one rfl rfl ?_
  refine aw_cv (vs := [.int a1, .int a2]) (rest := [.int 0, .ref 194]) rfl rfl rfl (by decide) h0 (by decide) hr ?_
  refine mj_wp_one rfl rfl ?_
  refine aw_last rfl h1 (by decide) ?_
  refine mj_wp_one rfl rfl ?_
  refine mj_wp_one rfl rfl ?_
  exact mj_wp_ret rfl rfl ⟨rfl, rfl⟩

set_option maxRecDepth 20000 in
theorem ax_word_1 {l : Launch} (hl9 : l.stackTraces = false) (hMa : mj_MaOk vwCl ic_ty mj_AW) {d : Nat} (hd : 6 ≤ d) {M M1 : mj_M} (a1 : Int32) (a2 : Int32) (h0 : M.1[0]? = some (11, 17)) (hv : ∀ v ∈ ([.ref 0, .int a1, .int a2, .ref 194] : List Value), mj_wv M.1.length v) (hM : mj_wM M) (ht : mt_R ic_P d 11023 (.ref 0 :: [.int a1, .int a2]) M "java/lang/IndexOutOfBoundsException" M1) : mw_Met l mj_AW ic_Ns vwCl ic_ty ic_X il_word ih_word (d + 2) [.ref 0, .int a1, .int a2, .ref 194] M (some (.int (Int32.ofInt 1))) M1 :=
  mw_thr (n := 5) (S' := (5, lv_args 0 [.ref 0, .int a1, .int a2, .ref 194], List.reverse [.int a1, .int a2] ++ .ref 0 :: [.int 0, .ref 194], M)) (ix := 77) (jf := 11023) (nf := 2) (ci := 11) (o := 0) (As := [.int a1, .int a2]) (rest := [.int 0, .ref 194]) (nn := 17) hl9 ic_Good hMa ig_word (by decide +kernel) (Nat.le_of_ble_eq_true rfl) hd ⟨_, ⟨_, _, rfl, Or.inl rfl⟩, ⟨_, ⟨_, _, rfl, Or.inl rfl⟩, ⟨_, ⟨_, _, rfl, Or.inl rfl⟩, ⟨_, ⟨_, _, rfl, Or.inl rfl⟩, ⟨_, ⟨_, _, rfl, Or.inl rfl⟩, rfl⟩⟩⟩⟩⟩ rfl rfl (by decide) rfl (by decide) rfl h0 (fun Y2 h => by cases h; exact mj_wa_in (q := (8, 176)) (by decide +kernel)) ht [] ⟨0, 10, 13, 32⟩ [] rfl (fun _ h => absurd h List.not_mem_nil) rfl (by decide) (mj_wa_in (q := (8, 16)) (by decide +kernel)) (List.mem_of_getElem? (i := 21) rfl) (ka := 2) (c9 := 1) rfl rfl rfl rfl rfl hv hM

set_option maxRecDepth 20000 in
theorem aw_watch {d : Nat} {M M1 : mj_M} (a1 : Int32) (r : Int32) (h0 : M.1[0]? = some (11, 17)) (h1 : M1.1[194]? = some (101, 1)) (hr : mj_R ic_P d 11027 (.ref 0 :: [.int a1]) M (some (.int r)) M1) : mj_wp ic_P (mj_R ic_P d) true 13000 il_watch (0, lv_args 0 [.ref 0, .int a1, .ref 194], [], M) (fun r9 M9 => r9 = some (.int 0) ∧ M9 = (M1.1, M1.2.1, mj_u M1.2.2.1 194 0 (if r = 0 then 0 else 1), M1.2.2.2)) := by
  refine mj_wp_one rfl rfl ?_
  refine mj_wp_one rfl rfl ?_
  refine mj_wp_one rfl rfl ?_
  refine mj_wp_one rfl rfl ?_
  refine aw_cv (vs := [.int a1]) (rest := [.int 0, .ref 194]) rfl rfl rfl (by decide) h0 (by decide) hr ?_
  refine mj_wp_one rfl rfl ?_
  refine mj_wp_if (c := mj_c .eq r 0) (fun h => ?_) (fun h => ?_)
  · rw [if_pos (of_decide_eq_true h)]
    refine mj_wp_one rfl rfl ?_
    refine aw_last rfl h1 (by decide) ?_
    refine mj_wp_one rfl rfl ?_
    refine mj_wp_one rfl rfl ?_
    exact mj_wp_ret rfl rfl ⟨rfl, rfl⟩
  · rw [if_neg (of_decide_eq_false h)]
    refine mj_wp_one rfl rfl ?_
    refine mj_wp_one rfl rfl ?_
    refine aw_last rfl h1 (by decide) ?_
    refine mj_wp_one rfl rfl ?_
    refine mj_wp_one rfl rfl ?_
    exact mj_wp_ret rfl rfl ⟨rfl, rfl⟩

set_option maxRecDepth 20000 in
theorem ax_watch_1 {l : Launch} (hl9 : l.stackTraces = false) (hMa : mj_MaOk vwCl ic_ty mj_AW) {d : Nat} (hd : 6 ≤ d) {M M1 : mj_M} (a1 : Int32) (h0 : M.1[0]? = some (11, 17)) (hv : ∀ v ∈ ([.ref 0, .int a1, .ref 194] : List Value), mj_wv M.1.length v) (hM : mj_wM M) (ht : mt_R ic_P d 11027 (.ref 0 :: [.int a1]) M "java/lang/IllegalStateException" M1) : mw_Met l mj_AW ic_Ns vwCl ic_ty ic_X il_watch ih_watch (d + 2) [.ref 0, .int a1, .ref 194] M (some (.int (Int32.ofInt 1))) M1 :=
  mw_thr (n := 4) (S' := (4, lv_args 0 [.ref 0, .int a1, .ref 194], List.reverse [.int a1] ++ .ref 0 :: [.int 0, .ref 194], M)) (ix := 80) (jf := 11027) (nf := 1) (ci := 11) (o := 0) (As := [.int a1]) (rest := [.int 0, .ref 194]) (nn := 17) hl9 ic_Good hMa ig_watch (by decide +kernel) (Nat.le_of_ble_eq_true rfl) hd ⟨_, ⟨_, _, rfl, Or.inl rfl⟩, ⟨_, ⟨_, _, rfl, Or.inl rfl⟩, ⟨_, ⟨_, _, rfl, Or.inl rfl⟩, ⟨_, ⟨_, _, rfl, Or.inl rfl⟩, rfl⟩⟩⟩⟩ rfl rfl (by decide) rfl (by decide) rfl h0 (fun Y2 h => by cases h; exact mj_wa_in (q := (8, 183)) (by decide +kernel)) ht [] ⟨0, 16, 19, 44⟩ [] rfl (fun _ h => absurd h List.not_mem_nil) rfl (by decide) (mj_wa_in (q := (8, 60)) (by decide +kernel)) (List.mem_of_getElem? (i := 22) rfl) (ka := 1) (c9 := 1) rfl rfl rfl rfl rfl hv hM

set_option maxRecDepth 20000 in
theorem aw_answer {d : Nat} {M M1 : mj_M} (a1 : Int32) (r : Int32) (h0 : M.1[0]? = some (11, 17)) (h1 : M1.1[194]? = some (101, 1)) (hr : mj_R ic_P d 11028 (.ref 0 :: [.int a1]) M (some (.int r)) M1) : mj_wp ic_P (mj_R ic_P d) true 13000 il_answer (0, lv_args 0 [.ref 0, .int a1, .ref 194], [], M) (fun r9 M9 => r9 = some (.int 0) ∧ M9 = (M1.1, M1.2.1, mj_u M1.2.2.1 194 0 (if r = 0 then 0 else 1), M1.2.2.2)) := by
  refine mj_wp_one rfl rfl ?_
  refine mj_wp_one rfl rfl ?_
  refine mj_wp_one rfl rfl ?_
  refine mj_wp_one rfl rfl ?_
  refine aw_cv (vs := [.int a1]) (rest := [.int 0, .ref 194]) rfl rfl rfl (by decide) h0 (by decide) hr ?_
  refine mj_wp_one rfl rfl ?_
  refine mj_wp_if (c := mj_c .eq r 0) (fun h => ?_) (fun h => ?_)
  · rw [if_pos (of_decide_eq_true h)]
    refine mj_wp_one rfl rfl ?_
    refine aw_last rfl h1 (by decide) ?_
    refine mj_wp_one rfl rfl ?_
    refine mj_wp_one rfl rfl ?_
    exact mj_wp_ret rfl rfl ⟨rfl, rfl⟩
  · rw [if_neg (of_decide_eq_false h)]
    refine mj_wp_one rfl rfl ?_
    refine mj_wp_one rfl rfl ?_
    refine aw_last rfl h1 (by decide) ?_
    refine mj_wp_one rfl rfl ?_
    refine mj_wp_one rfl rfl ?_
    exact mj_wp_ret rfl rfl ⟨rfl, rfl⟩

set_option maxRecDepth 20000 in
theorem ax_answer_1 {l : Launch} (hl9 : l.stackTraces = false) (hMa : mj_MaOk vwCl ic_ty mj_AW) {d : Nat} (hd : 6 ≤ d) {M M1 : mj_M} (a1 : Int32) (h0 : M.1[0]? = some (11, 17)) (hv : ∀ v ∈ ([.ref 0, .int a1, .ref 194] : List Value), mj_wv M.1.length v) (hM : mj_wM M) (ht : mt_R ic_P d 11028 (.ref 0 :: [.int a1]) M "java/lang/IllegalStateException" M1) : mw_Met l mj_AW ic_Ns vwCl ic_ty ic_X il_answer ih_answer (d + 2) [.ref 0, .int a1, .ref 194] M (some (.int (Int32.ofInt 1))) M1 :=
  mw_thr (n := 4) (S' := (4, lv_args 0 [.ref 0, .int a1, .ref 194], List.reverse [.int a1] ++ .ref 0 :: [.int 0, .ref 194], M)) (ix := 84) (jf := 11028) (nf := 1) (ci := 11) (o := 0) (As := [.int a1]) (rest := [.int 0, .ref 194]) (nn := 17) hl9 ic_Good hMa ig_answer (by decide +kernel) (Nat.le_of_ble_eq_true rfl) hd ⟨_, ⟨_, _, rfl, Or.inl rfl⟩, ⟨_, ⟨_, _, rfl, Or.inl rfl⟩, ⟨_, ⟨_, _, rfl, Or.inl rfl⟩, ⟨_, ⟨_, _, rfl, Or.inl rfl⟩, rfl⟩⟩⟩⟩ rfl rfl (by decide) rfl (by decide) rfl h0 (fun Y2 h => by cases h; exact mj_wa_in (q := (8, 195)) (by decide +kernel)) ht [] ⟨0, 16, 19, 44⟩ [] rfl (fun _ h => absurd h List.not_mem_nil) rfl (by decide) (mj_wa_in (q := (8, 60)) (by decide +kernel)) (List.mem_of_getElem? (i := 22) rfl) (ka := 1) (c9 := 1) rfl rfl rfl rfl rfl hv hM

set_option maxRecDepth 20000 in
theorem aw_hear {d : Nat} {M M1 : mj_M} (a1 : Int32) (a2 : Int32) (r : Int32) (h0 : M.1[0]? = some (11, 17)) (h1 : M1.1[194]? = some (101, 1)) (hr : mj_R ic_P d 11029 (.ref 0 :: [.int a1, .int a2]) M (some (.int r)) M1) : mj_wp ic_P (mj_R ic_P d) true 13000 il_hear (0, lv_args 0 [.ref 0, .int a1, .int a2, .ref 194], [], M) (fun r9 M9 => r9 = some (.int 0) ∧ M9 = (M1.1, M1.2.1, mj_u M1.2.2.1 194 0 r.toInt64, M1.2.2.2)) := by
  refine mj_wp_one rfl rfl ?_
  refine mj_wp_one rfl rfl ?_
  refine mj_wp_one rfl rfl ?_
  refine mj_wp_one rfl rfl ?_
  refine mj_wp_one rfl rfl ?_
  refine aw_cv (vs := [.int a1, .int a2]) (rest := [.int 0, .ref 194]) rfl rfl rfl (by decide) h0 (by decide) hr ?_
  refine mj_wp_one rfl rfl ?_
  refine aw_last rfl h1 (by decide) ?_
  refine mj_wp_one rfl rfl ?_
  refine mj_wp_one rfl rfl ?_
  exact mj_wp_ret rfl rfl ⟨rfl, rfl⟩

set_option maxRecDepth 20000 in
theorem ax_hear_1 {l : Launch} (hl9 : l.stackTraces = false) (hMa : mj_MaOk vwCl ic_ty mj_AW) {d : Nat} (hd : 6 ≤ d) {M M1 : mj_M} (a1 : Int32) (a2 : Int32) (h0 : M.1[0]? = some (11, 17)) (hv : ∀ v ∈ ([.ref 0, .int a1, .int a2, .ref 194] : List Value), mj_wv M.1.length v) (hM : mj_wM M) (ht : mt_R ic_P d 11029 (.ref 0 :: [.int a1, .int a2]) M "java/lang/IllegalArgumentException" M1) : mw_Met l mj_AW ic_Ns vwCl ic_ty ic_X il_hear ih_hear (d + 2) [.ref 0, .int a1, .int a2, .ref 194] M (some (.int (Int32.ofInt 1))) M1 :=
  mw_thr (n := 5) (S' := (5, lv_args 0 [.ref 0, .int a1, .int a2, .ref 194], List.reverse [.int a1, .int a2] ++ .ref 0 :: [.int 0, .ref 194], M)) (ix := 88) (jf := 11029) (nf := 2) (ci := 11) (o := 0) (As := [.int a1, .int a2]) (rest := [.int 0, .ref 194]) (nn := 17) hl9 ic_Good hMa ig_hear (by decide +kernel) (Nat.le_of_ble_eq_true rfl) hd ⟨_, ⟨_, _, rfl, Or.inl rfl⟩, ⟨_, ⟨_, _, rfl, Or.inl rfl⟩, ⟨_, ⟨_, _, rfl, Or.inl rfl⟩, ⟨_, ⟨_, _, rfl, Or.inl rfl⟩, ⟨_, ⟨_, _, rfl, Or.inl rfl⟩, rfl⟩⟩⟩⟩⟩ rfl rfl (by decide) rfl (by decide) rfl h0 (fun Y2 h => by cases h; exact mj_wa_in (q := (8, 203)) (by decide +kernel)) ht [] ⟨0, 10, 13, 13⟩ [] rfl (fun _ h => absurd h List.not_mem_nil) rfl (by decide) (mj_wa_in (q := (5, 92)) (by decide +kernel)) (List.mem_of_getElem? (i := 20) rfl) (ka := 2) (c9 := 1) rfl rfl rfl rfl rfl hv hM

set_option maxRecDepth 20000 in
theorem aw_ask {d : Nat} {M M1 : mj_M} (a1 : Int32) (a2 : Int32) (a3 : Int32) (a4 : Int32) (a5 : Int32) (a6 : Int32) (r : Int32) (h0 : M.1[0]? = some (11, 17)) (h1 : M1.1[194]? = some (101, 1)) (hr : mj_R ic_P d 11030 (.ref 0 :: [.int a1, .int a2, .int a3, .int a4, .int a5, .int a6]) M (some (.int r)) M1) : mj_wp ic_P (mj_R ic_P d) true 13000 il_ask (0, lv_args 0 [.ref 0, .int a1, .int a2, .int a3, .int a4, .int a5, .int a6, .ref 194], [], M) (fun r9 M9 => r9 = some (.int 0) ∧ M9 = (M1.1, M1.2.1, mj_u M1.2.2.1 194 0 r.toInt64, M1.2.2.2)) := by
  refine mj_wp_one rfl rfl ?_
  refine mj_wp_one rfl rfl ?_
  refine mj_wp_one rfl rfl ?_
  refine mj_wp_one rfl rfl ?_
  refine mj_wp_one rfl rfl ?_
  refine mj_wp_one rfl rfl ?_
  refine mj_wp_one rfl rfl ?_
  refine mj_wp_one rfl rfl ?_
  refine mj_wp_one rfl rfl ?_
  refine aw_cv (vs := [.int a1, .int a2, .int a3, .int a4, .int a5, .int a6]) (rest := [.int 0, .ref 194]) rfl rfl rfl (by decide) h0 (by decide) hr ?_
  refine mj_wp_one rfl rfl ?_
  refine aw_last rfl h1 (by decide) ?_
  refine mj_wp_one rfl rfl ?_
  refine mj_wp_one rfl rfl ?_
  exact mj_wp_ret rfl rfl ⟨rfl, rfl⟩

set_option maxRecDepth 20000 in
theorem ax_ask_1 {l : Launch} (hl9 : l.stackTraces = false) (hMa : mj_MaOk vwCl ic_ty mj_AW) {d : Nat} (hd : 6 ≤ d) {M M1 : mj_M} (a1 : Int32) (a2 : Int32) (a3 : Int32) (a4 : Int32) (a5 : Int32) (a6 : Int32) (h0 : M.1[0]? = some (11, 17)) (hv : ∀ v ∈ ([.ref 0, .int a1, .int a2, .int a3, .int a4, .int a5, .int a6, .ref 194] : List Value), mj_wv M.1.length v) (hM : mj_wM M) (ht : mt_R ic_P d 11030 (.ref 0 :: [.int a1, .int a2, .int a3, .int a4, .int a5, .int a6]) M "java/lang/IllegalArgumentException" M1) : mw_Met l mj_AW ic_Ns vwCl ic_ty ic_X il_ask ih_ask (d + 2) [.ref 0, .int a1, .int a2, .int a3, .int a4, .int a5, .int a6, .ref 194] M (some (.int (Int32.ofInt 1))) M1 :=
  mw_thr (n := 9) (S' := (13, lv_args 0 [.ref 0, .int a1, .int a2, .int a3, .int a4, .int a5, .int a6, .ref 194], List.reverse [.int a1, .int a2, .int a3, .int a4, .int a5, .int a6] ++ .ref 0 :: [.int 0, .ref 194], M)) (ix := 91) (jf := 11030) (nf := 6) (ci := 11) (o := 0) (As := [.int a1, .int a2, .int a3, .int a4, .int a5, .int a6]) (rest := [.int 0, .ref 194]) (nn := 17) hl9 ic_Good hMa ig_ask (by decide +kernel) (Nat.le_of_ble_eq_true rfl) hd ⟨_, ⟨_, _, rfl, Or.inl rfl⟩, ⟨_, ⟨_, _, rfl, Or.inl rfl⟩, ⟨_, ⟨_, _, rfl, Or.inl rfl⟩, ⟨_, ⟨_, _, rfl, Or.inl rfl⟩, ⟨_, ⟨_, _, rfl, Or.inl rfl⟩, ⟨_, ⟨_, _, rfl, Or.inl rfl⟩, ⟨_, ⟨_, _, rfl, Or.inl rfl⟩, ⟨_, ⟨_, _, rfl, Or.inl rfl⟩, ⟨_, ⟨_, _, rfl, Or.inl rfl⟩, rfl⟩⟩⟩⟩⟩⟩⟩⟩⟩ rfl rfl (by decide) rfl (by decide) rfl h0 (fun Y2 h => by cases h; exact mj_wa_in (q := (9, 148)) (by decide +kernel)) ht [] ⟨0, 18, 21, 13⟩ [] rfl (fun _ h => absurd h List.not_mem_nil) rfl (by decide) (mj_wa_in (q := (5, 92)) (by decide +kernel)) (List.mem_of_getElem? (i := 20) rfl) (ka := 2) (c9 := 1) rfl rfl rfl rfl rfl hv hM

set_option maxRecDepth 20000 in
theorem aw_byteOf {d : Nat} {M M1 : mj_M} (a1 : Int32) (r : Int32) (h0 : M.1[0]? = some (11, 17)) (h1 : M1.1[194]? = some (101, 1)) (hr : mj_R ic_P d 11031 (.ref 0 :: [.int a1]) M (some (.int r)) M1) : mj_wp ic_P (mj_R ic_P d) true 13000 il_byteOf (0, lv_args 0 [.ref 0, .int a1, .ref 194], [], M) (fun r9 M9 => r9 = some (.int 0) ∧ M9 = (M1.1, M1.2.1, mj_u M1.2.2.1 194 0 r.toInt64, M1.2.2.2)) := by
  refine mj_wp_one rfl rfl ?_
  refine mj_wp_one rfl rfl ?_
  refine mj_wp_one rfl rfl ?_
  refine mj_wp_one rfl rfl ?_
  refine aw_cv (vs := [.int a1]) (rest := [.int 0, .ref 194]) rfl rfl rfl (by decide) h0 (by decide) hr ?_
  refine mj_wp_one rfl rfl ?_
  refine aw_last rfl h1 (by decide) ?_
  refine mj_wp_one rfl rfl ?_
  refine mj_wp_one rfl rfl ?_
  exact mj_wp_ret rfl rfl ⟨rfl, rfl⟩

set_option maxRecDepth 20000 in
theorem ax_byteOf_1 {l : Launch} (hl9 : l.stackTraces = false) (hMa : mj_MaOk vwCl ic_ty mj_AW) {d : Nat} (hd : 6 ≤ d) {M M1 : mj_M} (a1 : Int32) (h0 : M.1[0]? = some (11, 17)) (hv : ∀ v ∈ ([.ref 0, .int a1, .ref 194] : List Value), mj_wv M.1.length v) (hM : mj_wM M) (ht : mt_R ic_P d 11031 (.ref 0 :: [.int a1]) M "java/lang/IndexOutOfBoundsException" M1) : mw_Met l mj_AW ic_Ns vwCl ic_ty ic_X il_byteOf ih_byteOf (d + 2) [.ref 0, .int a1, .ref 194] M (some (.int (Int32.ofInt 1))) M1 :=
  mw_thr (n := 4) (S' := (4, lv_args 0 [.ref 0, .int a1, .ref 194], List.reverse [.int a1] ++ .ref 0 :: [.int 0, .ref 194], M)) (ix := 95) (jf := 11031) (nf := 1) (ci := 11) (o := 0) (As := [.int a1]) (rest := [.int 0, .ref 194]) (nn := 17) hl9 ic_Good hMa ig_byteOf (by decide +kernel) (Nat.le_of_ble_eq_true rfl) hd ⟨_, ⟨_, _, rfl, Or.inl rfl⟩, ⟨_, ⟨_, _, rfl, Or.inl rfl⟩, ⟨_, ⟨_, _, rfl, Or.inl rfl⟩, ⟨_, ⟨_, _, rfl, Or.inl rfl⟩, rfl⟩⟩⟩⟩ rfl rfl (by decide) rfl (by decide) rfl h0 (fun Y2 h => by cases h; exact mj_wa_in (q := (9, 156)) (by decide +kernel)) ht [] ⟨0, 9, 12, 32⟩ [] rfl (fun _ h => absurd h List.not_mem_nil) rfl (by decide) (mj_wa_in (q := (8, 16)) (by decide +kernel)) (List.mem_of_getElem? (i := 21) rfl) (ka := 1) (c9 := 1) rfl rfl rfl rfl rfl hv hM

set_option maxRecDepth 20000 in
theorem aw_about {d : Nat} {M M1 : mj_M} (a1 : Int32) (r : Int64) (h0 : M.1[0]? = some (11, 17)) (h1 : M1.1[194]? = some (101, 1)) (hr : mj_R ic_P d 11040 (.ref 0 :: [.int a1]) M (some (.long r)) M1) : mj_wp ic_P (mj_R ic_P d) true 13000 il_about (0, lv_args 0 [.ref 0, .int a1, .ref 194], [], M) (fun r9 M9 => r9 = some (.int 0) ∧ M9 = (M1.1, M1.2.1, mj_u M1.2.2.1 194 0 r, M1.2.2.2)) := by
  refine mj_wp_one rfl rfl ?_
  refine mj_wp_one rfl rfl ?_
  refine mj_wp_one rfl rfl ?_
  refine mj_wp_one rfl rfl ?_
  refine aw_cv (vs := [.int a1]) (rest := [.int 0, .ref 194]) rfl rfl rfl (by decide) h0 (by decide) hr ?_
  refine aw_last rfl h1 (by decide) ?_
  refine mj_wp_one rfl rfl ?_
  refine mj_wp_one rfl rfl ?_
  exact mj_wp_ret rfl rfl ⟨rfl, rfl⟩

set_option maxRecDepth 20000 in
theorem ax_about_1 {l : Launch} (hl9 : l.stackTraces = false) (hMa : mj_MaOk vwCl ic_ty mj_AW) {d : Nat} (hd : 6 ≤ d) {M M1 : mj_M} (a1 : Int32) (h0 : M.1[0]? = some (11, 17)) (hv : ∀ v ∈ ([.ref 0, .int a1, .ref 194] : List Value), mj_wv M.1.length v) (hM : mj_wM M) (ht : mt_R ic_P d 11040 (.ref 0 :: [.int a1]) M "java/lang/IndexOutOfBoundsException" M1) : mw_Met l mj_AW ic_Ns vwCl ic_ty ic_X il_about ih_about (d + 2) [.ref 0, .int a1, .ref 194] M (some (.int (Int32.ofInt 1))) M1 :=
  mw_thr (n := 4) (S' := (4, lv_args 0 [.ref 0, .int a1, .ref 194], List.reverse [.int a1] ++ .ref 0 :: [.int 0, .ref 194], M)) (ix := 98) (jf := 11040) (nf := 1) (ci := 11) (o := 0) (As := [.int a1]) (rest := [.int 0, .ref 194]) (nn := 17) hl9 ic_Good hMa ig_about (by decide +kernel) (Nat.le_of_ble_eq_true rfl) hd ⟨_, ⟨_, _, rfl, Or.inl rfl⟩, ⟨_, ⟨_, _, rfl, Or.inl rfl⟩, ⟨_, ⟨_, _, rfl, Or.inl rfl⟩, ⟨_, ⟨_, _, rfl, Or.inl rfl⟩, rfl⟩⟩⟩⟩ rfl rfl (by decide) rfl (by decide) rfl h0 (fun Y2 h => by cases h; exact mj_wa_in (q := (9, 164)) (by decide +kernel)) ht [] ⟨0, 8, 11, 32⟩ [] rfl (fun _ h => absurd h List.not_mem_nil) rfl (by decide) (mj_wa_in (q := (8, 16)) (by decide +kernel)) (List.mem_of_getElem? (i := 21) rfl) (ka := 1) (c9 := 1) rfl rfl rfl rfl rfl hv hM

set_option maxRecDepth 20000 in
theorem aw_channel {d : Nat} {M M1 : mj_M} (a1 : Int32) (a2 : Int32) (r : Int32) (h0 : M.1[0]? = some (11, 17)) (h1 : M1.1[194]? = some (101, 1)) (hr : mj_R ic_P d 11041 (.ref 0 :: [.int a1, .int a2]) M (some (.int r)) M1) : mj_wp ic_P (mj_R ic_P d) true 13000 il_channel (0, lv_args 0 [.ref 0, .int a1, .int a2, .ref 194], [], M) (fun r9 M9 => r9 = some (.int 0) ∧ M9 = (M1.1, M1.2.1, mj_u M1.2.2.1 194 0 r.toInt64, M1.2.2.2)) := by
  refine mj_wp_one rfl rfl ?_
  refine mj_wp_one rfl rfl ?_
  refine mj_wp_one rfl rfl ?_
  refine mj_wp_one rfl rfl ?_
  refine mj_wp_one rfl rfl ?_
  refine aw_cv (vs := [.int a1, .int a2]) (rest := [.int 0, .ref 194]) rfl rfl rfl (by decide) h0 (by decide) hr ?_
  refine mj_wp_one rfl rfl ?_
  refine aw_last rfl h1 (by decide) ?_
  refine mj_wp_one rfl rfl ?_
  refine mj_wp_one rfl rfl ?_
  exact mj_wp_ret rfl rfl ⟨rfl, rfl⟩

set_option maxRecDepth 20000 in
theorem ax_channel_1 {l : Launch} (hl9 : l.stackTraces = false) (hMa : mj_MaOk vwCl ic_ty mj_AW) {d : Nat} (hd : 6 ≤ d) {M M1 : mj_M} (a1 : Int32) (a2 : Int32) (h0 : M.1[0]? = some (11, 17)) (hv : ∀ v ∈ ([.ref 0, .int a1, .int a2, .ref 194] : List Value), mj_wv M.1.length v) (hM : mj_wM M) (ht : mt_R ic_P d 11041 (.ref 0 :: [.int a1, .int a2]) M "java/lang/IndexOutOfBoundsException" M1) : mw_Met l mj_AW ic_Ns vwCl ic_ty ic_X il_channel ih_channel (d + 2) [.ref 0, .int a1, .int a2, .ref 194] M (some (.int (Int32.ofInt 1))) M1 :=
  mw_thr (n := 5) (S' := (5, lv_args 0 [.ref 0, .int a1, .int a2, .ref 194], List.reverse [.int a1, .int a2] ++ .ref 0 :: [.int 0, .ref 194], M)) (ix := 102) (jf := 11041) (nf := 2) (ci := 11) (o := 0) (As := [.int a1, .int a2]) (rest := [.int 0, .ref 194]) (nn := 17) hl9 ic_Good hMa ig_channel (by decide +kernel) (Nat.le_of_ble_eq_true rfl) hd ⟨_, ⟨_, _, rfl, Or.inl rfl⟩, ⟨_, ⟨_, _, rfl, Or.inl rfl⟩, ⟨_, ⟨_, _, rfl, Or.inl rfl⟩, ⟨_, ⟨_, _, rfl, Or.inl rfl⟩, ⟨_, ⟨_, _, rfl, Or.inl rfl⟩, rfl⟩⟩⟩⟩⟩ rfl rfl (by decide) rfl (by decide) rfl h0 (fun Y2 h => by cases h; exact mj_wa_in (q := (9, 172)) (by decide +kernel)) ht [] ⟨0, 10, 13, 32⟩ [] rfl (fun _ h => absurd h List.not_mem_nil) rfl (by decide) (mj_wa_in (q := (8, 16)) (by decide +kernel)) (List.mem_of_getElem? (i := 21) rfl) (ka := 2) (c9 := 1) rfl rfl rfl rfl rfl hv hM

set_option maxRecDepth 20000 in
theorem aw_cylinder {d : Nat} {M M1 : mj_M} (a1 : Int32) (a2 : Int32) (r : Int32) (h0 : M.1[0]? = some (11, 17)) (h1 : M1.1[194]? = some (101, 1)) (hr : mj_R ic_P d 11042 (.ref 0 :: [.int a1, .int a2]) M (some (.int r)) M1) : mj_wp ic_P (mj_R ic_P d) true 13000 il_cylinder (0, lv_args 0 [.ref 0, .int a1, .int a2, .ref 194], [], M) (fun r9 M9 => r9 = some (.int 0) ∧ M9 = (M1.1, M1.2.1, mj_u M1.2.2.1 194 0 r.toInt64, M1.2.2.2)) := by
  refine mj_wp_one rfl rfl ?_
  refine mj_wp_one rfl rfl ?_
  refine mj_wp_one rfl rfl ?_
  refine mj_wp_one rfl rfl ?_
  refine mj_wp_one rfl rfl ?_
  refine aw_cv (vs := [.int a1, .int a2]) (rest := [.int 0, .ref 194]) rfl rfl rfl (by decide) h0 (by decide) hr ?_
  refine mj_wp_one rfl rfl ?_
  refine aw_last rfl h1 (by decide) ?_
  refine mj_wp_one rfl rfl ?_
  refine mj_wp_one rfl rfl ?_
  exact mj_wp_ret rfl rfl ⟨rfl, rfl⟩

set_option maxRecDepth 20000 in
theorem ax_cylinder_1 {l : Launch} (hl9 : l.stackTraces = false) (hMa : mj_MaOk vwCl ic_ty mj_AW) {d : Nat} (hd : 6 ≤ d) {M M1 : mj_M} (a1 : Int32) (a2 : Int32) (h0 : M.1[0]? = some (11, 17)) (hv : ∀ v ∈ ([.ref 0, .int a1, .int a2, .ref 194] : List Value), mj_wv M.1.length v) (hM : mj_wM M) (ht : mt_R ic_P d 11042 (.ref 0 :: [.int a1, .int a2]) M "java/lang/IndexOutOfBoundsException" M1) : mw_Met l mj_AW ic_Ns vwCl ic_ty ic_X il_cylinder ih_cylinder (d + 2) [.ref 0, .int a1, .int a2, .ref 194] M (some (.int (Int32.ofInt 1))) M1 :=
  mw_thr (n := 5) (S' := (5, lv_args 0 [.ref 0, .int a1, .int a2, .ref 194], List.reverse [.int a1, .int a2] ++ .ref 0 :: [.int 0, .ref 194], M)) (ix := 105) (jf := 11042) (nf := 2) (ci := 11) (o := 0) (As := [.int a1, .int a2]) (rest := [.int 0, .ref 194]) (nn := 17) hl9 ic_Good hMa ig_cylinder (by decide +kernel) (Nat.le_of_ble_eq_true rfl) hd ⟨_, ⟨_, _, rfl, Or.inl rfl⟩, ⟨_, ⟨_, _, rfl, Or.inl rfl⟩, ⟨_, ⟨_, _, rfl, Or.inl rfl⟩, ⟨_, ⟨_, _, rfl, Or.inl rfl⟩, ⟨_, ⟨_, _, rfl, Or.inl rfl⟩, rfl⟩⟩⟩⟩⟩ rfl rfl (by decide) rfl (by decide) rfl h0 (fun Y2 h => by cases h; exact mj_wa_in (q := (9, 180)) (by decide +kernel)) ht [] ⟨0, 10, 13, 32⟩ [] rfl (fun _ h => absurd h List.not_mem_nil) rfl (by decide) (mj_wa_in (q := (8, 16)) (by decide +kernel)) (List.mem_of_getElem? (i := 21) rfl) (ka := 2) (c9 := 1) rfl rfl rfl rfl rfl hv hM

set_option maxRecDepth 20000 in
theorem aw_edge {d : Nat} {M M1 : mj_M} (a1 : Int32) (a2 : Int32) (r : Int64) (h0 : M.1[0]? = some (11, 17)) (h1 : M1.1[194]? = some (101, 1)) (hr : mj_R ic_P d 11043 (.ref 0 :: [.int a1, .int a2]) M (some (.long r)) M1) : mj_wp ic_P (mj_R ic_P d) true 13000 il_edge (0, lv_args 0 [.ref 0, .int a1, .int a2, .ref 194], [], M) (fun r9 M9 => r9 = some (.int 0) ∧ M9 = (M1.1, M1.2.1, mj_u M1.2.2.1 194 0 r, M1.2.2.2)) := by
  refine mj_wp_one rfl rfl ?_
  refine mj_wp_one rfl rfl ?_
  refine mj_wp_one rfl rfl ?_
  refine mj_wp_one rfl rfl ?_
  refine mj_wp_one rfl rfl ?_
  refine aw_cv (vs := [.int a1, .int a2]) (rest := [.int 0, .ref 194]) rfl rfl rfl (by decide) h0 (by decide) hr ?_
  refine aw_last rfl h1 (by decide) ?_
  refine mj_wp_one rfl rfl ?_
  refine mj_wp_one rfl rfl ?_
  exact mj_wp_ret rfl rfl ⟨rfl, rfl⟩

set_option maxRecDepth 20000 in
theorem ax_edge_1 {l : Launch} (hl9 : l.stackTraces = false) (hMa : mj_MaOk vwCl ic_ty mj_AW) {d : Nat} (hd : 6 ≤ d) {M M1 : mj_M} (a1 : Int32) (a2 : Int32) (h0 : M.1[0]? = some (11, 17)) (hv : ∀ v ∈ ([.ref 0, .int a1, .int a2, .ref 194] : List Value), mj_wv M.1.length v) (hM : mj_wM M) (ht : mt_R ic_P d 11043 (.ref 0 :: [.int a1, .int a2]) M "java/lang/IndexOutOfBoundsException" M1) : mw_Met l mj_AW ic_Ns vwCl ic_ty ic_X il_edge ih_edge (d + 2) [.ref 0, .int a1, .int a2, .ref 194] M (some (.int (Int32.ofInt 1))) M1 :=
  mw_thr (n := 5) (S' := (5, lv_args 0 [.ref 0, .int a1, .int a2, .ref 194], List.reverse [.int a1, .int a2] ++ .ref 0 :: [.int 0, .ref 194], M)) (ix := 108) (jf := 11043) (nf := 2) (ci := 11) (o := 0) (As := [.int a1, .int a2]) (rest := [.int 0, .ref 194]) (nn := 17) hl9 ic_Good hMa ig_edge (by decide +kernel) (Nat.le_of_ble_eq_true rfl) hd ⟨_, ⟨_, _, rfl, Or.inl rfl⟩, ⟨_, ⟨_, _, rfl, Or.inl rfl⟩, ⟨_, ⟨_, _, rfl, Or.inl rfl⟩, ⟨_, ⟨_, _, rfl, Or.inl rfl⟩, ⟨_, ⟨_, _, rfl, Or.inl rfl⟩, rfl⟩⟩⟩⟩⟩ rfl rfl (by decide) rfl (by decide) rfl h0 (fun Y2 h => by cases h; exact mj_wa_in (q := (9, 193)) (by decide +kernel)) ht [] ⟨0, 9, 12, 32⟩ [] rfl (fun _ h => absurd h List.not_mem_nil) rfl (by decide) (mj_wa_in (q := (8, 16)) (by decide +kernel)) (List.mem_of_getElem? (i := 21) rfl) (ka := 2) (c9 := 1) rfl rfl rfl rfl rfl hv hM

set_option maxRecDepth 20000 in
theorem aw_trouble {d : Nat} {M M1 : mj_M} (a1 : Int32) (a2 : Int32) (r : Int32) (h0 : M.1[0]? = some (11, 17)) (h1 : M1.1[194]? = some (101, 1)) (hr : mj_R ic_P d 11044 (.ref 0 :: [.int a1, .int a2]) M (some (.int r)) M1) : mj_wp ic_P (mj_R ic_P d) true 13000 il_trouble (0, lv_args 0 [.ref 0, .int a1, .int a2, .ref 194], [], M) (fun r9 M9 => r9 = some (.int 0) ∧ M9 = (M1.1, M1.2.1, mj_u M1.2.2.1 194 0 r.toInt64, M1.2.2.2)) := by
  refine mj_wp_one rfl rfl ?_
  refine mj_wp_one rfl rfl ?_
  refine mj_wp_one rfl rfl ?_
  refine mj_wp_one rfl rfl ?_
  refine mj_wp_one rfl rfl ?_
  refine aw_cv (vs := [.int a1, .int a2]) (rest := [.int 0, .ref 194]) rfl rfl rfl (by decide) h0 (by decide) hr ?_
  refine mj_wp_one rfl rfl ?_
  refine aw_last rfl h1 (by decide) ?_
  refine mj_wp_one rfl rfl ?_
  refine mj_wp_one rfl rfl ?_
  exact mj_wp_ret rfl rfl ⟨rfl, rfl⟩

set_option maxRecDepth 20000 in
theorem ax_trouble_1 {l : Launch} (hl9 : l.stackTraces = false) (hMa : mj_MaOk vwCl ic_ty mj_AW) {d : Nat} (hd : 6 ≤ d) {M M1 : mj_M} (a1 : Int32) (a2 : Int32) (h0 : M.1[0]? = some (11, 17)) (hv : ∀ v ∈ ([.ref 0, .int a1, .int a2, .ref 194] : List Value), mj_wv M.1.length v) (hM : mj_wM M) (ht : mt_R ic_P d 11044 (.ref 0 :: [.int a1, .int a2]) M "java/lang/IndexOutOfBoundsException" M1) : mw_Met l mj_AW ic_Ns vwCl ic_ty ic_X il_trouble ih_trouble (d + 2) [.ref 0, .int a1, .int a2, .ref 194] M (some (.int (Int32.ofInt 1))) M1 :=
  mw_thr (n := 5) (S' := (5, lv_args 0 [.ref 0, .int a1, .int a2, .ref 194], List.reverse [.int a1, .int a2] ++ .ref 0 :: [.int 0, .ref 194], M)) (ix := 112) (jf := 11044) (nf := 2) (ci := 11) (o := 0) (As := [.int a1, .int a2]) (rest := [.int 0, .ref 194]) (nn := 17) hl9 ic_Good hMa ig_trouble (by decide +kernel) (Nat.le_of_ble_eq_true rfl) hd ⟨_, ⟨_, _, rfl, Or.inl rfl⟩, ⟨_, ⟨_, _, rfl, Or.inl rfl⟩, ⟨_, ⟨_, _, rfl, Or.inl rfl⟩, ⟨_, ⟨_, _, rfl, Or.inl rfl⟩, ⟨_, ⟨_, _, rfl, Or.inl rfl⟩, rfl⟩⟩⟩⟩⟩ rfl rfl (by decide) rfl (by decide) rfl h0 (fun Y2 h => by cases h; exact mj_wa_in (q := (9, 208)) (by decide +kernel)) ht [] ⟨0, 10, 13, 32⟩ [] rfl (fun _ h => absurd h List.not_mem_nil) rfl (by decide) (mj_wa_in (q := (8, 16)) (by decide +kernel)) (List.mem_of_getElem? (i := 21) rfl) (ka := 2) (c9 := 1) rfl rfl rfl rfl rfl hv hM

set_option maxRecDepth 20000 in
theorem aw_frame {d : Nat} {M M1 : mj_M} (a1 : Int32) (r : Int32) (h0 : M.1[0]? = some (11, 17)) (h1 : M1.1[194]? = some (101, 1)) (hr : mj_R ic_P d 11045 (.ref 0 :: [.int a1]) M (some (.int r)) M1) : mj_wp ic_P (mj_R ic_P d) true 13000 il_frame (0, lv_args 0 [.ref 0, .int a1, .ref 194], [], M) (fun r9 M9 => r9 = some (.int 0) ∧ M9 = (M1.1, M1.2.1, mj_u M1.2.2.1 194 0 r.toInt64, M1.2.2.2)) := by
  refine mj_wp_one rfl rfl ?_
  refine mj_wp_one rfl rfl ?_
  refine mj_wp_one rfl rfl ?_
  refine mj_wp_one rfl rfl ?_
  refine aw_cv (vs := [.int a1]) (rest := [.int 0, .ref 194]) rfl rfl rfl (by decide) h0 (by decide) hr ?_
  refine mj_wp_one rfl rfl ?_
  refine aw_last rfl h1 (by decide) ?_
  refine mj_wp_one rfl rfl ?_
  refine mj_wp_one rfl rfl ?_
  exact mj_wp_ret rfl rfl ⟨rfl, rfl⟩

set_option maxRecDepth 20000 in
theorem ax_frame_1 {l : Launch} (hl9 : l.stackTraces = false) (hMa : mj_MaOk vwCl ic_ty mj_AW) {d : Nat} (hd : 6 ≤ d) {M M1 : mj_M} (a1 : Int32) (h0 : M.1[0]? = some (11, 17)) (hv : ∀ v ∈ ([.ref 0, .int a1, .ref 194] : List Value), mj_wv M.1.length v) (hM : mj_wM M) (ht : mt_R ic_P d 11045 (.ref 0 :: [.int a1]) M "java/lang/IndexOutOfBoundsException" M1) : mw_Met l mj_AW ic_Ns vwCl ic_ty ic_X il_frame ih_frame (d + 2) [.ref 0, .int a1, .ref 194] M (some (.int (Int32.ofInt 1))) M1 :=
  mw_thr (n := 4) (S' := (4, lv_args 0 [.ref 0, .int a1, .ref 194], List.reverse [.int a1] ++ .ref 0 :: [.int 0, .ref 194], M)) (ix := 115) (jf := 11045) (nf := 1) (ci := 11) (o := 0) (As := [.int a1]) (rest := [.int 0, .ref 194]) (nn := 17) hl9 ic_Good hMa ig_frame (by decide +kernel) (Nat.le_of_ble_eq_true rfl) hd ⟨_, ⟨_, _, rfl, Or.inl rfl⟩, ⟨_, ⟨_, _, rfl, Or.inl rfl⟩, ⟨_, ⟨_, _, rfl, Or.inl rfl⟩, ⟨_, ⟨_, _, rfl, Or.inl rfl⟩, rfl⟩⟩⟩⟩ rfl rfl (by decide) rfl (by decide) rfl h0 (fun Y2 h => by cases h; exact mj_wa_in (q := (9, 216)) (by decide +kernel)) ht [] ⟨0, 9, 12, 32⟩ [] rfl (fun _ h => absurd h List.not_mem_nil) rfl (by decide) (mj_wa_in (q := (8, 16)) (by decide +kernel)) (List.mem_of_getElem? (i := 21) rfl) (ka := 1) (c9 := 1) rfl rfl rfl rfl rfl hv hM

set_option maxRecDepth 20000 in
theorem aw_car {d : Nat} {M M1 : mj_M} (a1 : Int32) (a2 : Int32) (r : Int32) (h0 : M.1[0]? = some (11, 17)) (h1 : M1.1[194]? = some (101, 1)) (hr : mj_R ic_P d 11012 (.ref 0 :: [.int a1, .int a2]) M (some (.int r)) M1) : mj_wp ic_P (mj_R ic_P d) true 13000 il_car (0, lv_args 0 [.ref 0, .int a1, .int a2, .ref 194], [], M) (fun r9 M9 => r9 = some (.int 0) ∧ M9 = (M1.1, M1.2.1, mj_u M1.2.2.1 194 0 r.toInt64, M1.2.2.2)) := by
  refine mj_wp_one rfl rfl ?_
  refine mj_wp_one rfl rfl ?_
  refine mj_wp_one rfl rfl ?_
  refine mj_wp_one rfl rfl ?_
  refine mj_wp_one rfl rfl ?_
  refine aw_cv (vs := [.int a1, .int a2]) (rest := [.int 0, .ref 194]) rfl rfl rfl (by decide) h0 (by decide) hr ?_
  refine mj_wp_one rfl rfl ?_
  refine aw_last rfl h1 (by decide) ?_
  refine mj_wp_one rfl rfl ?_
  refine mj_wp_one rfl rfl ?_
  exact mj_wp_ret rfl rfl ⟨rfl, rfl⟩

set_option maxRecDepth 20000 in
theorem ax_car_1 {l : Launch} (hl9 : l.stackTraces = false) (hMa : mj_MaOk vwCl ic_ty mj_AW) {d : Nat} (hd : 6 ≤ d) {M M1 : mj_M} (a1 : Int32) (a2 : Int32) (h0 : M.1[0]? = some (11, 17)) (hv : ∀ v ∈ ([.ref 0, .int a1, .int a2, .ref 194] : List Value), mj_wv M.1.length v) (hM : mj_wM M) (ht : mt_R ic_P d 11012 (.ref 0 :: [.int a1, .int a2]) M "java/lang/IndexOutOfBoundsException" M1) : mw_Met l mj_AW ic_Ns vwCl ic_ty ic_X il_car ih_car (d + 2) [.ref 0, .int a1, .int a2, .ref 194] M (some (.int (Int32.ofInt 1))) M1 :=
  mw_thr (n := 5) (S' := (5, lv_args 0 [.ref 0, .int a1, .int a2, .ref 194], List.reverse [.int a1, .int a2] ++ .ref 0 :: [.int 0, .ref 194], M)) (ix := 118) (jf := 11012) (nf := 2) (ci := 11) (o := 0) (As := [.int a1, .int a2]) (rest := [.int 0, .ref 194]) (nn := 17) hl9 ic_Good hMa ig_car (by decide +kernel) (Nat.le_of_ble_eq_true rfl) hd ⟨_, ⟨_, _, rfl, Or.inl rfl⟩, ⟨_, ⟨_, _, rfl, Or.inl rfl⟩, ⟨_, ⟨_, _, rfl, Or.inl rfl⟩, ⟨_, ⟨_, _, rfl, Or.inl rfl⟩, ⟨_, ⟨_, _, rfl, Or.inl rfl⟩, rfl⟩⟩⟩⟩⟩ rfl rfl (by decide) rfl (by decide) rfl h0 (fun Y2 h => by cases h; exact mj_wa_in (q := (9, 223)) (by decide +kernel)) ht [] ⟨0, 10, 13, 32⟩ [⟨0, 10, 17, 13⟩] rfl (fun _ h => absurd h List.not_mem_nil) rfl (by decide) (mj_wa_in (q := (8, 16)) (by decide +kernel)) (List.mem_of_getElem? (i := 21) rfl) (ka := 2) (c9 := 1) rfl rfl rfl rfl rfl hv hM

set_option maxRecDepth 20000 in
theorem ax_car_2 {l : Launch} (hl9 : l.stackTraces = false) (hMa : mj_MaOk vwCl ic_ty mj_AW) {d : Nat} (hd : 6 ≤ d) {M M1 : mj_M} (a1 : Int32) (a2 : Int32) (h0 : M.1[0]? = some (11, 17)) (hv : ∀ v ∈ ([.ref 0, .int a1, .int a2, .ref 194] : List Value), mj_wv M.1.length v) (hM : mj_wM M) (ht : mt_R ic_P d 11012 (.ref 0 :: [.int a1, .int a2]) M "java/lang/IllegalArgumentException" M1) : mw_Met l mj_AW ic_Ns vwCl ic_ty ic_X il_car ih_car (d + 2) [.ref 0, .int a1, .int a2, .ref 194] M (some (.int (Int32.ofInt 2))) M1 :=
  mw_thr (n := 5) (S' := (5, lv_args 0 [.ref 0, .int a1, .int a2, .ref 194], List.reverse [.int a1, .int a2] ++ .ref 0 :: [.int 0, .ref 194], M)) (ix := 118) (jf := 11012) (nf := 2) (ci := 11) (o := 0) (As := [.int a1, .int a2]) (rest := [.int 0, .ref 194]) (nn := 17) hl9 ic_Good hMa ig_car (by decide +kernel) (Nat.le_of_ble_eq_true rfl) hd ⟨_, ⟨_, _, rfl, Or.inl rfl⟩, ⟨_, ⟨_, _, rfl, Or.inl rfl⟩, ⟨_, ⟨_, _, rfl, Or.inl rfl⟩, ⟨_, ⟨_, _, rfl, Or.inl rfl⟩, ⟨_, ⟨_, _, rfl, Or.inl rfl⟩, rfl⟩⟩⟩⟩⟩ rfl rfl (by decide) rfl (by decide) rfl h0 (fun Y2 h => by cases h; exact mj_wa_in (q := (9, 223)) (by decide +kernel)) ht [⟨0, 10, 13, 32⟩] ⟨0, 10, 17, 13⟩ [] rfl (List.forall_mem_cons.mpr ⟨⟨by decide, "java/lang/IndexOutOfBoundsException", mj_wa_in (q := (8, 16)) (by decide +kernel), List.mem_of_getElem? (i := 0) rfl⟩, fun _ h => absurd h List.not_mem_nil⟩) rfl (by decide) (mj_wa_in (q := (5, 92)) (by decide +kernel)) (List.mem_of_getElem? (i := 20) rfl) (ka := 2) (c9 := 2) rfl rfl rfl rfl rfl hv hM

set_option maxRecDepth 20000 in
theorem aw_brake {d : Nat} {M M1 : mj_M} (a1 : Int32) (a2 : Int32) (r : Int32) (h0 : M.1[0]? = some (11, 17)) (h1 : M1.1[194]? = some (101, 1)) (hr : mj_R ic_P d 11013 (.ref 0 :: [.int a1, .int a2]) M (some (.int r)) M1) : mj_wp ic_P (mj_R ic_P d) true 13000 il_brake (0, lv_args 0 [.ref 0, .int a1, .int a2, .ref 194], [], M) (fun r9 M9 => r9 = some (.int 0) ∧ M9 = (M1.1, M1.2.1, mj_u M1.2.2.1 194 0 (if r = 0 then 0 else 1), M1.2.2.2)) := by
  refine mj_wp_one rfl rfl ?_
  refine mj_wp_one rfl rfl ?_
  refine mj_wp_one rfl rfl ?_
  refine mj_wp_one rfl rfl ?_
  refine mj_wp_one rfl rfl ?_
  refine aw_cv (vs := [.int a1, .int a2]) (rest := [.int 0, .ref 194]) rfl rfl rfl (by decide) h0 (by decide) hr ?_
  refine mj_wp_one rfl rfl ?_
  refine mj_wp_if (c := mj_c .eq r 0) (fun h => ?_) (fun h => ?_)
  · rw [if_pos (of_decide_eq_true h)]
    refine mj_wp_one rfl rfl ?_
    refine aw_last rfl h1 (by decide) ?_
    refine mj_wp_one rfl rfl ?_
    refine mj_wp_one rfl rfl ?_
    exact mj_wp_ret rfl rfl ⟨rfl, rfl⟩
  · rw [if_neg (of_decide_eq_false h)]
    refine mj_wp_one rfl rfl ?_
    refine mj_wp_one rfl rfl ?_
    refine aw_last rfl h1 (by decide) ?_
    refine mj_wp_one rfl rfl ?_
    refine mj_wp_one rfl rfl ?_
    exact mj_wp_ret rfl rfl ⟨rfl, rfl⟩

set_option maxRecDepth 20000 in
theorem ax_brake_1 {l : Launch} (hl9 : l.stackTraces = false) (hMa : mj_MaOk vwCl ic_ty mj_AW) {d : Nat} (hd : 6 ≤ d) {M M1 : mj_M} (a1 : Int32) (a2 : Int32) (h0 : M.1[0]? = some (11, 17)) (hv : ∀ v ∈ ([.ref 0, .int a1, .int a2, .ref 194] : List Value), mj_wv M.1.length v) (hM : mj_wM M) (ht : mt_R ic_P d 11013 (.ref 0 :: [.int a1, .int a2]) M "java/lang/IndexOutOfBoundsException" M1) : mw_Met l mj_AW ic_Ns vwCl ic_ty ic_X il_brake ih_brake (d + 2) [.ref 0, .int a1, .int a2, .ref 194] M (some (.int (Int32.ofInt 1))) M1 :=
  mw_thr (n := 5) (S' := (5, lv_args 0 [.ref 0, .int a1, .int a2, .ref 194], List.reverse [.int a1, .int a2] ++ .ref 0 :: [.int 0, .ref 194], M)) (ix := 121) (jf := 11013) (nf := 2) (ci := 11) (o := 0) (As := [.int a1, .int a2]) (rest := [.int 0, .ref 194]) (nn := 17) hl9 ic_Good hMa ig_brake (by decide +kernel) (Nat.le_of_ble_eq_true rfl) hd ⟨_, ⟨_, _, rfl, Or.inl rfl⟩, ⟨_, ⟨_, _, rfl, Or.inl rfl⟩, ⟨_, ⟨_, _, rfl, Or.inl rfl⟩, ⟨_, ⟨_, _, rfl, Or.inl rfl⟩, ⟨_, ⟨_, _, rfl, Or.inl rfl⟩, rfl⟩⟩⟩⟩⟩ rfl rfl (by decide) rfl (by decide) rfl h0 (fun Y2 h => by cases h; exact mj_wa_in (q := (9, 231)) (by decide +kernel)) ht [] ⟨0, 17, 20, 32⟩ [] rfl (fun _ h => absurd h List.not_mem_nil) rfl (by decide) (mj_wa_in (q := (8, 16)) (by decide +kernel)) (List.mem_of_getElem? (i := 21) rfl) (ka := 2) (c9 := 1) rfl rfl rfl rfl rfl hv hM

set_option maxRecDepth 20000 in
theorem aw_press {d : Nat} {M M1 : mj_M} (a1 : Int32) (r : Int32) (h0 : M.1[0]? = some (11, 17)) (h1 : M1.1[194]? = some (101, 1)) (hr : mj_R ic_P d 11014 (.ref 0 :: [.int a1]) M (some (.int r)) M1) : mj_wp ic_P (mj_R ic_P d) true 13000 il_press (0, lv_args 0 [.ref 0, .int a1, .ref 194], [], M) (fun r9 M9 => r9 = some (.int 0) ∧ M9 = (M1.1, M1.2.1, mj_u M1.2.2.1 194 0 r.toInt64, M1.2.2.2)) := by
  refine mj_wp_one rfl rfl ?_
  refine mj_wp_one rfl rfl ?_
  refine mj_wp_one rfl rfl ?_
  refine mj_wp_one rfl rfl ?_
  refine aw_cv (vs := [.int a1]) (rest := [.int 0, .ref 194]) rfl rfl rfl (by decide) h0 (by decide) hr ?_
  refine mj_wp_one rfl rfl ?_
  refine aw_last rfl h1 (by decide) ?_
  refine mj_wp_one rfl rfl ?_
  refine mj_wp_one rfl rfl ?_
  exact mj_wp_ret rfl rfl ⟨rfl, rfl⟩

set_option maxRecDepth 20000 in
theorem ax_press_1 {l : Launch} (hl9 : l.stackTraces = false) (hMa : mj_MaOk vwCl ic_ty mj_AW) {d : Nat} (hd : 6 ≤ d) {M M1 : mj_M} (a1 : Int32) (h0 : M.1[0]? = some (11, 17)) (hv : ∀ v ∈ ([.ref 0, .int a1, .ref 194] : List Value), mj_wv M.1.length v) (hM : mj_wM M) (ht : mt_R ic_P d 11014 (.ref 0 :: [.int a1]) M "java/lang/IndexOutOfBoundsException" M1) : mw_Met l mj_AW ic_Ns vwCl ic_ty ic_X il_press ih_press (d + 2) [.ref 0, .int a1, .ref 194] M (some (.int (Int32.ofInt 1))) M1 :=
  mw_thr (n := 4) (S' := (4, lv_args 0 [.ref 0, .int a1, .ref 194], List.reverse [.int a1] ++ .ref 0 :: [.int 0, .ref 194], M)) (ix := 124) (jf := 11014) (nf := 1) (ci := 11) (o := 0) (As := [.int a1]) (rest := [.int 0, .ref 194]) (nn := 17) hl9 ic_Good hMa ig_press (by decide +kernel) (Nat.le_of_ble_eq_true rfl) hd ⟨_, ⟨_, _, rfl, Or.inl rfl⟩, ⟨_, ⟨_, _, rfl, Or.inl rfl⟩, ⟨_, ⟨_, _, rfl, Or.inl rfl⟩, ⟨_, ⟨_, _, rfl, Or.inl rfl⟩, rfl⟩⟩⟩⟩ rfl rfl (by decide) rfl (by decide) rfl h0 (fun Y2 h => by cases h; exact mj_wa_in (q := (9, 239)) (by decide +kernel)) ht [] ⟨0, 9, 12, 32⟩ [] rfl (fun _ h => absurd h List.not_mem_nil) rfl (by decide) (mj_wa_in (q := (8, 16)) (by decide +kernel)) (List.mem_of_getElem? (i := 21) rfl) (ka := 1) (c9 := 1) rfl rfl rfl rfl rfl hv hM

set_option maxRecDepth 20000 in
theorem aw_frameComes {d : Nat} {M M1 : mj_M} (a1 : Int32) (a2 : Int32) (a3 : Int32) (r : Int32) (h0 : M.1[0]? = some (11, 17)) (h1 : M1.1[194]? = some (101, 1)) (hr : mj_R ic_P d 11033 (.ref 0 :: [.int a1, .int a2, .int a3]) M (some (.int r)) M1) : mj_wp ic_P (mj_R ic_P d) true 13000 il_frameComes (0, lv_args 0 [.ref 0, .int a1, .int a2, .int a3, .ref 194], [], M) (fun r9 M9 => r9 = some (.int 0) ∧ M9 = (M1.1, M1.2.1, mj_u M1.2.2.1 194 0 (if r = 0 then 0 else 1), M1.2.2.2)) := by
  refine mj_wp_one rfl rfl ?_
  refine mj_wp_one rfl rfl ?_
  refine mj_wp_one rfl rfl ?_
  refine mj_wp_one rfl rfl ?_
  refine mj_wp_one rfl rfl ?_
  refine mj_wp_one rfl rfl ?_
  refine aw_cv (vs := [.int a1, .int a2, .int a3]) (rest := [.int 0, .ref 194]) rfl rfl rfl (by decide) h0 (by decide) hr ?_
  refine mj_wp_one rfl rfl ?_
  refine mj_wp_if (c := mj_c .eq r 0) (fun h => ?_) (fun h => ?_)
  · rw [if_pos (of_decide_eq_true h)]
    refine mj_wp_one rfl rfl ?_
    refine aw_last rfl h1 (by decide) ?_
    refine mj_wp_one rfl rfl ?_
    refine mj_wp_one rfl rfl ?_
    exact mj_wp_ret rfl rfl ⟨rfl, rfl⟩
  · rw [if_neg (of_decide_eq_false h)]
    refine mj_wp_one rfl rfl ?_
    refine mj_wp_one rfl rfl ?_
    refine aw_last rfl h1 (by decide) ?_
    refine mj_wp_one rfl rfl ?_
    refine mj_wp_one rfl rfl ?_
    exact mj_wp_ret rfl rfl ⟨rfl, rfl⟩

set_option maxRecDepth 20000 in
theorem ax_frameComes_1 {l : Launch} (hl9 : l.stackTraces = false) (hMa : mj_MaOk vwCl ic_ty mj_AW) {d : Nat} (hd : 6 ≤ d) {M M1 : mj_M} (a1 : Int32) (a2 : Int32) (a3 : Int32) (h0 : M.1[0]? = some (11, 17)) (hv : ∀ v ∈ ([.ref 0, .int a1, .int a2, .int a3, .ref 194] : List Value), mj_wv M.1.length v) (hM : mj_wM M) (ht : mt_R ic_P d 11033 (.ref 0 :: [.int a1, .int a2, .int a3]) M "java/lang/IllegalArgumentException" M1) : mw_Met l mj_AW ic_Ns vwCl ic_ty ic_X il_frameComes ih_frameComes (d + 2) [.ref 0, .int a1, .int a2, .int a3, .ref 194] M (some (.int (Int32.ofInt 1))) M1 :=
  mw_thr (n := 6) (S' := (7, lv_args 0 [.ref 0, .int a1, .int a2, .int a3, .ref 194], List.reverse [.int a1, .int a2, .int a3] ++ .ref 0 :: [.int 0, .ref 194], M)) (ix := 127) (jf := 11033) (nf := 3) (ci := 11) (o := 0) (As := [.int a1, .int a2, .int a3]) (rest := [.int 0, .ref 194]) (nn := 17) hl9 ic_Good hMa ig_frameComes (by decide +kernel) (Nat.le_of_ble_eq_true rfl) hd ⟨_, ⟨_, _, rfl, Or.inl rfl⟩, ⟨_, ⟨_, _, rfl, Or.inl rfl⟩, ⟨_, ⟨_, _, rfl, Or.inl rfl⟩, ⟨_, ⟨_, _, rfl, Or.inl rfl⟩, ⟨_, ⟨_, _, rfl, Or.inl rfl⟩, ⟨_, ⟨_, _, rfl, Or.inl rfl⟩, rfl⟩⟩⟩⟩⟩⟩ rfl rfl (by decide) rfl (by decide) rfl h0 (fun Y2 h => by cases h; exact mj_wa_in (q := (10, 19)) (by decide +kernel)) ht [] ⟨0, 19, 22, 13⟩ [] rfl (fun _ h => absurd h List.not_mem_nil) rfl (by decide) (mj_wa_in (q := (5, 92)) (by decide +kernel)) (List.mem_of_getElem? (i := 20) rfl) (ka := 2) (c9 := 1) rfl rfl rfl rfl rfl hv hM

set_option maxRecDepth 20000 in
theorem aw_sent {d : Nat} {M M1 : mj_M} (a1 : Int32) (a2 : Int32) (r : Int32) (h0 : M.1[0]? = some (11, 17)) (h1 : M1.1[194]? = some (101, 1)) (hr : mj_R ic_P d 11034 (.ref 0 :: [.int a1, .int a2]) M (some (.int r)) M1) : mj_wp ic_P (mj_R ic_P d) true 13000 il_sent (0, lv_args 0 [.ref 0, .int a1, .int a2, .ref 194], [], M) (fun r9 M9 => r9 = some (.int 0) ∧ M9 = (M1.1, M1.2.1, mj_u M1.2.2.1 194 0 r.toInt64, M1.2.2.2)) := by
  refine mj_wp_one rfl rfl ?_
  refine mj_wp_one rfl rfl ?_
  refine mj_wp_one rfl rfl ?_
  refine mj_wp_one rfl rfl ?_
  refine mj_wp_one rfl rfl ?_
  refine aw_cv (vs := [.int a1, .int a2]) (rest := [.int 0, .ref 194]) rfl rfl rfl (by decide) h0 (by decide) hr ?_
  refine mj_wp_one rfl rfl ?_
  refine aw_last rfl h1 (by decide) ?_
  refine mj_wp_one rfl rfl ?_
  refine mj_wp_one rfl rfl ?_
  exact mj_wp_ret rfl rfl ⟨rfl, rfl⟩

set_option maxRecDepth 20000 in
theorem ax_sent_1 {l : Launch} (hl9 : l.stackTraces = false) (hMa : mj_MaOk vwCl ic_ty mj_AW) {d : Nat} (hd : 6 ≤ d) {M M1 : mj_M} (a1 : Int32) (a2 : Int32) (h0 : M.1[0]? = some (11, 17)) (hv : ∀ v ∈ ([.ref 0, .int a1, .int a2, .ref 194] : List Value), mj_wv M.1.length v) (hM : mj_wM M) (ht : mt_R ic_P d 11034 (.ref 0 :: [.int a1, .int a2]) M "java/lang/IndexOutOfBoundsException" M1) : mw_Met l mj_AW ic_Ns vwCl ic_ty ic_X il_sent ih_sent (d + 2) [.ref 0, .int a1, .int a2, .ref 194] M (some (.int (Int32.ofInt 1))) M1 :=
  mw_thr (n := 5) (S' := (5, lv_args 0 [.ref 0, .int a1, .int a2, .ref 194], List.reverse [.int a1, .int a2] ++ .ref 0 :: [.int 0, .ref 194], M)) (ix := 131) (jf := 11034) (nf := 2) (ci := 11) (o := 0) (As := [.int a1, .int a2]) (rest := [.int 0, .ref 194]) (nn := 17) hl9 ic_Good hMa ig_sent (by decide +kernel) (Nat.le_of_ble_eq_true rfl) hd ⟨_, ⟨_, _, rfl, Or.inl rfl⟩, ⟨_, ⟨_, _, rfl, Or.inl rfl⟩, ⟨_, ⟨_, _, rfl, Or.inl rfl⟩, ⟨_, ⟨_, _, rfl, Or.inl rfl⟩, ⟨_, ⟨_, _, rfl, Or.inl rfl⟩, rfl⟩⟩⟩⟩⟩ rfl rfl (by decide) rfl (by decide) rfl h0 (fun Y2 h => by cases h; exact mj_wa_in (q := (10, 36)) (by decide +kernel)) ht [] ⟨0, 10, 13, 32⟩ [] rfl (fun _ h => absurd h List.not_mem_nil) rfl (by decide) (mj_wa_in (q := (8, 16)) (by decide +kernel)) (List.mem_of_getElem? (i := 21) rfl) (ka := 2) (c9 := 1) rfl rfl rfl rfl rfl hv hM

set_option maxRecDepth 20000 in
theorem aw_noise {d : Nat} {M M1 : mj_M} (a1 : Int32) (r : Int32) (h0 : M.1[0]? = some (11, 17)) (h1 : M1.1[194]? = some (101, 1)) (hr : mj_R ic_P d 11035 (.ref 0 :: [.int a1]) M (some (.int r)) M1) : mj_wp ic_P (mj_R ic_P d) true 13000 il_noise (0, lv_args 0 [.ref 0, .int a1, .ref 194], [], M) (fun r9 M9 => r9 = some (.int 0) ∧ M9 = (M1.1, M1.2.1, mj_u M1.2.2.1 194 0 r.toInt64, M1.2.2.2)) := by
  refine mj_wp_one rfl rfl ?_
  refine mj_wp_one rfl rfl ?_
  refine mj_wp_one rfl rfl ?_
  refine mj_wp_one rfl rfl ?_
  refine aw_cv (vs := [.int a1]) (rest := [.int 0, .ref 194]) rfl rfl rfl (by decide) h0 (by decide) hr ?_
  refine mj_wp_one rfl rfl ?_
  refine aw_last rfl h1 (by decide) ?_
  refine mj_wp_one rfl rfl ?_
  refine mj_wp_one rfl rfl ?_
  exact mj_wp_ret rfl rfl ⟨rfl, rfl⟩

set_option maxRecDepth 20000 in
theorem ax_noise_1 {l : Launch} (hl9 : l.stackTraces = false) (hMa : mj_MaOk vwCl ic_ty mj_AW) {d : Nat} (hd : 6 ≤ d) {M M1 : mj_M} (a1 : Int32) (h0 : M.1[0]? = some (11, 17)) (hv : ∀ v ∈ ([.ref 0, .int a1, .ref 194] : List Value), mj_wv M.1.length v) (hM : mj_wM M) (ht : mt_R ic_P d 11035 (.ref 0 :: [.int a1]) M "java/lang/IllegalArgumentException" M1) : mw_Met l mj_AW ic_Ns vwCl ic_ty ic_X il_noise ih_noise (d + 2) [.ref 0, .int a1, .ref 194] M (some (.int (Int32.ofInt 1))) M1 :=
  mw_thr (n := 4) (S' := (4, lv_args 0 [.ref 0, .int a1, .ref 194], List.reverse [.int a1] ++ .ref 0 :: [.int 0, .ref 194], M)) (ix := 134) (jf := 11035) (nf := 1) (ci := 11) (o := 0) (As := [.int a1]) (rest := [.int 0, .ref 194]) (nn := 17) hl9 ic_Good hMa ig_noise (by decide +kernel) (Nat.le_of_ble_eq_true rfl) hd ⟨_, ⟨_, _, rfl, Or.inl rfl⟩, ⟨_, ⟨_, _, rfl, Or.inl rfl⟩, ⟨_, ⟨_, _, rfl, Or.inl rfl⟩, ⟨_, ⟨_, _, rfl, Or.inl rfl⟩, rfl⟩⟩⟩⟩ rfl rfl (by decide) rfl (by decide) rfl h0 (fun Y2 h => by cases h; exact mj_wa_in (q := (10, 49)) (by decide +kernel)) ht [] ⟨0, 9, 12, 13⟩ [] rfl (fun _ h => absurd h List.not_mem_nil) rfl (by decide) (mj_wa_in (q := (5, 92)) (by decide +kernel)) (List.mem_of_getElem? (i := 20) rfl) (ka := 1) (c9 := 1) rfl rfl rfl rfl rfl hv hM

set_option maxRecDepth 20000 in
theorem aw_lock {d : Nat} {M M1 : mj_M} (a1 : Int32) (r : Int32) (h0 : M.1[0]? = some (11, 17)) (h1 : M1.1[194]? = some (101, 1)) (hr : mj_R ic_P d 11026 (.ref 0 :: [.int a1]) M (some (.int r)) M1) : mj_wp ic_P (mj_R ic_P d) true 13000 il_lock (0, lv_args 0 [.ref 0, .int a1, .ref 194], [], M) (fun r9 M9 => r9 = some (.int 0) ∧ M9 = (M1.1, M1.2.1, mj_u M1.2.2.1 194 0 r.toInt64, M1.2.2.2)) := by
  refine mj_wp_one rfl rfl ?_
  refine mj_wp_one rfl rfl ?_
  refine mj_wp_one rfl rfl ?_
  refine mj_wp_one rfl rfl ?_
  refine aw_cv (vs := [.int a1]) (rest := [.int 0, .ref 194]) rfl rfl rfl (by decide) h0 (by decide) hr ?_
  refine mj_wp_one rfl rfl ?_
  refine aw_last rfl h1 (by decide) ?_
  refine mj_wp_one rfl rfl ?_
  refine mj_wp_one rfl rfl ?_
  exact mj_wp_ret rfl rfl ⟨rfl, rfl⟩

set_option maxRecDepth 20000 in
theorem ax_lock_1 {l : Launch} (hl9 : l.stackTraces = false) (hMa : mj_MaOk vwCl ic_ty mj_AW) {d : Nat} (hd : 6 ≤ d) {M M1 : mj_M} (a1 : Int32) (h0 : M.1[0]? = some (11, 17)) (hv : ∀ v ∈ ([.ref 0, .int a1, .ref 194] : List Value), mj_wv M.1.length v) (hM : mj_wM M) (ht : mt_R ic_P d 11026 (.ref 0 :: [.int a1]) M "java/lang/IllegalStateException" M1) : mw_Met l mj_AW ic_Ns vwCl ic_ty ic_X il_lock ih_lock (d + 2) [.ref 0, .int a1, .ref 194] M (some (.int (Int32.ofInt 1))) M1 :=
  mw_thr (n := 4) (S' := (4, lv_args 0 [.ref 0, .int a1, .ref 194], List.reverse [.int a1] ++ .ref 0 :: [.int 0, .ref 194], M)) (ix := 137) (jf := 11026) (nf := 1) (ci := 11) (o := 0) (As := [.int a1]) (rest := [.int 0, .ref 194]) (nn := 17) hl9 ic_Good hMa ig_lock (by decide +kernel) (Nat.le_of_ble_eq_true rfl) hd ⟨_, ⟨_, _, rfl, Or.inl rfl⟩, ⟨_, ⟨_, _, rfl, Or.inl rfl⟩, ⟨_, ⟨_, _, rfl, Or.inl rfl⟩, ⟨_, ⟨_, _, rfl, Or.inl rfl⟩, rfl⟩⟩⟩⟩ rfl rfl (by decide) rfl (by decide) rfl h0 (fun Y2 h => by cases h; exact mj_wa_in (q := (10, 61)) (by decide +kernel)) ht [] ⟨0, 9, 12, 44⟩ [] rfl (fun _ h => absurd h List.not_mem_nil) rfl (by decide) (mj_wa_in (q := (8, 60)) (by decide +kernel)) (List.mem_of_getElem? (i := 22) rfl) (ka := 1) (c9 := 1) rfl rfl rfl rfl rfl hv hM

set_option maxRecDepth 20000 in
theorem aw_page {d : Nat} {M M1 : mj_M} (a1 : Int32) (a2 : Int32) (r : Int32) (h0 : M.1[0]? = some (11, 17)) (h1 : M1.1[194]? = some (101, 1)) (hr : mj_R ic_P d 11024 (.ref 0 :: [.int a1, .int a2]) M (some (.int r)) M1) : mj_wp ic_P (mj_R ic_P d) true 13000 il_page (0, lv_args 0 [.ref 0, .int a1, .int a2, .ref 194], [], M) (fun r9 M9 => r9 = some (.int 0) ∧ M9 = (M1.1, M1.2.1, mj_u M1.2.2.1 194 0 r.toInt64, M1.2.2.2)) := by
  refine mj_wp_one rfl rfl ?_
  refine mj_wp_one rfl rfl ?_
  refine mj_wp_one rfl rfl ?_
  refine mj_wp_one rfl rfl ?_
  refine mj_wp_one rfl rfl ?_
  refine aw_cv (vs := [.int a1, .int a2]) (rest := [.int 0, .ref 194]) rfl rfl rfl (by decide) h0 (by decide) hr ?_
  refine mj_wp_one rfl rfl ?_
  refine aw_last rfl h1 (by decide) ?_
  refine mj_wp_one rfl rfl ?_
  refine mj_wp_one rfl rfl ?_
  exact mj_wp_ret rfl rfl ⟨rfl, rfl⟩

set_option maxRecDepth 20000 in
theorem ax_page_1 {l : Launch} (hl9 : l.stackTraces = false) (hMa : mj_MaOk vwCl ic_ty mj_AW) {d : Nat} (hd : 6 ≤ d) {M M1 : mj_M} (a1 : Int32) (a2 : Int32) (h0 : M.1[0]? = some (11, 17)) (hv : ∀ v ∈ ([.ref 0, .int a1, .int a2, .ref 194] : List Value), mj_wv M.1.length v) (hM : mj_wM M) (ht : mt_R ic_P d 11024 (.ref 0 :: [.int a1, .int a2]) M "java/lang/IndexOutOfBoundsException" M1) : mw_Met l mj_AW ic_Ns vwCl ic_ty ic_X il_page ih_page (d + 2) [.ref 0, .int a1, .int a2, .ref 194] M (some (.int (Int32.ofInt 1))) M1 :=
  mw_thr (n := 5) (S' := (5, lv_args 0 [.ref 0, .int a1, .int a2, .ref 194], List.reverse [.int a1, .int a2] ++ .ref 0 :: [.int 0, .ref 194], M)) (ix := 140) (jf := 11024) (nf := 2) (ci := 11) (o := 0) (As := [.int a1, .int a2]) (rest := [.int 0, .ref 194]) (nn := 17) hl9 ic_Good hMa ig_page (by decide +kernel) (Nat.le_of_ble_eq_true rfl) hd ⟨_, ⟨_, _, rfl, Or.inl rfl⟩, ⟨_, ⟨_, _, rfl, Or.inl rfl⟩, ⟨_, ⟨_, _, rfl, Or.inl rfl⟩, ⟨_, ⟨_, _, rfl, Or.inl rfl⟩, ⟨_, ⟨_, _, rfl, Or.inl rfl⟩, rfl⟩⟩⟩⟩⟩ rfl rfl (by decide) rfl (by decide) rfl h0 (fun Y2 h => by cases h; exact mj_wa_in (q := (10, 68)) (by decide +kernel)) ht [] ⟨0, 10, 13, 32⟩ [] rfl (fun _ h => absurd h List.not_mem_nil) rfl (by decide) (mj_wa_in (q := (8, 16)) (by decide +kernel)) (List.mem_of_getElem? (i := 21) rfl) (ka := 2) (c9 := 1) rfl rfl rfl rfl rfl hv hM

set_option maxRecDepth 20000 in
theorem aw_tear {d : Nat} {M M1 : mj_M} (a1 : Int32) (a2 : Int32) (a3 : Int32) (r : Int32) (h0 : M.1[0]? = some (11, 17)) (h1 : M1.1[194]? = some (101, 1)) (hr : mj_R ic_P d 11025 (.ref 0 :: [.int a1, .int a2, .int a3]) M (some (.int r)) M1) : mj_wp ic_P (mj_R ic_P d) true 13000 il_tear (0, lv_args 0 [.ref 0, .int a1, .int a2, .int a3, .ref 194], [], M) (fun r9 M9 => r9 = some (.int 0) ∧ M9 = (M1.1, M1.2.1, mj_u M1.2.2.1 194 0 r.toInt64, M1.2.2.2)) := by
  refine mj_wp_one rfl rfl ?_
  refine mj_wp_one rfl rfl ?_
  refine mj_wp_one rfl rfl ?_
  refine mj_wp_one rfl rfl ?_
  refine mj_wp_one rfl rfl ?_
  refine mj_wp_one rfl rfl ?_
  refine aw_cv (vs := [.int a1, .int a2, .int a3]) (rest := [.int 0, .ref 194]) rfl rfl rfl (by decide) h0 (by decide) hr ?_
  refine mj_wp_one rfl rfl ?_
  refine aw_last rfl h1 (by decide) ?_
  refine mj_wp_one rfl rfl ?_
  refine mj_wp_one rfl rfl ?_
  exact mj_wp_ret rfl rfl ⟨rfl, rfl⟩

set_option maxRecDepth 20000 in
theorem ax_tear_1 {l : Launch} (hl9 : l.stackTraces = false) (hMa : mj_MaOk vwCl ic_ty mj_AW) {d : Nat} (hd : 6 ≤ d) {M M1 : mj_M} (a1 : Int32) (a2 : Int32) (a3 : Int32) (h0 : M.1[0]? = some (11, 17)) (hv : ∀ v ∈ ([.ref 0, .int a1, .int a2, .int a3, .ref 194] : List Value), mj_wv M.1.length v) (hM : mj_wM M) (ht : mt_R ic_P d 11025 (.ref 0 :: [.int a1, .int a2, .int a3]) M "java/lang/IndexOutOfBoundsException" M1) : mw_Met l mj_AW ic_Ns vwCl ic_ty ic_X il_tear ih_tear (d + 2) [.ref 0, .int a1, .int a2, .int a3, .ref 194] M (some (.int (Int32.ofInt 1))) M1 :=
  mw_thr (n := 6) (S' := (7, lv_args 0 [.ref 0, .int a1, .int a2, .int a3, .ref 194], List.reverse [.int a1, .int a2, .int a3] ++ .ref 0 :: [.int 0, .ref 194], M)) (ix := 143) (jf := 11025) (nf := 3) (ci := 11) (o := 0) (As := [.int a1, .int a2, .int a3]) (rest := [.int 0, .ref 194]) (nn := 17) hl9 ic_Good hMa ig_tear (by decide +kernel) (Nat.le_of_ble_eq_true rfl) hd ⟨_, ⟨_, _, rfl, Or.inl rfl⟩, ⟨_, ⟨_, _, rfl, Or.inl rfl⟩, ⟨_, ⟨_, _, rfl, Or.inl rfl⟩, ⟨_, ⟨_, _, rfl, Or.inl rfl⟩, ⟨_, ⟨_, _, rfl, Or.inl rfl⟩, ⟨_, ⟨_, _, rfl, Or.inl rfl⟩, rfl⟩⟩⟩⟩⟩⟩ rfl rfl (by decide) rfl (by decide) rfl h0 (fun Y2 h => by cases h; exact mj_wa_in (q := (10, 75)) (by decide +kernel)) ht [] ⟨0, 12, 15, 32⟩ [⟨0, 12, 19, 44⟩] rfl (fun _ h => absurd h List.not_mem_nil) rfl (by decide) (mj_wa_in (q := (8, 16)) (by decide +kernel)) (List.mem_of_getElem? (i := 21) rfl) (ka := 2) (c9 := 1) rfl rfl rfl rfl rfl hv hM

set_option maxRecDepth 20000 in
theorem ax_tear_2 {l : Launch} (hl9 : l.stackTraces = false) (hMa : mj_MaOk vwCl ic_ty mj_AW) {d : Nat} (hd : 6 ≤ d) {M M1 : mj_M} (a1 : Int32) (a2 : Int32) (a3 : Int32) (h0 : M.1[0]? = some (11, 17)) (hv : ∀ v ∈ ([.ref 0, .int a1, .int a2, .int a3, .ref 194] : List Value), mj_wv M.1.length v) (hM : mj_wM M) (ht : mt_R ic_P d 11025 (.ref 0 :: [.int a1, .int a2, .int a3]) M "java/lang/IllegalStateException" M1) : mw_Met l mj_AW ic_Ns vwCl ic_ty ic_X il_tear ih_tear (d + 2) [.ref 0, .int a1, .int a2, .int a3, .ref 194] M (some (.int (Int32.ofInt 2))) M1 :=
  mw_thr (n := 6) (S' := (7, lv_args 0 [.ref 0, .int a1, .int a2, .int a3, .ref 194], List.reverse [.int a1, .int a2, .int a3] ++ .ref 0 :: [.int 0, .ref 194], M)) (ix := 143) (jf := 11025) (nf := 3) (ci := 11) (o := 0) (As := [.int a1, .int a2, .int a3]) (rest := [.int 0, .ref 194]) (nn := 17) hl9 ic_Good hMa ig_tear (by decide +kernel) (Nat.le_of_ble_eq_true rfl) hd ⟨_, ⟨_, _, rfl, Or.inl rfl⟩, ⟨_, ⟨_, _, rfl, Or.inl rfl⟩, ⟨_, ⟨_, _, rfl, Or.inl rfl⟩, ⟨_, ⟨_, _, rfl, Or.inl rfl⟩, ⟨_, ⟨_, _, rfl, Or.inl rfl⟩, ⟨_, ⟨_, _, rfl, Or.inl rfl⟩, rfl⟩⟩⟩⟩⟩⟩ rfl rfl (by decide) rfl (by decide) rfl h0 (fun Y2 h => by cases h; exact mj_wa_in (q := (10, 75)) (by decide +kernel)) ht [⟨0, 12, 15, 32⟩] ⟨0, 12, 19, 44⟩ [] rfl (List.forall_mem_cons.mpr ⟨⟨by decide, "java/lang/IndexOutOfBoundsException", mj_wa_in (q := (8, 16)) (by decide +kernel), List.mem_of_getElem? (i := 1) rfl⟩, fun _ h => absurd h List.not_mem_nil⟩) rfl (by decide) (mj_wa_in (q := (8, 60)) (by decide +kernel)) (List.mem_of_getElem? (i := 22) rfl) (ka := 2) (c9 := 2) rfl rfl rfl rfl rfl hv hM

set_option maxRecDepth 20000 in
theorem aw_record {d : Nat} {M M1 : mj_M} (a1 : Int32) (a2 : Int32) (a3 : Int32) (a4 : Int32)  (h0 : M.1[0]? = some (11, 17)) (h1 : M1.1[194]? = some (101, 1)) (hr : mj_R ic_P d 11038 (.ref 0 :: [.int a1, .int a2, .int a3, .int a4]) M none M1) : mj_wp ic_P (mj_R ic_P d) true 13000 il_record (0, lv_args 0 [.ref 0, .int a1, .int a2, .int a3, .int a4], [], M) (fun r9 M9 => r9 = some (.int 0) ∧ M9 = M1) := by
  refine mj_wp_one rfl rfl ?_
  refine mj_wp_one rfl rfl ?_
  refine mj_wp_one rfl rfl ?_
  refine mj_wp_one rfl rfl ?_
  refine mj_wp_one rfl rfl ?_
  refine aw_cv (vs := [.int a1, .int a2, .int a3, .int a4]) (rest := []) rfl rfl rfl (by decide) h0 (by decide) hr ?_
  refine mj_wp_one rfl rfl ?_
  refine mj_wp_one rfl rfl ?_
  exact mj_wp_ret rfl rfl ⟨rfl, rfl⟩

set_option maxRecDepth 20000 in
theorem ax_record_1 {l : Launch} (hl9 : l.stackTraces = false) (hMa : mj_MaOk vwCl ic_ty mj_AW) {d : Nat} (hd : 6 ≤ d) {M M1 : mj_M} (a1 : Int32) (a2 : Int32) (a3 : Int32) (a4 : Int32) (h0 : M.1[0]? = some (11, 17)) (hv : ∀ v ∈ ([.ref 0, .int a1, .int a2, .int a3, .int a4] : List Value), mj_wv M.1.length v) (hM : mj_wM M) (ht : mt_R ic_P d 11038 (.ref 0 :: [.int a1, .int a2, .int a3, .int a4]) M "java/lang/IndexOutOfBoundsException" M1) : mw_Met l mj_AW ic_Ns vwCl ic_ty ic_X il_record ih_record (d + 2) [.ref 0, .int a1, .int a2, .int a3, .int a4] M (some (.int (Int32.ofInt 1))) M1 :=
  mw_thr (n := 5) (S' := (6, lv_args 0 [.ref 0, .int a1, .int a2, .int a3, .int a4], List.reverse [.int a1, .int a2, .int a3, .int a4] ++ .ref 0 :: [], M)) (ix := 146) (jf := 11038) (nf := 4) (ci := 11) (o := 0) (As := [.int a1, .int a2, .int a3, .int a4]) (rest := []) (nn := 17) hl9 ic_Good hMa ig_record (by decide +kernel) (Nat.le_of_ble_eq_true rfl) hd ⟨_, ⟨_, _, rfl, Or.inl rfl⟩, ⟨_, ⟨_, _, rfl, Or.inl rfl⟩, ⟨_, ⟨_, _, rfl, Or.inl rfl⟩, ⟨_, ⟨_, _, rfl, Or.inl rfl⟩, ⟨_, ⟨_, _, rfl, Or.inl rfl⟩, rfl⟩⟩⟩⟩⟩ rfl rfl (by decide) rfl (by decide) rfl h0 (fun Y2 h => by cases h; exact mj_wa_in (q := (10, 82)) (by decide +kernel)) ht [] ⟨0, 9, 12, 32⟩ [⟨0, 9, 16, 13⟩] rfl (fun _ h => absurd h List.not_mem_nil) rfl (by decide) (mj_wa_in (q := (8, 16)) (by decide +kernel)) (List.mem_of_getElem? (i := 21) rfl) (ka := 2) (c9 := 1) rfl rfl rfl rfl rfl hv hM

set_option maxRecDepth 20000 in
theorem ax_record_2 {l : Launch} (hl9 : l.stackTraces = false) (hMa : mj_MaOk vwCl ic_ty mj_AW) {d : Nat} (hd : 6 ≤ d) {M M1 : mj_M} (a1 : Int32) (a2 : Int32) (a3 : Int32) (a4 : Int32) (h0 : M.1[0]? = some (11, 17)) (hv : ∀ v ∈ ([.ref 0, .int a1, .int a2, .int a3, .int a4] : List Value), mj_wv M.1.length v) (hM : mj_wM M) (ht : mt_R ic_P d 11038 (.ref 0 :: [.int a1, .int a2, .int a3, .int a4]) M "java/lang/IllegalArgumentException" M1) : mw_Met l mj_AW ic_Ns vwCl ic_ty ic_X il_record ih_record (d + 2) [.ref 0, .int a1, .int a2, .int a3, .int a4] M (some (.int (Int32.ofInt 2))) M1 :=
  mw_thr (n := 5) (S' := (6, lv_args 0 [.ref 0, .int a1, .int a2, .int a3, .int a4], List.reverse [.int a1, .int a2, .int a3, .int a4] ++ .ref 0 :: [], M)) (ix := 146) (jf := 11038) (nf := 4) (ci := 11) (o := 0) (As := [.int a1, .int a2, .int a3, .int a4]) (rest := []) (nn := 17) hl9 ic_Good hMa ig_record (by decide +kernel) (Nat.le_of_ble_eq_true rfl) hd ⟨_, ⟨_, _, rfl, Or.inl rfl⟩, ⟨_, ⟨_, _, rfl, Or.inl rfl⟩, ⟨_, ⟨_, _, rfl, Or.inl rfl⟩, ⟨_, ⟨_, _, rfl, Or.inl rfl⟩, ⟨_, ⟨_, _, rfl, Or.inl rfl⟩, rfl⟩⟩⟩⟩⟩ rfl rfl (by decide) rfl (by decide) rfl h0 (fun Y2 h => by cases h; exact mj_wa_in (q := (10, 82)) (by decide +kernel)) ht [⟨0, 9, 12, 32⟩] ⟨0, 9, 16, 13⟩ [] rfl (List.forall_mem_cons.mpr ⟨⟨by decide, "java/lang/IndexOutOfBoundsException", mj_wa_in (q := (8, 16)) (by decide +kernel), List.mem_of_getElem? (i := 0) rfl⟩, fun _ h => absurd h List.not_mem_nil⟩) rfl (by decide) (mj_wa_in (q := (5, 92)) (by decide +kernel)) (List.mem_of_getElem? (i := 20) rfl) (ka := 2) (c9 := 2) rfl rfl rfl rfl rfl hv hM

set_option maxRecDepth 20000 in
theorem aw_row {d : Nat} {M M1 : mj_M} (a1 : Int32) (a2 : Int32) (r : Int64) (h0 : M.1[0]? = some (11, 17)) (h1 : M1.1[194]? = some (101, 1)) (hr : mj_R ic_P d 11039 (.ref 0 :: [.int a1, .int a2]) M (some (.long r)) M1) : mj_wp ic_P (mj_R ic_P d) true 13000 il_row (0, lv_args 0 [.ref 0, .int a1, .int a2, .ref 194], [], M) (fun r9 M9 => r9 = some (.int 0) ∧ M9 = (M1.1, M1.2.1, mj_u M1.2.2.1 194 0 r, M1.2.2.2)) := by
  refine mj_wp_one rfl rfl ?_
  refine mj_wp_one rfl rfl ?_
  refine mj_wp_one rfl rfl ?_
  refine mj_wp_one rfl rfl ?_
  refine mj_wp_one rfl rfl ?_
  refine aw_cv (vs := [.int a1, .int a2]) (rest := [.int 0, .ref 194]) rfl rfl rfl (by decide) h0 (by decide) hr ?_
  refine aw_last rfl h1 (by decide) ?_
  refine mj_wp_one rfl rfl ?_
  refine mj_wp_one rfl rfl ?_
  exact mj_wp_ret rfl rfl ⟨rfl, rfl⟩

set_option maxRecDepth 20000 in
theorem ax_row_1 {l : Launch} (hl9 : l.stackTraces = false) (hMa : mj_MaOk vwCl ic_ty mj_AW) {d : Nat} (hd : 6 ≤ d) {M M1 : mj_M} (a1 : Int32) (a2 : Int32) (h0 : M.1[0]? = some (11, 17)) (hv : ∀ v ∈ ([.ref 0, .int a1, .int a2, .ref 194] : List Value), mj_wv M.1.length v) (hM : mj_wM M) (ht : mt_R ic_P d 11039 (.ref 0 :: [.int a1, .int a2]) M "java/lang/IndexOutOfBoundsException" M1) : mw_Met l mj_AW ic_Ns vwCl ic_ty ic_X il_row ih_row (d + 2) [.ref 0, .int a1, .int a2, .ref 194] M (some (.int (Int32.ofInt 1))) M1 :=
  mw_thr (n := 5) (S' := (5, lv_args 0 [.ref 0, .int a1, .int a2, .ref 194], List.reverse [.int a1, .int a2] ++ .ref 0 :: [.int 0, .ref 194], M)) (ix := 149) (jf := 11039) (nf := 2) (ci := 11) (o := 0) (As := [.int a1, .int a2]) (rest := [.int 0, .ref 194]) (nn := 17) hl9 ic_Good hMa ig_row (by decide +kernel) (Nat.le_of_ble_eq_true rfl) hd ⟨_, ⟨_, _, rfl, Or.inl rfl⟩, ⟨_, ⟨_, _, rfl, Or.inl rfl⟩, ⟨_, ⟨_, _, rfl, Or.inl rfl⟩, ⟨_, ⟨_, _, rfl, Or.inl rfl⟩, ⟨_, ⟨_, _, rfl, Or.inl rfl⟩, rfl⟩⟩⟩⟩⟩ rfl rfl (by decide) rfl (by decide) rfl h0 (fun Y2 h => by cases h; exact mj_wa_in (q := (10, 95)) (by decide +kernel)) ht [] ⟨0, 9, 12, 32⟩ [] rfl (fun _ h => absurd h List.not_mem_nil) rfl (by decide) (mj_wa_in (q := (8, 16)) (by decide +kernel)) (List.mem_of_getElem? (i := 21) rfl) (ka := 2) (c9 := 1) rfl rfl rfl rfl rfl hv hM

set_option maxRecDepth 20000 in
theorem aw_comes {d : Nat} {M M1 : mj_M} (a1 : Int32) (r : Int64) (h0 : M.1[0]? = some (11, 17)) (h1 : M1.1[194]? = some (101, 1)) (hr : mj_R ic_P d 11046 (.ref 0 :: [.int a1]) M (some (.long r)) M1) : mj_wp ic_P (mj_R ic_P d) true 13000 il_comes (0, lv_args 0 [.ref 0, .int a1, .ref 194], [], M) (fun r9 M9 => r9 = some (.int 0) ∧ M9 = (M1.1, M1.2.1, mj_u M1.2.2.1 194 0 r, M1.2.2.2)) := by
  refine mj_wp_one rfl rfl ?_
  refine mj_wp_one rfl rfl ?_
  refine mj_wp_one rfl rfl ?_
  refine mj_wp_one rfl rfl ?_
  refine aw_cv (vs := [.int a1]) (rest := [.int 0, .ref 194]) rfl rfl rfl (by decide) h0 (by decide) hr ?_
  refine aw_last rfl h1 (by decide) ?_
  refine mj_wp_one rfl rfl ?_
  refine mj_wp_one rfl rfl ?_
  exact mj_wp_ret rfl rfl ⟨rfl, rfl⟩

set_option maxRecDepth 20000 in
theorem ax_comes_1 {l : Launch} (hl9 : l.stackTraces = false) (hMa : mj_MaOk vwCl ic_ty mj_AW) {d : Nat} (hd : 6 ≤ d) {M M1 : mj_M} (a1 : Int32) (h0 : M.1[0]? = some (11, 17)) (hv : ∀ v ∈ ([.ref 0, .int a1, .ref 194] : List Value), mj_wv M.1.length v) (hM : mj_wM M) (ht : mt_R ic_P d 11046 (.ref 0 :: [.int a1]) M "java/lang/IllegalArgumentException" M1) : mw_Met l mj_AW ic_Ns vwCl ic_ty ic_X il_comes ih_comes (d + 2) [.ref 0, .int a1, .ref 194] M (some (.int (Int32.ofInt 1))) M1 :=
  mw_thr (n := 4) (S' := (4, lv_args 0 [.ref 0, .int a1, .ref 194], List.reverse [.int a1] ++ .ref 0 :: [.int 0, .ref 194], M)) (ix := 152) (jf := 11046) (nf := 1) (ci := 11) (o := 0) (As := [.int a1]) (rest := [.int 0, .ref 194]) (nn := 17) hl9 ic_Good hMa ig_comes (by decide +kernel) (Nat.le_of_ble_eq_true rfl) hd ⟨_, ⟨_, _, rfl, Or.inl rfl⟩, ⟨_, ⟨_, _, rfl, Or.inl rfl⟩, ⟨_, ⟨_, _, rfl, Or.inl rfl⟩, ⟨_, ⟨_, _, rfl, Or.inl rfl⟩, rfl⟩⟩⟩⟩ rfl rfl (by decide) rfl (by decide) rfl h0 (fun Y2 h => by cases h; exact mj_wa_in (q := (10, 103)) (by decide +kernel)) ht [] ⟨0, 8, 11, 13⟩ [⟨0, 8, 14, 44⟩] rfl (fun _ h => absurd h List.not_mem_nil) rfl (by decide) (mj_wa_in (q := (5, 92)) (by decide +kernel)) (List.mem_of_getElem? (i := 20) rfl) (ka := 1) (c9 := 1) rfl rfl rfl rfl rfl hv hM

set_option maxRecDepth 20000 in
theorem ax_comes_2 {l : Launch} (hl9 : l.stackTraces = false) (hMa : mj_MaOk vwCl ic_ty mj_AW) {d : Nat} (hd : 6 ≤ d) {M M1 : mj_M} (a1 : Int32) (h0 : M.1[0]? = some (11, 17)) (hv : ∀ v ∈ ([.ref 0, .int a1, .ref 194] : List Value), mj_wv M.1.length v) (hM : mj_wM M) (ht : mt_R ic_P d 11046 (.ref 0 :: [.int a1]) M "java/lang/IllegalStateException" M1) : mw_Met l mj_AW ic_Ns vwCl ic_ty ic_X il_comes ih_comes (d + 2) [.ref 0, .int a1, .ref 194] M (some (.int (Int32.ofInt 2))) M1 :=
  mw_thr (n := 4) (S' := (4, lv_args 0 [.ref 0, .int a1, .ref 194], List.reverse [.int a1] ++ .ref 0 :: [.int 0, .ref 194], M)) (ix := 152) (jf := 11046) (nf := 1) (ci := 11) (o := 0) (As := [.int a1]) (rest := [.int 0, .ref 194]) (nn := 17) hl9 ic_Good hMa ig_comes (by decide +kernel) (Nat.le_of_ble_eq_true rfl) hd ⟨_, ⟨_, _, rfl, Or.inl rfl⟩, ⟨_, ⟨_, _, rfl, Or.inl rfl⟩, ⟨_, ⟨_, _, rfl, Or.inl rfl⟩, ⟨_, ⟨_, _, rfl, Or.inl rfl⟩, rfl⟩⟩⟩⟩ rfl rfl (by decide) rfl (by decide) rfl h0 (fun Y2 h => by cases h; exact mj_wa_in (q := (10, 103)) (by decide +kernel)) ht [⟨0, 8, 11, 13⟩] ⟨0, 8, 14, 44⟩ [] rfl (List.forall_mem_cons.mpr ⟨⟨by decide, "java/lang/IllegalArgumentException", mj_wa_in (q := (5, 92)) (by decide +kernel), List.mem_of_getElem? (i := 2) rfl⟩, fun _ h => absurd h List.not_mem_nil⟩) rfl (by decide) (mj_wa_in (q := (8, 60)) (by decide +kernel)) (List.mem_of_getElem? (i := 22) rfl) (ka := 1) (c9 := 2) rfl rfl rfl rfl rfl hv hM

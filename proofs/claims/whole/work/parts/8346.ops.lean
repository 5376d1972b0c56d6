/-! THE LAW'S OPERATIONS: each case from one good state to the next (printed by gops.py) -/
def lo_LV (i : Int32) : List (Nat × Value) := [(4, .int i), (0, .ref 4000000), (1, .ref 0), (2, .ref 124), (3, .ref 194)]
def lo_ok (lc : Launch) (L : Nat) (xs : Nat → Int32) (pc : Nat) (i : Int32) (k : Nat) (M : mj_M) : Prop := ∃ (s' : Nat → Int32) (l' : Nat → Int64) (x' : Nat → Int32) (y' : Nat → Int64) (u' : Nat → Int32) (v' : Nat → Int64) (w' : Int64) (lvx : List (Nat × Value)) (e : Nat), lw_T lc 121 L xs (pc, lo_LV i, [], M) (3275, lvx ++ lo_LV i, [], fm (s', l', x', y') (s', l', u', v') w') e ∧ e ≤ 1 ∧ q_V (k + 1) s' l' x' y' u' v' ∧ mj_at (lvx ++ lo_LV i) 4 = some (.int i)
theorem lo_ref {zC zR : pj_Z} {w : Int64} {n : Nat} (h : n < 195) : mj_wv (fm zC zR w).1.length (.ref n) := fun i e => by
  cases e
  have hl : (fm zC zR w).1.length = 195 := show fm_sh.length = 195 from (by decide +kernel)
  rw [hl]
  exact Or.inl h
theorem lo_nil {zC zR : pj_Z} {w : Int64} : ∀ v ∈ ([] : List Value), mj_wv (fm zC zR w).1.length v := fun _ h => absurd h List.not_mem_nil
theorem lo_b {q : Int32} : (if q = 0 then (0 : Int32) else 1) = 0 ∨ (if q = 0 then (0 : Int32) else 1) = 1 := by split <;> simp
set_option maxRecDepth 20000 in
theorem lo_0 {lc : Launch} (hl9 : lc.stackTraces = false) (hMa : mj_MaOk vwCl ic_ty mj_AW) {k : Nat} {s : Nat → Int32} {l : Nat → Int64} {x : Nat → Int32} {y : Nat → Int64} {u : Nat → Int32} {v : Nat → Int64} {w : Int64} (hV : q_V k s l x y u v) (hk : k < 512) {L : Nat} {xs : Nat → Int32} {i : Int32} (h1 : vp_in (i + Int32.ofInt 1) L) : lo_ok lc L xs 240 i k (fm (s, l, x, y) (s, l, u, v) w) := by
  obtain ⟨r, s', l', x', y', u', v', e1, e2, e3, e4⟩ := q_O_key (a := (if (xs (i + Int32.ofInt 1).toNatClampNeg) = 0 then 0 else 1)) hV hk lo_b
  have hx : mj_R ic_P 121 11001 (.ref 0 :: [.int (if (xs (i + Int32.ofInt 1).toNatClampNeg) = 0 then 0 else 1)]) (fm (s, l, x, y) (s, l, u, v) w) (some (.int r)) (fm (s', l', x', y') (s, l, u, v) w) := mj_R_le (by decide) (pm_X11_key (fm_TC (s, l, u, v) w) _ s l x y _ e1)
  have hm : mj_R ic_P 121 12014 (.ref 124 :: [.int (if (xs (i + Int32.ofInt 1).toNatClampNeg) = 0 then 0 else 1)]) (fm (s', l', x', y') (s, l, u, v) w) (some (.int r)) (fm (s', l', x', y') (s', l', u', v') w) := mj_R_le (by decide) (pm_X12_key (fm_TR (s', l', x', y') w) _ s l u v _ e2)
  exact ⟨s', l', x', y', u', v', w, [], 0, lc_0 h1 hx hm rfl rfl rfl rfl, Nat.zero_le _, e4, rfl⟩

set_option maxRecDepth 20000 in
theorem lo_1 {lc : Launch} (hl9 : lc.stackTraces = false) (hMa : mj_MaOk vwCl ic_ty mj_AW) {k : Nat} {s : Nat → Int32} {l : Nat → Int64} {x : Nat → Int32} {y : Nat → Int64} {u : Nat → Int32} {v : Nat → Int64} {w : Int64} (hV : q_V k s l x y u v) (hk : k < 512) {L : Nat} {xs : Nat → Int32} {i : Int32} (h1 : vp_in (i + Int32.ofInt 1) L) : lo_ok lc L xs 281 i k (fm (s, l, x, y) (s, l, u, v) w) := by
  rcases q_O_pass (a := (xs (i + Int32.ofInt 1).toNatClampNeg)) hV hk with ⟨r, s', l', x', y', u', v', e1, e2, e3, e4⟩ | ⟨⟨r, u', v', e2, e3, e4⟩, e1⟩
  · have hr : mj_R ic_P 120 11002 (.ref 0 :: [.int (xs (i + Int32.ofInt 1).toNatClampNeg)]) (fm (s, l, x, y) (s, l, u, v) w) (some (.int r)) (fm (s', l', x', y') (s, l, u, v) w) := mj_R_le (by decide) (pm_X11_pass (fm_TC (s, l, u, v) w) _ s l x y _ e1)
    obtain ⟨n, S', i9, k9, r9, g1, g2, g3, g4, g5⟩ := aw_pass _ r rfl rfl hr
    have hw := mw_ret (l := lc) (hh := ih_pass) ic_Good hMa ig_pass (by decide +kernel) (Nat.le_of_ble_eq_true rfl) g1 g2 g3 (mj_all2 (lo_ref (by decide)) (mj_all2 (mj_wv_int _) (mj_all2 (lo_ref (by decide)) lo_nil))) (fm_wM _ _ _)
    rw [g4, g5, fm_out] at hw
    have hm : mj_R ic_P 121 12085 (.ref 124 :: [.int (xs (i + Int32.ofInt 1).toNatClampNeg)]) (fm (s', l', x', y') (s, l, u, v) r.toInt64) (some (.int r)) (fm (s', l', x', y') (s', l', u', v') r.toInt64) := mj_R_le (by decide) (pm_X12_pass (fm_TR (s', l', x', y') r.toInt64) _ s l u v _ e2)
    have ht : mj_R ic_P 121 12003 (.ref 124 :: []) (fm (s', l', x', y') (s', l', u', v') r.toInt64) (some (.int 0)) (fm (s', l', x', y') (s', l', u', v') r.toInt64) := by
      have z := mj_R_le (d' := 121) (by decide) (pm_X12_thrown (fm_TR (s', l', x', y') r.toInt64) s' l' u' v' (u' 1, s', l', u', v') rfl)
      have z9 : pm_rI (u' 1) = some (.int 0) := by rw [e3]; rfl
      exact z9 ▸ z
    exact ⟨s', l', x', y', u', v', r.toInt64, [(6, .int r), (5, .int 0)], 1, lc_1 h1 hw (mj_ext_eq rfl) (fm_wM _ _ _) hm ht (fun _ => fm_o _ _ _) rfl rfl rfl rfl, Nat.le_refl _, e4, rfl⟩
  · have hq := mt_R_le (d' := 119) (by decide) (pt_X11_pass_t1 (fm_TC (s, l, u, v) w) _ s l x y _ e1)
    have hw := ax_pass_1 (l := lc) (d := 119) hl9 hMa (by decide) _ rfl (mj_all2 (lo_ref (by decide)) (mj_all2 (mj_wv_int _) (mj_all2 (lo_ref (by decide)) lo_nil))) (fm_wM _ _ _) hq
    have hm : mj_R ic_P 121 12085 (.ref 124 :: [.int (xs (i + Int32.ofInt 1).toNatClampNeg)]) (fm (s, l, x, y) (s, l, u, v) w) (some (.int r)) (fm (s, l, x, y) (s, l, u', v') w) := mj_R_le (by decide) (pm_X12_pass (fm_TR (s, l, x, y) w) _ s l u v _ e2)
    have ht : mj_R ic_P 121 12003 (.ref 124 :: []) (fm (s, l, x, y) (s, l, u', v') w) (some (.int (Int32.ofInt 1))) (fm (s, l, x, y) (s, l, u', v') w) := by
      have z := mj_R_le (d' := 121) (by decide) (pm_X12_thrown (fm_TR (s, l, x, y) w) s l u' v' (u' 1, s, l, u', v') rfl)
      have z9 : pm_rI (u' 1) = some (.int (Int32.ofInt 1)) := by rw [e3]; rfl
      exact z9 ▸ z
    exact ⟨s, l, x, y, u', v', w, [(6, .int r), (5, .int (Int32.ofInt 1))], 1, lc_1 h1 hw mj_ext_rf (fm_wM _ _ _) hm ht (fun h => absurd h (by decide)) rfl rfl rfl rfl, Nat.le_refl _, e4, rfl⟩

set_option maxRecDepth 20000 in
theorem lo_2 {lc : Launch} (hl9 : lc.stackTraces = false) (hMa : mj_MaOk vwCl ic_ty mj_AW) {k : Nat} {s : Nat → Int32} {l : Nat → Int64} {x : Nat → Int32} {y : Nat → Int64} {u : Nat → Int32} {v : Nat → Int64} {w : Int64} (hV : q_V k s l x y u v) (hk : k < 512) {L : Nat} {xs : Nat → Int32} {i : Int32} (h1 : vp_in (i + Int32.ofInt 1) L) : lo_ok lc L xs 337 i k (fm (s, l, x, y) (s, l, u, v) w) := by
  rcases q_O_tooth (a := (xs (i + Int32.ofInt 1).toNatClampNeg)) hV hk with ⟨r, s', l', x', y', u', v', e1, e2, e3, e4⟩ | ⟨⟨r, u', v', e2, e3, e4⟩, e1⟩
  · have hr : mj_R ic_P 120 11003 (.ref 0 :: [.int (xs (i + Int32.ofInt 1).toNatClampNeg)]) (fm (s, l, x, y) (s, l, u, v) w) (some (.int r)) (fm (s', l', x', y') (s, l, u, v) w) := mj_R_le (by decide) (pm_X11_tooth (fm_TC (s, l, u, v) w) _ s l x y _ e1)
    obtain ⟨n, S', i9, k9, r9, g1, g2, g3, g4, g5⟩ := aw_tooth _ r rfl rfl hr
    have hw := mw_ret (l := lc) (hh := ih_tooth) ic_Good hMa ig_tooth (by decide +kernel) (Nat.le_of_ble_eq_true rfl) g1 g2 g3 (mj_all2 (lo_ref (by decide)) (mj_all2 (mj_wv_int _) (mj_all2 (lo_ref (by decide)) lo_nil))) (fm_wM _ _ _)
    rw [g4, g5, fm_out] at hw
    have hm : mj_R ic_P 121 12086 (.ref 124 :: [.int (xs (i + Int32.ofInt 1).toNatClampNeg)]) (fm (s', l', x', y') (s, l, u, v) r.toInt64) (some (.int r)) (fm (s', l', x', y') (s', l', u', v') r.toInt64) := mj_R_le (by decide) (pm_X12_tooth (fm_TR (s', l', x', y') r.toInt64) _ s l u v _ e2)
    have ht : mj_R ic_P 121 12003 (.ref 124 :: []) (fm (s', l', x', y') (s', l', u', v') r.toInt64) (some (.int 0)) (fm (s', l', x', y') (s', l', u', v') r.toInt64) := by
      have z := mj_R_le (d' := 121) (by decide) (pm_X12_thrown (fm_TR (s', l', x', y') r.toInt64) s' l' u' v' (u' 1, s', l', u', v') rfl)
      have z9 : pm_rI (u' 1) = some (.int 0) := by rw [e3]; rfl
      exact z9 ▸ z
    exact ⟨s', l', x', y', u', v', r.toInt64, [(6, .int r), (5, .int 0)], 1, lc_2 h1 hw (mj_ext_eq rfl) (fm_wM _ _ _) hm ht (fun _ => fm_o _ _ _) rfl rfl rfl rfl, Nat.le_refl _, e4, rfl⟩
  · have hq := mt_R_le (d' := 119) (by decide) (pt_X11_tooth_t1 (fm_TC (s, l, u, v) w) _ s l x y _ e1)
    have hw := ax_tooth_1 (l := lc) (d := 119) hl9 hMa (by decide) _ rfl (mj_all2 (lo_ref (by decide)) (mj_all2 (mj_wv_int _) (mj_all2 (lo_ref (by decide)) lo_nil))) (fm_wM _ _ _) hq
    have hm : mj_R ic_P 121 12086 (.ref 124 :: [.int (xs (i + Int32.ofInt 1).toNatClampNeg)]) (fm (s, l, x, y) (s, l, u, v) w) (some (.int r)) (fm (s, l, x, y) (s, l, u', v') w) := mj_R_le (by decide) (pm_X12_tooth (fm_TR (s, l, x, y) w) _ s l u v _ e2)
    have ht : mj_R ic_P 121 12003 (.ref 124 :: []) (fm (s, l, x, y) (s, l, u', v') w) (some (.int (Int32.ofInt 1))) (fm (s, l, x, y) (s, l, u', v') w) := by
      have z := mj_R_le (d' := 121) (by decide) (pm_X12_thrown (fm_TR (s, l, x, y) w) s l u' v' (u' 1, s, l, u', v') rfl)
      have z9 : pm_rI (u' 1) = some (.int (Int32.ofInt 1)) := by rw [e3]; rfl
      exact z9 ▸ z
    exact ⟨s, l, x, y, u', v', w, [(6, .int r), (5, .int (Int32.ofInt 1))], 1, lc_2 h1 hw mj_ext_rf (fm_wM _ _ _) hm ht (fun h => absurd h (by decide)) rfl rfl rfl rfl, Nat.le_refl _, e4, rfl⟩

set_option maxRecDepth 20000 in
theorem lo_3 {lc : Launch} (hl9 : lc.stackTraces = false) (hMa : mj_MaOk vwCl ic_ty mj_AW) {k : Nat} {s : Nat → Int32} {l : Nat → Int64} {x : Nat → Int32} {y : Nat → Int64} {u : Nat → Int32} {v : Nat → Int64} {w : Int64} (hV : q_V k s l x y u v) (hk : k < 512) {L : Nat} {xs : Nat → Int32} {i : Int32} (h1 : vp_in (i + Int32.ofInt 1) L) : lo_ok lc L xs 393 i k (fm (s, l, x, y) (s, l, u, v) w) := by
  rcases q_O_cam (a := (xs (i + Int32.ofInt 1).toNatClampNeg)) hV hk with ⟨r, s', l', x', y', u', v', e1, e2, e3, e4⟩ | ⟨⟨r, u', v', e2, e3, e4⟩, e1⟩
  · have hr : mj_R ic_P 120 11004 (.ref 0 :: [.int (xs (i + Int32.ofInt 1).toNatClampNeg)]) (fm (s, l, x, y) (s, l, u, v) w) (some (.int r)) (fm (s', l', x', y') (s, l, u, v) w) := mj_R_le (by decide) (pm_X11_cam (fm_TC (s, l, u, v) w) _ s l x y _ e1)
    obtain ⟨n, S', i9, k9, r9, g1, g2, g3, g4, g5⟩ := aw_cam _ r rfl rfl hr
    have hw := mw_ret (l := lc) (hh := ih_cam) ic_Good hMa ig_cam (by decide +kernel) (Nat.le_of_ble_eq_true rfl) g1 g2 g3 (mj_all2 (lo_ref (by decide)) (mj_all2 (mj_wv_int _) (mj_all2 (lo_ref (by decide)) lo_nil))) (fm_wM _ _ _)
    rw [g4, g5, fm_out] at hw
    have hm : mj_R ic_P 121 12087 (.ref 124 :: [.int (xs (i + Int32.ofInt 1).toNatClampNeg)]) (fm (s', l', x', y') (s, l, u, v) r.toInt64) (some (.int r)) (fm (s', l', x', y') (s', l', u', v') r.toInt64) := mj_R_le (by decide) (pm_X12_cam (fm_TR (s', l', x', y') r.toInt64) _ s l u v _ e2)
    have ht : mj_R ic_P 121 12003 (.ref 124 :: []) (fm (s', l', x', y') (s', l', u', v') r.toInt64) (some (.int 0)) (fm (s', l', x', y') (s', l', u', v') r.toInt64) := by
      have z := mj_R_le (d' := 121) (by decide) (pm_X12_thrown (fm_TR (s', l', x', y') r.toInt64) s' l' u' v' (u' 1, s', l', u', v') rfl)
      have z9 : pm_rI (u' 1) = some (.int 0) := by rw [e3]; rfl
      exact z9 ▸ z
    exact ⟨s', l', x', y', u', v', r.toInt64, [(6, .int r), (5, .int 0)], 1, lc_3 h1 hw (mj_ext_eq rfl) (fm_wM _ _ _) hm ht (fun _ => fm_o _ _ _) rfl rfl rfl rfl, Nat.le_refl _, e4, rfl⟩
  · have hq := mt_R_le (d' := 119) (by decide) (pt_X11_cam_t1 (fm_TC (s, l, u, v) w) _ s l x y _ e1)
    have hw := ax_cam_1 (l := lc) (d := 119) hl9 hMa (by decide) _ rfl (mj_all2 (lo_ref (by decide)) (mj_all2 (mj_wv_int _) (mj_all2 (lo_ref (by decide)) lo_nil))) (fm_wM _ _ _) hq
    have hm : mj_R ic_P 121 12087 (.ref 124 :: [.int (xs (i + Int32.ofInt 1).toNatClampNeg)]) (fm (s, l, x, y) (s, l, u, v) w) (some (.int r)) (fm (s, l, x, y) (s, l, u', v') w) := mj_R_le (by decide) (pm_X12_cam (fm_TR (s, l, x, y) w) _ s l u v _ e2)
    have ht : mj_R ic_P 121 12003 (.ref 124 :: []) (fm (s, l, x, y) (s, l, u', v') w) (some (.int (Int32.ofInt 1))) (fm (s, l, x, y) (s, l, u', v') w) := by
      have z := mj_R_le (d' := 121) (by decide) (pm_X12_thrown (fm_TR (s, l, x, y) w) s l u' v' (u' 1, s, l, u', v') rfl)
      have z9 : pm_rI (u' 1) = some (.int (Int32.ofInt 1)) := by rw [e3]; rfl
      exact z9 ▸ z
    exact ⟨s, l, x, y, u', v', w, [(6, .int r), (5, .int (Int32.ofInt 1))], 1, lc_3 h1 hw mj_ext_rf (fm_wM _ _ _) hm ht (fun h => absurd h (by decide)) rfl rfl rfl rfl, Nat.le_refl _, e4, rfl⟩

set_option maxRecDepth 20000 in
theorem lo_4 {lc : Launch} (hl9 : lc.stackTraces = false) (hMa : mj_MaOk vwCl ic_ty mj_AW) {k : Nat} {s : Nat → Int32} {l : Nat → Int64} {x : Nat → Int32} {y : Nat → Int64} {u : Nat → Int32} {v : Nat → Int64} {w : Int64} (hV : q_V k s l x y u v) (hk : k < 512) {L : Nat} {xs : Nat → Int32} {i : Int32} (h1 : vp_in (i + Int32.ofInt 1) L) (h2 : vp_in (i + Int32.ofInt 2) L) : lo_ok lc L xs 449 i k (fm (s, l, x, y) (s, l, u, v) w) := by
  rcases q_O_turn (a := (xs (i + Int32.ofInt 1).toNatClampNeg)) (b := (xs (i + Int32.ofInt 2).toNatClampNeg)) hV hk with ⟨r, s', l', x', y', u', v', e1, e2, e3, e4⟩ | ⟨⟨r, u', v', e2, e3, e4⟩, e1⟩
  · have hr : mj_R ic_P 120 11005 (.ref 0 :: [.int (xs (i + Int32.ofInt 1).toNatClampNeg), .int (xs (i + Int32.ofInt 2).toNatClampNeg)]) (fm (s, l, x, y) (s, l, u, v) w) (some (.int r)) (fm (s', l', x', y') (s, l, u, v) w) := mj_R_le (by decide) (pm_X11_turn (fm_TC (s, l, u, v) w) _ _ s l x y _ e1)
    obtain ⟨n, S', i9, k9, r9, g1, g2, g3, g4, g5⟩ := aw_turn _ _ r rfl rfl hr
    have hw := mw_ret (l := lc) (hh := ih_turn) ic_Good hMa ig_turn (by decide +kernel) (Nat.le_of_ble_eq_true rfl) g1 g2 g3 (mj_all2 (lo_ref (by decide)) (mj_all2 (mj_wv_int _) (mj_all2 (mj_wv_int _) (mj_all2 (lo_ref (by decide)) lo_nil)))) (fm_wM _ _ _)
    rw [g4, g5, fm_out] at hw
    have hm : mj_R ic_P 121 12088 (.ref 124 :: [.int (xs (i + Int32.ofInt 1).toNatClampNeg), .int (xs (i + Int32.ofInt 2).toNatClampNeg)]) (fm (s', l', x', y') (s, l, u, v) r.toInt64) (some (.int r)) (fm (s', l', x', y') (s', l', u', v') r.toInt64) := mj_R_le (by decide) (pm_X12_turn (fm_TR (s', l', x', y') r.toInt64) _ _ s l u v _ e2)
    have ht : mj_R ic_P 121 12003 (.ref 124 :: []) (fm (s', l', x', y') (s', l', u', v') r.toInt64) (some (.int 0)) (fm (s', l', x', y') (s', l', u', v') r.toInt64) := by
      have z := mj_R_le (d' := 121) (by decide) (pm_X12_thrown (fm_TR (s', l', x', y') r.toInt64) s' l' u' v' (u' 1, s', l', u', v') rfl)
      have z9 : pm_rI (u' 1) = some (.int 0) := by rw [e3]; rfl
      exact z9 ▸ z
    exact ⟨s', l', x', y', u', v', r.toInt64, [(6, .int r), (5, .int 0)], 1, lc_4 h1 h2 hw (mj_ext_eq rfl) (fm_wM _ _ _) hm ht (fun _ => fm_o _ _ _) rfl rfl rfl rfl, Nat.le_refl _, e4, rfl⟩
  · have hq := mt_R_le (d' := 119) (by decide) (pt_X11_turn_t1 (fm_TC (s, l, u, v) w) _ _ s l x y _ e1)
    have hw := ax_turn_1 (l := lc) (d := 119) hl9 hMa (by decide) _ _ rfl (mj_all2 (lo_ref (by decide)) (mj_all2 (mj_wv_int _) (mj_all2 (mj_wv_int _) (mj_all2 (lo_ref (by decide)) lo_nil)))) (fm_wM _ _ _) hq
    have hm : mj_R ic_P 121 12088 (.ref 124 :: [.int (xs (i + Int32.ofInt 1).toNatClampNeg), .int (xs (i + Int32.ofInt 2).toNatClampNeg)]) (fm (s, l, x, y) (s, l, u, v) w) (some (.int r)) (fm (s, l, x, y) (s, l, u', v') w) := mj_R_le (by decide) (pm_X12_turn (fm_TR (s, l, x, y) w) _ _ s l u v _ e2)
    have ht : mj_R ic_P 121 12003 (.ref 124 :: []) (fm (s, l, x, y) (s, l, u', v') w) (some (.int (Int32.ofInt 1))) (fm (s, l, x, y) (s, l, u', v') w) := by
      have z := mj_R_le (d' := 121) (by decide) (pm_X12_thrown (fm_TR (s, l, x, y) w) s l u' v' (u' 1, s, l, u', v') rfl)
      have z9 : pm_rI (u' 1) = some (.int (Int32.ofInt 1)) := by rw [e3]; rfl
      exact z9 ▸ z
    exact ⟨s, l, x, y, u', v', w, [(6, .int r), (5, .int (Int32.ofInt 1))], 1, lc_4 h1 h2 hw mj_ext_rf (fm_wM _ _ _) hm ht (fun h => absurd h (by decide)) rfl rfl rfl rfl, Nat.le_refl _, e4, rfl⟩

set_option maxRecDepth 20000 in
theorem lo_5 {lc : Launch} (hl9 : lc.stackTraces = false) (hMa : mj_MaOk vwCl ic_ty mj_AW) {k : Nat} {s : Nat → Int32} {l : Nat → Int64} {x : Nat → Int32} {y : Nat → Int64} {u : Nat → Int32} {v : Nat → Int64} {w : Int64} (hV : q_V k s l x y u v) (hk : k < 512) {L : Nat} {xs : Nat → Int32} {i : Int32} (h1 : vp_in (i + Int32.ofInt 1) L) : lo_ok lc L xs 517 i k (fm (s, l, x, y) (s, l, u, v) w) := by
  rcases q_O_run (a := (xs (i + Int32.ofInt 1).toNatClampNeg)) hV hk with ⟨r, s', l', x', y', u', v', e1, e2, e3, e4⟩ | ⟨⟨r, u', v', e2, e3, e4⟩, e1⟩
  · have hr : mj_R ic_P 120 11006 (.ref 0 :: [.int (xs (i + Int32.ofInt 1).toNatClampNeg)]) (fm (s, l, x, y) (s, l, u, v) w) (some (.int r)) (fm (s', l', x', y') (s, l, u, v) w) := mj_R_le (by decide) (pm_X11_run (fm_TC (s, l, u, v) w) _ s l x y _ e1)
    obtain ⟨n, S', i9, k9, r9, g1, g2, g3, g4, g5⟩ := aw_run _ r rfl rfl hr
    have hw := mw_ret (l := lc) (hh := ih_run) ic_Good hMa ig_run (by decide +kernel) (Nat.le_of_ble_eq_true rfl) g1 g2 g3 (mj_all2 (lo_ref (by decide)) (mj_all2 (mj_wv_int _) (mj_all2 (lo_ref (by decide)) lo_nil))) (fm_wM _ _ _)
    rw [g4, g5, fm_out] at hw
    have hm : mj_R ic_P 121 12089 (.ref 124 :: [.int (xs (i + Int32.ofInt 1).toNatClampNeg)]) (fm (s', l', x', y') (s, l, u, v) r.toInt64) (some (.int r)) (fm (s', l', x', y') (s', l', u', v') r.toInt64) := mj_R_le (by decide) (pm_X12_run (fm_TR (s', l', x', y') r.toInt64) _ s l u v _ e2)
    have ht : mj_R ic_P 121 12003 (.ref 124 :: []) (fm (s', l', x', y') (s', l', u', v') r.toInt64) (some (.int 0)) (fm (s', l', x', y') (s', l', u', v') r.toInt64) := by
      have z := mj_R_le (d' := 121) (by decide) (pm_X12_thrown (fm_TR (s', l', x', y') r.toInt64) s' l' u' v' (u' 1, s', l', u', v') rfl)
      have z9 : pm_rI (u' 1) = some (.int 0) := by rw [e3]; rfl
      exact z9 ▸ z
    exact ⟨s', l', x', y', u', v', r.toInt64, [(6, .int r), (5, .int 0)], 1, lc_5 h1 hw (mj_ext_eq rfl) (fm_wM _ _ _) hm ht (fun _ => fm_o _ _ _) rfl rfl rfl rfl, Nat.le_refl _, e4, rfl⟩
  · have hq := mt_R_le (d' := 119) (by decide) (pt_X11_run_t1 (fm_TC (s, l, u, v) w) _ s l x y _ e1)
    have hw := ax_run_1 (l := lc) (d := 119) hl9 hMa (by decide) _ rfl (mj_all2 (lo_ref (by decide)) (mj_all2 (mj_wv_int _) (mj_all2 (lo_ref (by decide)) lo_nil))) (fm_wM _ _ _) hq
    have hm : mj_R ic_P 121 12089 (.ref 124 :: [.int (xs (i + Int32.ofInt 1).toNatClampNeg)]) (fm (s, l, x, y) (s, l, u, v) w) (some (.int r)) (fm (s, l, x, y) (s, l, u', v') w) := mj_R_le (by decide) (pm_X12_run (fm_TR (s, l, x, y) w) _ s l u v _ e2)
    have ht : mj_R ic_P 121 12003 (.ref 124 :: []) (fm (s, l, x, y) (s, l, u', v') w) (some (.int (Int32.ofInt 1))) (fm (s, l, x, y) (s, l, u', v') w) := by
      have z := mj_R_le (d' := 121) (by decide) (pm_X12_thrown (fm_TR (s, l, x, y) w) s l u' v' (u' 1, s, l, u', v') rfl)
      have z9 : pm_rI (u' 1) = some (.int (Int32.ofInt 1)) := by rw [e3]; rfl
      exact z9 ▸ z
    exact ⟨s, l, x, y, u', v', w, [(6, .int r), (5, .int (Int32.ofInt 1))], 1, lc_5 h1 hw mj_ext_rf (fm_wM _ _ _) hm ht (fun h => absurd h (by decide)) rfl rfl rfl rfl, Nat.le_refl _, e4, rfl⟩

set_option maxRecDepth 20000 in
theorem lo_6 {lc : Launch} (hl9 : lc.stackTraces = false) (hMa : mj_MaOk vwCl ic_ty mj_AW) {k : Nat} {s : Nat → Int32} {l : Nat → Int64} {x : Nat → Int32} {y : Nat → Int64} {u : Nat → Int32} {v : Nat → Int64} {w : Int64} (hV : q_V k s l x y u v) (hk : k < 512) {L : Nat} {xs : Nat → Int32} {i : Int32} (h1 : vp_in (i + Int32.ofInt 1) L) (h2 : vp_in (i + Int32.ofInt 2) L) : lo_ok lc L xs 573 i k (fm (s, l, x, y) (s, l, u, v) w) := by
  rcases q_O_set (a := (xs (i + Int32.ofInt 1).toNatClampNeg)) (b := (if (xs (i + Int32.ofInt 2).toNatClampNeg) = 0 then 0 else 1)) hV hk lo_b with ⟨r, s', l', x', y', u', v', e1, e2, e3, e4⟩ | ⟨⟨r, u', v', e2, e3, e4⟩, e1⟩
  · have hr : mj_R ic_P 120 11008 (.ref 0 :: [.int (xs (i + Int32.ofInt 1).toNatClampNeg), .int (if (xs (i + Int32.ofInt 2).toNatClampNeg) = 0 then 0 else 1)]) (fm (s, l, x, y) (s, l, u, v) w) (some (.int r)) (fm (s', l', x', y') (s, l, u, v) w) := mj_R_le (by decide) (pm_X11_set (fm_TC (s, l, u, v) w) _ _ s l x y _ e1)
    obtain ⟨n, S', i9, k9, r9, g1, g2, g3, g4, g5⟩ := aw_set _ _ r rfl rfl hr
    have hw := mw_ret (l := lc) (hh := ih_set) ic_Good hMa ig_set (by decide +kernel) (Nat.le_of_ble_eq_true rfl) g1 g2 g3 (mj_all2 (lo_ref (by decide)) (mj_all2 (mj_wv_int _) (mj_all2 (mj_wv_int _) (mj_all2 (lo_ref (by decide)) lo_nil)))) (fm_wM _ _ _)
    rw [g4, g5, fm_out] at hw
    have hm : mj_R ic_P 121 12090 (.ref 124 :: [.int (xs (i + Int32.ofInt 1).toNatClampNeg), .int (if (xs (i + Int32.ofInt 2).toNatClampNeg) = 0 then 0 else 1)]) (fm (s', l', x', y') (s, l, u, v) (if r = 0 then 0 else 1)) (some (.int r)) (fm (s', l', x', y') (s', l', u', v') (if r = 0 then 0 else 1)) := mj_R_le (by decide) (pm_X12_set (fm_TR (s', l', x', y') (if r = 0 then 0 else 1)) _ _ s l u v _ e2)
    have ht : mj_R ic_P 121 12003 (.ref 124 :: []) (fm (s', l', x', y') (s', l', u', v') (if r = 0 then 0 else 1)) (some (.int 0)) (fm (s', l', x', y') (s', l', u', v') (if r = 0 then 0 else 1)) := by
      have z := mj_R_le (d' := 121) (by decide) (pm_X12_thrown (fm_TR (s', l', x', y') (if r = 0 then 0 else 1)) s' l' u' v' (u' 1, s', l', u', v') rfl)
      have z9 : pm_rI (u' 1) = some (.int 0) := by rw [e3]; rfl
      exact z9 ▸ z
    exact ⟨s', l', x', y', u', v', (if r = 0 then 0 else 1), [(6, .int r), (5, .int 0)], 1, lc_6 h1 h2 hw (mj_ext_eq rfl) (fm_wM _ _ _) hm ht (fun _ => fm_o _ _ _) rfl rfl rfl rfl, Nat.le_refl _, e4, rfl⟩
  · have hq := mt_R_le (d' := 119) (by decide) (pt_X11_set_t2 (fm_TC (s, l, u, v) w) _ _ s l x y _ e1)
    have hw := ax_set_1 (l := lc) (d := 119) hl9 hMa (by decide) _ _ rfl (mj_all2 (lo_ref (by decide)) (mj_all2 (mj_wv_int _) (mj_all2 (mj_wv_int _) (mj_all2 (lo_ref (by decide)) lo_nil)))) (fm_wM _ _ _) hq
    have hm : mj_R ic_P 121 12090 (.ref 124 :: [.int (xs (i + Int32.ofInt 1).toNatClampNeg), .int (if (xs (i + Int32.ofInt 2).toNatClampNeg) = 0 then 0 else 1)]) (fm (s, l, x, y) (s, l, u, v) w) (some (.int r)) (fm (s, l, x, y) (s, l, u', v') w) := mj_R_le (by decide) (pm_X12_set (fm_TR (s, l, x, y) w) _ _ s l u v _ e2)
    have ht : mj_R ic_P 121 12003 (.ref 124 :: []) (fm (s, l, x, y) (s, l, u', v') w) (some (.int (Int32.ofInt 1))) (fm (s, l, x, y) (s, l, u', v') w) := by
      have z := mj_R_le (d' := 121) (by decide) (pm_X12_thrown (fm_TR (s, l, x, y) w) s l u' v' (u' 1, s, l, u', v') rfl)
      have z9 : pm_rI (u' 1) = some (.int (Int32.ofInt 1)) := by rw [e3]; rfl
      exact z9 ▸ z
    exact ⟨s, l, x, y, u', v', w, [(6, .int r), (5, .int (Int32.ofInt 1))], 1, lc_6 h1 h2 hw mj_ext_rf (fm_wM _ _ _) hm ht (fun h => absurd h (by decide)) rfl rfl rfl rfl, Nat.le_refl _, e4, rfl⟩

set_option maxRecDepth 20000 in
theorem lo_7 {lc : Launch} (hl9 : lc.stackTraces = false) (hMa : mj_MaOk vwCl ic_ty mj_AW) {k : Nat} {s : Nat → Int32} {l : Nat → Int64} {x : Nat → Int32} {y : Nat → Int64} {u : Nat → Int32} {v : Nat → Int64} {w : Int64} (hV : q_V k s l x y u v) (hk : k < 512) {L : Nat} {xs : Nat → Int32} {i : Int32} (h1 : vp_in (i + Int32.ofInt 1) L) : lo_ok lc L xs 664 i k (fm (s, l, x, y) (s, l, u, v) w) := by
  rcases q_O_load (a := (xs (i + Int32.ofInt 1).toNatClampNeg)) hV hk with ⟨r, s', l', x', y', u', v', e1, e2, e3, e4⟩ | ⟨⟨r, u', v', e2, e3, e4⟩, e1⟩
  · have hr : mj_R ic_P 120 11009 (.ref 0 :: [.int (xs (i + Int32.ofInt 1).toNatClampNeg)]) (fm (s, l, x, y) (s, l, u, v) w) (some (.int r)) (fm (s', l', x', y') (s, l, u, v) w) := mj_R_le (by decide) (pm_X11_load (fm_TC (s, l, u, v) w) _ s l x y _ e1)
    obtain ⟨n, S', i9, k9, r9, g1, g2, g3, g4, g5⟩ := aw_load _ r rfl rfl hr
    have hw := mw_ret (l := lc) (hh := ih_load) ic_Good hMa ig_load (by decide +kernel) (Nat.le_of_ble_eq_true rfl) g1 g2 g3 (mj_all2 (lo_ref (by decide)) (mj_all2 (mj_wv_int _) (mj_all2 (lo_ref (by decide)) lo_nil))) (fm_wM _ _ _)
    rw [g4, g5, fm_out] at hw
    have hm : mj_R ic_P 121 12091 (.ref 124 :: [.int (xs (i + Int32.ofInt 1).toNatClampNeg)]) (fm (s', l', x', y') (s, l, u, v) r.toInt64) (some (.int r)) (fm (s', l', x', y') (s', l', u', v') r.toInt64) := mj_R_le (by decide) (pm_X12_load (fm_TR (s', l', x', y') r.toInt64) _ s l u v _ e2)
    have ht : mj_R ic_P 121 12003 (.ref 124 :: []) (fm (s', l', x', y') (s', l', u', v') r.toInt64) (some (.int 0)) (fm (s', l', x', y') (s', l', u', v') r.toInt64) := by
      have z := mj_R_le (d' := 121) (by decide) (pm_X12_thrown (fm_TR (s', l', x', y') r.toInt64) s' l' u' v' (u' 1, s', l', u', v') rfl)
      have z9 : pm_rI (u' 1) = some (.int 0) := by rw [e3]; rfl
      exact z9 ▸ z
    exact ⟨s', l', x', y', u', v', r.toInt64, [(6, .int r), (5, .int 0)], 1, lc_7 h1 hw (mj_ext_eq rfl) (fm_wM _ _ _) hm ht (fun _ => fm_o _ _ _) rfl rfl rfl rfl, Nat.le_refl _, e4, rfl⟩
  · have hq := mt_R_le (d' := 119) (by decide) (pt_X11_load_t1 (fm_TC (s, l, u, v) w) _ s l x y _ e1)
    have hw := ax_load_1 (l := lc) (d := 119) hl9 hMa (by decide) _ rfl (mj_all2 (lo_ref (by decide)) (mj_all2 (mj_wv_int _) (mj_all2 (lo_ref (by decide)) lo_nil))) (fm_wM _ _ _) hq
    have hm : mj_R ic_P 121 12091 (.ref 124 :: [.int (xs (i + Int32.ofInt 1).toNatClampNeg)]) (fm (s, l, x, y) (s, l, u, v) w) (some (.int r)) (fm (s, l, x, y) (s, l, u', v') w) := mj_R_le (by decide) (pm_X12_load (fm_TR (s, l, x, y) w) _ s l u v _ e2)
    have ht : mj_R ic_P 121 12003 (.ref 124 :: []) (fm (s, l, x, y) (s, l, u', v') w) (some (.int (Int32.ofInt 1))) (fm (s, l, x, y) (s, l, u', v') w) := by
      have z := mj_R_le (d' := 121) (by decide) (pm_X12_thrown (fm_TR (s, l, x, y) w) s l u' v' (u' 1, s, l, u', v') rfl)
      have z9 : pm_rI (u' 1) = some (.int (Int32.ofInt 1)) := by rw [e3]; rfl
      exact z9 ▸ z
    exact ⟨s, l, x, y, u', v', w, [(6, .int r), (5, .int (Int32.ofInt 1))], 1, lc_7 h1 hw mj_ext_rf (fm_wM _ _ _) hm ht (fun h => absurd h (by decide)) rfl rfl rfl rfl, Nat.le_refl _, e4, rfl⟩

set_option maxRecDepth 20000 in
theorem lo_8 {lc : Launch} (hl9 : lc.stackTraces = false) (hMa : mj_MaOk vwCl ic_ty mj_AW) {k : Nat} {s : Nat → Int32} {l : Nat → Int64} {x : Nat → Int32} {y : Nat → Int64} {u : Nat → Int32} {v : Nat → Int64} {w : Int64} (hV : q_V k s l x y u v) (hk : k < 512) {L : Nat} {xs : Nat → Int32} {i : Int32} (h1 : vp_in (i + Int32.ofInt 1) L) (h2 : vp_in (i + Int32.ofInt 2) L) : lo_ok lc L xs 720 i k (fm (s, l, x, y) (s, l, u, v) w) := by
  rcases q_O_pin (a := (xs (i + Int32.ofInt 1).toNatClampNeg)) (b := (xs (i + Int32.ofInt 2).toNatClampNeg)) hV hk with ⟨r, s', l', x', y', u', v', e1, e2, e3, e4⟩ | ⟨⟨r, u', v', e2, e3, e4⟩, e1⟩ | ⟨⟨r, u', v', e2, e3, e4⟩, e1⟩
  · have hr : mj_R ic_P 120 11010 (.ref 0 :: [.int (xs (i + Int32.ofInt 1).toNatClampNeg), .int (xs (i + Int32.ofInt 2).toNatClampNeg)]) (fm (s, l, x, y) (s, l, u, v) w) (some (.int r)) (fm (s', l', x', y') (s, l, u, v) w) := mj_R_le (by decide) (pm_X11_pin (fm_TC (s, l, u, v) w) _ _ s l x y _ e1)
    obtain ⟨n, S', i9, k9, r9, g1, g2, g3, g4, g5⟩ := aw_pin _ _ r rfl rfl hr
    have hw := mw_ret (l := lc) (hh := ih_pin) ic_Good hMa ig_pin (by decide +kernel) (Nat.le_of_ble_eq_true rfl) g1 g2 g3 (mj_all2 (lo_ref (by decide)) (mj_all2 (mj_wv_int _) (mj_all2 (mj_wv_int _) (mj_all2 (lo_ref (by decide)) lo_nil)))) (fm_wM _ _ _)
    rw [g4, g5, fm_out] at hw
    have hm : mj_R ic_P 121 12092 (.ref 124 :: [.int (xs (i + Int32.ofInt 1).toNatClampNeg), .int (xs (i + Int32.ofInt 2).toNatClampNeg)]) (fm (s', l', x', y') (s, l, u, v) r.toInt64) (some (.int r)) (fm (s', l', x', y') (s', l', u', v') r.toInt64) := mj_R_le (by decide) (pm_X12_pin (fm_TR (s', l', x', y') r.toInt64) _ _ s l u v _ e2)
    have ht : mj_R ic_P 121 12003 (.ref 124 :: []) (fm (s', l', x', y') (s', l', u', v') r.toInt64) (some (.int 0)) (fm (s', l', x', y') (s', l', u', v') r.toInt64) := by
      have z := mj_R_le (d' := 121) (by decide) (pm_X12_thrown (fm_TR (s', l', x', y') r.toInt64) s' l' u' v' (u' 1, s', l', u', v') rfl)
      have z9 : pm_rI (u' 1) = some (.int 0) := by rw [e3]; rfl
      exact z9 ▸ z
    exact ⟨s', l', x', y', u', v', r.toInt64, [(6, .int r), (5, .int 0)], 1, lc_8 h1 h2 hw (mj_ext_eq rfl) (fm_wM _ _ _) hm ht (fun _ => fm_o _ _ _) rfl rfl rfl rfl, Nat.le_refl _, e4, rfl⟩
  · have hq := mt_R_le (d' := 119) (by decide) (pt_X11_pin_t2 (fm_TC (s, l, u, v) w) _ _ s l x y _ e1)
    have hw := ax_pin_1 (l := lc) (d := 119) hl9 hMa (by decide) _ _ rfl (mj_all2 (lo_ref (by decide)) (mj_all2 (mj_wv_int _) (mj_all2 (mj_wv_int _) (mj_all2 (lo_ref (by decide)) lo_nil)))) (fm_wM _ _ _) hq
    have hm : mj_R ic_P 121 12092 (.ref 124 :: [.int (xs (i + Int32.ofInt 1).toNatClampNeg), .int (xs (i + Int32.ofInt 2).toNatClampNeg)]) (fm (s, l, x, y) (s, l, u, v) w) (some (.int r)) (fm (s, l, x, y) (s, l, u', v') w) := mj_R_le (by decide) (pm_X12_pin (fm_TR (s, l, x, y) w) _ _ s l u v _ e2)
    have ht : mj_R ic_P 121 12003 (.ref 124 :: []) (fm (s, l, x, y) (s, l, u', v') w) (some (.int (Int32.ofInt 1))) (fm (s, l, x, y) (s, l, u', v') w) := by
      have z := mj_R_le (d' := 121) (by decide) (pm_X12_thrown (fm_TR (s, l, x, y) w) s l u' v' (u' 1, s, l, u', v') rfl)
      have z9 : pm_rI (u' 1) = some (.int (Int32.ofInt 1)) := by rw [e3]; rfl
      exact z9 ▸ z
    exact ⟨s, l, x, y, u', v', w, [(6, .int r), (5, .int (Int32.ofInt 1))], 1, lc_8 h1 h2 hw mj_ext_rf (fm_wM _ _ _) hm ht (fun h => absurd h (by decide)) rfl rfl rfl rfl, Nat.le_refl _, e4, rfl⟩
  · have hq := mt_R_le (d' := 119) (by decide) (pt_X11_pin_t1 (fm_TC (s, l, u, v) w) _ _ s l x y _ e1)
    have hw := ax_pin_2 (l := lc) (d := 119) hl9 hMa (by decide) _ _ rfl (mj_all2 (lo_ref (by decide)) (mj_all2 (mj_wv_int _) (mj_all2 (mj_wv_int _) (mj_all2 (lo_ref (by decide)) lo_nil)))) (fm_wM _ _ _) hq
    have hm : mj_R ic_P 121 12092 (.ref 124 :: [.int (xs (i + Int32.ofInt 1).toNatClampNeg), .int (xs (i + Int32.ofInt 2).toNatClampNeg)]) (fm (s, l, x, y) (s, l, u, v) w) (some (.int r)) (fm (s, l, x, y) (s, l, u', v') w) := mj_R_le (by decide) (pm_X12_pin (fm_TR (s, l, x, y) w) _ _ s l u v _ e2)
    have ht : mj_R ic_P 121 12003 (.ref 124 :: []) (fm (s, l, x, y) (s, l, u', v') w) (some (.int (Int32.ofInt 2))) (fm (s, l, x, y) (s, l, u', v') w) := by
      have z := mj_R_le (d' := 121) (by decide) (pm_X12_thrown (fm_TR (s, l, x, y) w) s l u' v' (u' 1, s, l, u', v') rfl)
      have z9 : pm_rI (u' 1) = some (.int (Int32.ofInt 2)) := by rw [e3]; rfl
      exact z9 ▸ z
    exact ⟨s, l, x, y, u', v', w, [(6, .int r), (5, .int (Int32.ofInt 2))], 1, lc_8 h1 h2 hw mj_ext_rf (fm_wM _ _ _) hm ht (fun h => absurd h (by decide)) rfl rfl rfl rfl, Nat.le_refl _, e4, rfl⟩

set_option maxRecDepth 20000 in
theorem lo_9 {lc : Launch} (hl9 : lc.stackTraces = false) (hMa : mj_MaOk vwCl ic_ty mj_AW) {k : Nat} {s : Nat → Int32} {l : Nat → Int64} {x : Nat → Int32} {y : Nat → Int64} {u : Nat → Int32} {v : Nat → Int64} {w : Int64} (hV : q_V k s l x y u v) (hk : k < 512) {L : Nat} {xs : Nat → Int32} {i : Int32} (h1 : vp_in (i + Int32.ofInt 1) L) (h2 : vp_in (i + Int32.ofInt 2) L) (h3 : vp_in (i + Int32.ofInt 3) L) (h4 : vp_in (i + Int32.ofInt 4) L) : lo_ok lc L xs 788 i k (fm (s, l, x, y) (s, l, u, v) w) := by
  rcases q_O_limits (a := (xs (i + Int32.ofInt 1).toNatClampNeg)) (b := (xs (i + Int32.ofInt 2).toNatClampNeg)) (d := (xs (i + Int32.ofInt 3).toNatClampNeg)) (e := (xs (i + Int32.ofInt 4).toNatClampNeg)) hV hk with ⟨r, s', l', x', y', u', v', e1, e2, e3, e4⟩ | ⟨⟨r, u', v', e2, e3, e4⟩, e1⟩ | ⟨⟨r, u', v', e2, e3, e4⟩, e1⟩ | ⟨⟨r, u', v', e2, e3, e4⟩, e1⟩
  · have hr : mj_R ic_P 120 11011 (.ref 0 :: [.int (xs (i + Int32.ofInt 1).toNatClampNeg), .int (xs (i + Int32.ofInt 2).toNatClampNeg), .int (xs (i + Int32.ofInt 3).toNatClampNeg), .int (xs (i + Int32.ofInt 4).toNatClampNeg)]) (fm (s, l, x, y) (s, l, u, v) w) (none) (fm (s', l', x', y') (s, l, u, v) w) := mj_R_le (by decide) (pm_X11_limits (fm_TC (s, l, u, v) w) _ _ _ _ s l x y _ e1)
    obtain ⟨n, S', i9, k9, r9, g1, g2, g3, g4, g5⟩ := aw_limits _ _ _ _ rfl rfl hr
    have hw := mw_ret (l := lc) (hh := ih_limits) ic_Good hMa ig_limits (by decide +kernel) (Nat.le_of_ble_eq_true rfl) g1 g2 g3 (mj_all2 (lo_ref (by decide)) (mj_all2 (mj_wv_int _) (mj_all2 (mj_wv_int _) (mj_all2 (mj_wv_int _) (mj_all2 (mj_wv_int _) lo_nil))))) (fm_wM _ _ _)
    rw [g4, g5] at hw
    have hm : mj_R ic_P 121 12093 (.ref 124 :: [.int (xs (i + Int32.ofInt 1).toNatClampNeg), .int (xs (i + Int32.ofInt 2).toNatClampNeg), .int (xs (i + Int32.ofInt 3).toNatClampNeg), .int (xs (i + Int32.ofInt 4).toNatClampNeg)]) (fm (s', l', x', y') (s, l, u, v) w) (none) (fm (s', l', x', y') (s', l', u', v') w) := mj_R_le (by decide) (pm_X12_limits (fm_TR (s', l', x', y') w) _ _ _ _ s l u v _ e2)
    have ht : mj_R ic_P 121 12003 (.ref 124 :: []) (fm (s', l', x', y') (s', l', u', v') w) (some (.int 0)) (fm (s', l', x', y') (s', l', u', v') w) := by
      have z := mj_R_le (d' := 121) (by decide) (pm_X12_thrown (fm_TR (s', l', x', y') w) s' l' u' v' (u' 1, s', l', u', v') rfl)
      have z9 : pm_rI (u' 1) = some (.int 0) := by rw [e3]; rfl
      exact z9 ▸ z
    exact ⟨s', l', x', y', u', v', w, [(5, .int 0)], 1, lc_9 h1 h2 h3 h4 hw (mj_ext_eq rfl) (fm_wM _ _ _) hm ht rfl rfl rfl rfl, Nat.le_refl _, e4, rfl⟩
  · have hq := mt_R_le (d' := 119) (by decide) (pt_X11_limits_t2 (fm_TC (s, l, u, v) w) _ _ _ _ s l x y _ e1)
    have hw := ax_limits_1 (l := lc) (d := 119) hl9 hMa (by decide) _ _ _ _ rfl (mj_all2 (lo_ref (by decide)) (mj_all2 (mj_wv_int _) (mj_all2 (mj_wv_int _) (mj_all2 (mj_wv_int _) (mj_all2 (mj_wv_int _) lo_nil))))) (fm_wM _ _ _) hq
    have hm : mj_R ic_P 121 12093 (.ref 124 :: [.int (xs (i + Int32.ofInt 1).toNatClampNeg), .int (xs (i + Int32.ofInt 2).toNatClampNeg), .int (xs (i + Int32.ofInt 3).toNatClampNeg), .int (xs (i + Int32.ofInt 4).toNatClampNeg)]) (fm (s, l, x, y) (s, l, u, v) w) (none) (fm (s, l, x, y) (s, l, u', v') w) := mj_R_le (by decide) (pm_X12_limits (fm_TR (s, l, x, y) w) _ _ _ _ s l u v _ e2)
    have ht : mj_R ic_P 121 12003 (.ref 124 :: []) (fm (s, l, x, y) (s, l, u', v') w) (some (.int (Int32.ofInt 1))) (fm (s, l, x, y) (s, l, u', v') w) := by
      have z := mj_R_le (d' := 121) (by decide) (pm_X12_thrown (fm_TR (s, l, x, y) w) s l u' v' (u' 1, s, l, u', v') rfl)
      have z9 : pm_rI (u' 1) = some (.int (Int32.ofInt 1)) := by rw [e3]; rfl
      exact z9 ▸ z
    exact ⟨s, l, x, y, u', v', w, [(5, .int (Int32.ofInt 1))], 1, lc_9 h1 h2 h3 h4 hw mj_ext_rf (fm_wM _ _ _) hm ht rfl rfl rfl rfl, Nat.le_refl _, e4, rfl⟩
  · have hq := mt_R_le (d' := 119) (by decide) (pt_X11_limits_t1 (fm_TC (s, l, u, v) w) _ _ _ _ s l x y _ e1)
    have hw := ax_limits_2 (l := lc) (d := 119) hl9 hMa (by decide) _ _ _ _ rfl (mj_all2 (lo_ref (by decide)) (mj_all2 (mj_wv_int _) (mj_all2 (mj_wv_int _) (mj_all2 (mj_wv_int _) (mj_all2 (mj_wv_int _) lo_nil))))) (fm_wM _ _ _) hq
    have hm : mj_R ic_P 121 12093 (.ref 124 :: [.int (xs (i + Int32.ofInt 1).toNatClampNeg), .int (xs (i + Int32.ofInt 2).toNatClampNeg), .int (xs (i + Int32.ofInt 3).toNatClampNeg), .int (xs (i + Int32.ofInt 4).toNatClampNeg)]) (fm (s, l, x, y) (s, l, u, v) w) (none) (fm (s, l, x, y) (s, l, u', v') w) := mj_R_le (by decide) (pm_X12_limits (fm_TR (s, l, x, y) w) _ _ _ _ s l u v _ e2)
    have ht : mj_R ic_P 121 12003 (.ref 124 :: []) (fm (s, l, x, y) (s, l, u', v') w) (some (.int (Int32.ofInt 2))) (fm (s, l, x, y) (s, l, u', v') w) := by
      have z := mj_R_le (d' := 121) (by decide) (pm_X12_thrown (fm_TR (s, l, x, y) w) s l u' v' (u' 1, s, l, u', v') rfl)
      have z9 : pm_rI (u' 1) = some (.int (Int32.ofInt 2)) := by rw [e3]; rfl
      exact z9 ▸ z
    exact ⟨s, l, x, y, u', v', w, [(5, .int (Int32.ofInt 2))], 1, lc_9 h1 h2 h3 h4 hw mj_ext_rf (fm_wM _ _ _) hm ht rfl rfl rfl rfl, Nat.le_refl _, e4, rfl⟩
  · have hq := mt_R_le (d' := 119) (by decide) (pt_X11_limits_t3 (fm_TC (s, l, u, v) w) _ _ _ _ s l x y _ e1)
    have hw := ax_limits_3 (l := lc) (d := 119) hl9 hMa (by decide) _ _ _ _ rfl (mj_all2 (lo_ref (by decide)) (mj_all2 (mj_wv_int _) (mj_all2 (mj_wv_int _) (mj_all2 (mj_wv_int _) (mj_all2 (mj_wv_int _) lo_nil))))) (fm_wM _ _ _) hq
    have hm : mj_R ic_P 121 12093 (.ref 124 :: [.int (xs (i + Int32.ofInt 1).toNatClampNeg), .int (xs (i + Int32.ofInt 2).toNatClampNeg), .int (xs (i + Int32.ofInt 3).toNatClampNeg), .int (xs (i + Int32.ofInt 4).toNatClampNeg)]) (fm (s, l, x, y) (s, l, u, v) w) (none) (fm (s, l, x, y) (s, l, u', v') w) := mj_R_le (by decide) (pm_X12_limits (fm_TR (s, l, x, y) w) _ _ _ _ s l u v _ e2)
    have ht : mj_R ic_P 121 12003 (.ref 124 :: []) (fm (s, l, x, y) (s, l, u', v') w) (some (.int (Int32.ofInt 3))) (fm (s, l, x, y) (s, l, u', v') w) := by
      have z := mj_R_le (d' := 121) (by decide) (pm_X12_thrown (fm_TR (s, l, x, y) w) s l u' v' (u' 1, s, l, u', v') rfl)
      have z9 : pm_rI (u' 1) = some (.int (Int32.ofInt 3)) := by rw [e3]; rfl
      exact z9 ▸ z
    exact ⟨s, l, x, y, u', v', w, [(5, .int (Int32.ofInt 3))], 1, lc_9 h1 h2 h3 h4 hw mj_ext_rf (fm_wM _ _ _) hm ht rfl rfl rfl rfl, Nat.le_refl _, e4, rfl⟩

set_option maxRecDepth 20000 in
theorem lo_10 {lc : Launch} (hl9 : lc.stackTraces = false) (hMa : mj_MaOk vwCl ic_ty mj_AW) {k : Nat} {s : Nat → Int32} {l : Nat → Int64} {x : Nat → Int32} {y : Nat → Int64} {u : Nat → Int32} {v : Nat → Int64} {w : Int64} (hV : q_V k s l x y u v) (hk : k < 512) {L : Nat} {xs : Nat → Int32} {i : Int32} (h1 : vp_in (i + Int32.ofInt 1) L) (h2 : vp_in (i + Int32.ofInt 2) L) (h3 : vp_in (i + Int32.ofInt 3) L) (h4 : vp_in (i + Int32.ofInt 4) L) (h5 : vp_in (i + Int32.ofInt 5) L) : lo_ok lc L xs 860 i k (fm (s, l, x, y) (s, l, u, v) w) := by
  rcases q_O_line (a := (xs (i + Int32.ofInt 1).toNatClampNeg)) (b := (xs (i + Int32.ofInt 2).toNatClampNeg)) (d := (xs (i + Int32.ofInt 3).toNatClampNeg)) (e := (xs (i + Int32.ofInt 4).toNatClampNeg)) (p := (xs (i + Int32.ofInt 5).toNatClampNeg)) hV hk with ⟨r, s', l', x', y', u', v', e1, e2, e3, e4⟩ | ⟨⟨r, u', v', e2, e3, e4⟩, e1⟩ | ⟨⟨r, u', v', e2, e3, e4⟩, e1⟩ | ⟨⟨r, u', v', e2, e3, e4⟩, e1⟩
  · have hr : mj_R ic_P 120 11015 (.ref 0 :: [.int (xs (i + Int32.ofInt 1).toNatClampNeg), .int (xs (i + Int32.ofInt 2).toNatClampNeg), .int (xs (i + Int32.ofInt 3).toNatClampNeg), .int (xs (i + Int32.ofInt 4).toNatClampNeg), .int (xs (i + Int32.ofInt 5).toNatClampNeg)]) (fm (s, l, x, y) (s, l, u, v) w) (none) (fm (s', l', x', y') (s, l, u, v) w) := mj_R_le (by decide) (pm_X11_line (fm_TC (s, l, u, v) w) _ _ _ _ _ s l x y _ e1)
    obtain ⟨n, S', i9, k9, r9, g1, g2, g3, g4, g5⟩ := aw_line _ _ _ _ _ rfl rfl hr
    have hw := mw_ret (l := lc) (hh := ih_line) ic_Good hMa ig_line (by decide +kernel) (Nat.le_of_ble_eq_true rfl) g1 g2 g3 (mj_all2 (lo_ref (by decide)) (mj_all2 (mj_wv_int _) (mj_all2 (mj_wv_int _) (mj_all2 (mj_wv_int _) (mj_all2 (mj_wv_int _) (mj_all2 (mj_wv_int _) lo_nil)))))) (fm_wM _ _ _)
    rw [g4, g5] at hw
    have hm : mj_R ic_P 121 12095 (.ref 124 :: [.int (xs (i + Int32.ofInt 1).toNatClampNeg), .int (xs (i + Int32.ofInt 2).toNatClampNeg), .int (xs (i + Int32.ofInt 3).toNatClampNeg), .int (xs (i + Int32.ofInt 4).toNatClampNeg), .int (xs (i + Int32.ofInt 5).toNatClampNeg)]) (fm (s', l', x', y') (s, l, u, v) w) (none) (fm (s', l', x', y') (s', l', u', v') w) := mj_R_le (by decide) (pm_X12_line (fm_TR (s', l', x', y') w) _ _ _ _ _ s l u v _ e2)
    have ht : mj_R ic_P 121 12003 (.ref 124 :: []) (fm (s', l', x', y') (s', l', u', v') w) (some (.int 0)) (fm (s', l', x', y') (s', l', u', v') w) := by
      have z := mj_R_le (d' := 121) (by decide) (pm_X12_thrown (fm_TR (s', l', x', y') w) s' l' u' v' (u' 1, s', l', u', v') rfl)
      have z9 : pm_rI (u' 1) = some (.int 0) := by rw [e3]; rfl
      exact z9 ▸ z
    exact ⟨s', l', x', y', u', v', w, [(5, .int 0)], 1, lc_10 h1 h2 h3 h4 h5 hw (mj_ext_eq rfl) (fm_wM _ _ _) hm ht rfl rfl rfl rfl, Nat.le_refl _, e4, rfl⟩
  · have hq := mt_R_le (d' := 119) (by decide) (pt_X11_line_t2 (fm_TC (s, l, u, v) w) _ _ _ _ _ s l x y _ e1)
    have hw := ax_line_1 (l := lc) (d := 119) hl9 hMa (by decide) _ _ _ _ _ rfl (mj_all2 (lo_ref (by decide)) (mj_all2 (mj_wv_int _) (mj_all2 (mj_wv_int _) (mj_all2 (mj_wv_int _) (mj_all2 (mj_wv_int _) (mj_all2 (mj_wv_int _) lo_nil)))))) (fm_wM _ _ _) hq
    have hm : mj_R ic_P 121 12095 (.ref 124 :: [.int (xs (i + Int32.ofInt 1).toNatClampNeg), .int (xs (i + Int32.ofInt 2).toNatClampNeg), .int (xs (i + Int32.ofInt 3).toNatClampNeg), .int (xs (i + Int32.ofInt 4).toNatClampNeg), .int (xs (i + Int32.ofInt 5).toNatClampNeg)]) (fm (s, l, x, y) (s, l, u, v) w) (none) (fm (s, l, x, y) (s, l, u', v') w) := mj_R_le (by decide) (pm_X12_line (fm_TR (s, l, x, y) w) _ _ _ _ _ s l u v _ e2)
    have ht : mj_R ic_P 121 12003 (.ref 124 :: []) (fm (s, l, x, y) (s, l, u', v') w) (some (.int (Int32.ofInt 1))) (fm (s, l, x, y) (s, l, u', v') w) := by
      have z := mj_R_le (d' := 121) (by decide) (pm_X12_thrown (fm_TR (s, l, x, y) w) s l u' v' (u' 1, s, l, u', v') rfl)
      have z9 : pm_rI (u' 1) = some (.int (Int32.ofInt 1)) := by rw [e3]; rfl
      exact z9 ▸ z
    exact ⟨s, l, x, y, u', v', w, [(5, .int (Int32.ofInt 1))], 1, lc_10 h1 h2 h3 h4 h5 hw mj_ext_rf (fm_wM _ _ _) hm ht rfl rfl rfl rfl, Nat.le_refl _, e4, rfl⟩
  · have hq := mt_R_le (d' := 119) (by decide) (pt_X11_line_t1 (fm_TC (s, l, u, v) w) _ _ _ _ _ s l x y _ e1)
    have hw := ax_line_2 (l := lc) (d := 119) hl9 hMa (by decide) _ _ _ _ _ rfl (mj_all2 (lo_ref (by decide)) (mj_all2 (mj_wv_int _) (mj_all2 (mj_wv_int _) (mj_all2 (mj_wv_int _) (mj_all2 (mj_wv_int _) (mj_all2 (mj_wv_int _) lo_nil)))))) (fm_wM _ _ _) hq
    have hm : mj_R ic_P 121 12095 (.ref 124 :: [.int (xs (i + Int32.ofInt 1).toNatClampNeg), .int (xs (i + Int32.ofInt 2).toNatClampNeg), .int (xs (i + Int32.ofInt 3).toNatClampNeg), .int (xs (i + Int32.ofInt 4).toNatClampNeg), .int (xs (i + Int32.ofInt 5).toNatClampNeg)]) (fm (s, l, x, y) (s, l, u, v) w) (none) (fm (s, l, x, y) (s, l, u', v') w) := mj_R_le (by decide) (pm_X12_line (fm_TR (s, l, x, y) w) _ _ _ _ _ s l u v _ e2)
    have ht : mj_R ic_P 121 12003 (.ref 124 :: []) (fm (s, l, x, y) (s, l, u', v') w) (some (.int (Int32.ofInt 2))) (fm (s, l, x, y) (s, l, u', v') w) := by
      have z := mj_R_le (d' := 121) (by decide) (pm_X12_thrown (fm_TR (s, l, x, y) w) s l u' v' (u' 1, s, l, u', v') rfl)
      have z9 : pm_rI (u' 1) = some (.int (Int32.ofInt 2)) := by rw [e3]; rfl
      exact z9 ▸ z
    exact ⟨s, l, x, y, u', v', w, [(5, .int (Int32.ofInt 2))], 1, lc_10 h1 h2 h3 h4 h5 hw mj_ext_rf (fm_wM _ _ _) hm ht rfl rfl rfl rfl, Nat.le_refl _, e4, rfl⟩
  · have hq := mt_R_le (d' := 119) (by decide) (pt_X11_line_t3 (fm_TC (s, l, u, v) w) _ _ _ _ _ s l x y _ e1)
    have hw := ax_line_3 (l := lc) (d := 119) hl9 hMa (by decide) _ _ _ _ _ rfl (mj_all2 (lo_ref (by decide)) (mj_all2 (mj_wv_int _) (mj_all2 (mj_wv_int _) (mj_all2 (mj_wv_int _) (mj_all2 (mj_wv_int _) (mj_all2 (mj_wv_int _) lo_nil)))))) (fm_wM _ _ _) hq
    have hm : mj_R ic_P 121 12095 (.ref 124 :: [.int (xs (i + Int32.ofInt 1).toNatClampNeg), .int (xs (i + Int32.ofInt 2).toNatClampNeg), .int (xs (i + Int32.ofInt 3).toNatClampNeg), .int (xs (i + Int32.ofInt 4).toNatClampNeg), .int (xs (i + Int32.ofInt 5).toNatClampNeg)]) (fm (s, l, x, y) (s, l, u, v) w) (none) (fm (s, l, x, y) (s, l, u', v') w) := mj_R_le (by decide) (pm_X12_line (fm_TR (s, l, x, y) w) _ _ _ _ _ s l u v _ e2)
    have ht : mj_R ic_P 121 12003 (.ref 124 :: []) (fm (s, l, x, y) (s, l, u', v') w) (some (.int (Int32.ofInt 3))) (fm (s, l, x, y) (s, l, u', v') w) := by
      have z := mj_R_le (d' := 121) (by decide) (pm_X12_thrown (fm_TR (s, l, x, y) w) s l u' v' (u' 1, s, l, u', v') rfl)
      have z9 : pm_rI (u' 1) = some (.int (Int32.ofInt 3)) := by rw [e3]; rfl
      exact z9 ▸ z
    exact ⟨s, l, x, y, u', v', w, [(5, .int (Int32.ofInt 3))], 1, lc_10 h1 h2 h3 h4 h5 hw mj_ext_rf (fm_wM _ _ _) hm ht rfl rfl rfl rfl, Nat.le_refl _, e4, rfl⟩

set_option maxRecDepth 20000 in
theorem lo_11 {lc : Launch} (hl9 : lc.stackTraces = false) (hMa : mj_MaOk vwCl ic_ty mj_AW) {k : Nat} {s : Nat → Int32} {l : Nat → Int64} {x : Nat → Int32} {y : Nat → Int64} {u : Nat → Int32} {v : Nat → Int64} {w : Int64} (hV : q_V k s l x y u v) (hk : k < 512) {L : Nat} {xs : Nat → Int32} {i : Int32} (h1 : vp_in (i + Int32.ofInt 1) L) (h2 : vp_in (i + Int32.ofInt 2) L) (h3 : vp_in (i + Int32.ofInt 3) L) : lo_ok lc L xs 944 i k (fm (s, l, x, y) (s, l, u, v) w) := by
  rcases q_O_point (a := (xs (i + Int32.ofInt 1).toNatClampNeg)) (b := (xs (i + Int32.ofInt 2).toNatClampNeg)) (d := (xs (i + Int32.ofInt 3).toNatClampNeg)) hV hk with ⟨r, s', l', x', y', u', v', e1, e2, e3, e4⟩ | ⟨⟨r, u', v', e2, e3, e4⟩, e1⟩ | ⟨⟨r, u', v', e2, e3, e4⟩, e1⟩ | ⟨⟨r, u', v', e2, e3, e4⟩, e1⟩
  · have hr : mj_R ic_P 120 11016 (.ref 0 :: [.int (xs (i + Int32.ofInt 1).toNatClampNeg), .int (xs (i + Int32.ofInt 2).toNatClampNeg), .int (xs (i + Int32.ofInt 3).toNatClampNeg)]) (fm (s, l, x, y) (s, l, u, v) w) (some (.int r)) (fm (s', l', x', y') (s, l, u, v) w) := mj_R_le (by decide) (pm_X11_point (fm_TC (s, l, u, v) w) _ _ _ s l x y _ e1)
    obtain ⟨n, S', i9, k9, r9, g1, g2, g3, g4, g5⟩ := aw_point _ _ _ r rfl rfl hr
    have hw := mw_ret (l := lc) (hh := ih_point) ic_Good hMa ig_point (by decide +kernel) (Nat.le_of_ble_eq_true rfl) g1 g2 g3 (mj_all2 (lo_ref (by decide)) (mj_all2 (mj_wv_int _) (mj_all2 (mj_wv_int _) (mj_all2 (mj_wv_int _) (mj_all2 (lo_ref (by decide)) lo_nil))))) (fm_wM _ _ _)
    rw [g4, g5, fm_out] at hw
    have hm : mj_R ic_P 121 12096 (.ref 124 :: [.int (xs (i + Int32.ofInt 1).toNatClampNeg), .int (xs (i + Int32.ofInt 2).toNatClampNeg), .int (xs (i + Int32.ofInt 3).toNatClampNeg)]) (fm (s', l', x', y') (s, l, u, v) r.toInt64) (some (.int r)) (fm (s', l', x', y') (s', l', u', v') r.toInt64) := mj_R_le (by decide) (pm_X12_point (fm_TR (s', l', x', y') r.toInt64) _ _ _ s l u v _ e2)
    have ht : mj_R ic_P 121 12003 (.ref 124 :: []) (fm (s', l', x', y') (s', l', u', v') r.toInt64) (some (.int 0)) (fm (s', l', x', y') (s', l', u', v') r.toInt64) := by
      have z := mj_R_le (d' := 121) (by decide) (pm_X12_thrown (fm_TR (s', l', x', y') r.toInt64) s' l' u' v' (u' 1, s', l', u', v') rfl)
      have z9 : pm_rI (u' 1) = some (.int 0) := by rw [e3]; rfl
      exact z9 ▸ z
    exact ⟨s', l', x', y', u', v', r.toInt64, [(6, .int r), (5, .int 0)], 1, lc_11 h1 h2 h3 hw (mj_ext_eq rfl) (fm_wM _ _ _) hm ht (fun _ => fm_o _ _ _) rfl rfl rfl rfl, Nat.le_refl _, e4, rfl⟩
  · have hq := mt_R_le (d' := 119) (by decide) (pt_X11_point_t2 (fm_TC (s, l, u, v) w) _ _ _ s l x y _ e1)
    have hw := ax_point_1 (l := lc) (d := 119) hl9 hMa (by decide) _ _ _ rfl (mj_all2 (lo_ref (by decide)) (mj_all2 (mj_wv_int _) (mj_all2 (mj_wv_int _) (mj_all2 (mj_wv_int _) (mj_all2 (lo_ref (by decide)) lo_nil))))) (fm_wM _ _ _) hq
    have hm : mj_R ic_P 121 12096 (.ref 124 :: [.int (xs (i + Int32.ofInt 1).toNatClampNeg), .int (xs (i + Int32.ofInt 2).toNatClampNeg), .int (xs (i + Int32.ofInt 3).toNatClampNeg)]) (fm (s, l, x, y) (s, l, u, v) w) (some (.int r)) (fm (s, l, x, y) (s, l, u', v') w) := mj_R_le (by decide) (pm_X12_point (fm_TR (s, l, x, y) w) _ _ _ s l u v _ e2)
    have ht : mj_R ic_P 121 12003 (.ref 124 :: []) (fm (s, l, x, y) (s, l, u', v') w) (some (.int (Int32.ofInt 1))) (fm (s, l, x, y) (s, l, u', v') w) := by
      have z := mj_R_le (d' := 121) (by decide) (pm_X12_thrown (fm_TR (s, l, x, y) w) s l u' v' (u' 1, s, l, u', v') rfl)
      have z9 : pm_rI (u' 1) = some (.int (Int32.ofInt 1)) := by rw [e3]; rfl
      exact z9 ▸ z
    exact ⟨s, l, x, y, u', v', w, [(6, .int r), (5, .int (Int32.ofInt 1))], 1, lc_11 h1 h2 h3 hw mj_ext_rf (fm_wM _ _ _) hm ht (fun h => absurd h (by decide)) rfl rfl rfl rfl, Nat.le_refl _, e4, rfl⟩
  · have hq := mt_R_le (d' := 119) (by decide) (pt_X11_point_t1 (fm_TC (s, l, u, v) w) _ _ _ s l x y _ e1)
    have hw := ax_point_2 (l := lc) (d := 119) hl9 hMa (by decide) _ _ _ rfl (mj_all2 (lo_ref (by decide)) (mj_all2 (mj_wv_int _) (mj_all2 (mj_wv_int _) (mj_all2 (mj_wv_int _) (mj_all2 (lo_ref (by decide)) lo_nil))))) (fm_wM _ _ _) hq
    have hm : mj_R ic_P 121 12096 (.ref 124 :: [.int (xs (i + Int32.ofInt 1).toNatClampNeg), .int (xs (i + Int32.ofInt 2).toNatClampNeg), .int (xs (i + Int32.ofInt 3).toNatClampNeg)]) (fm (s, l, x, y) (s, l, u, v) w) (some (.int r)) (fm (s, l, x, y) (s, l, u', v') w) := mj_R_le (by decide) (pm_X12_point (fm_TR (s, l, x, y) w) _ _ _ s l u v _ e2)
    have ht : mj_R ic_P 121 12003 (.ref 124 :: []) (fm (s, l, x, y) (s, l, u', v') w) (some (.int (Int32.ofInt 2))) (fm (s, l, x, y) (s, l, u', v') w) := by
      have z := mj_R_le (d' := 121) (by decide) (pm_X12_thrown (fm_TR (s, l, x, y) w) s l u' v' (u' 1, s, l, u', v') rfl)
      have z9 : pm_rI (u' 1) = some (.int (Int32.ofInt 2)) := by rw [e3]; rfl
      exact z9 ▸ z
    exact ⟨s, l, x, y, u', v', w, [(6, .int r), (5, .int (Int32.ofInt 2))], 1, lc_11 h1 h2 h3 hw mj_ext_rf (fm_wM _ _ _) hm ht (fun h => absurd h (by decide)) rfl rfl rfl rfl, Nat.le_refl _, e4, rfl⟩
  · have hq := mt_R_le (d' := 119) (by decide) (pt_X11_point_t3 (fm_TC (s, l, u, v) w) _ _ _ s l x y _ e1)
    have hw := ax_point_3 (l := lc) (d := 119) hl9 hMa (by decide) _ _ _ rfl (mj_all2 (lo_ref (by decide)) (mj_all2 (mj_wv_int _) (mj_all2 (mj_wv_int _) (mj_all2 (mj_wv_int _) (mj_all2 (lo_ref (by decide)) lo_nil))))) (fm_wM _ _ _) hq
    have hm : mj_R ic_P 121 12096 (.ref 124 :: [.int (xs (i + Int32.ofInt 1).toNatClampNeg), .int (xs (i + Int32.ofInt 2).toNatClampNeg), .int (xs (i + Int32.ofInt 3).toNatClampNeg)]) (fm (s, l, x, y) (s, l, u, v) w) (some (.int r)) (fm (s, l, x, y) (s, l, u', v') w) := mj_R_le (by decide) (pm_X12_point (fm_TR (s, l, x, y) w) _ _ _ s l u v _ e2)
    have ht : mj_R ic_P 121 12003 (.ref 124 :: []) (fm (s, l, x, y) (s, l, u', v') w) (some (.int (Int32.ofInt 3))) (fm (s, l, x, y) (s, l, u', v') w) := by
      have z := mj_R_le (d' := 121) (by decide) (pm_X12_thrown (fm_TR (s, l, x, y) w) s l u' v' (u' 1, s, l, u', v') rfl)
      have z9 : pm_rI (u' 1) = some (.int (Int32.ofInt 3)) := by rw [e3]; rfl
      exact z9 ▸ z
    exact ⟨s, l, x, y, u', v', w, [(6, .int r), (5, .int (Int32.ofInt 3))], 1, lc_11 h1 h2 h3 hw mj_ext_rf (fm_wM _ _ _) hm ht (fun h => absurd h (by decide)) rfl rfl rfl rfl, Nat.le_refl _, e4, rfl⟩

set_option maxRecDepth 20000 in
theorem lo_12 {lc : Launch} (hl9 : lc.stackTraces = false) (hMa : mj_MaOk vwCl ic_ty mj_AW) {k : Nat} {s : Nat → Int32} {l : Nat → Int64} {x : Nat → Int32} {y : Nat → Int64} {u : Nat → Int32} {v : Nat → Int64} {w : Int64} (hV : q_V k s l x y u v) (hk : k < 512) {L : Nat} {xs : Nat → Int32} {i : Int32} (h1 : vp_in (i + Int32.ofInt 1) L) (h2 : vp_in (i + Int32.ofInt 2) L) : lo_ok lc L xs 1024 i k (fm (s, l, x, y) (s, l, u, v) w) := by
  rcases q_O_lineAt (a := (xs (i + Int32.ofInt 1).toNatClampNeg)) (b := (xs (i + Int32.ofInt 2).toNatClampNeg)) hV hk with ⟨r, s', l', x', y', u', v', e1, e2, e3, e4⟩ | ⟨⟨r, u', v', e2, e3, e4⟩, e1⟩
  · have hr : mj_R ic_P 120 11017 (.ref 0 :: [.int (xs (i + Int32.ofInt 1).toNatClampNeg), .int (xs (i + Int32.ofInt 2).toNatClampNeg)]) (fm (s, l, x, y) (s, l, u, v) w) (some (.int r)) (fm (s', l', x', y') (s, l, u, v) w) := mj_R_le (by decide) (pm_X11_lineAt (fm_TC (s, l, u, v) w) _ _ s l x y _ e1)
    obtain ⟨n, S', i9, k9, r9, g1, g2, g3, g4, g5⟩ := aw_lineAt _ _ r rfl rfl hr
    have hw := mw_ret (l := lc) (hh := ih_lineAt) ic_Good hMa ig_lineAt (by decide +kernel) (Nat.le_of_ble_eq_true rfl) g1 g2 g3 (mj_all2 (lo_ref (by decide)) (mj_all2 (mj_wv_int _) (mj_all2 (mj_wv_int _) (mj_all2 (lo_ref (by decide)) lo_nil)))) (fm_wM _ _ _)
    rw [g4, g5, fm_out] at hw
    have hm : mj_R ic_P 121 12097 (.ref 124 :: [.int (xs (i + Int32.ofInt 1).toNatClampNeg), .int (xs (i + Int32.ofInt 2).toNatClampNeg)]) (fm (s', l', x', y') (s, l, u, v) r.toInt64) (some (.int r)) (fm (s', l', x', y') (s', l', u', v') r.toInt64) := mj_R_le (by decide) (pm_X12_lineAt (fm_TR (s', l', x', y') r.toInt64) _ _ s l u v _ e2)
    have ht : mj_R ic_P 121 12003 (.ref 124 :: []) (fm (s', l', x', y') (s', l', u', v') r.toInt64) (some (.int 0)) (fm (s', l', x', y') (s', l', u', v') r.toInt64) := by
      have z := mj_R_le (d' := 121) (by decide) (pm_X12_thrown (fm_TR (s', l', x', y') r.toInt64) s' l' u' v' (u' 1, s', l', u', v') rfl)
      have z9 : pm_rI (u' 1) = some (.int 0) := by rw [e3]; rfl
      exact z9 ▸ z
    exact ⟨s', l', x', y', u', v', r.toInt64, [(6, .int r), (5, .int 0)], 1, lc_12 h1 h2 hw (mj_ext_eq rfl) (fm_wM _ _ _) hm ht (fun _ => fm_o _ _ _) rfl rfl rfl rfl, Nat.le_refl _, e4, rfl⟩
  · have hq := mt_R_le (d' := 119) (by decide) (pt_X11_lineAt_t2 (fm_TC (s, l, u, v) w) _ _ s l x y _ e1)
    have hw := ax_lineAt_1 (l := lc) (d := 119) hl9 hMa (by decide) _ _ rfl (mj_all2 (lo_ref (by decide)) (mj_all2 (mj_wv_int _) (mj_all2 (mj_wv_int _) (mj_all2 (lo_ref (by decide)) lo_nil)))) (fm_wM _ _ _) hq
    have hm : mj_R ic_P 121 12097 (.ref 124 :: [.int (xs (i + Int32.ofInt 1).toNatClampNeg), .int (xs (i + Int32.ofInt 2).toNatClampNeg)]) (fm (s, l, x, y) (s, l, u, v) w) (some (.int r)) (fm (s, l, x, y) (s, l, u', v') w) := mj_R_le (by decide) (pm_X12_lineAt (fm_TR (s, l, x, y) w) _ _ s l u v _ e2)
    have ht : mj_R ic_P 121 12003 (.ref 124 :: []) (fm (s, l, x, y) (s, l, u', v') w) (some (.int (Int32.ofInt 1))) (fm (s, l, x, y) (s, l, u', v') w) := by
      have z := mj_R_le (d' := 121) (by decide) (pm_X12_thrown (fm_TR (s, l, x, y) w) s l u' v' (u' 1, s, l, u', v') rfl)
      have z9 : pm_rI (u' 1) = some (.int (Int32.ofInt 1)) := by rw [e3]; rfl
      exact z9 ▸ z
    exact ⟨s, l, x, y, u', v', w, [(6, .int r), (5, .int (Int32.ofInt 1))], 1, lc_12 h1 h2 hw mj_ext_rf (fm_wM _ _ _) hm ht (fun h => absurd h (by decide)) rfl rfl rfl rfl, Nat.le_refl _, e4, rfl⟩

set_option maxRecDepth 20000 in
theorem lo_13 {lc : Launch} (hl9 : lc.stackTraces = false) (hMa : mj_MaOk vwCl ic_ty mj_AW) {k : Nat} {s : Nat → Int32} {l : Nat → Int64} {x : Nat → Int32} {y : Nat → Int64} {u : Nat → Int32} {v : Nat → Int64} {w : Int64} (hV : q_V k s l x y u v) (hk : k < 512) {L : Nat} {xs : Nat → Int32} {i : Int32} (h1 : vp_in (i + Int32.ofInt 1) L) (h2 : vp_in (i + Int32.ofInt 2) L) (h3 : vp_in (i + Int32.ofInt 3) L) (h4 : vp_in (i + Int32.ofInt 4) L) (h5 : vp_in (i + Int32.ofInt 5) L) (h6 : vp_in (i + (Int8.ofInt 6).toInt32) L) : lo_ok lc L xs 1092 i k (fm (s, l, x, y) (s, l, u, v) w) := by
  rcases q_O_axis (a := (xs (i + Int32.ofInt 1).toNatClampNeg)) (b := (xs (i + Int32.ofInt 2).toNatClampNeg)) (d := (xs (i + Int32.ofInt 3).toNatClampNeg)) (e := (xs (i + Int32.ofInt 4).toNatClampNeg)) (p := (xs (i + Int32.ofInt 5).toNatClampNeg)) (r := (xs (i + (Int8.ofInt 6).toInt32).toNatClampNeg)) hV hk with ⟨r, s', l', x', y', u', v', e1, e2, e3, e4⟩ | ⟨⟨r, u', v', e2, e3, e4⟩, e1⟩ | ⟨⟨r, u', v', e2, e3, e4⟩, e1⟩ | ⟨⟨r, u', v', e2, e3, e4⟩, e1⟩
  · have hr : mj_R ic_P 120 11018 (.ref 0 :: [.int (xs (i + Int32.ofInt 1).toNatClampNeg), .int (xs (i + Int32.ofInt 2).toNatClampNeg), .int (xs (i + Int32.ofInt 3).toNatClampNeg), .int (xs (i + Int32.ofInt 4).toNatClampNeg), .int (xs (i + Int32.ofInt 5).toNatClampNeg), .int (xs (i + (Int8.ofInt 6).toInt32).toNatClampNeg)]) (fm (s, l, x, y) (s, l, u, v) w) (none) (fm (s', l', x', y') (s, l, u, v) w) := mj_R_le (by decide) (pm_X11_axis (fm_TC (s, l, u, v) w) _ _ _ _ _ _ s l x y _ e1)
    obtain ⟨n, S', i9, k9, r9, g1, g2, g3, g4, g5⟩ := aw_axis _ _ _ _ _ _ rfl rfl hr
    have hw := mw_ret (l := lc) (hh := ih_axis) ic_Good hMa ig_axis (by decide +kernel) (Nat.le_of_ble_eq_true rfl) g1 g2 g3 (mj_all2 (lo_ref (by decide)) (mj_all2 (mj_wv_int _) (mj_all2 (mj_wv_int _) (mj_all2 (mj_wv_int _) (mj_all2 (mj_wv_int _) (mj_all2 (mj_wv_int _) (mj_all2 (mj_wv_int _) lo_nil))))))) (fm_wM _ _ _)
    rw [g4, g5] at hw
    have hm : mj_R ic_P 121 12098 (.ref 124 :: [.int (xs (i + Int32.ofInt 1).toNatClampNeg), .int (xs (i + Int32.ofInt 2).toNatClampNeg), .int (xs (i + Int32.ofInt 3).toNatClampNeg), .int (xs (i + Int32.ofInt 4).toNatClampNeg), .int (xs (i + Int32.ofInt 5).toNatClampNeg), .int (xs (i + (Int8.ofInt 6).toInt32).toNatClampNeg)]) (fm (s', l', x', y') (s, l, u, v) w) (none) (fm (s', l', x', y') (s', l', u', v') w) := mj_R_le (by decide) (pm_X12_axis (fm_TR (s', l', x', y') w) _ _ _ _ _ _ s l u v _ e2)
    have ht : mj_R ic_P 121 12003 (.ref 124 :: []) (fm (s', l', x', y') (s', l', u', v') w) (some (.int 0)) (fm (s', l', x', y') (s', l', u', v') w) := by
      have z := mj_R_le (d' := 121) (by decide) (pm_X12_thrown (fm_TR (s', l', x', y') w) s' l' u' v' (u' 1, s', l', u', v') rfl)
      have z9 : pm_rI (u' 1) = some (.int 0) := by rw [e3]; rfl
      exact z9 ▸ z
    exact ⟨s', l', x', y', u', v', w, [(5, .int 0)], 1, lc_13 h1 h2 h3 h4 h5 h6 hw (mj_ext_eq rfl) (fm_wM _ _ _) hm ht rfl rfl rfl rfl, Nat.le_refl _, e4, rfl⟩
  · have hq := mt_R_le (d' := 119) (by decide) (pt_X11_axis_t2 (fm_TC (s, l, u, v) w) _ _ _ _ _ _ s l x y _ e1)
    have hw := ax_axis_1 (l := lc) (d := 119) hl9 hMa (by decide) _ _ _ _ _ _ rfl (mj_all2 (lo_ref (by decide)) (mj_all2 (mj_wv_int _) (mj_all2 (mj_wv_int _) (mj_all2 (mj_wv_int _) (mj_all2 (mj_wv_int _) (mj_all2 (mj_wv_int _) (mj_all2 (mj_wv_int _) lo_nil))))))) (fm_wM _ _ _) hq
    have hm : mj_R ic_P 121 12098 (.ref 124 :: [.int (xs (i + Int32.ofInt 1).toNatClampNeg), .int (xs (i + Int32.ofInt 2).toNatClampNeg), .int (xs (i + Int32.ofInt 3).toNatClampNeg), .int (xs (i + Int32.ofInt 4).toNatClampNeg), .int (xs (i + Int32.ofInt 5).toNatClampNeg), .int (xs (i + (Int8.ofInt 6).toInt32).toNatClampNeg)]) (fm (s, l, x, y) (s, l, u, v) w) (none) (fm (s, l, x, y) (s, l, u', v') w) := mj_R_le (by decide) (pm_X12_axis (fm_TR (s, l, x, y) w) _ _ _ _ _ _ s l u v _ e2)
    have ht : mj_R ic_P 121 12003 (.ref 124 :: []) (fm (s, l, x, y) (s, l, u', v') w) (some (.int (Int32.ofInt 1))) (fm (s, l, x, y) (s, l, u', v') w) := by
      have z := mj_R_le (d' := 121) (by decide) (pm_X12_thrown (fm_TR (s, l, x, y) w) s l u' v' (u' 1, s, l, u', v') rfl)
      have z9 : pm_rI (u' 1) = some (.int (Int32.ofInt 1)) := by rw [e3]; rfl
      exact z9 ▸ z
    exact ⟨s, l, x, y, u', v', w, [(5, .int (Int32.ofInt 1))], 1, lc_13 h1 h2 h3 h4 h5 h6 hw mj_ext_rf (fm_wM _ _ _) hm ht rfl rfl rfl rfl, Nat.le_refl _, e4, rfl⟩
  · have hq := mt_R_le (d' := 119) (by decide) (pt_X11_axis_t1 (fm_TC (s, l, u, v) w) _ _ _ _ _ _ s l x y _ e1)
    have hw := ax_axis_2 (l := lc) (d := 119) hl9 hMa (by decide) _ _ _ _ _ _ rfl (mj_all2 (lo_ref (by decide)) (mj_all2 (mj_wv_int _) (mj_all2 (mj_wv_int _) (mj_all2 (mj_wv_int _) (mj_all2 (mj_wv_int _) (mj_all2 (mj_wv_int _) (mj_all2 (mj_wv_int _) lo_nil))))))) (fm_wM _ _ _) hq
    have hm : mj_R ic_P 121 12098 (.ref 124 :: [.int (xs (i + Int32.ofInt 1).toNatClampNeg), .int (xs (i + Int32.ofInt 2).toNatClampNeg), .int (xs (i + Int32.ofInt 3).toNatClampNeg), .int (xs (i + Int32.ofInt 4).toNatClampNeg), .int (xs (i + Int32.ofInt 5).toNatClampNeg), .int (xs (i + (Int8.ofInt 6).toInt32).toNatClampNeg)]) (fm (s, l, x, y) (s, l, u, v) w) (none) (fm (s, l, x, y) (s, l, u', v') w) := mj_R_le (by decide) (pm_X12_axis (fm_TR (s, l, x, y) w) _ _ _ _ _ _ s l u v _ e2)
    have ht : mj_R ic_P 121 12003 (.ref 124 :: []) (fm (s, l, x, y) (s, l, u', v') w) (some (.int (Int32.ofInt 2))) (fm (s, l, x, y) (s, l, u', v') w) := by
      have z := mj_R_le (d' := 121) (by decide) (pm_X12_thrown (fm_TR (s, l, x, y) w) s l u' v' (u' 1, s, l, u', v') rfl)
      have z9 : pm_rI (u' 1) = some (.int (Int32.ofInt 2)) := by rw [e3]; rfl
      exact z9 ▸ z
    exact ⟨s, l, x, y, u', v', w, [(5, .int (Int32.ofInt 2))], 1, lc_13 h1 h2 h3 h4 h5 h6 hw mj_ext_rf (fm_wM _ _ _) hm ht rfl rfl rfl rfl, Nat.le_refl _, e4, rfl⟩
  · have hq := mt_R_le (d' := 119) (by decide) (pt_X11_axis_t3 (fm_TC (s, l, u, v) w) _ _ _ _ _ _ s l x y _ e1)
    have hw := ax_axis_3 (l := lc) (d := 119) hl9 hMa (by decide) _ _ _ _ _ _ rfl (mj_all2 (lo_ref (by decide)) (mj_all2 (mj_wv_int _) (mj_all2 (mj_wv_int _) (mj_all2 (mj_wv_int _) (mj_all2 (mj_wv_int _) (mj_all2 (mj_wv_int _) (mj_all2 (mj_wv_int _) lo_nil))))))) (fm_wM _ _ _) hq
    have hm : mj_R ic_P 121 12098 (.ref 124 :: [.int (xs (i + Int32.ofInt 1).toNatClampNeg), .int (xs (i + Int32.ofInt 2).toNatClampNeg), .int (xs (i + Int32.ofInt 3).toNatClampNeg), .int (xs (i + Int32.ofInt 4).toNatClampNeg), .int (xs (i + Int32.ofInt 5).toNatClampNeg), .int (xs (i + (Int8.ofInt 6).toInt32).toNatClampNeg)]) (fm (s, l, x, y) (s, l, u, v) w) (none) (fm (s, l, x, y) (s, l, u', v') w) := mj_R_le (by decide) (pm_X12_axis (fm_TR (s, l, x, y) w) _ _ _ _ _ _ s l u v _ e2)
    have ht : mj_R ic_P 121 12003 (.ref 124 :: []) (fm (s, l, x, y) (s, l, u', v') w) (some (.int (Int32.ofInt 3))) (fm (s, l, x, y) (s, l, u', v') w) := by
      have z := mj_R_le (d' := 121) (by decide) (pm_X12_thrown (fm_TR (s, l, x, y) w) s l u' v' (u' 1, s, l, u', v') rfl)
      have z9 : pm_rI (u' 1) = some (.int (Int32.ofInt 3)) := by rw [e3]; rfl
      exact z9 ▸ z
    exact ⟨s, l, x, y, u', v', w, [(5, .int (Int32.ofInt 3))], 1, lc_13 h1 h2 h3 h4 h5 h6 hw mj_ext_rf (fm_wM _ _ _) hm ht rfl rfl rfl rfl, Nat.le_refl _, e4, rfl⟩

set_option maxRecDepth 20000 in
theorem lo_14 {lc : Launch} (hl9 : lc.stackTraces = false) (hMa : mj_MaOk vwCl ic_ty mj_AW) {k : Nat} {s : Nat → Int32} {l : Nat → Int64} {x : Nat → Int32} {y : Nat → Int64} {u : Nat → Int32} {v : Nat → Int64} {w : Int64} (hV : q_V k s l x y u v) (hk : k < 512) {L : Nat} {xs : Nat → Int32} {i : Int32} (h1 : vp_in (i + Int32.ofInt 1) L) (h2 : vp_in (i + Int32.ofInt 2) L) (h3 : vp_in (i + Int32.ofInt 3) L) (h4 : vp_in (i + Int32.ofInt 4) L) : lo_ok lc L xs 1190 i k (fm (s, l, x, y) (s, l, u, v) w) := by
  rcases q_O_cell (a := (xs (i + Int32.ofInt 1).toNatClampNeg)) (b := (xs (i + Int32.ofInt 2).toNatClampNeg)) (d := (xs (i + Int32.ofInt 3).toNatClampNeg)) (e := (xs (i + Int32.ofInt 4).toNatClampNeg)) hV hk with ⟨r, s', l', x', y', u', v', e1, e2, e3, e4⟩ | ⟨⟨r, u', v', e2, e3, e4⟩, e1⟩ | ⟨⟨r, u', v', e2, e3, e4⟩, e1⟩ | ⟨⟨r, u', v', e2, e3, e4⟩, e1⟩
  · have hr : mj_R ic_P 120 11019 (.ref 0 :: [.int (xs (i + Int32.ofInt 1).toNatClampNeg), .int (xs (i + Int32.ofInt 2).toNatClampNeg), .int (xs (i + Int32.ofInt 3).toNatClampNeg), .int (xs (i + Int32.ofInt 4).toNatClampNeg)]) (fm (s, l, x, y) (s, l, u, v) w) (some (.int r)) (fm (s', l', x', y') (s, l, u, v) w) := mj_R_le (by decide) (pm_X11_cell (fm_TC (s, l, u, v) w) _ _ _ _ s l x y _ e1)
    obtain ⟨n, S', i9, k9, r9, g1, g2, g3, g4, g5⟩ := aw_cell _ _ _ _ r rfl rfl hr
    have hw := mw_ret (l := lc) (hh := ih_cell) ic_Good hMa ig_cell (by decide +kernel) (Nat.le_of_ble_eq_true rfl) g1 g2 g3 (mj_all2 (lo_ref (by decide)) (mj_all2 (mj_wv_int _) (mj_all2 (mj_wv_int _) (mj_all2 (mj_wv_int _) (mj_all2 (mj_wv_int _) (mj_all2 (lo_ref (by decide)) lo_nil)))))) (fm_wM _ _ _)
    rw [g4, g5, fm_out] at hw
    have hm : mj_R ic_P 121 12099 (.ref 124 :: [.int (xs (i + Int32.ofInt 1).toNatClampNeg), .int (xs (i + Int32.ofInt 2).toNatClampNeg), .int (xs (i + Int32.ofInt 3).toNatClampNeg), .int (xs (i + Int32.ofInt 4).toNatClampNeg)]) (fm (s', l', x', y') (s, l, u, v) r.toInt64) (some (.int r)) (fm (s', l', x', y') (s', l', u', v') r.toInt64) := mj_R_le (by decide) (pm_X12_cell (fm_TR (s', l', x', y') r.toInt64) _ _ _ _ s l u v _ e2)
    have ht : mj_R ic_P 121 12003 (.ref 124 :: []) (fm (s', l', x', y') (s', l', u', v') r.toInt64) (some (.int 0)) (fm (s', l', x', y') (s', l', u', v') r.toInt64) := by
      have z := mj_R_le (d' := 121) (by decide) (pm_X12_thrown (fm_TR (s', l', x', y') r.toInt64) s' l' u' v' (u' 1, s', l', u', v') rfl)
      have z9 : pm_rI (u' 1) = some (.int 0) := by rw [e3]; rfl
      exact z9 ▸ z
    exact ⟨s', l', x', y', u', v', r.toInt64, [(6, .int r), (5, .int 0)], 1, lc_14 h1 h2 h3 h4 hw (mj_ext_eq rfl) (fm_wM _ _ _) hm ht (fun _ => fm_o _ _ _) rfl rfl rfl rfl, Nat.le_refl _, e4, rfl⟩
  · have hq := mt_R_le (d' := 119) (by decide) (pt_X11_cell_t2 (fm_TC (s, l, u, v) w) _ _ _ _ s l x y _ e1)
    have hw := ax_cell_1 (l := lc) (d := 119) hl9 hMa (by decide) _ _ _ _ rfl (mj_all2 (lo_ref (by decide)) (mj_all2 (mj_wv_int _) (mj_all2 (mj_wv_int _) (mj_all2 (mj_wv_int _) (mj_all2 (mj_wv_int _) (mj_all2 (lo_ref (by decide)) lo_nil)))))) (fm_wM _ _ _) hq
    have hm : mj_R ic_P 121 12099 (.ref 124 :: [.int (xs (i + Int32.ofInt 1).toNatClampNeg), .int (xs (i + Int32.ofInt 2).toNatClampNeg), .int (xs (i + Int32.ofInt 3).toNatClampNeg), .int (xs (i + Int32.ofInt 4).toNatClampNeg)]) (fm (s, l, x, y) (s, l, u, v) w) (some (.int r)) (fm (s, l, x, y) (s, l, u', v') w) := mj_R_le (by decide) (pm_X12_cell (fm_TR (s, l, x, y) w) _ _ _ _ s l u v _ e2)
    have ht : mj_R ic_P 121 12003 (.ref 124 :: []) (fm (s, l, x, y) (s, l, u', v') w) (some (.int (Int32.ofInt 1))) (fm (s, l, x, y) (s, l, u', v') w) := by
      have z := mj_R_le (d' := 121) (by decide) (pm_X12_thrown (fm_TR (s, l, x, y) w) s l u' v' (u' 1, s, l, u', v') rfl)
      have z9 : pm_rI (u' 1) = some (.int (Int32.ofInt 1)) := by rw [e3]; rfl
      exact z9 ▸ z
    exact ⟨s, l, x, y, u', v', w, [(6, .int r), (5, .int (Int32.ofInt 1))], 1, lc_14 h1 h2 h3 h4 hw mj_ext_rf (fm_wM _ _ _) hm ht (fun h => absurd h (by decide)) rfl rfl rfl rfl, Nat.le_refl _, e4, rfl⟩
  · have hq := mt_R_le (d' := 119) (by decide) (pt_X11_cell_t1 (fm_TC (s, l, u, v) w) _ _ _ _ s l x y _ e1)
    have hw := ax_cell_2 (l := lc) (d := 119) hl9 hMa (by decide) _ _ _ _ rfl (mj_all2 (lo_ref (by decide)) (mj_all2 (mj_wv_int _) (mj_all2 (mj_wv_int _) (mj_all2 (mj_wv_int _) (mj_all2 (mj_wv_int _) (mj_all2 (lo_ref (by decide)) lo_nil)))))) (fm_wM _ _ _) hq
    have hm : mj_R ic_P 121 12099 (.ref 124 :: [.int (xs (i + Int32.ofInt 1).toNatClampNeg), .int (xs (i + Int32.ofInt 2).toNatClampNeg), .int (xs (i + Int32.ofInt 3).toNatClampNeg), .int (xs (i + Int32.ofInt 4).toNatClampNeg)]) (fm (s, l, x, y) (s, l, u, v) w) (some (.int r)) (fm (s, l, x, y) (s, l, u', v') w) := mj_R_le (by decide) (pm_X12_cell (fm_TR (s, l, x, y) w) _ _ _ _ s l u v _ e2)
    have ht : mj_R ic_P 121 12003 (.ref 124 :: []) (fm (s, l, x, y) (s, l, u', v') w) (some (.int (Int32.ofInt 2))) (fm (s, l, x, y) (s, l, u', v') w) := by
      have z := mj_R_le (d' := 121) (by decide) (pm_X12_thrown (fm_TR (s, l, x, y) w) s l u' v' (u' 1, s, l, u', v') rfl)
      have z9 : pm_rI (u' 1) = some (.int (Int32.ofInt 2)) := by rw [e3]; rfl
      exact z9 ▸ z
    exact ⟨s, l, x, y, u', v', w, [(6, .int r), (5, .int (Int32.ofInt 2))], 1, lc_14 h1 h2 h3 h4 hw mj_ext_rf (fm_wM _ _ _) hm ht (fun h => absurd h (by decide)) rfl rfl rfl rfl, Nat.le_refl _, e4, rfl⟩
  · have hq := mt_R_le (d' := 119) (by decide) (pt_X11_cell_t3 (fm_TC (s, l, u, v) w) _ _ _ _ s l x y _ e1)
    have hw := ax_cell_3 (l := lc) (d := 119) hl9 hMa (by decide) _ _ _ _ rfl (mj_all2 (lo_ref (by decide)) (mj_all2 (mj_wv_int _) (mj_all2 (mj_wv_int _) (mj_all2 (mj_wv_int _) (mj_all2 (mj_wv_int _) (mj_all2 (lo_ref (by decide)) lo_nil)))))) (fm_wM _ _ _) hq
    have hm : mj_R ic_P 121 12099 (.ref 124 :: [.int (xs (i + Int32.ofInt 1).toNatClampNeg), .int (xs (i + Int32.ofInt 2).toNatClampNeg), .int (xs (i + Int32.ofInt 3).toNatClampNeg), .int (xs (i + Int32.ofInt 4).toNatClampNeg)]) (fm (s, l, x, y) (s, l, u, v) w) (some (.int r)) (fm (s, l, x, y) (s, l, u', v') w) := mj_R_le (by decide) (pm_X12_cell (fm_TR (s, l, x, y) w) _ _ _ _ s l u v _ e2)
    have ht : mj_R ic_P 121 12003 (.ref 124 :: []) (fm (s, l, x, y) (s, l, u', v') w) (some (.int (Int32.ofInt 3))) (fm (s, l, x, y) (s, l, u', v') w) := by
      have z := mj_R_le (d' := 121) (by decide) (pm_X12_thrown (fm_TR (s, l, x, y) w) s l u' v' (u' 1, s, l, u', v') rfl)
      have z9 : pm_rI (u' 1) = some (.int (Int32.ofInt 3)) := by rw [e3]; rfl
      exact z9 ▸ z
    exact ⟨s, l, x, y, u', v', w, [(6, .int r), (5, .int (Int32.ofInt 3))], 1, lc_14 h1 h2 h3 h4 hw mj_ext_rf (fm_wM _ _ _) hm ht (fun h => absurd h (by decide)) rfl rfl rfl rfl, Nat.le_refl _, e4, rfl⟩

set_option maxRecDepth 20000 in
theorem lo_15 {lc : Launch} (hl9 : lc.stackTraces = false) (hMa : mj_MaOk vwCl ic_ty mj_AW) {k : Nat} {s : Nat → Int32} {l : Nat → Int64} {x : Nat → Int32} {y : Nat → Int64} {u : Nat → Int32} {v : Nat → Int64} {w : Int64} (hV : q_V k s l x y u v) (hk : k < 512) {L : Nat} {xs : Nat → Int32} {i : Int32} (h1 : vp_in (i + Int32.ofInt 1) L) (h2 : vp_in (i + Int32.ofInt 2) L) (h3 : vp_in (i + Int32.ofInt 3) L) : lo_ok lc L xs 1282 i k (fm (s, l, x, y) (s, l, u, v) w) := by
  rcases q_O_value (a := (xs (i + Int32.ofInt 1).toNatClampNeg)) (b := (xs (i + Int32.ofInt 2).toNatClampNeg)) (d := (xs (i + Int32.ofInt 3).toNatClampNeg)) hV hk with ⟨r, s', l', x', y', u', v', e1, e2, e3, e4⟩ | ⟨⟨r, u', v', e2, e3, e4⟩, e1⟩
  · have hr : mj_R ic_P 120 11020 (.ref 0 :: [.int (xs (i + Int32.ofInt 1).toNatClampNeg), .int (xs (i + Int32.ofInt 2).toNatClampNeg), .int (xs (i + Int32.ofInt 3).toNatClampNeg)]) (fm (s, l, x, y) (s, l, u, v) w) (some (.int r)) (fm (s', l', x', y') (s, l, u, v) w) := mj_R_le (by decide) (pm_X11_value (fm_TC (s, l, u, v) w) _ _ _ s l x y _ e1)
    obtain ⟨n, S', i9, k9, r9, g1, g2, g3, g4, g5⟩ := aw_value _ _ _ r rfl rfl hr
    have hw := mw_ret (l := lc) (hh := ih_value) ic_Good hMa ig_value (by decide +kernel) (Nat.le_of_ble_eq_true rfl) g1 g2 g3 (mj_all2 (lo_ref (by decide)) (mj_all2 (mj_wv_int _) (mj_all2 (mj_wv_int _) (mj_all2 (mj_wv_int _) (mj_all2 (lo_ref (by decide)) lo_nil))))) (fm_wM _ _ _)
    rw [g4, g5, fm_out] at hw
    have hm : mj_R ic_P 121 12100 (.ref 124 :: [.int (xs (i + Int32.ofInt 1).toNatClampNeg), .int (xs (i + Int32.ofInt 2).toNatClampNeg), .int (xs (i + Int32.ofInt 3).toNatClampNeg)]) (fm (s', l', x', y') (s, l, u, v) r.toInt64) (some (.int r)) (fm (s', l', x', y') (s', l', u', v') r.toInt64) := mj_R_le (by decide) (pm_X12_value (fm_TR (s', l', x', y') r.toInt64) _ _ _ s l u v _ e2)
    have ht : mj_R ic_P 121 12003 (.ref 124 :: []) (fm (s', l', x', y') (s', l', u', v') r.toInt64) (some (.int 0)) (fm (s', l', x', y') (s', l', u', v') r.toInt64) := by
      have z := mj_R_le (d' := 121) (by decide) (pm_X12_thrown (fm_TR (s', l', x', y') r.toInt64) s' l' u' v' (u' 1, s', l', u', v') rfl)
      have z9 : pm_rI (u' 1) = some (.int 0) := by rw [e3]; rfl
      exact z9 ▸ z
    exact ⟨s', l', x', y', u', v', r.toInt64, [(6, .int r), (5, .int 0)], 1, lc_15 h1 h2 h3 hw (mj_ext_eq rfl) (fm_wM _ _ _) hm ht (fun _ => fm_o _ _ _) rfl rfl rfl rfl, Nat.le_refl _, e4, rfl⟩
  · have hq := mt_R_le (d' := 119) (by decide) (pt_X11_value_t2 (fm_TC (s, l, u, v) w) _ _ _ s l x y _ e1)
    have hw := ax_value_1 (l := lc) (d := 119) hl9 hMa (by decide) _ _ _ rfl (mj_all2 (lo_ref (by decide)) (mj_all2 (mj_wv_int _) (mj_all2 (mj_wv_int _) (mj_all2 (mj_wv_int _) (mj_all2 (lo_ref (by decide)) lo_nil))))) (fm_wM _ _ _) hq
    have hm : mj_R ic_P 121 12100 (.ref 124 :: [.int (xs (i + Int32.ofInt 1).toNatClampNeg), .int (xs (i + Int32.ofInt 2).toNatClampNeg), .int (xs (i + Int32.ofInt 3).toNatClampNeg)]) (fm (s, l, x, y) (s, l, u, v) w) (some (.int r)) (fm (s, l, x, y) (s, l, u', v') w) := mj_R_le (by decide) (pm_X12_value (fm_TR (s, l, x, y) w) _ _ _ s l u v _ e2)
    have ht : mj_R ic_P 121 12003 (.ref 124 :: []) (fm (s, l, x, y) (s, l, u', v') w) (some (.int (Int32.ofInt 1))) (fm (s, l, x, y) (s, l, u', v') w) := by
      have z := mj_R_le (d' := 121) (by decide) (pm_X12_thrown (fm_TR (s, l, x, y) w) s l u' v' (u' 1, s, l, u', v') rfl)
      have z9 : pm_rI (u' 1) = some (.int (Int32.ofInt 1)) := by rw [e3]; rfl
      exact z9 ▸ z
    exact ⟨s, l, x, y, u', v', w, [(6, .int r), (5, .int (Int32.ofInt 1))], 1, lc_15 h1 h2 h3 hw mj_ext_rf (fm_wM _ _ _) hm ht (fun h => absurd h (by decide)) rfl rfl rfl rfl, Nat.le_refl _, e4, rfl⟩

set_option maxRecDepth 20000 in
theorem lo_16 {lc : Launch} (hl9 : lc.stackTraces = false) (hMa : mj_MaOk vwCl ic_ty mj_AW) {k : Nat} {s : Nat → Int32} {l : Nat → Int64} {x : Nat → Int32} {y : Nat → Int64} {u : Nat → Int32} {v : Nat → Int64} {w : Int64} (hV : q_V k s l x y u v) (hk : k < 512) {L : Nat} {xs : Nat → Int32} {i : Int32} (h1 : vp_in (i + Int32.ofInt 1) L) (h2 : vp_in (i + Int32.ofInt 2) L) : lo_ok lc L xs 1362 i k (fm (s, l, x, y) (s, l, u, v) w) := by
  rcases q_O_calibrate (a := (xs (i + Int32.ofInt 1).toNatClampNeg)) (b := (xs (i + Int32.ofInt 2).toNatClampNeg)) hV hk with ⟨r, s', l', x', y', u', v', e1, e2, e3, e4⟩ | ⟨⟨r, u', v', e2, e3, e4⟩, e1⟩ | ⟨⟨r, u', v', e2, e3, e4⟩, e1⟩ | ⟨⟨r, u', v', e2, e3, e4⟩, e1⟩
  · have hr : mj_R ic_P 120 11021 (.ref 0 :: [.int (xs (i + Int32.ofInt 1).toNatClampNeg), .int (xs (i + Int32.ofInt 2).toNatClampNeg)]) (fm (s, l, x, y) (s, l, u, v) w) (some (.int r)) (fm (s', l', x', y') (s, l, u, v) w) := mj_R_le (by decide) (pm_X11_calibrate (fm_TC (s, l, u, v) w) _ _ s l x y _ e1)
    obtain ⟨n, S', i9, k9, r9, g1, g2, g3, g4, g5⟩ := aw_calibrate _ _ r rfl rfl hr
    have hw := mw_ret (l := lc) (hh := ih_calibrate) ic_Good hMa ig_calibrate (by decide +kernel) (Nat.le_of_ble_eq_true rfl) g1 g2 g3 (mj_all2 (lo_ref (by decide)) (mj_all2 (mj_wv_int _) (mj_all2 (mj_wv_int _) (mj_all2 (lo_ref (by decide)) lo_nil)))) (fm_wM _ _ _)
    rw [g4, g5, fm_out] at hw
    have hm : mj_R ic_P 121 12101 (.ref 124 :: [.int (xs (i + Int32.ofInt 1).toNatClampNeg), .int (xs (i + Int32.ofInt 2).toNatClampNeg)]) (fm (s', l', x', y') (s, l, u, v) r.toInt64) (some (.int r)) (fm (s', l', x', y') (s', l', u', v') r.toInt64) := mj_R_le (by decide) (pm_X12_calibrate (fm_TR (s', l', x', y') r.toInt64) _ _ s l u v _ e2)
    have ht : mj_R ic_P 121 12003 (.ref 124 :: []) (fm (s', l', x', y') (s', l', u', v') r.toInt64) (some (.int 0)) (fm (s', l', x', y') (s', l', u', v') r.toInt64) := by
      have z := mj_R_le (d' := 121) (by decide) (pm_X12_thrown (fm_TR (s', l', x', y') r.toInt64) s' l' u' v' (u' 1, s', l', u', v') rfl)
      have z9 : pm_rI (u' 1) = some (.int 0) := by rw [e3]; rfl
      exact z9 ▸ z
    exact ⟨s', l', x', y', u', v', r.toInt64, [(6, .int r), (5, .int 0)], 1, lc_16 h1 h2 hw (mj_ext_eq rfl) (fm_wM _ _ _) hm ht (fun _ => fm_o _ _ _) rfl rfl rfl rfl, Nat.le_refl _, e4, rfl⟩
  · have hq := mt_R_le (d' := 119) (by decide) (pt_X11_calibrate_t2 (fm_TC (s, l, u, v) w) _ _ s l x y _ e1)
    have hw := ax_calibrate_1 (l := lc) (d := 119) hl9 hMa (by decide) _ _ rfl (mj_all2 (lo_ref (by decide)) (mj_all2 (mj_wv_int _) (mj_all2 (mj_wv_int _) (mj_all2 (lo_ref (by decide)) lo_nil)))) (fm_wM _ _ _) hq
    have hm : mj_R ic_P 121 12101 (.ref 124 :: [.int (xs (i + Int32.ofInt 1).toNatClampNeg), .int (xs (i + Int32.ofInt 2).toNatClampNeg)]) (fm (s, l, x, y) (s, l, u, v) w) (some (.int r)) (fm (s, l, x, y) (s, l, u', v') w) := mj_R_le (by decide) (pm_X12_calibrate (fm_TR (s, l, x, y) w) _ _ s l u v _ e2)
    have ht : mj_R ic_P 121 12003 (.ref 124 :: []) (fm (s, l, x, y) (s, l, u', v') w) (some (.int (Int32.ofInt 1))) (fm (s, l, x, y) (s, l, u', v') w) := by
      have z := mj_R_le (d' := 121) (by decide) (pm_X12_thrown (fm_TR (s, l, x, y) w) s l u' v' (u' 1, s, l, u', v') rfl)
      have z9 : pm_rI (u' 1) = some (.int (Int32.ofInt 1)) := by rw [e3]; rfl
      exact z9 ▸ z
    exact ⟨s, l, x, y, u', v', w, [(6, .int r), (5, .int (Int32.ofInt 1))], 1, lc_16 h1 h2 hw mj_ext_rf (fm_wM _ _ _) hm ht (fun h => absurd h (by decide)) rfl rfl rfl rfl, Nat.le_refl _, e4, rfl⟩
  · have hq := mt_R_le (d' := 119) (by decide) (pt_X11_calibrate_t1 (fm_TC (s, l, u, v) w) _ _ s l x y _ e1)
    have hw := ax_calibrate_2 (l := lc) (d := 119) hl9 hMa (by decide) _ _ rfl (mj_all2 (lo_ref (by decide)) (mj_all2 (mj_wv_int _) (mj_all2 (mj_wv_int _) (mj_all2 (lo_ref (by decide)) lo_nil)))) (fm_wM _ _ _) hq
    have hm : mj_R ic_P 121 12101 (.ref 124 :: [.int (xs (i + Int32.ofInt 1).toNatClampNeg), .int (xs (i + Int32.ofInt 2).toNatClampNeg)]) (fm (s, l, x, y) (s, l, u, v) w) (some (.int r)) (fm (s, l, x, y) (s, l, u', v') w) := mj_R_le (by decide) (pm_X12_calibrate (fm_TR (s, l, x, y) w) _ _ s l u v _ e2)
    have ht : mj_R ic_P 121 12003 (.ref 124 :: []) (fm (s, l, x, y) (s, l, u', v') w) (some (.int (Int32.ofInt 2))) (fm (s, l, x, y) (s, l, u', v') w) := by
      have z := mj_R_le (d' := 121) (by decide) (pm_X12_thrown (fm_TR (s, l, x, y) w) s l u' v' (u' 1, s, l, u', v') rfl)
      have z9 : pm_rI (u' 1) = some (.int (Int32.ofInt 2)) := by rw [e3]; rfl
      exact z9 ▸ z
    exact ⟨s, l, x, y, u', v', w, [(6, .int r), (5, .int (Int32.ofInt 2))], 1, lc_16 h1 h2 hw mj_ext_rf (fm_wM _ _ _) hm ht (fun h => absurd h (by decide)) rfl rfl rfl rfl, Nat.le_refl _, e4, rfl⟩
  · have hq := mt_R_le (d' := 119) (by decide) (pt_X11_calibrate_t3 (fm_TC (s, l, u, v) w) _ _ s l x y _ e1)
    have hw := ax_calibrate_3 (l := lc) (d := 119) hl9 hMa (by decide) _ _ rfl (mj_all2 (lo_ref (by decide)) (mj_all2 (mj_wv_int _) (mj_all2 (mj_wv_int _) (mj_all2 (lo_ref (by decide)) lo_nil)))) (fm_wM _ _ _) hq
    have hm : mj_R ic_P 121 12101 (.ref 124 :: [.int (xs (i + Int32.ofInt 1).toNatClampNeg), .int (xs (i + Int32.ofInt 2).toNatClampNeg)]) (fm (s, l, x, y) (s, l, u, v) w) (some (.int r)) (fm (s, l, x, y) (s, l, u', v') w) := mj_R_le (by decide) (pm_X12_calibrate (fm_TR (s, l, x, y) w) _ _ s l u v _ e2)
    have ht : mj_R ic_P 121 12003 (.ref 124 :: []) (fm (s, l, x, y) (s, l, u', v') w) (some (.int (Int32.ofInt 3))) (fm (s, l, x, y) (s, l, u', v') w) := by
      have z := mj_R_le (d' := 121) (by decide) (pm_X12_thrown (fm_TR (s, l, x, y) w) s l u' v' (u' 1, s, l, u', v') rfl)
      have z9 : pm_rI (u' 1) = some (.int (Int32.ofInt 3)) := by rw [e3]; rfl
      exact z9 ▸ z
    exact ⟨s, l, x, y, u', v', w, [(6, .int r), (5, .int (Int32.ofInt 3))], 1, lc_16 h1 h2 hw mj_ext_rf (fm_wM _ _ _) hm ht (fun h => absurd h (by decide)) rfl rfl rfl rfl, Nat.le_refl _, e4, rfl⟩

set_option maxRecDepth 20000 in
theorem lo_17 {lc : Launch} (hl9 : lc.stackTraces = false) (hMa : mj_MaOk vwCl ic_ty mj_AW) {k : Nat} {s : Nat → Int32} {l : Nat → Int64} {x : Nat → Int32} {y : Nat → Int64} {u : Nat → Int32} {v : Nat → Int64} {w : Int64} (hV : q_V k s l x y u v) (hk : k < 512) {L : Nat} {xs : Nat → Int32} {i : Int32} (h1 : vp_in (i + Int32.ofInt 1) L) : lo_ok lc L xs 1430 i k (fm (s, l, x, y) (s, l, u, v) w) := by
  rcases q_O_cut (a := (xs (i + Int32.ofInt 1).toNatClampNeg)) hV hk with ⟨r, s', l', x', y', u', v', e1, e2, e3, e4⟩ | ⟨⟨r, u', v', e2, e3, e4⟩, e1⟩
  · have hr : mj_R ic_P 120 11007 (.ref 0 :: [.int (xs (i + Int32.ofInt 1).toNatClampNeg)]) (fm (s, l, x, y) (s, l, u, v) w) (some (.int r)) (fm (s', l', x', y') (s, l, u, v) w) := mj_R_le (by decide) (pm_X11_cut (fm_TC (s, l, u, v) w) _ s l x y _ e1)
    obtain ⟨n, S', i9, k9, r9, g1, g2, g3, g4, g5⟩ := aw_cut _ r rfl rfl hr
    have hw := mw_ret (l := lc) (hh := ih_cut) ic_Good hMa ig_cut (by decide +kernel) (Nat.le_of_ble_eq_true rfl) g1 g2 g3 (mj_all2 (lo_ref (by decide)) (mj_all2 (mj_wv_int _) (mj_all2 (lo_ref (by decide)) lo_nil))) (fm_wM _ _ _)
    rw [g4, g5, fm_out] at hw
    have hm : mj_R ic_P 121 12102 (.ref 124 :: [.int (xs (i + Int32.ofInt 1).toNatClampNeg)]) (fm (s', l', x', y') (s, l, u, v) r.toInt64) (some (.int r)) (fm (s', l', x', y') (s', l', u', v') r.toInt64) := mj_R_le (by decide) (pm_X12_cut (fm_TR (s', l', x', y') r.toInt64) _ s l u v _ e2)
    have ht : mj_R ic_P 121 12003 (.ref 124 :: []) (fm (s', l', x', y') (s', l', u', v') r.toInt64) (some (.int 0)) (fm (s', l', x', y') (s', l', u', v') r.toInt64) := by
      have z := mj_R_le (d' := 121) (by decide) (pm_X12_thrown (fm_TR (s', l', x', y') r.toInt64) s' l' u' v' (u' 1, s', l', u', v') rfl)
      have z9 : pm_rI (u' 1) = some (.int 0) := by rw [e3]; rfl
      exact z9 ▸ z
    exact ⟨s', l', x', y', u', v', r.toInt64, [(6, .int r), (5, .int 0)], 1, lc_17 h1 hw (mj_ext_eq rfl) (fm_wM _ _ _) hm ht (fun _ => fm_o _ _ _) rfl rfl rfl rfl, Nat.le_refl _, e4, rfl⟩
  · have hq := mt_R_le (d' := 119) (by decide) (pt_X11_cut_t1 (fm_TC (s, l, u, v) w) _ s l x y _ e1)
    have hw := ax_cut_1 (l := lc) (d := 119) hl9 hMa (by decide) _ rfl (mj_all2 (lo_ref (by decide)) (mj_all2 (mj_wv_int _) (mj_all2 (lo_ref (by decide)) lo_nil))) (fm_wM _ _ _) hq
    have hm : mj_R ic_P 121 12102 (.ref 124 :: [.int (xs (i + Int32.ofInt 1).toNatClampNeg)]) (fm (s, l, x, y) (s, l, u, v) w) (some (.int r)) (fm (s, l, x, y) (s, l, u', v') w) := mj_R_le (by decide) (pm_X12_cut (fm_TR (s, l, x, y) w) _ s l u v _ e2)
    have ht : mj_R ic_P 121 12003 (.ref 124 :: []) (fm (s, l, x, y) (s, l, u', v') w) (some (.int (Int32.ofInt 1))) (fm (s, l, x, y) (s, l, u', v') w) := by
      have z := mj_R_le (d' := 121) (by decide) (pm_X12_thrown (fm_TR (s, l, x, y) w) s l u' v' (u' 1, s, l, u', v') rfl)
      have z9 : pm_rI (u' 1) = some (.int (Int32.ofInt 1)) := by rw [e3]; rfl
      exact z9 ▸ z
    exact ⟨s, l, x, y, u', v', w, [(6, .int r), (5, .int (Int32.ofInt 1))], 1, lc_17 h1 hw mj_ext_rf (fm_wM _ _ _) hm ht (fun h => absurd h (by decide)) rfl rfl rfl rfl, Nat.le_refl _, e4, rfl⟩

set_option maxRecDepth 20000 in
theorem lo_18 {lc : Launch} (hl9 : lc.stackTraces = false) (hMa : mj_MaOk vwCl ic_ty mj_AW) {k : Nat} {s : Nat → Int32} {l : Nat → Int64} {x : Nat → Int32} {y : Nat → Int64} {u : Nat → Int32} {v : Nat → Int64} {w : Int64} (hV : q_V k s l x y u v) (hk : k < 512) {L : Nat} {xs : Nat → Int32} {i : Int32} (h1 : vp_in (i + Int32.ofInt 1) L) (h2 : vp_in (i + Int32.ofInt 2) L) (h3 : vp_in (i + Int32.ofInt 3) L) : lo_ok lc L xs 1486 i k (fm (s, l, x, y) (s, l, u, v) w) := by
  rcases q_O_spoil (a := (xs (i + Int32.ofInt 1).toNatClampNeg)) (b := (xs (i + Int32.ofInt 2).toNatClampNeg)) (d := (xs (i + Int32.ofInt 3).toNatClampNeg)) hV hk with ⟨r, s', l', x', y', u', v', e1, e2, e3, e4⟩ | ⟨⟨r, u', v', e2, e3, e4⟩, e1⟩ | ⟨⟨r, u', v', e2, e3, e4⟩, e1⟩
  · have hr : mj_R ic_P 120 11022 (.ref 0 :: [.int (xs (i + Int32.ofInt 1).toNatClampNeg), .int (xs (i + Int32.ofInt 2).toNatClampNeg), .int (xs (i + Int32.ofInt 3).toNatClampNeg)]) (fm (s, l, x, y) (s, l, u, v) w) (some (.int r)) (fm (s', l', x', y') (s, l, u, v) w) := mj_R_le (by decide) (pm_X11_spoil (fm_TC (s, l, u, v) w) _ _ _ s l x y _ e1)
    obtain ⟨n, S', i9, k9, r9, g1, g2, g3, g4, g5⟩ := aw_spoil _ _ _ r rfl rfl hr
    have hw := mw_ret (l := lc) (hh := ih_spoil) ic_Good hMa ig_spoil (by decide +kernel) (Nat.le_of_ble_eq_true rfl) g1 g2 g3 (mj_all2 (lo_ref (by decide)) (mj_all2 (mj_wv_int _) (mj_all2 (mj_wv_int _) (mj_all2 (mj_wv_int _) (mj_all2 (lo_ref (by decide)) lo_nil))))) (fm_wM _ _ _)
    rw [g4, g5, fm_out] at hw
    have hm : mj_R ic_P 121 12104 (.ref 124 :: [.int (xs (i + Int32.ofInt 1).toNatClampNeg), .int (xs (i + Int32.ofInt 2).toNatClampNeg), .int (xs (i + Int32.ofInt 3).toNatClampNeg)]) (fm (s', l', x', y') (s, l, u, v) r.toInt64) (some (.int r)) (fm (s', l', x', y') (s', l', u', v') r.toInt64) := mj_R_le (by decide) (pm_X12_spoil (fm_TR (s', l', x', y') r.toInt64) _ _ _ s l u v _ e2)
    have ht : mj_R ic_P 121 12003 (.ref 124 :: []) (fm (s', l', x', y') (s', l', u', v') r.toInt64) (some (.int 0)) (fm (s', l', x', y') (s', l', u', v') r.toInt64) := by
      have z := mj_R_le (d' := 121) (by decide) (pm_X12_thrown (fm_TR (s', l', x', y') r.toInt64) s' l' u' v' (u' 1, s', l', u', v') rfl)
      have z9 : pm_rI (u' 1) = some (.int 0) := by rw [e3]; rfl
      exact z9 ▸ z
    exact ⟨s', l', x', y', u', v', r.toInt64, [(6, .int r), (5, .int 0)], 1, lc_18 h1 h2 h3 hw (mj_ext_eq rfl) (fm_wM _ _ _) hm ht (fun _ => fm_o _ _ _) rfl rfl rfl rfl, Nat.le_refl _, e4, rfl⟩
  · have hq := mt_R_le (d' := 119) (by decide) (pt_X11_spoil_t2 (fm_TC (s, l, u, v) w) _ _ _ s l x y _ e1)
    have hw := ax_spoil_1 (l := lc) (d := 119) hl9 hMa (by decide) _ _ _ rfl (mj_all2 (lo_ref (by decide)) (mj_all2 (mj_wv_int _) (mj_all2 (mj_wv_int _) (mj_all2 (mj_wv_int _) (mj_all2 (lo_ref (by decide)) lo_nil))))) (fm_wM _ _ _) hq
    have hm : mj_R ic_P 121 12104 (.ref 124 :: [.int (xs (i + Int32.ofInt 1).toNatClampNeg), .int (xs (i + Int32.ofInt 2).toNatClampNeg), .int (xs (i + Int32.ofInt 3).toNatClampNeg)]) (fm (s, l, x, y) (s, l, u, v) w) (some (.int r)) (fm (s, l, x, y) (s, l, u', v') w) := mj_R_le (by decide) (pm_X12_spoil (fm_TR (s, l, x, y) w) _ _ _ s l u v _ e2)
    have ht : mj_R ic_P 121 12003 (.ref 124 :: []) (fm (s, l, x, y) (s, l, u', v') w) (some (.int (Int32.ofInt 1))) (fm (s, l, x, y) (s, l, u', v') w) := by
      have z := mj_R_le (d' := 121) (by decide) (pm_X12_thrown (fm_TR (s, l, x, y) w) s l u' v' (u' 1, s, l, u', v') rfl)
      have z9 : pm_rI (u' 1) = some (.int (Int32.ofInt 1)) := by rw [e3]; rfl
      exact z9 ▸ z
    exact ⟨s, l, x, y, u', v', w, [(6, .int r), (5, .int (Int32.ofInt 1))], 1, lc_18 h1 h2 h3 hw mj_ext_rf (fm_wM _ _ _) hm ht (fun h => absurd h (by decide)) rfl rfl rfl rfl, Nat.le_refl _, e4, rfl⟩
  · have hq := mt_R_le (d' := 119) (by decide) (pt_X11_spoil_t3 (fm_TC (s, l, u, v) w) _ _ _ s l x y _ e1)
    have hw := ax_spoil_2 (l := lc) (d := 119) hl9 hMa (by decide) _ _ _ rfl (mj_all2 (lo_ref (by decide)) (mj_all2 (mj_wv_int _) (mj_all2 (mj_wv_int _) (mj_all2 (mj_wv_int _) (mj_all2 (lo_ref (by decide)) lo_nil))))) (fm_wM _ _ _) hq
    have hm : mj_R ic_P 121 12104 (.ref 124 :: [.int (xs (i + Int32.ofInt 1).toNatClampNeg), .int (xs (i + Int32.ofInt 2).toNatClampNeg), .int (xs (i + Int32.ofInt 3).toNatClampNeg)]) (fm (s, l, x, y) (s, l, u, v) w) (some (.int r)) (fm (s, l, x, y) (s, l, u', v') w) := mj_R_le (by decide) (pm_X12_spoil (fm_TR (s, l, x, y) w) _ _ _ s l u v _ e2)
    have ht : mj_R ic_P 121 12003 (.ref 124 :: []) (fm (s, l, x, y) (s, l, u', v') w) (some (.int (Int32.ofInt 2))) (fm (s, l, x, y) (s, l, u', v') w) := by
      have z := mj_R_le (d' := 121) (by decide) (pm_X12_thrown (fm_TR (s, l, x, y) w) s l u' v' (u' 1, s, l, u', v') rfl)
      have z9 : pm_rI (u' 1) = some (.int (Int32.ofInt 2)) := by rw [e3]; rfl
      exact z9 ▸ z
    exact ⟨s, l, x, y, u', v', w, [(6, .int r), (5, .int (Int32.ofInt 2))], 1, lc_18 h1 h2 h3 hw mj_ext_rf (fm_wM _ _ _) hm ht (fun h => absurd h (by decide)) rfl rfl rfl rfl, Nat.le_refl _, e4, rfl⟩

set_option maxRecDepth 20000 in
theorem lo_19 {lc : Launch} (hl9 : lc.stackTraces = false) (hMa : mj_MaOk vwCl ic_ty mj_AW) {k : Nat} {s : Nat → Int32} {l : Nat → Int64} {x : Nat → Int32} {y : Nat → Int64} {u : Nat → Int32} {v : Nat → Int64} {w : Int64} (hV : q_V k s l x y u v) (hk : k < 512) {L : Nat} {xs : Nat → Int32} {i : Int32} (h1 : vp_in (i + Int32.ofInt 1) L) (h2 : vp_in (i + Int32.ofInt 2) L) : lo_ok lc L xs 1566 i k (fm (s, l, x, y) (s, l, u, v) w) := by
  rcases q_O_word (a := (xs (i + Int32.ofInt 1).toNatClampNeg)) (b := (xs (i + Int32.ofInt 2).toNatClampNeg)) hV hk with ⟨r, s', l', x', y', u', v', e1, e2, e3, e4⟩ | ⟨⟨r, u', v', e2, e3, e4⟩, e1⟩
  · have hr : mj_R ic_P 120 11023 (.ref 0 :: [.int (xs (i + Int32.ofInt 1).toNatClampNeg), .int (xs (i + Int32.ofInt 2).toNatClampNeg)]) (fm (s, l, x, y) (s, l, u, v) w) (some (.int r)) (fm (s', l', x', y') (s, l, u, v) w) := mj_R_le (by decide) (pm_X11_word (fm_TC (s, l, u, v) w) _ _ s l x y _ e1)
    obtain ⟨n, S', i9, k9, r9, g1, g2, g3, g4, g5⟩ := aw_word _ _ r rfl rfl hr
    have hw := mw_ret (l := lc) (hh := ih_word) ic_Good hMa ig_word (by decide +kernel) (Nat.le_of_ble_eq_true rfl) g1 g2 g3 (mj_all2 (lo_ref (by decide)) (mj_all2 (mj_wv_int _) (mj_all2 (mj_wv_int _) (mj_all2 (lo_ref (by decide)) lo_nil)))) (fm_wM _ _ _)
    rw [g4, g5, fm_out] at hw
    have hm : mj_R ic_P 121 12105 (.ref 124 :: [.int (xs (i + Int32.ofInt 1).toNatClampNeg), .int (xs (i + Int32.ofInt 2).toNatClampNeg)]) (fm (s', l', x', y') (s, l, u, v) r.toInt64) (some (.int r)) (fm (s', l', x', y') (s', l', u', v') r.toInt64) := mj_R_le (by decide) (pm_X12_word (fm_TR (s', l', x', y') r.toInt64) _ _ s l u v _ e2)
    have ht : mj_R ic_P 121 12003 (.ref 124 :: []) (fm (s', l', x', y') (s', l', u', v') r.toInt64) (some (.int 0)) (fm (s', l', x', y') (s', l', u', v') r.toInt64) := by
      have z := mj_R_le (d' := 121) (by decide) (pm_X12_thrown (fm_TR (s', l', x', y') r.toInt64) s' l' u' v' (u' 1, s', l', u', v') rfl)
      have z9 : pm_rI (u' 1) = some (.int 0) := by rw [e3]; rfl
      exact z9 ▸ z
    exact ⟨s', l', x', y', u', v', r.toInt64, [(6, .int r), (5, .int 0)], 1, lc_19 h1 h2 hw (mj_ext_eq rfl) (fm_wM _ _ _) hm ht (fun _ => fm_o _ _ _) rfl rfl rfl rfl, Nat.le_refl _, e4, rfl⟩
  · have hq := mt_R_le (d' := 119) (by decide) (pt_X11_word_t2 (fm_TC (s, l, u, v) w) _ _ s l x y _ e1)
    have hw := ax_word_1 (l := lc) (d := 119) hl9 hMa (by decide) _ _ rfl (mj_all2 (lo_ref (by decide)) (mj_all2 (mj_wv_int _) (mj_all2 (mj_wv_int _) (mj_all2 (lo_ref (by decide)) lo_nil)))) (fm_wM _ _ _) hq
    have hm : mj_R ic_P 121 12105 (.ref 124 :: [.int (xs (i + Int32.ofInt 1).toNatClampNeg), .int (xs (i + Int32.ofInt 2).toNatClampNeg)]) (fm (s, l, x, y) (s, l, u, v) w) (some (.int r)) (fm (s, l, x, y) (s, l, u', v') w) := mj_R_le (by decide) (pm_X12_word (fm_TR (s, l, x, y) w) _ _ s l u v _ e2)
    have ht : mj_R ic_P 121 12003 (.ref 124 :: []) (fm (s, l, x, y) (s, l, u', v') w) (some (.int (Int32.ofInt 1))) (fm (s, l, x, y) (s, l, u', v') w) := by
      have z := mj_R_le (d' := 121) (by decide) (pm_X12_thrown (fm_TR (s, l, x, y) w) s l u' v' (u' 1, s, l, u', v') rfl)
      have z9 : pm_rI (u' 1) = some (.int (Int32.ofInt 1)) := by rw [e3]; rfl
      exact z9 ▸ z
    exact ⟨s, l, x, y, u', v', w, [(6, .int r), (5, .int (Int32.ofInt 1))], 1, lc_19 h1 h2 hw mj_ext_rf (fm_wM _ _ _) hm ht (fun h => absurd h (by decide)) rfl rfl rfl rfl, Nat.le_refl _, e4, rfl⟩

set_option maxRecDepth 20000 in
theorem lo_20 {lc : Launch} (hl9 : lc.stackTraces = false) (hMa : mj_MaOk vwCl ic_ty mj_AW) {k : Nat} {s : Nat → Int32} {l : Nat → Int64} {x : Nat → Int32} {y : Nat → Int64} {u : Nat → Int32} {v : Nat → Int64} {w : Int64} (hV : q_V k s l x y u v) (hk : k < 512) {L : Nat} {xs : Nat → Int32} {i : Int32} (h1 : vp_in (i + Int32.ofInt 1) L) : lo_ok lc L xs 1634 i k (fm (s, l, x, y) (s, l, u, v) w) := by
  rcases q_O_watch (a := (if (xs (i + Int32.ofInt 1).toNatClampNeg) = 0 then 0 else 1)) hV hk lo_b with ⟨r, s', l', x', y', u', v', e1, e2, e3, e4⟩ | ⟨⟨r, u', v', e2, e3, e4⟩, e1⟩
  · have hr : mj_R ic_P 120 11027 (.ref 0 :: [.int (if (xs (i + Int32.ofInt 1).toNatClampNeg) = 0 then 0 else 1)]) (fm (s, l, x, y) (s, l, u, v) w) (some (.int r)) (fm (s', l', x', y') (s, l, u, v) w) := mj_R_le (by decide) (pm_X11_watch (fm_TC (s, l, u, v) w) _ s l x y _ e1)
    obtain ⟨n, S', i9, k9, r9, g1, g2, g3, g4, g5⟩ := aw_watch _ r rfl rfl hr
    have hw := mw_ret (l := lc) (hh := ih_watch) ic_Good hMa ig_watch (by decide +kernel) (Nat.le_of_ble_eq_true rfl) g1 g2 g3 (mj_all2 (lo_ref (by decide)) (mj_all2 (mj_wv_int _) (mj_all2 (lo_ref (by decide)) lo_nil))) (fm_wM _ _ _)
    rw [g4, g5, fm_out] at hw
    have hm : mj_R ic_P 121 12106 (.ref 124 :: [.int (if (xs (i + Int32.ofInt 1).toNatClampNeg) = 0 then 0 else 1)]) (fm (s', l', x', y') (s, l, u, v) (if r = 0 then 0 else 1)) (some (.int r)) (fm (s', l', x', y') (s', l', u', v') (if r = 0 then 0 else 1)) := mj_R_le (by decide) (pm_X12_watch (fm_TR (s', l', x', y') (if r = 0 then 0 else 1)) _ s l u v _ e2)
    have ht : mj_R ic_P 121 12003 (.ref 124 :: []) (fm (s', l', x', y') (s', l', u', v') (if r = 0 then 0 else 1)) (some (.int 0)) (fm (s', l', x', y') (s', l', u', v') (if r = 0 then 0 else 1)) := by
      have z := mj_R_le (d' := 121) (by decide) (pm_X12_thrown (fm_TR (s', l', x', y') (if r = 0 then 0 else 1)) s' l' u' v' (u' 1, s', l', u', v') rfl)
      have z9 : pm_rI (u' 1) = some (.int 0) := by rw [e3]; rfl
      exact z9 ▸ z
    exact ⟨s', l', x', y', u', v', (if r = 0 then 0 else 1), [(6, .int r), (5, .int 0)], 1, lc_20 h1 hw (mj_ext_eq rfl) (fm_wM _ _ _) hm ht (fun _ => fm_o _ _ _) rfl rfl rfl rfl, Nat.le_refl _, e4, rfl⟩
  · have hq := mt_R_le (d' := 119) (by decide) (pt_X11_watch_t3 (fm_TC (s, l, u, v) w) _ s l x y _ e1)
    have hw := ax_watch_1 (l := lc) (d := 119) hl9 hMa (by decide) _ rfl (mj_all2 (lo_ref (by decide)) (mj_all2 (mj_wv_int _) (mj_all2 (lo_ref (by decide)) lo_nil))) (fm_wM _ _ _) hq
    have hm : mj_R ic_P 121 12106 (.ref 124 :: [.int (if (xs (i + Int32.ofInt 1).toNatClampNeg) = 0 then 0 else 1)]) (fm (s, l, x, y) (s, l, u, v) w) (some (.int r)) (fm (s, l, x, y) (s, l, u', v') w) := mj_R_le (by decide) (pm_X12_watch (fm_TR (s, l, x, y) w) _ s l u v _ e2)
    have ht : mj_R ic_P 121 12003 (.ref 124 :: []) (fm (s, l, x, y) (s, l, u', v') w) (some (.int (Int32.ofInt 1))) (fm (s, l, x, y) (s, l, u', v') w) := by
      have z := mj_R_le (d' := 121) (by decide) (pm_X12_thrown (fm_TR (s, l, x, y) w) s l u' v' (u' 1, s, l, u', v') rfl)
      have z9 : pm_rI (u' 1) = some (.int (Int32.ofInt 1)) := by rw [e3]; rfl
      exact z9 ▸ z
    exact ⟨s, l, x, y, u', v', w, [(6, .int r), (5, .int (Int32.ofInt 1))], 1, lc_20 h1 hw mj_ext_rf (fm_wM _ _ _) hm ht (fun h => absurd h (by decide)) rfl rfl rfl rfl, Nat.le_refl _, e4, rfl⟩

set_option maxRecDepth 20000 in
theorem lo_21 {lc : Launch} (hl9 : lc.stackTraces = false) (hMa : mj_MaOk vwCl ic_ty mj_AW) {k : Nat} {s : Nat → Int32} {l : Nat → Int64} {x : Nat → Int32} {y : Nat → Int64} {u : Nat → Int32} {v : Nat → Int64} {w : Int64} (hV : q_V k s l x y u v) (hk : k < 512) {L : Nat} {xs : Nat → Int32} {i : Int32} (h1 : vp_in (i + Int32.ofInt 1) L) : lo_ok lc L xs 1713 i k (fm (s, l, x, y) (s, l, u, v) w) := by
  rcases q_O_answer (a := (xs (i + Int32.ofInt 1).toNatClampNeg)) hV hk with ⟨r, s', l', x', y', u', v', e1, e2, e3, e4⟩ | ⟨⟨r, u', v', e2, e3, e4⟩, e1⟩
  · have hr : mj_R ic_P 120 11028 (.ref 0 :: [.int (xs (i + Int32.ofInt 1).toNatClampNeg)]) (fm (s, l, x, y) (s, l, u, v) w) (some (.int r)) (fm (s', l', x', y') (s, l, u, v) w) := mj_R_le (by decide) (pm_X11_answer (fm_TC (s, l, u, v) w) _ s l x y _ e1)
    obtain ⟨n, S', i9, k9, r9, g1, g2, g3, g4, g5⟩ := aw_answer _ r rfl rfl hr
    have hw := mw_ret (l := lc) (hh := ih_answer) ic_Good hMa ig_answer (by decide +kernel) (Nat.le_of_ble_eq_true rfl) g1 g2 g3 (mj_all2 (lo_ref (by decide)) (mj_all2 (mj_wv_int _) (mj_all2 (lo_ref (by decide)) lo_nil))) (fm_wM _ _ _)
    rw [g4, g5, fm_out] at hw
    have hm : mj_R ic_P 121 12107 (.ref 124 :: [.int (xs (i + Int32.ofInt 1).toNatClampNeg)]) (fm (s', l', x', y') (s, l, u, v) (if r = 0 then 0 else 1)) (some (.int r)) (fm (s', l', x', y') (s', l', u', v') (if r = 0 then 0 else 1)) := mj_R_le (by decide) (pm_X12_answer (fm_TR (s', l', x', y') (if r = 0 then 0 else 1)) _ s l u v _ e2)
    have ht : mj_R ic_P 121 12003 (.ref 124 :: []) (fm (s', l', x', y') (s', l', u', v') (if r = 0 then 0 else 1)) (some (.int 0)) (fm (s', l', x', y') (s', l', u', v') (if r = 0 then 0 else 1)) := by
      have z := mj_R_le (d' := 121) (by decide) (pm_X12_thrown (fm_TR (s', l', x', y') (if r = 0 then 0 else 1)) s' l' u' v' (u' 1, s', l', u', v') rfl)
      have z9 : pm_rI (u' 1) = some (.int 0) := by rw [e3]; rfl
      exact z9 ▸ z
    exact ⟨s', l', x', y', u', v', (if r = 0 then 0 else 1), [(6, .int r), (5, .int 0)], 1, lc_21 h1 hw (mj_ext_eq rfl) (fm_wM _ _ _) hm ht (fun _ => fm_o _ _ _) rfl rfl rfl rfl, Nat.le_refl _, e4, rfl⟩
  · have hq := mt_R_le (d' := 119) (by decide) (pt_X11_answer_t3 (fm_TC (s, l, u, v) w) _ s l x y _ e1)
    have hw := ax_answer_1 (l := lc) (d := 119) hl9 hMa (by decide) _ rfl (mj_all2 (lo_ref (by decide)) (mj_all2 (mj_wv_int _) (mj_all2 (lo_ref (by decide)) lo_nil))) (fm_wM _ _ _) hq
    have hm : mj_R ic_P 121 12107 (.ref 124 :: [.int (xs (i + Int32.ofInt 1).toNatClampNeg)]) (fm (s, l, x, y) (s, l, u, v) w) (some (.int r)) (fm (s, l, x, y) (s, l, u', v') w) := mj_R_le (by decide) (pm_X12_answer (fm_TR (s, l, x, y) w) _ s l u v _ e2)
    have ht : mj_R ic_P 121 12003 (.ref 124 :: []) (fm (s, l, x, y) (s, l, u', v') w) (some (.int (Int32.ofInt 1))) (fm (s, l, x, y) (s, l, u', v') w) := by
      have z := mj_R_le (d' := 121) (by decide) (pm_X12_thrown (fm_TR (s, l, x, y) w) s l u' v' (u' 1, s, l, u', v') rfl)
      have z9 : pm_rI (u' 1) = some (.int (Int32.ofInt 1)) := by rw [e3]; rfl
      exact z9 ▸ z
    exact ⟨s, l, x, y, u', v', w, [(6, .int r), (5, .int (Int32.ofInt 1))], 1, lc_21 h1 hw mj_ext_rf (fm_wM _ _ _) hm ht (fun h => absurd h (by decide)) rfl rfl rfl rfl, Nat.le_refl _, e4, rfl⟩

set_option maxRecDepth 20000 in
theorem lo_22 {lc : Launch} (hl9 : lc.stackTraces = false) (hMa : mj_MaOk vwCl ic_ty mj_AW) {k : Nat} {s : Nat → Int32} {l : Nat → Int64} {x : Nat → Int32} {y : Nat → Int64} {u : Nat → Int32} {v : Nat → Int64} {w : Int64} (hV : q_V k s l x y u v) (hk : k < 512) {L : Nat} {xs : Nat → Int32} {i : Int32} (h1 : vp_in (i + Int32.ofInt 1) L) (h2 : vp_in (i + Int32.ofInt 2) L) : lo_ok lc L xs 1776 i k (fm (s, l, x, y) (s, l, u, v) w) := by
  rcases q_O_hear (a := (xs (i + Int32.ofInt 1).toNatClampNeg)) (b := (xs (i + Int32.ofInt 2).toNatClampNeg)) hV hk with ⟨r, s', l', x', y', u', v', e1, e2, e3, e4⟩ | ⟨⟨r, u', v', e2, e3, e4⟩, e1⟩
  · have hr : mj_R ic_P 120 11029 (.ref 0 :: [.int (xs (i + Int32.ofInt 1).toNatClampNeg), .int (xs (i + Int32.ofInt 2).toNatClampNeg)]) (fm (s, l, x, y) (s, l, u, v) w) (some (.int r)) (fm (s', l', x', y') (s, l, u, v) w) := mj_R_le (by decide) (pm_X11_hear (fm_TC (s, l, u, v) w) _ _ s l x y _ e1)
    obtain ⟨n, S', i9, k9, r9, g1, g2, g3, g4, g5⟩ := aw_hear _ _ r rfl rfl hr
    have hw := mw_ret (l := lc) (hh := ih_hear) ic_Good hMa ig_hear (by decide +kernel) (Nat.le_of_ble_eq_true rfl) g1 g2 g3 (mj_all2 (lo_ref (by decide)) (mj_all2 (mj_wv_int _) (mj_all2 (mj_wv_int _) (mj_all2 (lo_ref (by decide)) lo_nil)))) (fm_wM _ _ _)
    rw [g4, g5, fm_out] at hw
    have hm : mj_R ic_P 121 12108 (.ref 124 :: [.int (xs (i + Int32.ofInt 1).toNatClampNeg), .int (xs (i + Int32.ofInt 2).toNatClampNeg)]) (fm (s', l', x', y') (s, l, u, v) r.toInt64) (some (.int r)) (fm (s', l', x', y') (s', l', u', v') r.toInt64) := mj_R_le (by decide) (pm_X12_hear (fm_TR (s', l', x', y') r.toInt64) _ _ s l u v _ e2)
    have ht : mj_R ic_P 121 12003 (.ref 124 :: []) (fm (s', l', x', y') (s', l', u', v') r.toInt64) (some (.int 0)) (fm (s', l', x', y') (s', l', u', v') r.toInt64) := by
      have z := mj_R_le (d' := 121) (by decide) (pm_X12_thrown (fm_TR (s', l', x', y') r.toInt64) s' l' u' v' (u' 1, s', l', u', v') rfl)
      have z9 : pm_rI (u' 1) = some (.int 0) := by rw [e3]; rfl
      exact z9 ▸ z
    exact ⟨s', l', x', y', u', v', r.toInt64, [(6, .int r), (5, .int 0)], 1, lc_22 h1 h2 hw (mj_ext_eq rfl) (fm_wM _ _ _) hm ht (fun _ => fm_o _ _ _) rfl rfl rfl rfl, Nat.le_refl _, e4, rfl⟩
  · have hq := mt_R_le (d' := 119) (by decide) (pt_X11_hear_t1 (fm_TC (s, l, u, v) w) _ _ s l x y _ e1)
    have hw := ax_hear_1 (l := lc) (d := 119) hl9 hMa (by decide) _ _ rfl (mj_all2 (lo_ref (by decide)) (mj_all2 (mj_wv_int _) (mj_all2 (mj_wv_int _) (mj_all2 (lo_ref (by decide)) lo_nil)))) (fm_wM _ _ _) hq
    have hm : mj_R ic_P 121 12108 (.ref 124 :: [.int (xs (i + Int32.ofInt 1).toNatClampNeg), .int (xs (i + Int32.ofInt 2).toNatClampNeg)]) (fm (s, l, x, y) (s, l, u, v) w) (some (.int r)) (fm (s, l, x, y) (s, l, u', v') w) := mj_R_le (by decide) (pm_X12_hear (fm_TR (s, l, x, y) w) _ _ s l u v _ e2)
    have ht : mj_R ic_P 121 12003 (.ref 124 :: []) (fm (s, l, x, y) (s, l, u', v') w) (some (.int (Int32.ofInt 1))) (fm (s, l, x, y) (s, l, u', v') w) := by
      have z := mj_R_le (d' := 121) (by decide) (pm_X12_thrown (fm_TR (s, l, x, y) w) s l u' v' (u' 1, s, l, u', v') rfl)
      have z9 : pm_rI (u' 1) = some (.int (Int32.ofInt 1)) := by rw [e3]; rfl
      exact z9 ▸ z
    exact ⟨s, l, x, y, u', v', w, [(6, .int r), (5, .int (Int32.ofInt 1))], 1, lc_22 h1 h2 hw mj_ext_rf (fm_wM _ _ _) hm ht (fun h => absurd h (by decide)) rfl rfl rfl rfl, Nat.le_refl _, e4, rfl⟩

set_option maxRecDepth 20000 in
theorem lo_23 {lc : Launch} (hl9 : lc.stackTraces = false) (hMa : mj_MaOk vwCl ic_ty mj_AW) {k : Nat} {s : Nat → Int32} {l : Nat → Int64} {x : Nat → Int32} {y : Nat → Int64} {u : Nat → Int32} {v : Nat → Int64} {w : Int64} (hV : q_V k s l x y u v) (hk : k < 512) {L : Nat} {xs : Nat → Int32} {i : Int32} (h1 : vp_in (i + Int32.ofInt 1) L) (h2 : vp_in (i + Int32.ofInt 2) L) (h3 : vp_in (i + Int32.ofInt 3) L) (h4 : vp_in (i + Int32.ofInt 4) L) (h5 : vp_in (i + Int32.ofInt 5) L) (h6 : vp_in (i + (Int8.ofInt 6).toInt32) L) : lo_ok lc L xs 1844 i k (fm (s, l, x, y) (s, l, u, v) w) := by
  rcases q_O_ask (a := (xs (i + Int32.ofInt 1).toNatClampNeg)) (a2 := (xs (i + Int32.ofInt 2).toNatClampNeg)) (a3 := (xs (i + Int32.ofInt 3).toNatClampNeg)) (a4 := (xs (i + Int32.ofInt 4).toNatClampNeg)) (a5 := (xs (i + Int32.ofInt 5).toNatClampNeg)) (a6 := (xs (i + (Int8.ofInt 6).toInt32).toNatClampNeg)) hV hk with ⟨r, s', l', x', y', u', v', e1, e2, e3, e4⟩ | ⟨⟨r, u', v', e2, e3, e4⟩, e1⟩
  · have hr : mj_R ic_P 120 11030 (.ref 0 :: [.int (xs (i + Int32.ofInt 1).toNatClampNeg), .int (xs (i + Int32.ofInt 2).toNatClampNeg), .int (xs (i + Int32.ofInt 3).toNatClampNeg), .int (xs (i + Int32.ofInt 4).toNatClampNeg), .int (xs (i + Int32.ofInt 5).toNatClampNeg), .int (xs (i + (Int8.ofInt 6).toInt32).toNatClampNeg)]) (fm (s, l, x, y) (s, l, u, v) w) (some (.int r)) (fm (s', l', x', y') (s, l, u, v) w) := mj_R_le (by decide) (pm_X11_ask (fm_TC (s, l, u, v) w) _ _ _ _ _ _ s l x y _ e1)
    obtain ⟨n, S', i9, k9, r9, g1, g2, g3, g4, g5⟩ := aw_ask _ _ _ _ _ _ r rfl rfl hr
    have hw := mw_ret (l := lc) (hh := ih_ask) ic_Good hMa ig_ask (by decide +kernel) (Nat.le_of_ble_eq_true rfl) g1 g2 g3 (mj_all2 (lo_ref (by decide)) (mj_all2 (mj_wv_int _) (mj_all2 (mj_wv_int _) (mj_all2 (mj_wv_int _) (mj_all2 (mj_wv_int _) (mj_all2 (mj_wv_int _) (mj_all2 (mj_wv_int _) (mj_all2 (lo_ref (by decide)) lo_nil)))))))) (fm_wM _ _ _)
    rw [g4, g5, fm_out] at hw
    have hm : mj_R ic_P 121 12110 (.ref 124 :: [.int (xs (i + Int32.ofInt 1).toNatClampNeg), .int (xs (i + Int32.ofInt 2).toNatClampNeg), .int (xs (i + Int32.ofInt 3).toNatClampNeg), .int (xs (i + Int32.ofInt 4).toNatClampNeg), .int (xs (i + Int32.ofInt 5).toNatClampNeg), .int (xs (i + (Int8.ofInt 6).toInt32).toNatClampNeg)]) (fm (s', l', x', y') (s, l, u, v) r.toInt64) (some (.int r)) (fm (s', l', x', y') (s', l', u', v') r.toInt64) := mj_R_le (by decide) (pm_X12_ask (fm_TR (s', l', x', y') r.toInt64) _ _ _ _ _ _ s l u v _ e2)
    have ht : mj_R ic_P 121 12003 (.ref 124 :: []) (fm (s', l', x', y') (s', l', u', v') r.toInt64) (some (.int 0)) (fm (s', l', x', y') (s', l', u', v') r.toInt64) := by
      have z := mj_R_le (d' := 121) (by decide) (pm_X12_thrown (fm_TR (s', l', x', y') r.toInt64) s' l' u' v' (u' 1, s', l', u', v') rfl)
      have z9 : pm_rI (u' 1) = some (.int 0) := by rw [e3]; rfl
      exact z9 ▸ z
    exact ⟨s', l', x', y', u', v', r.toInt64, [(6, .int r), (5, .int 0)], 1, lc_23 h1 h2 h3 h4 h5 h6 hw (mj_ext_eq rfl) (fm_wM _ _ _) hm ht (fun _ => fm_o _ _ _) rfl rfl rfl rfl, Nat.le_refl _, e4, rfl⟩
  · have hq := mt_R_le (d' := 119) (by decide) (pt_X11_ask_t1 (fm_TC (s, l, u, v) w) _ _ _ _ _ _ s l x y _ e1)
    have hw := ax_ask_1 (l := lc) (d := 119) hl9 hMa (by decide) _ _ _ _ _ _ rfl (mj_all2 (lo_ref (by decide)) (mj_all2 (mj_wv_int _) (mj_all2 (mj_wv_int _) (mj_all2 (mj_wv_int _) (mj_all2 (mj_wv_int _) (mj_all2 (mj_wv_int _) (mj_all2 (mj_wv_int _) (mj_all2 (lo_ref (by decide)) lo_nil)))))))) (fm_wM _ _ _) hq
    have hm : mj_R ic_P 121 12110 (.ref 124 :: [.int (xs (i + Int32.ofInt 1).toNatClampNeg), .int (xs (i + Int32.ofInt 2).toNatClampNeg), .int (xs (i + Int32.ofInt 3).toNatClampNeg), .int (xs (i + Int32.ofInt 4).toNatClampNeg), .int (xs (i + Int32.ofInt 5).toNatClampNeg), .int (xs (i + (Int8.ofInt 6).toInt32).toNatClampNeg)]) (fm (s, l, x, y) (s, l, u, v) w) (some (.int r)) (fm (s, l, x, y) (s, l, u', v') w) := mj_R_le (by decide) (pm_X12_ask (fm_TR (s, l, x, y) w) _ _ _ _ _ _ s l u v _ e2)
    have ht : mj_R ic_P 121 12003 (.ref 124 :: []) (fm (s, l, x, y) (s, l, u', v') w) (some (.int (Int32.ofInt 1))) (fm (s, l, x, y) (s, l, u', v') w) := by
      have z := mj_R_le (d' := 121) (by decide) (pm_X12_thrown (fm_TR (s, l, x, y) w) s l u' v' (u' 1, s, l, u', v') rfl)
      have z9 : pm_rI (u' 1) = some (.int (Int32.ofInt 1)) := by rw [e3]; rfl
      exact z9 ▸ z
    exact ⟨s, l, x, y, u', v', w, [(6, .int r), (5, .int (Int32.ofInt 1))], 1, lc_23 h1 h2 h3 h4 h5 h6 hw mj_ext_rf (fm_wM _ _ _) hm ht (fun h => absurd h (by decide)) rfl rfl rfl rfl, Nat.le_refl _, e4, rfl⟩

set_option maxRecDepth 20000 in
theorem lo_24 {lc : Launch} (hl9 : lc.stackTraces = false) (hMa : mj_MaOk vwCl ic_ty mj_AW) {k : Nat} {s : Nat → Int32} {l : Nat → Int64} {x : Nat → Int32} {y : Nat → Int64} {u : Nat → Int32} {v : Nat → Int64} {w : Int64} (hV : q_V k s l x y u v) (hk : k < 512) {L : Nat} {xs : Nat → Int32} {i : Int32} (h1 : vp_in (i + Int32.ofInt 1) L) : lo_ok lc L xs 1962 i k (fm (s, l, x, y) (s, l, u, v) w) := by
  rcases q_O_byteOf (a := (xs (i + Int32.ofInt 1).toNatClampNeg)) hV hk with ⟨r, s', l', x', y', u', v', e1, e2, e3, e4⟩ | ⟨⟨r, u', v', e2, e3, e4⟩, e1⟩
  · have hr : mj_R ic_P 120 11031 (.ref 0 :: [.int (xs (i + Int32.ofInt 1).toNatClampNeg)]) (fm (s, l, x, y) (s, l, u, v) w) (some (.int r)) (fm (s', l', x', y') (s, l, u, v) w) := mj_R_le (by decide) (pm_X11_byteOf (fm_TC (s, l, u, v) w) _ s l x y _ e1)
    obtain ⟨n, S', i9, k9, r9, g1, g2, g3, g4, g5⟩ := aw_byteOf _ r rfl rfl hr
    have hw := mw_ret (l := lc) (hh := ih_byteOf) ic_Good hMa ig_byteOf (by decide +kernel) (Nat.le_of_ble_eq_true rfl) g1 g2 g3 (mj_all2 (lo_ref (by decide)) (mj_all2 (mj_wv_int _) (mj_all2 (lo_ref (by decide)) lo_nil))) (fm_wM _ _ _)
    rw [g4, g5, fm_out] at hw
    have hm : mj_R ic_P 121 12111 (.ref 124 :: [.int (xs (i + Int32.ofInt 1).toNatClampNeg)]) (fm (s', l', x', y') (s, l, u, v) r.toInt64) (some (.int r)) (fm (s', l', x', y') (s', l', u', v') r.toInt64) := mj_R_le (by decide) (pm_X12_byteOf (fm_TR (s', l', x', y') r.toInt64) _ s l u v _ e2)
    have ht : mj_R ic_P 121 12003 (.ref 124 :: []) (fm (s', l', x', y') (s', l', u', v') r.toInt64) (some (.int 0)) (fm (s', l', x', y') (s', l', u', v') r.toInt64) := by
      have z := mj_R_le (d' := 121) (by decide) (pm_X12_thrown (fm_TR (s', l', x', y') r.toInt64) s' l' u' v' (u' 1, s', l', u', v') rfl)
      have z9 : pm_rI (u' 1) = some (.int 0) := by rw [e3]; rfl
      exact z9 ▸ z
    exact ⟨s', l', x', y', u', v', r.toInt64, [(6, .int r), (5, .int 0)], 1, lc_24 h1 hw (mj_ext_eq rfl) (fm_wM _ _ _) hm ht (fun _ => fm_o _ _ _) rfl rfl rfl rfl, Nat.le_refl _, e4, rfl⟩
  · have hq := mt_R_le (d' := 119) (by decide) (pt_X11_byteOf_t2 (fm_TC (s, l, u, v) w) _ s l x y _ e1)
    have hw := ax_byteOf_1 (l := lc) (d := 119) hl9 hMa (by decide) _ rfl (mj_all2 (lo_ref (by decide)) (mj_all2 (mj_wv_int _) (mj_all2 (lo_ref (by decide)) lo_nil))) (fm_wM _ _ _) hq
    have hm : mj_R ic_P 121 12111 (.ref 124 :: [.int (xs (i + Int32.ofInt 1).toNatClampNeg)]) (fm (s, l, x, y) (s, l, u, v) w) (some (.int r)) (fm (s, l, x, y) (s, l, u', v') w) := mj_R_le (by decide) (pm_X12_byteOf (fm_TR (s, l, x, y) w) _ s l u v _ e2)
    have ht : mj_R ic_P 121 12003 (.ref 124 :: []) (fm (s, l, x, y) (s, l, u', v') w) (some (.int (Int32.ofInt 1))) (fm (s, l, x, y) (s, l, u', v') w) := by
      have z := mj_R_le (d' := 121) (by decide) (pm_X12_thrown (fm_TR (s, l, x, y) w) s l u' v' (u' 1, s, l, u', v') rfl)
      have z9 : pm_rI (u' 1) = some (.int (Int32.ofInt 1)) := by rw [e3]; rfl
      exact z9 ▸ z
    exact ⟨s, l, x, y, u', v', w, [(6, .int r), (5, .int (Int32.ofInt 1))], 1, lc_24 h1 hw mj_ext_rf (fm_wM _ _ _) hm ht (fun h => absurd h (by decide)) rfl rfl rfl rfl, Nat.le_refl _, e4, rfl⟩

set_option maxRecDepth 20000 in
theorem lo_25 {lc : Launch} (hl9 : lc.stackTraces = false) (hMa : mj_MaOk vwCl ic_ty mj_AW) {k : Nat} {s : Nat → Int32} {l : Nat → Int64} {x : Nat → Int32} {y : Nat → Int64} {u : Nat → Int32} {v : Nat → Int64} {w : Int64} (hV : q_V k s l x y u v) (hk : k < 512) {L : Nat} {xs : Nat → Int32} {i : Int32}  : lo_ok lc L xs 2018 i k (fm (s, l, x, y) (s, l, u, v) w) := by
  obtain ⟨r, s', l', x', y', u', v', e1, e2, e3, e4⟩ := q_O_drain  hV hk
  have hx : mj_R ic_P 121 11032 (.ref 0 :: []) (fm (s, l, x, y) (s, l, u, v) w) (some (.int r)) (fm (s', l', x', y') (s, l, u, v) w) := mj_R_le (by decide) (pm_X11_drain (fm_TC (s, l, u, v) w)  s l x y _ e1)
  have hm : mj_R ic_P 121 12112 (.ref 124 :: []) (fm (s', l', x', y') (s, l, u, v) w) (some (.int r)) (fm (s', l', x', y') (s', l', u', v') w) := mj_R_le (by decide) (pm_X12_drain (fm_TR (s', l', x', y') w)  s l u v _ e2)
  exact ⟨s', l', x', y', u', v', w, [], 0, lc_25  hx hm rfl rfl rfl rfl, Nat.zero_le _, e4, rfl⟩

set_option maxRecDepth 20000 in
theorem lo_26 {lc : Launch} (hl9 : lc.stackTraces = false) (hMa : mj_MaOk vwCl ic_ty mj_AW) {k : Nat} {s : Nat → Int32} {l : Nat → Int64} {x : Nat → Int32} {y : Nat → Int64} {u : Nat → Int32} {v : Nat → Int64} {w : Int64} (hV : q_V k s l x y u v) (hk : k < 512) {L : Nat} {xs : Nat → Int32} {i : Int32} (h1 : vp_in (i + Int32.ofInt 1) L) : lo_ok lc L xs 2031 i k (fm (s, l, x, y) (s, l, u, v) w) := by
  rcases q_O_about (a := (xs (i + Int32.ofInt 1).toNatClampNeg)) hV hk with ⟨r, s', l', x', y', u', v', e1, e2, e3, e4⟩ | ⟨⟨r, u', v', e2, e3, e4⟩, e1⟩
  · have hr : mj_R ic_P 120 11040 (.ref 0 :: [.int (xs (i + Int32.ofInt 1).toNatClampNeg)]) (fm (s, l, x, y) (s, l, u, v) w) (some (.long r)) (fm (s', l', x', y') (s, l, u, v) w) := mj_R_le (by decide) (pm_X11_about (fm_TC (s, l, u, v) w) _ s l x y _ e1)
    obtain ⟨n, S', i9, k9, r9, g1, g2, g3, g4, g5⟩ := aw_about _ r rfl rfl hr
    have hw := mw_ret (l := lc) (hh := ih_about) ic_Good hMa ig_about (by decide +kernel) (Nat.le_of_ble_eq_true rfl) g1 g2 g3 (mj_all2 (lo_ref (by decide)) (mj_all2 (mj_wv_int _) (mj_all2 (lo_ref (by decide)) lo_nil))) (fm_wM _ _ _)
    rw [g4, g5, fm_out] at hw
    have hm : mj_R ic_P 121 12113 (.ref 124 :: [.int (xs (i + Int32.ofInt 1).toNatClampNeg)]) (fm (s', l', x', y') (s, l, u, v) r) (some (.long r)) (fm (s', l', x', y') (s', l', u', v') r) := mj_R_le (by decide) (pm_X12_about (fm_TR (s', l', x', y') r) _ s l u v _ e2)
    have ht : mj_R ic_P 121 12003 (.ref 124 :: []) (fm (s', l', x', y') (s', l', u', v') r) (some (.int 0)) (fm (s', l', x', y') (s', l', u', v') r) := by
      have z := mj_R_le (d' := 121) (by decide) (pm_X12_thrown (fm_TR (s', l', x', y') r) s' l' u' v' (u' 1, s', l', u', v') rfl)
      have z9 : pm_rI (u' 1) = some (.int 0) := by rw [e3]; rfl
      exact z9 ▸ z
    exact ⟨s', l', x', y', u', v', r, [(6, .long r), (5, .int 0)], 1, lc_26 h1 hw (mj_ext_eq rfl) (fm_wM _ _ _) hm ht (fun _ => fm_o _ _ _) rfl rfl rfl rfl, Nat.le_refl _, e4, rfl⟩
  · have hq := mt_R_le (d' := 119) (by decide) (pt_X11_about_t2 (fm_TC (s, l, u, v) w) _ s l x y _ e1)
    have hw := ax_about_1 (l := lc) (d := 119) hl9 hMa (by decide) _ rfl (mj_all2 (lo_ref (by decide)) (mj_all2 (mj_wv_int _) (mj_all2 (lo_ref (by decide)) lo_nil))) (fm_wM _ _ _) hq
    have hm : mj_R ic_P 121 12113 (.ref 124 :: [.int (xs (i + Int32.ofInt 1).toNatClampNeg)]) (fm (s, l, x, y) (s, l, u, v) w) (some (.long r)) (fm (s, l, x, y) (s, l, u', v') w) := mj_R_le (by decide) (pm_X12_about (fm_TR (s, l, x, y) w) _ s l u v _ e2)
    have ht : mj_R ic_P 121 12003 (.ref 124 :: []) (fm (s, l, x, y) (s, l, u', v') w) (some (.int (Int32.ofInt 1))) (fm (s, l, x, y) (s, l, u', v') w) := by
      have z := mj_R_le (d' := 121) (by decide) (pm_X12_thrown (fm_TR (s, l, x, y) w) s l u' v' (u' 1, s, l, u', v') rfl)
      have z9 : pm_rI (u' 1) = some (.int (Int32.ofInt 1)) := by rw [e3]; rfl
      exact z9 ▸ z
    exact ⟨s, l, x, y, u', v', w, [(6, .long r), (5, .int (Int32.ofInt 1))], 1, lc_26 h1 hw mj_ext_rf (fm_wM _ _ _) hm ht (fun h => absurd h (by decide)) rfl rfl rfl rfl, Nat.le_refl _, e4, rfl⟩

set_option maxRecDepth 20000 in
theorem lo_27 {lc : Launch} (hl9 : lc.stackTraces = false) (hMa : mj_MaOk vwCl ic_ty mj_AW) {k : Nat} {s : Nat → Int32} {l : Nat → Int64} {x : Nat → Int32} {y : Nat → Int64} {u : Nat → Int32} {v : Nat → Int64} {w : Int64} (hV : q_V k s l x y u v) (hk : k < 512) {L : Nat} {xs : Nat → Int32} {i : Int32} (h1 : vp_in (i + Int32.ofInt 1) L) (h2 : vp_in (i + Int32.ofInt 2) L) : lo_ok lc L xs 2086 i k (fm (s, l, x, y) (s, l, u, v) w) := by
  rcases q_O_channel (a := (xs (i + Int32.ofInt 1).toNatClampNeg)) (b := (xs (i + Int32.ofInt 2).toNatClampNeg)) hV hk with ⟨r, s', l', x', y', u', v', e1, e2, e3, e4⟩ | ⟨⟨r, u', v', e2, e3, e4⟩, e1⟩
  · have hr : mj_R ic_P 120 11041 (.ref 0 :: [.int (xs (i + Int32.ofInt 1).toNatClampNeg), .int (xs (i + Int32.ofInt 2).toNatClampNeg)]) (fm (s, l, x, y) (s, l, u, v) w) (some (.int r)) (fm (s', l', x', y') (s, l, u, v) w) := mj_R_le (by decide) (pm_X11_channel (fm_TC (s, l, u, v) w) _ _ s l x y _ e1)
    obtain ⟨n, S', i9, k9, r9, g1, g2, g3, g4, g5⟩ := aw_channel _ _ r rfl rfl hr
    have hw := mw_ret (l := lc) (hh := ih_channel) ic_Good hMa ig_channel (by decide +kernel) (Nat.le_of_ble_eq_true rfl) g1 g2 g3 (mj_all2 (lo_ref (by decide)) (mj_all2 (mj_wv_int _) (mj_all2 (mj_wv_int _) (mj_all2 (lo_ref (by decide)) lo_nil)))) (fm_wM _ _ _)
    rw [g4, g5, fm_out] at hw
    have hm : mj_R ic_P 121 12118 (.ref 124 :: [.int (xs (i + Int32.ofInt 1).toNatClampNeg), .int (xs (i + Int32.ofInt 2).toNatClampNeg)]) (fm (s', l', x', y') (s, l, u, v) r.toInt64) (some (.int r)) (fm (s', l', x', y') (s', l', u', v') r.toInt64) := mj_R_le (by decide) (pm_X12_channel (fm_TR (s', l', x', y') r.toInt64) _ _ s l u v _ e2)
    have ht : mj_R ic_P 121 12003 (.ref 124 :: []) (fm (s', l', x', y') (s', l', u', v') r.toInt64) (some (.int 0)) (fm (s', l', x', y') (s', l', u', v') r.toInt64) := by
      have z := mj_R_le (d' := 121) (by decide) (pm_X12_thrown (fm_TR (s', l', x', y') r.toInt64) s' l' u' v' (u' 1, s', l', u', v') rfl)
      have z9 : pm_rI (u' 1) = some (.int 0) := by rw [e3]; rfl
      exact z9 ▸ z
    exact ⟨s', l', x', y', u', v', r.toInt64, [(6, .int r), (5, .int 0)], 1, lc_27 h1 h2 hw (mj_ext_eq rfl) (fm_wM _ _ _) hm ht (fun _ => fm_o _ _ _) rfl rfl rfl rfl, Nat.le_refl _, e4, rfl⟩
  · have hq := mt_R_le (d' := 119) (by decide) (pt_X11_channel_t2 (fm_TC (s, l, u, v) w) _ _ s l x y _ e1)
    have hw := ax_channel_1 (l := lc) (d := 119) hl9 hMa (by decide) _ _ rfl (mj_all2 (lo_ref (by decide)) (mj_all2 (mj_wv_int _) (mj_all2 (mj_wv_int _) (mj_all2 (lo_ref (by decide)) lo_nil)))) (fm_wM _ _ _) hq
    have hm : mj_R ic_P 121 12118 (.ref 124 :: [.int (xs (i + Int32.ofInt 1).toNatClampNeg), .int (xs (i + Int32.ofInt 2).toNatClampNeg)]) (fm (s, l, x, y) (s, l, u, v) w) (some (.int r)) (fm (s, l, x, y) (s, l, u', v') w) := mj_R_le (by decide) (pm_X12_channel (fm_TR (s, l, x, y) w) _ _ s l u v _ e2)
    have ht : mj_R ic_P 121 12003 (.ref 124 :: []) (fm (s, l, x, y) (s, l, u', v') w) (some (.int (Int32.ofInt 1))) (fm (s, l, x, y) (s, l, u', v') w) := by
      have z := mj_R_le (d' := 121) (by decide) (pm_X12_thrown (fm_TR (s, l, x, y) w) s l u' v' (u' 1, s, l, u', v') rfl)
      have z9 : pm_rI (u' 1) = some (.int (Int32.ofInt 1)) := by rw [e3]; rfl
      exact z9 ▸ z
    exact ⟨s, l, x, y, u', v', w, [(6, .int r), (5, .int (Int32.ofInt 1))], 1, lc_27 h1 h2 hw mj_ext_rf (fm_wM _ _ _) hm ht (fun h => absurd h (by decide)) rfl rfl rfl rfl, Nat.le_refl _, e4, rfl⟩

set_option maxRecDepth 20000 in
theorem lo_28 {lc : Launch} (hl9 : lc.stackTraces = false) (hMa : mj_MaOk vwCl ic_ty mj_AW) {k : Nat} {s : Nat → Int32} {l : Nat → Int64} {x : Nat → Int32} {y : Nat → Int64} {u : Nat → Int32} {v : Nat → Int64} {w : Int64} (hV : q_V k s l x y u v) (hk : k < 512) {L : Nat} {xs : Nat → Int32} {i : Int32} (h1 : vp_in (i + Int32.ofInt 1) L) (h2 : vp_in (i + Int32.ofInt 2) L) : lo_ok lc L xs 2154 i k (fm (s, l, x, y) (s, l, u, v) w) := by
  rcases q_O_cylinder (a := (xs (i + Int32.ofInt 1).toNatClampNeg)) (b := (xs (i + Int32.ofInt 2).toNatClampNeg)) hV hk with ⟨r, s', l', x', y', u', v', e1, e2, e3, e4⟩ | ⟨⟨r, u', v', e2, e3, e4⟩, e1⟩
  · have hr : mj_R ic_P 120 11042 (.ref 0 :: [.int (xs (i + Int32.ofInt 1).toNatClampNeg), .int (xs (i + Int32.ofInt 2).toNatClampNeg)]) (fm (s, l, x, y) (s, l, u, v) w) (some (.int r)) (fm (s', l', x', y') (s, l, u, v) w) := mj_R_le (by decide) (pm_X11_cylinder (fm_TC (s, l, u, v) w) _ _ s l x y _ e1)
    obtain ⟨n, S', i9, k9, r9, g1, g2, g3, g4, g5⟩ := aw_cylinder _ _ r rfl rfl hr
    have hw := mw_ret (l := lc) (hh := ih_cylinder) ic_Good hMa ig_cylinder (by decide +kernel) (Nat.le_of_ble_eq_true rfl) g1 g2 g3 (mj_all2 (lo_ref (by decide)) (mj_all2 (mj_wv_int _) (mj_all2 (mj_wv_int _) (mj_all2 (lo_ref (by decide)) lo_nil)))) (fm_wM _ _ _)
    rw [g4, g5, fm_out] at hw
    have hm : mj_R ic_P 121 12119 (.ref 124 :: [.int (xs (i + Int32.ofInt 1).toNatClampNeg), .int (xs (i + Int32.ofInt 2).toNatClampNeg)]) (fm (s', l', x', y') (s, l, u, v) r.toInt64) (some (.int r)) (fm (s', l', x', y') (s', l', u', v') r.toInt64) := mj_R_le (by decide) (pm_X12_cylinder (fm_TR (s', l', x', y') r.toInt64) _ _ s l u v _ e2)
    have ht : mj_R ic_P 121 12003 (.ref 124 :: []) (fm (s', l', x', y') (s', l', u', v') r.toInt64) (some (.int 0)) (fm (s', l', x', y') (s', l', u', v') r.toInt64) := by
      have z := mj_R_le (d' := 121) (by decide) (pm_X12_thrown (fm_TR (s', l', x', y') r.toInt64) s' l' u' v' (u' 1, s', l', u', v') rfl)
      have z9 : pm_rI (u' 1) = some (.int 0) := by rw [e3]; rfl
      exact z9 ▸ z
    exact ⟨s', l', x', y', u', v', r.toInt64, [(6, .int r), (5, .int 0)], 1, lc_28 h1 h2 hw (mj_ext_eq rfl) (fm_wM _ _ _) hm ht (fun _ => fm_o _ _ _) rfl rfl rfl rfl, Nat.le_refl _, e4, rfl⟩
  · have hq := mt_R_le (d' := 119) (by decide) (pt_X11_cylinder_t2 (fm_TC (s, l, u, v) w) _ _ s l x y _ e1)
    have hw := ax_cylinder_1 (l := lc) (d := 119) hl9 hMa (by decide) _ _ rfl (mj_all2 (lo_ref (by decide)) (mj_all2 (mj_wv_int _) (mj_all2 (mj_wv_int _) (mj_all2 (lo_ref (by decide)) lo_nil)))) (fm_wM _ _ _) hq
    have hm : mj_R ic_P 121 12119 (.ref 124 :: [.int (xs (i + Int32.ofInt 1).toNatClampNeg), .int (xs (i + Int32.ofInt 2).toNatClampNeg)]) (fm (s, l, x, y) (s, l, u, v) w) (some (.int r)) (fm (s, l, x, y) (s, l, u', v') w) := mj_R_le (by decide) (pm_X12_cylinder (fm_TR (s, l, x, y) w) _ _ s l u v _ e2)
    have ht : mj_R ic_P 121 12003 (.ref 124 :: []) (fm (s, l, x, y) (s, l, u', v') w) (some (.int (Int32.ofInt 1))) (fm (s, l, x, y) (s, l, u', v') w) := by
      have z := mj_R_le (d' := 121) (by decide) (pm_X12_thrown (fm_TR (s, l, x, y) w) s l u' v' (u' 1, s, l, u', v') rfl)
      have z9 : pm_rI (u' 1) = some (.int (Int32.ofInt 1)) := by rw [e3]; rfl
      exact z9 ▸ z
    exact ⟨s, l, x, y, u', v', w, [(6, .int r), (5, .int (Int32.ofInt 1))], 1, lc_28 h1 h2 hw mj_ext_rf (fm_wM _ _ _) hm ht (fun h => absurd h (by decide)) rfl rfl rfl rfl, Nat.le_refl _, e4, rfl⟩

set_option maxRecDepth 20000 in
theorem lo_29 {lc : Launch} (hl9 : lc.stackTraces = false) (hMa : mj_MaOk vwCl ic_ty mj_AW) {k : Nat} {s : Nat → Int32} {l : Nat → Int64} {x : Nat → Int32} {y : Nat → Int64} {u : Nat → Int32} {v : Nat → Int64} {w : Int64} (hV : q_V k s l x y u v) (hk : k < 512) {L : Nat} {xs : Nat → Int32} {i : Int32} (h1 : vp_in (i + Int32.ofInt 1) L) (h2 : vp_in (i + Int32.ofInt 2) L) : lo_ok lc L xs 2222 i k (fm (s, l, x, y) (s, l, u, v) w) := by
  rcases q_O_edge (a := (xs (i + Int32.ofInt 1).toNatClampNeg)) (b := (xs (i + Int32.ofInt 2).toNatClampNeg)) hV hk with ⟨r, s', l', x', y', u', v', e1, e2, e3, e4⟩ | ⟨⟨r, u', v', e2, e3, e4⟩, e1⟩
  · have hr : mj_R ic_P 120 11043 (.ref 0 :: [.int (xs (i + Int32.ofInt 1).toNatClampNeg), .int (xs (i + Int32.ofInt 2).toNatClampNeg)]) (fm (s, l, x, y) (s, l, u, v) w) (some (.long r)) (fm (s', l', x', y') (s, l, u, v) w) := mj_R_le (by decide) (pm_X11_edge (fm_TC (s, l, u, v) w) _ _ s l x y _ e1)
    obtain ⟨n, S', i9, k9, r9, g1, g2, g3, g4, g5⟩ := aw_edge _ _ r rfl rfl hr
    have hw := mw_ret (l := lc) (hh := ih_edge) ic_Good hMa ig_edge (by decide +kernel) (Nat.le_of_ble_eq_true rfl) g1 g2 g3 (mj_all2 (lo_ref (by decide)) (mj_all2 (mj_wv_int _) (mj_all2 (mj_wv_int _) (mj_all2 (lo_ref (by decide)) lo_nil)))) (fm_wM _ _ _)
    rw [g4, g5, fm_out] at hw
    have hm : mj_R ic_P 121 12120 (.ref 124 :: [.int (xs (i + Int32.ofInt 1).toNatClampNeg), .int (xs (i + Int32.ofInt 2).toNatClampNeg)]) (fm (s', l', x', y') (s, l, u, v) r) (some (.long r)) (fm (s', l', x', y') (s', l', u', v') r) := mj_R_le (by decide) (pm_X12_edge (fm_TR (s', l', x', y') r) _ _ s l u v _ e2)
    have ht : mj_R ic_P 121 12003 (.ref 124 :: []) (fm (s', l', x', y') (s', l', u', v') r) (some (.int 0)) (fm (s', l', x', y') (s', l', u', v') r) := by
      have z := mj_R_le (d' := 121) (by decide) (pm_X12_thrown (fm_TR (s', l', x', y') r) s' l' u' v' (u' 1, s', l', u', v') rfl)
      have z9 : pm_rI (u' 1) = some (.int 0) := by rw [e3]; rfl
      exact z9 ▸ z
    exact ⟨s', l', x', y', u', v', r, [(6, .long r), (5, .int 0)], 1, lc_29 h1 h2 hw (mj_ext_eq rfl) (fm_wM _ _ _) hm ht (fun _ => fm_o _ _ _) rfl rfl rfl rfl, Nat.le_refl _, e4, rfl⟩
  · have hq := mt_R_le (d' := 119) (by decide) (pt_X11_edge_t2 (fm_TC (s, l, u, v) w) _ _ s l x y _ e1)
    have hw := ax_edge_1 (l := lc) (d := 119) hl9 hMa (by decide) _ _ rfl (mj_all2 (lo_ref (by decide)) (mj_all2 (mj_wv_int _) (mj_all2 (mj_wv_int _) (mj_all2 (lo_ref (by decide)) lo_nil)))) (fm_wM _ _ _) hq
    have hm : mj_R ic_P 121 12120 (.ref 124 :: [.int (xs (i + Int32.ofInt 1).toNatClampNeg), .int (xs (i + Int32.ofInt 2).toNatClampNeg)]) (fm (s, l, x, y) (s, l, u, v) w) (some (.long r)) (fm (s, l, x, y) (s, l, u', v') w) := mj_R_le (by decide) (pm_X12_edge (fm_TR (s, l, x, y) w) _ _ s l u v _ e2)
    have ht : mj_R ic_P 121 12003 (.ref 124 :: []) (fm (s, l, x, y) (s, l, u', v') w) (some (.int (Int32.ofInt 1))) (fm (s, l, x, y) (s, l, u', v') w) := by
      have z := mj_R_le (d' := 121) (by decide) (pm_X12_thrown (fm_TR (s, l, x, y) w) s l u' v' (u' 1, s, l, u', v') rfl)
      have z9 : pm_rI (u' 1) = some (.int (Int32.ofInt 1)) := by rw [e3]; rfl
      exact z9 ▸ z
    exact ⟨s, l, x, y, u', v', w, [(6, .long r), (5, .int (Int32.ofInt 1))], 1, lc_29 h1 h2 hw mj_ext_rf (fm_wM _ _ _) hm ht (fun h => absurd h (by decide)) rfl rfl rfl rfl, Nat.le_refl _, e4, rfl⟩

set_option maxRecDepth 20000 in
theorem lo_30 {lc : Launch} (hl9 : lc.stackTraces = false) (hMa : mj_MaOk vwCl ic_ty mj_AW) {k : Nat} {s : Nat → Int32} {l : Nat → Int64} {x : Nat → Int32} {y : Nat → Int64} {u : Nat → Int32} {v : Nat → Int64} {w : Int64} (hV : q_V k s l x y u v) (hk : k < 512) {L : Nat} {xs : Nat → Int32} {i : Int32} (h1 : vp_in (i + Int32.ofInt 1) L) (h2 : vp_in (i + Int32.ofInt 2) L) : lo_ok lc L xs 2289 i k (fm (s, l, x, y) (s, l, u, v) w) := by
  rcases q_O_trouble (a := (xs (i + Int32.ofInt 1).toNatClampNeg)) (b := (xs (i + Int32.ofInt 2).toNatClampNeg)) hV hk with ⟨r, s', l', x', y', u', v', e1, e2, e3, e4⟩ | ⟨⟨r, u', v', e2, e3, e4⟩, e1⟩
  · have hr : mj_R ic_P 120 11044 (.ref 0 :: [.int (xs (i + Int32.ofInt 1).toNatClampNeg), .int (xs (i + Int32.ofInt 2).toNatClampNeg)]) (fm (s, l, x, y) (s, l, u, v) w) (some (.int r)) (fm (s', l', x', y') (s, l, u, v) w) := mj_R_le (by decide) (pm_X11_trouble (fm_TC (s, l, u, v) w) _ _ s l x y _ e1)
    obtain ⟨n, S', i9, k9, r9, g1, g2, g3, g4, g5⟩ := aw_trouble _ _ r rfl rfl hr
    have hw := mw_ret (l := lc) (hh := ih_trouble) ic_Good hMa ig_trouble (by decide +kernel) (Nat.le_of_ble_eq_true rfl) g1 g2 g3 (mj_all2 (lo_ref (by decide)) (mj_all2 (mj_wv_int _) (mj_all2 (mj_wv_int _) (mj_all2 (lo_ref (by decide)) lo_nil)))) (fm_wM _ _ _)
    rw [g4, g5, fm_out] at hw
    have hm : mj_R ic_P 121 12121 (.ref 124 :: [.int (xs (i + Int32.ofInt 1).toNatClampNeg), .int (xs (i + Int32.ofInt 2).toNatClampNeg)]) (fm (s', l', x', y') (s, l, u, v) r.toInt64) (some (.int r)) (fm (s', l', x', y') (s', l', u', v') r.toInt64) := mj_R_le (by decide) (pm_X12_trouble (fm_TR (s', l', x', y') r.toInt64) _ _ s l u v _ e2)
    have ht : mj_R ic_P 121 12003 (.ref 124 :: []) (fm (s', l', x', y') (s', l', u', v') r.toInt64) (some (.int 0)) (fm (s', l', x', y') (s', l', u', v') r.toInt64) := by
      have z := mj_R_le (d' := 121) (by decide) (pm_X12_thrown (fm_TR (s', l', x', y') r.toInt64) s' l' u' v' (u' 1, s', l', u', v') rfl)
      have z9 : pm_rI (u' 1) = some (.int 0) := by rw [e3]; rfl
      exact z9 ▸ z
    exact ⟨s', l', x', y', u', v', r.toInt64, [(6, .int r), (5, .int 0)], 1, lc_30 h1 h2 hw (mj_ext_eq rfl) (fm_wM _ _ _) hm ht (fun _ => fm_o _ _ _) rfl rfl rfl rfl, Nat.le_refl _, e4, rfl⟩
  · have hq := mt_R_le (d' := 119) (by decide) (pt_X11_trouble_t2 (fm_TC (s, l, u, v) w) _ _ s l x y _ e1)
    have hw := ax_trouble_1 (l := lc) (d := 119) hl9 hMa (by decide) _ _ rfl (mj_all2 (lo_ref (by decide)) (mj_all2 (mj_wv_int _) (mj_all2 (mj_wv_int _) (mj_all2 (lo_ref (by decide)) lo_nil)))) (fm_wM _ _ _) hq
    have hm : mj_R ic_P 121 12121 (.ref 124 :: [.int (xs (i + Int32.ofInt 1).toNatClampNeg), .int (xs (i + Int32.ofInt 2).toNatClampNeg)]) (fm (s, l, x, y) (s, l, u, v) w) (some (.int r)) (fm (s, l, x, y) (s, l, u', v') w) := mj_R_le (by decide) (pm_X12_trouble (fm_TR (s, l, x, y) w) _ _ s l u v _ e2)
    have ht : mj_R ic_P 121 12003 (.ref 124 :: []) (fm (s, l, x, y) (s, l, u', v') w) (some (.int (Int32.ofInt 1))) (fm (s, l, x, y) (s, l, u', v') w) := by
      have z := mj_R_le (d' := 121) (by decide) (pm_X12_thrown (fm_TR (s, l, x, y) w) s l u' v' (u' 1, s, l, u', v') rfl)
      have z9 : pm_rI (u' 1) = some (.int (Int32.ofInt 1)) := by rw [e3]; rfl
      exact z9 ▸ z
    exact ⟨s, l, x, y, u', v', w, [(6, .int r), (5, .int (Int32.ofInt 1))], 1, lc_30 h1 h2 hw mj_ext_rf (fm_wM _ _ _) hm ht (fun h => absurd h (by decide)) rfl rfl rfl rfl, Nat.le_refl _, e4, rfl⟩

set_option maxRecDepth 20000 in
theorem lo_31 {lc : Launch} (hl9 : lc.stackTraces = false) (hMa : mj_MaOk vwCl ic_ty mj_AW) {k : Nat} {s : Nat → Int32} {l : Nat → Int64} {x : Nat → Int32} {y : Nat → Int64} {u : Nat → Int32} {v : Nat → Int64} {w : Int64} (hV : q_V k s l x y u v) (hk : k < 512) {L : Nat} {xs : Nat → Int32} {i : Int32} (h1 : vp_in (i + Int32.ofInt 1) L) : lo_ok lc L xs 2357 i k (fm (s, l, x, y) (s, l, u, v) w) := by
  rcases q_O_frame (a := (xs (i + Int32.ofInt 1).toNatClampNeg)) hV hk with ⟨r, s', l', x', y', u', v', e1, e2, e3, e4⟩ | ⟨⟨r, u', v', e2, e3, e4⟩, e1⟩
  · have hr : mj_R ic_P 120 11045 (.ref 0 :: [.int (xs (i + Int32.ofInt 1).toNatClampNeg)]) (fm (s, l, x, y) (s, l, u, v) w) (some (.int r)) (fm (s', l', x', y') (s, l, u, v) w) := mj_R_le (by decide) (pm_X11_frame (fm_TC (s, l, u, v) w) _ s l x y _ e1)
    obtain ⟨n, S', i9, k9, r9, g1, g2, g3, g4, g5⟩ := aw_frame _ r rfl rfl hr
    have hw := mw_ret (l := lc) (hh := ih_frame) ic_Good hMa ig_frame (by decide +kernel) (Nat.le_of_ble_eq_true rfl) g1 g2 g3 (mj_all2 (lo_ref (by decide)) (mj_all2 (mj_wv_int _) (mj_all2 (lo_ref (by decide)) lo_nil))) (fm_wM _ _ _)
    rw [g4, g5, fm_out] at hw
    have hm : mj_R ic_P 121 12122 (.ref 124 :: [.int (xs (i + Int32.ofInt 1).toNatClampNeg)]) (fm (s', l', x', y') (s, l, u, v) r.toInt64) (some (.int r)) (fm (s', l', x', y') (s', l', u', v') r.toInt64) := mj_R_le (by decide) (pm_X12_frame (fm_TR (s', l', x', y') r.toInt64) _ s l u v _ e2)
    have ht : mj_R ic_P 121 12003 (.ref 124 :: []) (fm (s', l', x', y') (s', l', u', v') r.toInt64) (some (.int 0)) (fm (s', l', x', y') (s', l', u', v') r.toInt64) := by
      have z := mj_R_le (d' := 121) (by decide) (pm_X12_thrown (fm_TR (s', l', x', y') r.toInt64) s' l' u' v' (u' 1, s', l', u', v') rfl)
      have z9 : pm_rI (u' 1) = some (.int 0) := by rw [e3]; rfl
      exact z9 ▸ z
    exact ⟨s', l', x', y', u', v', r.toInt64, [(6, .int r), (5, .int 0)], 1, lc_31 h1 hw (mj_ext_eq rfl) (fm_wM _ _ _) hm ht (fun _ => fm_o _ _ _) rfl rfl rfl rfl, Nat.le_refl _, e4, rfl⟩
  · have hq := mt_R_le (d' := 119) (by decide) (pt_X11_frame_t2 (fm_TC (s, l, u, v) w) _ s l x y _ e1)
    have hw := ax_frame_1 (l := lc) (d := 119) hl9 hMa (by decide) _ rfl (mj_all2 (lo_ref (by decide)) (mj_all2 (mj_wv_int _) (mj_all2 (lo_ref (by decide)) lo_nil))) (fm_wM _ _ _) hq
    have hm : mj_R ic_P 121 12122 (.ref 124 :: [.int (xs (i + Int32.ofInt 1).toNatClampNeg)]) (fm (s, l, x, y) (s, l, u, v) w) (some (.int r)) (fm (s, l, x, y) (s, l, u', v') w) := mj_R_le (by decide) (pm_X12_frame (fm_TR (s, l, x, y) w) _ s l u v _ e2)
    have ht : mj_R ic_P 121 12003 (.ref 124 :: []) (fm (s, l, x, y) (s, l, u', v') w) (some (.int (Int32.ofInt 1))) (fm (s, l, x, y) (s, l, u', v') w) := by
      have z := mj_R_le (d' := 121) (by decide) (pm_X12_thrown (fm_TR (s, l, x, y) w) s l u' v' (u' 1, s, l, u', v') rfl)
      have z9 : pm_rI (u' 1) = some (.int (Int32.ofInt 1)) := by rw [e3]; rfl
      exact z9 ▸ z
    exact ⟨s, l, x, y, u', v', w, [(6, .int r), (5, .int (Int32.ofInt 1))], 1, lc_31 h1 hw mj_ext_rf (fm_wM _ _ _) hm ht (fun h => absurd h (by decide)) rfl rfl rfl rfl, Nat.le_refl _, e4, rfl⟩

set_option maxRecDepth 20000 in
theorem lo_32 {lc : Launch} (hl9 : lc.stackTraces = false) (hMa : mj_MaOk vwCl ic_ty mj_AW) {k : Nat} {s : Nat → Int32} {l : Nat → Int64} {x : Nat → Int32} {y : Nat → Int64} {u : Nat → Int32} {v : Nat → Int64} {w : Int64} (hV : q_V k s l x y u v) (hk : k < 512) {L : Nat} {xs : Nat → Int32} {i : Int32} (h1 : vp_in (i + Int32.ofInt 1) L) (h2 : vp_in (i + Int32.ofInt 2) L) : lo_ok lc L xs 2413 i k (fm (s, l, x, y) (s, l, u, v) w) := by
  rcases q_O_car (a := (xs (i + Int32.ofInt 1).toNatClampNeg)) (b := (xs (i + Int32.ofInt 2).toNatClampNeg)) hV hk with ⟨r, s', l', x', y', u', v', e1, e2, e3, e4⟩ | ⟨⟨r, u', v', e2, e3, e4⟩, e1⟩ | ⟨⟨r, u', v', e2, e3, e4⟩, e1⟩
  · have hr : mj_R ic_P 120 11012 (.ref 0 :: [.int (xs (i + Int32.ofInt 1).toNatClampNeg), .int (xs (i + Int32.ofInt 2).toNatClampNeg)]) (fm (s, l, x, y) (s, l, u, v) w) (some (.int r)) (fm (s', l', x', y') (s, l, u, v) w) := mj_R_le (by decide) (pm_X11_car (fm_TC (s, l, u, v) w) _ _ s l x y _ e1)
    obtain ⟨n, S', i9, k9, r9, g1, g2, g3, g4, g5⟩ := aw_car _ _ r rfl rfl hr
    have hw := mw_ret (l := lc) (hh := ih_car) ic_Good hMa ig_car (by decide +kernel) (Nat.le_of_ble_eq_true rfl) g1 g2 g3 (mj_all2 (lo_ref (by decide)) (mj_all2 (mj_wv_int _) (mj_all2 (mj_wv_int _) (mj_all2 (lo_ref (by decide)) lo_nil)))) (fm_wM _ _ _)
    rw [g4, g5, fm_out] at hw
    have hm : mj_R ic_P 121 12129 (.ref 124 :: [.int (xs (i + Int32.ofInt 1).toNatClampNeg), .int (xs (i + Int32.ofInt 2).toNatClampNeg)]) (fm (s', l', x', y') (s, l, u, v) r.toInt64) (some (.int r)) (fm (s', l', x', y') (s', l', u', v') r.toInt64) := mj_R_le (by decide) (pm_X12_car (fm_TR (s', l', x', y') r.toInt64) _ _ s l u v _ e2)
    have ht : mj_R ic_P 121 12003 (.ref 124 :: []) (fm (s', l', x', y') (s', l', u', v') r.toInt64) (some (.int 0)) (fm (s', l', x', y') (s', l', u', v') r.toInt64) := by
      have z := mj_R_le (d' := 121) (by decide) (pm_X12_thrown (fm_TR (s', l', x', y') r.toInt64) s' l' u' v' (u' 1, s', l', u', v') rfl)
      have z9 : pm_rI (u' 1) = some (.int 0) := by rw [e3]; rfl
      exact z9 ▸ z
    exact ⟨s', l', x', y', u', v', r.toInt64, [(6, .int r), (5, .int 0)], 1, lc_32 h1 h2 hw (mj_ext_eq rfl) (fm_wM _ _ _) hm ht (fun _ => fm_o _ _ _) rfl rfl rfl rfl, Nat.le_refl _, e4, rfl⟩
  · have hq := mt_R_le (d' := 119) (by decide) (pt_X11_car_t2 (fm_TC (s, l, u, v) w) _ _ s l x y _ e1)
    have hw := ax_car_1 (l := lc) (d := 119) hl9 hMa (by decide) _ _ rfl (mj_all2 (lo_ref (by decide)) (mj_all2 (mj_wv_int _) (mj_all2 (mj_wv_int _) (mj_all2 (lo_ref (by decide)) lo_nil)))) (fm_wM _ _ _) hq
    have hm : mj_R ic_P 121 12129 (.ref 124 :: [.int (xs (i + Int32.ofInt 1).toNatClampNeg), .int (xs (i + Int32.ofInt 2).toNatClampNeg)]) (fm (s, l, x, y) (s, l, u, v) w) (some (.int r)) (fm (s, l, x, y) (s, l, u', v') w) := mj_R_le (by decide) (pm_X12_car (fm_TR (s, l, x, y) w) _ _ s l u v _ e2)
    have ht : mj_R ic_P 121 12003 (.ref 124 :: []) (fm (s, l, x, y) (s, l, u', v') w) (some (.int (Int32.ofInt 1))) (fm (s, l, x, y) (s, l, u', v') w) := by
      have z := mj_R_le (d' := 121) (by decide) (pm_X12_thrown (fm_TR (s, l, x, y) w) s l u' v' (u' 1, s, l, u', v') rfl)
      have z9 : pm_rI (u' 1) = some (.int (Int32.ofInt 1)) := by rw [e3]; rfl
      exact z9 ▸ z
    exact ⟨s, l, x, y, u', v', w, [(6, .int r), (5, .int (Int32.ofInt 1))], 1, lc_32 h1 h2 hw mj_ext_rf (fm_wM _ _ _) hm ht (fun h => absurd h (by decide)) rfl rfl rfl rfl, Nat.le_refl _, e4, rfl⟩
  · have hq := mt_R_le (d' := 119) (by decide) (pt_X11_car_t1 (fm_TC (s, l, u, v) w) _ _ s l x y _ e1)
    have hw := ax_car_2 (l := lc) (d := 119) hl9 hMa (by decide) _ _ rfl (mj_all2 (lo_ref (by decide)) (mj_all2 (mj_wv_int _) (mj_all2 (mj_wv_int _) (mj_all2 (lo_ref (by decide)) lo_nil)))) (fm_wM _ _ _) hq
    have hm : mj_R ic_P 121 12129 (.ref 124 :: [.int (xs (i + Int32.ofInt 1).toNatClampNeg), .int (xs (i + Int32.ofInt 2).toNatClampNeg)]) (fm (s, l, x, y) (s, l, u, v) w) (some (.int r)) (fm (s, l, x, y) (s, l, u', v') w) := mj_R_le (by decide) (pm_X12_car (fm_TR (s, l, x, y) w) _ _ s l u v _ e2)
    have ht : mj_R ic_P 121 12003 (.ref 124 :: []) (fm (s, l, x, y) (s, l, u', v') w) (some (.int (Int32.ofInt 2))) (fm (s, l, x, y) (s, l, u', v') w) := by
      have z := mj_R_le (d' := 121) (by decide) (pm_X12_thrown (fm_TR (s, l, x, y) w) s l u' v' (u' 1, s, l, u', v') rfl)
      have z9 : pm_rI (u' 1) = some (.int (Int32.ofInt 2)) := by rw [e3]; rfl
      exact z9 ▸ z
    exact ⟨s, l, x, y, u', v', w, [(6, .int r), (5, .int (Int32.ofInt 2))], 1, lc_32 h1 h2 hw mj_ext_rf (fm_wM _ _ _) hm ht (fun h => absurd h (by decide)) rfl rfl rfl rfl, Nat.le_refl _, e4, rfl⟩

set_option maxRecDepth 20000 in
theorem lo_33 {lc : Launch} (hl9 : lc.stackTraces = false) (hMa : mj_MaOk vwCl ic_ty mj_AW) {k : Nat} {s : Nat → Int32} {l : Nat → Int64} {x : Nat → Int32} {y : Nat → Int64} {u : Nat → Int32} {v : Nat → Int64} {w : Int64} (hV : q_V k s l x y u v) (hk : k < 512) {L : Nat} {xs : Nat → Int32} {i : Int32} (h1 : vp_in (i + Int32.ofInt 1) L) (h2 : vp_in (i + Int32.ofInt 2) L) : lo_ok lc L xs 2481 i k (fm (s, l, x, y) (s, l, u, v) w) := by
  rcases q_O_brake (a := (xs (i + Int32.ofInt 1).toNatClampNeg)) (b := (if (xs (i + Int32.ofInt 2).toNatClampNeg) = 0 then 0 else 1)) hV hk lo_b with ⟨r, s', l', x', y', u', v', e1, e2, e3, e4⟩ | ⟨⟨r, u', v', e2, e3, e4⟩, e1⟩
  · have hr : mj_R ic_P 120 11013 (.ref 0 :: [.int (xs (i + Int32.ofInt 1).toNatClampNeg), .int (if (xs (i + Int32.ofInt 2).toNatClampNeg) = 0 then 0 else 1)]) (fm (s, l, x, y) (s, l, u, v) w) (some (.int r)) (fm (s', l', x', y') (s, l, u, v) w) := mj_R_le (by decide) (pm_X11_brake (fm_TC (s, l, u, v) w) _ _ s l x y _ e1)
    obtain ⟨n, S', i9, k9, r9, g1, g2, g3, g4, g5⟩ := aw_brake _ _ r rfl rfl hr
    have hw := mw_ret (l := lc) (hh := ih_brake) ic_Good hMa ig_brake (by decide +kernel) (Nat.le_of_ble_eq_true rfl) g1 g2 g3 (mj_all2 (lo_ref (by decide)) (mj_all2 (mj_wv_int _) (mj_all2 (mj_wv_int _) (mj_all2 (lo_ref (by decide)) lo_nil)))) (fm_wM _ _ _)
    rw [g4, g5, fm_out] at hw
    have hm : mj_R ic_P 121 12130 (.ref 124 :: [.int (xs (i + Int32.ofInt 1).toNatClampNeg), .int (if (xs (i + Int32.ofInt 2).toNatClampNeg) = 0 then 0 else 1)]) (fm (s', l', x', y') (s, l, u, v) (if r = 0 then 0 else 1)) (some (.int r)) (fm (s', l', x', y') (s', l', u', v') (if r = 0 then 0 else 1)) := mj_R_le (by decide) (pm_X12_brake (fm_TR (s', l', x', y') (if r = 0 then 0 else 1)) _ _ s l u v _ e2)
    have ht : mj_R ic_P 121 12003 (.ref 124 :: []) (fm (s', l', x', y') (s', l', u', v') (if r = 0 then 0 else 1)) (some (.int 0)) (fm (s', l', x', y') (s', l', u', v') (if r = 0 then 0 else 1)) := by
      have z := mj_R_le (d' := 121) (by decide) (pm_X12_thrown (fm_TR (s', l', x', y') (if r = 0 then 0 else 1)) s' l' u' v' (u' 1, s', l', u', v') rfl)
      have z9 : pm_rI (u' 1) = some (.int 0) := by rw [e3]; rfl
      exact z9 ▸ z
    exact ⟨s', l', x', y', u', v', (if r = 0 then 0 else 1), [(6, .int r), (5, .int 0)], 1, lc_33 h1 h2 hw (mj_ext_eq rfl) (fm_wM _ _ _) hm ht (fun _ => fm_o _ _ _) rfl rfl rfl rfl, Nat.le_refl _, e4, rfl⟩
  · have hq := mt_R_le (d' := 119) (by decide) (pt_X11_brake_t2 (fm_TC (s, l, u, v) w) _ _ s l x y _ e1)
    have hw := ax_brake_1 (l := lc) (d := 119) hl9 hMa (by decide) _ _ rfl (mj_all2 (lo_ref (by decide)) (mj_all2 (mj_wv_int _) (mj_all2 (mj_wv_int _) (mj_all2 (lo_ref (by decide)) lo_nil)))) (fm_wM _ _ _) hq
    have hm : mj_R ic_P 121 12130 (.ref 124 :: [.int (xs (i + Int32.ofInt 1).toNatClampNeg), .int (if (xs (i + Int32.ofInt 2).toNatClampNeg) = 0 then 0 else 1)]) (fm (s, l, x, y) (s, l, u, v) w) (some (.int r)) (fm (s, l, x, y) (s, l, u', v') w) := mj_R_le (by decide) (pm_X12_brake (fm_TR (s, l, x, y) w) _ _ s l u v _ e2)
    have ht : mj_R ic_P 121 12003 (.ref 124 :: []) (fm (s, l, x, y) (s, l, u', v') w) (some (.int (Int32.ofInt 1))) (fm (s, l, x, y) (s, l, u', v') w) := by
      have z := mj_R_le (d' := 121) (by decide) (pm_X12_thrown (fm_TR (s, l, x, y) w) s l u' v' (u' 1, s, l, u', v') rfl)
      have z9 : pm_rI (u' 1) = some (.int (Int32.ofInt 1)) := by rw [e3]; rfl
      exact z9 ▸ z
    exact ⟨s, l, x, y, u', v', w, [(6, .int r), (5, .int (Int32.ofInt 1))], 1, lc_33 h1 h2 hw mj_ext_rf (fm_wM _ _ _) hm ht (fun h => absurd h (by decide)) rfl rfl rfl rfl, Nat.le_refl _, e4, rfl⟩

set_option maxRecDepth 20000 in
theorem lo_34 {lc : Launch} (hl9 : lc.stackTraces = false) (hMa : mj_MaOk vwCl ic_ty mj_AW) {k : Nat} {s : Nat → Int32} {l : Nat → Int64} {x : Nat → Int32} {y : Nat → Int64} {u : Nat → Int32} {v : Nat → Int64} {w : Int64} (hV : q_V k s l x y u v) (hk : k < 512) {L : Nat} {xs : Nat → Int32} {i : Int32} (h1 : vp_in (i + Int32.ofInt 1) L) : lo_ok lc L xs 2572 i k (fm (s, l, x, y) (s, l, u, v) w) := by
  rcases q_O_press (a := (xs (i + Int32.ofInt 1).toNatClampNeg)) hV hk with ⟨r, s', l', x', y', u', v', e1, e2, e3, e4⟩ | ⟨⟨r, u', v', e2, e3, e4⟩, e1⟩
  · have hr : mj_R ic_P 120 11014 (.ref 0 :: [.int (xs (i + Int32.ofInt 1).toNatClampNeg)]) (fm (s, l, x, y) (s, l, u, v) w) (some (.int r)) (fm (s', l', x', y') (s, l, u, v) w) := mj_R_le (by decide) (pm_X11_press (fm_TC (s, l, u, v) w) _ s l x y _ e1)
    obtain ⟨n, S', i9, k9, r9, g1, g2, g3, g4, g5⟩ := aw_press _ r rfl rfl hr
    have hw := mw_ret (l := lc) (hh := ih_press) ic_Good hMa ig_press (by decide +kernel) (Nat.le_of_ble_eq_true rfl) g1 g2 g3 (mj_all2 (lo_ref (by decide)) (mj_all2 (mj_wv_int _) (mj_all2 (lo_ref (by decide)) lo_nil))) (fm_wM _ _ _)
    rw [g4, g5, fm_out] at hw
    have hm : mj_R ic_P 121 12131 (.ref 124 :: [.int (xs (i + Int32.ofInt 1).toNatClampNeg)]) (fm (s', l', x', y') (s, l, u, v) r.toInt64) (some (.int r)) (fm (s', l', x', y') (s', l', u', v') r.toInt64) := mj_R_le (by decide) (pm_X12_press (fm_TR (s', l', x', y') r.toInt64) _ s l u v _ e2)
    have ht : mj_R ic_P 121 12003 (.ref 124 :: []) (fm (s', l', x', y') (s', l', u', v') r.toInt64) (some (.int 0)) (fm (s', l', x', y') (s', l', u', v') r.toInt64) := by
      have z := mj_R_le (d' := 121) (by decide) (pm_X12_thrown (fm_TR (s', l', x', y') r.toInt64) s' l' u' v' (u' 1, s', l', u', v') rfl)
      have z9 : pm_rI (u' 1) = some (.int 0) := by rw [e3]; rfl
      exact z9 ▸ z
    exact ⟨s', l', x', y', u', v', r.toInt64, [(6, .int r), (5, .int 0)], 1, lc_34 h1 hw (mj_ext_eq rfl) (fm_wM _ _ _) hm ht (fun _ => fm_o _ _ _) rfl rfl rfl rfl, Nat.le_refl _, e4, rfl⟩
  · have hq := mt_R_le (d' := 119) (by decide) (pt_X11_press_t2 (fm_TC (s, l, u, v) w) _ s l x y _ e1)
    have hw := ax_press_1 (l := lc) (d := 119) hl9 hMa (by decide) _ rfl (mj_all2 (lo_ref (by decide)) (mj_all2 (mj_wv_int _) (mj_all2 (lo_ref (by decide)) lo_nil))) (fm_wM _ _ _) hq
    have hm : mj_R ic_P 121 12131 (.ref 124 :: [.int (xs (i + Int32.ofInt 1).toNatClampNeg)]) (fm (s, l, x, y) (s, l, u, v) w) (some (.int r)) (fm (s, l, x, y) (s, l, u', v') w) := mj_R_le (by decide) (pm_X12_press (fm_TR (s, l, x, y) w) _ s l u v _ e2)
    have ht : mj_R ic_P 121 12003 (.ref 124 :: []) (fm (s, l, x, y) (s, l, u', v') w) (some (.int (Int32.ofInt 1))) (fm (s, l, x, y) (s, l, u', v') w) := by
      have z := mj_R_le (d' := 121) (by decide) (pm_X12_thrown (fm_TR (s, l, x, y) w) s l u' v' (u' 1, s, l, u', v') rfl)
      have z9 : pm_rI (u' 1) = some (.int (Int32.ofInt 1)) := by rw [e3]; rfl
      exact z9 ▸ z
    exact ⟨s, l, x, y, u', v', w, [(6, .int r), (5, .int (Int32.ofInt 1))], 1, lc_34 h1 hw mj_ext_rf (fm_wM _ _ _) hm ht (fun h => absurd h (by decide)) rfl rfl rfl rfl, Nat.le_refl _, e4, rfl⟩

set_option maxRecDepth 20000 in
theorem lo_35 {lc : Launch} (hl9 : lc.stackTraces = false) (hMa : mj_MaOk vwCl ic_ty mj_AW) {k : Nat} {s : Nat → Int32} {l : Nat → Int64} {x : Nat → Int32} {y : Nat → Int64} {u : Nat → Int32} {v : Nat → Int64} {w : Int64} (hV : q_V k s l x y u v) (hk : k < 512) {L : Nat} {xs : Nat → Int32} {i : Int32} (h1 : vp_in (i + Int32.ofInt 1) L) (h2 : vp_in (i + Int32.ofInt 2) L) (h3 : vp_in (i + Int32.ofInt 3) L) : lo_ok lc L xs 2628 i k (fm (s, l, x, y) (s, l, u, v) w) := by
  rcases q_O_frameComes (a := (xs (i + Int32.ofInt 1).toNatClampNeg)) (b := (xs (i + Int32.ofInt 2).toNatClampNeg)) (d := (xs (i + Int32.ofInt 3).toNatClampNeg)) hV hk with ⟨r, s', l', x', y', u', v', e1, e2, e3, e4⟩ | ⟨⟨r, u', v', e2, e3, e4⟩, e1⟩
  · have hr : mj_R ic_P 120 11033 (.ref 0 :: [.int (xs (i + Int32.ofInt 1).toNatClampNeg), .int (xs (i + Int32.ofInt 2).toNatClampNeg), .int (xs (i + Int32.ofInt 3).toNatClampNeg)]) (fm (s, l, x, y) (s, l, u, v) w) (some (.int r)) (fm (s', l', x', y') (s, l, u, v) w) := mj_R_le (by decide) (pm_X11_frameComes (fm_TC (s, l, u, v) w) _ _ _ s l x y _ e1)
    obtain ⟨n, S', i9, k9, r9, g1, g2, g3, g4, g5⟩ := aw_frameComes _ _ _ r rfl rfl hr
    have hw := mw_ret (l := lc) (hh := ih_frameComes) ic_Good hMa ig_frameComes (by decide +kernel) (Nat.le_of_ble_eq_true rfl) g1 g2 g3 (mj_all2 (lo_ref (by decide)) (mj_all2 (mj_wv_int _) (mj_all2 (mj_wv_int _) (mj_all2 (mj_wv_int _) (mj_all2 (lo_ref (by decide)) lo_nil))))) (fm_wM _ _ _)
    rw [g4, g5, fm_out] at hw
    have hm : mj_R ic_P 121 12141 (.ref 124 :: [.int (xs (i + Int32.ofInt 1).toNatClampNeg), .int (xs (i + Int32.ofInt 2).toNatClampNeg), .int (xs (i + Int32.ofInt 3).toNatClampNeg)]) (fm (s', l', x', y') (s, l, u, v) (if r = 0 then 0 else 1)) (some (.int r)) (fm (s', l', x', y') (s', l', u', v') (if r = 0 then 0 else 1)) := mj_R_le (by decide) (pm_X12_frameComes (fm_TR (s', l', x', y') (if r = 0 then 0 else 1)) _ _ _ s l u v _ e2)
    have ht : mj_R ic_P 121 12003 (.ref 124 :: []) (fm (s', l', x', y') (s', l', u', v') (if r = 0 then 0 else 1)) (some (.int 0)) (fm (s', l', x', y') (s', l', u', v') (if r = 0 then 0 else 1)) := by
      have z := mj_R_le (d' := 121) (by decide) (pm_X12_thrown (fm_TR (s', l', x', y') (if r = 0 then 0 else 1)) s' l' u' v' (u' 1, s', l', u', v') rfl)
      have z9 : pm_rI (u' 1) = some (.int 0) := by rw [e3]; rfl
      exact z9 ▸ z
    exact ⟨s', l', x', y', u', v', (if r = 0 then 0 else 1), [(6, .int r), (5, .int 0)], 1, lc_35 h1 h2 h3 hw (mj_ext_eq rfl) (fm_wM _ _ _) hm ht (fun _ => fm_o _ _ _) rfl rfl rfl rfl, Nat.le_refl _, e4, rfl⟩
  · have hq := mt_R_le (d' := 119) (by decide) (pt_X11_frameComes_t1 (fm_TC (s, l, u, v) w) _ _ _ s l x y _ e1)
    have hw := ax_frameComes_1 (l := lc) (d := 119) hl9 hMa (by decide) _ _ _ rfl (mj_all2 (lo_ref (by decide)) (mj_all2 (mj_wv_int _) (mj_all2 (mj_wv_int _) (mj_all2 (mj_wv_int _) (mj_all2 (lo_ref (by decide)) lo_nil))))) (fm_wM _ _ _) hq
    have hm : mj_R ic_P 121 12141 (.ref 124 :: [.int (xs (i + Int32.ofInt 1).toNatClampNeg), .int (xs (i + Int32.ofInt 2).toNatClampNeg), .int (xs (i + Int32.ofInt 3).toNatClampNeg)]) (fm (s, l, x, y) (s, l, u, v) w) (some (.int r)) (fm (s, l, x, y) (s, l, u', v') w) := mj_R_le (by decide) (pm_X12_frameComes (fm_TR (s, l, x, y) w) _ _ _ s l u v _ e2)
    have ht : mj_R ic_P 121 12003 (.ref 124 :: []) (fm (s, l, x, y) (s, l, u', v') w) (some (.int (Int32.ofInt 1))) (fm (s, l, x, y) (s, l, u', v') w) := by
      have z := mj_R_le (d' := 121) (by decide) (pm_X12_thrown (fm_TR (s, l, x, y) w) s l u' v' (u' 1, s, l, u', v') rfl)
      have z9 : pm_rI (u' 1) = some (.int (Int32.ofInt 1)) := by rw [e3]; rfl
      exact z9 ▸ z
    exact ⟨s, l, x, y, u', v', w, [(6, .int r), (5, .int (Int32.ofInt 1))], 1, lc_35 h1 h2 h3 hw mj_ext_rf (fm_wM _ _ _) hm ht (fun h => absurd h (by decide)) rfl rfl rfl rfl, Nat.le_refl _, e4, rfl⟩

set_option maxRecDepth 20000 in
theorem lo_36 {lc : Launch} (hl9 : lc.stackTraces = false) (hMa : mj_MaOk vwCl ic_ty mj_AW) {k : Nat} {s : Nat → Int32} {l : Nat → Int64} {x : Nat → Int32} {y : Nat → Int64} {u : Nat → Int32} {v : Nat → Int64} {w : Int64} (hV : q_V k s l x y u v) (hk : k < 512) {L : Nat} {xs : Nat → Int32} {i : Int32} (h1 : vp_in (i + Int32.ofInt 1) L) (h2 : vp_in (i + Int32.ofInt 2) L) : lo_ok lc L xs 2715 i k (fm (s, l, x, y) (s, l, u, v) w) := by
  rcases q_O_sent (a := (xs (i + Int32.ofInt 1).toNatClampNeg)) (b := (xs (i + Int32.ofInt 2).toNatClampNeg)) hV hk with ⟨r, s', l', x', y', u', v', e1, e2, e3, e4⟩ | ⟨⟨r, u', v', e2, e3, e4⟩, e1⟩
  · have hr : mj_R ic_P 120 11034 (.ref 0 :: [.int (xs (i + Int32.ofInt 1).toNatClampNeg), .int (xs (i + Int32.ofInt 2).toNatClampNeg)]) (fm (s, l, x, y) (s, l, u, v) w) (some (.int r)) (fm (s', l', x', y') (s, l, u, v) w) := mj_R_le (by decide) (pm_X11_sent (fm_TC (s, l, u, v) w) _ _ s l x y _ e1)
    obtain ⟨n, S', i9, k9, r9, g1, g2, g3, g4, g5⟩ := aw_sent _ _ r rfl rfl hr
    have hw := mw_ret (l := lc) (hh := ih_sent) ic_Good hMa ig_sent (by decide +kernel) (Nat.le_of_ble_eq_true rfl) g1 g2 g3 (mj_all2 (lo_ref (by decide)) (mj_all2 (mj_wv_int _) (mj_all2 (mj_wv_int _) (mj_all2 (lo_ref (by decide)) lo_nil)))) (fm_wM _ _ _)
    rw [g4, g5, fm_out] at hw
    have hm : mj_R ic_P 121 12142 (.ref 124 :: [.int (xs (i + Int32.ofInt 1).toNatClampNeg), .int (xs (i + Int32.ofInt 2).toNatClampNeg)]) (fm (s', l', x', y') (s, l, u, v) r.toInt64) (some (.int r)) (fm (s', l', x', y') (s', l', u', v') r.toInt64) := mj_R_le (by decide) (pm_X12_sent (fm_TR (s', l', x', y') r.toInt64) _ _ s l u v _ e2)
    have ht : mj_R ic_P 121 12003 (.ref 124 :: []) (fm (s', l', x', y') (s', l', u', v') r.toInt64) (some (.int 0)) (fm (s', l', x', y') (s', l', u', v') r.toInt64) := by
      have z := mj_R_le (d' := 121) (by decide) (pm_X12_thrown (fm_TR (s', l', x', y') r.toInt64) s' l' u' v' (u' 1, s', l', u', v') rfl)
      have z9 : pm_rI (u' 1) = some (.int 0) := by rw [e3]; rfl
      exact z9 ▸ z
    exact ⟨s', l', x', y', u', v', r.toInt64, [(6, .int r), (5, .int 0)], 1, lc_36 h1 h2 hw (mj_ext_eq rfl) (fm_wM _ _ _) hm ht (fun _ => fm_o _ _ _) rfl rfl rfl rfl, Nat.le_refl _, e4, rfl⟩
  · have hq := mt_R_le (d' := 119) (by decide) (pt_X11_sent_t2 (fm_TC (s, l, u, v) w) _ _ s l x y _ e1)
    have hw := ax_sent_1 (l := lc) (d := 119) hl9 hMa (by decide) _ _ rfl (mj_all2 (lo_ref (by decide)) (mj_all2 (mj_wv_int _) (mj_all2 (mj_wv_int _) (mj_all2 (lo_ref (by decide)) lo_nil)))) (fm_wM _ _ _) hq
    have hm : mj_R ic_P 121 12142 (.ref 124 :: [.int (xs (i + Int32.ofInt 1).toNatClampNeg), .int (xs (i + Int32.ofInt 2).toNatClampNeg)]) (fm (s, l, x, y) (s, l, u, v) w) (some (.int r)) (fm (s, l, x, y) (s, l, u', v') w) := mj_R_le (by decide) (pm_X12_sent (fm_TR (s, l, x, y) w) _ _ s l u v _ e2)
    have ht : mj_R ic_P 121 12003 (.ref 124 :: []) (fm (s, l, x, y) (s, l, u', v') w) (some (.int (Int32.ofInt 1))) (fm (s, l, x, y) (s, l, u', v') w) := by
      have z := mj_R_le (d' := 121) (by decide) (pm_X12_thrown (fm_TR (s, l, x, y) w) s l u' v' (u' 1, s, l, u', v') rfl)
      have z9 : pm_rI (u' 1) = some (.int (Int32.ofInt 1)) := by rw [e3]; rfl
      exact z9 ▸ z
    exact ⟨s, l, x, y, u', v', w, [(6, .int r), (5, .int (Int32.ofInt 1))], 1, lc_36 h1 h2 hw mj_ext_rf (fm_wM _ _ _) hm ht (fun h => absurd h (by decide)) rfl rfl rfl rfl, Nat.le_refl _, e4, rfl⟩

set_option maxRecDepth 20000 in
theorem lo_37 {lc : Launch} (hl9 : lc.stackTraces = false) (hMa : mj_MaOk vwCl ic_ty mj_AW) {k : Nat} {s : Nat → Int32} {l : Nat → Int64} {x : Nat → Int32} {y : Nat → Int64} {u : Nat → Int32} {v : Nat → Int64} {w : Int64} (hV : q_V k s l x y u v) (hk : k < 512) {L : Nat} {xs : Nat → Int32} {i : Int32} (h1 : vp_in (i + Int32.ofInt 1) L) : lo_ok lc L xs 2783 i k (fm (s, l, x, y) (s, l, u, v) w) := by
  rcases q_O_noise (a := (xs (i + Int32.ofInt 1).toNatClampNeg)) hV hk with ⟨r, s', l', x', y', u', v', e1, e2, e3, e4⟩ | ⟨⟨r, u', v', e2, e3, e4⟩, e1⟩
  · have hr : mj_R ic_P 120 11035 (.ref 0 :: [.int (xs (i + Int32.ofInt 1).toNatClampNeg)]) (fm (s, l, x, y) (s, l, u, v) w) (some (.int r)) (fm (s', l', x', y') (s, l, u, v) w) := mj_R_le (by decide) (pm_X11_noise (fm_TC (s, l, u, v) w) _ s l x y _ e1)
    obtain ⟨n, S', i9, k9, r9, g1, g2, g3, g4, g5⟩ := aw_noise _ r rfl rfl hr
    have hw := mw_ret (l := lc) (hh := ih_noise) ic_Good hMa ig_noise (by decide +kernel) (Nat.le_of_ble_eq_true rfl) g1 g2 g3 (mj_all2 (lo_ref (by decide)) (mj_all2 (mj_wv_int _) (mj_all2 (lo_ref (by decide)) lo_nil))) (fm_wM _ _ _)
    rw [g4, g5, fm_out] at hw
    have hm : mj_R ic_P 121 12143 (.ref 124 :: [.int (xs (i + Int32.ofInt 1).toNatClampNeg)]) (fm (s', l', x', y') (s, l, u, v) r.toInt64) (some (.int r)) (fm (s', l', x', y') (s', l', u', v') r.toInt64) := mj_R_le (by decide) (pm_X12_noise (fm_TR (s', l', x', y') r.toInt64) _ s l u v _ e2)
    have ht : mj_R ic_P 121 12003 (.ref 124 :: []) (fm (s', l', x', y') (s', l', u', v') r.toInt64) (some (.int 0)) (fm (s', l', x', y') (s', l', u', v') r.toInt64) := by
      have z := mj_R_le (d' := 121) (by decide) (pm_X12_thrown (fm_TR (s', l', x', y') r.toInt64) s' l' u' v' (u' 1, s', l', u', v') rfl)
      have z9 : pm_rI (u' 1) = some (.int 0) := by rw [e3]; rfl
      exact z9 ▸ z
    exact ⟨s', l', x', y', u', v', r.toInt64, [(6, .int r), (5, .int 0)], 1, lc_37 h1 hw (mj_ext_eq rfl) (fm_wM _ _ _) hm ht (fun _ => fm_o _ _ _) rfl rfl rfl rfl, Nat.le_refl _, e4, rfl⟩
  · have hq := mt_R_le (d' := 119) (by decide) (pt_X11_noise_t1 (fm_TC (s, l, u, v) w) _ s l x y _ e1)
    have hw := ax_noise_1 (l := lc) (d := 119) hl9 hMa (by decide) _ rfl (mj_all2 (lo_ref (by decide)) (mj_all2 (mj_wv_int _) (mj_all2 (lo_ref (by decide)) lo_nil))) (fm_wM _ _ _) hq
    have hm : mj_R ic_P 121 12143 (.ref 124 :: [.int (xs (i + Int32.ofInt 1).toNatClampNeg)]) (fm (s, l, x, y) (s, l, u, v) w) (some (.int r)) (fm (s, l, x, y) (s, l, u', v') w) := mj_R_le (by decide) (pm_X12_noise (fm_TR (s, l, x, y) w) _ s l u v _ e2)
    have ht : mj_R ic_P 121 12003 (.ref 124 :: []) (fm (s, l, x, y) (s, l, u', v') w) (some (.int (Int32.ofInt 1))) (fm (s, l, x, y) (s, l, u', v') w) := by
      have z := mj_R_le (d' := 121) (by decide) (pm_X12_thrown (fm_TR (s, l, x, y) w) s l u' v' (u' 1, s, l, u', v') rfl)
      have z9 : pm_rI (u' 1) = some (.int (Int32.ofInt 1)) := by rw [e3]; rfl
      exact z9 ▸ z
    exact ⟨s, l, x, y, u', v', w, [(6, .int r), (5, .int (Int32.ofInt 1))], 1, lc_37 h1 hw mj_ext_rf (fm_wM _ _ _) hm ht (fun h => absurd h (by decide)) rfl rfl rfl rfl, Nat.le_refl _, e4, rfl⟩

set_option maxRecDepth 20000 in
theorem lo_38 {lc : Launch} (hl9 : lc.stackTraces = false) (hMa : mj_MaOk vwCl ic_ty mj_AW) {k : Nat} {s : Nat → Int32} {l : Nat → Int64} {x : Nat → Int32} {y : Nat → Int64} {u : Nat → Int32} {v : Nat → Int64} {w : Int64} (hV : q_V k s l x y u v) (hk : k < 512) {L : Nat} {xs : Nat → Int32} {i : Int32} (h1 : vp_in (i + Int32.ofInt 1) L) : lo_ok lc L xs 2839 i k (fm (s, l, x, y) (s, l, u, v) w) := by
  rcases q_O_lock (a := (xs (i + Int32.ofInt 1).toNatClampNeg)) hV hk with ⟨r, s', l', x', y', u', v', e1, e2, e3, e4⟩ | ⟨⟨r, u', v', e2, e3, e4⟩, e1⟩
  · have hr : mj_R ic_P 120 11026 (.ref 0 :: [.int (xs (i + Int32.ofInt 1).toNatClampNeg)]) (fm (s, l, x, y) (s, l, u, v) w) (some (.int r)) (fm (s', l', x', y') (s, l, u, v) w) := mj_R_le (by decide) (pm_X11_lock (fm_TC (s, l, u, v) w) _ s l x y _ e1)
    obtain ⟨n, S', i9, k9, r9, g1, g2, g3, g4, g5⟩ := aw_lock _ r rfl rfl hr
    have hw := mw_ret (l := lc) (hh := ih_lock) ic_Good hMa ig_lock (by decide +kernel) (Nat.le_of_ble_eq_true rfl) g1 g2 g3 (mj_all2 (lo_ref (by decide)) (mj_all2 (mj_wv_int _) (mj_all2 (lo_ref (by decide)) lo_nil))) (fm_wM _ _ _)
    rw [g4, g5, fm_out] at hw
    have hm : mj_R ic_P 121 12144 (.ref 124 :: [.int (xs (i + Int32.ofInt 1).toNatClampNeg)]) (fm (s', l', x', y') (s, l, u, v) r.toInt64) (some (.int r)) (fm (s', l', x', y') (s', l', u', v') r.toInt64) := mj_R_le (by decide) (pm_X12_lock (fm_TR (s', l', x', y') r.toInt64) _ s l u v _ e2)
    have ht : mj_R ic_P 121 12003 (.ref 124 :: []) (fm (s', l', x', y') (s', l', u', v') r.toInt64) (some (.int 0)) (fm (s', l', x', y') (s', l', u', v') r.toInt64) := by
      have z := mj_R_le (d' := 121) (by decide) (pm_X12_thrown (fm_TR (s', l', x', y') r.toInt64) s' l' u' v' (u' 1, s', l', u', v') rfl)
      have z9 : pm_rI (u' 1) = some (.int 0) := by rw [e3]; rfl
      exact z9 ▸ z
    exact ⟨s', l', x', y', u', v', r.toInt64, [(6, .int r), (5, .int 0)], 1, lc_38 h1 hw (mj_ext_eq rfl) (fm_wM _ _ _) hm ht (fun _ => fm_o _ _ _) rfl rfl rfl rfl, Nat.le_refl _, e4, rfl⟩
  · have hq := mt_R_le (d' := 119) (by decide) (pt_X11_lock_t3 (fm_TC (s, l, u, v) w) _ s l x y _ e1)
    have hw := ax_lock_1 (l := lc) (d := 119) hl9 hMa (by decide) _ rfl (mj_all2 (lo_ref (by decide)) (mj_all2 (mj_wv_int _) (mj_all2 (lo_ref (by decide)) lo_nil))) (fm_wM _ _ _) hq
    have hm : mj_R ic_P 121 12144 (.ref 124 :: [.int (xs (i + Int32.ofInt 1).toNatClampNeg)]) (fm (s, l, x, y) (s, l, u, v) w) (some (.int r)) (fm (s, l, x, y) (s, l, u', v') w) := mj_R_le (by decide) (pm_X12_lock (fm_TR (s, l, x, y) w) _ s l u v _ e2)
    have ht : mj_R ic_P 121 12003 (.ref 124 :: []) (fm (s, l, x, y) (s, l, u', v') w) (some (.int (Int32.ofInt 1))) (fm (s, l, x, y) (s, l, u', v') w) := by
      have z := mj_R_le (d' := 121) (by decide) (pm_X12_thrown (fm_TR (s, l, x, y) w) s l u' v' (u' 1, s, l, u', v') rfl)
      have z9 : pm_rI (u' 1) = some (.int (Int32.ofInt 1)) := by rw [e3]; rfl
      exact z9 ▸ z
    exact ⟨s, l, x, y, u', v', w, [(6, .int r), (5, .int (Int32.ofInt 1))], 1, lc_38 h1 hw mj_ext_rf (fm_wM _ _ _) hm ht (fun h => absurd h (by decide)) rfl rfl rfl rfl, Nat.le_refl _, e4, rfl⟩

set_option maxRecDepth 20000 in
theorem lo_39 {lc : Launch} (hl9 : lc.stackTraces = false) (hMa : mj_MaOk vwCl ic_ty mj_AW) {k : Nat} {s : Nat → Int32} {l : Nat → Int64} {x : Nat → Int32} {y : Nat → Int64} {u : Nat → Int32} {v : Nat → Int64} {w : Int64} (hV : q_V k s l x y u v) (hk : k < 512) {L : Nat} {xs : Nat → Int32} {i : Int32} (h1 : vp_in (i + Int32.ofInt 1) L) (h2 : vp_in (i + Int32.ofInt 2) L) : lo_ok lc L xs 2895 i k (fm (s, l, x, y) (s, l, u, v) w) := by
  rcases q_O_page (a := (xs (i + Int32.ofInt 1).toNatClampNeg)) (b := (xs (i + Int32.ofInt 2).toNatClampNeg)) hV hk with ⟨r, s', l', x', y', u', v', e1, e2, e3, e4⟩ | ⟨⟨r, u', v', e2, e3, e4⟩, e1⟩
  · have hr : mj_R ic_P 120 11024 (.ref 0 :: [.int (xs (i + Int32.ofInt 1).toNatClampNeg), .int (xs (i + Int32.ofInt 2).toNatClampNeg)]) (fm (s, l, x, y) (s, l, u, v) w) (some (.int r)) (fm (s', l', x', y') (s, l, u, v) w) := mj_R_le (by decide) (pm_X11_page (fm_TC (s, l, u, v) w) _ _ s l x y _ e1)
    obtain ⟨n, S', i9, k9, r9, g1, g2, g3, g4, g5⟩ := aw_page _ _ r rfl rfl hr
    have hw := mw_ret (l := lc) (hh := ih_page) ic_Good hMa ig_page (by decide +kernel) (Nat.le_of_ble_eq_true rfl) g1 g2 g3 (mj_all2 (lo_ref (by decide)) (mj_all2 (mj_wv_int _) (mj_all2 (mj_wv_int _) (mj_all2 (lo_ref (by decide)) lo_nil)))) (fm_wM _ _ _)
    rw [g4, g5, fm_out] at hw
    have hm : mj_R ic_P 121 12146 (.ref 124 :: [.int (xs (i + Int32.ofInt 1).toNatClampNeg), .int (xs (i + Int32.ofInt 2).toNatClampNeg)]) (fm (s', l', x', y') (s, l, u, v) r.toInt64) (some (.int r)) (fm (s', l', x', y') (s', l', u', v') r.toInt64) := mj_R_le (by decide) (pm_X12_page (fm_TR (s', l', x', y') r.toInt64) _ _ s l u v _ e2)
    have ht : mj_R ic_P 121 12003 (.ref 124 :: []) (fm (s', l', x', y') (s', l', u', v') r.toInt64) (some (.int 0)) (fm (s', l', x', y') (s', l', u', v') r.toInt64) := by
      have z := mj_R_le (d' := 121) (by decide) (pm_X12_thrown (fm_TR (s', l', x', y') r.toInt64) s' l' u' v' (u' 1, s', l', u', v') rfl)
      have z9 : pm_rI (u' 1) = some (.int 0) := by rw [e3]; rfl
      exact z9 ▸ z
    exact ⟨s', l', x', y', u', v', r.toInt64, [(6, .int r), (5, .int 0)], 1, lc_39 h1 h2 hw (mj_ext_eq rfl) (fm_wM _ _ _) hm ht (fun _ => fm_o _ _ _) rfl rfl rfl rfl, Nat.le_refl _, e4, rfl⟩
  · have hq := mt_R_le (d' := 119) (by decide) (pt_X11_page_t2 (fm_TC (s, l, u, v) w) _ _ s l x y _ e1)
    have hw := ax_page_1 (l := lc) (d := 119) hl9 hMa (by decide) _ _ rfl (mj_all2 (lo_ref (by decide)) (mj_all2 (mj_wv_int _) (mj_all2 (mj_wv_int _) (mj_all2 (lo_ref (by decide)) lo_nil)))) (fm_wM _ _ _) hq
    have hm : mj_R ic_P 121 12146 (.ref 124 :: [.int (xs (i + Int32.ofInt 1).toNatClampNeg), .int (xs (i + Int32.ofInt 2).toNatClampNeg)]) (fm (s, l, x, y) (s, l, u, v) w) (some (.int r)) (fm (s, l, x, y) (s, l, u', v') w) := mj_R_le (by decide) (pm_X12_page (fm_TR (s, l, x, y) w) _ _ s l u v _ e2)
    have ht : mj_R ic_P 121 12003 (.ref 124 :: []) (fm (s, l, x, y) (s, l, u', v') w) (some (.int (Int32.ofInt 1))) (fm (s, l, x, y) (s, l, u', v') w) := by
      have z := mj_R_le (d' := 121) (by decide) (pm_X12_thrown (fm_TR (s, l, x, y) w) s l u' v' (u' 1, s, l, u', v') rfl)
      have z9 : pm_rI (u' 1) = some (.int (Int32.ofInt 1)) := by rw [e3]; rfl
      exact z9 ▸ z
    exact ⟨s, l, x, y, u', v', w, [(6, .int r), (5, .int (Int32.ofInt 1))], 1, lc_39 h1 h2 hw mj_ext_rf (fm_wM _ _ _) hm ht (fun h => absurd h (by decide)) rfl rfl rfl rfl, Nat.le_refl _, e4, rfl⟩

set_option maxRecDepth 20000 in
theorem lo_40 {lc : Launch} (hl9 : lc.stackTraces = false) (hMa : mj_MaOk vwCl ic_ty mj_AW) {k : Nat} {s : Nat → Int32} {l : Nat → Int64} {x : Nat → Int32} {y : Nat → Int64} {u : Nat → Int32} {v : Nat → Int64} {w : Int64} (hV : q_V k s l x y u v) (hk : k < 512) {L : Nat} {xs : Nat → Int32} {i : Int32} (h1 : vp_in (i + Int32.ofInt 1) L) (h2 : vp_in (i + Int32.ofInt 2) L) (h3 : vp_in (i + Int32.ofInt 3) L) : lo_ok lc L xs 2963 i k (fm (s, l, x, y) (s, l, u, v) w) := by
  rcases q_O_tear (a := (xs (i + Int32.ofInt 1).toNatClampNeg)) (b := (xs (i + Int32.ofInt 2).toNatClampNeg)) (d := (xs (i + Int32.ofInt 3).toNatClampNeg)) hV hk with ⟨r, s', l', x', y', u', v', e1, e2, e3, e4⟩ | ⟨⟨r, u', v', e2, e3, e4⟩, e1⟩ | ⟨⟨r, u', v', e2, e3, e4⟩, e1⟩
  · have hr : mj_R ic_P 120 11025 (.ref 0 :: [.int (xs (i + Int32.ofInt 1).toNatClampNeg), .int (xs (i + Int32.ofInt 2).toNatClampNeg), .int (xs (i + Int32.ofInt 3).toNatClampNeg)]) (fm (s, l, x, y) (s, l, u, v) w) (some (.int r)) (fm (s', l', x', y') (s, l, u, v) w) := mj_R_le (by decide) (pm_X11_tear (fm_TC (s, l, u, v) w) _ _ _ s l x y _ e1)
    obtain ⟨n, S', i9, k9, r9, g1, g2, g3, g4, g5⟩ := aw_tear _ _ _ r rfl rfl hr
    have hw := mw_ret (l := lc) (hh := ih_tear) ic_Good hMa ig_tear (by decide +kernel) (Nat.le_of_ble_eq_true rfl) g1 g2 g3 (mj_all2 (lo_ref (by decide)) (mj_all2 (mj_wv_int _) (mj_all2 (mj_wv_int _) (mj_all2 (mj_wv_int _) (mj_all2 (lo_ref (by decide)) lo_nil))))) (fm_wM _ _ _)
    rw [g4, g5, fm_out] at hw
    have hm : mj_R ic_P 121 12147 (.ref 124 :: [.int (xs (i + Int32.ofInt 1).toNatClampNeg), .int (xs (i + Int32.ofInt 2).toNatClampNeg), .int (xs (i + Int32.ofInt 3).toNatClampNeg)]) (fm (s', l', x', y') (s, l, u, v) r.toInt64) (some (.int r)) (fm (s', l', x', y') (s', l', u', v') r.toInt64) := mj_R_le (by decide) (pm_X12_tear (fm_TR (s', l', x', y') r.toInt64) _ _ _ s l u v _ e2)
    have ht : mj_R ic_P 121 12003 (.ref 124 :: []) (fm (s', l', x', y') (s', l', u', v') r.toInt64) (some (.int 0)) (fm (s', l', x', y') (s', l', u', v') r.toInt64) := by
      have z := mj_R_le (d' := 121) (by decide) (pm_X12_thrown (fm_TR (s', l', x', y') r.toInt64) s' l' u' v' (u' 1, s', l', u', v') rfl)
      have z9 : pm_rI (u' 1) = some (.int 0) := by rw [e3]; rfl
      exact z9 ▸ z
    exact ⟨s', l', x', y', u', v', r.toInt64, [(6, .int r), (5, .int 0)], 1, lc_40 h1 h2 h3 hw (mj_ext_eq rfl) (fm_wM _ _ _) hm ht (fun _ => fm_o _ _ _) rfl rfl rfl rfl, Nat.le_refl _, e4, rfl⟩
  · have hq := mt_R_le (d' := 119) (by decide) (pt_X11_tear_t2 (fm_TC (s, l, u, v) w) _ _ _ s l x y _ e1)
    have hw := ax_tear_1 (l := lc) (d := 119) hl9 hMa (by decide) _ _ _ rfl (mj_all2 (lo_ref (by decide)) (mj_all2 (mj_wv_int _) (mj_all2 (mj_wv_int _) (mj_all2 (mj_wv_int _) (mj_all2 (lo_ref (by decide)) lo_nil))))) (fm_wM _ _ _) hq
    have hm : mj_R ic_P 121 12147 (.ref 124 :: [.int (xs (i + Int32.ofInt 1).toNatClampNeg), .int (xs (i + Int32.ofInt 2).toNatClampNeg), .int (xs (i + Int32.ofInt 3).toNatClampNeg)]) (fm (s, l, x, y) (s, l, u, v) w) (some (.int r)) (fm (s, l, x, y) (s, l, u', v') w) := mj_R_le (by decide) (pm_X12_tear (fm_TR (s, l, x, y) w) _ _ _ s l u v _ e2)
    have ht : mj_R ic_P 121 12003 (.ref 124 :: []) (fm (s, l, x, y) (s, l, u', v') w) (some (.int (Int32.ofInt 1))) (fm (s, l, x, y) (s, l, u', v') w) := by
      have z := mj_R_le (d' := 121) (by decide) (pm_X12_thrown (fm_TR (s, l, x, y) w) s l u' v' (u' 1, s, l, u', v') rfl)
      have z9 : pm_rI (u' 1) = some (.int (Int32.ofInt 1)) := by rw [e3]; rfl
      exact z9 ▸ z
    exact ⟨s, l, x, y, u', v', w, [(6, .int r), (5, .int (Int32.ofInt 1))], 1, lc_40 h1 h2 h3 hw mj_ext_rf (fm_wM _ _ _) hm ht (fun h => absurd h (by decide)) rfl rfl rfl rfl, Nat.le_refl _, e4, rfl⟩
  · have hq := mt_R_le (d' := 119) (by decide) (pt_X11_tear_t3 (fm_TC (s, l, u, v) w) _ _ _ s l x y _ e1)
    have hw := ax_tear_2 (l := lc) (d := 119) hl9 hMa (by decide) _ _ _ rfl (mj_all2 (lo_ref (by decide)) (mj_all2 (mj_wv_int _) (mj_all2 (mj_wv_int _) (mj_all2 (mj_wv_int _) (mj_all2 (lo_ref (by decide)) lo_nil))))) (fm_wM _ _ _) hq
    have hm : mj_R ic_P 121 12147 (.ref 124 :: [.int (xs (i + Int32.ofInt 1).toNatClampNeg), .int (xs (i + Int32.ofInt 2).toNatClampNeg), .int (xs (i + Int32.ofInt 3).toNatClampNeg)]) (fm (s, l, x, y) (s, l, u, v) w) (some (.int r)) (fm (s, l, x, y) (s, l, u', v') w) := mj_R_le (by decide) (pm_X12_tear (fm_TR (s, l, x, y) w) _ _ _ s l u v _ e2)
    have ht : mj_R ic_P 121 12003 (.ref 124 :: []) (fm (s, l, x, y) (s, l, u', v') w) (some (.int (Int32.ofInt 2))) (fm (s, l, x, y) (s, l, u', v') w) := by
      have z := mj_R_le (d' := 121) (by decide) (pm_X12_thrown (fm_TR (s, l, x, y) w) s l u' v' (u' 1, s, l, u', v') rfl)
      have z9 : pm_rI (u' 1) = some (.int (Int32.ofInt 2)) := by rw [e3]; rfl
      exact z9 ▸ z
    exact ⟨s, l, x, y, u', v', w, [(6, .int r), (5, .int (Int32.ofInt 2))], 1, lc_40 h1 h2 h3 hw mj_ext_rf (fm_wM _ _ _) hm ht (fun h => absurd h (by decide)) rfl rfl rfl rfl, Nat.le_refl _, e4, rfl⟩

set_option maxRecDepth 20000 in
theorem lo_41 {lc : Launch} (hl9 : lc.stackTraces = false) (hMa : mj_MaOk vwCl ic_ty mj_AW) {k : Nat} {s : Nat → Int32} {l : Nat → Int64} {x : Nat → Int32} {y : Nat → Int64} {u : Nat → Int32} {v : Nat → Int64} {w : Int64} (hV : q_V k s l x y u v) (hk : k < 512) {L : Nat} {xs : Nat → Int32} {i : Int32} (h1 : vp_in (i + Int32.ofInt 1) L) : lo_ok lc L xs 3043 i k (fm (s, l, x, y) (s, l, u, v) w) := by
  obtain ⟨r, s', l', x', y', u', v', e1, e2, e3, e4⟩ := q_O_unit (a := (xs (i + Int32.ofInt 1).toNatClampNeg)) hV hk
  have hx : mj_R ic_P 121 11036 (.ref 0 :: [.int (xs (i + Int32.ofInt 1).toNatClampNeg)]) (fm (s, l, x, y) (s, l, u, v) w) (some (.int r)) (fm (s', l', x', y') (s, l, u, v) w) := mj_R_le (by decide) (pm_X11_unit (fm_TC (s, l, u, v) w) _ s l x y _ e1)
  have hm : mj_R ic_P 121 12151 (.ref 124 :: [.int (xs (i + Int32.ofInt 1).toNatClampNeg)]) (fm (s', l', x', y') (s, l, u, v) w) (some (.int r)) (fm (s', l', x', y') (s', l', u', v') w) := mj_R_le (by decide) (pm_X12_unit (fm_TR (s', l', x', y') w) _ s l u v _ e2)
  exact ⟨s', l', x', y', u', v', w, [], 0, lc_41 h1 hx hm rfl rfl rfl rfl, Nat.zero_le _, e4, rfl⟩

set_option maxRecDepth 20000 in
theorem lo_42 {lc : Launch} (hl9 : lc.stackTraces = false) (hMa : mj_MaOk vwCl ic_ty mj_AW) {k : Nat} {s : Nat → Int32} {l : Nat → Int64} {x : Nat → Int32} {y : Nat → Int64} {u : Nat → Int32} {v : Nat → Int64} {w : Int64} (hV : q_V k s l x y u v) (hk : k < 512) {L : Nat} {xs : Nat → Int32} {i : Int32}  : lo_ok lc L xs 3068 i k (fm (s, l, x, y) (s, l, u, v) w) := by
  obtain ⟨r, s', l', x', y', u', v', e1, e2, e3, e4⟩ := q_O_build  hV hk
  have hx : mj_R ic_P 121 11037 (.ref 0 :: []) (fm (s, l, x, y) (s, l, u, v) w) (some (.int r)) (fm (s', l', x', y') (s, l, u, v) w) := mj_R_le (by decide) (pm_X11_build (fm_TC (s, l, u, v) w)  s l x y _ e1)
  have hm : mj_R ic_P 121 12162 (.ref 124 :: []) (fm (s', l', x', y') (s, l, u, v) w) (some (.int r)) (fm (s', l', x', y') (s', l', u', v') w) := mj_R_le (by decide) (pm_X12_build (fm_TR (s', l', x', y') w)  s l u v _ e2)
  exact ⟨s', l', x', y', u', v', w, [], 0, lc_42  hx hm rfl rfl rfl rfl, Nat.zero_le _, e4, rfl⟩

set_option maxRecDepth 20000 in
theorem lo_43 {lc : Launch} (hl9 : lc.stackTraces = false) (hMa : mj_MaOk vwCl ic_ty mj_AW) {k : Nat} {s : Nat → Int32} {l : Nat → Int64} {x : Nat → Int32} {y : Nat → Int64} {u : Nat → Int32} {v : Nat → Int64} {w : Int64} (hV : q_V k s l x y u v) (hk : k < 512) {L : Nat} {xs : Nat → Int32} {i : Int32} (h1 : vp_in (i + Int32.ofInt 1) L) (h2 : vp_in (i + Int32.ofInt 2) L) (h3 : vp_in (i + Int32.ofInt 3) L) (h4 : vp_in (i + Int32.ofInt 4) L) : lo_ok lc L xs 3081 i k (fm (s, l, x, y) (s, l, u, v) w) := by
  rcases q_O_record (a := (xs (i + Int32.ofInt 1).toNatClampNeg)) (b := (xs (i + Int32.ofInt 2).toNatClampNeg)) (d := (xs (i + Int32.ofInt 3).toNatClampNeg)) (e := (xs (i + Int32.ofInt 4).toNatClampNeg)) hV hk with ⟨r, s', l', x', y', u', v', e1, e2, e3, e4⟩ | ⟨⟨r, u', v', e2, e3, e4⟩, e1⟩ | ⟨⟨r, u', v', e2, e3, e4⟩, e1⟩
  · have hr : mj_R ic_P 120 11038 (.ref 0 :: [.int (xs (i + Int32.ofInt 1).toNatClampNeg), .int (xs (i + Int32.ofInt 2).toNatClampNeg), .int (xs (i + Int32.ofInt 3).toNatClampNeg), .int (xs (i + Int32.ofInt 4).toNatClampNeg)]) (fm (s, l, x, y) (s, l, u, v) w) (none) (fm (s', l', x', y') (s, l, u, v) w) := mj_R_le (by decide) (pm_X11_record (fm_TC (s, l, u, v) w) _ _ _ _ s l x y _ e1)
    obtain ⟨n, S', i9, k9, r9, g1, g2, g3, g4, g5⟩ := aw_record _ _ _ _ rfl rfl hr
    have hw := mw_ret (l := lc) (hh := ih_record) ic_Good hMa ig_record (by decide +kernel) (Nat.le_of_ble_eq_true rfl) g1 g2 g3 (mj_all2 (lo_ref (by decide)) (mj_all2 (mj_wv_int _) (mj_all2 (mj_wv_int _) (mj_all2 (mj_wv_int _) (mj_all2 (mj_wv_int _) lo_nil))))) (fm_wM _ _ _)
    rw [g4, g5] at hw
    have hm : mj_R ic_P 121 12166 (.ref 124 :: [.int (xs (i + Int32.ofInt 1).toNatClampNeg), .int (xs (i + Int32.ofInt 2).toNatClampNeg), .int (xs (i + Int32.ofInt 3).toNatClampNeg), .int (xs (i + Int32.ofInt 4).toNatClampNeg)]) (fm (s', l', x', y') (s, l, u, v) w) (none) (fm (s', l', x', y') (s', l', u', v') w) := mj_R_le (by decide) (pm_X12_record (fm_TR (s', l', x', y') w) _ _ _ _ s l u v _ e2)
    have ht : mj_R ic_P 121 12003 (.ref 124 :: []) (fm (s', l', x', y') (s', l', u', v') w) (some (.int 0)) (fm (s', l', x', y') (s', l', u', v') w) := by
      have z := mj_R_le (d' := 121) (by decide) (pm_X12_thrown (fm_TR (s', l', x', y') w) s' l' u' v' (u' 1, s', l', u', v') rfl)
      have z9 : pm_rI (u' 1) = some (.int 0) := by rw [e3]; rfl
      exact z9 ▸ z
    exact ⟨s', l', x', y', u', v', w, [(5, .int 0)], 1, lc_43 h1 h2 h3 h4 hw (mj_ext_eq rfl) (fm_wM _ _ _) hm ht rfl rfl rfl rfl, Nat.le_refl _, e4, rfl⟩
  · have hq := mt_R_le (d' := 119) (by decide) (pt_X11_record_t2 (fm_TC (s, l, u, v) w) _ _ _ _ s l x y _ e1)
    have hw := ax_record_1 (l := lc) (d := 119) hl9 hMa (by decide) _ _ _ _ rfl (mj_all2 (lo_ref (by decide)) (mj_all2 (mj_wv_int _) (mj_all2 (mj_wv_int _) (mj_all2 (mj_wv_int _) (mj_all2 (mj_wv_int _) lo_nil))))) (fm_wM _ _ _) hq
    have hm : mj_R ic_P 121 12166 (.ref 124 :: [.int (xs (i + Int32.ofInt 1).toNatClampNeg), .int (xs (i + Int32.ofInt 2).toNatClampNeg), .int (xs (i + Int32.ofInt 3).toNatClampNeg), .int (xs (i + Int32.ofInt 4).toNatClampNeg)]) (fm (s, l, x, y) (s, l, u, v) w) (none) (fm (s, l, x, y) (s, l, u', v') w) := mj_R_le (by decide) (pm_X12_record (fm_TR (s, l, x, y) w) _ _ _ _ s l u v _ e2)
    have ht : mj_R ic_P 121 12003 (.ref 124 :: []) (fm (s, l, x, y) (s, l, u', v') w) (some (.int (Int32.ofInt 1))) (fm (s, l, x, y) (s, l, u', v') w) := by
      have z := mj_R_le (d' := 121) (by decide) (pm_X12_thrown (fm_TR (s, l, x, y) w) s l u' v' (u' 1, s, l, u', v') rfl)
      have z9 : pm_rI (u' 1) = some (.int (Int32.ofInt 1)) := by rw [e3]; rfl
      exact z9 ▸ z
    exact ⟨s, l, x, y, u', v', w, [(5, .int (Int32.ofInt 1))], 1, lc_43 h1 h2 h3 h4 hw mj_ext_rf (fm_wM _ _ _) hm ht rfl rfl rfl rfl, Nat.le_refl _, e4, rfl⟩
  · have hq := mt_R_le (d' := 119) (by decide) (pt_X11_record_t1 (fm_TC (s, l, u, v) w) _ _ _ _ s l x y _ e1)
    have hw := ax_record_2 (l := lc) (d := 119) hl9 hMa (by decide) _ _ _ _ rfl (mj_all2 (lo_ref (by decide)) (mj_all2 (mj_wv_int _) (mj_all2 (mj_wv_int _) (mj_all2 (mj_wv_int _) (mj_all2 (mj_wv_int _) lo_nil))))) (fm_wM _ _ _) hq
    have hm : mj_R ic_P 121 12166 (.ref 124 :: [.int (xs (i + Int32.ofInt 1).toNatClampNeg), .int (xs (i + Int32.ofInt 2).toNatClampNeg), .int (xs (i + Int32.ofInt 3).toNatClampNeg), .int (xs (i + Int32.ofInt 4).toNatClampNeg)]) (fm (s, l, x, y) (s, l, u, v) w) (none) (fm (s, l, x, y) (s, l, u', v') w) := mj_R_le (by decide) (pm_X12_record (fm_TR (s, l, x, y) w) _ _ _ _ s l u v _ e2)
    have ht : mj_R ic_P 121 12003 (.ref 124 :: []) (fm (s, l, x, y) (s, l, u', v') w) (some (.int (Int32.ofInt 2))) (fm (s, l, x, y) (s, l, u', v') w) := by
      have z := mj_R_le (d' := 121) (by decide) (pm_X12_thrown (fm_TR (s, l, x, y) w) s l u' v' (u' 1, s, l, u', v') rfl)
      have z9 : pm_rI (u' 1) = some (.int (Int32.ofInt 2)) := by rw [e3]; rfl
      exact z9 ▸ z
    exact ⟨s, l, x, y, u', v', w, [(5, .int (Int32.ofInt 2))], 1, lc_43 h1 h2 h3 h4 hw mj_ext_rf (fm_wM _ _ _) hm ht rfl rfl rfl rfl, Nat.le_refl _, e4, rfl⟩

set_option maxRecDepth 20000 in
theorem lo_44 {lc : Launch} (hl9 : lc.stackTraces = false) (hMa : mj_MaOk vwCl ic_ty mj_AW) {k : Nat} {s : Nat → Int32} {l : Nat → Int64} {x : Nat → Int32} {y : Nat → Int64} {u : Nat → Int32} {v : Nat → Int64} {w : Int64} (hV : q_V k s l x y u v) (hk : k < 512) {L : Nat} {xs : Nat → Int32} {i : Int32} (h1 : vp_in (i + Int32.ofInt 1) L) (h2 : vp_in (i + Int32.ofInt 2) L) : lo_ok lc L xs 3153 i k (fm (s, l, x, y) (s, l, u, v) w) := by
  rcases q_O_row (a := (xs (i + Int32.ofInt 1).toNatClampNeg)) (b := (xs (i + Int32.ofInt 2).toNatClampNeg)) hV hk with ⟨r, s', l', x', y', u', v', e1, e2, e3, e4⟩ | ⟨⟨r, u', v', e2, e3, e4⟩, e1⟩
  · have hr : mj_R ic_P 120 11039 (.ref 0 :: [.int (xs (i + Int32.ofInt 1).toNatClampNeg), .int (xs (i + Int32.ofInt 2).toNatClampNeg)]) (fm (s, l, x, y) (s, l, u, v) w) (some (.long r)) (fm (s', l', x', y') (s, l, u, v) w) := mj_R_le (by decide) (pm_X11_row (fm_TC (s, l, u, v) w) _ _ s l x y _ e1)
    obtain ⟨n, S', i9, k9, r9, g1, g2, g3, g4, g5⟩ := aw_row _ _ r rfl rfl hr
    have hw := mw_ret (l := lc) (hh := ih_row) ic_Good hMa ig_row (by decide +kernel) (Nat.le_of_ble_eq_true rfl) g1 g2 g3 (mj_all2 (lo_ref (by decide)) (mj_all2 (mj_wv_int _) (mj_all2 (mj_wv_int _) (mj_all2 (lo_ref (by decide)) lo_nil)))) (fm_wM _ _ _)
    rw [g4, g5, fm_out] at hw
    have hm : mj_R ic_P 121 12169 (.ref 124 :: [.int (xs (i + Int32.ofInt 1).toNatClampNeg), .int (xs (i + Int32.ofInt 2).toNatClampNeg)]) (fm (s', l', x', y') (s, l, u, v) r) (some (.long r)) (fm (s', l', x', y') (s', l', u', v') r) := mj_R_le (by decide) (pm_X12_row (fm_TR (s', l', x', y') r) _ _ s l u v _ e2)
    have ht : mj_R ic_P 121 12003 (.ref 124 :: []) (fm (s', l', x', y') (s', l', u', v') r) (some (.int 0)) (fm (s', l', x', y') (s', l', u', v') r) := by
      have z := mj_R_le (d' := 121) (by decide) (pm_X12_thrown (fm_TR (s', l', x', y') r) s' l' u' v' (u' 1, s', l', u', v') rfl)
      have z9 : pm_rI (u' 1) = some (.int 0) := by rw [e3]; rfl
      exact z9 ▸ z
    exact ⟨s', l', x', y', u', v', r, [(6, .long r), (5, .int 0)], 1, lc_44 h1 h2 hw (mj_ext_eq rfl) (fm_wM _ _ _) hm ht (fun _ => fm_o _ _ _) rfl rfl rfl rfl, Nat.le_refl _, e4, rfl⟩
  · have hq := mt_R_le (d' := 119) (by decide) (pt_X11_row_t2 (fm_TC (s, l, u, v) w) _ _ s l x y _ e1)
    have hw := ax_row_1 (l := lc) (d := 119) hl9 hMa (by decide) _ _ rfl (mj_all2 (lo_ref (by decide)) (mj_all2 (mj_wv_int _) (mj_all2 (mj_wv_int _) (mj_all2 (lo_ref (by decide)) lo_nil)))) (fm_wM _ _ _) hq
    have hm : mj_R ic_P 121 12169 (.ref 124 :: [.int (xs (i + Int32.ofInt 1).toNatClampNeg), .int (xs (i + Int32.ofInt 2).toNatClampNeg)]) (fm (s, l, x, y) (s, l, u, v) w) (some (.long r)) (fm (s, l, x, y) (s, l, u', v') w) := mj_R_le (by decide) (pm_X12_row (fm_TR (s, l, x, y) w) _ _ s l u v _ e2)
    have ht : mj_R ic_P 121 12003 (.ref 124 :: []) (fm (s, l, x, y) (s, l, u', v') w) (some (.int (Int32.ofInt 1))) (fm (s, l, x, y) (s, l, u', v') w) := by
      have z := mj_R_le (d' := 121) (by decide) (pm_X12_thrown (fm_TR (s, l, x, y) w) s l u' v' (u' 1, s, l, u', v') rfl)
      have z9 : pm_rI (u' 1) = some (.int (Int32.ofInt 1)) := by rw [e3]; rfl
      exact z9 ▸ z
    exact ⟨s, l, x, y, u', v', w, [(6, .long r), (5, .int (Int32.ofInt 1))], 1, lc_44 h1 h2 hw mj_ext_rf (fm_wM _ _ _) hm ht (fun h => absurd h (by decide)) rfl rfl rfl rfl, Nat.le_refl _, e4, rfl⟩

set_option maxRecDepth 20000 in
theorem lo_45 {lc : Launch} (hl9 : lc.stackTraces = false) (hMa : mj_MaOk vwCl ic_ty mj_AW) {k : Nat} {s : Nat → Int32} {l : Nat → Int64} {x : Nat → Int32} {y : Nat → Int64} {u : Nat → Int32} {v : Nat → Int64} {w : Int64} (hV : q_V k s l x y u v) (hk : k < 512) {L : Nat} {xs : Nat → Int32} {i : Int32} (h1 : vp_in (i + Int32.ofInt 1) L) : lo_ok lc L xs 3220 i k (fm (s, l, x, y) (s, l, u, v) w) := by
  rcases q_O_comes (a := (xs (i + Int32.ofInt 1).toNatClampNeg)) hV hk with ⟨r, s', l', x', y', u', v', e1, e2, e3, e4⟩ | ⟨⟨r, u', v', e2, e3, e4⟩, e1⟩ | ⟨⟨r, u', v', e2, e3, e4⟩, e1⟩
  · have hr : mj_R ic_P 120 11046 (.ref 0 :: [.int (xs (i + Int32.ofInt 1).toNatClampNeg)]) (fm (s, l, x, y) (s, l, u, v) w) (some (.long r)) (fm (s', l', x', y') (s, l, u, v) w) := mj_R_le (by decide) (pm_X11_comes (fm_TC (s, l, u, v) w) _ s l x y _ e1)
    obtain ⟨n, S', i9, k9, r9, g1, g2, g3, g4, g5⟩ := aw_comes _ r rfl rfl hr
    have hw := mw_ret (l := lc) (hh := ih_comes) ic_Good hMa ig_comes (by decide +kernel) (Nat.le_of_ble_eq_true rfl) g1 g2 g3 (mj_all2 (lo_ref (by decide)) (mj_all2 (mj_wv_int _) (mj_all2 (lo_ref (by decide)) lo_nil))) (fm_wM _ _ _)
    rw [g4, g5, fm_out] at hw
    have hm : mj_R ic_P 121 12123 (.ref 124 :: [.int (xs (i + Int32.ofInt 1).toNatClampNeg)]) (fm (s', l', x', y') (s, l, u, v) r) (some (.long r)) (fm (s', l', x', y') (s', l', u', v') r) := mj_R_le (by decide) (pm_X12_comes (fm_TR (s', l', x', y') r) _ s l u v _ e2)
    have ht : mj_R ic_P 121 12003 (.ref 124 :: []) (fm (s', l', x', y') (s', l', u', v') r) (some (.int 0)) (fm (s', l', x', y') (s', l', u', v') r) := by
      have z := mj_R_le (d' := 121) (by decide) (pm_X12_thrown (fm_TR (s', l', x', y') r) s' l' u' v' (u' 1, s', l', u', v') rfl)
      have z9 : pm_rI (u' 1) = some (.int 0) := by rw [e3]; rfl
      exact z9 ▸ z
    exact ⟨s', l', x', y', u', v', r, [(6, .long r), (5, .int 0)], 1, lc_45 h1 hw (mj_ext_eq rfl) (fm_wM _ _ _) hm ht (fun _ => fm_o _ _ _) rfl rfl rfl rfl, Nat.le_refl _, e4, rfl⟩
  · have hq := mt_R_le (d' := 119) (by decide) (pt_X11_comes_t1 (fm_TC (s, l, u, v) w) _ s l x y _ e1)
    have hw := ax_comes_1 (l := lc) (d := 119) hl9 hMa (by decide) _ rfl (mj_all2 (lo_ref (by decide)) (mj_all2 (mj_wv_int _) (mj_all2 (lo_ref (by decide)) lo_nil))) (fm_wM _ _ _) hq
    have hm : mj_R ic_P 121 12123 (.ref 124 :: [.int (xs (i + Int32.ofInt 1).toNatClampNeg)]) (fm (s, l, x, y) (s, l, u, v) w) (some (.long r)) (fm (s, l, x, y) (s, l, u', v') w) := mj_R_le (by decide) (pm_X12_comes (fm_TR (s, l, x, y) w) _ s l u v _ e2)
    have ht : mj_R ic_P 121 12003 (.ref 124 :: []) (fm (s, l, x, y) (s, l, u', v') w) (some (.int (Int32.ofInt 1))) (fm (s, l, x, y) (s, l, u', v') w) := by
      have z := mj_R_le (d' := 121) (by decide) (pm_X12_thrown (fm_TR (s, l, x, y) w) s l u' v' (u' 1, s, l, u', v') rfl)
      have z9 : pm_rI (u' 1) = some (.int (Int32.ofInt 1)) := by rw [e3]; rfl
      exact z9 ▸ z
    exact ⟨s, l, x, y, u', v', w, [(6, .long r), (5, .int (Int32.ofInt 1))], 1, lc_45 h1 hw mj_ext_rf (fm_wM _ _ _) hm ht (fun h => absurd h (by decide)) rfl rfl rfl rfl, Nat.le_refl _, e4, rfl⟩
  · have hq := mt_R_le (d' := 119) (by decide) (pt_X11_comes_t3 (fm_TC (s, l, u, v) w) _ s l x y _ e1)
    have hw := ax_comes_2 (l := lc) (d := 119) hl9 hMa (by decide) _ rfl (mj_all2 (lo_ref (by decide)) (mj_all2 (mj_wv_int _) (mj_all2 (lo_ref (by decide)) lo_nil))) (fm_wM _ _ _) hq
    have hm : mj_R ic_P 121 12123 (.ref 124 :: [.int (xs (i + Int32.ofInt 1).toNatClampNeg)]) (fm (s, l, x, y) (s, l, u, v) w) (some (.long r)) (fm (s, l, x, y) (s, l, u', v') w) := mj_R_le (by decide) (pm_X12_comes (fm_TR (s, l, x, y) w) _ s l u v _ e2)
    have ht : mj_R ic_P 121 12003 (.ref 124 :: []) (fm (s, l, x, y) (s, l, u', v') w) (some (.int (Int32.ofInt 2))) (fm (s, l, x, y) (s, l, u', v') w) := by
      have z := mj_R_le (d' := 121) (by decide) (pm_X12_thrown (fm_TR (s, l, x, y) w) s l u' v' (u' 1, s, l, u', v') rfl)
      have z9 : pm_rI (u' 1) = some (.int (Int32.ofInt 2)) := by rw [e3]; rfl
      exact z9 ▸ z
    exact ⟨s, l, x, y, u', v', w, [(6, .long r), (5, .int (Int32.ofInt 2))], 1, lc_45 h1 hw mj_ext_rf (fm_wM _ _ _) hm ht (fun h => absurd h (by decide)) rfl rfl rfl rfl, Nat.le_refl _, e4, rfl⟩

/-! THE LAW, from its entry to its end, over the constructors' runs -/
theorem st_slt (zC zR : pj_Z) (w : Int64) : mj_slt (fm zC zR w) = 11746 := by
  show (fm_sh.map (fun q => q.2)).sum = 11746
  decide +kernel
theorem whole_of {p : Program} {e : Env} {s : State} {m : MethodId} {below : List Frame} {meth : Method} {c : Code} (l : Launch) (hl9 : l.stackTraces = false) (hMa : mj_MaOk vwCl ic_ty mj_AW) {fs : Nat → Int32} {fl : Nat → Int64} {fx : Nat → Int32} {fy : Nat → Int64} {fu : Nat → Int32} {fv : Nat → Int64} (hCt : st_Ct (fs, fl, fx, fy) (fs, fl, fu, fv)) (h0 : q_V 0 fs fl fx fy fu fv) {b L : Nat} {xs : Nat → Int32} (hL : L ≤ 3584) (C0 : lw_At p s m meth c b L xs) : W p l e room_1 s m #[Value.ref b] below meth c s.heap [] 0 0 (lw_Z below #[Value.ref b] s) (entryFrame m ([Value.ref b] : List Value).toArray 8) := by
  obtain ⟨hx, hb, hr, hml, hown, hts, hX, hbl, hlocks, hgv, hnm⟩ := id C0
  obtain ⟨ad, had, hXZ⟩ := st_XZ hts hgv b
  have hN := st_Nw hts
  obtain ⟨D, cy, hK⟩ := st_K hts (fun w hw => (hN w hw).1)
  have hC : mj_Cx mj_AW ic_Ns vwCl ic_P il_law 121 true p room_1 s m #[Value.ref b] meth c D cy (fun q => s.heap.size ≤ q) := ⟨hx, hb, hml, hnm, hown, fun w hw => hts w (mj_AW_tbl w hw), hK, fun w hw => (hN w hw).2, fun q h => h, fun _ => ⟨by show 121 + 1 ≤ 2048; omega, by show 64 * (121 + 1) ≤ 84000; omega⟩⟩
  have hl := lv_entry ([.ref b]) (n := 8) (Nat.le_of_ble_eq_true rfl)
  rw [lg_entry_eq]
  generalize (lg_sl ([.ref b]) ++ List.replicate (8 - (lg_sl ([.ref b])).length) Slot.unset).toArray = ls at hl ⊢
  have hl : lv_has ls 8 (mj_l ad [(0, .ref 4000000)]) := by
    show lv_has ls 8 [(0, .ref (ad 4000000))]
    rw [had]
    exact hl
  obtain ⟨lv9, ⟨n9, h⟩, hlv⟩ := lo_first (lc := l) (L := L) (xs := xs) hCt
  have hw : mj_wS (0, [(0, .ref 4000000)], [], st_M0) := by
    refine ⟨fun q hq => ?_, fun v h => (by cases h), fun a k i h => (by cases h)⟩
    cases List.mem_singleton.mp hq
    exact fun i e => by cases e; exact Or.inr (by decide)
  have hP0 : va_P D vwCl (mj_ws ic_ty cy ad st_M0) s.heap := fun k q h => by cases h
  have hD0 : va_D (fun q => s.heap.size ≤ q) (mj_ws ic_ty cy ad st_M0) := ⟨fun i j p q h => (by cases h), fun k q h => (by cases h)⟩
  have l9 : (fm (fs, fl, fx, fy) (fs, fl, fu, fv) 0).1.length = 195 := show fm_sh.length = 195 from (by decide +kernel)
  have s9 := st_slt (fs, fl, fx, fy) (fs, fl, fu, fv) 0
  refine ml_steps_ok ic_Good hMa ig_law il_Wt hC hX hbl (Nat.not_le.mpr hbl) n9 h hw had (cells := 0) (slots := 0) hXZ hP0 hD0 va_S.rf hl ?_ ?_ (fun ad' H1 locs1 ls1 g0 g1 g2 g3 g4 => ?_)
  · show 0 + ((fm (fs, fl, fx, fy) (fs, fl, fu, fv) 0).1.length - 0 + 0) ≤ 601024
    rw [l9]
    omega
  · show 0 + (mj_slt (fm (fs, fl, fx, fy) (fs, fl, fu, fv) 0) - 0 + 6 * 0) ≤ 7293034
    rw [s9]
    omega
  refine W.widen (k := 195) (n := 11746) ?_ ?_ ?_
  · show 0 + ((fm (fs, fl, fx, fy) (fs, fl, fu, fv) 0).1.length - 0 + 0) ≤ 195
    rw [l9]
    omega
  · show 0 + (mj_slt (fm (fs, fl, fx, fy) (fs, fl, fu, fv) 0) - 0 + 6 * 0) ≤ 11746
    rw [s9]
    omega
  have hd := Nat.div_add_mod L 7
  have hm := Nat.mod_lt L (show 0 < 7 by omega)
  refine lo_loop hl9 hMa hL hC hX hbl (Nat.not_le.mpr hbl) (L / 7) 0 (by omega) (by omega) h0 ((g0 4000000 (Or.inr (by omega))).trans had) (mj_XZ_ag g0 hXZ) g1 g2 g3 (lo_sub_lv g4 hlv) (by show 195 + L / 7 ≤ 601024; omega) (by show 11746 + 6 * (L / 7) ≤ 7293034; omega) (fun H2 locs2 ls2 f3 => ?_)
  refine va_forget (fun q hq => f3.2.2 q hq) ?_
  refine W.widen (k := 601024) (n := 7293034) (by omega) (by omega) ?_
  exact lw_ret hx hb hr hlocks (ig_law.1 _ _ _ lk_3282)

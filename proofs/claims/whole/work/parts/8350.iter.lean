/-! THE LAW'S LOOP -/
theorem lw_tr {l : Launch} {d L : Nat} {xs : Nat → Int32} {S S1 S' : mj_S} {e1 e2 : Nat} (h1 : lw_T l d L xs S S1 e1) (h2 : lw_T l d L xs S1 S' e2) : lw_T l d L xs S S' (e1 + e2) := by
  obtain ⟨n, h1⟩ := h1
  induction n generalizing S e1 with
  | zero =>
    obtain ⟨rfl, rfl⟩ := h1
    rw [Nat.zero_add]
    exact h2
  | succ n ih =>
    obtain ⟨Z, a1, a2, g1, g2, rfl⟩ := h1
    have := lw_go g1 (ih g2)
    rw [Nat.add_assoc]
    exact this
set_option maxRecDepth 100000 in
theorem lo_sub : ∀ L, L < 3585 → (Int32.ofNat L - (Int8.ofInt 7).toInt32).toInt = (L : Int) - 7 := by decide +kernel
theorem lo_in {k j L : Nat} (h : k + j < L) (hL : L ≤ 3584) : vp_in (Int32.ofNat (k + j)) L := vp_in_nI h (by omega)
theorem lo_gt {k L : Nat} (h : k + 7 ≤ L) (hL : L ≤ 3584) : ¬ Int32.ofNat L - (Int8.ofInt 7).toInt32 < Int32.ofNat k := by
  intro q
  have q := Int32.lt_iff_toInt_lt.mp q
  rw [lo_sub L (by omega), Int32.toInt_ofNat_of_lt (by omega)] at q
  omega
theorem lo_le {k L : Nat} (h : L < k + 7) (hk : k ≤ 4000) (hL : L ≤ 3584) : Int32.ofNat L - (Int8.ofInt 7).toInt32 < Int32.ofNat k := by
  apply Int32.lt_iff_toInt_lt.mpr
  rw [lo_sub L (by omega), Int32.toInt_ofNat_of_lt (by omega)]
  omega
theorem lo_ad (k : Nat) (j : Nat) : Int32.ofNat k + Int32.ofNat j = Int32.ofNat (k + j) := (Int32.ofNat_add k j).symm
section LOL
variable {lc : Launch} {L : Nat} {xs : Nat → Int32}
theorem lo_iter (hl9 : lc.stackTraces = false) (hMa : mj_MaOk vwCl ic_ty mj_AW) {k : Nat} {s : Nat → Int32} {l : Nat → Int64} {x : Nat → Int32} {y : Nat → Int64} {u : Nat → Int32} {v : Nat → Int64} {w : Int64} (hV : q_V k s l x y u v) (hk : k < 512) (hL : L ≤ 3584) (hi : 7 * k + 7 ≤ L) :
    ∃ (s' : Nat → Int32) (l' : Nat → Int64) (x' : Nat → Int32) (y' : Nat → Int64) (u' : Nat → Int32) (v' : Nat → Int64) (w' : Int64) (lv9 : List (Nat × Value)) (e : Nat), lw_T lc 121 L xs (23, lo_LV (Int32.ofNat (7 * k)), [], fm (s, l, x, y) (s, l, u, v) w) (23, lv9, [], fm (s', l', x', y') (s', l', u', v') w') e ∧ e ≤ 1 ∧ q_V (k + 1) s' l' x' y' u' v' ∧ ∀ q ∈ lo_LV (Int32.ofNat (7 * (k + 1))), q ∈ lv9 := by
  have a1 : vp_in (Int32.ofNat (7 * k) + Int32.ofInt 1) L := by rw [show Int32.ofInt 1 = Int32.ofNat 1 by decide, lo_ad]; exact lo_in (by omega) hL
  have a2 : vp_in (Int32.ofNat (7 * k) + Int32.ofInt 2) L := by rw [show Int32.ofInt 2 = Int32.ofNat 2 by decide, lo_ad]; exact lo_in (by omega) hL
  have a3 : vp_in (Int32.ofNat (7 * k) + Int32.ofInt 3) L := by rw [show Int32.ofInt 3 = Int32.ofNat 3 by decide, lo_ad]; exact lo_in (by omega) hL
  have a4 : vp_in (Int32.ofNat (7 * k) + Int32.ofInt 4) L := by rw [show Int32.ofInt 4 = Int32.ofNat 4 by decide, lo_ad]; exact lo_in (by omega) hL
  have a5 : vp_in (Int32.ofNat (7 * k) + Int32.ofInt 5) L := by rw [show Int32.ofInt 5 = Int32.ofNat 5 by decide, lo_ad]; exact lo_in (by omega) hL
  have a6 : vp_in (Int32.ofNat (7 * k) + (Int8.ofInt 6).toInt32) L := by rw [show (Int8.ofInt 6).toInt32 = Int32.ofNat 6 by decide, lo_ad]; exact lo_in (by omega) hL
  have a0 : vp_in (Int32.ofNat (7 * k)) L := vp_in_nI (show 7 * k < L by omega) (by omega)
  have fin : ∀ pc, lo_ok lc L xs pc (Int32.ofNat (7 * k)) k (fm (s, l, x, y) (s, l, u, v) w) → (∀ {S' : mj_S} {e : Nat}, lw_T lc 121 L xs (pc, lo_LV (Int32.ofNat (7 * k)), [], fm (s, l, x, y) (s, l, u, v) w) S' e → lw_T lc 121 L xs (23, lo_LV (Int32.ofNat (7 * k)), [], fm (s, l, x, y) (s, l, u, v) w) S' e) → ∃ (s' : Nat → Int32) (l' : Nat → Int64) (x' : Nat → Int32) (y' : Nat → Int64) (u' : Nat → Int32) (v' : Nat → Int64) (w' : Int64) (lv9 : List (Nat × Value)) (e : Nat), lw_T lc 121 L xs (23, lo_LV (Int32.ofNat (7 * k)), [], fm (s, l, x, y) (s, l, u, v) w) (23, lv9, [], fm (s', l', x', y') (s', l', u', v') w') e ∧ e ≤ 1 ∧ q_V (k + 1) s' l' x' y' u' v' ∧ ∀ q ∈ lo_LV (Int32.ofNat (7 * (k + 1))), q ∈ lv9 := by
    intro pc h hd
    obtain ⟨s', l', x', y', u', v', w', lvx, e, g1, g2, g3, g4⟩ := h
    refine ⟨s', l', x', y', u', v', w', _, e, hd (lw_tr (e2 := 0) g1 (lo_next g4)), g2, g3, fun q hq => ?_⟩
    have e7 : Int32.ofNat (7 * k) + Int32.ofInt 7 = Int32.ofNat (7 * (k + 1)) := by
      rw [show Int32.ofInt 7 = Int32.ofNat 7 by decide, lo_ad]
      rfl
    rcases List.mem_cons.mp hq with rfl | hq
    · rw [e7]; exact List.mem_cons_self
    · refine List.mem_cons_of_mem _ (List.mem_filter.mpr ⟨List.mem_append_right _ (List.mem_cons_of_mem _ hq), ?_⟩)
      simp only [List.mem_cons, List.not_mem_nil, or_false] at hq
      rcases hq with rfl | rfl | rfl | rfl <;> rfl
  obtain ⟨c, hc, h⟩ := lo_and (xs (Int32.ofNat (7 * k)).toNatClampNeg)
  refine fin (lo_to c) ?_ (fun {S' e} g => lo_head a0 (lo_gt (by omega) hL) (fun c2 hc2 h2 => ?_))
  · by_cases hb : c < 46
    · match c, hb with
      | 0, _ => exact lo_0 hl9 hMa hV hk a1
      | 1, _ => exact lo_1 hl9 hMa hV hk a1
      | 2, _ => exact lo_2 hl9 hMa hV hk a1
      | 3, _ => exact lo_3 hl9 hMa hV hk a1
      | 4, _ => exact lo_4 hl9 hMa hV hk a1 a2
      | 5, _ => exact lo_5 hl9 hMa hV hk a1
      | 6, _ => exact lo_6 hl9 hMa hV hk a1 a2
      | 7, _ => exact lo_7 hl9 hMa hV hk a1
      | 8, _ => exact lo_8 hl9 hMa hV hk a1 a2
      | 9, _ => exact lo_9 hl9 hMa hV hk a1 a2 a3 a4
      | 10, _ => exact lo_10 hl9 hMa hV hk a1 a2 a3 a4 a5
      | 11, _ => exact lo_11 hl9 hMa hV hk a1 a2 a3
      | 12, _ => exact lo_12 hl9 hMa hV hk a1 a2
      | 13, _ => exact lo_13 hl9 hMa hV hk a1 a2 a3 a4 a5 a6
      | 14, _ => exact lo_14 hl9 hMa hV hk a1 a2 a3 a4
      | 15, _ => exact lo_15 hl9 hMa hV hk a1 a2 a3
      | 16, _ => exact lo_16 hl9 hMa hV hk a1 a2
      | 17, _ => exact lo_17 hl9 hMa hV hk a1
      | 18, _ => exact lo_18 hl9 hMa hV hk a1 a2 a3
      | 19, _ => exact lo_19 hl9 hMa hV hk a1 a2
      | 20, _ => exact lo_20 hl9 hMa hV hk a1
      | 21, _ => exact lo_21 hl9 hMa hV hk a1
      | 22, _ => exact lo_22 hl9 hMa hV hk a1 a2
      | 23, _ => exact lo_23 hl9 hMa hV hk a1 a2 a3 a4 a5 a6
      | 24, _ => exact lo_24 hl9 hMa hV hk a1
      | 25, _ => exact lo_25 hl9 hMa hV hk 
      | 26, _ => exact lo_26 hl9 hMa hV hk a1
      | 27, _ => exact lo_27 hl9 hMa hV hk a1 a2
      | 28, _ => exact lo_28 hl9 hMa hV hk a1 a2
      | 29, _ => exact lo_29 hl9 hMa hV hk a1 a2
      | 30, _ => exact lo_30 hl9 hMa hV hk a1 a2
      | 31, _ => exact lo_31 hl9 hMa hV hk a1
      | 32, _ => exact lo_32 hl9 hMa hV hk a1 a2
      | 33, _ => exact lo_33 hl9 hMa hV hk a1 a2
      | 34, _ => exact lo_34 hl9 hMa hV hk a1
      | 35, _ => exact lo_35 hl9 hMa hV hk a1 a2 a3
      | 36, _ => exact lo_36 hl9 hMa hV hk a1 a2
      | 37, _ => exact lo_37 hl9 hMa hV hk a1
      | 38, _ => exact lo_38 hl9 hMa hV hk a1
      | 39, _ => exact lo_39 hl9 hMa hV hk a1 a2
      | 40, _ => exact lo_40 hl9 hMa hV hk a1 a2 a3
      | 41, _ => exact lo_41 hl9 hMa hV hk a1
      | 42, _ => exact lo_42 hl9 hMa hV hk 
      | 43, _ => exact lo_43 hl9 hMa hV hk a1 a2 a3 a4
      | 44, _ => exact lo_44 hl9 hMa hV hk a1 a2
      | 45, _ => exact lo_45 hl9 hMa hV hk a1
      | n + 46, hb => omega
    · have e1 : lo_to c = 3275 := by
        have : ∀ c, c < 64 → ¬ c < 46 → lo_to c = 3275 := by decide
        exact this c hc hb
      rw [e1]
      exact ⟨s, l, x, y, u, v, w, [], 0, lw_rf, Nat.zero_le _, q_V_m hV, rfl⟩
  · have : c2 = c := by
      rw [h] at h2
      have h2 := congrArg Int32.toInt h2
      rw [Int32.toInt_ofNat_of_lt (by omega), Int32.toInt_ofNat_of_lt (by omega)] at h2
      omega
    rw [this]
    exact g
end LOL

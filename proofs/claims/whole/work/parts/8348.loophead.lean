/-! THE LAW'S LOOP: its head and its end -/
theorem lo_and (x : Int32) : ∃ c, c < 64 ∧ x &&& (Int8.ofInt 63).toInt32 = Int32.ofNat c := by
  have e : (Int8.ofInt 63).toInt32 = 63 := by decide
  rw [e]
  obtain ⟨j, hj, h⟩ := pk_andE x (m := 63) 6 (by decide)
  exact ⟨j, hj, h⟩
def lo_to (c : Nat) : Nat := match c with
  | 0 => 240
  | 1 => 281
  | 2 => 337
  | 3 => 393
  | 4 => 449
  | 5 => 517
  | 6 => 573
  | 7 => 664
  | 8 => 720
  | 9 => 788
  | 10 => 860
  | 11 => 944
  | 12 => 1024
  | 13 => 1092
  | 14 => 1190
  | 15 => 1282
  | 16 => 1362
  | 17 => 1430
  | 18 => 1486
  | 19 => 1566
  | 20 => 1634
  | 21 => 1713
  | 22 => 1776
  | 23 => 1844
  | 24 => 1962
  | 25 => 2018
  | 26 => 2031
  | 27 => 2086
  | 28 => 2154
  | 29 => 2222
  | 30 => 2289
  | 31 => 2357
  | 32 => 2413
  | 33 => 2481
  | 34 => 2572
  | 35 => 2628
  | 36 => 2715
  | 37 => 2783
  | 38 => 2839
  | 39 => 2895
  | 40 => 2963
  | 41 => 3043
  | 42 => 3068
  | 43 => 3081
  | 44 => 3153
  | 45 => 3220
  | _ => 3275
section LOH
variable {lc : Launch} {L : Nat} {xs : Nat → Int32} {i : Int32} {M : mj_M} {S' : mj_S} {e : Nat}
set_option maxRecDepth 20000 in
theorem lo_sw {c : Nat} (hc : c < 64) (k : lw_T lc 121 L xs (lo_to c, lo_LV i, [], M) S' e) : lw_T lc 121 L xs (40, lo_LV i, [.int (Int32.ofNat c)], M) S' e := by
  have key : ∀ c, c < 64 → mj_br (.tableswitch 3235 0 45 #[200, 241, 297, 353, 409, 477, 533, 624, 680, 748, 820, 904, 984, 1052, 1150, 1242, 1322, 1390, 1446, 1526, 1594, 1673, 1736, 1804, 1922, 1978, 1991, 2046, 2114, 2182, 2249, 2317, 2373, 2441, 2532, 2588, 2675, 2743, 2799, 2855, 2923, 3003, 3028, 3041, 3113, 3180]) 200 40 [.int (Int32.ofNat c)] = some (lo_to c, []) := by decide +kernel
  refine lw_one (S1 := (lo_to c, lo_LV i, [], M)) lk_40 ?_ k
  unfold mj_one mj_one0
  dsimp only
  rw [key c hc]
  rfl
set_option maxRecDepth 20000 in
theorem lo_head (hi : vp_in i L) (hg : ¬ Int32.ofNat L - (Int8.ofInt 7).toInt32 < i) (k : ∀ c, c < 64 → xs i.toNatClampNeg &&& (Int8.ofInt 63).toInt32 = Int32.ofNat c → lw_T lc 121 L xs (lo_to c, lo_LV i, [], M) S' e) : lw_T lc 121 L xs (23, lo_LV i, [], M) S' e := by
  obtain ⟨c, hc, h⟩ := lo_and (xs i.toNatClampNeg)
  refine lw_one lk_23 rfl ?_
  refine lw_one lk_25 rfl ?_
  refine lw_len lk_26 ?_
  refine lw_one lk_27 rfl ?_
  refine lw_one lk_29 rfl ?_
  refine lw_br (c := mj_c .gt i (Int32.ofNat L - (Int8.ofInt 7).toInt32)) (off := 3251) (t := 3281) (r := []) lk_30 rfl rfl rfl rfl rfl (fun h => absurd (of_decide_eq_true h) hg) (fun _ => ?_)
  refine lw_one lk_33 rfl ?_
  refine lw_one lk_34 rfl ?_
  refine lw_ld lk_36 hi ?_
  refine lw_one lk_37 rfl ?_
  refine lw_one lk_39 rfl ?_
  show lw_T lc 121 L xs (40, lo_LV i, [.int (xs i.toNatClampNeg &&& (Int8.ofInt 63).toInt32)], M) S' e
  rw [h]
  exact lo_sw hc (k c hc h)

set_option maxRecDepth 20000 in
theorem lo_end (hg : Int32.ofNat L - (Int8.ofInt 7).toInt32 < i) : lw_T lc 121 L xs (23, lo_LV i, [], M) (3282, lo_LV i, [.int (Int32.ofInt 1)], M) 0 := by
  refine lw_one lk_23 rfl ?_
  refine lw_one lk_25 rfl ?_
  refine lw_len lk_26 ?_
  refine lw_one lk_27 rfl ?_
  refine lw_one lk_29 rfl ?_
  refine lw_br (c := mj_c .gt i (Int32.ofNat L - (Int8.ofInt 7).toInt32)) (off := 3251) (t := 3281) (r := []) lk_30 rfl rfl rfl rfl rfl (fun _ => ?_) (fun h => absurd hg (of_decide_eq_false h))
  exact lw_one lk_3281 rfl lw_rf

set_option maxRecDepth 20000 in
theorem lo_next {lvx : List (Nat × Value)} (hx : mj_at (lvx ++ lo_LV i) 4 = some (.int i)) : lw_T lc 121 L xs (3275, lvx ++ lo_LV i, [], M) (23, (4, .int (i + Int32.ofInt 7)) :: (lvx ++ lo_LV i).filter (mj_keep1 4), [], M) 0 := by
  refine lw_one (S1 := (3278, (4, .int (i + Int32.ofInt 7)) :: (lvx ++ lo_LV i).filter (mj_keep1 4), [], M)) lk_3275 ?_ (lw_one lk_3278 rfl lw_rf)
  have h9 : mj_loc (.iinc 4 7) 8 (lvx ++ lo_LV i) [] = some (3, (4, .int (i + Int32.ofInt 7)) :: (lvx ++ lo_LV i).filter (mj_keep1 4), []) := by
    unfold mj_loc mj_inc
    dsimp only
    rw [hx]
    rfl
  exact mj_or_l (mj_or_l (by show mj_lfL 3 3275 M (mj_loc (.iinc 4 7) 8 (lvx ++ lo_LV i) []) = _; rw [h9]; rfl))
end LOH

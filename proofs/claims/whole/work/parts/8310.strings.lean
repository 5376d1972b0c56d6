/-! STRINGS: the runs of String's own members over the two constants that are read -/
theorem ps_hrl {fl : mj_FL} {M : mj_M} {o : Nat} {r : List Value} (hM : M.1.length ≤ 1000000) (ho : 1000000 ≤ o) : mj_hr fl .arraylength M (.ref o :: r) = none := by
  have e : ∀ kd, mj_len M kd o = none := fun kd => by
    unfold mj_len
    rw [List.getElem?_eq_none (by omega)]
  show mj_or (mj_aln 100 M (.ref o :: r)) (mj_or (mj_aln 101 M (.ref o :: r)) (mj_or (mj_aln 102 M (.ref o :: r)) (mj_or (mj_aln 103 M (.ref o :: r)) (mj_aln 104 M (.ref o :: r))))) = none
  unfold mj_aln
  dsimp only
  rw [e, e, e, e, e]
  rfl
theorem ps_hrb {fl : mj_FL} {M : mj_M} {o : Nat} {j : Int32} {r : List Value} (hM : M.1.length ≤ 1000000) (ho : 1000000 ≤ o) : mj_hr fl .baload M (.int j :: .ref o :: r) = none := by
  have e : ∀ kd, mj_len M kd o = none := fun kd => by
    unfold mj_len
    rw [List.getElem?_eq_none (by omega)]
  unfold mj_hr mj_ald
  dsimp only
  rw [e]
theorem ps_dn {M : mj_M} {r9 r : Option Value} {M9 : mj_M} (h : r9 = r) (h2 : M9 = M) : r9 = r ∧ M9 = M := ⟨h, h2⟩
set_option maxRecDepth 20000 in
theorem ps_coder0 {d : Nat} {M : mj_M} : mj_R ic_P (d + 1) 20004 [.ref 2000000] M (some (.int 0)) M := by
  refine mj_wp_Rb (P := ic_P) (Y := ie_J0_coder_7d493.1) rfl (Nat.le_of_ble_eq_true rfl) ?_
  refine mj_wp_one rfl rfl ?_
  refine mj_wp_one rfl rfl ?_
  refine mj_wp_one rfl rfl ?_
  refine mj_wp_one rfl rfl ?_
  refine mj_wp_one rfl rfl ?_
  exact mj_wp_ret rfl rfl ⟨rfl, rfl⟩
set_option maxRecDepth 20000 in
theorem ps_lat0 {d : Nat} {M : mj_M} : mj_R ic_P (d + 1) 20005 [.ref 2000000] M (some (.int 1)) M := by
  refine mj_wp_Rb (P := ic_P) (Y := ie_J0_isLatin1_aae02.1) rfl (Nat.le_of_ble_eq_true rfl) ?_
  refine mj_wp_one rfl rfl ?_
  refine mj_wp_one rfl rfl ?_
  refine mj_wp_one rfl rfl ?_
  refine mj_wp_one rfl rfl ?_
  refine mj_wp_one rfl rfl ?_
  refine mj_wp_one rfl rfl ?_
  refine mj_wp_one rfl rfl ?_
  exact mj_wp_ret rfl rfl ⟨rfl, rfl⟩
set_option maxRecDepth 20000 in
theorem ps_len0 {d : Nat} {M : mj_M} (hM : M.1.length ≤ 1000000) : mj_R ic_P (d + 2) 20000 [.ref 2000000] M (some (.int 17)) M := by
  refine mj_wp_Rb (P := ic_P) (Y := ie_J0_length_8abf5.1) rfl (Nat.le_of_ble_eq_true rfl) ?_
  refine mj_wp_one rfl rfl ?_
  refine mj_wp_one rfl rfl ?_
  refine pj_g_xr rfl rfl (ps_hrl hM (by omega)) rfl rfl rfl rfl rfl ?_
  refine mj_wp_one rfl rfl ?_
  refine mj_wp_call (v := some (.int 0)) rfl rfl (ps_coder0 (d := d)) ?_
  refine mj_wp_one rfl rfl ?_
  exact mj_wp_ret rfl rfl ⟨rfl, rfl⟩
set_option maxRecDepth 20000 in
theorem ps_coder1 {d : Nat} {M : mj_M} : mj_R ic_P (d + 1) 20004 [.ref 2000002] M (some (.int 0)) M := by
  refine mj_wp_Rb (P := ic_P) (Y := ie_J0_coder_7d493.1) rfl (Nat.le_of_ble_eq_true rfl) ?_
  refine mj_wp_one rfl rfl ?_
  refine mj_wp_one rfl rfl ?_
  refine mj_wp_one rfl rfl ?_
  refine mj_wp_one rfl rfl ?_
  refine mj_wp_one rfl rfl ?_
  exact mj_wp_ret rfl rfl ⟨rfl, rfl⟩
set_option maxRecDepth 20000 in
theorem ps_lat1 {d : Nat} {M : mj_M} : mj_R ic_P (d + 1) 20005 [.ref 2000002] M (some (.int 1)) M := by
  refine mj_wp_Rb (P := ic_P) (Y := ie_J0_isLatin1_aae02.1) rfl (Nat.le_of_ble_eq_true rfl) ?_
  refine mj_wp_one rfl rfl ?_
  refine mj_wp_one rfl rfl ?_
  refine mj_wp_one rfl rfl ?_
  refine mj_wp_one rfl rfl ?_
  refine mj_wp_one rfl rfl ?_
  refine mj_wp_one rfl rfl ?_
  refine mj_wp_one rfl rfl ?_
  exact mj_wp_ret rfl rfl ⟨rfl, rfl⟩
set_option maxRecDepth 20000 in
theorem ps_len1 {d : Nat} {M : mj_M} (hM : M.1.length ≤ 1000000) : mj_R ic_P (d + 2) 20000 [.ref 2000002] M (some (.int 8)) M := by
  refine mj_wp_Rb (P := ic_P) (Y := ie_J0_length_8abf5.1) rfl (Nat.le_of_ble_eq_true rfl) ?_
  refine mj_wp_one rfl rfl ?_
  refine mj_wp_one rfl rfl ?_
  refine pj_g_xr rfl rfl (ps_hrl hM (by omega)) rfl rfl rfl rfl rfl ?_
  refine mj_wp_one rfl rfl ?_
  refine mj_wp_call (v := some (.int 0)) rfl rfl (ps_coder1 (d := d)) ?_
  refine mj_wp_one rfl rfl ?_
  exact mj_wp_ret rfl rfl ⟨rfl, rfl⟩
set_option maxRecDepth 20000 in
theorem ps_pre {d : Nat} {M : mj_M} {i n : Int32} (h0 : ¬ i < 0) (h1 : i < n) : mj_R ic_P (d + 1) 23000 [.int i, .int n, .retAddr 0] M (some (.int i)) M := by
  refine mj_wp_Rb (P := ic_P) (Y := ie_J3_checkIndex_8e157.1) rfl (Nat.le_of_ble_eq_true rfl) ?_
  refine mj_wp_one rfl rfl ?_
  refine mj_wp_one rfl rfl ?_
  refine mj_wp_if (c := mj_c .lt i 0) (fun h => absurd (of_decide_eq_true h) h0) (fun _ => ?_)
  refine mj_wp_one rfl rfl ?_
  refine mj_wp_one rfl rfl ?_
  refine mj_wp_one rfl rfl ?_
  refine mj_wp_if (c := mj_c .lt i n) (fun _ => ?_) (fun h => absurd h1 (of_decide_eq_false h))
  refine mj_wp_one rfl rfl ?_
  exact mj_wp_ret rfl rfl ⟨rfl, rfl⟩
set_option maxRecDepth 20000 in
theorem ps_chk {d : Nat} {M : mj_M} {i n : Int32} (h0 : ¬ i < 0) (h1 : i < n) : mj_R ic_P (d + 2) 20006 [.int i, .int n] M none M := by
  refine mj_wp_Rb (P := ic_P) (Y := ie_J0_checkIndex_df160.1) rfl (Nat.le_of_ble_eq_true rfl) ?_
  refine mj_wp_one rfl rfl ?_
  refine mj_wp_one rfl rfl ?_
  refine mj_wp_one rfl rfl ?_
  refine mj_wp_call (v := some (.int i)) rfl rfl (ps_pre (d := d) h0 h1) ?_
  refine mj_wp_one rfl rfl ?_
  exact mj_wp_ret rfl rfl ⟨rfl, rfl⟩
theorem ps_rch {ret : Option FieldType} {x : Int32} (hr : ret = some .char) (hx : (x.toUInt32 % 65536).toInt32 = x) : mj_rt ret .ireturn 1 [.int x] = some (some (.int x)) := by
  unfold mj_rt mj_ret
  rw [if_pos rfl]
  exact if_pos (Or.inr (Or.inr (Or.inl ⟨hr, hx⟩)))
def ps_b0 (k : Nat) : Int32 := ([84, 49, 54, 69, 78, 71, 73, 78, 69, 48, 48, 48, 48, 48, 48, 48, 49] : List Int32).getD k 0
def ps_b1 (k : Nat) : Int32 := ([115, 112, 116, 108, 118, 107, 109, 110] : List Int32).getD k 0
def ps_ch (x : Int32) : Int32 := ((x &&& 255).toUInt32 % 65536).toInt32
theorem ps_ch0 : ∀ n, n < 17 → ps_ch (ps_b0 n) = ps_b0 n ∧ ((ps_b0 n).toUInt32 % 65536).toInt32 = ps_b0 n := by decide +kernel
theorem ps_ln {i : Int32} {n : Nat} (h0 : ¬ i < 0) (h1 : i < Int32.ofNat n) (hn : n < 2000) : i.toNatClampNeg < n := by
  have a := Int32.lt_iff_toInt_lt.mp h1
  have b := Int32.not_lt.mp h0
  have b := Int32.le_iff_toInt_le.mp b
  rw [Int32.toInt_ofNat_of_lt (by omega)] at a
  have z : (0 : Int32).toInt = 0 := by decide
  rw [z] at b
  show i.toInt.toNat < n
  omega
set_option maxRecDepth 20000 in
theorem ps_lch {d : Nat} {M : mj_M} {i : Int32} (hM : M.1.length ≤ 1000000) (h0 : ¬ i < 0) (h1 : i < 17) : mj_R ic_P (d + 3) 21000 [.ref 2000001, .int i] M (some (.int (ps_b0 i.toNatClampNeg))) M := by
  have hl : i.toNatClampNeg < 17 := ps_ln (n := 17) h0 h1 (by decide)
  obtain ⟨e1, e2⟩ := ps_ch0 _ hl
  refine mj_wp_Rb (P := ic_P) (Y := ie_J1_charAt_3b067.1) rfl (Nat.le_of_ble_eq_true rfl) ?_
  refine mj_wp_one rfl rfl ?_
  refine mj_wp_one rfl rfl ?_
  refine pj_g_xr rfl rfl (ps_hrl hM (by omega)) rfl rfl rfl rfl rfl ?_
  refine mj_wp_call (v := none) (vs := [.int i, .int 17]) rfl rfl (ps_chk (d := d) h0 h1) ?_
  refine mj_wp_one rfl rfl ?_
  refine mj_wp_one rfl rfl ?_
  refine pj_g_xr (st' := [.int (ps_b0 i.toNatClampNeg)]) rfl rfl (ps_hrb hM (by omega)) rfl rfl rfl rfl ?_ ?_
  · show (if i < 0 ∨ 17 ≤ i.toNatClampNeg then none else some (1, [.int (ps_b0 i.toNatClampNeg)]) : Option (Nat × List Value)) = _
    exact if_neg (fun q => q.elim h0 (fun q => by omega))
  refine mj_wp_one rfl rfl ?_
  refine mj_wp_one rfl rfl ?_
  refine mj_wp_one rfl rfl ?_
  exact mj_wp_ret (r := some (.int (ps_ch (ps_b0 i.toNatClampNeg)))) rfl (show mj_rt _ .ireturn 1 [.int (ps_ch (ps_b0 i.toNatClampNeg))] = _ from ps_rch rfl (by rw [e1]; exact e2)) ⟨by rw [e1], rfl⟩
set_option maxRecDepth 20000 in
theorem ps_char {d : Nat} {M : mj_M} {i : Int32} (hM : M.1.length ≤ 1000000) (h0 : ¬ i < 0) (h1 : i < 17) : mj_R ic_P (d + 4) 20001 [.ref 2000000, .int i] M (some (.int (ps_b0 i.toNatClampNeg))) M := by
  have hl : i.toNatClampNeg < 17 := ps_ln (n := 17) h0 h1 (by decide)
  obtain ⟨e1, e2⟩ := ps_ch0 _ hl
  refine mj_wp_Rb (P := ic_P) (Y := ie_J0_charAt_5068e.1) rfl (Nat.le_of_ble_eq_true rfl) ?_
  refine mj_wp_one rfl rfl ?_
  refine mj_wp_call (v := some (.int 1)) rfl rfl (ps_lat0 (d := d + 2)) ?_
  refine mj_wp_one rfl rfl ?_
  refine mj_wp_one rfl rfl ?_
  refine mj_wp_one rfl rfl ?_
  refine mj_wp_one rfl rfl ?_
  refine mj_wp_call (v := some (.int (ps_b0 i.toNatClampNeg))) rfl rfl (ps_lch (d := d) hM h0 h1) ?_
  exact mj_wp_ret (r := some (.int (ps_b0 i.toNatClampNeg))) rfl (ps_rch rfl e2) ⟨rfl, rfl⟩
set_option maxRecDepth 20000 in
theorem ps_enc1 {d : Nat} {M : mj_M} {c : Int32} (h0 : ¬ c < 0) (h1 : ¬ 255 < c) : mj_R ic_P (d + 1) 21001 [.int c] M (some (.int 1)) M := by
  refine mj_wp_Rb (P := ic_P) (Y := ie_J1_canEncode_9a6ad.1) rfl (Nat.le_of_ble_eq_true rfl) ?_
  refine mj_wp_one rfl rfl ?_
  refine mj_wp_one rfl rfl ?_
  refine mj_wp_if (c := mj_c .lt c 0) (fun h => absurd (of_decide_eq_true h) h0) (fun _ => ?_)
  refine mj_wp_one rfl rfl ?_
  refine mj_wp_one rfl rfl ?_
  refine mj_wp_one rfl rfl ?_
  refine mj_wp_if (c := mj_c .gt c 255) (fun h => absurd (of_decide_eq_true h) h1) (fun _ => ?_)
  refine mj_wp_one rfl rfl ?_
  refine mj_wp_one rfl rfl ?_
  exact mj_wp_ret rfl rfl ⟨rfl, rfl⟩
set_option maxRecDepth 20000 in
theorem ps_enc0 {d : Nat} {M : mj_M} {c : Int32} (h0 : c < 0 ∨ 255 < c) : mj_R ic_P (d + 1) 21001 [.int c] M (some (.int 0)) M := by
  refine mj_wp_Rb (P := ic_P) (Y := ie_J1_canEncode_9a6ad.1) rfl (Nat.le_of_ble_eq_true rfl) ?_
  refine mj_wp_one rfl rfl ?_
  refine mj_wp_one rfl rfl ?_
  refine mj_wp_if (c := mj_c .lt c 0) (fun h => ?_) (fun h => ?_)
  · refine mj_wp_one rfl rfl ?_
    exact mj_wp_ret rfl rfl ⟨rfl, rfl⟩
  refine mj_wp_one rfl rfl ?_
  refine mj_wp_one rfl rfl ?_
  refine mj_wp_one rfl rfl ?_
  refine mj_wp_if (c := mj_c .gt c 255) (fun _ => ?_) (fun g => absurd h0 (fun q => q.elim (of_decide_eq_false h) (of_decide_eq_false g)))
  refine mj_wp_one rfl rfl ?_
  exact mj_wp_ret rfl rfl ⟨rfl, rfl⟩
def ps_l1 : List Int32 := [115, 112, 116, 108, 118, 107, 109, 110]
abbrev ps_lv (c e : Int32) (k : Int32) : List (Nat × Value) := [(5, .int k), (4, .int e), (0, .ref 2000003), (1, .int c), (2, .int 0), (3, .int 8)]
set_option maxRecDepth 20000 in
theorem ps_x8 {d : Nat} {M : mj_M} {c e : Int32} : mj_wp ic_P (mj_R ic_P d) true 21003 ie_J1_indexOfChar_4cfef.1 (7, ps_lv c e 8, [], M) (fun r M9 => r = some (.int (pj_sidf e (ps_l1.drop 8) 8)) ∧ M9 = M) := by
  refine mj_wp_one rfl rfl ?_
  refine mj_wp_one rfl rfl ?_
  refine mj_wp_one rfl rfl ?_
  refine mj_wp_one rfl rfl ?_
  exact mj_wp_ret rfl rfl ⟨rfl, rfl⟩
set_option maxRecDepth 20000 in
theorem ps_x7 {d : Nat} {M : mj_M} {c e : Int32} (hM : M.1.length ≤ 1000000) : mj_wp ic_P (mj_R ic_P d) true 21003 ie_J1_indexOfChar_4cfef.1 (7, ps_lv c e 7, [], M) (fun r M9 => r = some (.int (pj_sidf e (ps_l1.drop 7) 7)) ∧ M9 = M) := by
  refine mj_wp_one rfl rfl ?_
  refine mj_wp_one rfl rfl ?_
  refine mj_wp_one rfl rfl ?_
  refine mj_wp_one rfl rfl ?_
  refine mj_wp_one rfl rfl ?_
  refine pj_g_xr (st' := [.int 110]) rfl rfl (ps_hrb hM (by omega)) rfl rfl rfl rfl rfl ?_
  refine mj_wp_one rfl rfl ?_
  refine mj_wp_one rfl rfl ?_
  refine mj_wp_if (c := mj_c .ne (110 : Int32) e) (fun h => ?_) (fun h => ?_)
  · have h : ¬ (110 : Int32) = e := of_decide_eq_true h
    refine mj_wp_one (S' := (28, ps_lv c e (7 + Int32.ofInt 1), [], M)) rfl rfl ?_
    rw [show (7 : Int32) + Int32.ofInt 1 = 8 by decide]
    refine mj_wp_one rfl rfl ?_
    have go := ps_x8 (d := d) (M := M) (c := c) (e := e)
    rw [show pj_sidf e (ps_l1.drop 7) 7 = pj_sidf e (ps_l1.drop 8) 8 from if_neg h]
    exact go
  · have h : (110 : Int32) = e := Classical.byContradiction (fun q => by have := of_decide_eq_false h; exact this q)
    refine mj_wp_one rfl rfl ?_
    exact mj_wp_ret rfl rfl ⟨congrArg (fun z => some (Value.int z)) (show _ = pj_sidf e (ps_l1.drop 7) 7 from (if_pos h).symm), rfl⟩
set_option maxRecDepth 20000 in
theorem ps_x6 {d : Nat} {M : mj_M} {c e : Int32} (hM : M.1.length ≤ 1000000) : mj_wp ic_P (mj_R ic_P d) true 21003 ie_J1_indexOfChar_4cfef.1 (7, ps_lv c e 6, [], M) (fun r M9 => r = some (.int (pj_sidf e (ps_l1.drop 6) 6)) ∧ M9 = M) := by
  refine mj_wp_one rfl rfl ?_
  refine mj_wp_one rfl rfl ?_
  refine mj_wp_one rfl rfl ?_
  refine mj_wp_one rfl rfl ?_
  refine mj_wp_one rfl rfl ?_
  refine pj_g_xr (st' := [.int 109]) rfl rfl (ps_hrb hM (by omega)) rfl rfl rfl rfl rfl ?_
  refine mj_wp_one rfl rfl ?_
  refine mj_wp_one rfl rfl ?_
  refine mj_wp_if (c := mj_c .ne (109 : Int32) e) (fun h => ?_) (fun h => ?_)
  · have h : ¬ (109 : Int32) = e := of_decide_eq_true h
    refine mj_wp_one (S' := (28, ps_lv c e (6 + Int32.ofInt 1), [], M)) rfl rfl ?_
    rw [show (6 : Int32) + Int32.ofInt 1 = 7 by decide]
    refine mj_wp_one rfl rfl ?_
    have go := ps_x7 (d := d) (M := M) (c := c) (e := e) hM
    rw [show pj_sidf e (ps_l1.drop 6) 6 = pj_sidf e (ps_l1.drop 7) 7 from if_neg h]
    exact go
  · have h : (109 : Int32) = e := Classical.byContradiction (fun q => by have := of_decide_eq_false h; exact this q)
    refine mj_wp_one rfl rfl ?_
    exact mj_wp_ret rfl rfl ⟨congrArg (fun z => some (Value.int z)) (show _ = pj_sidf e (ps_l1.drop 6) 6 from (if_pos h).symm), rfl⟩
set_option maxRecDepth 20000 in
theorem ps_x5 {d : Nat} {M : mj_M} {c e : Int32} (hM : M.1.length ≤ 1000000) : mj_wp ic_P (mj_R ic_P d) true 21003 ie_J1_indexOfChar_4cfef.1 (7, ps_lv c e 5, [], M) (fun r M9 => r = some (.int (pj_sidf e (ps_l1.drop 5) 5)) ∧ M9 = M) := by
  refine mj_wp_one rfl rfl ?_
  refine mj_wp_one rfl rfl ?_
  refine mj_wp_one rfl rfl ?_
  refine mj_wp_one rfl rfl ?_
  refine mj_wp_one rfl rfl ?_
  refine pj_g_xr (st' := [.int 107]) rfl rfl (ps_hrb hM (by omega)) rfl rfl rfl rfl rfl ?_
  refine mj_wp_one rfl rfl ?_
  refine mj_wp_one rfl rfl ?_
  refine mj_wp_if (c := mj_c .ne (107 : Int32) e) (fun h => ?_) (fun h => ?_)
  · have h : ¬ (107 : Int32) = e := of_decide_eq_true h
    refine mj_wp_one (S' := (28, ps_lv c e (5 + Int32.ofInt 1), [], M)) rfl rfl ?_
    rw [show (5 : Int32) + Int32.ofInt 1 = 6 by decide]
    refine mj_wp_one rfl rfl ?_
    have go := ps_x6 (d := d) (M := M) (c := c) (e := e) hM
    rw [show pj_sidf e (ps_l1.drop 5) 5 = pj_sidf e (ps_l1.drop 6) 6 from if_neg h]
    exact go
  · have h : (107 : Int32) = e := Classical.byContradiction (fun q => by have := of_decide_eq_false h; exact this q)
    refine mj_wp_one rfl rfl ?_
    exact mj_wp_ret rfl rfl ⟨congrArg (fun z => some (Value.int z)) (show _ = pj_sidf e (ps_l1.drop 5) 5 from (if_pos h).symm), rfl⟩
set_option maxRecDepth 20000 in
theorem ps_x4 {d : Nat} {M : mj_M} {c e : Int32} (hM : M.1.length ≤ 1000000) : mj_wp ic_P (mj_R ic_P d) true 21003 ie_J1_indexOfChar_4cfef.1 (7, ps_lv c e 4, [], M) (fun r M9 => r = some (.int (pj_sidf e (ps_l1.drop 4) 4)) ∧ M9 = M) := by
  refine mj_wp_one rfl rfl ?_
  refine mj_wp_one rfl rfl ?_
  refine mj_wp_one rfl rfl ?_
  refine mj_wp_one rfl rfl ?_
  refine mj_wp_one rfl rfl ?_
  refine pj_g_xr (st' := [.int 118]) rfl rfl (ps_hrb hM (by omega)) rfl rfl rfl rfl rfl ?_
  refine mj_wp_one rfl rfl ?_
  refine mj_wp_one rfl rfl ?_
  refine mj_wp_if (c := mj_c .ne (118 : Int32) e) (fun h => ?_) (fun h => ?_)
  · have h : ¬ (118 : Int32) = e := of_decide_eq_true h
    refine mj_wp_one (S' := (28, ps_lv c e (4 + Int32.ofInt 1), [], M)) rfl rfl ?_
    rw [show (4 : Int32) + Int32.ofInt 1 = 5 by decide]
    refine mj_wp_one rfl rfl ?_
    have go := ps_x5 (d := d) (M := M) (c := c) (e := e) hM
    rw [show pj_sidf e (ps_l1.drop 4) 4 = pj_sidf e (ps_l1.drop 5) 5 from if_neg h]
    exact go
  · have h : (118 : Int32) = e := Classical.byContradiction (fun q => by have := of_decide_eq_false h; exact this q)
    refine mj_wp_one rfl rfl ?_
    exact mj_wp_ret rfl rfl ⟨congrArg (fun z => some (Value.int z)) (show _ = pj_sidf e (ps_l1.drop 4) 4 from (if_pos h).symm), rfl⟩
set_option maxRecDepth 20000 in
theorem ps_x3 {d : Nat} {M : mj_M} {c e : Int32} (hM : M.1.length ≤ 1000000) : mj_wp ic_P (mj_R ic_P d) true 21003 ie_J1_indexOfChar_4cfef.1 (7, ps_lv c e 3, [], M) (fun r M9 => r = some (.int (pj_sidf e (ps_l1.drop 3) 3)) ∧ M9 = M) := by
  refine mj_wp_one rfl rfl ?_
  refine mj_wp_one rfl rfl ?_
  refine mj_wp_one rfl rfl ?_
  refine mj_wp_one rfl rfl ?_
  refine mj_wp_one rfl rfl ?_
  refine pj_g_xr (st' := [.int 108]) rfl rfl (ps_hrb hM (by omega)) rfl rfl rfl rfl rfl ?_
  refine mj_wp_one rfl rfl ?_
  refine mj_wp_one rfl rfl ?_
  refine mj_wp_if (c := mj_c .ne (108 : Int32) e) (fun h => ?_) (fun h => ?_)
  · have h : ¬ (108 : Int32) = e := of_decide_eq_true h
    refine mj_wp_one (S' := (28, ps_lv c e (3 + Int32.ofInt 1), [], M)) rfl rfl ?_
    rw [show (3 : Int32) + Int32.ofInt 1 = 4 by decide]
    refine mj_wp_one rfl rfl ?_
    have go := ps_x4 (d := d) (M := M) (c := c) (e := e) hM
    rw [show pj_sidf e (ps_l1.drop 3) 3 = pj_sidf e (ps_l1.drop 4) 4 from if_neg h]
    exact go
  · have h : (108 : Int32) = e := Classical.byContradiction (fun q => by have := of_decide_eq_false h; exact this q)
    refine mj_wp_one rfl rfl ?_
    exact mj_wp_ret rfl rfl ⟨congrArg (fun z => some (Value.int z)) (show _ = pj_sidf e (ps_l1.drop 3) 3 from (if_pos h).symm), rfl⟩
set_option maxRecDepth 20000 in
theorem ps_x2 {d : Nat} {M : mj_M} {c e : Int32} (hM : M.1.length ≤ 1000000) : mj_wp ic_P (mj_R ic_P d) true 21003 ie_J1_indexOfChar_4cfef.1 (7, ps_lv c e 2, [], M) (fun r M9 => r = some (.int (pj_sidf e (ps_l1.drop 2) 2)) ∧ M9 = M) := by
  refine mj_wp_one rfl rfl ?_
  refine mj_wp_one rfl rfl ?_
  refine mj_wp_one rfl rfl ?_
  refine mj_wp_one rfl rfl ?_
  refine mj_wp_one rfl rfl ?_
  refine pj_g_xr (st' := [.int 116]) rfl rfl (ps_hrb hM (by omega)) rfl rfl rfl rfl rfl ?_
  refine mj_wp_one rfl rfl ?_
  refine mj_wp_one rfl rfl ?_
  refine mj_wp_if (c := mj_c .ne (116 : Int32) e) (fun h => ?_) (fun h => ?_)
  · have h : ¬ (116 : Int32) = e := of_decide_eq_true h
    refine mj_wp_one (S' := (28, ps_lv c e (2 + Int32.ofInt 1), [], M)) rfl rfl ?_
    rw [show (2 : Int32) + Int32.ofInt 1 = 3 by decide]
    refine mj_wp_one rfl rfl ?_
    have go := ps_x3 (d := d) (M := M) (c := c) (e := e) hM
    rw [show pj_sidf e (ps_l1.drop 2) 2 = pj_sidf e (ps_l1.drop 3) 3 from if_neg h]
    exact go
  · have h : (116 : Int32) = e := Classical.byContradiction (fun q => by have := of_decide_eq_false h; exact this q)
    refine mj_wp_one rfl rfl ?_
    exact mj_wp_ret rfl rfl ⟨congrArg (fun z => some (Value.int z)) (show _ = pj_sidf e (ps_l1.drop 2) 2 from (if_pos h).symm), rfl⟩
set_option maxRecDepth 20000 in
theorem ps_x1 {d : Nat} {M : mj_M} {c e : Int32} (hM : M.1.length ≤ 1000000) : mj_wp ic_P (mj_R ic_P d) true 21003 ie_J1_indexOfChar_4cfef.1 (7, ps_lv c e 1, [], M) (fun r M9 => r = some (.int (pj_sidf e (ps_l1.drop 1) 1)) ∧ M9 = M) := by
  refine mj_wp_one rfl rfl ?_
  refine mj_wp_one rfl rfl ?_
  refine mj_wp_one rfl rfl ?_
  refine mj_wp_one rfl rfl ?_
  refine mj_wp_one rfl rfl ?_
  refine pj_g_xr (st' := [.int 112]) rfl rfl (ps_hrb hM (by omega)) rfl rfl rfl rfl rfl ?_
  refine mj_wp_one rfl rfl ?_
  refine mj_wp_one rfl rfl ?_
  refine mj_wp_if (c := mj_c .ne (112 : Int32) e) (fun h => ?_) (fun h => ?_)
  · have h : ¬ (112 : Int32) = e := of_decide_eq_true h
    refine mj_wp_one (S' := (28, ps_lv c e (1 + Int32.ofInt 1), [], M)) rfl rfl ?_
    rw [show (1 : Int32) + Int32.ofInt 1 = 2 by decide]
    refine mj_wp_one rfl rfl ?_
    have go := ps_x2 (d := d) (M := M) (c := c) (e := e) hM
    rw [show pj_sidf e (ps_l1.drop 1) 1 = pj_sidf e (ps_l1.drop 2) 2 from if_neg h]
    exact go
  · have h : (112 : Int32) = e := Classical.byContradiction (fun q => by have := of_decide_eq_false h; exact this q)
    refine mj_wp_one rfl rfl ?_
    exact mj_wp_ret rfl rfl ⟨congrArg (fun z => some (Value.int z)) (show _ = pj_sidf e (ps_l1.drop 1) 1 from (if_pos h).symm), rfl⟩
set_option maxRecDepth 20000 in
theorem ps_x0 {d : Nat} {M : mj_M} {c e : Int32} (hM : M.1.length ≤ 1000000) : mj_wp ic_P (mj_R ic_P d) true 21003 ie_J1_indexOfChar_4cfef.1 (7, ps_lv c e 0, [], M) (fun r M9 => r = some (.int (pj_sidf e (ps_l1.drop 0) 0)) ∧ M9 = M) := by
  refine mj_wp_one rfl rfl ?_
  refine mj_wp_one rfl rfl ?_
  refine mj_wp_one rfl rfl ?_
  refine mj_wp_one rfl rfl ?_
  refine mj_wp_one rfl rfl ?_
  refine pj_g_xr (st' := [.int 115]) rfl rfl (ps_hrb hM (by omega)) rfl rfl rfl rfl rfl ?_
  refine mj_wp_one rfl rfl ?_
  refine mj_wp_one rfl rfl ?_
  refine mj_wp_if (c := mj_c .ne (115 : Int32) e) (fun h => ?_) (fun h => ?_)
  · have h : ¬ (115 : Int32) = e := of_decide_eq_true h
    refine mj_wp_one (S' := (28, ps_lv c e (0 + Int32.ofInt 1), [], M)) rfl rfl ?_
    rw [show (0 : Int32) + Int32.ofInt 1 = 1 by decide]
    refine mj_wp_one rfl rfl ?_
    have go := ps_x1 (d := d) (M := M) (c := c) (e := e) hM
    rw [show pj_sidf e (ps_l1.drop 0) 0 = pj_sidf e (ps_l1.drop 1) 1 from if_neg h]
    exact go
  · have h : (115 : Int32) = e := Classical.byContradiction (fun q => by have := of_decide_eq_false h; exact this q)
    refine mj_wp_one rfl rfl ?_
    exact mj_wp_ret rfl rfl ⟨congrArg (fun z => some (Value.int z)) (show _ = pj_sidf e (ps_l1.drop 0) 0 from (if_pos h).symm), rfl⟩
theorem ps_same : ∀ b ∈ ps_l1, ∀ n, n < 256 → (b = (Int32.ofNat n).toInt8.toInt32 ↔ b = Int32.ofNat n) := by decide +kernel
theorem ps_sidf {e c : Int32} : ∀ (l : List Int32) (k : Nat), (∀ b ∈ l, (b = e ↔ b = c)) → pj_sidf e l k = pj_sidf c l k := by
  intro l
  induction l with
  | nil => intro k _; rfl
  | cons b r ih =>
    intro k h
    show (if b = e then Int32.ofNat k else pj_sidf e r (k + 1)) = (if b = c then Int32.ofNat k else pj_sidf c r (k + 1))
    rw [ih (k + 1) (fun z hz => h z (List.mem_cons_of_mem _ hz))]
    by_cases q : b = c
    · rw [if_pos q, if_pos ((h b List.mem_cons_self).mpr q)]
    · rw [if_neg q, if_neg (fun z => q ((h b List.mem_cons_self).mp z))]
theorem ps_sno {c : Int32} : ∀ (l : List Int32) (k : Nat), (∀ b ∈ l, ¬ b = c) → pj_sidf c l k = -1 := by
  intro l
  induction l with
  | nil => intro k _; rfl
  | cons b r ih =>
    intro k h
    show (if b = c then Int32.ofNat k else pj_sidf c r (k + 1)) = _
    rw [if_neg (h b List.mem_cons_self)]
    exact ih (k + 1) (fun z hz => h z (List.mem_cons_of_mem _ hz))
theorem ps_rng : ∀ b ∈ ps_l1, ¬ b < 0 ∧ ¬ 255 < b := by decide +kernel
theorem ps_nat {c : Int32} (h0 : ¬ c < 0) (h1 : ¬ 255 < c) : ∃ n, n < 256 ∧ c = Int32.ofNat n := by
  have b := Int32.le_iff_toInt_le.mp (Int32.not_lt.mp h0)
  have a := Int32.le_iff_toInt_le.mp (Int32.not_lt.mp h1)
  have z : (0 : Int32).toInt = 0 := by decide
  have y : (255 : Int32).toInt = 255 := by decide
  rw [z] at b
  rw [y] at a
  refine ⟨c.toInt.toNat, by omega, ?_⟩
  apply Int32.toInt_inj.mp
  rw [Int32.toInt_ofNat_of_lt (by omega)]
  omega
set_option maxRecDepth 20000 in
theorem ps_ixc {d : Nat} {M : mj_M} {c : Int32} (hM : M.1.length ≤ 1000000) (h0 : ¬ c < 0) (h1 : ¬ 255 < c) : mj_R ic_P (d + 1) 21003 [.ref 2000003, .int c, .int 0, .int 8] M (some (.int (pj_sidx 1 c))) M := by
  refine mj_wp_Rb (P := ic_P) (Y := ie_J1_indexOfChar_4cfef.1) rfl (Nat.le_of_ble_eq_true rfl) ?_
  refine mj_wp_one rfl rfl ?_
  refine mj_wp_one rfl rfl ?_
  refine mj_wp_one rfl rfl ?_
  refine mj_wp_one rfl rfl ?_
  refine mj_wp_one rfl rfl ?_
  obtain ⟨n, hn, rfl⟩ := ps_nat h0 h1
  have go := ps_x0 (d := d) (M := M) (c := Int32.ofNat n) (e := (Int32.ofNat n).toInt8.toInt32) hM
  rw [show pj_sidf (Int32.ofNat n).toInt8.toInt32 (ps_l1.drop 0) 0 = pj_sidx 1 (Int32.ofNat n) from ps_sidf _ _ (fun b hb => ps_same b hb n hn)] at go
  exact go
set_option maxRecDepth 20000 in
theorem ps_mx {d : Nat} {M : mj_M} : mj_R ic_P (d + 1) 29004 [.int 0, .int 0] M (some (.int 0)) M := by
  refine mj_wp_Rb (P := ic_P) (Y := ie_J9_max_7cf53.1) rfl (Nat.le_of_ble_eq_true rfl) ?_
  refine mj_wp_one rfl rfl ?_
  refine mj_wp_one rfl rfl ?_
  refine mj_wp_one rfl rfl ?_
  refine mj_wp_one rfl rfl ?_
  refine mj_wp_one rfl rfl ?_
  exact mj_wp_ret rfl rfl ⟨rfl, rfl⟩
set_option maxRecDepth 20000 in
theorem ps_mn {d : Nat} {M : mj_M} : mj_R ic_P (d + 1) 29006 [.int 8, .int 8] M (some (.int 8)) M := by
  refine mj_wp_Rb (P := ic_P) (Y := ie_J9_min_7cf53.1) rfl (Nat.le_of_ble_eq_true rfl) ?_
  refine mj_wp_one rfl rfl ?_
  refine mj_wp_one rfl rfl ?_
  refine mj_wp_one rfl rfl ?_
  refine mj_wp_one rfl rfl ?_
  refine mj_wp_one rfl rfl ?_
  exact mj_wp_ret rfl rfl ⟨rfl, rfl⟩
set_option maxRecDepth 20000 in
theorem ps_lix {d : Nat} {M : mj_M} {c : Int32} (hM : M.1.length ≤ 1000000) : mj_R ic_P (d + 2) 21002 [.ref 2000003, .int c, .int 0, .int 8] M (some (.int (pj_sidx 1 c))) M := by
  refine mj_wp_Rb (P := ic_P) (Y := ie_J1_indexOf_4cfef.1) rfl (Nat.le_of_ble_eq_true rfl) ?_
  refine mj_wp_one rfl rfl ?_
  by_cases h : c < 0 ∨ 255 < c
  · refine mj_wp_call (v := some (.int 0)) rfl rfl (ps_enc0 (d := d) h) ?_
    refine mj_wp_one rfl rfl ?_
    refine mj_wp_one rfl rfl ?_
    refine mj_wp_ret rfl rfl ⟨?_, rfl⟩
    have e : pj_sidx 1 c = -1 := ps_sno _ _ (fun b hb q => by
      subst q
      obtain ⟨r1, r2⟩ := ps_rng _ hb
      exact h.elim r1 r2)
    rw [e]
    rfl
  · have h0 : ¬ c < 0 := fun q => h (Or.inl q)
    have h1 : ¬ 255 < c := fun q => h (Or.inr q)
    refine mj_wp_call (v := some (.int 1)) rfl rfl (ps_enc1 (d := d) h0 h1) ?_
    refine mj_wp_one rfl rfl ?_
    refine mj_wp_one rfl rfl ?_
    refine mj_wp_one rfl rfl ?_
    refine mj_wp_call (v := some (.int 0)) rfl rfl (ps_mx (d := d)) ?_
    refine mj_wp_one rfl rfl ?_
    refine mj_wp_one rfl rfl ?_
    refine mj_wp_one rfl rfl ?_
    refine pj_g_xr rfl rfl (ps_hrl hM (by omega)) rfl rfl rfl rfl rfl ?_
    refine mj_wp_call (v := some (.int 8)) (vs := [.int 8, .int 8]) rfl rfl (ps_mn (d := d)) ?_
    refine mj_wp_one rfl rfl ?_
    refine mj_wp_one rfl rfl ?_
    refine mj_wp_one rfl rfl ?_
    refine mj_wp_one rfl rfl ?_
    refine mj_wp_one rfl rfl ?_
    refine mj_wp_one rfl rfl ?_
    refine mj_wp_one rfl rfl ?_
    refine mj_wp_one rfl rfl ?_
    refine mj_wp_call (v := some (.int (pj_sidx 1 c))) rfl rfl (ps_ixc (d := d) hM h0 h1) ?_
    exact mj_wp_ret rfl rfl ⟨rfl, rfl⟩
set_option maxRecDepth 20000 in
theorem ps_ii {d : Nat} {M : mj_M} {c : Int32} (hM : M.1.length ≤ 1000000) : mj_R ic_P (d + 3) 20003 [.ref 2000002, .int c, .int 0] M (some (.int (pj_sidx 1 c))) M := by
  refine mj_wp_Rb (P := ic_P) (Y := ie_J0_indexOf_7cf53.1) rfl (Nat.le_of_ble_eq_true rfl) ?_
  refine mj_wp_one rfl rfl ?_
  refine mj_wp_call (v := some (.int 1)) rfl rfl (ps_lat1 (d := d + 1)) ?_
  refine mj_wp_one rfl rfl ?_
  refine mj_wp_one rfl rfl ?_
  refine mj_wp_one rfl rfl ?_
  refine mj_wp_one rfl rfl ?_
  refine mj_wp_one rfl rfl ?_
  refine mj_wp_one rfl rfl ?_
  refine mj_wp_call (v := some (.int 8)) rfl rfl (ps_len1 (d := d) hM) ?_
  refine mj_wp_call (v := some (.int (pj_sidx 1 c))) rfl rfl (ps_lix (d := d) hM) ?_
  refine mj_wp_one rfl rfl ?_
  exact mj_wp_ret rfl rfl ⟨rfl, rfl⟩
set_option maxRecDepth 20000 in
theorem ps_idx {d : Nat} {M : mj_M} {c : Int32} (hM : M.1.length ≤ 1000000) : mj_R ic_P (d + 4) 20002 [.ref 2000002, .int c] M (some (.int (pj_sidx 1 c))) M := by
  refine mj_wp_Rb (P := ic_P) (Y := ie_J0_indexOf_0f7a4.1) rfl (Nat.le_of_ble_eq_true rfl) ?_
  refine mj_wp_one rfl rfl ?_
  refine mj_wp_one rfl rfl ?_
  refine mj_wp_one rfl rfl ?_
  refine mj_wp_call (v := some (.int (pj_sidx 1 c))) rfl rfl (ps_ii (d := d) hM) ?_
  exact mj_wp_ret rfl rfl ⟨rfl, rfl⟩

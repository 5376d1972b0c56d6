/-! PURE: trouble: the pair -/
section QJP
variable {s x u s' x' u' : Nat → Int32} {l y v l' y' v' : Nat → Int64} {D E W : Int} {k : Nat}
def q_fvC (s x : Nat → Int32) (k : Int32) : Nat → Int32 := pj_u (pj_u (pj_u (pj_u (pj_u (pj_u (pj_u (pj_u x 8000 k) 8001 (x 5)) 8002 (s 34004)) 8003 (s 34005)) 8004 (s 72)) 8005 (s 43)) 8006 (s (9000 + (q_ca (x 5) (s 34004)).toNatClampNeg))) 8007 (x 1)
def q_fvR (s x u : Nat → Int32) (k : Int32) : Nat → Int32 := pj_u (pj_u (pj_u (pj_u (pj_u (pj_u (pj_u (pj_u u 10000 k) 10001 (x 5)) 10002 (s 34004)) 10003 (s 34005)) 10004 (s 72)) 10005 (s 43)) 10006 (s (9000 + (q_ca (x 5) (s 34004)).toNatClampNeg))) 10007 (x 1)
theorem q_viewC (h : 0 ≤ (x 5).toInt) (k : Int32) : pf_X11_fillView k s l x y = some ((), s, l, q_fvC s x k, y) := by
  have c := q_caV (x 5) (s 34004) h
  unfold pf_X11_fillView q_fvC
  rw [q_cellC, q_b]
  simp (disch := omega) only [q_un]
  rw [q_gi c.1 (by omega)]
theorem q_freeze (hw : q_Wl D s l x u v) (h12 : v 12 = (x 1).toInt64) (g : s' 19 = s 19) (h87 : s' 87 = 0) (k : Int32) : pf_X12_freeze k s' l u v = some ((), pj_u s' 87 1, l, q_fvR (pj_u s' 87 1) x u k, v) := by
  have h5 := q_x5 hw
  have c := q_caV (x 5) (s' 34004) h5.1
  unfold pf_X12_freeze q_fvR
  rw [if_pos h87, q_spd hw (by rw [q_un (by omega)]; exact g) rfl, q_b, q_cellR hw (by rw [q_un (by omega)]; exact g) rfl, q_b]
  simp (disch := omega) only [q_un]
  rw [q_gi c.1 (by omega), h12, Int32.toInt32_toInt64]
theorem q_t30 (hk : k < 28) (h : (s (40000 + k)).toInt ≤ 127) : pl_X12_test_30 (Int32.ofNat k) s l u v = if s (40000 + k) < 127 then some ((), s, l, u, v) else if s (40028 + k) = 0 then pl_X12_test_94 (Int32.ofNat k) (q_fz (q_fy s k) k) l u v else some ((), s, l, u, v) := by
  unfold pl_X12_test_30 pl_X12_test_57 pl_X12_test_64 pl_X12_test_71
  simp (disch := omega) only [q_g, q_onC]
  show (if s (40000 + k) = 127 then (if s (40028 + k) = 0 then (if (q_fy s k) (40196 + k) = 0 then pl_X12_test_94 (Int32.ofNat k) (q_fy s k) l u v else pl_X12_test_94 (Int32.ofNat k) (pj_u (pj_u (q_fy s k) (40084 + k) 1) (40112 + k) 0) l u v) else some ((), s, l, u, v)) else some ((), s, l, u, v)) = _
  have z : (127 : Int32).toInt = 127 := rfl
  unfold q_fz
  by_cases c1 : s (40000 + k) = 127
  · have c4 : ¬ s (40000 + k) < 127 := by rw [c1]; decide
    rw [if_pos c1, if_neg c4]
    by_cases c2 : s (40028 + k) = 0
    · rw [if_pos c2, if_pos c2]
      split <;> rfl
    · rw [if_neg c2, if_neg c2]
  · have c3 : s (40000 + k) < 127 := by
      rw [← Int32.toInt_inj, z] at c1
      rw [Int32.lt_iff_toInt_lt, z]
      omega
    rw [if_neg c1, if_pos c3]
theorem q_testF (hr : q_R s) (hk : k < 28) {a2 : Int32} (h : ¬ a2 = 0) (a3 : Int32) : pf_X12_test (Int32.ofNat k) a2 a3 s l u v = pl_X12_test_30 (Int32.ofNat k) (q_df s k) l u v := by
  have a := hr (40000 + 28 * 0 + k)
  rw [q_rgT (by omega) hk, if_pos rfl, show 40000 + 28 * 0 + k = 40000 + k by omega] at a
  have e := (q_R_df hr hk).2
  have z : (q_ct (s (40000 + k) + 32).toInt64 (-128) 127).toInt32 = (if s (40000 + k) + 32 < 127 then s (40000 + k) + 32 else 127) := by
    have q : (q_ct (s (40000 + k) + 32).toInt64 (-128) 127).toInt32 = q_cl (s (40000 + k) + 32).toInt64 (-128) 127 := q_cut_cl _ (-128) 127
    have z : (-128 : Int32).toInt = -128 := rfl
    rw [q, ← Int32.toInt_inj, q_clV]
    simp only [q_ifI, Int32.lt_iff_toInt_lt, e, Int32.reduceToInt, z]
    omega
  unfold pf_X12_test q_df
  simp (disch := omega) only [if_neg h, q_g, q_onC, q_cut, q_b, z]
theorem q_testP (hr : q_R s) (hk : k < 28) {a3 : Int32} (h : ¬ a3 = 0) : pf_X12_test (Int32.ofNat k) 0 a3 s l u v = some ((), q_ps (q_dp s k) k, l, u, v) := by
  have a := hr (40000 + 28 * 0 + k)
  rw [q_rgT (by omega) hk, if_pos rfl, show 40000 + 28 * 0 + k = 40000 + k by omega] at a
  have e := (q_R_dp hr hk).2
  have z : (q_ct (s (40000 + k) - 4).toInt64 (-128) 127).toInt32 = (if -128 < s (40000 + k) - 4 then s (40000 + k) - 4 else -128) := by
    have q : (q_ct (s (40000 + k) - 4).toInt64 (-128) 127).toInt32 = q_cl (s (40000 + k) - 4).toInt64 (-128) 127 := q_cut_cl _ (-128) 127
    have z : (-128 : Int32).toInt = -128 := rfl
    rw [q, ← Int32.toInt_inj, q_clV]
    simp only [q_ifI, Int32.lt_iff_toInt_lt, e, Int32.reduceToInt, z]
    omega
  unfold pf_X12_test pl_X12_test_131
  simp (disch := omega) only [if_true, if_neg h, q_g, q_onC, q_cut, q_b, z]
  show (if (q_dp s k) (40000 + k) = -128 then some ((), pj_u (pj_u (q_dp s k) (40028 + k) 0) (40168 + k) 1, l, u, v) else some ((), q_dp s k, l, u, v)) = _
  unfold q_ps
  split <;> rfl
theorem q_df_out {w : Nat} (h : w < 40000) : q_df s k w = s w ∧ q_dp s k w = s w := ⟨q_un (by omega), q_un (by omega)⟩
theorem q_judgeP (hI : q_I D E W s l x y u v) (h0 : ¬ s 94 = 0) (hk : k < 28) (a2 a3 : Int32) : ∃ s' x' u', pf_X11_judge (Int32.ofNat k) a2 a3 s l x y = some ((), s', l, x', y) ∧ pf_X12_test (Int32.ofNat k) a2 a3 s l u v = some ((), s', l, u', v) ∧ q_I D E W s' l x' y u' v ∧ (∀ w, w < 40000 → ¬ w = 87 → s' w = s w) ∧ (∀ w, w < 8000 ∨ 8008 ≤ w → x' w = x w) ∧ (∀ w, w < 10000 ∨ 10008 ≤ w → u' w = u w) := by
  have hr := hI.1
  have hw := hI.2.2.2.1
  have h12 := hI.2.2.1.1
  have n1 : ¬ (1 : Int32) = 0 := by decide
  have c0 : ¬ Int32.ofNat k < 0 := q_onnn (by omega)
  have ck : Int32.ofNat k < 28 := by rw [q_onltL (by omega) (by omega)]; exact hk
  have ss : ∀ {s1 : Nat → Int32}, q_R s1 → (∀ w, w < 40000 → s1 w = s w) → q_I D E W s1 l x y u v := by
    intro s1 hr1 g
    refine q_I_s hI h0 hr1 ?_
    intro w hw
    unfold q_Ss at hw
    exact g w (by omega)
  unfold pf_X11_judge
  rw [if_neg c0, if_pos ck]
  by_cases c1 : a2 = 0
  · rw [c1, if_pos rfl]
    by_cases c2 : a3 = 0
    · rw [if_pos c2]
      refine ⟨s, x, u, rfl, ?_, hI, fun _ _ _ => rfl, fun _ _ => rfl, fun _ _ => rfl⟩
      unfold pf_X12_test
      rw [if_pos rfl, if_pos c2]
    · rw [if_neg c2, q_passC hk, q_b, q_testP hr hk c2]
      have g : ∀ w, w < 40000 → q_ps (q_dp s k) k w = s w := fun w h => by rw [q_ps_out h, (q_df_out h).2]
      exact ⟨_, _, _, rfl, rfl, ss (q_R_ps (q_R_dp hr hk).1 hk) g, fun w h _ => g w h, fun _ _ => rfl, fun _ _ => rfl⟩
  · have rd := (q_R_df hr hk).1
    have a := rd (40000 + 28 * 0 + k)
    rw [q_rgT (by omega) hk, if_pos rfl, show 40000 + 28 * 0 + k = 40000 + k by omega] at a
    have g1 : ∀ w, w < 40000 → q_df s k w = s w := fun w h => (q_df_out h).1
    rw [if_neg c1, q_failC hk, q_testF hr hk c1, q_t30 hk a.2]
    by_cases c2 : (q_df s k) (40000 + k) < 127
    · rw [if_pos c2, if_pos c2, q_b, if_pos rfl]
      exact ⟨_, _, _, rfl, rfl, ss rd g1, fun w h _ => g1 w h, fun _ _ => rfl, fun _ _ => rfl⟩
    · rw [if_neg c2, if_neg c2]
      by_cases c3 : (q_df s k) (40028 + k) = 0
      · rw [if_pos c3, if_pos c3, q_b, if_neg n1]
        have g : ∀ w, w < 40000 → q_fz (q_fy (q_df s k) k) k w = s w := fun w h => by rw [q_fz_out h, q_fy_out h, g1 w h]
        have rz := q_R_fz (q_R_fy rd hk) hk
        generalize q_fz (q_fy (q_df s k) k) k = S at g rz
        unfold pl_X12_test_94
        by_cases c4 : S 87 = 0
        · rw [if_pos c4, q_viewC (q_x5 hw).1, q_b, q_freeze hw h12.1 (g 19 (by omega)) c4, q_b]
          refine ⟨_, _, _, rfl, rfl, q_I_fm hI h0 (q_R_u rz (by decide)) ⟨?_, ?_⟩ ?_ ?_ ?_, ?_, ?_, ?_⟩
          · intro _
            refine ⟨?_, ?_⟩
            · intro i hi
              have : i = 0 ∨ i = 1 ∨ i = 2 ∨ i = 3 ∨ i = 4 ∨ i = 5 ∨ i = 6 ∨ i = 7 := by omega
              unfold q_fvC q_fvR
              rcases this with rfl | rfl | rfl | rfl | rfl | rfl | rfl | rfl <;> simp (disch := omega) only [q_un, q_ua, Nat.reduceAdd]
            · have e : q_fvC (pj_u S 87 1) x (Int32.ofNat k) 8000 = Int32.ofNat k := by
                unfold q_fvC
                simp (disch := omega) only [q_un, q_ua]
              rw [e, q_onI (by omega)]
              omega
          · intro z; rw [q_ua] at z; exact absurd z (by decide)
          · intro w hw h87
            unfold q_Ss at hw
            rw [q_un h87, g w (by omega)]
          · intro w hw h8
            unfold q_fvC
            simp (disch := omega) only [q_un]
          · intro w hw h8
            unfold q_fvR
            simp (disch := omega) only [q_un]
          · intro w hw h87; rw [q_un h87, g w hw]
          · intro w h8
            unfold q_fvC
            simp (disch := omega) only [q_un]
          · intro w h8
            unfold q_fvR
            simp (disch := omega) only [q_un]
        · rw [if_neg c4]
          unfold pf_X12_freeze
          rw [if_neg c4, q_b]
          exact ⟨_, _, _, rfl, rfl, ss rz g, fun w h _ => g w h, fun _ _ => rfl, fun _ _ => rfl⟩
      · rw [if_neg c3, if_neg c3, q_b, if_pos rfl]
        exact ⟨_, _, _, rfl, rfl, ss rd g1, fun w h _ => g1 w h, fun _ _ => rfl, fun _ _ => rfl⟩
end QJP

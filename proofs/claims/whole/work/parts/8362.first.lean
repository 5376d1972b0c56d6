/-! THE LAW, from its entry, over the constructors' runs -/
def st_M0 : mj_M := ([], fun _ _ => 0, fun _ _ => 0, fun _ _ => none)
/-- the constructors' runs -/
def st_Ct (zC zR : pj_Z) : Prop := ∃ M1 M2 : mj_M, mj_R ic_P 121 11000 [.ref 0] (mj_new st_M0 11 17) none M1 ∧ M1.1.length = 124 ∧ mj_R ic_P 121 12000 [.ref 124] (mj_new M1 12 195) none M2 ∧ M2.1.length = 194 ∧ mj_new M2 101 1 = fm zC zR 0
theorem lo_first {lc : Launch} {L : Nat} {xs : Nat → Int32} {zC zR : pj_Z} (h : st_Ct zC zR) : ∃ lv9, lw_T lc 121 L xs (0, [(0, .ref 4000000)], [], st_M0) (23, lv9, [], fm zC zR 0) 0 ∧ ∀ q ∈ lo_LV (Int32.ofNat (7 * 0)), q ∈ lv9 := by
  obtain ⟨M1, M2, h1, h2, h3, h4, h5⟩ := h
  refine ⟨[(4, .int 0), (3, .ref 194), (2, .ref 124), (1, .ref 0), (0, .ref 4000000)], ?_, ?_⟩
  · refine lw_one (S1 := (3, [(0, .ref 4000000)], [.ref 0], mj_new st_M0 11 17)) lk_0 rfl ?_
    refine lw_one (S1 := (4, [(0, .ref 4000000)], [.ref 0, .ref 0], mj_new st_M0 11 17)) lk_3 rfl ?_
    refine lw_go0 (S1 := (7, [(0, .ref 4000000)], [.ref 0], M1)) (Or.inl ⟨rfl, .invokespecial 155, 3, lk_4, Or.inr ⟨11000, [.ref 0], [.ref 0], none, M1, rfl, h1, rfl⟩⟩) ?_
    refine lw_one (S1 := (8, [(1, .ref 0), (0, .ref 4000000)], [], M1)) lk_7 rfl ?_
    refine lw_one (S1 := (11, [(1, .ref 0), (0, .ref 4000000)], [.ref 124], mj_new M1 12 195)) lk_8 ?_ ?_
    · have e : mj_al (mj_pN ic_P 13000) (.new 156) M1 [] = some (3, [.ref 124], mj_new M1 12 195) := by
        show (if (12 : Nat) < 100 ∧ M1.1.length < 1000000 then some (3, [Value.ref M1.1.length], mj_new M1 12 195) else none) = _
        rw [h2, if_pos ⟨by decide, by decide⟩]
      exact mj_or_r rfl (mj_or_l (by show mj_lfW 3 8 _ (mj_al (mj_pN ic_P 13000) (.new 156) M1 []) = _; rw [e]; rfl))
    refine lw_one (S1 := (12, [(1, .ref 0), (0, .ref 4000000)], [.ref 124, .ref 124], mj_new M1 12 195)) lk_11 rfl ?_
    refine lw_go0 (S1 := (15, [(1, .ref 0), (0, .ref 4000000)], [.ref 124], M2)) (Or.inl ⟨rfl, .invokespecial 158, 3, lk_12, Or.inr ⟨12000, [.ref 124], [.ref 124], none, M2, rfl, h3, rfl⟩⟩) ?_
    refine lw_one (S1 := (16, [(2, .ref 124), (1, .ref 0), (0, .ref 4000000)], [], M2)) lk_15 rfl ?_
    refine lw_one (S1 := (17, [(2, .ref 124), (1, .ref 0), (0, .ref 4000000)], [.int 1], M2)) lk_16 rfl ?_
    refine lw_one (S1 := (19, [(2, .ref 124), (1, .ref 0), (0, .ref 4000000)], [.ref 194], fm zC zR 0)) lk_17 ?_ ?_
    · have e : mj_al (mj_pN ic_P 13000) (.newarray .long) M2 [.int 1] = some (2, [.ref 194], fm zC zR 0) := by
        rw [← h5]
        show (if (1 : Int32) < 0 ∨ 100000 < (1 : Int32).toNatClampNeg ∨ 1000000 ≤ M2.1.length then none else some (2, [Value.ref M2.1.length], mj_new M2 101 (1 : Int32).toNatClampNeg)) = _
        rw [h4, if_neg (by decide)]
        rfl
      exact mj_or_r rfl (mj_or_l (by show mj_lfW 2 17 _ (mj_al (mj_pN ic_P 13000) (.newarray .long) M2 [.int 1]) = _; rw [e]; rfl))
    refine lw_one (S1 := (20, [(3, .ref 194), (2, .ref 124), (1, .ref 0), (0, .ref 4000000)], [], fm zC zR 0)) lk_19 rfl ?_
    refine lw_one (S1 := (21, [(3, .ref 194), (2, .ref 124), (1, .ref 0), (0, .ref 4000000)], [.int 0], fm zC zR 0)) lk_20 rfl ?_
    exact lw_one lk_21 rfl lw_rf
  · intro q hq
    have hq : q ∈ [(4, Value.int 0), (0, .ref 4000000), (1, .ref 0), (2, .ref 124), (3, .ref 194)] := hq
    simp only [List.mem_cons, List.not_mem_nil, or_false] at hq ⊢
    rcases hq with rfl | rfl | rfl | rfl | rfl <;> simp

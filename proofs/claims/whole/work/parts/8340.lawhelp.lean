/-! THE LAW'S CASES: how its steps go -/
def lw_T (l : Launch) (d L : Nat) (xs : Nat → Int32) (S S' : mj_S) (e : Nat) : Prop := ∃ n, ml_steps l vwCl ic_ty ic_P d 13000 il_law L xs il_wt n S S' e
section LWH
variable {l : Launch} {d L : Nat} {xs : Nat → Int32} {S S1 S' : mj_S} {e pc : Nat} {lv : List (Nat × Value)} {st r : List Value} {M M' : mj_M}
theorem lw_rf : lw_T l d L xs S S 0 := ⟨0, rfl, rfl⟩
theorem lw_go {e1 : Nat} (h : ml_step l vwCl ic_ty ic_P d 13000 il_law L xs il_wt S S1 e1) (k : lw_T l d L xs S1 S' e) : lw_T l d L xs S S' (e1 + e) := by
  obtain ⟨n, k⟩ := k
  exact ⟨n + 1, S1, e1, e, h, k, rfl⟩
theorem lw_go0 (h : ml_step l vwCl ic_ty ic_P d 13000 il_law L xs il_wt S S1 0) (k : lw_T l d L xs S1 S' e) : lw_T l d L xs S S' e := by
  have := lw_go h k
  rwa [Nat.zero_add] at this
theorem lw_one {i : Instr} {k9 : Nat} (h1 : mj_lk ip_L_law S.1 = some (i, k9)) (h2 : mj_one ic_P true 13000 8 i k9 S = some S1) (k : lw_T l d L xs S1 S' e) : lw_T l d L xs S S' e := lw_go0 (Or.inl ⟨rfl, i, k9, h1, Or.inl h2⟩) k
theorem lw_ld {i : Int32} (h1 : mj_lk ip_L_law pc = some (.iaload, 1)) (hi : vp_in i L) (k : lw_T l d L xs (pc + 1, lv, .int (xs i.toNatClampNeg) :: r, M) S' e) : lw_T l d L xs (pc, lv, .int i :: .ref 4000000 :: r, M) S' e := lw_go0 (Or.inr (Or.inl ⟨rfl, i, r, h1, rfl, hi, rfl⟩)) k
theorem lw_len (h1 : mj_lk ip_L_law pc = some (.arraylength, 1)) (k : lw_T l d L xs (pc + 1, lv, .int (Int32.ofNat L) :: r, M) S' e) : lw_T l d L xs (pc, lv, .ref 4000000 :: r, M) S' e := lw_go0 (Or.inr (Or.inr (Or.inl ⟨rfl, r, h1, rfl, rfl⟩))) k
theorem lw_wr {ix nw : Nat} {Yw : mj_Y} {hh : List (Nat × Nat × Nat × Nat)} {vs rest : List Value} {r9 : Int32} (h1 : mj_lk ip_L_law pc = some (.invokestatic ix, 3)) (hw : il_wt ix = some (Yw, hh, nw)) (hn : vs.length = nw) (hs : mj_sum rest ≤ 8) (hm : mw_Met l mj_AW ic_Ns vwCl ic_ty ic_X Yw hh d vs M (some (.int r9)) M') (he : mj_ext M M') (hM : mj_wM M') (k : lw_T l d L xs (pc + 3, lv, .int r9 :: rest, M') S' e) : lw_T l d L xs (pc, lv, vs.reverse ++ rest, M) S' (1 + e) := lw_go (Or.inr (Or.inr (Or.inr ⟨rfl, ix, Yw, hh, nw, vs, rest, r9, M', h1, hw, hn, rfl, hs, hm, he, hM, rfl⟩))) k
theorem lw_cv {ix jf n ci o m : Nat} {vs rest : List Value} {v : Option Value} (h1 : mj_lk ip_L_law pc = some (.invokevirtual ix, 3)) (hg : mj_pG ic_P 13000 ix = some (jf, n, some ci)) (hn : vs.length = n) (hc : ci < 100) (ho : M.1[o]? = some (ci, m)) (hs : mj_sum rest ≤ 8) (hr : mj_R ic_P d jf (.ref o :: vs) M v M') (k : lw_T l d L xs (pc + 3, lv, v.toList ++ rest, M') S' e) : lw_T l d L xs (pc, lv, vs.reverse ++ .ref o :: rest, M) S' e := by
  refine lw_go0 (Or.inl ⟨rfl, .invokevirtual ix, 3, h1, Or.inr ⟨jf, .ref o :: vs, rest, v, M', ?_, hr, rfl⟩⟩) k
  show mj_cv ic_P 13000 ix 3 (pc, lv, vs.reverse ++ .ref o :: rest, M) = _
  unfold mj_cv
  rw [hg]
  dsimp only
  have e1 : (vs.reverse ++ .ref o :: rest).take n = vs.reverse := by rw [← hn, List.take_left' (by simp)]
  have e2 : (vs.reverse ++ .ref o :: rest).drop n = .ref o :: rest := by rw [← hn, List.drop_left' (by simp)]
  rw [e1, e2]
  dsimp only
  rw [if_pos (Or.inl ⟨rfl, by simp [hn], hc, by rw [pj_len_of ho]; rfl, hs⟩), List.reverse_reverse]
/-- 'v != 0' as an argument -/
theorem lw_bool {v : Int32} (h1 : mj_lk ip_L_law pc = some (.ifCond .eq 7, 3)) (h2 : mj_lk ip_L_law (pc + 3) = some (.iconst 1, 1)) (h3 : mj_lk ip_L_law (pc + 4) = some (.goto 4, 3)) (h4 : mj_lk ip_L_law (pc + 7) = some (.iconst 0, 1)) (k : lw_T l d L xs (pc + 8, lv, .int (if v = 0 then 0 else 1) :: r, M) S' e) : lw_T l d L xs (pc, lv, .int v :: r, M) S' e := by
  by_cases h : v = 0
  · rw [if_pos h] at k
    refine lw_one (S1 := (pc + 7, lv, r, M)) h1 ?_ (lw_one h4 rfl k)
    have e9 : mj_br (.ifCond .eq 7) 3 pc (.int v :: r) = some (pc + 7, r) := by
      show mj_go pc 7 (decide (v = 0)) r = _
      rw [decide_eq_true h]
      unfold mj_go
      rw [if_pos (by omega)]
      show some (((pc : Int) + 7).toNat, r) = _
      congr 2
    exact mj_or_l (mj_or_r rfl (mj_or_r rfl (mj_or_r rfl (mj_or_l (by show mj_lfB lv M (mj_br (.ifCond .eq 7) 3 pc (.int v :: r)) = _; rw [e9]; rfl)))))
  · rw [if_neg h] at k
    refine lw_one (S1 := (pc + 3, lv, r, M)) h1 ?_ (lw_one (S1 := (pc + 4, lv, .int 1 :: r, M)) h2 rfl (lw_one (S1 := (pc + 8, lv, .int 1 :: r, M)) h3 ?_ k))
    · have e9 : mj_br (.ifCond .eq 7) 3 pc (.int v :: r) = some (pc + 3, r) := by
        show mj_go pc 7 (decide (v = 0)) r = _
        rw [decide_eq_false h]
        unfold mj_go
        rw [if_pos (by omega)]
        rfl
      exact mj_or_l (mj_or_r rfl (mj_or_r rfl (mj_or_r rfl (mj_or_l (by show mj_lfB lv M (mj_br (.ifCond .eq 7) 3 pc (.int v :: r)) = _; rw [e9]; rfl)))))
    · have e9 : mj_br (.goto 4) 3 (pc + 4) (.int 1 :: r) = some (pc + 8, .int 1 :: r) := by
        unfold mj_br mj_go
        dsimp only
        rw [if_pos rfl]
        rw [if_pos (by omega)]
        show some ((((pc + 4 : Nat) : Int) + 4).toNat, _) = _
        congr 2
      exact mj_or_l (mj_or_r rfl (mj_or_r rfl (mj_or_r rfl (mj_or_l (by show mj_lfB lv M (mj_br (.goto 4) 3 (pc + 4) (.int 1 :: r)) = _; rw [e9]; rfl)))))
theorem lw_lal {n : Nat} (h1 : mj_lk ip_L_law pc = some (.laload, 1)) (ho : M.1[194]? = some (101, n)) (hn : 0 < n) (k : lw_T l d L xs (pc + 1, lv, .long (M.2.2.1 194 0) :: r, M) S' e) : lw_T l d L xs (pc, lv, .int (Int32.ofInt 0) :: .ref 194 :: r, M) S' e := by
  refine lw_one (S1 := (pc + 1, lv, .long (M.2.2.1 194 0) :: r, M)) h1 ?_ k
  have e9 : mj_hr (mj_pF ic_P 13000) .laload M (.int (Int32.ofInt 0) :: .ref 194 :: r) = some (1, .long (M.2.2.1 194 0) :: r) := by
    unfold mj_hr mj_ald
    dsimp only
    rw [pj_len_of ho]
    dsimp only
    have z0 : (Int32.ofInt 0).toNatClampNeg = 0 := by decide
    have c0 : ¬ (Int32.ofInt 0 < 0 ∨ n ≤ (Int32.ofInt 0).toNatClampNeg) := fun q => q.elim (fun z => absurd z (by decide)) (fun z => by rw [z0] at z; omega)
    rw [if_neg c0, z0]
  exact mj_or_l (mj_or_r rfl (mj_or_l (by show mj_lf 1 pc lv M (mj_hr (mj_pF ic_P 13000) .laload M (.int (Int32.ofInt 0) :: .ref 194 :: r)) = _; rw [e9]; rfl)))
/-- a jump that is asked -/
theorem lw_br {i : Instr} {c : Bool} {off : Int} {t : Nat} (h1 : mj_lk ip_L_law pc = some (i, 3)) (n1 : mj_loc i 8 lv st = none) (n2 : mj_hr (mj_pF ic_P 13000) i M st = none) (n3 : mj_op i st = none) (hb : mj_br i 3 pc st = mj_go pc off c r) (ho : (pc : Int) + off = (t : Int)) (h2 : c = true → lw_T l d L xs (t, lv, r, M) S' e) (h3 : c = false → lw_T l d L xs (pc + 3, lv, r, M) S' e) : lw_T l d L xs (pc, lv, st, M) S' e := by
  have key : ∀ t9, mj_br i 3 pc st = some (t9, r) → lw_T l d L xs (t9, lv, r, M) S' e → lw_T l d L xs (pc, lv, st, M) S' e := fun t9 e9 k => by
    refine lw_one (S1 := (t9, lv, r, M)) h1 ?_ k
    unfold mj_one mj_one0
    dsimp only
    rw [n1, n2, n3, e9]
    rfl
  have g0 : (0 : Int) ≤ (pc : Int) + off := by omega
  cases c with
  | true =>
    refine key t ?_ (h2 rfl)
    rw [hb]
    unfold mj_go
    rw [if_pos g0, ho]
    rfl
  | false =>
    refine key (pc + 3) ?_ (h3 rfl)
    rw [hb]
    unfold mj_go
    rw [if_pos g0]
    rfl
theorem lw_cmp (x : Int64) : lg_cmp x x = 0 := by unfold lg_cmp; simp
end LWH

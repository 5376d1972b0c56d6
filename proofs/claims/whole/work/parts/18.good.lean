/-! THE SMALL MACHINE, 9: what is there stays, references stay good -/
theorem mj_keep_w {Pv : Value → Prop} {f : Nat × Value → Bool} {lv : List (Nat × Value)} (h : ∀ q ∈ lv, Pv q.2) : ∀ q ∈ lv.filter f, Pv q.2 := fun q hq => h q (List.mem_filter.mp hq).1
theorem mj_cons_w {Pv : Value → Prop} {i : Nat} {v : Value} {lv : List (Nat × Value)} (hv : Pv v) (h : ∀ q ∈ lv, Pv q.2) : ∀ q ∈ (i, v) :: lv, Pv q.2 := fun q hq => (List.mem_cons.mp hq).elim (fun e => e ▸ hv) (h q)
theorem mj_loc_w {Pv : Value → Prop} (hi : ∀ x, Pv (.int x)) (hl : ∀ x, Pv (.long x)) {i : Instr} {k nL : Nat} {lv lv' : List (Nat × Value)} {st st' : List Value} (h : mj_loc i nL lv st = some (k, lv', st')) (hv : ∀ q ∈ lv, Pv q.2) (hs : ∀ v ∈ st, Pv v) : (∀ q ∈ lv', Pv q.2) ∧ ∀ v ∈ st', Pv v := by
  unfold mj_loc at h
  split at h
  all_goals first
    | (unfold mj_ldi at h; split at h
       · cases h; exact ⟨hv, mj_all2 (hi _) hs⟩
       · cases h)
    | (unfold mj_ldl at h; split at h
       · cases h; exact ⟨hv, mj_all2 (hl _) hs⟩
       · cases h)
    | (unfold mj_lda at h; split at h
       · rename_i hx; cases h; exact ⟨hv, mj_all2 (hv _ (mj_at_mem hx)) hs⟩
       · cases h)
    | (unfold mj_sti at h; split at h
       · split at h
         · cases h; exact ⟨mj_cons_w (hi _) (mj_keep_w hv), mj_tl hs⟩
         · cases h
       · cases h)
    | (unfold mj_stl at h; split at h
       · split at h
         · cases h; exact ⟨mj_cons_w (hl _) (mj_keep_w hv), mj_tl hs⟩
         · cases h
       · cases h)
    | (unfold mj_sta at h; split at h
       · split at h
         · cases h; exact ⟨mj_cons_w (mj_hd hs) (mj_keep_w hv), mj_tl hs⟩
         · cases h
       · cases h)
    | (unfold mj_inc at h; split at h
       · split at h
         · cases h; exact ⟨mj_cons_w (hi _) (mj_keep_w hv), hs⟩
         · cases h
       · cases h)
    | cases h
theorem mj_br_w {Pv : Value → Prop} {i : Instr} {n pc pc' : Nat} {st st' : List Value} (h : mj_br i n pc st = some (pc', st')) (hs : ∀ v ∈ st, Pv v) : ∀ v ∈ st', Pv v := by
  unfold mj_br at h
  split at h
  · split at h
    · rw [(mj_go_inv h).2]; exact hs
    · cases h
  · split at h
    · split at h
      · rw [(mj_go_inv h).2]; exact mj_tl hs
      · cases h
    · cases h
  · split at h
    · split at h
      · rw [(mj_go_inv h).2]; exact mj_tl (mj_tl hs)
      · cases h
    · cases h
  · split at h
    · split at h
      · rw [(mj_go_inv h).2]; exact mj_tl hs
      · split at h
        · rw [(mj_go_inv h).2]; exact mj_tl hs
        · cases h
    · cases h
  · split at h
    · split at h
      · rw [(mj_go_inv h).2]; exact mj_tl hs
      · cases h
    · cases h
  · cases h
theorem mj_rf_w {L : Nat} {x : Option Nat} (h : ∀ i, x = some i → i < L ∨ 1000000 ≤ i) : mj_wv L (va_rf x) := by
  cases x with
  | none => exact fun i e => by cases e
  | some a => exact fun i e => by cases e; exact h _ rfl
theorem mj_fi_w {M : mj_M} (h : mj_wM M) (o tc k : Nat) : mj_wv M.1.length (mj_fi M o tc k) := by
  unfold mj_fi
  split
  · exact mj_wv_long _
  · exact mj_rf_w (fun i hi => h o k i hi)
  · exact mj_wv_int _
theorem mj_hr_w {fl : mj_FL} {i : Instr} {k : Nat} {M : mj_M} {st st' : List Value} (h : mj_hr fl i M st = some (k, st')) (hM : mj_wM M) (hs : ∀ v ∈ st, mj_wv M.1.length v) : ∀ v ∈ st', mj_wv M.1.length v := by
  unfold mj_hr at h
  split at h
  · obtain ⟨ci, k, tc, fin, o, n, r, -, rfl, -, -, -, -, rfl⟩ := mj_get_inv h
    exact mj_all2 (mj_fi_w hM o tc k) (mj_tl hs)
  · obtain ⟨j, o, n, r, rfl, -, -, -, rfl⟩ := mj_ald_inv h
    exact mj_all2 (mj_wv_int _) (mj_tl (mj_tl hs))
  · obtain ⟨j, o, n, r, rfl, -, -, -, rfl⟩ := mj_ald_inv h
    exact mj_all2 (mj_wv_long _) (mj_tl (mj_tl hs))
  · obtain ⟨j, o, n, r, rfl, -, -, -, rfl⟩ := mj_ald_inv h
    exact mj_all2 (mj_wv_int _) (mj_tl (mj_tl hs))
  · rcases mj_or_inv h with h | h
    · obtain ⟨j, o, n, r, rfl, -, -, -, rfl⟩ := mj_ald_inv h
      exact mj_all2 (mj_rf_w (fun i hi => hM _ _ i hi)) (mj_tl (mj_tl hs))
    · obtain ⟨j, o, n, r, rfl, -, -, -, rfl⟩ := mj_ald_inv h
      exact mj_all2 (mj_rf_w (fun i hi => hM _ _ i hi)) (mj_tl (mj_tl hs))
  · rcases mj_or_inv h with h | h
    · obtain ⟨o, n, r, rfl, -, -, rfl⟩ := mj_aln_inv h
      exact mj_all2 (mj_wv_int _) (mj_tl hs)
    rcases mj_or_inv h with h | h
    · obtain ⟨o, n, r, rfl, -, -, rfl⟩ := mj_aln_inv h
      exact mj_all2 (mj_wv_int _) (mj_tl hs)
    rcases mj_or_inv h with h | h
    · obtain ⟨o, n, r, rfl, -, -, rfl⟩ := mj_aln_inv h
      exact mj_all2 (mj_wv_int _) (mj_tl hs)
    rcases mj_or_inv h with h | h
    · obtain ⟨o, n, r, rfl, -, -, rfl⟩ := mj_aln_inv h
      exact mj_all2 (mj_wv_int _) (mj_tl hs)
    · obtain ⟨o, n, r, rfl, -, -, rfl⟩ := mj_aln_inv h
      exact mj_all2 (mj_wv_int _) (mj_tl hs)
  · cases h
theorem mj_pv_w {M M' : mj_M} {o k tc : Nat} {v : Value} (h : mj_pv M o k tc v = some M') (hM : mj_wM M) : M'.1 = M.1 ∧ mj_wM M' := by
  unfold mj_pv at h
  split at h
  · split at h
    · cases h; exact ⟨rfl, hM⟩
    · cases h
  · split at h
    · cases h; exact ⟨rfl, hM⟩
    · cases h
  · cases h
theorem mj_pvR_w {M M' : mj_M} {o k tc : Nat} {v : Value} (h : mj_pvR M o k tc v = some M') (hM : mj_wM M) (hv : mj_wv M.1.length v) : M'.1 = M.1 ∧ mj_wM M' := by
  unfold mj_pvR at h
  split at h
  · rename_i x
    split at h
    · cases h
      refine ⟨rfl, fun a k2 i hi => ?_⟩
      dsimp only at hi ⊢
      unfold mj_u at hi
      split at hi
      · dsimp only at hi
        split at hi
        · cases hi; exact hv _ rfl
        · exact hM _ _ _ hi
      · exact hM _ _ _ hi
    · cases h
  · exact mj_pv_w h hM
theorem mj_hw_w {fl : mj_FL} {i : Instr} {k : Nat} {M M' : mj_M} {st st' : List Value} (h : mj_hw fl i M st = some (k, st', M')) (hM : mj_wM M) {Pv : Value → Prop} (hs : ∀ v ∈ st, Pv v) : M'.1 = M.1 ∧ mj_wM M' ∧ ∀ v ∈ st', Pv v := by
  unfold mj_hw at h
  split at h
  · obtain ⟨ci, k, tc, o, n, v, r, hf, rfl, hM1, hc, hk, hv, rfl, rfl⟩ := mj_put_inv h
    exact ⟨(mj_pv_w hv hM).1, (mj_pv_w hv hM).2, mj_tl (mj_tl hs)⟩
  · obtain ⟨x, j, o, n, r, rfl, -, -, rfl, rfl, rfl⟩ := mj_asi_inv h
    exact ⟨rfl, hM, mj_tl (mj_tl (mj_tl hs))⟩
  · obtain ⟨x, j, o, n, r, rfl, -, -, rfl, rfl, rfl⟩ := mj_asi_inv h
    exact ⟨rfl, hM, mj_tl (mj_tl (mj_tl hs))⟩
  · obtain ⟨x, j, o, n, r, rfl, -, -, rfl, rfl, rfl⟩ := mj_asl_inv h
    exact ⟨rfl, hM, mj_tl (mj_tl (mj_tl hs))⟩
  · cases h
theorem mj_ldc_w {Pv : Value → Prop} (hi : ∀ x, Pv (.int x)) (hl : ∀ x, Pv (.long x)) {P : mj_P} {j k : Nat} {i : Instr} {st st' : List Value} (h : mj_ldc P j i st = some (k, st')) (hs : ∀ v ∈ st, Pv v) : ∀ v ∈ st', Pv v := by
  unfold mj_ldc at h
  split at h
  · obtain ⟨v, -, e⟩ := Option.map_eq_some_iff.mp h
    cases e
    exact mj_all2 (hi _) hs
  · obtain ⟨v, -, e⟩ := Option.map_eq_some_iff.mp h
    cases e
    exact mj_all2 (hi _) hs
  · obtain ⟨v, -, e⟩ := Option.map_eq_some_iff.mp h
    cases e
    exact mj_all2 (hl _) hs
  · cases h
theorem mj_xr_w {X : mj_XT} {gs : Nat → Option Nat} {i : Instr} {k L : Nat} {st st' : List Value} (h : mj_xr X gs i st = some (k, st')) (hs : ∀ v ∈ st, mj_wv L v) : ∀ v ∈ st', mj_wv L v := by
  unfold mj_xr at h
  split at h
  · split at h
    · split at h
      · cases h
        exact mj_all2 (fun i e => by cases e; exact Or.inr (Nat.le_add_right 1000000 _)) hs
      · split at h
        · cases h
          exact mj_all2 (mj_wv_int _) hs
        · split at h
          · cases h
            exact mj_all2 (fun i e => by cases e) hs
          · cases h
    · cases h
  · split at h
    · split at h
      · cases h
        exact mj_all2 (fun i e => by cases e; exact Or.inr (Nat.le_add_right 1000000 _)) hs
      · cases h
    · cases h
  · split at h
    · split at h
      · rename_i hq
        obtain ⟨n, z, rfl, -, -, -⟩ := mj_sb_inv hq
        split at h
        · cases h
          exact mj_all2 (fun i e => Or.inr (by have h9 := Value.ref.inj e; rw [← h9]; have h8 : (1000000 : Nat) ≤ (2000000 + 2 * n + 0 + 1 : Nat) := (by omega); exact h8)) (mj_tl hs)
        · split at h
          · cases h
            exact mj_all2 (mj_wv_int _) (mj_tl hs)
          · cases h
      · cases h
    · cases h
  · split at h
    · split at h
      · split at h
        · cases h
        · cases h
          exact mj_all2 (mj_wv_int _) (mj_tl (mj_tl hs))
      · cases h
    · cases h
  · split at h
    · split at h
      · split at h
        · cases h
        · cases h
          exact mj_all2 (mj_wv_int _) (mj_tl (mj_tl hs))
      · cases h
    · cases h
  · split at h
    · split at h
      · cases h
        exact mj_all2 (mj_wv_int _) (mj_tl hs)
      · split at h
        · cases h
          exact mj_all2 (mj_wv_int _) (mj_tl hs)
        · cases h
    · cases h
  · cases h
theorem mj_new_w {M : mj_M} {kd n : Nat} (hM : mj_wM M) : mj_wM (mj_new M kd n) := by
  intro a k i hi
  have hl : (mj_new M kd n).1.length = M.1.length + 1 := by simp [mj_new]
  rw [hl]
  unfold mj_new at hi
  dsimp only at hi
  split at hi
  · cases hi
  · exact (hM _ _ _ hi).elim (fun q => Or.inl (by omega)) Or.inr
theorem mj_new_ext {M : mj_M} {kd n : Nat} : mj_ext M (mj_new M kd n) := ⟨[(kd, n)], rfl⟩
theorem mj_al_w {nw : Nat → Option (Nat × Nat)} {i : Instr} {k : Nat} {M M' : mj_M} {st st' : List Value} (h : mj_al nw i M st = some (k, st', M')) (hM : mj_wM M) (hs : ∀ v ∈ st, mj_wv M.1.length v) : mj_ext M M' ∧ mj_wM M' ∧ ∀ v ∈ st', mj_wv M'.1.length v := by
  have key : ∀ (kd n : Nat) (r : List Value), (∀ v ∈ r, mj_wv M.1.length v) → mj_ext M (mj_new M kd n) ∧ mj_wM (mj_new M kd n) ∧ ∀ v ∈ Value.ref M.1.length :: r, mj_wv (mj_new M kd n).1.length v := by
    intro kd n r hr
    have hl : (mj_new M kd n).1.length = M.1.length + 1 := by simp [mj_new]
    refine ⟨mj_new_ext, mj_new_w hM, mj_all2 (fun i e => ?_) (fun v hv => mj_wv_mono (hr v hv) (by omega))⟩
    cases e
    exact Or.inl (by rw [hl]; exact Nat.lt_succ_self _)
  unfold mj_al at h
  split at h
  · split at h
    · split at h
      · cases h; exact key _ _ _ hs
      · cases h
    · cases h
  · split at h
    · split at h
      · cases h
      · split at h
        · cases h; exact key _ _ _ (mj_tl hs)
        · cases h; exact key _ _ _ (mj_tl hs)
        · cases h; exact key _ _ _ (mj_tl hs)
        · cases h
    · cases h
  · cases h
theorem mj_cpw_w {M M' : mj_M} {X : mj_XT} {o o' sp dp n : Nat} (h : mj_cpw M X o o' sp dp n = some M') (hM : mj_wM M) : M'.1 = M.1 ∧ mj_wM M' := by
  unfold mj_cpw at h
  rcases mj_or_inv h with h | h
  · split at h
    · split at h
      · cases h; exact ⟨rfl, hM⟩
      · cases h
    · cases h
  rcases mj_or_inv h with h | h
  · split at h
    · split at h
      · cases h; exact ⟨rfl, hM⟩
      · cases h
    · cases h
  · split at h
    · split at h
      · cases h; exact ⟨rfl, hM⟩
      · cases h
    · cases h
theorem mj_cp_w {X : mj_XT} {ac : Nat → Bool} {i : Instr} {k : Nat} {M M' : mj_M} {st st' : List Value} (h : mj_cp X ac i M st = some (k, st', M')) (hM : mj_wM M) {Pv : Value → Prop} (hs : ∀ v ∈ st, Pv v) : M'.1 = M.1 ∧ mj_wM M' ∧ ∀ v ∈ st', Pv v := by
  unfold mj_cp at h
  split at h
  · rename_i ix
    cases hac : ac ix with
    | false => rw [hac] at h; cases h
    | true =>
      rw [hac] at h
      dsimp only [cond_true] at h
      split at h
      · split at h
        · cases h
        · obtain ⟨M2, h1, h2⟩ := Option.map_eq_some_iff.mp h
          cases h2
          exact ⟨(mj_cpw_w h1 hM).1, (mj_cpw_w h1 hM).2, mj_tl (mj_tl (mj_tl (mj_tl (mj_tl hs))))⟩
      · cases h
  · cases h
theorem mj_pz_w {P : mj_P} {j k : Nat} {i : Instr} {M M' : mj_M} {st st' : List Value} (h : mj_pz P j i M st = some (k, st', M')) (hM : mj_wM M) (hs : ∀ v ∈ st, mj_wv M.1.length v) : M'.1 = M.1 ∧ mj_wM M' ∧ ∀ v ∈ st', mj_wv M.1.length v := by
  unfold mj_pz at h
  split at h
  · obtain ⟨ix, k, tc, o, n, v, r, rfl, hf, rfl, hM1, hc, hk, hv, rfl, rfl⟩ := mj_putF_inv h
    have := mj_pvR_w hv hM (mj_hd hs)
    exact ⟨this.1, this.2, mj_tl (mj_tl hs)⟩
  · cases h
theorem mj_oi_w {P : mj_P} {j k : Nat} {i : Instr} {st st' : List Value} {Pv : Value → Prop} (h : mj_oi P j i st = some (k, st')) (hs : ∀ v ∈ st, Pv v) : ∀ v ∈ st', Pv v := by
  unfold mj_oi at h
  split at h
  · split at h
    · split at h
      · cases h; exact mj_tl hs
      · cases h
    · cases h
  · cases h
theorem mj_ma_w {ma : Nat → Option Nat} {i : Instr} {k : Nat} {M M' : mj_M} {st st' : List Value} (h : mj_ma ma i M st = some (k, st', M')) (hM : mj_wM M) (hs : ∀ v ∈ st, mj_wv M.1.length v) : mj_ext M M' ∧ mj_wM M' ∧ ∀ v ∈ st', mj_wv M'.1.length v := by
  unfold mj_ma at h
  split at h
  · split at h
    · rename_i ki k0 n0 r hma
      split at h
      · rename_i hc
        cases h
        have hl : (mj_rows M (ki + 3) ki n0.toNatClampNeg k0.toNatClampNeg).1.length = M.1.length + (n0.toNatClampNeg + 1) := by simp [mj_rows]
        refine ⟨⟨_, rfl⟩, fun a k2 i hi => ?_, mj_all2 (fun i e => ?_) (fun v hv => mj_wv_mono (mj_tl (mj_tl hs) v hv) (by omega))⟩
        · rw [hl]
          unfold mj_rows at hi
          dsimp only at hi
          split at hi
          · dsimp only at hi
            split at hi
            · cases hi; exact Or.inl (by omega)
            · cases hi
          · split at hi
            · cases hi
            · exact (hM _ _ _ hi).elim (fun q => Or.inl (by omega)) Or.inr
        · cases e
          exact Or.inl (by rw [hl]; exact Nat.lt_add_of_pos_right (Nat.succ_pos _))
      · cases h
    · cases h
  · cases h

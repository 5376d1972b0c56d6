/-! THE LAW: its methods' bodies rest on tables that are checked (they are no methods of the program: the law's wrappers have handlers) -/
theorem ml_G0 {Ns : List Cond} {cl : List vw_C} {cty : Nat → Nat → FieldType} {cc : Nat → mj_C} {mm : Nat → List mj_E} {X : mj_XT} {wi wo : Nat → (Nat × Nat) × (Nat × Nat)} {wb : (Nat × Nat) × (Nat × Nat)} {ws : (Nat × Nat) × (Nat × Nat) × (Nat × Nat)} {j : Nat} {Y : mj_Y} (hc : mj_okC Ns cl cty cc mm X wi wo wb ws (j / 1000)) (hm : mm (j / 1000) = []) (eo : (cc (j / 1000)).1 = Y.1.cls) (hd : mj_dl Y.2.1 Y.2.2.2.2 0 (mj_bytes Y.2.1) = true) : mj_G0 mj_AW Ns cl cty (mj_mk cc mm X) j Y := by
  obtain ⟨c1, c2, c3, c4, c5, c6, c7, c8, c9, -, -⟩ := hc
  rw [eo] at c1 c2 c3 c4 c5 c6 c7 c8 c9
  refine ⟨fun pc i k h => mj_dl_all hd (pc, (i, k)) (mj_lk_in h), fun ix ci k tc fin h => ?_, fun ix v h => ?_, fun ix v h => ?_, fun ix j' n r h => ?_, fun ix q h => ?_, fun ix k h => ?_, fun ix h => ?_, fun ix ki h => ?_, fun ix q h => ?_, fun ci h => ?_⟩
  · obtain ⟨pos, hp⟩ := mj_lkp_in h
    have g := List.all_eq_true.mp c1 _ hp
    unfold mj_ch1 at g
    dsimp only at g
    split at g
    · rename_i z hz
      simp only [Bool.and_eq_true] at g
      exact ⟨z, hz, of_decide_eq_true g.1, of_decide_eq_true g.2.1, of_decide_eq_true g.2.2.1, mj_wa_in g.2.2.2⟩
    · cases g
  · obtain ⟨pos, hp⟩ := mj_lkp_in h
    exact mj_wa_in (List.all_eq_true.mp c3 _ hp)
  · obtain ⟨pos, hp⟩ := mj_lkp_in h
    exact mj_wa_in (List.all_eq_true.mp c4 _ hp)
  · obtain ⟨pos, hp⟩ := mj_lkp_in h
    have g := List.all_eq_true.mp c2 _ hp
    unfold mj_ch2 at g
    dsimp only at g
    split at g
    · rename_i E2 hE2
      rw [Bool.and_eq_true] at g
      refine ⟨E2.1, ?_, mj_chL_ok g.1, ?_⟩
      · show ((mm (j' / 1000))[j' % 1000]?).map (fun E => E.1) = some E2.1
        rw [hE2]
        rfl
      · have g := g.2
        unfold mj_Lr
        cases r with
        | none => exact mj_wa_in g
        | some ci =>
          dsimp only at g ⊢
          simp only [Bool.and_eq_true] at g
          obtain ⟨g1, g2, g3⟩ := g
          split at g3
          · rename_i z hz
            rw [Bool.and_eq_true] at g3
            exact ⟨mj_wa_in g1, mj_wa_in g2, Or.inl ⟨by simpa using g3.2, z, hz, of_decide_eq_true g3.1⟩⟩
          · rw [Bool.and_eq_true] at g3
            exact ⟨mj_wa_in g1, mj_wa_in g2, Or.inr ⟨eq_of_beq g3.1, of_decide_eq_true g3.2⟩⟩
    · cases g
  · obtain ⟨pos, hp⟩ := mj_lkp_in h
    have g := List.all_eq_true.mp c5 _ hp
    unfold mj_ch5 at g
    dsimp only at g
    split at g
    · rename_i z hz
      simp only [Bool.and_eq_true] at g
      obtain ⟨g1, g2, g3, g4, g5⟩ := g
      exact ⟨z, hz, of_decide_eq_true g1, fun k hk => of_decide_eq_true (List.all_eq_true.mp g2 k (List.mem_range.mpr hk)), mj_wa_in g3, mj_wa_in g4, mj_wa_in g5⟩
    · cases g
  · obtain ⟨pos, hp⟩ := mj_lkp_in h
    have g := List.all_eq_true.mp c6 _ hp
    unfold mj_ch6 at g
    dsimp only at g
    split at g
    · rename_i z hz
      rw [Bool.and_eq_true] at g
      exact Or.inl ⟨z, hz, of_decide_eq_true g.1, mj_wa_in g.2⟩
    · rename_i hz
      refine Or.inr ⟨List.getElem?_eq_none_iff.mp hz, ?_⟩
      cases e1 : Nat.blt k 2000000 with
      | true =>
        rw [e1] at g
        dsimp only [cond_true] at g
        split at g
        · rename_i z hz
          simp only [Bool.and_eq_true] at g
          exact Or.inl ⟨_, z, of_decide_eq_true g.1, hz, of_decide_eq_true g.2.1, of_decide_eq_true g.2.2, by simpa using e1⟩
        · cases g
      | false =>
        rw [e1] at g
        dsimp only [cond_false] at g
        cases e2 : (k == 2000000) with
        | true => rw [e2] at g; exact Or.inr (Or.inl ⟨eq_of_beq e2, mj_wa_in g⟩)
        | false =>
        rw [e2] at g
        dsimp only [cond_false] at g
        cases e3 : (k == 2000001) with
        | true => rw [e3] at g; exact Or.inr (Or.inr (Or.inl ⟨eq_of_beq e3, mj_wa_in g⟩))
        | false =>
        rw [e3] at g
        dsimp only [cond_false] at g
        cases e4 : (k == 2000002) with
        | true => rw [e4] at g; exact Or.inr (Or.inr (Or.inr (Or.inl ⟨eq_of_beq e4, mj_wa_in g⟩)))
        | false =>
        rw [e4] at g
        dsimp only [cond_false] at g
        cases e5 : (k == 2000003) with
        | true => rw [e5] at g; exact Or.inr (Or.inr (Or.inr (Or.inr ⟨eq_of_beq e5, mj_wa_in g⟩)))
        | false => rw [e5] at g; cases g
  · obtain ⟨u, hu⟩ := Option.isSome_iff_exists.mp (show (mj_lkp (cc (j / 1000)).2.2.2.2.2.2.2.2.2 ix).isSome = true from h)
    obtain ⟨pos, hp⟩ := mj_lkp_in hu
    have g := List.all_eq_true.mp c9 _ hp
    unfold mj_ch9 at g
    simp only [Bool.and_eq_true] at g
    exact ⟨mj_wa_in g.1, mj_wa_in g.2.1, mj_wa_in g.2.2.1, mj_wa_in g.2.2.2⟩
  · obtain ⟨pos, hp⟩ := mj_lkp_in h
    have g := List.all_eq_true.mp c7 _ hp
    unfold mj_ch7 at g
    dsimp only at g
    rw [Bool.and_eq_true] at g
    refine ⟨fun e => ?_, fun e => ?_⟩
    · subst e
      have g := g.1
      simp only [beq_self_eq_true, cond_true, Bool.and_eq_true] at g
      exact ⟨mj_wa_in g.1, mj_wa_in g.2⟩
    · subst e
      have g := g.2
      simp only [beq_self_eq_true, cond_true, Bool.and_eq_true] at g
      exact ⟨mj_wa_in g.1, mj_wa_in g.2⟩
  · obtain ⟨pos, hp⟩ := mj_lkp_in h
    have g := List.all_eq_true.mp c8 _ hp
    unfold mj_ch8 at g
    unfold mj_Li
    cases q with
    | none =>
      dsimp only at g ⊢
      simp only [Bool.and_eq_true] at g
      exact ⟨mj_wa_in g.1, mj_wa_in g.2.1, mj_wa_in g.2.2⟩
    | some z =>
      dsimp only at g ⊢
      split at g
      · rename_i E2 hE2
        simp only [Bool.and_eq_true] at g
        refine ⟨E2.1, ?_, mj_chL_ok g.1, of_decide_eq_true g.2.1, of_decide_eq_true g.2.2.1, mj_wa_in g.2.2.2⟩
        show ((mm (z.1 / 1000))[z.1 % 1000]?).map (fun E => E.1) = some E2.1
        rw [hE2]
        rfl
      · cases g
  · have h : ((mm (j / 1000))[j % 1000]?).bind (fun E => E.2.2.2.2.2.2) = some ci := h
    rw [hm] at h
    cases h

/-! PROGRAMS, 2: what is checked is good -/
def mj_okC (Ns : List Cond) (cl : List vw_C) (cty : Nat → Nat → FieldType) (cc : Nat → mj_C) (mm : Nat → List mj_E) (X : mj_XT) (wi wo : Nat → (Nat × Nat) × (Nat × Nat)) (wb : (Nat × Nat) × (Nat × Nat)) (ws : (Nat × Nat) × (Nat × Nat) × (Nat × Nat)) (c : Nat) : Prop :=
  (cc c).2.1.all (mj_ch1 cl cty (cc c).1) = true ∧ (cc c).2.2.1.all (mj_ch2 Ns cl mm (cc c).1) = true ∧ (cc c).2.2.2.1.all (mj_ch3 (cc c).1) = true ∧ (cc c).2.2.2.2.1.all (mj_ch4 (cc c).1) = true ∧ (cc c).2.2.2.2.2.1.all (mj_ch5 cl cty wi (cc c).1) = true ∧ (cc c).2.2.2.2.2.2.1.all (mj_ch6 X (cc c).1) = true ∧ (cc c).2.2.2.2.2.2.2.1.all (mj_ch7 wo (cc c).1) = true ∧ (cc c).2.2.2.2.2.2.2.2.1.all (mj_ch8 Ns mm wb (cc c).1) = true ∧ (cc c).2.2.2.2.2.2.2.2.2.all (mj_ch9 ws (cc c).1) = true ∧ (mm c).all (mj_chM cl (cc c).1) = true ∧ ∀ E ∈ mm c, mj_cw E
theorem mj_chL_ok {Ns : List Cond} {own : String} {ix n : Nat} {E : mj_E} {pos : Nat × Nat} (h : mj_chL Ns own ix E n pos = true) : mj_Lk mj_AW Ns own ix E.1 n := by
  unfold mj_chL at h
  simp only [Bool.and_eq_true] at h
  obtain ⟨h1, h2, h3⟩ := h
  refine ⟨?_, mj_wa_in h2, of_decide_eq_true h3⟩
  cases hp : (pos.1 == 99) with
  | true =>
    rw [hp] at h1
    exact Or.inr ⟨_, List.mem_of_getElem? (of_decide_eq_true h1)⟩
  | false =>
    rw [hp] at h1
    exact Or.inl (mj_wa_in h1)
theorem mj_good_of {Ns : List Cond} {cl : List vw_C} {cty : Nat → Nat → FieldType} {cc : Nat → mj_C} {mm : Nat → List mj_E} {X : mj_XT} {wi wo : Nat → (Nat × Nat) × (Nat × Nat)} {wb : (Nat × Nat) × (Nat × Nat)} {ws : (Nat × Nat) × (Nat × Nat) × (Nat × Nat)} (hCl : mj_Cl cl cty mj_AW) (hAr : Cond.arrayClass .int ∈ mj_AW ∧ Cond.arrayClass .long ∈ mj_AW ∧ Cond.arrayClass .boolean ∈ mj_AW) (hNs : ∀ w ∈ Ns, mj_nw w) (hOv : Cond.arrayOver (.array .int) ∈ Ns ∧ Cond.arrayOver (.array .long) ∈ Ns) (hc : ∀ c, mj_okC Ns cl cty cc mm X wi wo wb ws c) : mj_Good mj_AW Ns cl cty (mj_mk cc mm X) := by
  refine ⟨hCl, hAr, mj_AW_good, hNs, hOv, fun j Y hY => ?_⟩
  obtain ⟨E, hE, rfl⟩ := Option.map_eq_some_iff.mp (show ((mm (j / 1000))[j % 1000]?).map (fun E => E.1) = some Y from hY)
  obtain ⟨c1, c2, c3, c4, c5, c6, c7, c8, c9, cM, cW⟩ := hc (j / 1000)
  have hM := List.all_eq_true.mp cM E (List.mem_of_getElem? hE)
  unfold mj_chM at hM
  simp only [Bool.and_eq_true] at hM
  obtain ⟨m1, m2, m3, m5, m6⟩ := hM
  have eo : (cc (j / 1000)).1 = E.1.1.cls := (of_decide_eq_true m1).symm
  rw [eo] at c1 c2 c3 c4 c5 c6 c7 c8 c9
  refine ⟨m2, of_decide_eq_true m3, mj_cw_in (cW E (List.mem_of_getElem? hE)), fun pc i k h => ?_, fun ix ci k tc fin h => ?_, fun ix v h => ?_, fun ix v h => ?_, fun ix j' n r h => ?_, fun ix q h => ?_, fun ix k h => ?_, fun ix h => ?_, fun ix ki h => ?_, fun ix q h => ?_, fun ci h => ?_⟩
  · exact mj_dl_all m5 (pc, (i, k)) (mj_lk_in h)
  · obtain ⟨pos, hp⟩ := mj_lkp_in h
    have g := List.all_eq_true.mp c1 _ hp
    unfold mj_ch1 at g
    dsimp only at g
    split at g
    · rename_i z hz
      simp only [Bool.and_eq_true] at g
      exact ⟨z, hz, of_decide_eq_true g.1, of_decide_eq_true g.2.1, of_decide_eq_true g.2.2.1, mj_wa_in g.2.2.2⟩
    · cases g
  · obtain ⟨pos, hp⟩ := mj_lkp_in h
    exact mj_wa_in (List.all_eq_true.mp c3 _ hp)
  · obtain ⟨pos, hp⟩ := mj_lkp_in h
    exact mj_wa_in (List.all_eq_true.mp c4 _ hp)
  · obtain ⟨pos, hp⟩ := mj_lkp_in h
    have g := List.all_eq_true.mp c2 _ hp
    unfold mj_ch2 at g
    dsimp only at g
    split at g
    · rename_i E2 hE2
      rw [Bool.and_eq_true] at g
      refine ⟨E2.1, ?_, mj_chL_ok g.1, ?_⟩
      · show ((mm (j' / 1000))[j' % 1000]?).map (fun E => E.1) = some E2.1
        rw [hE2]
        rfl
      · have g := g.2
        unfold mj_Lr
        cases r with
        | none => exact mj_wa_in g
        | some ci =>
          dsimp only at g ⊢
          simp only [Bool.and_eq_true] at g
          obtain ⟨g1, g2, g3⟩ := g
          split at g3
          · rename_i z hz
            rw [Bool.and_eq_true] at g3
            exact ⟨mj_wa_in g1, mj_wa_in g2, Or.inl ⟨by simpa using g3.2, z, hz, of_decide_eq_true g3.1⟩⟩
          · rw [Bool.and_eq_true] at g3
            exact ⟨mj_wa_in g1, mj_wa_in g2, Or.inr ⟨eq_of_beq g3.1, of_decide_eq_true g3.2⟩⟩
    · cases g
  · obtain ⟨pos, hp⟩ := mj_lkp_in h
    have g := List.all_eq_true.mp c5 _ hp
    unfold mj_ch5 at g
    dsimp only at g
    split at g
    · rename_i z hz
      simp only [Bool.and_eq_true] at g
      obtain ⟨g1, g2, g3, g4, g5⟩ := g
      exact ⟨z, hz, of_decide_eq_true g1, fun k hk => of_decide_eq_true (List.all_eq_true.mp g2 k (List.mem_range.mpr hk)), mj_wa_in g3, mj_wa_in g4, mj_wa_in g5⟩
    · cases g
  · obtain ⟨pos, hp⟩ := mj_lkp_in h
    have g := List.all_eq_true.mp c6 _ hp
    unfold mj_ch6 at g
    dsimp only at g
    split at g
    · rename_i z hz
      rw [Bool.and_eq_true] at g
      exact Or.inl ⟨z, hz, of_decide_eq_true g.1, mj_wa_in g.2⟩
    · rename_i hz
      refine Or.inr ⟨List.getElem?_eq_none_iff.mp hz, ?_⟩
      cases e1 : Nat.blt k 2000000 with
      | true =>
        rw [e1] at g
        dsimp only [cond_true] at g
        split at g
        · rename_i z hz
          simp only [Bool.and_eq_true] at g
          exact Or.inl ⟨_, z, of_decide_eq_true g.1, hz, of_decide_eq_true g.2.1, of_decide_eq_true g.2.2, by simpa using e1⟩
        · cases g
      | false =>
        rw [e1] at g
        dsimp only [cond_false] at g
        cases e2 : (k == 2000000) with
        | true => rw [e2] at g; exact Or.inr (Or.inl ⟨eq_of_beq e2, mj_wa_in g⟩)
        | false =>
        rw [e2] at g
        dsimp only [cond_false] at g
        cases e3 : (k == 2000001) with
        | true => rw [e3] at g; exact Or.inr (Or.inr (Or.inl ⟨eq_of_beq e3, mj_wa_in g⟩))
        | false =>
        rw [e3] at g
        dsimp only [cond_false] at g
        cases e4 : (k == 2000002) with
        | true => rw [e4] at g; exact Or.inr (Or.inr (Or.inr (Or.inl ⟨eq_of_beq e4, mj_wa_in g⟩)))
        | false =>
        rw [e4] at g
        dsimp only [cond_false] at g
        cases e5 : (k == 2000003) with
        | true => rw [e5] at g; exact Or.inr (Or.inr (Or.inr (Or.inr ⟨eq_of_beq e5, mj_wa_in g⟩)))
        | false => rw [e5] at g; cases g
  · obtain ⟨u, hu⟩ := Option.isSome_iff_exists.mp (show (mj_lkp (cc (j / 1000)).2.2.2.2.2.2.2.2.2 ix).isSome = true from h)
    obtain ⟨pos, hp⟩ := mj_lkp_in hu
    have g := List.all_eq_true.mp c9 _ hp
    unfold mj_ch9 at g
    simp only [Bool.and_eq_true] at g
    exact ⟨mj_wa_in g.1, mj_wa_in g.2.1, mj_wa_in g.2.2.1, mj_wa_in g.2.2.2⟩
  · obtain ⟨pos, hp⟩ := mj_lkp_in h
    have g := List.all_eq_true.mp c7 _ hp
    unfold mj_ch7 at g
    dsimp only at g
    rw [Bool.and_eq_true] at g
    refine ⟨fun e => ?_, fun e => ?_⟩
    · subst e
      have g := g.1
      simp only [beq_self_eq_true, cond_true, Bool.and_eq_true] at g
      exact ⟨mj_wa_in g.1, mj_wa_in g.2⟩
    · subst e
      have g := g.2
      simp only [beq_self_eq_true, cond_true, Bool.and_eq_true] at g
      exact ⟨mj_wa_in g.1, mj_wa_in g.2⟩
  · obtain ⟨pos, hp⟩ := mj_lkp_in h
    have g := List.all_eq_true.mp c8 _ hp
    unfold mj_ch8 at g
    unfold mj_Li
    cases q with
    | none =>
      dsimp only at g ⊢
      simp only [Bool.and_eq_true] at g
      exact ⟨mj_wa_in g.1, mj_wa_in g.2.1, mj_wa_in g.2.2⟩
    | some z =>
      dsimp only at g ⊢
      split at g
      · rename_i E2 hE2
        simp only [Bool.and_eq_true] at g
        refine ⟨E2.1, ?_, mj_chL_ok g.1, of_decide_eq_true g.2.1, of_decide_eq_true g.2.2.1, mj_wa_in g.2.2.2⟩
        show ((mm (z.1 / 1000))[z.1 % 1000]?).map (fun E => E.1) = some E2.1
        rw [hE2]
        rfl
      · cases g
  · have h : ((mm (j / 1000))[j % 1000]?).bind (fun E => E.2.2.2.2.2.2) = some ci := h
    rw [hE] at h
    have h : E.2.2.2.2.2.2 = some ci := h
    rw [h] at m6
    dsimp only at m6
    rw [Bool.and_eq_true] at m6
    refine ⟨of_decide_eq_true m6.1, fun q hq k hk => ?_⟩
    have g := m6.2
    rw [hq] at g
    dsimp only at g
    rw [← eo]
    exact of_decide_eq_true (List.all_eq_true.mp g k (List.mem_range.mpr hk))

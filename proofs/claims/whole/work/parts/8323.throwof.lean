/-! THROWS: out of a run of a changed text (its throws are returns, its returns are none) -/
theorem mt_no {P : mj_P} {b : Bool} {j nL k : Nat} {i : Instr} {S : mj_S} (hi : i = .return_ ∨ i = .athrow) : mj_one P b j nL i k S = none ∧ mj_call P j i k S = none := by
  rcases hi with rfl | rfl
  · refine ⟨?_, rfl⟩
    unfold mj_one mj_one0 mj_one1 mj_pz
    cases b <;> cases mj_pZ P j <;> rfl
  · refine ⟨?_, rfl⟩
    unfold mj_one mj_one0 mj_one1 mj_pz
    cases b <;> cases mj_pZ P j <;> rfl
def mt_isE (i : Instr) : Bool := decide (i = .return_) || decide (i = .athrow)
theorem mt_isE_ok {i : Instr} (h : mt_isE i = true) : i = .return_ ∨ i = .athrow := ((Bool.or_eq_true _ _).mp h).imp (fun q => of_decide_eq_true q) (fun q => of_decide_eq_true q)
def mt_same (ip ip' : List (Nat × Instr × Nat)) : Bool := ip'.all (fun q => decide (mj_lk ip q.1 = some q.2) || mt_isE q.2.1)
theorem mt_steps {P : mj_P} {Rel : Nat → List Value → mj_M → Option Value → mj_M → Prop} {j : Nat} {Y Y' : mj_Y} (hs : mt_same Y.2.2.2.2 Y'.2.2.2.2 = true) (hn : Y'.2.2.1 = Y.2.2.1) : ∀ (n : Nat) {S S' : mj_S}, mj_steps P Rel true j Y' n S S' → mj_steps P Rel true j Y n S S' := by
  intro n
  induction n with
  | zero => intro S S' h; exact h
  | succ n ih =>
    intro S S' h
    obtain ⟨S1, ⟨i, k, h1, h2⟩, h3⟩ := h
    rcases (Bool.or_eq_true _ _).mp (List.all_eq_true.mp hs _ (mj_lk_in h1)) with g | g
    · refine ⟨S1, ⟨i, k, of_decide_eq_true g, ?_⟩, ih h3⟩
      rw [hn] at h2
      exact h2
    · obtain ⟨n1, n2⟩ := mt_no (P := P) (b := true) (j := j) (nL := Y'.2.2.1) (k := k) (S := S) (mt_isE_ok g)
      rcases h2 with h2 | ⟨j', vs, rest, v, M', g1, -⟩
      · rw [n1] at h2; cases h2
      · rw [n2] at g1; cases g1
/-- a throw's place: pc, its text's number in the table, whether by a wide index, which String -/
def mt_ck1 (ip : List (Nat × Instr × Nat)) (own : String) (ik ic : Nat) (z : Nat × Nat × Bool × Nat) : Bool :=
  decide (mj_lk ip z.1 = some (.new ik, 3)) && (decide (mj_lk ip (z.1 + 3) = some (.dup, 1)) && ((bif z.2.2.1 then decide (mj_lk ip (z.1 + 4) = some (.ldc_w z.2.1, 3)) && (decide (mj_lk ip (z.1 + 7) = some (.invokespecial ic, 3)) && decide (mj_lk ip (z.1 + 10) = some (.athrow, 1))) else decide (mj_lk ip (z.1 + 4) = some (.ldc z.2.1, 2)) && (decide (mj_lk ip (z.1 + 6) = some (.invokespecial ic, 3)) && decide (mj_lk ip (z.1 + 9) = some (.athrow, 1)))) && (match ic_X.2[z.2.2.2]? with
    | some q => decide (q.1 = own) && decide (q.2.2.1 = z.2.1)
    | none => false)))
def mt_ck (ip ip' : List (Nat × Instr × Nat)) (own : String) (ik ic : Nat) (L : List (Nat × Nat × Bool × Nat)) : Bool :=
  mt_same ip ip' && (L.all (mt_ck1 ip own ik ic) && ip'.all (fun q => !(decide (q.2.1 = .return_)) || L.any (fun z => z.1 == q.1)))
theorem mt_rt0 {i : Instr} {k : Nat} {st : List Value} {r : Option Value} (h : mj_rt none i k st = some r) : i = .return_ ∧ st = [] := by
  obtain ⟨-, h⟩ := mj_rt_inv h
  unfold mj_ret at h
  split at h
  · split at h
    · exact ⟨rfl, rfl⟩
    · cases h
  · split at h
    · split at h
      · rename_i hc
        rcases hc with hc | ⟨hc, -⟩ | ⟨hc, -⟩ | ⟨hc, -⟩ <;> cases hc
      · cases h
    · cases h
  · split at h
    · split at h
      · rename_i hc
        cases hc
      · cases h
    · cases h
  · cases h
theorem mt_of {d d' j ik ic : Nat} {Y Y' : mj_Y} {vs : List Value} {M M' : mj_M} {E : String} {L : List (Nat × Nat × Bool × Nat)} {Q : Option Value → mj_M → Prop} (hw : mj_wp ic_P (mj_R ic_P d) true j Y' (0, lv_args 0 vs, [], M) Q) (hQ : ∀ r M9, Q r M9 → M9 = M') (hd : d ≤ d') (hY : mj_pY ic_P j = some Y) (hs : mj_sum vs ≤ Y.2.2.1) (hr : Y'.2.2.2.1 = none) (hn : Y'.2.2.1 = Y.2.2.1) (hck : mt_ck Y.2.2.2.2 Y'.2.2.2.2 Y.1.cls ik ic L = true) (hE : mt_E mj_AW ic_Ns Y.1.cls E ik ic) (hpn : plainName Y.1.cls = true) : mt_R ic_P d' j vs M E M' := by
  obtain ⟨n, S', i, k, r, h1, h2, h3, h4⟩ := hw
  unfold mt_ck at hck
  simp only [Bool.and_eq_true] at hck
  obtain ⟨c1, c2, c3⟩ := hck
  rw [hr] at h3
  obtain ⟨rfl, hst⟩ := mt_rt0 h3
  have c3 := List.all_eq_true.mp c3 _ (mj_lk_in h2)
  have c3 : L.any (fun z => z.1 == S'.1) = true := by simpa using c3
  obtain ⟨z, hz, hz1⟩ := List.any_eq_true.mp c3
  have hz1 : z.1 = S'.1 := eq_of_beq hz1
  have c2 := List.all_eq_true.mp c2 z hz
  unfold mt_ck1 at c2
  rw [hz1] at c2
  simp only [Bool.and_eq_true] at c2
  obtain ⟨t1, t2, t3, t4⟩ := c2
  have st := mj_steps_mono (fun _ _ _ _ _ h => mj_R_le hd h) n (mt_steps c1 hn n h1)
  cases hx : ic_X.2[z.2.2.2]? with
  | none => rw [hx] at t4; cases t4
  | some q =>
    rw [hx] at t4
    simp only [Bool.and_eq_true] at t4
    refine ⟨Y, hY, hs, n, S', ik, z.2.1, ic, z.2.2.1, z.2.2.2, q, st, hst, ⟨of_decide_eq_true t1, of_decide_eq_true t2, ?_⟩, hE, hx, of_decide_eq_true t4.1, of_decide_eq_true t4.2, hpn, (hQ _ _ h4).symm⟩
    cases hb : z.2.2.1 with
    | true =>
      rw [hb] at t3
      simp only [cond_true, Bool.and_eq_true] at t3
      exact Or.inr ⟨rfl, of_decide_eq_true t3.1, of_decide_eq_true t3.2.1, of_decide_eq_true t3.2.2⟩
    | false =>
      rw [hb] at t3
      simp only [cond_false, Bool.and_eq_true] at t3
      exact Or.inl ⟨rfl, of_decide_eq_true t3.1, of_decide_eq_true t3.2.1, of_decide_eq_true t3.2.2⟩
def mt_inb (ws : List Cond) : Bool := ws.all (fun w => (goodWord w && decide (w ∈ lw_tbl)) || decide (w ∈ ic_Ns))
theorem mt_Eof {own E : String} {ik ic : Nat} (h1 : Bundle.fit E = true) (h2 : mt_inb [Cond.classLink own ik E, Cond.initialized E] = true) (h3 : mt_inb (vx_atS own ic E mt_nm) = true) (h4 : (Cond.classLink own ik E :: Cond.initialized E :: vx_atS own ic E mt_nm).all vx_ot = true) (h5 : ic_Ns.all (fun w => !(decide (w ∈ vx_atS own ic E mt_nm)) || w.onTables) = true) (h6 : ic_Ns.all (fun w => !(decide (w = Cond.classLink own ik E)) && !(decide (w = Cond.initialized E))) = true) : mt_E mj_AW ic_Ns own E ik ic := by
  have key : ∀ ws, mt_inb ws = true → ∀ w ∈ ws, w ∈ mj_AW ∨ w ∈ ic_Ns := fun ws h w hw => by
    rcases (Bool.or_eq_true _ _).mp (List.all_eq_true.mp h w hw) with g | g
    · obtain ⟨g1, g2⟩ := (Bool.and_eq_true _ _).mp g
      exact Or.inl (List.mem_filter.mpr ⟨of_decide_eq_true g2, g1⟩)
    · exact Or.inr (of_decide_eq_true g)
  have no : ∀ w ∈ ic_Ns, w ≠ Cond.classLink own ik E ∧ w ≠ Cond.initialized E := fun w hw => by
    have := List.all_eq_true.mp h6 w hw
    simpa using this
  refine ⟨h1, (key _ h2 _ List.mem_cons_self).elim id (fun q => absurd rfl (no _ q).1), (key _ h2 _ (List.mem_cons_of_mem _ List.mem_cons_self)).elim id (fun q => absurd rfl (no _ q).2), key _ h3, fun w hw => List.all_eq_true.mp h4 w hw, fun w hw hn => ?_⟩
  have := List.all_eq_true.mp h5 w hn
  simp only [decide_eq_true hw, Bool.not_true, Bool.false_or] at this
  exact this
set_option maxRecDepth 100000 in
theorem mt_E1 : mt_E mj_AW ic_Ns "EngineControl" "java/lang/IllegalArgumentException" 107 111 := mt_Eof (by decide +kernel) (by decide +kernel) (by decide +kernel) (by decide +kernel) (by decide +kernel) (by decide +kernel)
set_option maxRecDepth 100000 in
theorem mt_E2 : mt_E mj_AW ic_Ns "EngineControl" "java/lang/IndexOutOfBoundsException" 158 162 := mt_Eof (by decide +kernel) (by decide +kernel) (by decide +kernel) (by decide +kernel) (by decide +kernel) (by decide +kernel)
set_option maxRecDepth 100000 in
theorem mt_E3 : mt_E mj_AW ic_Ns "EngineControl" "java/lang/IllegalStateException" 189 193 := mt_Eof (by decide +kernel) (by decide +kernel) (by decide +kernel) (by decide +kernel) (by decide +kernel) (by decide +kernel)

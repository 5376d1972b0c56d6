/-! THE SMALL MACHINE, 13: steps, runs -/
theorem mj_steps_ok {l : Launch} {AW Ns : List Cond} {cl : List vw_C} {cty : Nat → Nat → FieldType} {P : mj_P} (hG : mj_Good AW Ns cl cty P) (hMa : mj_MaOk cl cty AW) {d j : Nat} {b : Bool} {Y : mj_Y} (hY : mj_G0 AW Ns cl cty P j Y) {Rel : Nat → List Value → mj_M → Option Value → mj_M → Prop} (hR : mj_Rl l AW Ns cl cty P d Rel) (hKp : mj_Kp Rel) (hb0 : b = false → ∀ j vs M r M', ¬ Rel j vs M r M')
    {p : Program} {e : Env} {R : Room} {s : State} {m : MethodId} {args : Array Value} {below : List Frame} {meth : Method} {c : Code} {Q : State → Prop} {D : va_G} {cy : Nat → ClassId} {A : Nat → Prop} (hC : mj_Cx AW Ns cl P Y d b p R s m args meth c D cy A) : ∀ (n : Nat)
    {S S' : mj_S}, mj_steps P Rel b j Y n S S' → mj_wS S → ∀ {ad : Nat → Nat} {H : Heap} {locs : List Loc} {ls : Array Slot} {cells slots : Nat}, mj_XZ (mj_pX P) ad A s s.heap → va_P D cl (mj_ws cty cy ad S.2.2.2) H → va_D A (mj_ws cty cy ad S.2.2.2) → va_S A s.heap H locs → lv_has ls Y.2.2.1 (mj_l ad S.2.1) →
    cells + (S'.2.2.2.1.length - S.2.2.2.1.length) ≤ R.cells → slots + (mj_slt S'.2.2.2 - mj_slt S.2.2.2) ≤ R.slots →
    (∀ (ad' : Nat → Nat) (H1 : Heap) (locs1 : List Loc) (ls1 : Array Slot), mj_ag S.2.2.2.1.length ad ad' → va_P D cl (mj_ws cty cy ad' S'.2.2.2) H1 → va_D A (mj_ws cty cy ad' S'.2.2.2) → va_S A s.heap H1 locs1 → lv_has ls1 Y.2.2.1 (mj_l ad' S'.2.1) → W p l e R s m args below meth c H1 locs1 (cells + (S'.2.2.2.1.length - S.2.2.2.1.length)) (slots + (mj_slt S'.2.2.2 - mj_slt S.2.2.2)) Q (F0 m S'.1 ls1 (mj_s ad' S'.2.2.1))) →
    W p l e R s m args below meth c H locs cells slots Q (F0 m S.1 ls (mj_s ad S.2.2.1)) := by
  intro n
  induction n with
  | zero =>
    intro S S' h hw ad H locs ls cells slots hX hP hD hS hl hc1 hc2 kk
    cases h
    have go := kk ad H locs ls mj_ag_rf hP hD hS hl
    simp only [Nat.sub_self, Nat.add_zero] at go
    exact go
  | succ n ih =>
    intro S S' h hw ad H locs ls cells slots hX hP hD hS hl hc1 hc2 kk
    obtain ⟨S1, h1, h2⟩ := h
    obtain ⟨e1, w1⟩ := mj_step_w hKp h1 hw
    obtain ⟨e2, w2⟩ := mj_steps_w hKp n h2 w1
    have l1 := mj_ext_len e1
    have l2 := mj_ext_len e2
    have s1 := mj_ext_slt e1
    have s2 := mj_ext_slt e2
    refine mj_step_ok hG hMa hY hR hKp hb0 hC h1 hw hX hP hD hS hl (by omega) (by omega) (fun ad' H1 locs1 ls1 g0 g1 g2 g3 g4 => ?_)
    refine ih h2 w1 (mj_XZ_ag g0 hX) g1 g2 g3 g4 (by omega) (by omega) (fun ad2 H2 locs2 ls2 f0 f1 f2 f3 f4 => ?_)
    have go := kk ad2 H2 locs2 ls2 (mj_ag_tr g0 l1 f0) f1 f2 f3 f4
    have q1 : cells + (S1.2.2.2.1.length - S.2.2.2.1.length) + (S'.2.2.2.1.length - S1.2.2.2.1.length) = cells + (S'.2.2.2.1.length - S.2.2.2.1.length) := by omega
    have q2 : slots + (mj_slt S1.2.2.2 - mj_slt S.2.2.2) + (mj_slt S'.2.2.2 - mj_slt S1.2.2.2) = slots + (mj_slt S'.2.2.2 - mj_slt S.2.2.2) := by omega
    rw [q1, q2]
    exact go
theorem mj_ofW {l : Launch} {y : MethodName} {ws ws' : List Cond} {rm : Room} {Pc : Array Value → State → Prop} {Qc : Array Value → State → Outcome → State → Prop} {mc ms : Nat} {free : Addr → Prop} {cc : ByteArray} {maxL : Nat} {ret : Option FieldType}
    (hy : plainFor y = true) (hw : ws = Cond.code y cc maxL ret :: ws')
    (body : ∀ p e s m args below meth c s₁, BodyLoose p l y (headSpec ws rm) cc maxL ret e s m args below meth c s₁ → c.maxLocals = maxL → Pc args s →
      W p l e (headSpec ws rm).room s m args below meth c s.heap [] 0 0 (MQ below Qc args s mc ms free) (entryFrame m args maxL)) : Met l y ws rm Pc Qc mc ms free := by
  refine MetFree.of_bodySF (code := cc) (maxLocals := maxL) (ret := ret) hy ?_ ?_
  · intro args s m h hn
    obtain ⟨meth, c, h1, h2, h3, h4, h5, h6, -, -⟩ := Cond.code_spec hn (atoms_spec (ws := ws) h _ (by rw [hw]; exact List.mem_cons_self))
    exact ⟨meth, c, h1, h2, h3, h4, h5, h6⟩
  · intro p e s m args below meth c s₁ B hml hP _
    have hh0 : s₁.heap = s.heap := by rw [B.state]; rfl
    obtain ⟨t, a1, o, b1, b2, b3⟩ := body p e s m args below meth c s₁ B hml hP s₁ hh0 (Stand.of_body B)
    exact ⟨t, o, a1, b1, b2, ⟨b3.1, b3.2⟩⟩
theorem mj_Rb_ok {l : Launch} {AW Ns : List Cond} {cl : List vw_C} {cty : Nat → Nat → FieldType} {P : mj_P} (hG : mj_Good AW Ns cl cty P) (hMa : mj_MaOk cl cty AW) {d d1 : Nat} {b : Bool} {Rel : Nat → List Value → mj_M → Option Value → mj_M → Prop} (hR : mj_Rl l AW Ns cl cty P d Rel) (hKp : mj_Kp Rel) (hb0 : b = false → ∀ j vs M r M', ¬ Rel j vs M r M') (hd : b = true → d1 = d + 1) : mj_Rl l AW Ns cl cty P d1 (mj_Rb P Rel b) := by
  intro j vs M r M' h hv hM
  obtain ⟨Y, hY, hs, n, S', i, k, h1, h2, h3, rfl⟩ := h
  refine ⟨Y, hY, fun D cy ad sz => ?_⟩
  refine mj_ofW (cc := Y.2.1) (maxL := Y.2.2.1) (ret := Y.2.2.2.1) (hG.2.2.2.2.2 j Y hY).1 rfl ?_
  intro p e s m args below meth c s₁ B hml hv9
  obtain ⟨rfl, hsz, bK, bP, bD, bN, bX⟩ := hv9
  subst hsz
  have hl := lv_entry (mj_s ad vs) (n := Y.2.2.1) (by rw [mj_sl_len]; exact hs)
  rw [lg_entry_eq]
  generalize (lg_sl (mj_s ad vs) ++ List.replicate (Y.2.2.1 - (lg_sl (mj_s ad vs)).length) Slot.unset).toArray = ls at hl ⊢
  rw [← mj_args] at hl
  have hw : mj_wS (0, lv_args 0 vs, [], M) := ⟨fun q hq => hv _ (mj_args_mem vs 0 q hq), (fun v h => by cases h), hM⟩
  have hC : mj_Cx AW Ns cl P Y d b p (mj_rm d1 (S'.2.2.2.1.length - M.1.length) (mj_slt S'.2.2.2 - mj_slt M)) s m (mj_s ad vs).toArray meth c D cy (va_A (mj_ws cty cy ad M) s.heap.size) := by
    refine ⟨B.exec, B.bytes, hml, (name_of_methodNamed B.named B.method).1, findClass_of_methodNamed B.named, fun w hw => atoms_spec (ws := mj_wy AW Y) B.pre w (List.mem_cons_of_mem _ hw), bK, bN, fun q hq => Or.inr hq, fun hb => ?_⟩
    rw [hd hb]
    exact ⟨Nat.le_refl _, Nat.le_refl _⟩
  refine mj_steps_ok hG hMa (hG.2.2.2.2.2 j Y hY).2.2.2 hR hKp hb0 hC n h1 hw (cells := 0) (slots := 0) bX bP bD.self va_S.rf hl (by rw [Nat.zero_add]; exact Nat.le_refl _) (by rw [Nat.zero_add]; exact Nat.le_refl _) (fun ad' H1 locs1 ls1 g0 g1 g2 g3 g4 => ?_)
  obtain ⟨hk1, h3⟩ := mj_rt_inv h3
  rw [Nat.zero_add, Nat.zero_add]
  exact mj_ret_ok B.exec B.bytes B.returns B.notSynchronized h3 ((hG.2.2.2.2.2 j Y hY).2.2.2.1 _ _ _ h2) hk1 (fun t ht hW => ⟨ad', g0, rfl, by rw [ht]; exact g1, g2, g3.F ht⟩) g3.2.2
/-- THE THEOREM: a run of the small machine is a contract of the machine -/
theorem mj_sound {l : Launch} {AW Ns : List Cond} {cl : List vw_C} {cty : Nat → Nat → FieldType} {P : mj_P} (hG : mj_Good AW Ns cl cty P) (hMa : mj_MaOk cl cty AW) : ∀ d, mj_Rl l AW Ns cl cty P d (mj_R P d) := by
  intro d
  induction d with
  | zero => exact mj_Rb_ok (d := 0) hG hMa (fun _ _ _ _ _ h => h.elim) (fun _ _ _ _ _ h => h.elim) (fun _ _ _ _ _ _ h => h) (fun h => by cases h)
  | succ d ih => exact mj_Rb_ok hG hMa ih (mj_R_w d) (fun h => by cases h) (fun _ => rfl)

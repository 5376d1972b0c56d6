/-! THROWS: a method of the class that comes to 'throw new E("..")' -/
def mt_nm : List String := ["java/lang/RuntimeException", "java/lang/Exception"]
/-- the throw at pc; w: its text by a wide index -/
def mt_at (code : List (Nat × Instr × Nat)) (pc ik is ic : Nat) (w : Bool) : Prop := mj_lk code pc = some (.new ik, 3) ∧ mj_lk code (pc + 3) = some (.dup, 1) ∧
  ((w = false ∧ mj_lk code (pc + 4) = some (.ldc is, 2) ∧ mj_lk code (pc + 6) = some (.invokespecial ic, 3) ∧ mj_lk code (pc + 9) = some (.athrow, 1)) ∨
  (w = true ∧ mj_lk code (pc + 4) = some (.ldc_w is, 3) ∧ mj_lk code (pc + 7) = some (.invokespecial ic, 3) ∧ mj_lk code (pc + 10) = some (.athrow, 1)))
/-- the words of an exception -/
def mt_E (AW Ns : List Cond) (own E : String) (ik ic : Nat) : Prop := Bundle.fit E = true ∧ Cond.classLink own ik E ∈ AW ∧ Cond.initialized E ∈ AW ∧ (∀ w ∈ vx_atS own ic E mt_nm, w ∈ AW ∨ w ∈ Ns) ∧ (∀ w ∈ Cond.classLink own ik E :: Cond.initialized E :: vx_atS own ic E mt_nm, vx_ot w = true) ∧ (∀ w ∈ vx_atS own ic E mt_nm, w ∈ Ns → w.onTables = true)
def mt_XC (D : va_G) (cl : List vw_C) (cty : Nat → Nat → FieldType) (cy : Nat → ClassId) (ad : Nat → Nat) (L : Nat) (E : String) (M' : mj_M) (A : Nat → Prop) : String → State → State → Prop := fun E9 st t =>
  E9 = E ∧ ∃ ad' : Nat → Nat, mj_ag L ad ad' ∧ va_P D cl (mj_ws cty cy ad' M') t.heap ∧ va_D A (mj_ws cty cy ad' M') ∧ va_F A st t
/-- the contract of a run that throws -/
def mt_Met (l : Launch) (AW Ns : List Cond) (cl : List vw_C) (cty : Nat → Nat → FieldType) (X : mj_XT) (Y : mj_Y) (d : Nat) (vs : List Value) (M : mj_M) (E : String) (M' : mj_M) : Prop :=
  ∀ (D : va_G) (cy : Nat → ClassId) (ad : Nat → Nat) (sz : Nat), vx_Met l Y.1 (mj_wy AW Y) (mj_rm d (M'.1.length - M.1.length + 1) (mj_slt M' - mj_slt M + 6)) (va_Pc (mj_s ad vs) (mj_B D cl cty cy ad Ns X M sz)) (fun _ _ _ _ => False) (mt_XC D cl cty cy ad M.1.length E M' (va_A (mj_ws cty cy ad M) sz)) (M'.1.length - M.1.length + 1) (mj_slt M' - mj_slt M + 6) (va_A (mj_ws cty cy ad M) sz)
/-- a run to a throw -/
def mt_R (P : mj_P) (d j : Nat) (vs : List Value) (M : mj_M) (E : String) (M' : mj_M) : Prop := ∃ Y, mj_pY P j = some Y ∧ mj_sum vs ≤ Y.2.2.1 ∧ ∃ (n : Nat) (S' : mj_S) (ik is ic : Nat) (w : Bool) (i : Nat), ∃ q : String × String × Nat × Nat × (Nat → Int32), mj_steps P (mj_R P d) true j Y n (0, lv_args 0 vs, [], M) S' ∧ S'.2.2.1 = [] ∧ mt_at Y.2.2.2.2 S'.1 ik is ic w ∧ mt_E mj_AW ic_Ns Y.1.cls E ik ic ∧ (mj_pX P).2[i]? = some q ∧ q.1 = Y.1.cls ∧ q.2.2.1 = is ∧ plainName Y.1.cls = true ∧ M' = S'.2.2.2
set_option maxHeartbeats 4000000 in
theorem mt_ok {l : Launch} (hl9 : l.stackTraces = false) {cl : List vw_C} {cty : Nat → Nat → FieldType} {P : mj_P} (hG : mj_Good mj_AW ic_Ns cl cty P) (hMa : mj_MaOk cl cty mj_AW) {d j : Nat} (hd : 6 ≤ d) {vs : List Value} {M : mj_M} {E : String} {M' : mj_M} (h : mt_R P d j vs M E M') (hv : ∀ v ∈ vs, mj_wv M.1.length v) (hM : mj_wM M) : ∃ Y, mj_pY P j = some Y ∧ mt_Met l mj_AW ic_Ns cl cty (mj_pX P) Y (d + 1) vs M E M' := by
  obtain ⟨Y, hY, hs, n, S', ik, is, ic, w, i, q, h1, hstk, hat, hE, hq, hq1, hq2, hpn, rfl⟩ := h
  obtain ⟨e1, e2, e3, e4, e5, e6⟩ := hE
  refine ⟨Y, hY, fun D cy ad sz => ?_⟩
  refine vx_ofW (cc := Y.2.1) (maxL := Y.2.2.1) (ret := Y.2.2.2.1) hpn rfl ?_
  intro p e s m args below meth c s₁ B hml hno hv9
  obtain ⟨rfl, hsz, bK, bP, bD, bN, bX⟩ := hv9
  subst hsz
  have hl := lv_entry (mj_s ad vs) (n := Y.2.2.1) (by rw [mj_sl_len]; exact hs)
  rw [lg_entry_eq]
  generalize (lg_sl (mj_s ad vs) ++ List.replicate (Y.2.2.1 - (lg_sl (mj_s ad vs)).length) Slot.unset).toArray = ls at hl ⊢
  rw [← mj_args] at hl
  have hw : mj_wS (0, lv_args 0 vs, [], M) := ⟨fun q hq => hv _ (mj_args_mem vs 0 q hq), (fun v h => by cases h), hM⟩
  have hC : mj_Cx mj_AW ic_Ns cl P Y d true p (mj_rm (d + 1) (S'.2.2.2.1.length - M.1.length + 1) (mj_slt S'.2.2.2 - mj_slt M + 6)) s m (mj_s ad vs).toArray meth c D cy (va_A (mj_ws cty cy ad M) s.heap.size) := by
    refine ⟨B.exec, B.bytes, hml, (name_of_methodNamed B.named B.method).1, findClass_of_methodNamed B.named, fun w hw => atoms_spec (ws := mj_wy mj_AW Y) B.pre w (List.mem_cons_of_mem _ hw), bK, bN, fun q hq => Or.inr hq, fun hb => ⟨Nat.le_refl _, Nat.le_refl _⟩⟩
  have htA : ∀ w ∈ mj_AW, w.before (mj_s ad vs).toArray s = true := hC.2.2.2.2.2.1
  have hdec := (hG.2.2.2.2.2 j Y hY).2.2.2.1
  refine mj_steps_ok hG hMa (hG.2.2.2.2.2 j Y hY).2.2.2 (mj_sound hG hMa d) (mj_R_w d) (fun h => by cases h) hC n h1 hw (cells := 0) (slots := 0) bX bP bD.self va_S.rf hl (by rw [Nat.zero_add]; exact Nat.le_succ _) (by rw [Nat.zero_add]; exact Nat.le_add_right _ _) (fun ad' H1 locs1 ls1 g0 g1 g2 g3 g4 => ?_)
  rw [hstk, Nat.zero_add, Nat.zero_add]
  have hx : ∀ t : State, s.vm.Alike t.vm → H1.size ≤ t.heap.size → (∀ q : Nat, q < H1.size → t.heap[q]? = H1[q]?) → mt_XC D cl cty cy ad M.1.length E S'.2.2.2 (va_A (mj_ws cty cy ad M) s.heap.size) E s t := by
    intro t _ t1 t2
    refine ⟨rfl, ad', g0, fun k z hk => (g1 k z hk).kept (t2 _ (g1 k z hk).lt), g2, Nat.le_trans g3.1 t1, fun a a1 a2 => ?_⟩
    rw [t2 a (Nat.lt_of_lt_of_le a1 g3.1)]
    exact g3.2.1 a a1 a2
  have hat9 : ∀ w ∈ vx_atS Y.1.cls ic E mt_nm, w.before (mj_s ad vs).toArray s = true := fun w hw => (e4 w hw).elim (fun z => htA w z) (fun z => va_Nw.use (e6 w hw z) (bN w z))
  have hstr : vk_R Y.1.cls is q.2.1 (ad (2000000 + 2 * i)) s := by
    have := (bX.2.1 i q hq).1
    rw [hq1, hq2] at this
    exact this
  obtain ⟨t1, t2, t3⟩ := hat
  rcases t3 with ⟨-, t4, t5, t6⟩ | ⟨-, t4, t5, t6⟩
  · exact vx_throwS (own := Y.1.cls) (cls := E) (names := mt_nm) (ik := ik) (is := is) (ic := ic) (A := va_A (mj_ws cty cy ad M) s.heap.size) B.exec B.bytes hl9 hC.2.2.2.2.1 e1 (by decide +kernel) (htA _ e2) (htA _ e3) hstr hat9 e5 bX.2.2.2.2.1 bX.2.2.2.2.2.1 g3 (g4.1.trans hml.symm) (hdec _ _ _ t1) (hdec _ _ _ t2) (hdec _ _ _ t4) (hdec _ _ _ t5) (hdec _ _ _ t6) (fun x hx => (hno x hx).elim) (by show 2 + 3 < d + 1; omega) (by show 0 + (13 * 3 + 43) ≤ 64 * (d + 1); omega) (Nat.le_refl _) (Nat.le_refl _) B.notSynchronized hx g3.2.2 (Nat.le_refl _) (Nat.le_refl _)
  · exact vx_throwSW (own := Y.1.cls) (cls := E) (names := mt_nm) (ik := ik) (is := is) (ic := ic) (A := va_A (mj_ws cty cy ad M) s.heap.size) B.exec B.bytes hl9 hC.2.2.2.2.1 e1 (by decide +kernel) (htA _ e2) (htA _ e3) hstr hat9 e5 bX.2.2.2.2.1 bX.2.2.2.2.2.1 g3 (g4.1.trans hml.symm) (hdec _ _ _ t1) (hdec _ _ _ t2) (hdec _ _ _ t4) (hdec _ _ _ t5) (hdec _ _ _ t6) (fun x hx => (hno x hx).elim) (by show 2 + 3 < d + 1; omega) (by show 0 + (13 * 3 + 43) ≤ 64 * (d + 1); omega) (Nat.le_refl _) (Nat.le_refl _) B.notSynchronized hx g3.2.2 (Nat.le_refl _) (Nat.le_refl _)

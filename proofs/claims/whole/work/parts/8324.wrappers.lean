/-! THE LAW'S WRAPPERS: a method with handlers, that calls a method of the class, which returns or throws -/
def mw_ws (AW : List Cond) (Y : mj_Y) (hh : List (Nat × Nat × Nat × Nat)) : List Cond := Cond.codeWith Y.1 Y.2.1 Y.2.2.1 Y.2.2.2.1 hh :: AW
/-- the contract of a wrapper's run: a cell of six slots more at most (the exception) -/
def mw_Met (l : Launch) (AW Ns : List Cond) (cl : List vw_C) (cty : Nat → Nat → FieldType) (X : mj_XT) (Y : mj_Y) (hh : List (Nat × Nat × Nat × Nat)) (d : Nat) (vs : List Value) (M : mj_M) (r : Option Value) (M' : mj_M) : Prop :=
  ∀ (D : va_G) (cy : Nat → ClassId) (ad : Nat → Nat) (sz : Nat), Met l Y.1 (mw_ws AW Y hh) (mj_rm d (M'.1.length - M.1.length + 1) (mj_slt M' - mj_slt M + 6)) (va_Pc (mj_s ad vs) (mj_B D cl cty cy ad Ns X M sz)) (mj_Qc D cl cty cy ad M.1.length r M' (va_A (mj_ws cty cy ad M) sz)) (M'.1.length - M.1.length + 1) (mj_slt M' - mj_slt M + 6) (va_A (mj_ws cty cy ad M) sz)
section MW
variable {l : Launch} {cl : List vw_C} {cty : Nat → Nat → FieldType} {P : mj_P} {d j n : Nat} {Y : mj_Y} {hh : List (Nat × Nat × Nat × Nat)} {vs : List Value} {M : mj_M} {S' : mj_S}
/-- it returns -/
theorem mw_ret (hG : mj_Good mj_AW ic_Ns cl cty P) (hMa : mj_MaOk cl cty mj_AW) (hY : mj_G0 mj_AW ic_Ns cl cty P j Y) (hpn : plainName Y.1.cls = true) (hs : mj_sum vs ≤ Y.2.2.1) (h1 : mj_steps P (mj_R P d) true j Y n (0, lv_args 0 vs, [], M) S') {i : Instr} {k : Nat} {r : Option Value} (h2 : mj_lk Y.2.2.2.2 S'.1 = some (i, k)) (h3 : mj_rt Y.2.2.2.1 i k S'.2.2.1 = some r) (hv : ∀ v ∈ vs, mj_wv M.1.length v) (hM : mj_wM M) : mw_Met l mj_AW ic_Ns cl cty (mj_pX P) Y hh (d + 1) vs M r S'.2.2.2 := by
  intro D cy ad sz
  refine va_MetW (cc := Y.2.1) (maxL := Y.2.2.1) (ret := Y.2.2.2.1) (hh := hh) hpn rfl ?_
  intro p e s m args below meth c s₁ B hml hv9
  obtain ⟨rfl, hsz, bK, bP, bD, bN, bX⟩ := hv9
  subst hsz
  have hl := lv_entry (mj_s ad vs) (n := Y.2.2.1) (by rw [mj_sl_len]; exact hs)
  rw [lg_entry_eq]
  generalize (lg_sl (mj_s ad vs) ++ List.replicate (Y.2.2.1 - (lg_sl (mj_s ad vs)).length) Slot.unset).toArray = ls at hl ⊢
  rw [← mj_args] at hl
  have hw : mj_wS (0, lv_args 0 vs, [], M) := ⟨fun q hq => hv _ (mj_args_mem vs 0 q hq), (fun v h => by cases h), hM⟩
  have hC : mj_Cx mj_AW ic_Ns cl P Y d true p (mj_rm (d + 1) (S'.2.2.2.1.length - M.1.length + 1) (mj_slt S'.2.2.2 - mj_slt M + 6)) s m (mj_s ad vs).toArray meth c D cy (va_A (mj_ws cty cy ad M) s.heap.size) :=
    ⟨B.exec, B.bytes, hml, (name_of_methodNamed B.named B.method).1, findClass_of_methodNamed B.named, fun w hw => atoms_spec (ws := mw_ws mj_AW Y hh) B.pre w (List.mem_cons_of_mem _ hw), bK, bN, fun q hq => Or.inr hq, fun _ => ⟨Nat.le_refl _, Nat.le_refl _⟩⟩
  refine mj_steps_ok hG hMa hY (mj_sound hG hMa d) (mj_R_w d) (fun h => by cases h) hC n h1 hw (cells := 0) (slots := 0) bX bP bD.self va_S.rf hl (by rw [Nat.zero_add]; exact Nat.le_succ _) (by rw [Nat.zero_add]; exact Nat.le_add_right _ _) (fun ad' H1 locs1 ls1 g0 g1 g2 g3 g4 => ?_)
  obtain ⟨hk1, h3⟩ := mj_rt_inv h3
  rw [Nat.zero_add, Nat.zero_add]
  refine W.widen (Nat.le_succ _) (Nat.le_add_right _ 6) ?_
  exact mj_ret_ok B.exec B.bytes B.returns B.notSynchronized h3 (hY.1 _ _ _ h2) hk1 (fun t ht hW => ⟨ad', g0, rfl, by rw [ht]; exact g1, g2, g3.F ht⟩) g3.2.2
/-- the class's method throws E, and a handler takes it -/
theorem mw_thr (hl9 : l.stackTraces = false) (hG : mj_Good mj_AW ic_Ns cl cty P) (hMa : mj_MaOk cl cty mj_AW) (hY : mj_G0 mj_AW ic_Ns cl cty P j Y) (hpn : plainName Y.1.cls = true) (hs : mj_sum vs ≤ Y.2.2.1) (hd : 6 ≤ d) (h1 : mj_steps P (mj_R P (d + 1)) true j Y n (0, lv_args 0 vs, [], M) S') {ix jf nf ci : Nat} {o : Nat} {As rest : List Value} {M' : mj_M} {E : String}
    (hlk : mj_lk Y.2.2.2.2 S'.1 = some (.invokevirtual ix, 3)) (hg9 : mj_pG P j ix = some (jf, nf, some ci)) (hci : ci < 100) (hlen : As.length = nf) (hsum : mj_sum rest ≤ 8) (hst : S'.2.2.1 = As.reverse ++ .ref o :: rest) {nn : Nat} (ho : S'.2.2.2.1[o]? = some (ci, nn)) (hlm : ∀ Y2, mj_pY P jf = some Y2 → Cond.methodLink Y.1.cls ix Y2.1 ∈ mj_AW) (ht : mt_R P d jf (.ref o :: As) S'.2.2.2 E M')
    (pre : List ExceptionTableEntry) (x : ExceptionTableEntry) (suf : List ExceptionTableEntry) (hsplit : tableOf hh = pre ++ x :: suf) (hpass : ∀ z ∈ pre, z.catchType ≠ 0 ∧ ∃ nm, Cond.classLink Y.1.cls z.catchType nm ∈ mj_AW ∧ (E, nm) ∈ mj_nl) (hcov : covers x S'.1 = true) (hct : x.catchType ≠ 0) (hcl : Cond.classLink Y.1.cls x.catchType E ∈ mj_AW) (hca : Cond.castable E E ∈ ic_Ns)
    {ia : Instr} {ka : Nat} {lv' : List (Nat × Value)} {c9 : Int} (a1 : mj_lk Y.2.2.2.2 x.handlerPc = some (ia, ka)) (a2 : mj_loc ia Y.2.2.1 [] [.ref 5000000] = some (ka, lv', [])) (a3 : mj_lk Y.2.2.2.2 (x.handlerPc + ka) = some (.iconst c9, 1)) (a4 : mj_lk Y.2.2.2.2 (x.handlerPc + ka + 1) = some (.ireturn, 1)) (hret : Y.2.2.2.1 = some .int)
    (hv : ∀ v ∈ vs, mj_wv M.1.length v) (hM : mj_wM M) : mw_Met l mj_AW ic_Ns cl cty (mj_pX P) Y hh (d + 2) vs M (some (.int (Int32.ofInt c9))) M' := by
  intro D cy ad sz
  refine va_MetW (cc := Y.2.1) (maxL := Y.2.2.1) (ret := Y.2.2.2.1) (hh := hh) hpn rfl ?_
  intro p e s m args below meth c s₁ B hml hv9
  obtain ⟨rfl, hsz, bK, bP, bD, bN, bX⟩ := hv9
  subst hsz
  have hl := lv_entry (mj_s ad vs) (n := Y.2.2.1) (by rw [mj_sl_len]; exact hs)
  rw [lg_entry_eq]
  generalize (lg_sl (mj_s ad vs) ++ List.replicate (Y.2.2.1 - (lg_sl (mj_s ad vs)).length) Slot.unset).toArray = ls at hl ⊢
  rw [← mj_args] at hl
  have hw : mj_wS (0, lv_args 0 vs, [], M) := ⟨fun q hq => hv _ (mj_args_mem vs 0 q hq), (fun v h => by cases h), hM⟩
  have hall := atoms_spec (ws := mw_ws mj_AW Y hh) B.pre
  have htA : ∀ w ∈ mj_AW, w.before (mj_s ad vs).toArray s = true := fun w hw => hall w (List.mem_cons_of_mem _ hw)
  obtain ⟨x1, w1⟩ := mj_steps_w (mj_R_w (d + 1)) n h1 hw
  have wv1 : (∀ v ∈ Value.ref o :: As, mj_wv S'.2.2.2.1.length v) ∧ ∀ v ∈ rest, mj_wv S'.2.2.2.1.length v := by
    have hs9 := w1.2.1
    rw [hst] at hs9
    exact ⟨mj_all2 (hs9 _ (by simp)) (fun v hv => hs9 v (by simp [hv])), fun v hv => hs9 v (by simp [hv])⟩
  have x2 : mj_ext S'.2.2.2 M' := by
    obtain ⟨Y8, hY8, hs8, n8, S8, ik, is, ic, w8, i8, q8, k1, k2, k3, k4, k5, k6, k7, k8, rfl⟩ := ht
    exact (mj_steps_w (mj_R_w d) n8 k1 ⟨fun q hq => wv1.1 _ (mj_args_mem _ 0 q hq), (fun v h => by cases h), w1.2.2⟩).1
  have l1 := mj_ext_len x1
  have l2 := mj_ext_len x2
  have s1 := mj_ext_slt x1
  have s2 := mj_ext_slt x2
  dsimp only at l1 s1
  have hC : mj_Cx mj_AW ic_Ns cl P Y (d + 1) true p (mj_rm (d + 2) (M'.1.length - M.1.length + 1) (mj_slt M' - mj_slt M + 6)) s m (mj_s ad vs).toArray meth c D cy (va_A (mj_ws cty cy ad M) s.heap.size) :=
    ⟨B.exec, B.bytes, hml, (name_of_methodNamed B.named B.method).1, findClass_of_methodNamed B.named, htA, bK, bN, fun q hq => Or.inr hq, fun _ => ⟨Nat.le_refl _, Nat.le_refl _⟩⟩
  have hown := hC.2.2.2.2.1
  have eqc : S'.2.2.2.1.length - M.1.length + (M'.1.length - S'.2.2.2.1.length + 1) = M'.1.length - M.1.length + 1 := by omega
  have eqs : mj_slt S'.2.2.2 - mj_slt M + (mj_slt M' - mj_slt S'.2.2.2 + 6) = mj_slt M' - mj_slt M + 6 := by omega
  refine mj_steps_ok hG hMa hY (mj_sound hG hMa (d + 1)) (mj_R_w (d + 1)) (fun h => by cases h) hC n h1 hw (cells := 0) (slots := 0) bX bP bD.self va_S.rf hl (by show 0 + (S'.2.2.2.1.length - M.1.length) ≤ M'.1.length - M.1.length + 1; omega) (by show 0 + (mj_slt S'.2.2.2 - mj_slt M) ≤ mj_slt M' - mj_slt M + 6; omega) (fun ad' H1 locs1 ls1 g0 g1 g2 g3 g4 => ?_)
  rw [Nat.zero_add, Nat.zero_add]
  obtain ⟨Yf, hYf, met⟩ := mt_ok hl9 hG hMa hd ht wv1.1 w1.2.2
  have met := met D cy ad' H1.size
  obtain ⟨-, hmax9, hcode9, -⟩ := hG.2.2.2.2.2 jf Yf hYf
  obtain ⟨Y2, hY2, ⟨-, hini, hd9⟩, hin9, hsel9, hq9⟩ := hY.2.2.2.2.1 _ _ _ _ hg9
  have eY : Y2 = Yf := Option.some.inj (hY2.symm.trans hYf)
  subst eY
  have hrec : ∃ cell : Cell, H1[ad' o]? = some cell ∧ cell.vm.isStatics = false ∧ s.vm.findClass Y2.1.cls = some cell.cls := by
    rcases hq9 with ⟨-, q9, hq9, hC9⟩ | ⟨e9, -⟩
    · have hrec := va_recv bK g1 hq9 (q0 := o) (by rw [mj_ws_at ho, mj_cell_obj hci])
      rw [hC9] at hrec
      exact hrec
    · omega
  have hA9 : ∀ q, s.heap.size ≤ q → va_A (mj_ws cty cy ad M) s.heap.size q := fun q hq => Or.inr hq
  have hfree := mj_free g2 g3 hA9
  have hpV : PreV s H1 Y2.1.cls (ad' o) (va_Pc (mj_s ad' (.ref o :: As)) (mj_B D cl cty cy ad' ic_Ns (mj_pX P) S'.2.2.2 H1.size)) (mj_s ad' As) := ⟨mj_blind ic_Ns_ok, hrec, fun U hU hW => mj_pre ic_Ns_ok bK g1 g2 bN (mj_XZ_ag g0 bX) g3 hA9 hU hW⟩
  have hstk : (F0 m S'.1 ls1 (mj_s ad' S'.2.2.1)).stack = (mj_s ad' As).reverse ++ .ref (ad' o) :: mj_s ad' rest := by
    show mj_s ad' S'.2.2.1 = _
    rw [hst, mj_stk]
    rfl
  have hrun := vx_runV (g := F0 m S'.1 ls1 (mj_s ad' S'.2.2.1)) (cells := S'.2.2.2.1.length - M.1.length) (slots := mj_slt S'.2.2.2 - mj_slt M) (R := mj_rm (d + 2) (M'.1.length - M.1.length + 1) (mj_slt M' - mj_slt M + 6)) (locs := locs1) (below := below) (meth := meth) (e := e) ⟨B.exec, B.bytes, hml, hown, htA⟩ met ⟨callB_of nf htA (mj_good_in hG.2.2.1 hcode9) rfl rfl rfl (htA _ hini) (htA _ (hlm _ hYf)) hd9 (mj_room (d' := d + 1) hmax9 (Nat.le_refl _) (Nat.le_refl _)), htA _ hin9, htA _ hsel9⟩ hpV rfl (by rw [← hlen]; exact List.length_map _) g4.1 hstk (lv_room (by rw [mj_sum_v]; exact hsum)) (hY.1 _ _ _ hlk) ⟨Nat.le_of_eq eqc, Nat.le_of_eq eqs⟩
  intro T hT X
  rcases hrun T hT X with ⟨v, st₀, t, T', L, h0, X', hL, e1, e2, hq, st⟩ | ⟨q, st₀, t, T', L, E9, ce, h0, X', hL, e1, e2, ⟨rfl, ad2, b0, b1, b2, b3⟩, hce, hcv, hcl9, st⟩
  · exact hq.elim
  · have hSt : va_S (va_A (mj_ws cty cy ad M) s.heap.size) s.heap T'.heap (locs1 ++ L) := by
      obtain ⟨f1, f2⟩ := b3
      rw [h0] at f1 f2
      refine ⟨Nat.le_trans g3.1 (by rw [e1]; exact f1), fun a a1 a2 => ?_, fun z hz => ?_⟩
      · rw [e1, f2 a (Nat.lt_of_lt_of_le a1 g3.1) (fun z => a2 (hfree a z))]
        exact g3.2.1 a a1 a2
      · rcases List.mem_append.mp hz with hz | hz
        · exact g3.2.2 z hz
        · exact hfree _ (hL z hz)
    have htab : c.exceptionTable.toList = tableOf hh := vx_table (x := Y.1) B (hall _ List.mem_cons_self)
    have kW : vx_W p l e (mj_rm (d + 2) (M'.1.length - M.1.length + 1) (mj_slt M' - mj_slt M + 6)) s m (mj_s ad vs).toArray below meth c T'.heap (locs1 ++ L) (S'.2.2.2.1.length - M.1.length + (M'.1.length - S'.2.2.2.1.length + 1)) (mj_slt S'.2.2.2 - mj_slt M + (mj_slt M' - mj_slt S'.2.2.2 + 6)) (MQ below (mj_Qc D cl cty cy ad M.1.length (some (.int (Int32.ofInt c9))) M' (va_A (mj_ws cty cy ad M) s.heap.size)) (mj_s ad vs).toArray s (M'.1.length - M.1.length + 1) (mj_slt M' - mj_slt M + 6) (va_A (mj_ws cty cy ad M) s.heap.size)) (F0 m S'.1 ls1 (mj_s ad' rest)) q := by
      refine vx_catch (own := Y.1.cls) (name := E9) (E := E9) (ce := ce) hown pre x suf (htab.trans hsplit) (fun z hz => Or.inr ⟨(hpass z hz).1, (hpass z hz).2.choose, htA _ (hpass z hz).2.choose_spec.1, bX.2.2.2.2.2.2 _ (hpass z hz).2.choose_spec.2⟩) hcov hct (htA _ hcl) (va_Nw.use rfl (bN _ hca)) (by rw [e1]; exact hce) hcv hcl9 ?_
      rw [eqc, eqs]
      have hl0 : lv_has ls1 Y.2.2.1 (mj_l (fun i => if i = 5000000 then q else 0) []) := ⟨g4.1, g4.2.1, fun z hz => (by cases hz)⟩
      have es : ([.ref q] : List Value) = mj_s (fun i => if i = 5000000 then q else 0) [.ref 5000000] := by
        show _ = [Value.ref (if 5000000 = 5000000 then q else 0)]
        rw [if_pos rfl]
      rw [es]
      refine mj_loc_ok B.exec B.bytes _ a2 (hY.1 _ _ _ a1) hl0 (fun ls2 hl2 => ?_)
      refine mj_op_ok (st' := [.int (Int32.ofInt c9)]) B.exec B.bytes _ rfl (hY.1 _ _ _ a3) ?_
      have fin := mj_ret_ok (p := p) (l := l) (e := e) (R := mj_rm (d + 2) (M'.1.length - M.1.length + 1) (mj_slt M' - mj_slt M + 6)) (s := s) (m := m) (args := (mj_s ad vs).toArray) (below := below) (meth := meth) (c := c) (H := T'.heap) (locs := locs1 ++ L) (cells := M'.1.length - M.1.length + 1) (slots := mj_slt M' - mj_slt M + 6) (cc := Y.2.1) (pc := x.handlerPc + ka + 1) (ls := ls2) (Qc := mj_Qc D cl cty cy ad M.1.length (some (.int (Int32.ofInt c9))) M' (va_A (mj_ws cty cy ad M) s.heap.size)) (free := va_A (mj_ws cty cy ad M) s.heap.size) (ret := Y.2.2.2.1) (i := .ireturn) (st := [.int (Int32.ofInt c9)]) (v := some (.int (Int32.ofInt c9))) (k := 1) (ad := fun i => if i = 5000000 then q else 0) B.exec B.bytes B.returns B.notSynchronized (by rw [hret]; rfl) (hY.1 _ _ _ a4) rfl (fun t9 ht9 hW9 => ⟨ad2, mj_ag_tr g0 l1 b0, rfl, by rw [ht9, e1]; exact b1, (b2.weaken (fun k z _ hz => hfree z.1 hz)), hSt.F ht9⟩) hSt.2.2
      exact fin
    obtain ⟨t9, k1, k2⟩ := kW T' rfl X'
    exact ⟨t9, st.trans k1, k2⟩
end MW

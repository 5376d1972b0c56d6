/-! THE SMALL MACHINE, 4: reads and writes of the memory are the machine's -/
def mj_Cl (cl : List vw_C) (cty : Nat → Nat → FieldType) (Ts : List Cond) : Prop := ∀ (ci : Nat) (q : vw_C), cl[ci]? = some q → (∀ w ∈ u_ws q.1 q.2.1 q.2.2, w ∈ Ts) ∧ (∀ k, k < q.2.2 → parseFieldDescriptor (q.2.1 k).2.2.1 = some (cty ci k)) ∧ (∀ a, a < q.2.2 → ∀ b, b < q.2.2 → a ≠ b → (q.2.1 a).2.1 ≠ (q.2.1 b).2.1)
def mj_Fl (cl : List vw_C) (cty : Nat → Nat → FieldType) (Ts : List Cond) (own : String) (fl : mj_FL) : Prop := ∀ (ix ci k tc : Nat) (fin : Bool), fl ix = some (ci, k, tc, fin) → ∃ q : vw_C, cl[ci]? = some q ∧ k < q.2.2 ∧ mj_tc (cty ci k) = tc ∧ (q.2.1 k).2.2.2 = fin ∧ Cond.fieldLink own ix (q.2.1 k).1 (q.2.1 k).2.1 (q.2.1 k).2.2.1 ∈ Ts
section MJC
variable {p : Program} {l : Launch} {e : Env} {R : Room} {s : State} {m : MethodId} {args : Array Value} {below : List Frame} {meth : Method} {c : Code} {H : Heap} {locs : List Loc} {cells slots : Nat} {Q : State → Prop}
variable {cc : ByteArray} {pc : Nat} {ls : Array Slot} {D : va_G} {cl : List vw_C} {cty : Nat → Nat → FieldType} {cy : Nat → ClassId} {ad : Nat → Nat} {M : mj_M} {Ts : List Cond} {own : String} {fl : mj_FL} {A : Nat → Prop} {H0 : Heap}
theorem mj_aald (hexec : p.tables.exec = Jvm.exec) (hb : c.code = cc) {ws : va_W} {tys : List (ClassId × FieldType)} {a : Nat} {rest : List Value} (hK : va_K D cl tys s) (hP : va_P D cl ws H) (q0 t0 : Nat) {cA : ClassId} {ty : FieldType} {n : Nat} {f : Nat → Option Nat} (ha : ws[q0]? = some (a, .inl (cA, n, .inr (.inr (.inr (.inr f)))))) (ht : tys[t0]? = some (cA, .array ty)) {i : Int32} (hin : vp_in i n) (hdg : decode cc pc = .ok (.aaload, 1))
    (kk : W p l e R s m args below meth c H locs cells slots Q (F0 m (pc + 1) ls (va_rf (f i.toNatClampNeg) :: rest))) : W p l e R s m args below meth c H locs cells slots Q (F0 m pc ls (.int i :: .ref a :: rest)) := by
  have hlt : i.toNatClampNeg < n := Nat.not_le.mp fun q => hin (Or.inr q)
  exact W.aald (v := va_rf (f i.toNatClampNeg)) (ty := .array ty) hexec hb (hP q0 _ ha) ((hK.2 t0 _ ht).1 n (fun j => va_rf (f j))) rfl (fun q => by cases q) (by show ¬ (i < 0 ∨ (arrV _ _ _).slots.size ≤ _); rw [arrV_size]; exact hin) (by show (arrV _ _ _).slots[_]? = _; rw [arrV_read _ _ hlt]) rfl rfl hdg kk
theorem mj_hr_ok (hexec : p.tables.exec = Jvm.exec) (hb : c.code = cc) (hts : ∀ w ∈ Ts, w.before args s = true) (hown : s.vm.findClass own = some m.cls) (hCl : mj_Cl cl cty Ts) (hFl : mj_Fl cl cty Ts own fl) (hK : va_K D cl (mj_tys cy) s) (hP : va_P D cl (mj_ws cty cy ad M) H) {i : Instr} {k : Nat} {st st' : List Value} (h : mj_hr fl i M st = some (k, st')) (hdg : decode cc pc = .ok (i, k))
    (kk : W p l e R s m args below meth c H locs cells slots Q (F0 m (pc + k) ls (mj_s ad st'))) : W p l e R s m args below meth c H locs cells slots Q (F0 m pc ls (mj_s ad st)) := by
  unfold mj_hr at h
  split at h
  · obtain ⟨ci, k, tc, fin, o, n, r, hf, rfl, hM, hc, hk, rfl, rfl⟩ := mj_get_inv h
    obtain ⟨⟨C, T, N⟩, hq, hkN, htc, -, hw⟩ := hFl _ _ _ _ _ hf
    refine va_get (C := C) (T := T) (N := N) (ref := (T k).1) (ci := ci) (v := mj_fv ad M o tc k) hexec hb hts (hCl _ _ hq).1 hown hK hP o (fs := (List.range n).map (fun k => mj_fv ad M o (mj_tc (cty ci k)) k)) ?_ hq k hkN (hts _ hw) (fun _ h9 => h9) ?_ hdg ?_
    · rw [mj_ws_at hM, mj_cell_obj hc]
    · rw [List.getElem?_map, List.getElem?_range hk]
      simp only [Option.map_some, htc]
    · rw [← mj_fi_v]
      exact kk
  · obtain ⟨j, o, n, r, rfl, hM, hin, rfl, rfl⟩ := mj_ald_inv h
    exact va_iald (cA := cy 0) (n := n) (f := M.2.1 o) hexec hb hK hP o 0 (mj_ws_at hM) rfl hin hdg kk
  · obtain ⟨j, o, n, r, rfl, hM, hin, rfl, rfl⟩ := mj_ald_inv h
    exact va_lald (cA := cy 1) (n := n) (f := M.2.2.1 o) hexec hb hK hP o 1 (mj_ws_at hM) rfl hin hdg kk
  · obtain ⟨j, o, n, r, rfl, hM, hin, rfl, rfl⟩ := mj_ald_inv h
    exact va_zald (cA := cy 2) (n := n) (f := M.2.1 o) hexec hb hK hP o 2 (mj_ws_at hM) rfl hin hdg kk
  · rcases mj_or_inv h with h | h
    · obtain ⟨j, o, n, r, rfl, hM, hin, rfl, rfl⟩ := mj_ald_inv h
      refine mj_aald (cA := cy 3) (n := n) (f := fun j => (M.2.2.2 o j).map ad) hexec hb hK hP o 3 (mj_ws_at hM) rfl hin hdg ?_
      rw [← mj_rf_v]
      exact kk
    · obtain ⟨j, o, n, r, rfl, hM, hin, rfl, rfl⟩ := mj_ald_inv h
      refine mj_aald (cA := cy 4) (n := n) (f := fun j => (M.2.2.2 o j).map ad) hexec hb hK hP o 4 (mj_ws_at hM) rfl hin hdg ?_
      rw [← mj_rf_v]
      exact kk
  · rcases mj_or_inv h with h | h
    · obtain ⟨o, n, r, rfl, hM, rfl, rfl⟩ := mj_aln_inv h
      exact va_alen (cA := cy 0) (x := (n, .inl (M.2.1 o))) hexec hb hK hP o 0 (mj_ws_at hM) rfl rfl hdg kk
    rcases mj_or_inv h with h | h
    · obtain ⟨o, n, r, rfl, hM, rfl, rfl⟩ := mj_aln_inv h
      exact va_alen (cA := cy 1) (x := (n, .inr (.inl (M.2.2.1 o)))) hexec hb hK hP o 1 (mj_ws_at hM) rfl rfl hdg kk
    rcases mj_or_inv h with h | h
    · obtain ⟨o, n, r, rfl, hM, rfl, rfl⟩ := mj_aln_inv h
      exact va_alen (cA := cy 2) (x := (n, .inl (M.2.1 o))) hexec hb hK hP o 2 (mj_ws_at hM) rfl rfl hdg kk
    rcases mj_or_inv h with h | h
    · obtain ⟨o, n, r, rfl, hM, rfl, rfl⟩ := mj_aln_inv h
      exact va_alen (cA := cy 3) (x := (n, .inr (.inr (.inr (.inr (fun j => (M.2.2.2 o j).map ad)))))) hexec hb hK hP o 3 (mj_ws_at hM) rfl rfl hdg kk
    · obtain ⟨o, n, r, rfl, hM, rfl, rfl⟩ := mj_aln_inv h
      exact va_alen (cA := cy 4) (x := (n, .inr (.inr (.inr (.inr (fun j => (M.2.2.2 o j).map ad)))))) hexec hb hK hP o 4 (mj_ws_at hM) rfl rfl hdg kk
  · cases h
/-- what a write of a field leaves: the value, the other fields -/
theorem mj_pv_ok {M M' : mj_M} {o k tc : Nat} {v : Value} (h : mj_pv M o k tc v = some M') (ad : Nat → Nat) : M'.1 = M.1 ∧ mj_v ad v = mj_fv ad M' o tc k ∧ (∀ b tc', b ≠ k → mj_fv ad M' o tc' b = mj_fv ad M o tc' b) ∧ (∀ b, b ≠ o → M'.2.1 b = M.2.1 b ∧ M'.2.2.1 b = M.2.2.1 b ∧ M'.2.2.2 b = M.2.2.2 b) := by
  unfold mj_pv at h
  split at h
  · split at h
    · rename_i x hc
      cases h
      refine ⟨rfl, ?_, fun b tc' hb => ?_, fun b hb => ⟨mj_u_ne hb, rfl, rfl⟩⟩
      · rcases hc with rfl | ⟨rfl, -⟩ <;> simp [mj_fv, mj_v, mj_u_at]
      · unfold mj_fv
        split
        · rfl
        · rfl
        · simp [mj_u_at, hb]
    · cases h
  · split at h
    · rename_i x hc
      subst hc
      cases h
      refine ⟨rfl, ?_, fun b tc' hb => ?_, fun b hb => ⟨rfl, mj_u_ne hb, rfl⟩⟩
      · simp [mj_fv, mj_v, mj_u_at]
      · unfold mj_fv
        split
        · simp [mj_u_at, hb]
        · rfl
        · rfl
    · cases h
  · cases h
theorem mj_pv_fit {M M' : mj_M} {o k : Nat} {ty : FieldType} {v : Value} (h : mj_pv M o k (mj_tc ty) v = some M') (ad : Nat → Nat) : narrow ty (mj_v ad v) = mj_v ad v ∧ fits ty (mj_v ad v) = true := by
  unfold mj_pv at h
  split at h
  · split at h
    · rename_i x hc
      cases ty <;> simp [mj_tc] at hc
      all_goals first | exact ⟨rfl, rfl⟩ | (rcases hc with rfl | rfl <;> exact ⟨rfl, rfl⟩)
    · cases h
  · split at h
    · rename_i x hc
      cases ty <;> simp [mj_tc] at hc
      exact ⟨rfl, rfl⟩
    · cases h
  · cases h
theorem mj_hw_ok (hexec : p.tables.exec = Jvm.exec) (hb : c.code = cc) (hts : ∀ w ∈ Ts, w.before args s = true) (hown : s.vm.findClass own = some m.cls) (hCl : mj_Cl cl cty Ts) (hFl : mj_Fl cl cty Ts own fl) (hK : va_K D cl (mj_tys cy) s) (hP : va_P D cl (mj_ws cty cy ad M) H) (hD : va_D A (mj_ws cty cy ad M)) (hS : va_S A H0 H locs) {i : Instr} {k : Nat} {M' : mj_M} {st st' : List Value} (h : mj_hw fl i M st = some (k, st', M')) (hdg : decode cc pc = .ok (i, k))
    (kk : ∀ (H1 : Heap) (locs1 : List Loc), va_P D cl (mj_ws cty cy ad M') H1 → va_D A (mj_ws cty cy ad M') → va_S A H0 H1 locs1 → W p l e R s m args below meth c H1 locs1 cells slots Q (F0 m (pc + k) ls (mj_s ad st'))) : W p l e R s m args below meth c H locs cells slots Q (F0 m pc ls (mj_s ad st)) := by
  unfold mj_hw at h
  split at h
  · obtain ⟨ci, k, tc, o, n, v, r, hf, rfl, hM, hc, hk, hv, rfl, rfl⟩ := mj_put_inv h
    obtain ⟨⟨C, T, N⟩, hq, hkN, htc, hfin, hw⟩ := hFl _ _ _ _ _ hf
    obtain ⟨e1, e2, e3, e4⟩ := mj_pv_ok hv ad
    have hft := mj_pv_fit (ty := cty ci k) (by rw [htc]; exact hv) ad
    have hE : (mj_ws cty cy ad M).set o (ad o, .inr (ci, ((List.range n).map (fun k => mj_fv ad M o (mj_tc (cty ci k)) k)).set k (mj_v ad v))) = mj_ws cty cy ad M' := by
      refine mj_ws_set e1 hM ?_ (fun b r hb => mj_cell_ne (e4 b hb).1 (e4 b hb).2.1 (e4 b hb).2.2 r)
      rw [mj_cell_obj hc, e2, ← htc]
      exact congrArg (fun x => Sum.inr (ci, x)) (mj_range_set (g := fun k => mj_fv ad M' o (mj_tc (cty ci k)) k) (fun j hj => e3 j _ hj))
    refine va_put (C := C) (T := T) (N := N) (ref := (T k).1) (ci := ci) (v := mj_v ad v) (ty := cty ci k) hexec hb hts (hCl _ _ hq).1 (cty ci) (hCl _ _ hq).2.1 (hCl _ _ hq).2.2 hown hK hP hD hS o (fs := (List.range n).map (fun k => mj_fv ad M o (mj_tc (cty ci k)) k)) ?_ hq k hkN (hts _ hw) (fun _ h9 => h9) hfin ((hCl _ _ hq).2.1 k hkN) hft.1 hft.2 ?_ hdg (fun H1 locs1 h1 h2 h3 => kk H1 locs1 (by rw [← hE]; exact h1) (by rw [← hE]; exact h2) h3)
    · rw [mj_ws_at hM, mj_cell_obj hc]
    · rw [List.length_map, List.length_range]
      exact hk
  · obtain ⟨x, j, o, n, r, rfl, hM, hin, rfl, rfl, rfl⟩ := mj_asi_inv h
    have hE : (mj_ws cty cy ad M).set o (ad o, .inl (cy 0, n, .inl (upd (M.2.1 o) j.toNatClampNeg x))) = mj_ws cty cy ad (M.1, mj_u M.2.1 o j.toNatClampNeg x, M.2.2) :=
      mj_ws_set rfl hM (by simp only [mj_cell, mj_u_at]; rfl) (fun b r hb => mj_cell_ne (M := M) (M' := (M.1, mj_u M.2.1 o j.toNatClampNeg x, M.2.2)) (mj_u_ne hb) rfl rfl r)
    exact va_iast (cA := cy 0) (n := n) (f := M.2.1 o) hexec hb hK hP hD hS o 0 (mj_ws_at hM) rfl hin hdg (fun H1 locs1 h1 h2 h3 => kk H1 locs1 (by rw [← hE]; exact h1) (by rw [← hE]; exact h2) h3)
  · obtain ⟨x, j, o, n, r, rfl, hM, hin, rfl, rfl, rfl⟩ := mj_asi_inv h
    have hE : (mj_ws cty cy ad M).set o (ad o, .inl (cy 2, n, .inl (upd (M.2.1 o) j.toNatClampNeg (vp_nar .boolean x)))) = mj_ws cty cy ad (M.1, mj_u M.2.1 o j.toNatClampNeg (vp_nar .boolean x), M.2.2) :=
      mj_ws_set rfl hM (by simp only [mj_cell, mj_u_at]; rfl) (fun b r hb => mj_cell_ne (M := M) (M' := (M.1, mj_u M.2.1 o j.toNatClampNeg (vp_nar .boolean x), M.2.2)) (mj_u_ne hb) rfl rfl r)
    exact va_zast (cA := cy 2) (n := n) (f := M.2.1 o) hexec hb hK hP hD hS o 2 (mj_ws_at hM) rfl hin hdg (fun H1 locs1 h1 h2 h3 => kk H1 locs1 (by rw [← hE]; exact h1) (by rw [← hE]; exact h2) h3)
  · obtain ⟨x, j, o, n, r, rfl, hM, hin, rfl, rfl, rfl⟩ := mj_asl_inv h
    have hE : (mj_ws cty cy ad M).set o (ad o, .inl (cy 1, n, .inr (.inl (vp_updL (M.2.2.1 o) j.toNatClampNeg x)))) = mj_ws cty cy ad (M.1, M.2.1, mj_u M.2.2.1 o j.toNatClampNeg x, M.2.2.2) :=
      mj_ws_set rfl hM (by simp only [mj_cell, mj_u_at]; rfl) (fun b r hb => mj_cell_ne (M := M) (M' := (M.1, M.2.1, mj_u M.2.2.1 o j.toNatClampNeg x, M.2.2.2)) rfl (mj_u_ne hb) rfl r)
    exact va_last (cA := cy 1) (n := n) (f := M.2.2.1 o) hexec hb hK hP hD hS o 1 (mj_ws_at hM) rfl hin hdg (fun H1 locs1 h1 h2 h3 => kk H1 locs1 (by rw [← hE]; exact h1) (by rw [← hE]; exact h2) h3)
  · cases h
end MJC

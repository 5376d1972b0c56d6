/-! THE SMALL MACHINE, 6: cells that are made, outside arrays, copies, final fields are the machine's -/
theorem mj_new_at {M : mj_M} {kd n : Nat} : (mj_new M kd n).1[M.1.length]? = some (kd, n) := by
  simp [mj_new]
theorem mj_ws_new {cty : Nat → Nat → FieldType} {cy : Nat → ClassId} {ad : Nat → Nat} {M : mj_M} {kd n q : Nat} (hM : mj_wM M) (hL : M.1.length < 1000000) : mj_ws cty cy (fun i => if i = M.1.length then q else ad i) (mj_new M kd n) = mj_ws cty cy ad M ++ [(q, mj_cell cty cy (fun i => if i = M.1.length then q else ad i) (mj_new M kd n) M.1.length (kd, n))] := by
  have hl : (mj_new M kd n).1.length = M.1.length + 1 := by simp [mj_new]
  have hag : mj_ag M.1.length ad (fun i => if i = M.1.length then q else ad i) := fun i hi => if_neg (by omega)
  unfold mj_ws
  rw [hl, List.range_succ, List.map_append]
  congr 1
  · refine List.map_congr_left (fun a ha => ?_)
    have ha : a < M.1.length := List.mem_range.mp ha
    have hne : a ≠ M.1.length := Nat.ne_of_lt ha
    have h1 : (mj_new M kd n).1.getD a (0, 0) = M.1.getD a (0, 0) := by simp [mj_new, List.getD, List.getElem?_append_left ha]
    rw [h1, hag a (Or.inl ha), mj_cell_ne (M := M) (M' := mj_new M kd n) (if_neg hne) (if_neg hne) (if_neg hne), mj_cell_ag hag (fun k i hi => hM a k i hi)]
  · have h1 : (mj_new M kd n).1.getD M.1.length (0, 0) = (kd, n) := by simp [List.getD, mj_new_at]
    simp only [List.map_cons, List.map_nil, h1, if_true]
theorem mj_fv0 {ad : Nat → Nat} {M : mj_M} {o tc k : Nat} (h1 : M.2.1 o k = 0) (h2 : M.2.2.1 o k = 0) (h3 : M.2.2.2 o k = none) (t : FieldType) (ht : mj_tc t = tc) (h4 : tc ≠ 4) : mj_fv ad M o tc k = defaultValue t := by
  subst ht
  cases t <;> first | exact absurd rfl h4 | simp [mj_fv, mj_tc, h1, h2, h3, defaultValue, va_rf]
section MJE
variable {p : Program} {l : Launch} {e : Env} {R : Room} {s : State} {m : MethodId} {args : Array Value} {below : List Frame} {meth : Method} {c : Code} {H : Heap} {locs : List Loc} {cells slots : Nat} {Q : State → Prop}
variable {cc : ByteArray} {pc : Nat} {ls : Array Slot} {D : va_G} {cl : List vw_C} {cty : Nat → Nat → FieldType} {cy : Nat → ClassId} {ad : Nat → Nat} {M : mj_M} {Ts : List Cond} {own : String} {fl : mj_FL} {A : Nat → Prop} {H0 : Heap}
def mj_Nw (cl : List vw_C) (cty : Nat → Nat → FieldType) (Ts : List Cond) (own : String) (nw : Nat → Option (Nat × Nat)) : Prop := ∀ (ix : Nat) (q : Nat × Nat), nw ix = some q → ∃ C : vw_C, cl[q.1]? = some C ∧ C.2.2 = q.2 ∧ (∀ k, k < q.2 → mj_tc (cty q.1 k) ≠ 4) ∧ Cond.classLink own ix C.1 ∈ Ts ∧ Cond.instantiable C.1 q.2 ∈ Ts ∧ Cond.initialized C.1 ∈ Ts
theorem mj_arr_same {ty : FieldType} {c1 c2 : ClassId} (h1 : s.vm.findClass ("[" ++ ty.toString) = some c1) (h2 : s.vm.findClass ("[" ++ ty.toString) = some c2) : c1 = c2 := Option.some.inj (h1.symm.trans h2)
theorem mj_al_ok (hexec : p.tables.exec = Jvm.exec) (hb : c.code = cc) (hts : ∀ w ∈ Ts, w.before args s = true) (hown : s.vm.findClass own = some m.cls) (hCl : mj_Cl cl cty Ts) {nw : Nat → Option (Nat × Nat)} (hNw : mj_Nw cl cty Ts own nw) (hAr : Cond.arrayClass .int ∈ Ts ∧ Cond.arrayClass .long ∈ Ts ∧ Cond.arrayClass .boolean ∈ Ts) (hK : va_K D cl (mj_tys cy) s) (hP : va_P D cl (mj_ws cty cy ad M) H) (hD : va_D A (mj_ws cty cy ad M)) (hS : va_S A H0 H locs) (hA : ∀ q, H0.size ≤ q → A q) (hM : mj_wM M) {i : Instr} {k : Nat} {M' : mj_M} {st st' : List Value} (hst : ∀ v ∈ st, mj_wv M.1.length v) (h : mj_al nw i M st = some (k, st', M')) (hdg : decode cc pc = .ok (i, k))
    (hc1 : cells + (M'.1.length - M.1.length) ≤ R.cells) (hc2 : slots + ((M'.1.map (fun q => q.2)).sum - (M.1.map (fun q => q.2)).sum) ≤ R.slots)
    (kk : ∀ (ad' : Nat → Nat) (H1 : Heap), mj_ag M.1.length ad ad' → va_P D cl (mj_ws cty cy ad' M') H1 → va_D A (mj_ws cty cy ad' M') → va_S A H0 H1 locs → W p l e R s m args below meth c H1 locs (cells + (M'.1.length - M.1.length)) (slots + ((M'.1.map (fun q => q.2)).sum - (M.1.map (fun q => q.2)).sum)) Q (F0 m (pc + k) ls (mj_s ad' st'))) : W p l e R s m args below meth c H locs cells slots Q (F0 m pc ls (mj_s ad st)) := by
  have hcnt : ∀ kd n : Nat, (mj_new M kd n).1.length - M.1.length = 1 := fun kd n => by simp [mj_new]
  have hslt : ∀ kd n : Nat, ((mj_new M kd n).1.map (fun q => q.2)).sum - (M.1.map (fun q => q.2)).sum = n := fun kd n => by simp [mj_new]
  have hag : M.1.length < 1000000 → ∀ q : Nat, mj_ag M.1.length ad (fun i => if i = M.1.length then q else ad i) := fun hL q i hi => if_neg (by omega)
  unfold mj_al at h
  split at h
  · split at h
    · rename_i q hq
      split at h
      · rename_i hc
        cases h
        obtain ⟨⟨C, T, N⟩, e1, e2, e3, w1, w2, w3⟩ := hNw _ _ hq
        obtain ⟨ci, N'⟩ := q
        dsimp only at e1 e2 e3 w1 w2 w3 hc
        subst e2
        rw [hcnt, hslt] at kk
        rw [hcnt] at hc1
        rw [hslt] at hc2
        refine va_new (C := C) (T := T) (N := N) (ci := ci) (fs := (List.range N).map (fun k => mj_fv ad (mj_new M ci N) M.1.length (mj_tc (cty ci k)) k)) hexec hb hts (hCl _ _ e1).1 (cty ci) (hCl _ _ e1).2.1 hown (hts _ w1) (hts _ w2) (hts _ w3) hK hP hD hS hA e1 ?_ hc1 hc2 hdg (fun q H1 g1 g2 g3 => ?_)
        · intro j hj
          have : vp_V ((List.range N).map (fun k => mj_fv ad (mj_new M ci N) M.1.length (mj_tc (cty ci k)) k)) j = mj_fv ad (mj_new M ci N) M.1.length (mj_tc (cty ci j)) j := by
            simp [vp_V, List.getD, List.getElem?_range hj]
          rw [this]
          exact (mj_fv0 (by simp [mj_new]) (by simp [mj_new]) (by simp [mj_new]) _ rfl (e3 j hj)).symm
        · have hcell : mj_cell cty cy (fun i => if i = M.1.length then q else ad i) (mj_new M ci N) M.1.length (ci, N) = .inr (ci, (List.range N).map (fun k => mj_fv ad (mj_new M ci N) M.1.length (mj_tc (cty ci k)) k)) := by
            rw [mj_cell_obj hc.1]
            refine congrArg (fun x => Sum.inr (ci, x)) (List.map_congr_left (fun k hk => ?_))
            have hk := List.mem_range.mp hk
            rw [mj_fv0 (by simp [mj_new]) (by simp [mj_new]) (by simp [mj_new]) _ rfl (e3 k hk), mj_fv0 (by simp [mj_new]) (by simp [mj_new]) (by simp [mj_new]) _ rfl (e3 k hk)]
          have hw := mj_ws_new (cty := cty) (cy := cy) (ad := ad) (kd := ci) (n := N) (q := q) hM hc.2
          rw [hcell] at hw
          have go := kk (fun i => if i = M.1.length then q else ad i) H1 (hag hc.2 q) (by rw [hw]; exact g1) (by rw [hw]; exact g2) g3
          have e9 : mj_s (fun i => if i = M.1.length then q else ad i) (.ref M.1.length :: st) = .ref q :: mj_s ad st := by
            show mj_v _ (Value.ref M.1.length) :: mj_s _ st = _
            rw [mj_s_ag (hag hc.2 q) hst]
            simp [mj_v]
          rw [e9] at go
          exact go
      · cases h
    · cases h
  · split at h
    · rename_i n r
      split at h
      · cases h
      · rename_i hc
        have hn0 : ¬ n < 0 := fun q => hc (Or.inl q)
        have hn1 : n.toNatClampNeg ≤ 100000 := Nat.not_lt.mp fun q => hc (Or.inr (Or.inl q))
        have hL : M.1.length < 1000000 := Nat.not_le.mp fun q => hc (Or.inr (Or.inr q))
        have hr : ∀ v ∈ r, mj_wv M.1.length v := fun v hv => hst v (List.mem_cons_of_mem _ hv)
        have e9 : ∀ q : Nat, mj_s (fun i => if i = M.1.length then q else ad i) (.ref M.1.length :: r) = .ref q :: mj_s ad r := fun q => by
          show mj_v _ (Value.ref M.1.length) :: mj_s _ r = _
          rw [mj_s_ag (hag hL q) hr]
          simp [mj_v]
        split at h
        · cases h
          rw [hcnt, hslt] at kk
          rw [hcnt] at hc1
          rw [hslt] at hc2
          refine va_newa (atype := .int) (ty := .int) (a0 := (n.toNatClampNeg, .inl (fun _ => 0))) hexec hb (hts _ hAr.1) rfl hK hP hD hS hA (fun _ => rfl) hn0 rfl (by simp [componentBytes]; omega) hc1 hc2 hdg (fun q cA H1 g0 g1 g2 g3 => ?_)
          have hcA : cA = cy 0 := mj_arr_same (ty := .int) (g0.2 5 (cA, .int) rfl).2 (hK.2 0 (cy 0, .int) rfl).2
          subst hcA
          have hw := mj_ws_new (cty := cty) (cy := cy) (ad := ad) (kd := 100) (n := n.toNatClampNeg) (q := q) hM hL
          have hcell : mj_cell cty cy (fun i => if i = M.1.length then q else ad i) (mj_new M 100 n.toNatClampNeg) M.1.length (100, n.toNatClampNeg) = .inl (cy 0, n.toNatClampNeg, .inl (fun _ => 0)) := by simp [mj_cell, mj_new]
          rw [hcell] at hw
          have go := kk (fun i => if i = M.1.length then q else ad i) H1 (hag hL q) (by rw [hw]; exact g1) (by rw [hw]; exact g2) g3
          rw [e9] at go
          exact go
        · cases h
          rw [hcnt, hslt] at kk
          rw [hcnt] at hc1
          rw [hslt] at hc2
          refine va_newa (atype := .long) (ty := .long) (a0 := (n.toNatClampNeg, .inr (.inl (fun _ => 0)))) hexec hb (hts _ hAr.2.1) rfl hK hP hD hS hA (fun _ => rfl) hn0 rfl (by simp [componentBytes]; omega) hc1 hc2 hdg (fun q cA H1 g0 g1 g2 g3 => ?_)
          have hcA : cA = cy 1 := mj_arr_same (ty := .long) (g0.2 5 (cA, .long) rfl).2 (hK.2 1 (cy 1, .long) rfl).2
          subst hcA
          have hw := mj_ws_new (cty := cty) (cy := cy) (ad := ad) (kd := 101) (n := n.toNatClampNeg) (q := q) hM hL
          have hcell : mj_cell cty cy (fun i => if i = M.1.length then q else ad i) (mj_new M 101 n.toNatClampNeg) M.1.length (101, n.toNatClampNeg) = .inl (cy 1, n.toNatClampNeg, .inr (.inl (fun _ => 0))) := by simp [mj_cell, mj_new]
          rw [hcell] at hw
          have go := kk (fun i => if i = M.1.length then q else ad i) H1 (hag hL q) (by rw [hw]; exact g1) (by rw [hw]; exact g2) g3
          rw [e9] at go
          exact go
        · cases h
          rw [hcnt, hslt] at kk
          rw [hcnt] at hc1
          rw [hslt] at hc2
          refine va_newa (atype := .boolean) (ty := .boolean) (a0 := (n.toNatClampNeg, .inl (fun _ => 0))) hexec hb (hts _ hAr.2.2) rfl hK hP hD hS hA (fun _ => rfl) hn0 rfl (by simp [componentBytes]; omega) hc1 hc2 hdg (fun q cA H1 g0 g1 g2 g3 => ?_)
          have hcA : cA = cy 2 := mj_arr_same (ty := .boolean) (g0.2 5 (cA, .boolean) rfl).2 (hK.2 2 (cy 2, .boolean) rfl).2
          subst hcA
          have hw := mj_ws_new (cty := cty) (cy := cy) (ad := ad) (kd := 102) (n := n.toNatClampNeg) (q := q) hM hL
          have hcell : mj_cell cty cy (fun i => if i = M.1.length then q else ad i) (mj_new M 102 n.toNatClampNeg) M.1.length (102, n.toNatClampNeg) = .inl (cy 2, n.toNatClampNeg, .inl (fun _ => 0)) := by simp [mj_cell, mj_new]
          rw [hcell] at hw
          have go := kk (fun i => if i = M.1.length then q else ad i) H1 (hag hL q) (by rw [hw]; exact g1) (by rw [hw]; exact g2) g3
          rw [e9] at go
          exact go
        · cases h
    · cases h
  · cases h
end MJE

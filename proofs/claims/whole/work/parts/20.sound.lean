/-! THE SMALL MACHINE, 11: GOOD programs; the theorem. What it runs to, the machine runs to, within the room of d frames -/
def mj_wy (AW : List Cond) (Y : mj_Y) : List Cond := Cond.code Y.1 Y.2.1 Y.2.2.1 Y.2.2.2.1 :: AW
/-- a callee's words: the link (by its name, or as a nest mate's private member), its class, how many arguments -/
def mj_Lk (AW Ns : List Cond) (own : String) (ix : Nat) (Y : mj_Y) (n : Nat) : Prop :=
  (Cond.methodLink own ix Y.1 ∈ AW ∨ ∃ host, Cond.methodLinkNest own ix Y.1 host ∈ Ns) ∧ Cond.initialized Y.1.cls ∈ AW ∧ (Y.1.cls ≠ "java/lang/invoke/MethodHandle" ∧ Y.1.cls ≠ "java/lang/invoke/VarHandle" ∧ (parseMethodDescriptor Y.1.desc).map (fun d => d.parameters.length) = some n)
def mj_Lr (AW : List Cond) (cl : List vw_C) (Y : mj_Y) (r : Option Nat) : Prop := match r with
  | none => Cond.static Y.1 ∈ AW
  | some ci => Cond.instanceMethod Y.1 ∈ AW ∧ Cond.selects Y.1.cls Y.1 Y.1 ∈ AW ∧ ((ci < 100 ∧ ∃ q : vw_C, cl[ci]? = some q ∧ q.1 = Y.1.cls) ∨ (ci = 200 ∧ Y.1.cls = "java/lang/String"))
def mj_Li (AW Ns : List Cond) (P : mj_P) (own : String) (ix : Nat) (q : Option (Nat × Nat)) : Prop := match q with
  | none => Cond.methodLink own ix Lib.objectInit ∈ AW ∧ Cond.instanceMethod Lib.objectInit ∈ AW ∧ Cond.code Lib.objectInit ⟨#[0xb1]⟩ 1 none ∈ AW
  | some z => ∃ Y, mj_pY P z.1 = some Y ∧ mj_Lk AW Ns own ix Y z.2 ∧ Y.1.name = "<init>" ∧ Y.2.2.2.1 = none ∧ Cond.instanceMethod Y.1 ∈ AW
def mj_Ma (Ts : List Cond) (own : String) (ma : Nat → Option Nat) : Prop := ∀ ix ki, ma ix = some ki → (ki = 100 → Cond.classLink own ix ("[" ++ (FieldType.array .int).toString) ∈ Ts ∧ Cond.arrayClass .int ∈ Ts) ∧ (ki = 101 → Cond.classLink own ix ("[" ++ (FieldType.array .long).toString) ∈ Ts ∧ Cond.arrayClass .long ∈ Ts)
/-- words that are no words of a contract, but hold all along: private members of nest mates, arrays of arrays -/
def mj_nw (w : Cond) : Prop := (∃ a i x h, w = Cond.methodLinkNest a i x h) ∨ (∃ ty, w = Cond.arrayOver (.array ty)) ∨ (∃ x, w = Cond.declares x) ∨ ∃ C T, w = Cond.castable C T
theorem mj_idx {u U : Vm} (hvm : u.Alike U) (f : Class → Bool) (hf : ∀ k k' : Class, k.kind = k'.kind → f k = f k') : U.classes.findIdx? f = u.classes.findIdx? f := by
  have e : ∀ vm : Vm, vm.bare.classes.findIdx? f = vm.classes.findIdx? f := fun vm => by
    simp only [Vm.bare, Array.findIdx?_map]
    congr 1
    funext x
    exact hf _ _ rfl
  rw [← e U, ← e u]
  first | rw [hvm.bare_eq] | rw [← hvm.bare_eq]
theorem mj_over_moved {ty : FieldType} {u U : State} (hvm : u.vm.Alike U.vm) (h : va_Nw (.arrayOver (.array ty)) u) : va_Nw (.arrayOver (.array ty)) U := by
  have e1 : U.vm.findClass (FieldType.array ty).toString = u.vm.findClass (FieldType.array ty).toString := by rw [hvm.findClass]
  have e2 : U.vm.findClass ("[" ++ (FieldType.array ty).toString) = u.vm.findClass ("[" ++ (FieldType.array ty).toString) := by rw [hvm.findClass]
  unfold va_Nw Cond.before Cond.holds at h ⊢
  simp only [Cond.value] at h ⊢
  rw [e1, e2]
  cases hc : u.vm.findClass (FieldType.array ty).toString with
  | none => rw [hc] at h; cases h
  | some comp =>
    rw [hc] at h
    simp only [Option.bind_some] at h ⊢
    rw [mj_idx hvm _ (fun k k' hk => by simp only [hk])]
    generalize Array.findIdx? _ u.vm.classes = o at h ⊢
    cases o with
    | none => cases h
    | some c =>
      simp only [Option.bind_some] at h ⊢
      cases hk : u.vm.classes[c]? with
      | none => rw [hk] at h; cases h
      | some k =>
        obtain ⟨k', hk', he⟩ := hvm.2.2 _ _ hk
        have hkd : k'.kind = k.kind := by rw [he]
        rw [hk] at h
        rw [hk']
        simp only [Option.map_some, hkd] at h ⊢
        exact h
theorem mj_nw_same {w : Cond} (hw : mj_nw w) {u U : State} (h : u.vm = U.vm) (hZ : va_Nw w u) : va_Nw w U := by
  rcases hw with ⟨a, i, x, g, rfl⟩ | ⟨ty, rfl⟩ | ⟨x, rfl⟩ | ⟨C, T, rfl⟩
  · exact va_Nw.same rfl h hZ
  · exact mj_over_moved (by rw [h]; exact Vm.Alike.refl U.vm) hZ
  · exact va_Nw.same rfl h hZ
  · exact va_Nw.same rfl h hZ
theorem mj_nw_warm {w : Cond} (hw : mj_nw w) {s U : State} (hW : s.WarmedH U.vm) (hZ : va_Nw w s) : va_Nw w U := by
  rcases hw with ⟨a, i, x, g, rfl⟩ | ⟨ty, rfl⟩ | ⟨x, rfl⟩ | ⟨C, T, rfl⟩
  · exact va_Nw.warmM hW hZ
  · exact mj_over_moved hW.alike hZ
  · exact va_Nw.warmD hW hZ
  · exact va_Nw.warmC hW hZ
/-- what a body rests on -/
def mj_G0 (AW Ns : List Cond) (cl : List vw_C) (cty : Nat → Nat → FieldType) (P : mj_P) (j : Nat) (Y : mj_Y) : Prop :=
  (∀ pc i k, mj_lk Y.2.2.2.2 pc = some (i, k) → decode Y.2.1 pc = .ok (i, k)) ∧ mj_Fl cl cty AW Y.1.cls (mj_pF P j) ∧
  (∀ ix v, mj_pK P j ix = some v → Cond.constant Y.1.cls ix v ∈ AW) ∧ (∀ ix v, mj_pL P j ix = some v → Cond.constantLong Y.1.cls ix v ∈ AW) ∧
  (∀ ix j' n r, mj_pG P j ix = some (j', n, r) → ∃ Y', mj_pY P j' = some Y' ∧ mj_Lk AW Ns Y.1.cls ix Y' n ∧ mj_Lr AW cl Y' r) ∧
  mj_Nw cl cty AW Y.1.cls (mj_pN P j) ∧ mj_Gs (mj_pX P) AW Y.1.cls (mj_pS P j) ∧ mj_Ac AW Y.1.cls (mj_pC P j) ∧ mj_Ma AW Y.1.cls (mj_pM P j) ∧ (∀ ix q, mj_pI P j ix = some q → mj_Li AW Ns P Y.1.cls ix q) ∧
  (∀ ci, mj_pZ P j = some ci → Y.1.name = "<init>" ∧ ∀ q : vw_C, cl[ci]? = some q → ∀ k, k < q.2.2 → (q.2.1 k).1 = Y.1.cls)
/-- a good method -/
def mj_Gd (AW Ns : List Cond) (cl : List vw_C) (cty : Nat → Nat → FieldType) (P : mj_P) (j : Nat) (Y : mj_Y) : Prop :=
  plainFor Y.1 = true ∧ Y.2.2.1 ≤ 40 ∧ Cond.code Y.1 Y.2.1 Y.2.2.1 Y.2.2.2.1 ∈ AW ∧ mj_G0 AW Ns cl cty P j Y
def mj_Good (AW Ns : List Cond) (cl : List vw_C) (cty : Nat → Nat → FieldType) (P : mj_P) : Prop :=
  mj_Cl cl cty AW ∧ (Cond.arrayClass .int ∈ AW ∧ Cond.arrayClass .long ∈ AW ∧ Cond.arrayClass .boolean ∈ AW) ∧ (∀ w ∈ AW, goodWord w = true) ∧ (∀ w ∈ Ns, mj_nw w) ∧ (Cond.arrayOver (.array .int) ∈ Ns ∧ Cond.arrayOver (.array .long) ∈ Ns) ∧ ∀ j Y, mj_pY P j = some Y → mj_Gd AW Ns cl cty P j Y
def mj_rm (d mc ms : Nat) : Room := { frames := d, cells := mc, slots := ms, locals := 64 * d }
def mj_B (D : va_G) (cl : List vw_C) (cty : Nat → Nat → FieldType) (cy : Nat → ClassId) (ad : Nat → Nat) (Ns : List Cond) (X : mj_XT) (M : mj_M) (sz : Nat) (U : State) : Prop :=
  U.heap.size = sz ∧ va_K D cl (mj_tys cy) U ∧ va_P D cl (mj_ws cty cy ad M) U.heap ∧ va_D (fun _ => True) (mj_ws cty cy ad M) ∧ (∀ w ∈ Ns, va_Nw w U) ∧ mj_XZ X ad (va_A (mj_ws cty cy ad M) sz) U U.heap
def mj_Qc (D : va_G) (cl : List vw_C) (cty : Nat → Nat → FieldType) (cy : Nat → ClassId) (ad : Nat → Nat) (L : Nat) (r : Option Value) (M' : mj_M) (A : Nat → Prop) : Array Value → State → Outcome → State → Prop := fun _ st oc t =>
  ∃ ad' : Nat → Nat, mj_ag L ad ad' ∧ oc = .returned (r.map (mj_v ad')) ∧ va_P D cl (mj_ws cty cy ad' M') t.heap ∧ va_D A (mj_ws cty cy ad' M') ∧ va_F A st t
/-- the contract of a run -/
def mj_Met (l : Launch) (AW Ns : List Cond) (cl : List vw_C) (cty : Nat → Nat → FieldType) (X : mj_XT) (Y : mj_Y) (d : Nat) (vs : List Value) (M : mj_M) (r : Option Value) (M' : mj_M) : Prop :=
  ∀ (D : va_G) (cy : Nat → ClassId) (ad : Nat → Nat) (sz : Nat), Met l Y.1 (mj_wy AW Y) (mj_rm d (M'.1.length - M.1.length) (mj_slt M' - mj_slt M)) (va_Pc (mj_s ad vs) (mj_B D cl cty cy ad Ns X M sz)) (mj_Qc D cl cty cy ad M.1.length r M' (va_A (mj_ws cty cy ad M) sz)) (M'.1.length - M.1.length) (mj_slt M' - mj_slt M) (va_A (mj_ws cty cy ad M) sz)
/-- that rows of rows are made as the machine makes them -/
def mj_MaOk (cl : List vw_C) (cty : Nat → Nat → FieldType) (Ts : List Cond) : Prop := ∀ {p : Program} {l : Launch} {e : Env} {R : Room} {s : State} {m : MethodId} {args : Array Value} {below : List Frame} {meth : Method} {c : Code} {H : Heap} {locs : List Loc} {cells slots : Nat} {Q : State → Prop} {cc : ByteArray} {pc : Nat} {ls : Array Slot} {D : va_G} {cy : Nat → ClassId} {ad : Nat → Nat} {M : mj_M} {own : String} {A : Nat → Prop} {H0 : Heap} {ma : Nat → Option Nat},
    p.tables.exec = Jvm.exec → c.code = cc → (∀ w ∈ Ts, w.before args s = true) → s.vm.findClass own = some m.cls → mj_Ma Ts own ma → va_Nw (.arrayOver (.array .int)) s → va_Nw (.arrayOver (.array .long)) s → va_K D cl (mj_tys cy) s → va_P D cl (mj_ws cty cy ad M) H → va_D A (mj_ws cty cy ad M) → va_S A H0 H locs → (∀ q, H0.size ≤ q → A q) → mj_wM M → ∀ {i : Instr} {k : Nat} {M' : mj_M} {st st' : List Value}, (∀ v ∈ st, mj_wv M.1.length v) → mj_ma ma i M st = some (k, st', M') → decode cc pc = .ok (i, k) →
    cells + (M'.1.length - M.1.length) ≤ R.cells → slots + (mj_slt M' - mj_slt M) ≤ R.slots →
    (∀ (ad' : Nat → Nat) (H1 : Heap), mj_ag M.1.length ad ad' → va_P D cl (mj_ws cty cy ad' M') H1 → va_D A (mj_ws cty cy ad' M') → va_S A H0 H1 locs → W p l e R s m args below meth c H1 locs (cells + (M'.1.length - M.1.length)) (slots + (mj_slt M' - mj_slt M)) Q (F0 m (pc + k) ls (mj_s ad' st'))) → W p l e R s m args below meth c H locs cells slots Q (F0 m pc ls (mj_s ad st))
theorem mj_ws_get {cty : Nat → Nat → FieldType} {cy : Nat → ClassId} {ad : Nat → Nat} {M : mj_M} {i : Nat} {q : Nat × va_E} (h : (mj_ws cty cy ad M)[i]? = some q) : q.1 = ad i ∧ ∃ r, M.1[i]? = some r := by
  have hlt : i < M.1.length := by
    have := (List.getElem?_eq_some_iff.mp h).1
    rwa [mj_ws_len] at this
  have h2 := mj_ws_at (cty := cty) (cy := cy) (ad := ad) (List.getElem?_eq_getElem hlt)
  rw [h] at h2
  exact ⟨by rw [Option.some.inj h2], _, List.getElem?_eq_getElem hlt⟩
theorem mj_args (ad : Nat → Nat) : ∀ (vs : List Value) (i : Nat), mj_l ad (lv_args i vs) = lv_args i (mj_s ad vs) := by
  intro vs
  induction vs with
  | nil => intro i; rfl
  | cons v r ih =>
    intro i
    show (i, mj_v ad v) :: mj_l ad (lv_args _ r) = (i, mj_v ad v) :: lv_args _ (mj_s ad r)
    rw [ih, mj_v_cat]
theorem mj_good_in {AW : List Cond} {Y' : mj_Y} (hg : ∀ w ∈ AW, goodWord w = true) (hc : Cond.code Y'.1 Y'.2.1 Y'.2.2.1 Y'.2.2.2.1 ∈ AW) : GoodIn AW (mj_wy AW Y') := by
  intro w hw
  have hm : w ∈ AW := by
    rcases List.mem_cons.mp hw with rfl | h
    · exact hc
    · exact h
  exact ⟨hm, good_of_word (hg w hm)⟩
theorem mj_XZ_ag {X : mj_XT} {ad ad' : Nat → Nat} {L : Nat} {A : Nat → Prop} {U : State} {H : Heap} (h : mj_ag L ad ad') (hX : mj_XZ X ad A U H) : mj_XZ X ad' A U H := by
  obtain ⟨h1, h2, h3⟩ := hX
  refine ⟨fun k q hk => ?_, fun i q hi => ?_, ?_⟩
  · rw [h (1000000 + k) (Or.inr (Nat.le_add_right _ _))]
    exact h1 k q hk
  · rw [h (2000000 + 2 * i) (Or.inr (by omega)), h (2000000 + 2 * i + 1) (Or.inr (by omega))]
    exact h2 i q hi
  · unfold mj_JZ
    rw [h 3000000 (Or.inr (by omega))]
    exact h3
theorem mj_XZ_to {X : mj_XT} {ad : Nat → Nat} {A B : Nat → Prop} {s U : State} {H : Heap} {locs : List Loc} (hX : mj_XZ X ad A s s.heap) (hW : s.WarmedH U.vm) (hS : va_S A s.heap H locs) (hAB : ∀ q, B q → A q) : mj_XZ X ad B U H := by
  have hvm : s.vm.Alike U.vm := hW.alike
  obtain ⟨hX, hY, z1, z2, z3, z4, z5⟩ := hX
  refine ⟨fun k q hk => ?_, fun i q hi => ?_, ?_⟩
  · obtain ⟨h1, h2, h3, h4⟩ := hX k q hk
    exact ⟨fun hn => (((h1 hn).kept hS.2.1).narrow hAB).moved hvm, (h2.kept (hS.2.1 _ h3 h4)).moved hvm, Nat.lt_of_lt_of_le h3 hS.1, fun hb => h4 (hAB _ hb)⟩
  · obtain ⟨h1, h2⟩ := hY i q hi
    refine ⟨vk_R.warm hW h1, fun hn => ?_⟩
    obtain ⟨s1, s2, s3, s4⟩ := h2 hn
    exact ⟨((s1.kept hS.2.1).narrow hAB).moved hvm, ((s2.kept hS.2.1).narrow hAB).moved hvm, ((s3.kept hS.2.1).narrow hAB).moved hvm, ((s4.kept hS.2.1).narrow hAB).moved hvm⟩
  · exact ⟨((z1.kept hS.2.1).narrow hAB).moved hvm, ((z2.kept hS.2.1).narrow hAB).moved hvm, ((z3.kept hS.2.1).narrow hAB).moved hvm, ((z4.kept hS.2.1).narrow hAB).moved hvm, fun q hq => va_Nc.moved hvm (z5 q hq)⟩
theorem mj_sl_len (ad : Nat → Nat) (vs : List Value) : (lg_sl (mj_s ad vs)).length = mj_sum vs := by
  induction vs with
  | nil => rfl
  | cons v r ih =>
    have h1 : lg_sl (mj_s ad (v :: r)) = (if (mj_v ad v).category = 2 then [Slot.val (mj_v ad v), .second] else [Slot.val (mj_v ad v)]) ++ lg_sl (mj_s ad r) := rfl
    have h2 : mj_sum (v :: r) = v.category + mj_sum r := by simp [mj_sum]
    rw [h1, h2, List.length_append, ih, mj_v_cat]
    rcases lv_cat v with e | e <;> simp [e]
theorem mj_stk (ad : Nat → Nat) (As rest : List Value) : mj_s ad (As.reverse ++ rest) = (mj_s ad As).reverse ++ mj_s ad rest := by
  unfold mj_s
  rw [List.map_append, List.map_reverse]
theorem mj_back (ad : Nat → Nat) (v : Option Value) (rest : List Value) : mj_s ad (v.toList ++ rest) = (v.map (mj_v ad)).toList ++ mj_s ad rest := by cases v <;> rfl
theorem mj_sum_v (ad : Nat → Nat) (st : List Value) : ((mj_s ad st).map fun v => v.category).sum = mj_sum st := by
  unfold mj_s mj_sum
  rw [List.map_map]
  congr 1
  exact List.map_congr_left (fun v _ => mj_v_cat ad v)
theorem mj_blind {D : va_G} {cl : List vw_C} {cty : Nat → Nat → FieldType} {cy : Nat → ClassId} {ad : Nat → Nat} {Ns : List Cond} {X : mj_XT} {M : mj_M} {sz : Nat} {av : List Value} (hN : ∀ w ∈ Ns, mj_nw w) : FrameBlind (va_Pc av (mj_B D cl cty cy ad Ns X M sz)) := by
  intro a U g mk q
  obtain ⟨q0, q1, qK, qP, qD, qN, qX⟩ := q
  refine ⟨q0, q1, va_K.moved (u := U) (U := U.calling g mk a) (Vm.Alike.refl U.vm) qK, qP, qD, fun w hw => ?_, ?_⟩
  · exact mj_nw_same (u := U) (U := U.calling g mk a) (hN w hw) rfl (qN _ hw)
  obtain ⟨qX, qY, z1, z2, z3, z4, z5⟩ := qX
  refine ⟨fun k z hk => ?_, fun i q hi => ?_, va_Z.moved (u := U) (U := U.calling g mk a) (Vm.Alike.refl U.vm) z1, va_Z.moved (u := U) (U := U.calling g mk a) (Vm.Alike.refl U.vm) z2, vx_Zq.moved (u := U) (U := U.calling g mk a) (Vm.Alike.refl U.vm) z3, vx_Zq.moved (u := U) (U := U.calling g mk a) (Vm.Alike.refl U.vm) z4, fun q hq => va_Nc.moved (u := U) (U := U.calling g mk a) (Vm.Alike.refl U.vm) (z5 q hq)⟩
  rotate_left
  · obtain ⟨h1, h2⟩ := qY i q hi
    refine ⟨vk_R.same (u := U) (U := U.calling g mk a) rfl h1, fun hn => ?_⟩
    obtain ⟨s1, s2, s3, s4⟩ := h2 hn
    exact ⟨va_O.moved (u := U) (U := U.calling g mk a) (Vm.Alike.refl U.vm) s1, va_OF.moved (u := U) (U := U.calling g mk a) (Vm.Alike.refl U.vm) s2, va_OF.moved (u := U) (U := U.calling g mk a) (Vm.Alike.refl U.vm) s3, va_T.moved (u := U) (U := U.calling g mk a) (Vm.Alike.refl U.vm) s4⟩
  · obtain ⟨h1, h2, h3, h4⟩ := qX k z hk
    exact ⟨fun hn => va_Z.moved (u := U) (U := U.calling g mk a) (Vm.Alike.refl U.vm) (h1 hn), va_X.moved (u := U) (U := U.calling g mk a) (Vm.Alike.refl U.vm) h2, h3, h4⟩
theorem mj_free {cty : Nat → Nat → FieldType} {cy : Nat → ClassId} {ad : Nat → Nat} {M : mj_M} {A : Nat → Prop} {H0 H : Heap} {locs : List Loc} (hD : va_D A (mj_ws cty cy ad M)) (hS : va_S A H0 H locs) (hA : ∀ q, H0.size ≤ q → A q) : ∀ q, va_A (mj_ws cty cy ad M) H.size q → A q := by
  intro q hq
  rcases hq with ⟨k9, e9, hq⟩ | hq
  · exact hD.2 k9 _ hq
  · exact hA q (Nat.le_trans hS.1 hq)
theorem mj_pre {s U : State} {H : Heap} {locs : List Loc} {D : va_G} {cl : List vw_C} {cty : Nat → Nat → FieldType} {cy : Nat → ClassId} {ad : Nat → Nat} {Ns : List Cond} {X : mj_XT} {M : mj_M} {A : Nat → Prop} {av : List Value} (hN : ∀ w ∈ Ns, mj_nw w) (hK : va_K D cl (mj_tys cy) s) (hP : va_P D cl (mj_ws cty cy ad M) H) (hD : va_D A (mj_ws cty cy ad M)) (hNw : ∀ w ∈ Ns, va_Nw w s) (hX : mj_XZ X ad A s s.heap) (hS : va_S A s.heap H locs) (hA : ∀ q, s.heap.size ≤ q → A q) (hU : U.heap = H) (hW : s.WarmedH U.vm) : va_Pc av (mj_B D cl cty cy ad Ns X M H.size) av.toArray U := by
  refine ⟨rfl, by rw [hU], va_K.moved hW.alike hK, by rw [hU]; exact hP, hD.weaken (fun _ _ _ _ => trivial), fun w hw => ?_, ?_⟩
  · exact mj_nw_warm (hN w hw) hW (hNw _ hw)
  · rw [hU]
    exact mj_XZ_to hX hW hS (mj_free hD hS hA)
theorem mj_room {d' mc ms maxL : Nat} {R : Room} (h : maxL ≤ 40) (hf : d' + 1 ≤ R.frames) (hl : 64 * (d' + 1) ≤ R.locals) : (mj_rm d' mc ms).frames + 1 ≤ R.frames ∧ 8 + (maxL + 11) + (mj_rm d' mc ms).locals ≤ R.locals := by
  refine ⟨hf, ?_⟩
  show 8 + (maxL + 11) + 64 * d' ≤ R.locals
  omega
theorem mj_oi_inv {P : mj_P} {j k : Nat} {i : Instr} {st st' : List Value} (h : mj_oi P j i st = some (k, st')) : ∃ ix o r, i = .invokespecial ix ∧ mj_pI P j ix = some none ∧ st = .ref o :: r ∧ mj_sum r ≤ 8 ∧ k = 3 ∧ st' = r := by
  unfold mj_oi at h
  split at h
  · split at h
    · split at h
      · cases h
        exact ⟨_, _, _, rfl, by assumption, rfl, by assumption, rfl, rfl⟩
      · cases h
    · cases h
  · cases h
section MJD
variable {p : Program} {l : Launch} {e : Env} {R : Room} {s : State} {m : MethodId} {args : Array Value} {below : List Frame} {meth : Method} {c : Code} {H : Heap} {locs : List Loc} {cells slots : Nat} {Q : State → Prop}
theorem mj_after {pc mc ms L : Nat} {ls : Array Slot} {st0 rest : List Value} {D : va_G} {cl : List vw_C} {cty : Nat → Nat → FieldType} {cy : Nat → ClassId} {ad : Nat → Nat} {r : Option Value} {M' : mj_M} {A A1 : Nat → Prop} {H0 : Heap} {a : Array Value} {free : Addr → Prop}
    (hr : va_Run p l e R s m args below meth c H locs cells slots mc ms (F0 m pc ls st0) rest (mj_Qc D cl cty cy ad L r M' A1 a) free) (hS : va_S A H0 H locs) (hA : ∀ q, A1 q → A q) (hf : ∀ q, free q → A q)
    (kk : ∀ (ad' : Nat → Nat) (H1 : Heap) (locs1 : List Loc), mj_ag L ad ad' → va_P D cl (mj_ws cty cy ad' M') H1 → va_D A (mj_ws cty cy ad' M') → va_S A H0 H1 locs1 → W p l e R s m args below meth c H1 locs1 (cells + mc) (slots + ms) Q (F0 m (pc + 3) ls ((r.map (mj_v ad')).toList ++ rest))) : W p l e R s m args below meth c H locs cells slots Q (F0 m pc ls st0) := by
  intro T hT X
  obtain ⟨v, st₀, t, T', L, h0, X', hL, e1, e2, ⟨ad', hag, hv, hp, hd, hz, hk⟩, st⟩ := hr T hT X
  cases hv
  rw [h0] at hz hk
  obtain ⟨t2, a1, b1⟩ := kk ad' T'.heap (locs ++ L) hag (by rw [e1]; exact hp) (hd.weaken (fun _ q _ h => hA _ h))
    ⟨Nat.le_trans hS.1 (by rw [e1]; exact hz), fun q h1 h2 => by rw [e1, hk q (Nat.lt_of_lt_of_le h1 hS.1) (fun z => h2 (hA q z))]; exact hS.2.1 q h1 h2, fun q hq => by
      rcases List.mem_append.mp hq with h | h
      · exact hS.2.2 q h
      · exact hf _ (hL q h)⟩ T' rfl X'
  exact ⟨t2, st t2 a1, b1⟩
theorem mj_ldc_ok {cc : ByteArray} {pc k j : Nat} {ls : Array Slot} {P : mj_P} {i : Instr} {st st' : List Value} {own : String} {ad : Nat → Nat} (hexec : p.tables.exec = Jvm.exec) (hb : c.code = cc) (hown : s.vm.findClass own = some m.cls) (h1 : ∀ ix v, mj_pK P j ix = some v → (Cond.constant own ix v).before args s = true) (h2 : ∀ ix v, mj_pL P j ix = some v → (Cond.constantLong own ix v).before args s = true)
    (h : mj_ldc P j i st = some (k, st')) (hdg : decode cc pc = .ok (i, k)) (kk : W p l e R s m args below meth c H locs cells slots Q (F0 m (pc + k) ls (mj_s ad st'))) : W p l e R s m args below meth c H locs cells slots Q (F0 m pc ls (mj_s ad st)) := by
  unfold mj_ldc at h
  split at h
  · obtain ⟨v, hv, e⟩ := Option.map_eq_some_iff.mp h
    cases e
    exact lv_ldc hexec hb hown (h1 _ _ hv) hdg kk
  · obtain ⟨v, hv, e⟩ := Option.map_eq_some_iff.mp h
    cases e
    exact lv_ldcw hexec hb hown (h1 _ _ hv) hdg kk
  · obtain ⟨v, hv, e⟩ := Option.map_eq_some_iff.mp h
    cases e
    exact lv_ldc2 hexec hb hown (h2 _ _ hv) hdg kk
  · cases h
theorem mj_oi_ok {cc : ByteArray} {pc k j : Nat} {ls : Array Slot} {AW Ns : List Cond} {P : mj_P} {i : Instr} {st st' : List Value} {own : String} {ad : Nat → Nat} (hexec : p.tables.exec = Jvm.exec) (hb : c.code = cc) (hml : ls.size = c.maxLocals) (hown : s.vm.findClass own = some m.cls) (hts : ∀ w ∈ AW, w.before args s = true) (hI : ∀ ix q, mj_pI P j ix = some q → mj_Li AW Ns P own ix q) (hfr : 1 ≤ R.frames) (hlo : 64 ≤ R.locals)
    (h : mj_oi P j i st = some (k, st')) (hdg : decode cc pc = .ok (i, k)) (kk : W p l e R s m args below meth c H locs cells slots Q (F0 m (pc + k) ls (mj_s ad st'))) : W p l e R s m args below meth c H locs cells slots Q (F0 m pc ls (mj_s ad st)) := by
  obtain ⟨ix, o, r, rfl, hi, rfl, hs, rfl, rfl⟩ := mj_oi_inv h
  obtain ⟨w1, w2, w3⟩ := hI _ _ hi
  refine W.objInit hexec hb hown (hts _ w1) (hts _ w2) (hts _ w3) rfl hml rfl hdg hfr ?_ kk
  have h0 : 2 * (F0 m pc ls (mj_s ad (.ref o :: st'))).monitorRoom + ((mj_s ad st').map fun v => v.category).sum ≤ 8 := lv_room (by rw [mj_sum_v]; exact hs)
  have h1 : ((mj_s ad st').map fun v => v.category).sum = ((List.map (mj_v ad) st').map fun v => v.category).sum := rfl
  omega
end MJD
theorem mj_ret_ok {p : Program} {l : Launch} {e : Env} {R : Room} {s : State} {m : MethodId} {args : Array Value} {below : List Frame} {meth : Method} {c : Code} {H : Heap} {locs : List Loc} {cells slots : Nat} {cc : ByteArray} {pc k : Nat} {ls : Array Slot} {Qc : Array Value → State → Outcome → State → Prop} {free : Addr → Prop} {ret : Option FieldType} {i : Instr} {st : List Value} {v : Option Value} {ad : Nat → Nat}
    (hexec : p.tables.exec = Jvm.exec) (hb : c.code = cc) (hr : meth.sig.returnType = ret) (hlocks : meth.locks = false) (h : mj_ret ret i st = some v) (hdg : decode cc pc = .ok (i, k)) (hk : k = 1)
    (hq : ∀ t : State, t.heap = H → s.WarmedH t.vm → Qc args s (.returned (v.map (mj_v ad))) t) (hf : ∀ q ∈ locs, free q.base) : W p l e R s m args below meth c H locs cells slots (MQ below Qc args s cells slots free) (F0 m pc ls (mj_s ad st)) := by
  subst hk
  unfold mj_ret at h
  split at h
  · split at h
    · split at h
      · rename_i e0
        cases h
        exact W.vret hexec hb (hr.trans e0) hq hf hdg hlocks
      · cases h
    · cases h
  · split at h
    · split at h
      · rename_i x e0
        cases h
        rcases e0 with e0 | ⟨e0, e1⟩ | ⟨e0, e1⟩ | ⟨e0, e1⟩
        · exact W.iret hexec hb (hr.trans e0) hq hf hdg hlocks
        · exact W.zret (ty := .boolean) hexec hb (hr.trans e0) (by rcases e1 with rfl | rfl <;> decide) hq hf hdg hlocks
        · exact W.zret (ty := .char) hexec hb (hr.trans e0) (congrArg Value.int e1) hq hf hdg hlocks
        · exact W.zret (ty := .byte) hexec hb (hr.trans e0) (congrArg Value.int e1) hq hf hdg hlocks
      · cases h
    · cases h
  · split at h
    · split at h
      · rename_i x e0
        cases h
        exact W.lret hexec hb (hr.trans e0) hq hf hdg hlocks
      · cases h
    · cases h
  · cases h

/-! THE SMALL MACHINE, last: the machine's own making of rows (by the library's law of multianewarray) -/
theorem mj_outer (c : ClassId) (N h0 : Nat) : ∀ i : Nat, Jvm.Free.Multi.outerC c N h0 i = arrV c N (fun j => va_rf (if j < i then some (h0 + 1 + j) else none))
  | 0 => by
    show ({ cls := c, slots := Array.replicate N .null, vm := .none } : Cell) = _
    rw [arrV_new]
    refine congrArg (arrV c N) (funext fun j => ?_)
    simp [va_rf]
  | i + 1 => by
    show (Jvm.Free.Multi.outerC c N h0 i).setSlot i (.ref (h0 + 1 + i)) = _
    rw [mj_outer c N h0 i, arrV_store]
    refine congrArg (arrV c N) (funext fun j => ?_)
    by_cases e : j = i
    · subst e
      simp [updV, va_rf]
    · by_cases h : j < i
      · simp [updV, e, h, Nat.lt_succ_of_lt h]
      · simp [updV, e, h, show ¬ j < i + 1 by omega]
theorem mj_ma_inv {ma : Nat → Option Nat} {i : Instr} {k : Nat} {M M' : mj_M} {st st' : List Value} (h : mj_ma ma i M st = some (k, st', M')) : ∃ ix ki k0 n0 r, i = .multianewarray ix 2 ∧ ma ix = some ki ∧ st = .int k0 :: .int n0 :: r ∧ (ki = 100 ∨ ki = 101) ∧ ¬ n0 < 0 ∧ ¬ k0 < 0 ∧ n0.toNatClampNeg ≤ 1000 ∧ k0.toNatClampNeg ≤ 100000 ∧ M.1.length + n0.toNatClampNeg < 1000000 ∧ k = 4 ∧ st' = .ref M.1.length :: r ∧ M' = mj_rows M (ki + 3) ki n0.toNatClampNeg k0.toNatClampNeg := by
  unfold mj_ma at h
  split at h
  · split at h
    · rename_i hma
      split at h
      · rename_i hc
        cases h
        obtain ⟨c0, c1, c2, c3, c4, c5, c6⟩ := hc
        subst c0
        exact ⟨_, _, _, _, _, rfl, hma, rfl, c1, c2, c3, c4, c5, c6, rfl, rfl, rfl⟩
      · cases h
    · cases h
  · cases h
theorem mj_rows_slt {M : mj_M} {ko ki n k : Nat} : mj_slt (mj_rows M ko ki n k) - mj_slt M = n + n * k := by
  unfold mj_slt mj_rows
  simp
theorem mj_ma_core {p : Program} {l : Launch} {e : Env} {R : Room} {s : State} {m : MethodId} {args : Array Value} {below : List Frame} {meth : Method} {c : Code} {H : Heap} {locs : List Loc} {cells slots : Nat} {Q : State → Prop} {cc : ByteArray} {pc : Nat} {ls : Array Slot} {D : va_G} {cl : List vw_C} {cty : Nat → Nat → FieldType} {cy : Nat → ClassId} {ad : Nat → Nat} {M : mj_M} {own : String} {A : Nat → Prop} {H0 : Heap} {ty : FieldType} {co ci ki : Nat} {zf : Nat → vp_A} {ix : Nat} {k0 n0 : Int32} {r : List Value}
    (hx : p.tables.exec = Jvm.exec) (hb : c.code = cc) (hown : s.vm.findClass own = some m.cls) (hclink : (Cond.classLink own ix ("[" ++ (FieldType.array ty).toString)).before args s = true) (hover : (Cond.arrayOver (.array ty)).before args s = true) (harr : (Cond.arrayClass ty).before args s = true)
    (hdf : fits ty (defaultValue ty) = true) (hdd : (defaultValue ty).isDefault = true) (hcb : componentBytes ty ≤ 8)
    (hco : ∀ cA, s.vm.findClass ("[" ++ (FieldType.array ty).toString) = some cA → cA = cy co) (hci : ∀ cA, s.vm.findClass (FieldType.array ty).toString = some cA → cA = cy ci) (hz : ∀ (cA : ClassId) (K : Nat), Jvm.Free.Multi.innerC cA K (defaultValue ty) = vp_cell cA (zf K))
    (c1 : ∀ (ad : Nat → Nat) (M : mj_M) (o n : Nat), mj_cell cty cy ad M o (ki + 3, n) = .inl (cy co, n, .inr (.inr (.inr (.inr (fun j => (M.2.2.2 o j).map ad)))))) (c2 : ∀ (ad : Nat → Nat) (M : mj_M) (o k : Nat), M.2.1 o = (fun _ => 0) → M.2.2.1 o = (fun _ => 0) → mj_cell cty cy ad M o (ki, k) = .inl (cy ci, zf k))
    (hP : va_P D cl (mj_ws cty cy ad M) H) (hD : va_D A (mj_ws cty cy ad M)) (hS : va_S A H0 H locs) (hA : ∀ q, H0.size ≤ q → A q) (hM : mj_wM M) (hst : ∀ v ∈ r, mj_wv M.1.length v)
    (hn : ¬ n0 < 0) (hk : ¬ k0 < 0) (hn1 : n0.toNatClampNeg ≤ 1000) (hk1 : k0.toNatClampNeg ≤ 100000) (hL : M.1.length + n0.toNatClampNeg < 1000000) (hdg : decode cc pc = .ok (.multianewarray ix 2, 4))
    (hc1 : cells + (n0.toNatClampNeg + 1) ≤ R.cells) (hc2 : slots + (n0.toNatClampNeg + n0.toNatClampNeg * k0.toNatClampNeg) ≤ R.slots)
    (kk : ∀ (ad' : Nat → Nat) (H1 : Heap), mj_ag M.1.length ad ad' → va_P D cl (mj_ws cty cy ad' (mj_rows M (ki + 3) ki n0.toNatClampNeg k0.toNatClampNeg)) H1 → va_D A (mj_ws cty cy ad' (mj_rows M (ki + 3) ki n0.toNatClampNeg k0.toNatClampNeg)) → va_S A H0 H1 locs → W p l e R s m args below meth c H1 locs (cells + (n0.toNatClampNeg + 1)) (slots + (n0.toNatClampNeg + n0.toNatClampNeg * k0.toNatClampNeg)) Q (F0 m (pc + 4) ls (mj_s ad' (.ref M.1.length :: r)))) :
    W p l e R s m args below meth c H locs cells slots Q (F0 m pc ls (.int k0 :: .int n0 :: mj_s ad r)) := by
  intro T hT X
  have hb2 : k0.toNatClampNeg * componentBytes ty ≤ 536870912 := Nat.le_trans (Nat.mul_le_mul hk1 hcb) (by decide)
  obtain ⟨vm₁, cA, comp, -, fA, fC, hO, -, X', step⟩ := X.multianewarray2F hx hown hclink hover harr (g := F0 m pc ls (.int k0 :: .int n0 :: mj_s ad r)) rfl (by rw [hb]; exact hdg) rfl hn hk (by omega) hb2 (by omega) hdf hdd (by omega) (by omega)
  have e1 := hco cA fA
  have e2 := hci comp fC
  subst e1
  subst e2
  have hTh : (T.setVm vm₁).heap = H := hT
  generalize hF : Jvm.Free.Multi.fill (T.setVm vm₁) (cy co) (cy ci) n0.toNatClampNeg k0.toNatClampNeg (defaultValue ty) n0.toNatClampNeg = F at X' step
  obtain ⟨f1, f2, -, -⟩ := Jvm.Free.Multi.fill_facts (T.setVm vm₁) (cy co) (cy ci) n0.toNatClampNeg k0.toNatClampNeg (defaultValue ty) n0.toNatClampNeg
  rw [hF, hTh] at f1 f2
  rw [mj_outer] at f2
  have f3 : ∀ j, j < n0.toNatClampNeg → F.heap[H.size + 1 + j]? = some (vp_cell (cy ci) (zf k0.toNatClampNeg)) := fun j hj => by
    have := Jvm.Free.Multi.fill_inner (T.setVm vm₁) (cy co) (cy ci) n0.toNatClampNeg k0.toNatClampNeg (defaultValue ty) n0.toNatClampNeg j hj
    rw [hF, hTh, hz] at this
    exact this
  have f4 : ∀ x, x < H.size → F.heap[x]? = H[x]? := fun x hx9 => by
    have := Jvm.Free.Multi.fill_old (T.setVm vm₁) (cy co) (cy ci) n0.toNatClampNeg k0.toNatClampNeg (defaultValue ty) (a := x) (by rw [hTh]; exact hx9) n0.toNatClampNeg
    rw [hF, hTh] at this
    exact this
  obtain ⟨w1, w2, w3⟩ := mj_rows_world (z := zf k0.toNatClampNeg) hM hL hP hD hS hA f1 f2 f3 f4 (fun ad M o => c1 ad M o _) (fun ad M o => c2 ad M o _)
  have hag : mj_ag M.1.length ad (mj_adr ad M.1.length n0.toNatClampNeg H.size) := mj_adr_ag hL
  have e3 : cells + 1 + n0.toNatClampNeg = cells + (n0.toNatClampNeg + 1) := by omega
  have e4 : slots + n0.toNatClampNeg + n0.toNatClampNeg * k0.toNatClampNeg = slots + (n0.toNatClampNeg + n0.toNatClampNeg * k0.toNatClampNeg) := by omega
  rw [e3, e4] at X'
  obtain ⟨t, a1, b1⟩ := kk _ F.heap hag w1 w2 w3 F rfl X'
  refine ⟨t, step t ?_, b1⟩
  have e5 : mj_s (mj_adr ad M.1.length n0.toNatClampNeg H.size) (.ref M.1.length :: r) = .ref H.size :: mj_s ad r := by
    show mj_v _ (Value.ref M.1.length) :: mj_s _ r = _
    rw [mj_s_ag hag hst]
    have : mj_adr ad M.1.length n0.toNatClampNeg H.size M.1.length = H.size := by
      unfold mj_adr
      rw [if_pos (by omega)]
      omega
    show Value.ref (mj_adr ad M.1.length n0.toNatClampNeg H.size M.1.length) :: _ = _
    rw [this]
  rw [e5] at a1
  have e6 : T.heap.size = H.size := by rw [hT]
  rw [e6]
  exact a1
theorem mj_MaOk_all (cl : List vw_C) (cty : Nat → Nat → FieldType) (Ts : List Cond) : mj_MaOk cl cty Ts := by
  intro p l e R s m args below meth c H locs cells slots Q cc pc ls D cy ad M own A H0 ma hx hb hts hown hMa hOi hOl hK hP hD hS hA hM i k M' st st' hst h hdg hc1 hc2 kk
  obtain ⟨ix, ki, k0, n0, r, rfl, hma, rfl, hki, hn, hk, hn1, hk1, hL, rfl, rfl, rfl⟩ := mj_ma_inv h
  have hr : ∀ v ∈ r, mj_wv M.1.length v := fun v hv => hst v (List.mem_cons_of_mem _ (List.mem_cons_of_mem _ hv))
  have q1 : (mj_rows M (ki + 3) ki n0.toNatClampNeg k0.toNatClampNeg).1.length - M.1.length = n0.toNatClampNeg + 1 := by rw [mj_rows_len]; omega
  have q2 : mj_slt (mj_rows M (ki + 3) ki n0.toNatClampNeg k0.toNatClampNeg) - mj_slt M = n0.toNatClampNeg + n0.toNatClampNeg * k0.toNatClampNeg := mj_rows_slt
  rw [q1] at hc1
  rw [q2] at hc2
  rw [q1, q2] at kk
  rcases hki with rfl | rfl
  · obtain ⟨w1, w2⟩ := (hMa ix 100 hma).1 rfl
    exact mj_ma_core (ty := .int) (co := 3) (ci := 0) (ki := 100) (zf := fun K => (K, .inl (fun _ => 0))) hx hb hown (hts _ w1) (show (Cond.arrayOver (.array .int)).before args s = true from hOi) (hts _ w2) rfl rfl (by decide) (fun cA h9 => mj_arr_same (ty := .array .int) h9 (hK.2 3 (cy 3, .array .int) rfl).2) (fun cA h9 => Option.some.inj (h9.symm.trans (hK.2 0 (cy 0, .int) rfl).2)) (fun cA K => arrV_new cA K _) (fun ad M o n => rfl) (fun ad M o k h1 h2 => by simp [mj_cell, h1]) hP hD hS hA hM hr hn hk hn1 hk1 hL hdg hc1 hc2 kk
  · obtain ⟨w1, w2⟩ := (hMa ix 101 hma).2 rfl
    exact mj_ma_core (ty := .long) (co := 4) (ci := 1) (ki := 101) (zf := fun K => (K, .inr (.inl (fun _ => 0)))) hx hb hown (hts _ w1) (show (Cond.arrayOver (.array .long)).before args s = true from hOl) (hts _ w2) rfl rfl (by decide) (fun cA h9 => mj_arr_same (ty := .array .long) h9 (hK.2 4 (cy 4, .array .long) rfl).2) (fun cA h9 => Option.some.inj (h9.symm.trans (hK.2 1 (cy 1, .long) rfl).2)) (fun cA K => arrV_new cA K _) (fun ad M o n => rfl) (fun ad M o k h1 h2 => by simp [mj_cell, h2]) hP hD hS hA hM hr hn hk hn1 hk1 hL hdg hc1 hc2 kk

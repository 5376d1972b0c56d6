/-! THE SMALL MACHINE, 6: its runs are the machine's. A program is GOOD if its tables say what the words of AW and the bytes say -/
def mj_wy (AW : List Cond) (Y : mj_Y) : List Cond := Cond.code Y.1 Y.2.1 Y.2.2.1 Y.2.2.2.1 :: AW
/-- a call's words: the link (by its name, or as a nest mate's private member), the callee's own -/
def mj_Lk (AW Ns : List Cond) (cl : List vw_C) (own : String) (ix : Nat) (Y : mj_Y) (n : Nat) (r : Option Nat) : Prop :=
  (Cond.methodLink own ix Y.1 ∈ AW ∨ ∃ host, Cond.methodLinkNest own ix Y.1 host ∈ Ns) ∧ Cond.initialized Y.1.cls ∈ AW ∧ (Y.1.cls ≠ "java/lang/invoke/MethodHandle" ∧ Y.1.cls ≠ "java/lang/invoke/VarHandle" ∧ (parseMethodDescriptor Y.1.desc).map (fun d => d.parameters.length) = some n) ∧
  match r with
  | none => Cond.static Y.1 ∈ AW
  | some ci => Cond.instanceMethod Y.1 ∈ AW ∧ Cond.selects Y.1.cls Y.1 Y.1 ∈ AW ∧ ∃ q : vw_C, cl[ci]? = some q ∧ q.1 = Y.1.cls
/-- a good method -/
def mj_Gd (AW Ns : List Cond) (cl : List vw_C) (cty : Nat → Nat → FieldType) (P : mj_P) (j : Nat) (Y : mj_Y) : Prop :=
  plainName Y.1.cls = true ∧ Y.2.2.1 ≤ 40 ∧ Cond.code Y.1 Y.2.1 Y.2.2.1 Y.2.2.2.1 ∈ AW ∧ (∀ pc i k, mj_lk Y.2.2.2.2 pc = some (i, k) → decode Y.2.1 pc = .ok (i, k)) ∧ mj_Fl cl cty AW Y.1.cls (P.2.1 j) ∧
  (∀ ix v, P.2.2.2.1 j ix = some v → Cond.constant Y.1.cls ix v ∈ AW) ∧ (∀ ix v, P.2.2.2.2 j ix = some v → Cond.constantLong Y.1.cls ix v ∈ AW) ∧
  (∀ ix j' n r, P.2.2.1 j ix = some (j', n, r) → ∃ Y', P.1 j' = some Y' ∧ mj_Lk AW Ns cl Y.1.cls ix Y' n r)
def mj_Good (AW Ns : List Cond) (cl : List vw_C) (cty : Nat → Nat → FieldType) (P : mj_P) : Prop :=
  mj_Cl cl cty AW ∧ (∀ w ∈ AW, goodWord w = true) ∧ (∀ w ∈ Ns, ∃ a i x h, w = Cond.methodLinkNest a i x h) ∧ ∀ j Y, P.1 j = some Y → mj_Gd AW Ns cl cty P j Y
def mj_rm (d : Nat) : Room := { frames := d, cells := 0, slots := 0, locals := 64 * d }
def mj_B (D : va_G) (cl : List vw_C) (cty : Nat → Nat → FieldType) (cy : Nat → ClassId) (ad : Nat → Nat) (Ns : List Cond) (M : mj_M) (sz : Nat) (U : State) : Prop :=
  U.heap.size = sz ∧ va_K D cl (mj_tys cy) U ∧ va_P D cl (mj_ws cty cy ad M) U.heap ∧ va_D (fun _ => True) (mj_ws cty cy ad M) ∧ ∀ w ∈ Ns, va_Nw w U
def mj_Qc (D : va_G) (cl : List vw_C) (cty : Nat → Nat → FieldType) (cy : Nat → ClassId) (ad : Nat → Nat) (r : Option Value) (M' : mj_M) (A : Nat → Prop) : Array Value → State → Outcome → State → Prop := fun _ st oc t =>
  oc = .returned (r.map (mj_v ad)) ∧ va_P D cl (mj_ws cty cy ad M') t.heap ∧ va_F A st t
/-- the contract of a run -/
def mj_Met (l : Launch) (AW Ns : List Cond) (cl : List vw_C) (cty : Nat → Nat → FieldType) (Y : mj_Y) (d : Nat) (vs : List Value) (M : mj_M) (r : Option Value) (M' : mj_M) : Prop :=
  ∀ (D : va_G) (cy : Nat → ClassId) (ad : Nat → Nat) (sz : Nat), Met l Y.1 (mj_wy AW Y) (mj_rm d) (va_Pc (mj_s ad vs) (mj_B D cl cty cy ad Ns M sz)) (mj_Qc D cl cty cy ad r M' (va_A (mj_ws cty cy ad M) sz)) 0 0 (va_A (mj_ws cty cy ad M) sz)
theorem mj_ws_get {cty : Nat → Nat → FieldType} {cy : Nat → ClassId} {ad : Nat → Nat} {M : mj_M} {i : Nat} {q : Nat × va_E} (h : (mj_ws cty cy ad M)[i]? = some q) : q.1 = ad i ∧ ∃ r, M.1[i]? = some r := by
  have hlt : i < M.1.length := by
    have := (List.getElem?_eq_some_iff.mp h).1
    rwa [mj_ws_len] at this
  have h2 := mj_ws_at (cty := cty) (cy := cy) (ad := ad) (List.getElem?_eq_getElem hlt)
  rw [h] at h2
  exact ⟨by rw [Option.some.inj h2], _, List.getElem?_eq_getElem hlt⟩
theorem mj_D_same {cty : Nat → Nat → FieldType} {cy : Nat → ClassId} {ad : Nat → Nat} {M M' : mj_M} {A : Nat → Prop} (hs : M'.1 = M.1) (h : va_D A (mj_ws cty cy ad M)) : va_D A (mj_ws cty cy ad M') := by
  refine ⟨fun i j p q hi hj hpq => ?_, fun k q hk => ?_⟩
  · obtain ⟨e1, r1, g1⟩ := mj_ws_get hi
    obtain ⟨e2, r2, g2⟩ := mj_ws_get hj
    rw [hs] at g1 g2
    exact h.1 i j _ _ (mj_ws_at g1) (mj_ws_at g2) (by rw [← e1, ← e2]; exact hpq)
  · obtain ⟨e1, r1, g1⟩ := mj_ws_get hk
    rw [hs] at g1
    rw [e1]
    exact h.2 k _ (mj_ws_at g1)
theorem mj_A_same {cty : Nat → Nat → FieldType} {cy : Nat → ClassId} {ad : Nat → Nat} {M M' : mj_M} {sz : Nat} (hs : M'.1 = M.1) : va_A (mj_ws cty cy ad M') sz = va_A (mj_ws cty cy ad M) sz := by
  funext q
  apply propext
  constructor
  · intro h
    rcases h with ⟨k, e, h⟩ | h
    · obtain ⟨e1, r1, g1⟩ := mj_ws_get h
      rw [hs] at g1
      exact Or.inl ⟨k, _, by rw [show q = ad k from e1]; exact mj_ws_at g1⟩
    · exact Or.inr h
  · intro h
    rcases h with ⟨k, e, h⟩ | h
    · obtain ⟨e1, r1, g1⟩ := mj_ws_get h
      rw [← hs] at g1
      exact Or.inl ⟨k, _, by rw [show q = ad k from e1]; exact mj_ws_at g1⟩
    · exact Or.inr h
theorem mj_args (ad : Nat → Nat) : ∀ (vs : List Value) (i : Nat), mj_l ad (lv_args i vs) = lv_args i (mj_s ad vs) := by
  intro vs
  induction vs with
  | nil => intro i; rfl
  | cons v r ih =>
    intro i
    show (i, mj_v ad v) :: mj_l ad (lv_args _ r) = (i, mj_v ad v) :: lv_args _ (mj_s ad r)
    rw [ih, mj_v_cat]
theorem mj_good_in {AW : List Cond} {Y Y' : mj_Y} (hg : ∀ w ∈ AW, goodWord w = true) (hc : Cond.code Y'.1 Y'.2.1 Y'.2.2.1 Y'.2.2.2.1 ∈ AW) : GoodIn (mj_wy AW Y) (mj_wy AW Y') := by
  intro w hw
  have hm : w ∈ AW := by
    rcases List.mem_cons.mp hw with rfl | h
    · exact hc
    · exact h
  exact ⟨List.mem_cons_of_mem _ hm, good_of_word (hg w hm)⟩
section MJD
variable {p : Program} {l : Launch} {e : Env} {R : Room} {s : State} {m : MethodId} {args : Array Value} {below : List Frame} {meth : Method} {c : Code} {H : Heap} {locs : List Loc} {cells slots : Nat} {Q : State → Prop}
theorem mj_after {pc mc ms : Nat} {ls : Array Slot} {st0 rest : List Value} {D : va_G} {cl : List vw_C} {cty : Nat → Nat → FieldType} {cy : Nat → ClassId} {ad : Nat → Nat} {r : Option Value} {M' : mj_M} {A A1 : Nat → Prop} {H0 : Heap} {a : Array Value} {free : Addr → Prop}
    (hr : va_Run p l e R s m args below meth c H locs cells slots mc ms (F0 m pc ls st0) rest (mj_Qc D cl cty cy ad r M' A1 a) free) (hS : va_S A H0 H locs) (hA : ∀ q, A1 q → A q) (hf : ∀ q, free q → A q)
    (kk : ∀ (H1 : Heap) (locs1 : List Loc), va_P D cl (mj_ws cty cy ad M') H1 → va_S A H0 H1 locs1 → W p l e R s m args below meth c H1 locs1 (cells + mc) (slots + ms) Q (F0 m (pc + 3) ls ((r.map (mj_v ad)).toList ++ rest))) : W p l e R s m args below meth c H locs cells slots Q (F0 m pc ls st0) := by
  intro T hT X
  obtain ⟨v, st₀, t, T', L, h0, X', hL, e1, e2, ⟨hv, hp, hz, hk⟩, st⟩ := hr T hT X
  cases hv
  rw [h0] at hz hk
  obtain ⟨t2, a1, b1⟩ := kk T'.heap (locs ++ L) (by rw [e1]; exact hp)
    ⟨Nat.le_trans hS.1 (by rw [e1]; exact hz), fun q h1 h2 => by rw [e1, hk q (Nat.lt_of_lt_of_le h1 hS.1) (fun z => h2 (hA q z))]; exact hS.2.1 q h1 h2, fun q hq => by
      rcases List.mem_append.mp hq with h | h
      · exact hS.2.2 q h
      · exact hf _ (hL q h)⟩ T' rfl X'
  exact ⟨t2, st t2 a1, b1⟩
theorem mj_ldc_ok {cc : ByteArray} {pc k j : Nat} {ls : Array Slot} {P : mj_P} {i : Instr} {st st' : List Value} {own : String} {ad : Nat → Nat} (hexec : p.tables.exec = Jvm.exec) (hb : c.code = cc) (hown : s.vm.findClass own = some m.cls) (h1 : ∀ ix v, P.2.2.2.1 j ix = some v → (Cond.constant own ix v).before args s = true) (h2 : ∀ ix v, P.2.2.2.2 j ix = some v → (Cond.constantLong own ix v).before args s = true)
    (h : mj_ldc P j i st = some (k, st')) (hdg : decode cc pc = .ok (i, k)) (kk : W p l e R s m args below meth c H locs cells slots Q (F0 m (pc + k) ls (mj_s ad st'))) : W p l e R s m args below meth c H locs cells slots Q (F0 m pc ls (mj_s ad st)) := by
  unfold mj_ldc at h
  split at h
  · obtain ⟨v, hv, e⟩ := Option.map_eq_some_iff.mp h
    cases e
    exact lv_ldc hexec hb hown (h1 _ _ hv) hdg kk
  · obtain ⟨v, hv, e⟩ := Option.map_eq_some_iff.mp h
    cases e
    exact lv_ldcw hexec hb hown (h1 _ _ hv) hdg kk
  · obtain ⟨v, hv, e⟩ := Option.map_eq_some_iff.mp h
    cases e
    exact lv_ldc2 hexec hb hown (h2 _ _ hv) hdg kk
  · cases h
end MJD
theorem mj_ret_ok {p : Program} {l : Launch} {e : Env} {R : Room} {s : State} {m : MethodId} {args : Array Value} {below : List Frame} {meth : Method} {c : Code} {H : Heap} {locs : List Loc} {cells slots : Nat} {cc : ByteArray} {pc k : Nat} {ls : Array Slot} {Qc : Array Value → State → Outcome → State → Prop} {free : Addr → Prop} {ret : Option FieldType} {i : Instr} {st : List Value} {v : Option Value} {ad : Nat → Nat}
    (hexec : p.tables.exec = Jvm.exec) (hb : c.code = cc) (hr : meth.sig.returnType = ret) (hlocks : meth.locks = false) (h : mj_ret ret i st = some v) (hdg : decode cc pc = .ok (i, k)) (hk : k = 1)
    (hq : ∀ t : State, t.heap = H → s.WarmedH t.vm → Qc args s (.returned (v.map (mj_v ad))) t) (hf : ∀ q ∈ locs, free q.base) : W p l e R s m args below meth c H locs cells slots (MQ below Qc args s cells slots free) (F0 m pc ls (mj_s ad st)) := by
  subst hk
  unfold mj_ret at h
  split at h
  · split at h
    · split at h
      · rename_i e0
        cases h
        exact W.vret hexec hb (hr.trans e0) hq hf hdg hlocks
      · cases h
    · cases h
  · split at h
    · split at h
      · rename_i x e0
        cases h
        rcases e0 with e0 | ⟨e0, e1⟩
        · exact W.iret hexec hb (hr.trans e0) hq hf hdg hlocks
        · exact W.zret (ty := .boolean) hexec hb (hr.trans e0) (by rcases e1 with rfl | rfl <;> decide) hq hf hdg hlocks
      · cases h
    · cases h
  · split at h
    · split at h
      · rename_i x e0
        cases h
        exact W.lret hexec hb (hr.trans e0) hq hf hdg hlocks
      · cases h
    · cases h
  · cases h

/-! THE RUNNER, 5: one instruction, a stretch, a method -/
section PJS2
variable {A : Type} {P : mj_P} {Rel : Nat → List Value → mj_M → Option Value → mj_M → Prop} {j : Nat} {Y : mj_Y} {OK : A → Option Value → mj_M → Prop} {lf : pj_Z → mj_M}
theorem pj_s_get {c : pj_C A} (hc : pj_Cok P Rel j Y OK lf c) {pc ix : Nat} {lv : List (Nat × Value)} {st : List pj_V} {z : pj_Z} {nx : List pj_V → Option A} {a : A} {f : Nat × Nat × Nat × Bool} (h1 : mj_lk Y.2.2.2.2 pc = some (.getfield ix, 3)) (hf : c.2.1 ix = some f)
    (hn : ∀ st, nx st = some a → pj_Gd P Rel j Y OK lf (pc + 3) lv (pj_es st) z a) (h : pj_get c.1 f st z nx = some a) : pj_Gd P Rel j Y OK lf pc lv (pj_es st) z a := by
  obtain ⟨⟨hL0, hL⟩, hF, -⟩ := hc
  have hF := hF ix f hf
  rcases st with - | ⟨v, r⟩
  · cases h
  obtain ⟨b, e, w, ev, ht, e1, e2, e3, hw, h⟩ := pj_fd_inv h
  obtain ⟨⟨l0, l1⟩, -, -, -, l5, -⟩ := hL b e ht
  have l1 := pj_len_of (l1 z 0 l0)
  rw [Nat.add_zero, e1] at l1
  have l5 := l5 z f.2.1 w (by rw [e1]; exact e2) hw
  obtain ⟨f1, f2, f3, f4⟩ := f
  dsimp only at *
  have fin : ∀ (u : pj_V), pj_e u = mj_fi (lf z) b f3 f2 → nx (u :: r) = some a → pj_Gd P Rel j Y OK lf pc lv (pj_es (v :: r)) z a := by
    intro u hu h9
    refine pj_g_hr (st' := pj_e u :: pj_es r) h1 rfl ?_ (hn _ h9)
    show mj_get (mj_pF P j) ix (lf z) (pj_e v :: pj_es r) = _
    rw [ev, hu]
    unfold mj_get
    rw [hF]
    dsimp only
    rw [l1]
    dsimp only
    rw [if_pos ⟨e2, e3⟩]
  obtain ⟨w1, w2⟩ := w
  dsimp only at l5 h
  rcases f3 with - | - | - | - | f3
  · rcases w1 with - | - | w1
    · exact fin (pj_I (z.1 w2)) (by show Value.int _ = Value.int _; rw [(l5.2 true rfl).1]) h
    · exact fin (pj_I (z.2.2.1 w2)) (by show Value.int _ = Value.int _; rw [(l5.2 false rfl).1]) h
    · cases h
  · rcases w1 with - | - | w1
    · exact fin (pj_L (z.2.1 w2)) (by show Value.long _ = Value.long _; rw [(l5.2 true rfl).2.1]) h
    · exact fin (pj_L (z.2.2.2 w2)) (by show Value.long _ = Value.long _; rw [(l5.2 false rfl).2.1]) h
    · cases h
  · rcases w1 with - | - | - | w1
    · cases h
    · cases h
    · exact fin (pj_O (w2, 0)) (by show Value.ref _ = va_rf _; rw [l5.1 rfl]; rfl) h
    · cases h
  · rcases w1 with - | - | w1
    · exact fin (pj_I (z.1 w2)) (by show Value.int _ = Value.int _; rw [(l5.2 true rfl).1]) h
    · exact fin (pj_I (z.2.2.1 w2)) (by show Value.int _ = Value.int _; rw [(l5.2 false rfl).1]) h
    · cases h
  · cases h
theorem pj_s_put {c : pj_C A} (hc : pj_Cok P Rel j Y OK lf c) {pc ix : Nat} {lv : List (Nat × Value)} {st : List pj_V} {z : pj_Z} {nx : List pj_V → pj_Z → Option A} {a : A} {f : Nat × Nat × Nat × Bool} (h1 : mj_lk Y.2.2.2.2 pc = some (.putfield ix, 3)) (hf : c.2.1 ix = some f)
    (hn : ∀ st z, nx st z = some a → pj_Gd P Rel j Y OK lf (pc + 3) lv (pj_es st) z a) (h : pj_put c.1 f st z nx = some a) : pj_Gd P Rel j Y OK lf pc lv (pj_es st) z a := by
  obtain ⟨⟨hL0, hL⟩, hF, -⟩ := hc
  have hF := hF ix f hf
  obtain ⟨f1, f2, f3, f4⟩ := f
  cases f4 with
  | true => cases h
  | false =>
  rcases st with - | ⟨u, - | ⟨v, r⟩⟩
  · cases h
  · cases h
  obtain ⟨b, e, w, ev, ht, e1, e2, e3, hw, h⟩ := pj_fd_inv h
  obtain ⟨⟨l0, l1⟩, -, -, -, l5, -⟩ := hL b e ht
  have l1 := pj_len_of (l1 z 0 l0)
  rw [Nat.add_zero, e1] at l1
  have l5 := l5 z f2 w (by rw [e1]; exact e2) hw
  dsimp only at *
  have fin : ∀ (z' : pj_Z), mj_pv (lf z) b f2 f3 (pj_e u) = some (lf z') → nx r z' = some a → pj_Gd P Rel j Y OK lf pc lv (pj_es (u :: v :: r)) z a := by
    intro z' hu h9
    refine pj_g_hw (st' := pj_es r) (M' := lf z') h1 rfl rfl rfl rfl ?_ (hn _ _ h9)
    show mj_put (mj_pF P j) ix (lf z) (pj_e u :: pj_e v :: pj_es r) = _
    rw [ev]
    unfold mj_put
    rw [hF]
    dsimp only
    rw [l1]
    dsimp only
    rw [if_pos ⟨e2, e3⟩, hu]
    rfl
  obtain ⟨w1, w2⟩ := w
  dsimp only at l5 h
  rcases f3 with - | - | - | - | f3
  · obtain ⟨x, hx, h⟩ := pj_vi_inv h
    rcases w1 with - | - | w1
    · refine fin (pj_wi true z w2 x) ?_ h
      rw [hx, (l5.2 true rfl).2.2.1 x]
      unfold mj_pv
      dsimp only
      rw [if_pos (Or.inl rfl)]
    · refine fin (pj_wi false z w2 x) ?_ h
      rw [hx, (l5.2 false rfl).2.2.1 x]
      unfold mj_pv
      dsimp only
      rw [if_pos (Or.inl rfl)]
    · cases h
  · obtain ⟨x, hx, h⟩ := pj_vl_inv h
    rcases w1 with - | - | w1
    · refine fin (pj_wl true z w2 x) ?_ h
      rw [hx, (l5.2 true rfl).2.2.2 x]
      unfold mj_pv
      dsimp only
      rw [if_pos rfl]
    · refine fin (pj_wl false z w2 x) ?_ h
      rw [hx, (l5.2 false rfl).2.2.2 x]
      unfold mj_pv
      dsimp only
      rw [if_pos rfl]
    · cases h
  · cases h
  · obtain ⟨x, hx, hb, h⟩ := pj_vb_inv h
    rcases w1 with - | - | w1
    · refine fin (pj_wi true z w2 x) ?_ h
      rw [hx, (l5.2 true rfl).2.2.1 x]
      unfold mj_pv
      dsimp only
      rw [if_pos (Or.inr ⟨rfl, hb⟩)]
    · refine fin (pj_wi false z w2 x) ?_ h
      rw [hx, (l5.2 false rfl).2.2.1 x]
      unfold mj_pv
      dsimp only
      rw [if_pos (Or.inr ⟨rfl, hb⟩)]
    · cases h
  · cases h
/-- an array's element that is read -/
theorem pj_s_ald {c : pj_C A} (hc : pj_Cok P Rel j Y OK lf c) {pc kd : Nat} {i : Instr} {lv : List (Nat × Value)} {v w : pj_V} {r : List pj_V} {z : pj_Z} {rd : Nat → Nat → Value} {nx : Bool → Nat → Option A} {a : A} (h1 : mj_lk Y.2.2.2.2 pc = some (i, 1)) (n1 : mj_loc i Y.2.2.1 lv (pj_es (w :: v :: r)) = none)
    (hr : mj_hr (mj_pF P j) i (lf z) (pj_es (w :: v :: r)) = mj_ald kd rd (lf z) (pj_es (w :: v :: r)))
    (hn : ∀ b e n i, c.1 b = some e → n < e.2.2.1 → e.1 = kd → i < e.2.1 → nx e.2.2.2.2.1 (pj_ei e n i) = some a → pj_Gd P Rel j Y OK lf (pc + 1) lv (rd (b + n) i :: pj_es r) z a) (h : pj_ra c.1 kd v w nx = some a) : pj_Gd P Rel j Y OK lf pc lv (pj_es (w :: v :: r)) z a := by
  obtain ⟨⟨hL0, hL⟩, -⟩ := hc
  obtain ⟨b, n, e, x, ev, ht, e1, e2, ew, hx, h⟩ := pj_ra_inv h
  obtain ⟨⟨l0, l1⟩, -⟩ := hL b e ht
  have l1 := pj_len_of (l1 z n e1)
  rw [e2] at l1
  refine pj_g_hr (st' := rd (b + n) x.toNatClampNeg :: pj_es r) h1 n1 ?_ (hn b e n _ ht e1 e2 (Nat.not_le.mp (fun q => hx (Or.inr q))) h)
  rw [hr]
  show mj_ald kd rd (lf z) (pj_e w :: pj_e v :: pj_es r) = _
  rw [ev, ew]
  unfold mj_ald
  dsimp only
  rw [l1]
  dsimp only
  rw [if_neg hx]
theorem pj_nar {x : Int32} (h : x = 0 ∨ x = 1) : vp_nar .boolean x = x := by
  rcases h with rfl | rfl <;> rfl
theorem pj_st_ok {c : pj_C A} (hc : pj_Cok P Rel j Y OK lf c) {pc k : Nat} {i : Instr} {r9 : List (Nat × Instr × Nat)} {lv : List (Nat × pj_V)} {st : List pj_V} {z : pj_Z} {nx : pj_K A} {K : Nat → pj_K A} {a : A} (hi : pj_at Y.2.2.2.2 pc i k) (hr : pj_bk Y.2.2.2.2 r9 (pc + k)) (hd : mj_nd (pj_el lv))
    (hn : ∀ lv st z, mj_nd (pj_el lv) → nx lv st z = some a → pj_Gd P Rel j Y OK lf (pc + k) (pj_el lv) (pj_es st) z a) (hK : ∀ t lv st z, mj_nd (pj_el lv) → K t lv st z = some a → pj_Gd P Rel j Y OK lf t (pj_el lv) (pj_es st) z a)
    (h : pj_st c i r9 pc lv st z nx K = some a) : pj_Gd P Rel j Y OK lf pc (pj_el lv) (pj_es st) z a := by
  obtain ⟨h1, hk, ht⟩ := hi
  have hc' := hc
  obtain ⟨⟨hL0, hL⟩, hF, hI, hJ, hS, hX, hN, ⟨hR0, hR⟩, hM, hC, hA⟩ := hc
  unfold pj_st at h
  split at h
  -- aload_n, aload
  · rcases hk with hk | hk
    · cases hk
    subst hk
    obtain ⟨v, hv, h⟩ := pj_ld_inv h
    obtain ⟨hb, h⟩ := pj_if_inv h
    obtain ⟨x, hx⟩ := pj_isR_inv hb
    refine pj_g_loc h1 (st' := pj_e v :: pj_es st) ?_ (hn _ (v :: st) _ hd h)
    unfold mj_loc mj_lda
    dsimp only
    rw [hv, hx]
    rfl
  · rcases hk with hk | hk
    · cases hk
    subst hk
    obtain ⟨v, hv, h⟩ := pj_ld_inv h
    obtain ⟨hb, h⟩ := pj_if_inv h
    obtain ⟨x, hx⟩ := pj_isR_inv hb
    refine pj_g_loc h1 (st' := pj_e v :: pj_es st) ?_ (hn _ (v :: st) _ hd h)
    unfold mj_loc mj_lda
    dsimp only
    rw [hv, hx]
    rfl
  -- iload_n, iload
  · rcases hk with hk | hk
    · cases hk
    subst hk
    obtain ⟨v, hv, h⟩ := pj_ld_inv h
    obtain ⟨hb, h⟩ := pj_if_inv h
    obtain ⟨x, hx⟩ := pj_isI_inv hb
    refine pj_g_loc h1 (st' := pj_e v :: pj_es st) ?_ (hn _ (v :: st) _ hd h)
    unfold mj_loc mj_ldi
    dsimp only
    rw [hv, hx]
    rfl
  · rcases hk with hk | hk
    · cases hk
    subst hk
    obtain ⟨v, hv, h⟩ := pj_ld_inv h
    obtain ⟨hb, h⟩ := pj_if_inv h
    obtain ⟨x, hx⟩ := pj_isI_inv hb
    refine pj_g_loc h1 (st' := pj_e v :: pj_es st) ?_ (hn _ (v :: st) _ hd h)
    unfold mj_loc mj_ldi
    dsimp only
    rw [hv, hx]
    rfl
  -- lload_n, lload
  · rcases hk with hk | hk
    · cases hk
    subst hk
    obtain ⟨v, hv, h⟩ := pj_ld_inv h
    obtain ⟨hb, h⟩ := pj_if_inv h
    obtain ⟨x, hx⟩ := pj_isL_inv hb
    refine pj_g_loc h1 (st' := pj_e v :: pj_es st) ?_ (hn _ (v :: st) _ hd h)
    unfold mj_loc mj_ldl
    dsimp only
    rw [hv, hx]
    rfl
  · rcases hk with hk | hk
    · cases hk
    subst hk
    obtain ⟨v, hv, h⟩ := pj_ld_inv h
    obtain ⟨hb, h⟩ := pj_if_inv h
    obtain ⟨x, hx⟩ := pj_isL_inv hb
    refine pj_g_loc h1 (st' := pj_e v :: pj_es st) ?_ (hn _ (v :: st) _ hd h)
    unfold mj_loc mj_ldl
    dsimp only
    rw [hv, hx]
    rfl
  -- getfield, putfield
  · rename_i ix
    rcases hk with hk | hk
    · cases hk
    subst hk
    cases e : c.2.1 ix with
    | none => rw [e] at h; cases h
    | some f =>
      rw [e] at h
      exact pj_s_get hc' h1 e (fun st h9 => hn _ _ _ hd h9) h
  · rename_i ix
    rcases hk with hk | hk
    · cases hk
    subst hk
    cases e : c.2.1 ix with
    | none => rw [e] at h; cases h
    | some f =>
      rw [e] at h
      exact pj_s_put hc' h1 e (fun st z h9 => hn _ _ _ hd h9) h
  -- iconst, bipush, sipush, lconst
  · rcases hk with hk | hk
    · cases hk
    subst hk
    rename_i m
    exact pj_g_op h1 rfl rfl (st' := pj_e (pj_N m) :: pj_es st) rfl (hn _ (pj_N m :: st) _ hd h)
  · rcases hk with hk | hk
    · cases hk
    subst hk
    rename_i m
    obtain ⟨hb, h⟩ := pj_if_inv h
    obtain ⟨b1, b2⟩ := (Bool.and_eq_true _ _).mp hb
    refine pj_g_op h1 rfl rfl (st' := pj_e (pj_N m) :: pj_es st) ?_ (hn _ (pj_N m :: st) _ hd h)
    show some (2, Value.int (Int8.ofInt m).toInt32 :: pj_es st) = _
    rw [Int8.toInt32_ofInt (show Int8.minValue.toInt ≤ m from of_decide_eq_true b1) (show m ≤ Int8.maxValue.toInt from of_decide_eq_true b2)]
    rfl
  · rcases hk with hk | hk
    · cases hk
    subst hk
    rename_i m
    obtain ⟨hb, h⟩ := pj_if_inv h
    obtain ⟨b1, b2⟩ := (Bool.and_eq_true _ _).mp hb
    refine pj_g_op h1 rfl rfl (st' := pj_e (pj_N m) :: pj_es st) ?_ (hn _ (pj_N m :: st) _ hd h)
    show some (3, Value.int (Int16.ofInt m).toInt32 :: pj_es st) = _
    rw [Int16.toInt32_ofInt (show Int16.minValue.toInt ≤ m from of_decide_eq_true b1) (show m ≤ Int16.maxValue.toInt from of_decide_eq_true b2)]
    rfl
  · rcases hk with hk | hk
    · cases hk
    subst hk
    rename_i m
    refine pj_g_op h1 rfl rfl (st' := pj_e (pj_M ((m : Nat) : Int)) :: pj_es st) ?_ (hn _ (pj_M ((m : Nat) : Int) :: st) _ hd h)
    show some (1, Value.long (Int64.ofNat (m : Nat)) :: pj_es st) = some (1, Value.long (Int64.ofInt ((m : Nat) : Int)) :: pj_es st)
    rw [Int64.ofInt_eq_ofNat]
  -- ldc, ldc_w, ldc2_w
  · rename_i ix
    rcases hk with hk | hk
    · cases hk
    subst hk
    cases e : c.2.2.1 ix with
    | none =>
      rw [e] at h
      dsimp only at h
      cases e2 : c.2.2.2.2.1 ix with
      | none => rw [e2] at h; cases h
      | some v =>
        rw [e2] at h
        obtain ⟨b2, h⟩ := pj_if_inv h
        simp only [Bool.and_eq_true] at b2
        have c1 : (mj_pX P).1.length ≤ v := by rw [← hX]; exact Nat.le_of_ble_eq_true b2.1
        have c2 := Nat.le_of_ble_eq_true b2.2.1
        have c3 : v < 2000000 := by simpa using b2.2.2
        refine pj_g_xr h1 rfl rfl rfl rfl rfl ?_ (st' := pj_e (pj_O (1000000 + v, 0)) :: pj_es st) ?_ (hn _ (pj_O (1000000 + v, 0) :: st) _ hd h)
        · unfold mj_ldc
          dsimp only
          rw [(hS ix v e2).2 c2]
          rfl
        · unfold mj_xr
          dsimp only
          rw [(hS ix v e2).1]
          dsimp only
          rw [if_pos ⟨c1, c2, c3⟩]
          rfl
    | some v =>
      rw [e] at h
      refine pj_g_ldc h1 rfl rfl rfl rfl rfl (st' := pj_e (pj_N v) :: pj_es st) ?_ (hn _ (pj_N v :: st) _ hd h)
      unfold mj_ldc
      dsimp only
      rw [hI ix v e]
      rfl
  · rename_i ix
    rcases hk with hk | hk
    · cases hk
    subst hk
    cases e : c.2.2.1 ix with
    | none => rw [e] at h; cases h
    | some v =>
      rw [e] at h
      refine pj_g_ldc h1 rfl rfl rfl rfl rfl (st' := pj_e (pj_N v) :: pj_es st) ?_ (hn _ (pj_N v :: st) _ hd h)
      unfold mj_ldc
      dsimp only
      rw [hI ix v e]
      rfl
  · rename_i ix
    rcases hk with hk | hk
    · cases hk
    subst hk
    cases e : c.2.2.2.1 ix with
    | none => rw [e] at h; cases h
    | some v =>
      rw [e] at h
      refine pj_g_ldc h1 rfl rfl rfl rfl rfl (st' := pj_e (pj_M v) :: pj_es st) ?_ (hn _ (pj_M v :: st) _ hd h)
      unfold mj_ldc
      dsimp only
      rw [hJ ix v e]
      rfl
  -- ifCond, if_icmp, goto
  · rename_i kk off
    rcases hk with hk | hk
    · cases hk
    subst hk
    rcases st with - | ⟨v, r⟩
    · cases h
    obtain ⟨x, y, hv, hy, h⟩ := pj_cmp_inv h
    cases hy
    have ht : 0 ≤ (pc : Int) + off := of_decide_eq_true ht
    refine pj_s_br (off := off) (b := mj_c kk x 0) (st' := pj_es r) h1 rfl rfl rfl ?_ ht h (fun h => ?_) (fun h => hK _ _ _ _ hd h)
    · show mj_br (.ifCond kk off) 3 pc (pj_e v :: pj_es r) = _
      rw [hv]
      unfold mj_br
      dsimp only
      rw [if_pos rfl]
    · obtain ⟨t, e1, e2⟩ := pj_to_inv h
      rw [e1]
      exact hK _ _ _ _ hd e2
  · rename_i kk off
    rcases hk with hk | hk
    · cases hk
    subst hk
    rcases st with - | ⟨w, - | ⟨v, r⟩⟩
    · cases h
    · cases h
    obtain ⟨x, y, hv, hy, h⟩ := pj_cmp_inv h
    have ht : 0 ≤ (pc : Int) + off := of_decide_eq_true ht
    refine pj_s_br (off := off) (b := mj_c kk x y) (st' := pj_es r) h1 rfl rfl rfl ?_ ht h (fun h => ?_) (fun h => hK _ _ _ _ hd h)
    · show mj_br (.if_icmp kk off) 3 pc (pj_e w :: pj_e v :: pj_es r) = _
      rw [hv, hy]
      unfold mj_br
      dsimp only
      rw [if_pos rfl]
    · obtain ⟨t, e1, e2⟩ := pj_to_inv h
      rw [e1]
      exact hK _ _ _ _ hd e2
  · rename_i off
    rcases hk with hk | hk
    · cases hk
    subst hk
    obtain ⟨t, e1, e2⟩ := pj_to_inv h
    refine pj_g_br h1 rfl rfl rfl (st' := pj_es st) (pc' := t) ?_ (hK _ _ _ _ hd e2)
    show (if (3 : Nat) = 3 then mj_go pc off true (pj_es st) else none) = _
    rw [if_pos rfl, pj_br_go (A := A) (by omega), e1]
    rfl
  -- calls
  · rename_i ix
    rcases hk with hk | hk
    · cases hk
    subst hk
    cases e : c.2.2.2.2.2.2.2.2.2.1 pc with
    | none => rw [e] at h; cases h
    | some f =>
      rw [e] at h
      exact hC pc f e _ h1 _ _ _ _ _ (fun st z h9 => hn _ _ _ hd h9) h
  · rename_i ix
    rcases hk with hk | hk
    · cases hk
    subst hk
    cases ec : c.2.2.2.2.2.2.2.2.2.2 ix with
    | true =>
      rw [ec] at h
      exact pj_s_cp (k := 3) hc' h1 ec (fun st z h9 => hn _ _ _ hd h9) h
    | false =>
      rw [ec] at h
      cases e : c.2.2.2.2.2.2.2.2.2.1 pc with
      | none => rw [e] at h; cases h
      | some f =>
        rw [e] at h
        exact hC pc f e _ h1 _ _ _ _ _ (fun st z h9 => hn _ _ _ hd h9) h
  -- iaload
  · rcases hk with hk | hk
    · cases hk
    subst hk
    rcases st with - | ⟨w, - | ⟨v, r⟩⟩
    · cases h
    · cases h
    cases ex : pj_xo c.2.2.2.2.2.1 v with
    | some q =>
      replace h : (match pj_xo c.2.2.2.2.2.1 v with
        | some q => pj_vj w q.1 (fun i => nx lv (pj_I (q.2 i) :: r) z)
        | none => pj_ra c.1 100 v w (fun fg v => nx lv (pj_I (pj_si fg z v) :: r) z)) = some a := h
      rw [ex] at h
      obtain ⟨o, eo, ho, hq⟩ := pj_xo_inv ex
      rw [hX] at hq
      obtain ⟨x, ew, hx, h⟩ := pj_vj_inv h
      have e2 : (lf z).1[o]? = none := List.getElem?_eq_none (Nat.le_trans (hL0 z) ho)
      refine pj_g_xr h1 rfl ?_ rfl rfl rfl rfl (st' := pj_e (pj_I (q.2 x.toNatClampNeg)) :: pj_es r) ?_ (hn _ (pj_I (q.2 x.toNatClampNeg) :: r) _ hd h)
      · show mj_ald 100 (fun o j => .int ((lf z).2.1 o j)) (lf z) (pj_e w :: pj_e v :: pj_es r) = _
        rw [eo, ew]
        unfold mj_ald
        dsimp only
        rw [pj_len_none e2]
      · show mj_xr (mj_pX P) (mj_pS P j) .iaload (pj_e w :: pj_e v :: pj_es r) = _
        rw [eo, ew]
        unfold mj_xr
        dsimp only
        rw [hq]
        dsimp only
        rw [if_neg hx]
        rfl
    | none =>
      replace h : (match pj_xo c.2.2.2.2.2.1 v with
        | some q => pj_vj w q.1 (fun i => nx lv (pj_I (q.2 i) :: r) z)
        | none => pj_ra c.1 100 v w (fun fg v => nx lv (pj_I (pj_si fg z v) :: r) z)) = some a := h
      rw [ex] at h
      refine pj_s_ald (rd := fun o j => .int ((lf z).2.1 o j)) hc' h1 rfl rfl (fun b e n i hb h2 h3 h4 h5 => ?_) h
      have := ((hL b e hb).2.1 z n i (Or.inl h3) h2 h4).1
      try dsimp only
      rw [this]
      exact hn _ (_ :: r) _ hd h5
  -- baload, laload
  · rcases hk with hk | hk
    · cases hk
    subst hk
    rcases st with - | ⟨w, - | ⟨v, r⟩⟩
    · cases h
    · cases h
    refine pj_s_ald (rd := fun o j => .int ((lf z).2.1 o j)) hc' h1 rfl rfl (fun b e n i hb h2 h3 h4 h5 => ?_) h
    have := ((hL b e hb).2.1 z n i (Or.inr h3) h2 h4).1
    try dsimp only
    rw [this]
    exact hn _ (_ :: r) _ hd h5
  · rcases hk with hk | hk
    · cases hk
    subst hk
    rcases st with - | ⟨w, - | ⟨v, r⟩⟩
    · cases h
    · cases h
    refine pj_s_ald (rd := fun o j => .long ((lf z).2.2.1 o j)) hc' h1 rfl rfl (fun b e n i hb h2 h3 h4 h5 => ?_) h
    have := ((hL b e hb).2.2.1 z n i h3 h2 h4).1
    try dsimp only
    rw [this]
    exact hn _ (_ :: r) _ hd h5
  -- aaload
  · rcases hk with hk | hk
    · cases hk
    subst hk
    rcases st with - | ⟨w, - | ⟨v, r⟩⟩
    · cases h
    · cases h
    obtain ⟨b, n, e, ev, hb, h2, h⟩ := pj_vr_inv h
    obtain ⟨h3, h⟩ := pj_if_inv h
    have h3 : e.1 = 103 ∨ e.1 = 104 := ((Bool.or_eq_true _ _).mp h3).imp eq_of_beq eq_of_beq
    obtain ⟨⟨l0, l1⟩, -, -, l4, -⟩ := hL b e hb
    have l1 := l1 z n h2
    have fin : ∀ (x : Int32) (u : pj_V), pj_e w = .int x → ¬ (x < 0 ∨ e.2.1 ≤ x.toNatClampNeg) → pj_e u = .ref (e.2.2.2.2.2.1 + x.toNatClampNeg) → nx lv (u :: r) z = some a → pj_Gd P Rel j Y OK lf pc (pj_el lv) (pj_es (w :: v :: r)) z a := by
      intro x u ew hx hu h9
      have l4 := l4 z n x.toNatClampNeg h3 h2 (Nat.not_le.mp (fun q => hx (Or.inr q)))
      refine pj_g_hr h1 rfl (st' := pj_e u :: pj_es r) ?_ (hn _ (u :: r) _ hd h9)
      show mj_or (mj_ald 103 _ (lf z) (pj_e w :: pj_e v :: pj_es r)) (mj_ald 104 _ (lf z) (pj_e w :: pj_e v :: pj_es r)) = _
      rw [ev, ew, hu]
      rcases h3 with h3 | h3
      · rw [h3] at l1
        refine mj_or_l ?_
        unfold mj_ald
        dsimp only
        rw [pj_len_of l1]
        dsimp only
        rw [if_neg hx, l4]
        rfl
      · rw [h3] at l1
        refine mj_or_r ?_ ?_
        · unfold mj_ald
          dsimp only
          rw [pj_len_ne l1 (by decide)]
        · unfold mj_ald
          dsimp only
          rw [pj_len_of l1]
          dsimp only
          rw [if_neg hx, l4]
          rfl
    rcases w with x | x | m | m | q | q
    · obtain ⟨hx, h⟩ := pj_g_inv h
      exact fin x _ rfl hx rfl h
    · cases h
    · cases m with
      | ofNat m =>
        obtain ⟨hb9, h⟩ := pj_if_inv h
        obtain ⟨b1, b2⟩ := (Bool.and_eq_true _ _).mp hb9
        have b1 : m < e.2.1 := by simpa using b1
        have b2 : e.2.1 ≤ 1000000 := Nat.le_of_ble_eq_true b2
        obtain ⟨g1, g2⟩ := pj_ofn (m := m) (by omega)
        refine fin (Int32.ofInt (Int.ofNat m)) _ rfl ?_ ?_ h
        · rw [g1]
          rintro (q | q)
          · exact g2 q
          · omega
        · rw [g1]
          rfl
      | negSucc m => cases h
    · cases h
    · cases h
    · cases h
  -- iastore, bastore, lastore
  · rcases hk with hk | hk
    · cases hk
    subst hk
    rcases st with - | ⟨u, - | ⟨w, - | ⟨v, r⟩⟩⟩
    · cases h
    · cases h
    · cases h
    obtain ⟨b, n, e, x, ev, hb, h2, h3, ew, hx, h⟩ := pj_ra_inv h
    obtain ⟨y, eu, h⟩ := pj_vi_inv h
    obtain ⟨⟨l0, l1⟩, l2, -⟩ := hL b e hb
    have l1 := l1 z n h2
    rw [h3] at l1
    have l2 := (l2 z n x.toNatClampNeg (Or.inl h3) h2 (Nat.not_le.mp (fun q => hx (Or.inr q)))).2 y
    refine pj_g_hw h1 rfl rfl rfl rfl (st' := pj_es r) (M' := lf (pj_wi e.2.2.2.2.1 z (pj_ei e n x.toNatClampNeg) y)) ?_ (hn _ _ _ hd h)
    show mj_asi 100 (fun x => x) (lf z) (pj_e u :: pj_e w :: pj_e v :: pj_es r) = _
    rw [eu, ew, ev, l2]
    unfold mj_asi
    dsimp only
    rw [pj_len_of l1]
    dsimp only
    rw [if_neg hx]
    rfl
  · rcases hk with hk | hk
    · cases hk
    subst hk
    rcases st with - | ⟨u, - | ⟨w, - | ⟨v, r⟩⟩⟩
    · cases h
    · cases h
    · cases h
    obtain ⟨b, n, e, x, ev, hb, h2, h3, ew, hx, h⟩ := pj_ra_inv h
    obtain ⟨y, eu, hy, h⟩ := pj_vb_inv h
    obtain ⟨⟨l0, l1⟩, l2, -⟩ := hL b e hb
    have l1 := l1 z n h2
    rw [h3] at l1
    have l2 := (l2 z n x.toNatClampNeg (Or.inr h3) h2 (Nat.not_le.mp (fun q => hx (Or.inr q)))).2 y
    refine pj_g_hw h1 rfl rfl rfl rfl (st' := pj_es r) (M' := lf (pj_wi e.2.2.2.2.1 z (pj_ei e n x.toNatClampNeg) y)) ?_ (hn _ _ _ hd h)
    show mj_asi 102 (vp_nar .boolean) (lf z) (pj_e u :: pj_e w :: pj_e v :: pj_es r) = _
    rw [eu, ew, ev, l2]
    unfold mj_asi
    dsimp only
    rw [pj_len_of l1]
    dsimp only
    rw [if_neg hx, pj_nar hy]
    rfl
  · rcases hk with hk | hk
    · cases hk
    subst hk
    rcases st with - | ⟨u, - | ⟨w, - | ⟨v, r⟩⟩⟩
    · cases h
    · cases h
    · cases h
    obtain ⟨b, n, e, x, ev, hb, h2, h3, ew, hx, h⟩ := pj_ra_inv h
    obtain ⟨y, eu, h⟩ := pj_vl_inv h
    obtain ⟨⟨l0, l1⟩, -, l2, -⟩ := hL b e hb
    have l1 := l1 z n h2
    rw [h3] at l1
    have l2 := (l2 z n x.toNatClampNeg h3 h2 (Nat.not_le.mp (fun q => hx (Or.inr q)))).2 y
    refine pj_g_hw h1 rfl rfl rfl rfl (st' := pj_es r) (M' := lf (pj_wl e.2.2.2.2.1 z (pj_ei e n x.toNatClampNeg) y)) ?_ (hn _ _ _ hd h)
    show mj_asl (lf z) (pj_e u :: pj_e w :: pj_e v :: pj_es r) = _
    rw [eu, ew, ev, l2]
    unfold mj_asl
    dsimp only
    rw [pj_len_of l1]
    dsimp only
    rw [if_neg hx]
    rfl
  -- arraylength
  · rcases hk with hk | hk
    · cases hk
    subst hk
    rcases st with - | ⟨v, r⟩
    · cases h
    cases ex : pj_xo c.2.2.2.2.2.1 v with
    | some q =>
      replace h : (match pj_xo c.2.2.2.2.2.1 v with
        | some q => nx lv (pj_N (q.1 : Nat) :: r) z
        | none => pj_vr v c.1 (fun _ e _ => pj_if (Nat.ble 100 e.1 && Nat.ble e.1 104) (nx lv (pj_N (e.2.1 : Nat) :: r) z))) = some a := h
      rw [ex] at h
      obtain ⟨o, eo, ho, hq⟩ := pj_xo_inv ex
      rw [hX] at hq
      have e2 : (lf z).1[o]? = none := List.getElem?_eq_none (Nat.le_trans (hL0 z) ho)
      refine pj_g_xr h1 rfl ?_ rfl rfl rfl rfl (st' := pj_e (pj_N (q.1 : Nat)) :: pj_es r) ?_ (hn _ (pj_N (q.1 : Nat) :: r) _ hd h)
      · show mj_or (mj_aln 100 (lf z) (pj_e v :: pj_es r)) (mj_or (mj_aln 101 (lf z) (pj_e v :: pj_es r)) (mj_or (mj_aln 102 (lf z) (pj_e v :: pj_es r)) (mj_or (mj_aln 103 (lf z) (pj_e v :: pj_es r)) (mj_aln 104 (lf z) (pj_e v :: pj_es r))))) = _
        rw [eo]
        unfold mj_aln
        dsimp only
        rw [pj_len_none e2, pj_len_none e2, pj_len_none e2, pj_len_none e2, pj_len_none e2]
        rfl
      · show mj_xr (mj_pX P) (mj_pS P j) .arraylength (pj_e v :: pj_es r) = _
        rw [eo]
        unfold mj_xr
        dsimp only
        rw [hq]
        show some (1, Value.int (Int32.ofNat q.1) :: pj_es r) = some (1, Value.int (Int32.ofInt ((q.1 : Nat) : Int)) :: pj_es r)
        rw [Int32.ofInt_eq_ofNat]
    | none =>
      replace h : (match pj_xo c.2.2.2.2.2.1 v with
        | some q => nx lv (pj_N (q.1 : Nat) :: r) z
        | none => pj_vr v c.1 (fun _ e _ => pj_if (Nat.ble 100 e.1 && Nat.ble e.1 104) (nx lv (pj_N (e.2.1 : Nat) :: r) z))) = some a := h
      rw [ex] at h
      obtain ⟨b, n, e, ev, hb, h2, h⟩ := pj_vr_inv h
      obtain ⟨h3, h⟩ := pj_if_inv h
      obtain ⟨h4, h5⟩ := (Bool.and_eq_true _ _).mp h3
      have h4 : 100 ≤ e.1 := Nat.le_of_ble_eq_true h4
      have h5 : e.1 ≤ 104 := Nat.le_of_ble_eq_true h5
      obtain ⟨⟨l0, l1⟩, -⟩ := hL b e hb
      have l1 := l1 z n h2
      refine pj_g_hr h1 rfl (st' := pj_e (pj_N (e.2.1 : Nat)) :: pj_es r) ?_ (hn _ (pj_N (e.2.1 : Nat) :: r) _ hd h)
      show mj_or (mj_aln 100 (lf z) (pj_e v :: pj_es r)) (mj_or (mj_aln 101 (lf z) (pj_e v :: pj_es r)) (mj_or (mj_aln 102 (lf z) (pj_e v :: pj_es r)) (mj_or (mj_aln 103 (lf z) (pj_e v :: pj_es r)) (mj_aln 104 (lf z) (pj_e v :: pj_es r))))) = some (1, Value.int (Int32.ofInt ((e.2.1 : Nat) : Int)) :: pj_es r)
      rw [ev, Int32.ofInt_eq_ofNat]
      unfold mj_aln
      dsimp only
      have cs : e.1 = 100 ∨ e.1 = 101 ∨ e.1 = 102 ∨ e.1 = 103 ∨ e.1 = 104 := by omega
      rcases cs with q | q | q | q | q
      · rw [q] at l1
        rw [pj_len_of l1]
        rfl
      · rw [q] at l1
        rw [pj_len_of l1, pj_len_ne (kd' := 100) l1 (by decide)]
        rfl
      · rw [q] at l1
        rw [pj_len_of l1, pj_len_ne (kd' := 100) l1 (by decide), pj_len_ne (kd' := 101) l1 (by decide)]
        rfl
      · rw [q] at l1
        rw [pj_len_of l1, pj_len_ne (kd' := 100) l1 (by decide), pj_len_ne (kd' := 101) l1 (by decide), pj_len_ne (kd' := 102) l1 (by decide)]
        rfl
      · rw [q] at l1
        rw [pj_len_of l1, pj_len_ne (kd' := 100) l1 (by decide), pj_len_ne (kd' := 101) l1 (by decide), pj_len_ne (kd' := 102) l1 (by decide), pj_len_ne (kd' := 103) l1 (by decide)]
        rfl
  -- ireturn, lreturn, return
  · rcases hk with hk | hk
    · cases hk
    subst hk
    rcases st with - | ⟨v, - | ⟨w, r⟩⟩
    · cases h
    · replace h : (match c.2.2.2.2.2.2.2.1 with
        | 1 => pj_vi v (fun x => c.2.2.2.2.2.2.2.2.1 (some (pj_I x)) z)
        | 2 => pj_vb v (fun x => c.2.2.2.2.2.2.2.2.1 (some (pj_I x)) z)
        | _ => none) = some a := h
      split at h
      · rename_i e9
        rw [e9] at hR
        obtain ⟨x, hx, h⟩ := pj_vi_inv h
        refine mj_wp_ret (r := some (.int x)) h1 ?_ (hM _ _ _ h)
        show mj_rt _ .ireturn 1 [pj_e v] = _
        rw [hx, ← hR]
        rfl
      · rename_i e9
        rw [e9] at hR
        obtain ⟨x, hx, hb, h⟩ := pj_vb_inv h
        refine mj_wp_ret (r := some (.int x)) h1 ?_ (hM _ _ _ h)
        show mj_rt _ .ireturn 1 [pj_e v] = _
        rw [hx, ← hR]
        unfold mj_rt mj_ret
        rw [if_pos rfl]
        dsimp only
        rw [if_pos (Or.inr (Or.inl ⟨rfl, hb⟩))]
      · cases h
    · cases h
  · rcases hk with hk | hk
    · cases hk
    subst hk
    rcases st with - | ⟨v, - | ⟨w, r⟩⟩
    · cases h
    · replace h : (match c.2.2.2.2.2.2.2.1 with
        | 3 => pj_vl v (fun x => c.2.2.2.2.2.2.2.2.1 (some (pj_L x)) z)
        | _ => none) = some a := h
      split at h
      · rename_i e9
        rw [e9] at hR
        obtain ⟨x, hx, h⟩ := pj_vl_inv h
        refine mj_wp_ret (r := some (.long x)) h1 ?_ (hM _ _ _ h)
        show mj_rt _ .lreturn 1 [pj_e v] = _
        rw [hx, ← hR]
        rfl
      · cases h
    · cases h
  · rcases hk with hk | hk
    · cases hk
    subst hk
    rcases st with - | ⟨v, r⟩
    · replace h : (match c.2.2.2.2.2.2.2.1 with
        | 0 => c.2.2.2.2.2.2.2.2.1 none z
        | _ => none) = some a := h
      split at h
      · rename_i e9
        rw [e9] at hR
        refine mj_wp_ret (r := none) h1 ?_ (hM _ _ _ h)
        show mj_rt _ .return_ 1 [] = _
        rw [← hR]
        rfl
      · cases h
    · cases h
  -- istore_n, istore
  · rename_i m
    rcases hk with hk | hk
    · cases hk
    subst hk
    rcases st with - | ⟨v, r⟩
    · cases h
    obtain ⟨hb, h⟩ := pj_if_inv h
    obtain ⟨b1, b2⟩ := (Bool.and_eq_true _ _).mp hb
    obtain ⟨x, hx⟩ := pj_isI_inv b1
    have b2 : (m : Nat) < Y.2.2.1 := by rw [← hN]; simpa using b2
    have e9 : pj_el (((m : Nat), v) :: pj_k1 (m : Nat) lv) = ((m : Nat), pj_e v) :: (pj_el lv).filter (mj_keep1 (m : Nat)) := by rw [← pj_k1_eq]; rfl
    have hd2 : mj_nd (pj_el (((m : Nat), v) :: pj_k1 (m : Nat) lv)) := by rw [e9]; exact pj_nd_put hd _ _ _ mj_keep1_ne
    refine pj_g_loc h1 (lv' := pj_el (((m : Nat), v) :: pj_k1 (m : Nat) lv)) (st' := pj_es r) ?_ (hn _ _ _ hd2 h)
    show mj_sti 1 (m : Nat) Y.2.2.1 (pj_el lv) (pj_e v :: pj_es r) = _
    rw [e9, hx]
    unfold mj_sti
    dsimp only
    rw [if_pos b2]
    rfl
  · rename_i m
    rcases hk with hk | hk
    · cases hk
    subst hk
    rcases st with - | ⟨v, r⟩
    · cases h
    obtain ⟨hb, h⟩ := pj_if_inv h
    obtain ⟨b1, b2⟩ := (Bool.and_eq_true _ _).mp hb
    obtain ⟨x, hx⟩ := pj_isI_inv b1
    have b2 : m < Y.2.2.1 := by rw [← hN]; simpa using b2
    have e9 : pj_el ((m, v) :: pj_k1 m lv) = (m, pj_e v) :: (pj_el lv).filter (mj_keep1 m) := by rw [← pj_k1_eq]; rfl
    have hd2 : mj_nd (pj_el ((m, v) :: pj_k1 m lv)) := by rw [e9]; exact pj_nd_put hd _ _ _ mj_keep1_ne
    refine pj_g_loc h1 (lv' := pj_el ((m, v) :: pj_k1 m lv)) (st' := pj_es r) ?_ (hn _ _ _ hd2 h)
    show mj_sti 2 m Y.2.2.1 (pj_el lv) (pj_e v :: pj_es r) = _
    rw [e9, hx]
    unfold mj_sti
    dsimp only
    rw [if_pos b2]
    rfl
  -- astore_n, astore
  · rename_i m
    rcases hk with hk | hk
    · cases hk
    subst hk
    rcases st with - | ⟨v, r⟩
    · cases h
    obtain ⟨hb, h⟩ := pj_if_inv h
    obtain ⟨b1, b2⟩ := (Bool.and_eq_true _ _).mp hb
    obtain ⟨x, hx⟩ := pj_isR_inv b1
    have b2 : (m : Nat) < Y.2.2.1 := by rw [← hN]; simpa using b2
    have e9 : pj_el (((m : Nat), v) :: pj_k1 (m : Nat) lv) = ((m : Nat), pj_e v) :: (pj_el lv).filter (mj_keep1 (m : Nat)) := by rw [← pj_k1_eq]; rfl
    have hd2 : mj_nd (pj_el (((m : Nat), v) :: pj_k1 (m : Nat) lv)) := by rw [e9]; exact pj_nd_put hd _ _ _ mj_keep1_ne
    refine pj_g_loc h1 (lv' := pj_el (((m : Nat), v) :: pj_k1 (m : Nat) lv)) (st' := pj_es r) ?_ (hn _ _ _ hd2 h)
    show mj_sta 1 (m : Nat) Y.2.2.1 (pj_el lv) (pj_e v :: pj_es r) = _
    rw [e9, hx]
    unfold mj_sta
    dsimp only
    rw [if_pos b2]
    rfl
  · rename_i m
    rcases hk with hk | hk
    · cases hk
    subst hk
    rcases st with - | ⟨v, r⟩
    · cases h
    obtain ⟨hb, h⟩ := pj_if_inv h
    obtain ⟨b1, b2⟩ := (Bool.and_eq_true _ _).mp hb
    obtain ⟨x, hx⟩ := pj_isR_inv b1
    have b2 : m < Y.2.2.1 := by rw [← hN]; simpa using b2
    have e9 : pj_el ((m, v) :: pj_k1 m lv) = (m, pj_e v) :: (pj_el lv).filter (mj_keep1 m) := by rw [← pj_k1_eq]; rfl
    have hd2 : mj_nd (pj_el ((m, v) :: pj_k1 m lv)) := by rw [e9]; exact pj_nd_put hd _ _ _ mj_keep1_ne
    refine pj_g_loc h1 (lv' := pj_el ((m, v) :: pj_k1 m lv)) (st' := pj_es r) ?_ (hn _ _ _ hd2 h)
    show mj_sta 2 m Y.2.2.1 (pj_el lv) (pj_e v :: pj_es r) = _
    rw [e9, hx]
    unfold mj_sta
    dsimp only
    rw [if_pos b2]
    rfl
  -- lstore_n, lstore
  · rename_i m
    rcases hk with hk | hk
    · cases hk
    subst hk
    rcases st with - | ⟨v, r⟩
    · cases h
    obtain ⟨hb, h⟩ := pj_if_inv h
    obtain ⟨b1, b2⟩ := (Bool.and_eq_true _ _).mp hb
    obtain ⟨x, hx⟩ := pj_isL_inv b1
    have b2 : (m : Nat) + 1 < Y.2.2.1 := by rw [← hN]; simpa using b2
    have e9 : pj_el (((m : Nat), v) :: pj_k2 (m : Nat) lv) = ((m : Nat), pj_e v) :: (pj_el lv).filter (mj_keep2 (m : Nat)) := by rw [← pj_k2_eq]; rfl
    have hd2 : mj_nd (pj_el (((m : Nat), v) :: pj_k2 (m : Nat) lv)) := by rw [e9]; exact pj_nd_put hd _ _ _ mj_keep2_ne
    refine pj_g_loc h1 (lv' := pj_el (((m : Nat), v) :: pj_k2 (m : Nat) lv)) (st' := pj_es r) ?_ (hn _ _ _ hd2 h)
    show mj_stl 1 (m : Nat) Y.2.2.1 (pj_el lv) (pj_e v :: pj_es r) = _
    rw [e9, hx]
    unfold mj_stl
    dsimp only
    rw [if_pos b2]
    rfl
  · rename_i m
    rcases hk with hk | hk
    · cases hk
    subst hk
    rcases st with - | ⟨v, r⟩
    · cases h
    obtain ⟨hb, h⟩ := pj_if_inv h
    obtain ⟨b1, b2⟩ := (Bool.and_eq_true _ _).mp hb
    obtain ⟨x, hx⟩ := pj_isL_inv b1
    have b2 : m + 1 < Y.2.2.1 := by rw [← hN]; simpa using b2
    have e9 : pj_el ((m, v) :: pj_k2 m lv) = (m, pj_e v) :: (pj_el lv).filter (mj_keep2 m) := by rw [← pj_k2_eq]; rfl
    have hd2 : mj_nd (pj_el ((m, v) :: pj_k2 m lv)) := by rw [e9]; exact pj_nd_put hd _ _ _ mj_keep2_ne
    refine pj_g_loc h1 (lv' := pj_el ((m, v) :: pj_k2 m lv)) (st' := pj_es r) ?_ (hn _ _ _ hd2 h)
    show mj_stl 2 m Y.2.2.1 (pj_el lv) (pj_e v :: pj_es r) = _
    rw [e9, hx]
    unfold mj_stl
    dsimp only
    rw [if_pos b2]
    rfl
  -- iinc
  · rename_i m d
    rcases hk with hk | hk
    · cases hk
    subst hk
    obtain ⟨v, hv, h⟩ := pj_ld_inv h
    obtain ⟨x, hx, h⟩ := pj_vi_inv h
    obtain ⟨b2, h⟩ := pj_if_inv h
    have b2 : m < Y.2.2.1 := by rw [← hN]; simpa using b2
    have e9 : pj_el ((m, pj_I (x + Int32.ofInt d)) :: pj_k1 m lv) = (m, .int (x + Int32.ofInt d)) :: (pj_el lv).filter (mj_keep1 m) := by rw [← pj_k1_eq]; rfl
    have hd2 : mj_nd (pj_el ((m, pj_I (x + Int32.ofInt d)) :: pj_k1 m lv)) := by rw [e9]; exact pj_nd_put hd _ _ _ mj_keep1_ne
    refine pj_g_loc h1 (lv' := pj_el ((m, pj_I (x + Int32.ofInt d)) :: pj_k1 m lv)) (st' := pj_es st) ?_ (hn _ _ _ hd2 h)
    show mj_inc m Y.2.2.1 d (pj_el lv) (pj_es st) = _
    unfold mj_inc
    rw [hv, hx, e9]
    dsimp only
    rw [if_pos b2]
    rfl
  -- getstatic
  · rename_i ix
    rcases hk with hk | hk
    · cases hk
    subst hk
    cases e : c.2.2.2.2.1 ix with
    | none => rw [e] at h; cases h
    | some v =>
      rw [e] at h
      obtain ⟨b2, h⟩ := pj_if_inv h
      have b2 : v < (mj_pX P).1.length := by rw [← hX]; simpa using b2
      refine pj_g_xr h1 rfl rfl rfl rfl rfl rfl (st' := pj_e (pj_O (1000000 + v, 0)) :: pj_es st) ?_ (hn _ (pj_O (1000000 + v, 0) :: st) _ hd h)
      unfold mj_xr
      dsimp only
      rw [(hS ix v e).1]
      dsimp only
      rw [if_pos b2]
      rfl
  -- arithmetic of ints
  · rcases hk with hk | hk
    · cases hk
    subst hk
    obtain ⟨x, y, r, e, h⟩ := pj_i2_inv h
    rw [e]
    exact pj_g_op h1 rfl rfl rfl (hn _ (_ :: r) _ hd h)
  · rcases hk with hk | hk
    · cases hk
    subst hk
    obtain ⟨x, y, r, e, h⟩ := pj_i2_inv h
    rw [e]
    exact pj_g_op h1 rfl rfl rfl (hn _ (_ :: r) _ hd h)
  · rcases hk with hk | hk
    · cases hk
    subst hk
    obtain ⟨x, y, r, e, h⟩ := pj_i2_inv h
    rw [e]
    exact pj_g_op h1 rfl rfl rfl (hn _ (_ :: r) _ hd h)
  · rcases hk with hk | hk
    · cases hk
    subst hk
    obtain ⟨x, y, r, e, hy, h⟩ := pj_dv_inv h
    rw [e]
    exact pj_g_op h1 rfl rfl (if_neg hy) (hn _ (_ :: r) _ hd h)
  · rcases hk with hk | hk
    · cases hk
    subst hk
    obtain ⟨x, y, r, e, hy, h⟩ := pj_dv_inv h
    rw [e]
    exact pj_g_op h1 rfl rfl (if_neg hy) (hn _ (_ :: r) _ hd h)
  · rcases hk with hk | hk
    · cases hk
    subst hk
    obtain ⟨x, y, r, e, h⟩ := pj_i2_inv h
    rw [e]
    exact pj_g_op h1 rfl rfl rfl (hn _ (_ :: r) _ hd h)
  · rcases hk with hk | hk
    · cases hk
    subst hk
    obtain ⟨x, y, r, e, h⟩ := pj_i2_inv h
    rw [e]
    exact pj_g_op h1 rfl rfl rfl (hn _ (_ :: r) _ hd h)
  · rcases hk with hk | hk
    · cases hk
    subst hk
    obtain ⟨x, y, r, e, h⟩ := pj_i2_inv h
    rw [e]
    exact pj_g_op h1 rfl rfl rfl (hn _ (_ :: r) _ hd h)
  · rcases hk with hk | hk
    · cases hk
    subst hk
    obtain ⟨x, y, r, e, h⟩ := pj_i2_inv h
    rw [e]
    exact pj_g_op h1 rfl rfl rfl (hn _ (_ :: r) _ hd h)
  · rcases hk with hk | hk
    · cases hk
    subst hk
    obtain ⟨x, y, r, e, h⟩ := pj_i2_inv h
    rw [e]
    exact pj_g_op h1 rfl rfl rfl (hn _ (_ :: r) _ hd h)
  · rcases hk with hk | hk
    · cases hk
    subst hk
    obtain ⟨x, y, r, e, h⟩ := pj_i2_inv h
    rw [e]
    exact pj_g_op h1 rfl rfl rfl (hn _ (_ :: r) _ hd h)
  -- ineg
  · rcases hk with hk | hk
    · cases hk
    subst hk
    obtain ⟨x, r, e, h⟩ := pj_i1_inv h
    rw [e]
    exact pj_g_op h1 rfl rfl rfl (hn _ (_ :: r) _ hd h)
  -- i2l
  · rcases hk with hk | hk
    · cases hk
    subst hk
    rcases st with - | ⟨v, r⟩
    · cases h
    rcases v with x | x | m | m | q | q
    · exact pj_g_op h1 rfl rfl rfl (hn _ (pj_L x.toInt64 :: r) _ hd h)
    · cases h
    · obtain ⟨b, h⟩ := pj_if_inv h
      obtain ⟨b1, b2⟩ := (Bool.and_eq_true _ _).mp b
      refine pj_g_op h1 rfl rfl (st' := pj_e (pj_M m) :: pj_es r) ?_ (hn _ (pj_M m :: r) _ hd h)
      show some (1, Value.long (Int32.ofInt m).toInt64 :: pj_es r) = _
      rw [Int32.toInt64_ofInt (show Int32.minValue.toInt ≤ m from of_decide_eq_true b1) (show m ≤ Int32.maxValue.toInt from of_decide_eq_true b2)]
      rfl
    · cases h
    · cases h
    · cases h
  -- i2s, i2b, i2c
  · rcases hk with hk | hk
    · cases hk
    subst hk
    obtain ⟨x, r, e, h⟩ := pj_i1_inv h
    rw [e]
    exact pj_g_op h1 rfl rfl rfl (hn _ (_ :: r) _ hd h)
  · rcases hk with hk | hk
    · cases hk
    subst hk
    obtain ⟨x, r, e, h⟩ := pj_i1_inv h
    rw [e]
    exact pj_g_op h1 rfl rfl rfl (hn _ (_ :: r) _ hd h)
  · rcases hk with hk | hk
    · cases hk
    subst hk
    obtain ⟨x, r, e, h⟩ := pj_i1_inv h
    rw [e]
    exact pj_g_op h1 rfl rfl rfl (hn _ (_ :: r) _ hd h)
  -- l2i
  · rcases hk with hk | hk
    · cases hk
    subst hk
    rcases st with - | ⟨v, r⟩
    · cases h
    obtain ⟨x, hx, h⟩ := pj_vl_inv h
    refine pj_g_op h1 rfl rfl (st' := pj_e (pj_I x.toInt32) :: pj_es r) ?_ (hn _ (pj_I x.toInt32 :: r) _ hd h)
    show mj_l1 _ (pj_e v :: pj_es r) = _
    rw [hx]
    rfl
  -- arithmetic of longs
  · rcases hk with hk | hk
    · cases hk
    subst hk
    obtain ⟨x, y, r, e, h⟩ := pj_l2_inv h
    rw [e]
    exact pj_g_op h1 rfl rfl rfl (hn _ (_ :: r) _ hd h)
  · rcases hk with hk | hk
    · cases hk
    subst hk
    obtain ⟨x, y, r, e, h⟩ := pj_l2_inv h
    rw [e]
    exact pj_g_op h1 rfl rfl rfl (hn _ (_ :: r) _ hd h)
  · rcases hk with hk | hk
    · cases hk
    subst hk
    obtain ⟨x, y, r, e, h⟩ := pj_l2_inv h
    rw [e]
    exact pj_g_op h1 rfl rfl rfl (hn _ (_ :: r) _ hd h)
  · rcases hk with hk | hk
    · cases hk
    subst hk
    obtain ⟨x, y, r, e, h⟩ := pj_l2_inv h
    rw [e]
    exact pj_g_op h1 rfl rfl rfl (hn _ (_ :: r) _ hd h)
  · rcases hk with hk | hk
    · cases hk
    subst hk
    obtain ⟨x, y, r, e, h⟩ := pj_l2_inv h
    rw [e]
    exact pj_g_op h1 rfl rfl rfl (hn _ (_ :: r) _ hd h)
  · rcases hk with hk | hk
    · cases hk
    subst hk
    obtain ⟨x, y, r, e, hy, h⟩ := pj_dvl_inv h
    rw [e]
    exact pj_g_op h1 rfl rfl (if_neg hy) (hn _ (_ :: r) _ hd h)
  · rcases hk with hk | hk
    · cases hk
    subst hk
    obtain ⟨x, y, r, e, hy, h⟩ := pj_dvl_inv h
    rw [e]
    exact pj_g_op h1 rfl rfl (if_neg hy) (hn _ (_ :: r) _ hd h)
  -- lshl, lshr
  · rcases hk with hk | hk
    · cases hk
    subst hk
    rcases st with - | ⟨w, - | ⟨v, r⟩⟩
    · cases h
    · cases h
    obtain ⟨x, hx, h⟩ := pj_vl_inv h
    obtain ⟨y, hy, h⟩ := pj_vi_inv h
    refine pj_g_op h1 rfl rfl (st' := _ :: pj_es r) ?_ (hn _ (_ :: r) _ hd h)
    show mj_li _ (pj_e w :: pj_e v :: pj_es r) = _
    rw [hx, hy]
    rfl
  · rcases hk with hk | hk
    · cases hk
    subst hk
    rcases st with - | ⟨w, - | ⟨v, r⟩⟩
    · cases h
    · cases h
    obtain ⟨x, hx, h⟩ := pj_vl_inv h
    obtain ⟨y, hy, h⟩ := pj_vi_inv h
    refine pj_g_op h1 rfl rfl (st' := _ :: pj_es r) ?_ (hn _ (_ :: r) _ hd h)
    show mj_li _ (pj_e w :: pj_e v :: pj_es r) = _
    rw [hx, hy]
    rfl
  -- dup, pop, dup2
  · rcases hk with hk | hk
    · cases hk
    subst hk
    rcases st with - | ⟨v, r⟩
    · cases h
    obtain ⟨b, h⟩ := pj_if_inv h
    refine pj_g_op h1 rfl rfl (st' := pj_es (v :: v :: r)) ?_ (hn _ _ _ hd h)
    show mj_dup (pj_e v :: pj_es r) = _
    exact if_pos (pj_lg_f (by simpa using b))
  · rcases hk with hk | hk
    · cases hk
    subst hk
    rcases st with - | ⟨v, r⟩
    · cases h
    obtain ⟨b, h⟩ := pj_if_inv h
    refine pj_g_op h1 rfl rfl (st' := pj_es r) ?_ (hn _ _ _ hd h)
    show mj_pop (pj_e v :: pj_es r) = _
    exact if_pos (pj_lg_f (by simpa using b))
  · rcases hk with hk | hk
    · cases hk
    subst hk
    rcases st with - | ⟨v, - | ⟨w, r⟩⟩
    · cases h
    · cases h
    obtain ⟨b, h⟩ := pj_if_inv h
    obtain ⟨b1, b2⟩ := (Bool.and_eq_true _ _).mp b
    refine pj_g_op h1 rfl rfl (st' := pj_es (v :: w :: v :: w :: r)) ?_ (hn _ _ _ hd h)
    show mj_dup2 (pj_e v :: pj_e w :: pj_es r) = _
    exact if_pos ⟨pj_lg_f (by simpa using b1), pj_lg_f (by simpa using b2)⟩
  -- lcmp
  · rcases hk with hk | hk
    · cases hk
    subst hk
    obtain ⟨x, y, r, e, h⟩ := pj_l2_inv h
    rw [e]
    rcases r9 with - | ⟨⟨p9, i9, k9⟩, r9⟩
    · cases h
    obtain ⟨-, ⟨h2, hk2, ht2⟩, -⟩ := hr
    dsimp only at h h2 hk2 ht2
    split at h
    · rename_i kk off _h9
      rcases hk2 with hk2 | hk2
      · cases hk2
      subst hk2
      have h2 : mj_lk Y.2.2.2.2 (pc + 1) = some (.ifCond kk off, 3) := h2
      have ht2 : 0 ≤ ((pc + 1 : Nat) : Int) + off := of_decide_eq_true ht2
      refine pj_g_op h1 rfl rfl (st' := .int (lg_cmp x y) :: pj_es r) rfl ?_
      show pj_Gd P Rel j Y OK lf (pc + 1) (pj_el lv) (.int (lg_cmp x y) :: pj_es r) z a
      refine pj_s_br (z := z) (off := off) (b := mj_c kk (lg_cmp x y) 0) (st' := pj_es r) h2 rfl rfl rfl ?_ ht2 (pj_ifl_inv h) (fun h => ?_) (fun h => hK _ _ _ _ hd h)
      · unfold mj_br
        dsimp only
        rw [if_pos rfl]
      · obtain ⟨t, e1, e2⟩ := pj_to_inv h
        rw [e1]
        exact hK _ _ _ _ hd e2
    · cases h
  -- tableswitch
  · rename_i d lo hi offs
    obtain ⟨x, r, e, h⟩ := pj_i1_inv h
    rw [e]
    obtain ⟨b, h⟩ := pj_if_inv h
    simp only [Bool.and_eq_true] at b
    obtain ⟨b1, b2, b3⟩ := b
    have b3 : hi + 1 = lo + (offs.toList.length : Nat) := eq_of_beq b3
    have c1 := of_decide_eq_true b1.1
    have c2 := of_decide_eq_true b2.2
    have go : ∀ off, mj_br (.tableswitch d lo hi offs) k pc (.int x :: pj_es r) = mj_go pc off true (pj_es r) → pj_to pc off (fun t => K t lv r z) = some a → pj_Gd P Rel j Y OK lf pc (pj_el lv) (.int x :: pj_es r) z a := by
      intro off hb h
      obtain ⟨t, e1, e2⟩ := pj_to_inv h
      refine pj_g_br h1 rfl rfl rfl (st' := pj_es r) (pc' := t) ?_ (hK _ _ _ _ hd e2)
      rw [hb, pj_br_go (A := A) (by omega), e1]
      rfl
    rcases pj_ts_inv offs.toList lo c1 (by omega) h with ⟨m, off, g1, g2, g3⟩ | ⟨g1, g2⟩
    · refine go off ?_ g3
      have gl : m < offs.toList.length := (List.getElem?_eq_some_iff.mp g1).1
      show (if x.toInt < lo ∨ hi < x.toInt then _ else _) = _
      rw [if_neg (by omega)]
      have : (x.toInt - lo).toNat = m := by omega
      rw [this]
      have g1 : offs[m]? = some off := by rw [← Array.getElem?_toList]; exact g1
      rw [g1]
    · refine go d ?_ g2
      show (if x.toInt < lo ∨ hi < x.toInt then _ else _) = _
      rw [if_pos (by omega)]
  -- lookupswitch
  · rename_i d ps
    obtain ⟨x, r, e, h⟩ := pj_i1_inv h
    rw [e]
    obtain ⟨b, h⟩ := pj_if_inv h
    obtain ⟨b1, b2⟩ := (Bool.and_eq_true _ _).mp b
    have h := pj_lo_inv (k := fun off => pj_to pc off (fun t => K t lv r z)) ps.toList b1 h
    obtain ⟨t, e1, e2⟩ := pj_to_inv h
    refine pj_g_br h1 rfl rfl rfl (st' := pj_es r) (pc' := t) ?_ (hK _ _ _ _ hd e2)
    show (if _ then _ else _) = _
    rw [if_pos b2, pj_br_go (A := A) (by omega), e1]
    rfl
  · cases h
theorem pj_bl_ok {c : pj_C A} (hc : pj_Cok P Rel j Y OK lf c) {K : Nat → pj_K A} {a : A} (hK : ∀ t lv st z, mj_nd (pj_el lv) → K t lv st z = some a → pj_Gd P Rel j Y OK lf t (pj_el lv) (pj_es st) z a) : ∀ (l : List (Nat × Instr × Nat)) (pc : Nat) (lv : List (Nat × pj_V)) (st : List pj_V) (z : pj_Z), pj_bk Y.2.2.2.2 l pc → mj_nd (pj_el lv) → pj_bl c K l pc lv st z = some a → pj_Gd P Rel j Y OK lf pc (pj_el lv) (pj_es st) z a := by
  intro l
  induction l with
  | nil => intro pc lv st z _ hd h; exact hK _ _ _ _ hd h
  | cons q r ih =>
    intro pc lv st z hb hd h
    obtain ⟨h1, h2, h3⟩ := hb
    exact pj_st_ok hc h2 h3 hd (fun lv st z hd h => ih _ _ _ _ h3 hd h) hK h
theorem pj_rn_ok {c : pj_C A} (hc : pj_Cok P Rel j Y OK lf c) {B : Nat → Option (List (Nat × Instr × Nat))} {E : Nat → Option (pj_K A)} {a : A} (hB : ∀ pc b, B pc = some b → pj_bk Y.2.2.2.2 b pc) (hE : ∀ pc f, E pc = some f → ∀ lv st z, mj_nd (pj_el lv) → f lv st z = some a → pj_Gd P Rel j Y OK lf pc (pj_el lv) (pj_es st) z a) : ∀ (n t : Nat) (lv : List (Nat × pj_V)) (st : List pj_V) (z : pj_Z), mj_nd (pj_el lv) → pj_rn c B E n t lv st z = some a → pj_Gd P Rel j Y OK lf t (pj_el lv) (pj_es st) z a := by
  intro n
  induction n with
  | zero => intro t lv st z _ h; cases h
  | succ n ih =>
    intro t lv st z hd h
    replace h : (match E t with
      | some f => f lv st z
      | none => match B t with
        | some b => pj_bl c (pj_rn c B E n) b t lv st z
        | none => none) = some a := h
    cases e : E t with
    | some f => rw [e] at h; exact hE t f e lv st z hd h
    | none =>
      rw [e] at h
      cases e2 : B t with
      | none => rw [e2] at h; cases h
      | some b =>
        rw [e2] at h
        exact pj_bl_ok hc (fun t lv st z hd h => ih t lv st z hd h) b t lv st z (hB t b e2) hd h
end PJS2

/-! THE RUNNER, 4: what it gives is what the small machine comes to -/
/-- lf makes a memory of numbered variables, as the table of cells T says -/
def pj_Lt (T : Nat → Option pj_E) (lf : pj_Z → mj_M) : Prop := (∀ z, (lf z).1.length ≤ 1000000) ∧ ∀ (b : Nat) (e : pj_E), T b = some e →
  (0 < e.2.2.1 ∧ ∀ z n, n < e.2.2.1 → (lf z).1[b + n]? = some (e.1, e.2.1)) ∧
  (∀ z n i, (e.1 = 100 ∨ e.1 = 102) → n < e.2.2.1 → i < e.2.1 → (lf z).2.1 (b + n) i = pj_si e.2.2.2.2.1 z (pj_ei e n i) ∧ ∀ x, lf (pj_wi e.2.2.2.2.1 z (pj_ei e n i) x) = ((lf z).1, mj_u (lf z).2.1 (b + n) i x, (lf z).2.2)) ∧
  (∀ z n i, e.1 = 101 → n < e.2.2.1 → i < e.2.1 → (lf z).2.2.1 (b + n) i = pj_sl e.2.2.2.2.1 z (pj_ei e n i) ∧ ∀ x, lf (pj_wl e.2.2.2.2.1 z (pj_ei e n i) x) = ((lf z).1, (lf z).2.1, mj_u (lf z).2.2.1 (b + n) i x, (lf z).2.2.2)) ∧
  (∀ z n i, (e.1 = 103 ∨ e.1 = 104) → n < e.2.2.1 → i < e.2.1 → (lf z).2.2.2 (b + n) i = some (e.2.2.2.2.2.1 + i)) ∧
  (∀ z f w, e.1 < 100 → pj_nth e.2.2.2.2.2.2 f = some w → (w.1 = 2 → (lf z).2.2.2 b f = some w.2) ∧ ∀ fg : Bool, w.1 = (if fg = true then 0 else 1) → (lf z).2.1 b f = pj_si fg z w.2 ∧ (lf z).2.2.1 b f = pj_sl fg z w.2 ∧ (∀ x, lf (pj_wi fg z w.2 x) = ((lf z).1, mj_u (lf z).2.1 b f x, (lf z).2.2)) ∧ (∀ x, lf (pj_wl fg z w.2 x) = ((lf z).1, (lf z).2.1, mj_u (lf z).2.2.1 b f x, (lf z).2.2.2))) ∧
  (∀ z n dp m g w, e.1 = 100 → n < e.2.2.1 → e.2.2.2.1 ≤ 1 → dp + m ≤ e.2.1 → lf (pj_yi e.2.2.2.2.1 z (pj_ei e n dp) m g w) = ((lf z).1, mj_uR (lf z).2.1 (b + n) (va_cpy (fun i => g (w + i)) ((lf z).2.1 (b + n)) 0 dp m), (lf z).2.2)) ∧
  (∀ z n dp m g w, e.1 = 101 → n < e.2.2.1 → e.2.2.2.1 ≤ 1 → dp + m ≤ e.2.1 → lf (pj_yl e.2.2.2.2.1 z (pj_ei e n dp) m g w) = ((lf z).1, (lf z).2.1, mj_uR (lf z).2.2.1 (b + n) (va_cpy (fun i => g (w + i)) ((lf z).2.2.1 (b + n)) 0 dp m), (lf z).2.2.2))
def pj_rt (n : Nat) : Option FieldType := match n with
  | 0 => none
  | 1 => some .int
  | 2 => some .boolean
  | _ => some .long
theorem pj_len_of {M : mj_M} {o kd n : Nat} (h : M.1[o]? = some (kd, n)) : mj_len M kd o = some n := by
  unfold mj_len
  rw [h]
  dsimp only
  rw [if_pos rfl]
theorem pj_len_none {M : mj_M} {o kd : Nat} (h : M.1[o]? = none) : mj_len M kd o = none := by
  unfold mj_len
  rw [h]
theorem pj_len_ne {M : mj_M} {o kd kd' n : Nat} (h : M.1[o]? = some (kd, n)) (hn : kd ≠ kd') : mj_len M kd' o = none := by
  unfold mj_len
  rw [h]
  dsimp only
  rw [if_neg hn]
section PJS
variable {A : Type} {P : mj_P} {Rel : Nat → List Value → mj_M → Option Value → mj_M → Prop} {j : Nat} {Y : mj_Y} {OK : A → Option Value → mj_M → Prop} {lf : pj_Z → mj_M}
/-- from there on the method comes to an end, and a is its answer -/
def pj_Gd (P : mj_P) (Rel : Nat → List Value → mj_M → Option Value → mj_M → Prop) (j : Nat) (Y : mj_Y) (OK : A → Option Value → mj_M → Prop) (lf : pj_Z → mj_M) (pc : Nat) (lv : List (Nat × Value)) (st : List Value) (z : pj_Z) (a : A) : Prop := mj_wp P Rel true j Y (pc, lv, st, lf z) (OK a)
def pj_Cok (P : mj_P) (Rel : Nat → List Value → mj_M → Option Value → mj_M → Prop) (j : Nat) (Y : mj_Y) (OK : A → Option Value → mj_M → Prop) (lf : pj_Z → mj_M) (c : pj_C A) : Prop :=
  pj_Lt c.1 lf ∧ (∀ ix f, c.2.1 ix = some f → mj_pF P j ix = some f) ∧ (∀ ix v, c.2.2.1 ix = some v → mj_pK P j ix = some (Int32.ofInt v)) ∧ (∀ ix v, c.2.2.2.1 ix = some v → mj_pL P j ix = some (Int64.ofInt v)) ∧ (∀ ix v, c.2.2.2.2.1 ix = some v → mj_pS P j ix = some v ∧ (1000000 ≤ v → mj_pK P j ix = none)) ∧ c.2.2.2.2.2.1 = mj_pX P ∧ c.2.2.2.2.2.2.1 = Y.2.2.1 ∧ (c.2.2.2.2.2.2.2.1 ≤ 3 ∧ pj_rt c.2.2.2.2.2.2.2.1 = Y.2.2.2.1) ∧ (∀ v z a, c.2.2.2.2.2.2.2.2.1 v z = some a → OK a (v.map pj_e) (lf z)) ∧
  (∀ pc h, c.2.2.2.2.2.2.2.2.2.1 pc = some h → ∀ i, mj_lk Y.2.2.2.2 pc = some (i, 3) → ∀ lv st z K a, (∀ st z, K st z = some a → pj_Gd P Rel j Y OK lf (pc + 3) lv (pj_es st) z a) → h st z K = some a → pj_Gd P Rel j Y OK lf pc lv (pj_es st) z a) ∧
  (∀ ix, c.2.2.2.2.2.2.2.2.2.2 ix = true → mj_pC P j ix = true)
theorem pj_br_go {A : Type} {pc : Nat} {off : Int} {b : Bool} {st : List Value} (h : 0 ≤ (pc : Int) + off) : mj_go pc off b st = some (bif b then ((pc : Int) + off).toNat else pc + 3, st) := by
  unfold mj_go
  rw [if_pos h]
/-- a jump that is asked -/
theorem pj_s_br {pc k : Nat} {i : Instr} {off : Int} {b : Bool} {lv : List (Nat × Value)} {st st' : List Value} {z : pj_Z} {a : A} {p q : Option A} (h1 : mj_lk Y.2.2.2.2 pc = some (i, k)) (n1 : mj_loc i Y.2.2.1 lv st = none) (n2 : mj_hr (mj_pF P j) i (lf z) st = none) (n3 : mj_op i st = none) (hg : mj_br i k pc st = mj_go pc off b st') (ht : 0 ≤ (pc : Int) + off)
    (h : (b = true ∧ p = some a) ∨ (b = false ∧ q = some a)) (gp : p = some a → pj_Gd P Rel j Y OK lf ((pc : Int) + off).toNat lv st' z a) (gq : q = some a → pj_Gd P Rel j Y OK lf (pc + 3) lv st' z a) : pj_Gd P Rel j Y OK lf pc lv st z a := by
  rcases h with ⟨rfl, h⟩ | ⟨rfl, h⟩
  · exact pj_g_br h1 n1 n2 n3 (hg.trans (pj_br_go (A := A) ht)) (gp h)
  · exact pj_g_br h1 n1 n2 n3 (hg.trans (pj_br_go (A := A) ht)) (gq h)
/-- System.arraycopy -/
theorem pj_vn_inv {A : Type} {a : A} {v : pj_V} {k : Int32 → Nat → Option A} (h : pj_vn v k = some a) : ∃ x : Int32, pj_e v = .int x ∧ k x x.toNatClampNeg = some a := by
  rcases v with x | x | m | m | q | q
  · exact ⟨x, rfl, h⟩
  · cases h
  · cases m with
    | ofNat i =>
      obtain ⟨h1, h2⟩ := pj_if_inv (show pj_if (Nat.ble i 1000000) (k (Int32.ofInt (.ofNat i)) i) = some a from h)
      refine ⟨_, rfl, ?_⟩
      rw [(pj_ofn (m := i) (Nat.le_of_ble_eq_true h1)).1]
      exact h2
    | negSucc i => cases h
  · cases h
  · cases h
  · cases h
theorem pj_c_inv {A : Type} {a : A} {sp dp n : Int32} {l1 l2 : Nat} {k : Option A} (h : pj_c sp dp n l1 l2 k = some a) : ¬ sp < 0 ∧ ¬ dp < 0 ∧ ¬ n < 0 ∧ sp.toNatClampNeg + n.toNatClampNeg ≤ l1 ∧ dp.toNatClampNeg + n.toNatClampNeg ≤ l2 ∧ k = some a := by
  unfold pj_c at h
  split at h
  · cases h
  · rename_i hc
    refine ⟨fun q => hc (Or.inl q), fun q => hc (Or.inr (Or.inl q)), fun q => hc (Or.inr (Or.inr (Or.inl q))), ?_, ?_, h⟩
    · exact Nat.not_lt.mp (fun q => hc (Or.inr (Or.inr (Or.inr (Or.inl q)))))
    · exact Nat.not_lt.mp (fun q => hc (Or.inr (Or.inr (Or.inr (Or.inr q)))))
theorem pj_cn_inv {A : Type} {a : A} {sp dp n : pj_V} {l1 l2 : Nat} {k : Nat → Nat → Nat → Option A} (h : pj_cn sp dp n l1 l2 k = some a) : ∃ x y m : Int32, pj_e sp = .int x ∧ pj_e dp = .int y ∧ pj_e n = .int m ∧ ¬ x < 0 ∧ ¬ y < 0 ∧ ¬ m < 0 ∧ x.toNatClampNeg + m.toNatClampNeg ≤ l1 ∧ y.toNatClampNeg + m.toNatClampNeg ≤ l2 ∧ k x.toNatClampNeg y.toNatClampNeg m.toNatClampNeg = some a := by
  obtain ⟨x, hx, h⟩ := pj_vn_inv h
  obtain ⟨y, hy, h⟩ := pj_vn_inv h
  obtain ⟨m, hm, h⟩ := pj_vn_inv h
  obtain ⟨c1, c2, c3, c4, c5, h⟩ := pj_c_inv h
  exact ⟨x, y, m, hx, hy, hm, c1, c2, c3, c4, c5, h⟩
theorem pj_sum_eq : ∀ (st : List pj_V), ((pj_es st).map fun v => v.category).sum = pj_sum st := by
  intro st
  induction st with
  | nil => rfl
  | cons v r ih =>
    show (pj_e v).category + ((pj_es r).map fun v => v.category).sum = _
    rw [ih]
    rcases v with x | x | n | n | q | q <;> rfl
theorem pj_xo_inv {X : mj_XT} {v : pj_V} {q : Nat × (Nat → Int32)} (h : pj_xo X v = some q) : ∃ o, pj_e v = .ref o ∧ 1000000 ≤ o ∧ mj_xa X o = some q := by
  rcases v with x | x | n | n | p | p
  · cases h
  · cases h
  · cases h
  · cases h
  · replace h : (match Nat.ble 1000000 p.1 && p.2 == 0 with
    | true => (match pj_nth X.1 (p.1 - 1000000) with
      | some e => some e.2.2.2
      | none => none)
    | false => none) = some q := h
    cases e : (Nat.ble 1000000 p.1 && p.2 == 0) with
    | false => rw [e] at h; cases h
    | true =>
      rw [e] at h
      obtain ⟨h1, h2⟩ := (Bool.and_eq_true _ _).mp e
      have h1 : 1000000 ≤ p.1 := Nat.le_of_ble_eq_true h1
      have h2 : p.2 = 0 := eq_of_beq h2
      refine ⟨p.1, by show Value.ref (p.1 + p.2) = _; rw [h2]; rfl, h1, ?_⟩
      unfold mj_xa
      rw [if_pos h1, ← pj_nth_eq]
      cases e9 : pj_nth X.1 (p.1 - 1000000) with
      | none => rw [e9] at h; cases h
      | some w => rw [e9] at h; exact h
  · cases h
theorem pj_ei_add {e : pj_E} (hm : e.2.2.2.1 ≤ 1) (n i m : Nat) : pj_ei e n (i + m) = pj_ei e n i + m := by
  obtain ⟨e1, e2, e3, e4, e5, e6, e7⟩ := e
  dsimp only at hm
  rcases e4 with - | - | e4
  · exact (Nat.add_assoc _ _ _).symm
  · exact (Nat.add_assoc _ _ _).symm
  · omega
theorem pj_cpy_eq {α : Type} {f g h : Nat → α} {sp dp m : Nat} (he : ∀ i, i < m → f (sp + i) = h i) : va_cpy f g sp dp m = va_cpy h g 0 dp m := by
  funext i
  unfold va_cpy
  split
  · rename_i hc
    rw [Nat.zero_add]
    exact he _ (by omega)
  · rfl
theorem pj_cw_no {A : Type} {a : A} {e e' : pj_E} {i i' sp dp n : Nat} {z : pj_Z} {k : pj_Z → Option A} (k1 : ¬ e'.1 = 100) (k2 : ¬ e'.1 = 101) (h : pj_cw e e' i i' sp dp n z k = some a) : False := by
  unfold pj_cw at h
  split at h
  all_goals first
    | exact k1 (by assumption)
    | exact k2 (by assumption)
    | cases h
theorem pj_s_cp {c : pj_C A} (hc : pj_Cok P Rel j Y OK lf c) {pc k ix : Nat} {lv : List (Nat × Value)} {st : List pj_V} {z : pj_Z} {nx : List pj_V → pj_Z → Option A} {a : A} (h1 : mj_lk Y.2.2.2.2 pc = some (.invokestatic ix, 3)) (hx : c.2.2.2.2.2.2.2.2.2.2 ix = true)
    (hn : ∀ st z, nx st z = some a → pj_Gd P Rel j Y OK lf (pc + 3) lv (pj_es st) z a) (h : pj_cp c st z nx = some a) : pj_Gd P Rel j Y OK lf pc lv (pj_es st) z a := by
  obtain ⟨⟨hL0, hL⟩, -, -, -, -, hX, -, -, -, -, hA⟩ := hc
  have hA := hA ix hx
  rcases st with - | ⟨n, - | ⟨dp, - | ⟨w, - | ⟨sp, - | ⟨v, r⟩⟩⟩⟩⟩
  · cases h
  · cases h
  · cases h
  · cases h
  · cases h
  obtain ⟨hs, h⟩ := pj_if_inv (show pj_if (Nat.ble (pj_sum r) 8) _ = some a from h)
  have hs : ¬ 8 < ((pj_es r).map fun v => v.category).sum := by
    rw [pj_sum_eq]
    exact Nat.not_lt.mpr (Nat.le_of_ble_eq_true hs)
  have fin : ∀ (o o' : Nat) (x y m : Int32) (M' : mj_M), pj_e v = .ref o → pj_e w = .ref o' → pj_e sp = .int x → pj_e dp = .int y → pj_e n = .int m → ¬ x < 0 → ¬ y < 0 → ¬ m < 0 → mj_cpw (lf z) (mj_pX P) o o' x.toNatClampNeg y.toNatClampNeg m.toNatClampNeg = some M' → (∃ z', M' = lf z' ∧ nx r z' = some a) → pj_Gd P Rel j Y OK lf pc lv (pj_es (n :: dp :: w :: sp :: v :: r)) z a := by
    intro o o' x y m M' ev ew es ed en c1 c2 c3 hcp ⟨z', e1, e2⟩
    refine pj_g_cp (st' := pj_es r) (M' := M') h1 ?_ (by rw [e1]; exact hn _ _ e2)
    show mj_cp (mj_pX P) (mj_pC P j) (.invokestatic ix) (lf z) (pj_e n :: pj_e dp :: pj_e w :: pj_e sp :: pj_e v :: pj_es r) = _
    rw [ev, ew, es, ed, en]
    unfold mj_cp
    dsimp only
    rw [hA]
    dsimp only [cond_true]
    rw [if_neg (fun q => q.elim c1 (fun q => q.elim c2 (fun q => q.elim c3 hs))), hcp]
    rfl
  cases ex : pj_xo c.2.2.2.2.2.1 v with
  | some q =>
    rw [ex] at h
    obtain ⟨o, eo, ho, hq⟩ := pj_xo_inv ex
    rw [hX] at hq
    obtain ⟨b', n', e', ew, ht', hn', h⟩ := pj_vr_inv h
    obtain ⟨hm, h⟩ := pj_if_inv h
    obtain ⟨hm, hk⟩ := (Bool.and_eq_true _ _).mp hm
    have hk : e'.1 = 100 := eq_of_beq hk
    have hm : e'.2.2.2.1 ≤ 1 := Nat.le_of_ble_eq_true hm
    obtain ⟨x, y, m, es, ed, en, c1, c2, c3, c4, c5, h⟩ := pj_cn_inv h
    obtain ⟨⟨-, l1⟩, -, -, -, -, l6, -⟩ := hL b' e' ht'
    refine fin o (b' + n') x y m _ eo ew es ed en c1 c2 c3 ?_ ⟨_, rfl, h⟩
    rw [l6 z n' _ _ _ _ hk hn' hm c5]
    unfold mj_cpw
    have e1 := pj_len_of (l1 z n' hn')
    rw [hk] at e1
    have e2 : (lf z).1[o]? = none := List.getElem?_eq_none (Nat.le_trans (hL0 z) ho)
    rw [e1, pj_len_none e2, hq]
    refine mj_or_r rfl (mj_or_l ?_)
    dsimp only
    rw [if_pos ⟨c4, c5⟩, pj_cpy_eq (fun i _ => rfl)]
  | none =>
    rw [ex] at h
    obtain ⟨b, i, e, ev, ht, hi, h⟩ := pj_vr_inv h
    obtain ⟨b', i', e', ew, ht', hi', h⟩ := pj_vr_inv h
    obtain ⟨hm, h⟩ := pj_if_inv h
    simp only [Bool.and_eq_true] at hm
    obtain ⟨hm, hm', hk⟩ := hm
    have hk : e.1 = e'.1 := eq_of_beq hk
    have hm : e.2.2.2.1 ≤ 1 := Nat.le_of_ble_eq_true hm
    have hm' : e'.2.2.2.1 ≤ 1 := Nat.le_of_ble_eq_true hm'
    obtain ⟨x, y, m, es, ed, en, c1, c2, c3, c4, c5, h⟩ := pj_cn_inv h
    obtain ⟨⟨-, l1⟩, l2, l3, -⟩ := hL b e ht
    obtain ⟨⟨-, l1'⟩, -, -, -, -, l6, l7⟩ := hL b' e' ht'
    have g1 := pj_len_of (l1 z i hi)
    have g2 := pj_len_of (l1' z i' hi')
    by_cases k1 : e'.1 = 100
    · have h : nx r (pj_yi e'.2.2.2.2.1 z (pj_ei e' i' y.toNatClampNeg) m.toNatClampNeg (pj_fi e.2.2.2.2.1 z) (pj_ei e i x.toNatClampNeg)) = some a := by
        obtain ⟨e1', e2'⟩ := e'
        dsimp only at k1
        subst k1
        exact h
      refine fin (b + i) (b' + i') x y m _ ev ew es ed en c1 c2 c3 ?_ ⟨_, rfl, h⟩
      rw [l6 z i' _ _ _ _ k1 hi' hm' c5]
      rw [hk] at g1
      rw [k1] at g1 g2
      unfold mj_cpw
      refine mj_or_l ?_
      rw [g1, g2]
      dsimp only
      rw [if_pos ⟨c4, c5⟩, pj_cpy_eq (fun i9 h9 => ?_)]
      have := (l2 z i (x.toNatClampNeg + i9) (Or.inl (hk.trans k1)) hi (by omega)).1
      rw [this, pj_ei_add hm]
      cases e.2.2.2.2.1 <;> rfl
    · by_cases k2 : e'.1 = 101
      · have h : nx r (pj_yl e'.2.2.2.2.1 z (pj_ei e' i' y.toNatClampNeg) m.toNatClampNeg (pj_fl e.2.2.2.2.1 z) (pj_ei e i x.toNatClampNeg)) = some a := by
          obtain ⟨e1', e2'⟩ := e'
          dsimp only at k2
          subst k2
          exact h
        refine fin (b + i) (b' + i') x y m _ ev ew es ed en c1 c2 c3 ?_ ⟨_, rfl, h⟩
        rw [l7 z i' _ _ _ _ k2 hi' hm' c5]
        have g3 : mj_len (lf z) 100 (b' + i') = none := pj_len_ne (l1' z i' hi') k1
        have g4 : mj_len (lf z) 100 (b + i) = none := pj_len_ne (l1 z i hi) (by rw [hk]; exact k1)
        rw [hk] at g1
        rw [k2] at g1 g2
        unfold mj_cpw
        rw [g1, g2, g3, g4]
        refine mj_or_r rfl (mj_or_r (by split <;> first | rfl | (rename_i q9; cases q9)) ?_)
        dsimp only
        rw [if_pos ⟨c4, c5⟩, pj_cpy_eq (fun i9 h9 => ?_)]
        have := (l3 z i (x.toNatClampNeg + i9) (hk.trans k2) hi (by omega)).1
        rw [this, pj_ei_add hm]
        cases e.2.2.2.2.1 <;> rfl
      · exact (pj_cw_no k1 k2 h).elim
end PJS

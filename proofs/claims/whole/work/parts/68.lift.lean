/-! THE LIFT: a memory made of numbered variables, by a table of cells -/
def pj_fr : List (Nat × pj_E) → Nat → Option (Nat × pj_E × Nat)
  | [], _ => none
  | q :: r, o => bif Nat.ble q.1 o && Nat.blt o (q.1 + q.2.2.2.1) then some (q.1, q.2, o - q.1) else pj_fr r o
/-- ints stand in cells of the kinds 100, 102, longs in 101 -/
def pj_kd (lg : Bool) (k : Nat) : Bool := bif lg then k == 101 else (k == 100 || k == 102)
/-- the variable of the place i in the cell o -/
def pj_va (L : List (Nat × pj_E)) (lg : Bool) (o i : Nat) : Option (Bool × Nat) := match pj_fr L o with
  | some q => bif Nat.blt q.2.1.1 100 then (match pj_nth q.2.1.2.2.2.2.2.2 i with
    | some w => bif w.1 == 0 then some (true, w.2) else bif w.1 == 1 then some (false, w.2) else none
    | none => none)
    else bif pj_kd lg q.2.1.1 && Nat.blt i q.2.1.2.1 then some (q.2.1.2.2.2.2.1, pj_ei q.2.1 q.2.2 i) else none
  | none => none
def pj_mi (L : List (Nat × pj_E)) (z : pj_Z) (o i : Nat) : Int32 := match pj_va L false o i with
  | some q => pj_si q.1 z q.2
  | none => 0
def pj_ml (L : List (Nat × pj_E)) (z : pj_Z) (o i : Nat) : Int64 := match pj_va L true o i with
  | some q => pj_sl q.1 z q.2
  | none => 0
def pj_mr (L : List (Nat × pj_E)) (o i : Nat) : Option Nat := match pj_fr L o with
  | some q => bif Nat.blt q.2.1.1 100 then (match pj_nth q.2.1.2.2.2.2.2.2 i with
    | some w => bif w.1 == 2 then some w.2 else none
    | none => none)
    else bif (q.2.1.1 == 103 || q.2.1.1 == 104) && Nat.blt i q.2.1.2.1 then some (q.2.1.2.2.2.2.2.1 + i) else none
  | none => none
/-- which variables are taken: shared or own, from where on, how many; by which cells, which field -/
def pj_clF (b : Nat) : Nat → List (Nat × Nat) → List (Bool × Nat × Nat × Nat × Nat)
  | _, [] => []
  | i, w :: r => bif Nat.blt w.1 2 then (w.1 == 0, w.2, 1, b, i) :: pj_clF b (i + 1) r else pj_clF b (i + 1) r
def pj_cl1 (q : Nat × pj_E) : List (Bool × Nat × Nat × Nat × Nat) := bif Nat.blt q.2.1 100 then pj_clF q.1 0 q.2.2.2.2.2.2.2 else bif Nat.blt q.2.1 103 then [(q.2.2.2.2.2.1, q.2.2.2.2.2.2.1, q.2.2.2.1 * q.2.2.1, q.1, 0)] else []
def pj_cl (L : List (Nat × pj_E)) : List (Bool × Nat × Nat × Nat × Nat) := L.flatMap pj_cl1
def pj_no (c d : Bool × Nat × Nat × Nat × Nat) : Bool := c.1 != d.1 || (Nat.ble (c.2.1 + c.2.2.1) d.2.1 || Nat.ble (d.2.1 + d.2.2.1) c.2.1)
def pj_dj : List (Bool × Nat × Nat × Nat × Nat) → Bool
  | [] => true
  | c :: r => r.all (pj_no c) && pj_dj r
def pj_eo (o : Option (Nat × pj_E × Nat)) (b : Nat × pj_E × Nat) : Bool := match o with
  | some a => a.1 == b.1 && (a.2.2 == b.2.2 && (a.2.1.1 == b.2.1.1 && (a.2.1.2.1 == b.2.1.2.1 && (a.2.1.2.2.1 == b.2.1.2.2.1 && (a.2.1.2.2.2.1 == b.2.1.2.2.2.1 && (a.2.1.2.2.2.2.1 == b.2.1.2.2.2.2.1 && (a.2.1.2.2.2.2.2.1 == b.2.1.2.2.2.2.2.1 && a.2.1.2.2.2.2.2.2 == b.2.1.2.2.2.2.2.2)))))))
  | none => false
theorem pj_eo_ok {o : Option (Nat × pj_E × Nat)} {b : Nat × pj_E × Nat} (h : pj_eo o b = true) : o = some b := by
  unfold pj_eo at h
  split at h
  · rename_i a
    simp only [Bool.and_eq_true, beq_iff_eq] at h
    obtain ⟨h1, h2, h3, h4, h5, h6, h7, h8, h9⟩ := h
    obtain ⟨a1, ⟨a3, a4, a5, a6, a7, a8, a9⟩, a2⟩ := a
    obtain ⟨b1, ⟨b3, b4, b5, b6, b7, b8, b9⟩, b2⟩ := b
    dsimp only at h1 h2 h3 h4 h5 h6 h7 h8 h9
    rw [h1, h2, h3, h4, h5, h6, h7, h8, h9]
  · cases h
def pj_ck1 (L : List (Nat × pj_E)) (sh : List (Nat × Nat)) (S : Nat → Bool) (q : Nat × pj_E) : Bool :=
  Nat.blt 0 q.2.2.2.1 && ((List.range q.2.2.2.1).all (fun n => decide (sh[q.1 + n]? = some (q.2.1, q.2.2.1)) && (S (q.1 + n) && pj_eo (pj_fr L (q.1 + n)) (q.1, q.2, n))) && ((!(Nat.blt q.2.1 100) || q.2.2.2.1 == 1) && (!(q.2.2.2.2.1 == 0) || q.2.2.2.1 == 1)))
def pj_chk (L : List (Nat × pj_E)) (sh : List (Nat × Nat)) (S : Nat → Bool) : Bool := Nat.ble sh.length 1000000 && (L.all (pj_ck1 L sh S) && pj_dj (pj_cl L))
theorem pj_as_in {α : Type} : ∀ {L : List (Nat × α)} {b : Nat} {e : α}, pj_as L b = some e → (b, e) ∈ L := by
  intro L
  induction L with
  | nil => intro b e h; cases h
  | cons q r ih =>
    intro b e h
    unfold pj_as at h
    cases e9 : (q.1 == b) with
    | true =>
      rw [e9] at h
      cases h
      obtain ⟨q1, q2⟩ := q
      have : q1 = b := eq_of_beq e9
      subst this
      exact List.mem_cons_self
    | false =>
      rw [e9] at h
      exact List.mem_cons_of_mem _ (ih h)
theorem pj_fr_in : ∀ {L : List (Nat × pj_E)} {o b n : Nat} {e : pj_E}, pj_fr L o = some (b, e, n) → (b, e) ∈ L ∧ o = b + n ∧ n < e.2.2.1 := by
  intro L
  induction L with
  | nil => intro o b n e h; cases h
  | cons q r ih =>
    intro o b n e h
    unfold pj_fr at h
    cases e9 : (Nat.ble q.1 o && Nat.blt o (q.1 + q.2.2.2.1)) with
    | true =>
      rw [e9] at h
      dsimp only [cond_true] at h
      cases h
      obtain ⟨h1, h2⟩ := (Bool.and_eq_true _ _).mp e9
      have h1 := Nat.le_of_ble_eq_true h1
      have h2 : o < q.1 + q.2.2.2.1 := by simpa using h2
      exact ⟨List.mem_cons_self, by omega, by omega⟩
    | false =>
      rw [e9] at h
      obtain ⟨g1, g2, g3⟩ := ih h
      exact ⟨List.mem_cons_of_mem _ g1, g2, g3⟩
theorem pj_dj_eq : ∀ {l : List (Bool × Nat × Nat × Nat × Nat)}, pj_dj l = true → ∀ {c d : Bool × Nat × Nat × Nat × Nat} {v : Nat}, c ∈ l → d ∈ l → c.1 = d.1 → c.2.1 ≤ v → v < c.2.1 + c.2.2.1 → d.2.1 ≤ v → v < d.2.1 + d.2.2.1 → c = d := by
  intro l
  induction l with
  | nil => intro _ c d v h; cases h
  | cons a r ih =>
    intro h c d v hc hd e0 e1 e2 e3 e4
    have h := (Bool.and_eq_true _ _).mp (show (r.all (pj_no a) && pj_dj r) = true from h)
    have key : ∀ y ∈ r, pj_no a y = true := fun y hy => List.all_eq_true.mp h.1 y hy
    have no : ∀ x y : Bool × Nat × Nat × Nat × Nat, pj_no x y = true → x.1 = y.1 → x.2.1 ≤ v → v < x.2.1 + x.2.2.1 → y.2.1 ≤ v → v < y.2.1 + y.2.2.1 → False := by
      intro x y hxy f0 f1 f2 f3 f4
      unfold pj_no at hxy
      rw [f0] at hxy
      simp only [bne_self_eq_false, Bool.false_or, Bool.or_eq_true] at hxy
      rcases hxy with q | q
      · have := Nat.le_of_ble_eq_true q; omega
      · have := Nat.le_of_ble_eq_true q; omega
    rcases List.mem_cons.mp hc with k1 | k1
    · rcases List.mem_cons.mp hd with k2 | k2
      · rw [k1, k2]
      · rw [k1] at e0 e1 e2 ⊢
        exact (no _ _ (key _ k2) e0 e1 e2 e3 e4).elim
    · rcases List.mem_cons.mp hd with k2 | k2
      · rw [k2] at e0 e3 e4 ⊢
        exact (no _ _ (key _ k1) e0.symm e3 e4 e1 e2).elim
      · exact ih h.2 k1 k2 e0 e1 e2 e3 e4
theorem pj_clF_in {b : Nat} : ∀ {l : List (Nat × Nat)} {k i : Nat} {w : Nat × Nat}, pj_nth l i = some w → w.1 < 2 → (w.1 == 0, w.2, 1, b, k + i) ∈ pj_clF b k l := by
  intro l
  induction l with
  | nil => intro k i w h; cases i <;> cases h
  | cons a r ih =>
    intro k i w h hw
    unfold pj_clF
    cases i with
    | zero =>
      have e : a = w := Option.some.inj h
      subst e
      rw [show Nat.blt a.1 2 = true from by simpa using hw]
      exact List.mem_cons_self
    | succ i =>
      have g := ih (k := k + 1) (show pj_nth r i = some w from h) hw
      rw [show k + 1 + i = k + (i + 1) by omega] at g
      cases Nat.blt a.1 2 with
      | true => exact List.mem_cons_of_mem _ g
      | false => exact g
section LIFT
variable {L : List (Nat × pj_E)} {sh : List (Nat × Nat)} {S : Nat → Bool}
theorem pj_chk_at (h : pj_chk L sh S = true) {b : Nat} {e : pj_E} (hb : (b, e) ∈ L) : 0 < e.2.2.1 ∧ (∀ n, n < e.2.2.1 → sh[b + n]? = some (e.1, e.2.1) ∧ S (b + n) = true ∧ pj_fr L (b + n) = some (b, e, n)) ∧ (e.1 < 100 → e.2.2.1 = 1) ∧ (e.2.2.2.1 = 0 → e.2.2.1 = 1) := by
  unfold pj_chk at h
  simp only [Bool.and_eq_true] at h
  have g := List.all_eq_true.mp h.2.1 _ hb
  unfold pj_ck1 at g
  simp only [Bool.and_eq_true, Bool.or_eq_true, Bool.not_eq_true'] at g
  obtain ⟨g1, g2, g3, g4⟩ := g
  refine ⟨by simpa using g1, fun n hn => ?_, fun q => ?_, fun q => ?_⟩
  · have g := List.all_eq_true.mp g2 n (List.mem_range.mpr hn)
    simp only [Bool.and_eq_true] at g
    exact ⟨of_decide_eq_true g.1, g.2.1, pj_eo_ok g.2.2⟩
  · rcases g3 with g3 | g3
    · have : Nat.blt e.1 100 = true := by simpa using q
      rw [this] at g3
      cases g3
    · exact eq_of_beq g3
  · rcases g4 with g4 | g4
    · have : (e.2.2.2.1 == 0) = true := by simpa using q
      rw [this] at g4
      cases g4
    · exact eq_of_beq g4
/-- a variable is of one place alone -/
theorem pj_va_inv {lg : Bool} {o i : Nat} {q : Bool × Nat} (h : pj_va L lg o i = some q) : ∃ b e n, pj_fr L o = some (b, e, n) ∧ ((e.1 < 100 ∧ (q.1, q.2, 1, b, i) ∈ pj_cl L) ∨ (¬ e.1 < 100 ∧ pj_kd lg e.1 = true ∧ i < e.2.1 ∧ q = (e.2.2.2.2.1, pj_ei e n i) ∧ (e.2.2.2.2.1, e.2.2.2.2.2.1, e.2.2.1 * e.2.1, b, 0) ∈ pj_cl L)) := by
  unfold pj_va at h
  split at h
  · rename_i p hp
    obtain ⟨b, e, n⟩ := p
    obtain ⟨hm, ho, hn⟩ := pj_fr_in hp
    refine ⟨b, e, n, hp, ?_⟩
    dsimp only at h
    cases e9 : Nat.blt e.1 100 with
    | true =>
      rw [e9] at h
      dsimp only [cond_true] at h
      split at h
      · rename_i w hw
        refine Or.inl ⟨by simpa using e9, List.mem_flatMap.mpr ⟨_, hm, ?_⟩⟩
        show _ ∈ (bif Nat.blt e.1 100 then _ else _)
        rw [e9]
        dsimp only [cond_true]
        cases e7 : (w.1 == 0) with
        | true =>
          rw [e7] at h
          cases h
          have := pj_clF_in (b := b) (k := 0) hw (by rw [eq_of_beq e7]; decide)
          rw [e7, Nat.zero_add] at this
          exact this
        | false =>
          rw [e7] at h
          cases e8 : (w.1 == 1) with
          | true =>
            rw [e8] at h
            cases h
            have := pj_clF_in (b := b) (k := 0) hw (by rw [eq_of_beq e8]; decide)
            rw [e7, Nat.zero_add] at this
            exact this
          | false => rw [e8] at h; cases h
      · cases h
    | false =>
      rw [e9] at h
      dsimp only [cond_false] at h
      cases e7 : (pj_kd lg e.1 && Nat.blt i e.2.1) with
      | false => rw [e7] at h; cases h
      | true =>
        rw [e7] at h
        cases h
        obtain ⟨k1, k2⟩ := (Bool.and_eq_true _ _).mp e7
        refine Or.inr ⟨fun q => ?_, k1, by simpa using k2, rfl, List.mem_flatMap.mpr ⟨_, hm, ?_⟩⟩
        · have : Nat.blt e.1 100 = true := by simpa using q
          rw [this] at e9
          cases e9
        · show _ ∈ (bif Nat.blt e.1 100 then _ else _)
          rw [e9]
          dsimp only [cond_false]
          have : Nat.blt e.1 103 = true := by
            unfold pj_kd at k1
            cases lg with
            | true => have : e.1 = 101 := eq_of_beq k1; rw [this]; rfl
            | false =>
              rcases (Bool.or_eq_true _ _).mp (show (e.1 == 100 || e.1 == 102) = true from k1) with q | q
              · rw [eq_of_beq q]; rfl
              · rw [eq_of_beq q]; rfl
          rw [this]
          exact List.mem_cons_self
  · cases h
theorem pj_ei_in {e : pj_E} {n i : Nat} (h0 : e.2.2.2.1 = 0 → e.2.2.1 = 1) (hn : n < e.2.2.1) (hi : i < e.2.1) : e.2.2.2.2.2.1 ≤ pj_ei e n i ∧ pj_ei e n i < e.2.2.2.2.2.1 + e.2.2.1 * e.2.1 := by
  obtain ⟨e1, e2, e3, e4, e5, e6, e7⟩ := e
  dsimp only at h0 hn hi ⊢
  rcases e4 with - | - | e4
  · have := h0 rfl
    subst this
    show e6 ≤ e6 + i ∧ e6 + i < e6 + 1 * e2
    omega
  · show e6 ≤ e6 + e2 * n + i ∧ e6 + e2 * n + i < e6 + e3 * e2
    have : e2 * (n + 1) ≤ e2 * e3 := Nat.mul_le_mul_left _ hn
    rw [Nat.mul_add, Nat.mul_comm e2 e3] at this
    omega
  · show e6 ≤ e6 + n + e3 * i ∧ e6 + n + e3 * i < e6 + e3 * e2
    have : e3 * (i + 1) ≤ e3 * e2 := Nat.mul_le_mul_left _ hi
    rw [Nat.mul_add] at this
    omega
theorem pj_ei_inj {e : pj_E} {n i n' i' : Nat} (h0 : e.2.2.2.1 = 0 → e.2.2.1 = 1) (hn : n < e.2.2.1) (hi : i < e.2.1) (hn' : n' < e.2.2.1) (hi' : i' < e.2.1) (h : pj_ei e n i = pj_ei e n' i') : n = n' ∧ i = i' := by
  obtain ⟨e1, e2, e3, e4, e5, e6, e7⟩ := e
  dsimp only at h0 hn hi hn' hi'
  have dm : ∀ (m a b c d : Nat), b < m → d < m → m * a + b = m * c + d → a = c ∧ b = d := by
    intro m a b c d hb hd he
    have q1 : (m * a + b) / m = a := by rw [Nat.mul_add_div (by omega), Nat.div_eq_of_lt hb]; rfl
    have q2 : (m * c + d) / m = c := by rw [Nat.mul_add_div (by omega), Nat.div_eq_of_lt hd]; rfl
    have : a = c := by rw [← q1, ← q2, he]
    subst this
    exact ⟨rfl, by omega⟩
  rcases e4 with - | - | e4
  · have := h0 rfl
    subst this
    have h : e6 + i = e6 + i' := h
    omega
  · have h : e6 + e2 * n + i = e6 + e2 * n' + i' := h
    exact dm e2 n i n' i' hi hi' (by omega)
  · have h : e6 + n + e3 * i = e6 + n' + e3 * i' := h
    have := dm e3 i n i' n' hn hn' (by omega)
    exact ⟨this.2, this.1⟩
theorem pj_va_inj (hc : pj_chk L sh S = true) {lg : Bool} {o i o' i' : Nat} {q : Bool × Nat} (h : pj_va L lg o i = some q) (h' : pj_va L lg o' i' = some q) : o = o' ∧ i = i' := by
  obtain ⟨b, e, n, f, c⟩ := pj_va_inv h
  obtain ⟨b', e', n', f', c'⟩ := pj_va_inv h'
  obtain ⟨m, ho, hn⟩ := pj_fr_in f
  obtain ⟨m', ho', hn'⟩ := pj_fr_in f'
  obtain ⟨k1, k2, k3, k4⟩ := pj_chk_at hc m
  obtain ⟨k1', k2', k3', k4'⟩ := pj_chk_at hc m'
  have hdj : pj_dj (pj_cl L) = true := by
    unfold pj_chk at hc
    simp only [Bool.and_eq_true] at hc
    exact hc.2.2
  have same : b = b' → e = e' := by
    intro q9
    subst q9
    have a1 := (k2 0 k1).2.2
    have a2 := (k2' 0 k1').2.2
    rw [a1] at a2
    cases a2
    rfl
  rcases c with ⟨c0, c1⟩ | ⟨c0, c1, c2, c3, c4⟩
  · rcases c' with ⟨c0', c1'⟩ | ⟨c0', c1', c2', c3', c4'⟩
    · have := pj_dj_eq hdj c1 c1' rfl (Nat.le_refl _) (Nat.lt_succ_self _) (Nat.le_refl _) (Nat.lt_succ_self _)
      have eb : b = b' := congrArg (fun c => c.2.2.2.1) this
      have ei : i = i' := congrArg (fun c => c.2.2.2.2) this
      have e1 := same eb
      subst e1
      have := k3 c0
      exact ⟨by omega, ei⟩
    · have r := pj_ei_in k4' hn' c2'
      have eq : q.2 = pj_ei e' n' i' := congrArg Prod.snd c3'
      have := pj_dj_eq hdj c1 c4' (show q.1 = e'.2.2.2.2.1 from congrArg Prod.fst c3') (Nat.le_refl _) (Nat.lt_succ_self _) (by rw [eq]; exact r.1) (by rw [eq]; exact r.2)
      have eb : b = b' := congrArg (fun c => c.2.2.2.1) this
      have e1 := same eb
      subst e1
      exact (c0' c0).elim
  · rcases c' with ⟨c0', c1'⟩ | ⟨c0', c1', c2', c3', c4'⟩
    · have r := pj_ei_in k4 hn c2
      have eq : q.2 = pj_ei e n i := congrArg Prod.snd c3
      have := pj_dj_eq hdj c1' c4 (show q.1 = e.2.2.2.2.1 from congrArg Prod.fst c3) (Nat.le_refl _) (Nat.lt_succ_self _) (by rw [eq]; exact r.1) (by rw [eq]; exact r.2)
      have eb : b' = b := congrArg (fun c => c.2.2.2.1) this
      have e1 := same eb.symm
      subst e1
      exact (c0 c0').elim
    · subst c3
      have r := pj_ei_in k4 hn c2
      have r' := pj_ei_in k4' hn' c2'
      have eq : pj_ei e n i = pj_ei e' n' i' := congrArg Prod.snd c3'
      have := pj_dj_eq hdj c4 c4' (by have c9 := congrArg Prod.fst c3'; exact c9) r.1 r.2 (by rw [eq]; exact r'.1) (by rw [eq]; exact r'.2)
      have eb : b = b' := congrArg (fun c => c.2.2.2.1) this
      have e1 := same eb
      subst eb
      subst e1
      obtain ⟨q1, q2⟩ := pj_ei_inj k4 hn c2 hn' c2' eq
      exact ⟨by omega, q2⟩
end LIFT

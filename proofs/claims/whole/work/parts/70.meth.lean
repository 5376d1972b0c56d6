/-! METHODS: a method whose function gives an answer runs to it -/
section PMA
variable {A : Type} {a : A}
theorem pj_pi_inv {st : List pj_V} {f : Int32 → List pj_V → Option A} (h : pj_pi st f = some a) : ∃ x r, pj_es st = .int x :: pj_es r ∧ f x r = some a := by
  rcases st with - | ⟨v, r⟩
  · cases h
  · obtain ⟨x, e, h⟩ := pj_vi_inv h
    exact ⟨x, r, by show pj_e v :: pj_es r = _; rw [e], h⟩
theorem pj_pl_inv {st : List pj_V} {f : Int64 → List pj_V → Option A} (h : pj_pl st f = some a) : ∃ x r, pj_es st = .long x :: pj_es r ∧ f x r = some a := by
  rcases st with - | ⟨v, r⟩
  · cases h
  · obtain ⟨x, e, h⟩ := pj_vl_inv h
    exact ⟨x, r, by show pj_e v :: pj_es r = _; rw [e], h⟩
theorem pj_pc_inv {st : List pj_V} {c : Int} {f : List pj_V → Option A} (h : pj_pc st c f = some a) : ∃ r, pj_es st = .int (Int32.ofInt c) :: pj_es r ∧ f r = some a := by
  unfold pj_pc at h
  split at h
  · obtain ⟨e, h⟩ := pj_if_inv h
    exact ⟨_, by rw [← eq_of_beq e]; rfl, h⟩
  · cases h
theorem pj_pr_inv {st : List pj_V} {b i : Nat} {f : List pj_V → Option A} (h : pj_pr st b i f = some a) : ∃ r, pj_es st = .ref (b + i) :: pj_es r ∧ f r = some a := by
  unfold pj_pr at h
  split at h
  · obtain ⟨e, h⟩ := pj_if_inv h
    obtain ⟨e1, e2⟩ := (Bool.and_eq_true _ _).mp e
    exact ⟨_, by rw [← eq_of_beq e1, ← eq_of_beq e2]; rfl, h⟩
  · cases h
theorem pj_vw_inv {v : pj_V} {b : Nat} {f : Nat → Option A} (h : pj_vw v b f = some a) : ∃ n, pj_e v = .ref (b + n) ∧ f n = some a := by
  unfold pj_vw at h
  split at h
  · obtain ⟨e, h⟩ := pj_if_inv h
    exact ⟨_, by rw [← eq_of_beq e]; rfl, h⟩
  · obtain ⟨e, h⟩ := pj_if_inv h
    exact ⟨_, by rw [← eq_of_beq e]; rfl, h⟩
  · cases h
theorem pj_pw_inv {st : List pj_V} {b : Nat} {f : Nat → List pj_V → Option A} (h : pj_pw st b f = some a) : ∃ n r, pj_es st = .ref (b + n) :: pj_es r ∧ f n r = some a := by
  rcases st with - | ⟨v, r⟩
  · cases h
  · obtain ⟨x, e, h⟩ := pj_vw_inv (show pj_vw v b (fun n => f n r) = some a from h)
    exact ⟨x, r, by show pj_e v :: pj_es r = _; rw [e], h⟩
theorem pj_pe_inv {st : List pj_V} {f : Option A} (h : pj_pe st f = some a) : pj_es st = [] ∧ f = some a := by
  rcases st with - | ⟨v, r⟩
  · exact ⟨rfl, h⟩
  · cases h
theorem pj_ps_inv {st : List pj_V} {f : Option A} (h : pj_ps st f = some a) : mj_sum (pj_es st) ≤ 8 ∧ f = some a := by
  obtain ⟨e, h⟩ := pj_if_inv h
  refine ⟨?_, h⟩
  unfold mj_sum
  rw [pj_sum_eq]
  exact Nat.le_of_ble_eq_true e
theorem pj_b_inv {R : Type} {o : Option (R × pj_Z)} {f : R → (Nat → Int32) → (Nat → Int64) → (Nat → Int32) → (Nat → Int64) → Option A} (h : pj_b o f = some a) : ∃ q : R × pj_Z, o = some q ∧ f q.1 q.2.1 q.2.2.1 q.2.2.2.1 q.2.2.2.2 = some a := by
  unfold pj_b at h
  split at h
  · exact ⟨_, rfl, h⟩
  · cases h
theorem pm_as_at {lv : List (Nat × pj_V)} {n : Nat} {v : pj_V} (h : pj_as lv n = some v) : mj_at (pj_el lv) n = some (pj_e v) := by
  obtain ⟨w, e, h9⟩ := pj_ld_inv (lv := lv) (n := n) (k := fun v => some v) (a := v) (by unfold pj_ld; rw [h])
  cases h9
  exact e
theorem pj_xi_inv {lv : List (Nat × pj_V)} {n : Nat} {f : Int32 → Option A} (h : pj_xi lv n f = some a) : ∃ x, mj_at (pj_el lv) n = some (.int x) ∧ f x = some a := by
  unfold pj_xi at h
  split at h
  · rename_i v hv
    obtain ⟨x, e, h⟩ := pj_vi_inv h
    exact ⟨x, by rw [pm_as_at hv, e], h⟩
  · cases h
theorem pj_xl_inv {lv : List (Nat × pj_V)} {n : Nat} {f : Int64 → Option A} (h : pj_xl lv n f = some a) : ∃ x, mj_at (pj_el lv) n = some (.long x) ∧ f x = some a := by
  unfold pj_xl at h
  split at h
  · rename_i v hv
    obtain ⟨x, e, h⟩ := pj_vl_inv h
    exact ⟨x, by rw [pm_as_at hv, e], h⟩
  · cases h
theorem pj_xc_inv {lv : List (Nat × pj_V)} {n : Nat} {c : Int} {f : Option A} (h : pj_xc lv n c f = some a) : mj_at (pj_el lv) n = some (.int (Int32.ofInt c)) ∧ f = some a := by
  unfold pj_xc at h
  split at h
  · rename_i m hv
    obtain ⟨e, h⟩ := pj_if_inv h
    exact ⟨by rw [pm_as_at hv, ← eq_of_beq e]; rfl, h⟩
  · cases h
theorem pj_xr_inv {lv : List (Nat × pj_V)} {n b i : Nat} {f : Option A} (h : pj_xr lv n b i f = some a) : mj_at (pj_el lv) n = some (.ref (b + i)) ∧ f = some a := by
  unfold pj_xr at h
  split at h
  · rename_i m hv
    obtain ⟨e, h⟩ := pj_if_inv h
    obtain ⟨e1, e2⟩ := (Bool.and_eq_true _ _).mp e
    exact ⟨by rw [pm_as_at hv, ← eq_of_beq e1, ← eq_of_beq e2]; rfl, h⟩
  · cases h
theorem pj_xw_inv {lv : List (Nat × pj_V)} {n b : Nat} {f : Nat → Option A} (h : pj_xw lv n b f = some a) : ∃ i, mj_at (pj_el lv) n = some (.ref (b + i)) ∧ f i = some a := by
  unfold pj_xw at h
  split at h
  · rename_i v hv
    obtain ⟨x, e, h⟩ := pj_vw_inv h
    exact ⟨x, by rw [pm_as_at hv, e], h⟩
  · cases h
end PMA
theorem mj_sub_nil {lv : List (Nat × Value)} (h : mj_nd lv) : mj_sub [] lv := ⟨fun _ q => (by cases q), h⟩
theorem mj_sub_cons {lv L : List (Nat × Value)} {n : Nat} {v : Value} (h : mj_at lv n = some v) (hs : mj_sub L lv) : mj_sub ((n, v) :: L) lv := ⟨fun q hq => (List.mem_cons.mp hq).elim (fun e => e ▸ mj_at_mem h) (hs.1 q), hs.2⟩
theorem pj_as_all {α : Type} {p : Nat → α → Prop} {L : List (Nat × α)} (h : ∀ q ∈ L, p q.1 q.2) : ∀ b e, pj_as L b = some e → p b e := by
  intro b e
  induction L with
  | nil => intro g; cases g
  | cons q r ih =>
    intro g
    unfold pj_as at g
    cases e9 : (q.1 == b) with
    | true =>
      rw [e9] at g
      cases g
      have : q.1 = b := eq_of_beq e9
      subst this
      exact h q List.mem_cons_self
    | false =>
      rw [e9] at g
      exact ih (fun q hq => h q (List.mem_cons_of_mem _ hq)) g
/-- what a table has, the program has -/
def pm_in {α : Type} [DecidableEq α] (L : List (Nat × α)) (f : Nat → Option α) : Bool := L.all (fun q => decide (f q.1 = some q.2))
theorem pm_in_ok {α : Type} [DecidableEq α] {L : List (Nat × α)} {f : Nat → Option α} (h : pm_in L f = true) : ∀ b e, pj_as L b = some e → f b = some e := pj_as_all (p := fun b e => f b = some e) (fun q hq => of_decide_eq_true (List.all_eq_true.mp h q hq))
def pm_inI (L : List (Nat × Int)) (f : Nat → Option Int32) : Bool := L.all (fun q => decide (f q.1 = some (Int32.ofInt q.2)))
theorem pm_inI_ok {L : List (Nat × Int)} {f : Nat → Option Int32} (h : pm_inI L f = true) : ∀ b e, pj_as L b = some e → f b = some (Int32.ofInt e) := pj_as_all (p := fun b e => f b = some (Int32.ofInt e)) (fun q hq => of_decide_eq_true (List.all_eq_true.mp h q hq))
def pm_inL (L : List (Nat × Int)) (f : Nat → Option Int64) : Bool := L.all (fun q => decide (f q.1 = some (Int64.ofInt q.2)))
theorem pm_inL_ok {L : List (Nat × Int)} {f : Nat → Option Int64} (h : pm_inL L f = true) : ∀ b e, pj_as L b = some e → f b = some (Int64.ofInt e) := pj_as_all (p := fun b e => f b = some (Int64.ofInt e)) (fun q hq => of_decide_eq_true (List.all_eq_true.mp h q hq))
abbrev pj_mem : List Nat → Nat → Bool
  | [], _ => false
  | a :: r, i => a == i || pj_mem r i
theorem pj_mem_all {p : Nat → Prop} : ∀ {L : List Nat}, (∀ q ∈ L, p q) → ∀ i, pj_mem L i = true → p i := by
  intro L
  induction L with
  | nil => intro _ i h; cases h
  | cons q r ih =>
    intro hp i h
    rcases (Bool.or_eq_true _ _).mp (show (q == i || pj_mem r i) = true from h) with h | h
    · rw [← eq_of_beq h]; exact hp q List.mem_cons_self
    · exact ih (fun z hz => hp z (List.mem_cons_of_mem _ hz)) i h
/-- blocks, checked -/
def pm_at (code : List (Nat × Instr × Nat)) (pc : Nat) (i : Instr) (k : Nat) : Bool := decide (mj_lk code pc = some (i, k)) && ((pj_sw i || k == pj_ln i) && pj_tg pc i)
def pm_bk (code : List (Nat × Instr × Nat)) : List (Nat × Instr × Nat) → Nat → Bool
  | [], _ => true
  | q :: r, pc => q.1 == pc && (pm_at code pc q.2.1 q.2.2 && pm_bk code r (pc + q.2.2))
theorem pm_bk_ok {code : List (Nat × Instr × Nat)} : ∀ {l : List (Nat × Instr × Nat)} {pc : Nat}, pm_bk code l pc = true → pj_bk code l pc := by
  intro l
  induction l with
  | nil => intro pc _; trivial
  | cons q r ih =>
    intro pc h
    unfold pm_bk pm_at at h
    simp only [Bool.and_eq_true, Bool.or_eq_true] at h
    obtain ⟨h1, ⟨h2, h3, h4⟩, h5⟩ := h
    exact ⟨eq_of_beq h1, ⟨of_decide_eq_true h2, h3.imp id (fun q => eq_of_beq q), h4⟩, ih h5⟩
def pm_bks (code : List (Nat × Instr × Nat)) (L : List (Nat × List (Nat × Instr × Nat))) : Bool := L.all (fun q => pm_bk code q.2 q.1)
theorem pm_bks_ok {code : List (Nat × Instr × Nat)} {L : List (Nat × List (Nat × Instr × Nat))} (h : pm_bks code L = true) : ∀ pc b, pj_as L pc = some b → pj_bk code b pc := pj_as_all (p := fun pc b => pj_bk code b pc) (fun q hq => pm_bk_ok (List.all_eq_true.mp h q hq))
-- answers
def pm_rI (v : Int32) : Option Value := some (.int v)
def pm_rL (v : Int64) : Option Value := some (.long v)
def pm_rU (_ : Unit) : Option Value := none
def pm_OK {R : Type} (lf : pj_Z → mj_M) (rv : R → Option Value) (a : R × pj_Z) (r : Option Value) (M : mj_M) : Prop := r = rv a.1 ∧ M = lf a.2
theorem pm_mI {lf : pj_Z → mj_M} : ∀ v z a, pj_mI v z = some a → pm_OK lf pm_rI a (v.map pj_e) (lf z) := by
  intro v z a h
  unfold pj_mI at h
  split at h
  · cases h; exact ⟨rfl, rfl⟩
  · cases h
theorem pm_mL {lf : pj_Z → mj_M} : ∀ v z a, pj_mL v z = some a → pm_OK lf pm_rL a (v.map pj_e) (lf z) := by
  intro v z a h
  unfold pj_mL at h
  split at h
  · cases h; exact ⟨rfl, rfl⟩
  · cases h
theorem pm_mU {lf : pj_Z → mj_M} : ∀ v z a, pj_mU v z = some a → pm_OK lf pm_rU a (v.map pj_e) (lf z) := by
  intro v z a h
  unfold pj_mU at h
  split at h
  · cases h; exact ⟨rfl, rfl⟩
  · cases h
abbrev pm_Gd {R : Type} (d j : Nat) (Y : mj_Y) (rv : R → Option Value) (lf : pj_Z → mj_M) (pc : Nat) (lv : List (Nat × Value)) (st : List Value) (z : pj_Z) (a : R × pj_Z) : Prop := pj_Gd ic_P (mj_R ic_P d) j Y (pm_OK lf rv) lf pc lv st z a
theorem pm_none {lf : pj_Z → mj_M} {T : Nat → Option pj_E} (h : pj_Lt T lf) : pj_Lt (fun _ => none) lf := ⟨h.1, fun _ _ q => (by cases q)⟩
section PMC
variable {A : Type} {OK : A → Option Value → mj_M → Prop} {d dc j j' n pc ix : Nat} {Y : mj_Y} {lf : pj_Z → mj_M} {lv : List (Nat × Value)} {st rest st' : List pj_V} {z z' : pj_Z} {a : A}
theorem pm_cs (hl : mj_lk Y.2.2.2.2 pc = some (.invokestatic ix, 3)) (hg : mj_pG ic_P j ix = some (j', n, none)) (vs : List Value) (hn : vs.length = n) (he : pj_es st = vs.reverse ++ pj_es rest) (hs : mj_sum (pj_es rest) ≤ 8) (v : Option Value) (hd : dc ≤ d) (hr : mj_R ic_P dc j' vs (lf z) v (lf z')) (hv : pj_es st' = v.toList ++ pj_es rest) (k : pj_Gd ic_P (mj_R ic_P d) j Y OK lf (pc + 3) lv (pj_es st') z' a) : pj_Gd ic_P (mj_R ic_P d) j Y OK lf pc lv (pj_es st) z a := by
  rw [hv] at k
  refine mj_wp_call hl (j' := j') (vs := vs) (rest := pj_es rest) ?_ (mj_R_le hd hr) k
  show mj_cs ic_P j ix 3 (pc, lv, pj_es st, lf z) = _
  unfold mj_cs
  rw [hg]
  dsimp only
  have e1 : (pj_es st).take n = vs.reverse := by rw [he, ← hn, List.take_left' (by simp)]
  have e2 : (pj_es st).drop n = pj_es rest := by rw [he, ← hn, List.drop_left' (by simp)]
  rw [e1, e2, if_pos ⟨rfl, by simp [hn], hs⟩, List.reverse_reverse]
theorem pm_cv {ci o m : Nat} (hl : mj_lk Y.2.2.2.2 pc = some (.invokevirtual ix, 3)) (hg : mj_pG ic_P j ix = some (j', n, some ci)) (vs : List Value) (hn : vs.length = n) (he : pj_es st = vs.reverse ++ (.ref o :: pj_es rest)) (hs : mj_sum (pj_es rest) ≤ 8) (hc : ci < 100) (ho : (lf z).1[o]? = some (ci, m)) (v : Option Value) (hd : dc ≤ d) (hr : mj_R ic_P dc j' (.ref o :: vs) (lf z) v (lf z')) (hv : pj_es st' = v.toList ++ pj_es rest) (k : pj_Gd ic_P (mj_R ic_P d) j Y OK lf (pc + 3) lv (pj_es st') z' a) : pj_Gd ic_P (mj_R ic_P d) j Y OK lf pc lv (pj_es st) z a := by
  rw [hv] at k
  refine mj_wp_call hl (j' := j') (vs := .ref o :: vs) (rest := pj_es rest) ?_ (mj_R_le hd hr) k
  show mj_cv ic_P j ix 3 (pc, lv, pj_es st, lf z) = _
  unfold mj_cv
  rw [hg]
  dsimp only
  have e1 : (pj_es st).take n = vs.reverse := by rw [he, ← hn, List.take_left' (by simp)]
  have e2 : (pj_es st).drop n = .ref o :: pj_es rest := by rw [he, ← hn, List.drop_left' (by simp)]
  rw [e1, e2]
  dsimp only
  rw [if_pos (Or.inl ⟨rfl, by simp [hn], hc, by rw [pj_len_of ho]; rfl, hs⟩), List.reverse_reverse]
/-- a call of a String constant's -/
theorem pm_cS {o : Nat} {q : Nat × (Nat → Int32)} (hl : mj_lk Y.2.2.2.2 pc = some (.invokevirtual ix, 3)) (hg : mj_pG ic_P j ix = some (j', n, some 200)) (vs : List Value) (hn : vs.length = n) (he : pj_es st = vs.reverse ++ (.ref o :: pj_es rest)) (hs : mj_sum (pj_es rest) ≤ 8) (ho : mj_sb (mj_pX ic_P) 0 o = some q) (v : Option Value) (hd : dc ≤ d) (hr : mj_R ic_P dc j' (.ref o :: vs) (lf z) v (lf z')) (hv : pj_es st' = v.toList ++ pj_es rest) (k : pj_Gd ic_P (mj_R ic_P d) j Y OK lf (pc + 3) lv (pj_es st') z' a) : pj_Gd ic_P (mj_R ic_P d) j Y OK lf pc lv (pj_es st) z a := by
  rw [hv] at k
  refine mj_wp_call hl (j' := j') (vs := .ref o :: vs) (rest := pj_es rest) ?_ (mj_R_le hd hr) k
  show mj_cv ic_P j ix 3 (pc, lv, pj_es st, lf z) = _
  unfold mj_cv
  rw [hg]
  dsimp only
  have e1 : (pj_es st).take n = vs.reverse := by rw [he, ← hn, List.take_left' (by simp)]
  have e2 : (pj_es st).drop n = .ref o :: pj_es rest := by rw [he, ← hn, List.drop_left' (by simp)]
  rw [e1, e2]
  dsimp only
  rw [if_pos (Or.inr ⟨rfl, by simp [hn], rfl, by rw [ho]; rfl, hs⟩), List.reverse_reverse]
end PMC
/-- the method out of its entry -/
theorem pm_main {R : Type} {d j : Nat} {Y : mj_Y} {rv : R → Option Value} {lf : pj_Z → mj_M} {vs : List Value} {z : pj_Z} {a : R × pj_Z} (hY : mj_pY ic_P j = some Y) (hs : mj_sum vs ≤ Y.2.2.1) (h : pm_Gd d j Y rv lf 0 (lv_args 0 vs) [] z a) : mj_R ic_P (d + 1) j vs (lf z) (rv a.1) (lf a.2) := mj_wp_Rb hY hs h
theorem pm_nd {lv : List (Nat × Value)} (h : (lv.map (fun q => q.1)).Nodup) : mj_nd lv := (List.pairwise_map.mp h)
def pm_ndb : List (Nat × pj_V) → Bool
  | [] => true
  | q :: r => r.all (fun p => !(q.1 == p.1)) && pm_ndb r
theorem pm_ndb_ok : ∀ {lv : List (Nat × pj_V)}, pm_ndb lv = true → mj_nd (pj_el lv) := by
  intro lv
  induction lv with
  | nil => intro _; exact List.Pairwise.nil
  | cons q r ih =>
    intro h
    obtain ⟨h1, h2⟩ := (Bool.and_eq_true _ _).mp (show (r.all (fun p => !(q.1 == p.1)) && pm_ndb r) = true from h)
    refine List.pairwise_cons.mpr ⟨fun p hp => ?_, ih h2⟩
    obtain ⟨w, hw, rfl⟩ := List.mem_map.mp hp
    have := List.all_eq_true.mp h1 w hw
    intro e
    have e : q.1 = w.1 := e
    rw [e] at this
    simp at this
/-- an exit's rule -/
def pm_Ex {R : Type} (d j : Nat) (Y : mj_Y) (rv : R → Option Value) (lf : pj_Z → mj_M) (a : R × pj_Z) (pc : Nat) (f : pj_K (R × pj_Z)) : Prop := ∀ lv st z, mj_nd (pj_el lv) → f lv st z = some a → pm_Gd d j Y rv lf pc (pj_el lv) (pj_es st) z a
/-- a call's rule -/
def pm_Cl {A : Type} (d j : Nat) (Y : mj_Y) (lf : pj_Z → mj_M) (OK : A → Option Value → mj_M → Prop) (pc : Nat) (h : List pj_V → pj_Z → (List pj_V → pj_Z → Option A) → Option A) : Prop := ∀ i, mj_lk Y.2.2.2.2 pc = some (i, 3) → ∀ lv st z K a, (∀ st z, K st z = some a → pj_Gd ic_P (mj_R ic_P d) j Y OK lf (pc + 3) lv (pj_es st) z a) → h st z K = some a → pj_Gd ic_P (mj_R ic_P d) j Y OK lf pc lv (pj_es st) z a
def ic_nk (c : mj_C) : Bool := c.2.2.2.2.2.2.1.all (fun q => Nat.blt q.2.1 1000000 || (mj_lkp c.2.2.2.1 q.1).isNone)
theorem ic_nk_all (c : Nat) : ic_nk (ic_all c) = true := by
  unfold ic_all
  split <;> rfl
theorem ic_noK {j ix v : Nat} (h : mj_pS ic_P j ix = some v) (hv : 1000000 ≤ v) : mj_pK ic_P j ix = none := by
  obtain ⟨pos, hp⟩ := mj_lkp_in (show mj_lkp (ic_all (j / 1000)).2.2.2.2.2.2.1 ix = some v from h)
  have g := List.all_eq_true.mp (ic_nk_all (j / 1000)) _ hp
  rcases (Bool.or_eq_true _ _).mp g with g | g
  · have : v < 1000000 := by simpa using g
    omega
  · exact Option.isNone_iff_eq_none.mp g
theorem pm_cok {A : Type} {OK : A → Option Value → mj_M → Prop} {d j : Nat} {Y : mj_Y} {lf : pj_Z → mj_M} {c : pj_C A} (h1 : pj_Lt c.1 lf) (h2 : ∀ ix f, c.2.1 ix = some f → mj_pF ic_P j ix = some f) (h3 : ∀ ix v, c.2.2.1 ix = some v → mj_pK ic_P j ix = some (Int32.ofInt v)) (h4 : ∀ ix v, c.2.2.2.1 ix = some v → mj_pL ic_P j ix = some (Int64.ofInt v)) (h5 : ∀ ix v, c.2.2.2.2.1 ix = some v → mj_pS ic_P j ix = some v) (h6 : c.2.2.2.2.2.1 = mj_pX ic_P) (h7 : c.2.2.2.2.2.2.1 = Y.2.2.1) (h8 : c.2.2.2.2.2.2.2.1 ≤ 3 ∧ pj_rt c.2.2.2.2.2.2.2.1 = Y.2.2.2.1) (h9 : ∀ v z a, c.2.2.2.2.2.2.2.2.1 v z = some a → OK a (v.map pj_e) (lf z)) (h10 : ∀ pc h, c.2.2.2.2.2.2.2.2.2.1 pc = some h → pm_Cl d j Y lf OK pc h) (h11 : ∀ ix, c.2.2.2.2.2.2.2.2.2.2 ix = true → mj_pC ic_P j ix = true) : pj_Cok ic_P (mj_R ic_P d) j Y OK lf c := ⟨h1, h2, h3, h4, fun ix v q => ⟨h5 ix v q, ic_noK (h5 ix v q)⟩, h6, h7, h8, h9, h10, h11⟩

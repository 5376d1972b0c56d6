/-! CONSTRUCTORS, 3: the run over numbers is the small machine's -/
section CR
def cn_ck (v : Value) : Bool := match v with
  | .ref x => Nat.blt x 1000000000
  | _ => true
def cn_pv (T : cn_T) (o k : Nat) (v : Value) : cn_T := match v with
  | .int x => (T.1, cn_u T.2.1 o k (cn_i x), T.2.2)
  | .long x => (T.1, T.2.1, cn_u T.2.2.1 o k (cn_l x), T.2.2.2)
  | .ref x => (T.1, T.2.1, T.2.2.1, cn_u T.2.2.2 o k (x + 1))
  | _ => T
theorem cn_pv_ok {T : cn_T} {o k tc : Nat} {v : Value} {M' : mj_M} (h : mj_pv (cn_A T) o k tc v = some M') : M' = cn_A (cn_pv T o k v) := by
  unfold mj_pv at h
  split at h
  · split at h
    · cases h
      show ((cn_A T).1, mj_u (cn_fi T.2.1) o k _, (cn_A T).2.2) = _
      rw [cn_ui]
      rfl
    · cases h
  · split at h
    · cases h
      show ((cn_A T).1, (cn_A T).2.1, mj_u (cn_fl T.2.2.1) o k _, (cn_A T).2.2.2) = _
      rw [cn_ul]
      rfl
    · cases h
  · cases h
theorem cn_pvR_ok {T : cn_T} {o k tc : Nat} {v : Value} {M' : mj_M} (hv : cn_ck v = true) (h : mj_pvR (cn_A T) o k tc v = some M') : M' = cn_A (cn_pv T o k v) := by
  unfold mj_pvR at h
  split at h
  · rename_i x
    split at h
    · cases h
      show ((cn_A T).1, (cn_A T).2.1, (cn_A T).2.2.1, mj_u (cn_fr T.2.2.2) o k (some x)) = _
      rw [cn_ur _ _ _ (Nat.le_of_ble_eq_true hv)]
      rfl
    · cases h
  · exact cn_pv_ok h
/-- what an instruction does to the memory -/
def cn_ef (j : Nat) (i : Instr) (st : List Value) (T : cn_T) : Option cn_T := match i with
  | .putfield ix => match mj_pF ic_P j ix, st with
    | some (_, f, _, _), v :: .ref o :: _ => bif cn_ck v then some (cn_pv T o f v) else none
    | _, _ => none
  | .iastore => match st with
    | .int x :: .int a :: .ref o :: _ => some (T.1, cn_u T.2.1 o a.toNatClampNeg (cn_i x), T.2.2)
    | _ => none
  | .bastore => match st with
    | .int x :: .int a :: .ref o :: _ => some (T.1, cn_u T.2.1 o a.toNatClampNeg (cn_i (vp_nar .boolean x)), T.2.2)
    | _ => none
  | .lastore => none
  | .new ix => match mj_pN ic_P j ix with
    | some q => cn_new T q.1 q.2
    | none => none
  | .newarray t => match st with
    | .int n :: _ => (match t with
      | .int => cn_new T 100 n.toNatClampNeg
      | .long => cn_new T 101 n.toNatClampNeg
      | .boolean => cn_new T 102 n.toNatClampNeg
      | _ => none)
    | _ => none
  | .multianewarray ix _ => match mj_pM ic_P j ix, st with
    | some ki, .int k :: .int n :: _ => cn_rows T (ki + 3) ki n.toNatClampNeg k.toNatClampNeg
    | _, _ => none
  | .invokestatic _ => match st with
    | .int n :: .int dp :: .ref o' :: .int sp :: .ref o :: _ => (match mj_len (cn_A T) 100 o with
      | some _ => none
      | none => match mj_xa (mj_pX ic_P) o with
        | some q => some (T.1, cn_s T.2.1 o' (cn_cpy q.2 (cn_g T.2.1 o') sp.toNatClampNeg dp.toNatClampNeg n.toNatClampNeg), T.2.2)
        | none => none)
    | _ => none
  | _ => some T
theorem cn_no {S' : mj_S} {α : Prop} (h : (none : Option mj_S) = some S') : α := by cases h
theorem cn_lfW {k pc : Nat} {lv : List (Nat × Value)} {a : Option (Nat × List Value × mj_M)} {S' : mj_S} (h : mj_lfW k pc lv a = some S') : ∃ q, a = some q ∧ S'.2.2.2 = q.2.2 := by
  unfold mj_lfW at h
  split at h
  · rename_i q
    split at h
    · cases h
      exact ⟨q, rfl, rfl⟩
    · cases h
  · cases h
theorem cn_lf {k pc : Nat} {lv : List (Nat × Value)} {M : mj_M} {a : Option (Nat × List Value)} {S' : mj_S} (h : mj_lf k pc lv M a = some S') : S'.2.2.2 = M := by
  unfold mj_lf at h
  split at h
  · split at h
    · cases h; rfl
    · cases h
  · cases h
theorem cn_lfL {k pc : Nat} {M : mj_M} {a : Option (Nat × List (Nat × Value) × List Value)} {S' : mj_S} (h : mj_lfL k pc M a = some S') : S'.2.2.2 = M := by
  unfold mj_lfL at h
  split at h
  · split at h
    · cases h; rfl
    · cases h
  · cases h
theorem cn_lfB {lv : List (Nat × Value)} {M : mj_M} {a : Option (Nat × List Value)} {S' : mj_S} (h : mj_lfB lv M a = some S') : S'.2.2.2 = M := by
  unfold mj_lfB at h
  split at h
  · cases h; rfl
  · cases h
/-- an instruction's ways -/
theorem cn_ways {j nL k : Nat} {i : Instr} {S S' : mj_S} (h : mj_one ic_P true j nL i k S = some S') : (S'.2.2.2 = S.2.2.2 ∧ (mj_lfL k S.1 S.2.2.2 (mj_loc i nL S.2.1 S.2.2.1) = some S' ∨ mj_lf k S.1 S.2.1 S.2.2.2 (mj_hr (mj_pF ic_P j) i S.2.2.2 S.2.2.1) = some S' ∨ mj_lf k S.1 S.2.1 S.2.2.2 (mj_op i S.2.2.1) = some S' ∨ mj_lfB S.2.1 S.2.2.2 (mj_br i k S.1 S.2.2.1) = some S' ∨ mj_lf k S.1 S.2.1 S.2.2.2 (mj_ldc ic_P j i S.2.2.1) = some S' ∨ mj_lf k S.1 S.2.1 S.2.2.2 (mj_xr (mj_pX ic_P) (mj_pS ic_P j) i S.2.2.1) = some S' ∨ mj_lf k S.1 S.2.1 S.2.2.2 (mj_oi ic_P j i S.2.2.1) = some S'))
    ∨ (∃ q, mj_hw (mj_pF ic_P j) i S.2.2.2 S.2.2.1 = some q ∧ S'.2.2.2 = q.2.2) ∨ (∃ q, mj_al (mj_pN ic_P j) i S.2.2.2 S.2.2.1 = some q ∧ S'.2.2.2 = q.2.2) ∨ (∃ q, mj_pz ic_P j i S.2.2.2 S.2.2.1 = some q ∧ S'.2.2.2 = q.2.2) ∨ (∃ q, mj_cp (mj_pX ic_P) (mj_pC ic_P j) i S.2.2.2 S.2.2.1 = some q ∧ S'.2.2.2 = q.2.2) ∨ (∃ q, mj_ma (mj_pM ic_P j) i S.2.2.2 S.2.2.1 = some q ∧ S'.2.2.2 = q.2.2) := by
  rcases mj_or_inv h with h | h
  · rcases mj_or_inv h with h | h
    · exact Or.inl ⟨cn_lfL h, Or.inl h⟩
    rcases mj_or_inv h with h | h
    · exact Or.inl ⟨cn_lf h, Or.inr (Or.inl h)⟩
    rcases mj_or_inv h with h | h
    · exact Or.inl ⟨cn_lf h, Or.inr (Or.inr (Or.inl h))⟩
    rcases mj_or_inv h with h | h
    · exact Or.inl ⟨cn_lfB h, Or.inr (Or.inr (Or.inr (Or.inl h)))⟩
    rcases mj_or_inv h with h | h
    · exact Or.inr (Or.inl (cn_lfW h))
    rcases mj_or_inv h with h | h
    · exact Or.inl ⟨cn_lf h, Or.inr (Or.inr (Or.inr (Or.inr (Or.inl h))))⟩
    · exact Or.inl ⟨cn_lf h, Or.inr (Or.inr (Or.inr (Or.inr (Or.inr (Or.inl h)))))⟩
  · have h : mj_one1 ic_P j i k S = some S' := h
    rcases mj_or_inv h with h | h
    · exact Or.inr (Or.inr (Or.inl (cn_lfW h)))
    rcases mj_or_inv h with h | h
    · exact Or.inr (Or.inr (Or.inr (Or.inl (cn_lfW h))))
    rcases mj_or_inv h with h | h
    · exact Or.inr (Or.inr (Or.inr (Or.inr (Or.inl (cn_lfW h)))))
    rcases mj_or_inv h with h | h
    · exact Or.inl ⟨cn_lf h, Or.inr (Or.inr (Or.inr (Or.inr (Or.inr (Or.inr h)))))⟩
    · exact Or.inr (Or.inr (Or.inr (Or.inr (Or.inr (cn_lfW h)))))
theorem cn_put_ok {j ix : Nat} {st : List Value} {T T' : cn_T} {q : Nat × List Value × mj_M} (h2 : cn_ef j (.putfield ix) st T = some T') (h : mj_put (mj_pF ic_P j) ix (cn_A T) st = some q) : q.2.2 = cn_A T' := by
  obtain ⟨ci, k, tc, o, n, v, r, hf, rfl, hM, hc, hk, hv, -, -⟩ := mj_put_inv (k9 := q.1) (st' := q.2.1) (M' := q.2.2) h
  unfold cn_ef at h2
  simp only [hf] at h2
  cases hk9 : cn_ck v with
  | false => rw [hk9] at h2; cases h2
  | true =>
    rw [hk9] at h2
    cases h2
    exact cn_pv_ok hv
theorem cn_putF_ok {j ix ci0 : Nat} {st : List Value} {T T' : cn_T} {q : Nat × List Value × mj_M} (h2 : cn_ef j (.putfield ix) st T = some T') (h : mj_putF (mj_pF ic_P j) ci0 (.putfield ix) (cn_A T) st = some q) : q.2.2 = cn_A T' := by
  unfold mj_putF at h
  dsimp only at h
  split at h
  · rename_i ci k tc v o r hf
    split at h
    · split at h
      · obtain ⟨M2, g1, g2⟩ := Option.map_eq_some_iff.mp h
        cases g2
        unfold cn_ef at h2
        simp only [hf] at h2
        cases hk9 : cn_ck v with
        | false => rw [hk9] at h2; cases h2
        | true =>
          rw [hk9] at h2
          cases h2
          exact cn_pvR_ok hk9 g1
      · cases h
    · cases h
  · cases h
theorem cn_asi_ok {kd : Nat} {f : Int32 → Int32} {st : List Value} {T T' : cn_T} {q : Nat × List Value × mj_M} (h2 : (match st with
    | .int x :: .int a :: .ref o :: _ => some (T.1, cn_u T.2.1 o a.toNatClampNeg (cn_i (f x)), T.2.2)
    | _ => none) = some T') (h : mj_asi kd f (cn_A T) st = some q) : q.2.2 = cn_A T' := by
  obtain ⟨x, j, o, n, r, rfl, -, -, -, -, e⟩ := mj_asi_inv (k9 := q.1) (st' := q.2.1) (M' := q.2.2) h
  cases h2
  rw [e]
  show ((cn_A T).1, mj_u (cn_fi T.2.1) o _ _, (cn_A T).2.2) = _
  rw [cn_ui]
  rfl
theorem cn_al_ok {j : Nat} {i : Instr} {st : List Value} {T T' : cn_T} {q : Nat × List Value × mj_M} (h2 : cn_ef j i st T = some T') (h : mj_al (mj_pN ic_P j) i (cn_A T) st = some q) : q.2.2 = cn_A T' := by
  unfold mj_al at h
  split at h
  · rename_i ix
    split at h
    · rename_i q9 hq
      split at h
      · cases h
        unfold cn_ef at h2
        simp only [hq] at h2
        exact cn_new_ok h2
      · cases h
    · cases h
  · split at h
    · split at h
      · cases h
      · split at h <;> first | (cases h; exact cn_new_ok h2) | cases h
    · cases h
  · cases h
theorem cn_ma_ok {j : Nat} {i : Instr} {st : List Value} {T T' : cn_T} {q : Nat × List Value × mj_M} (h2 : cn_ef j i st T = some T') (h : mj_ma (mj_pM ic_P j) i (cn_A T) st = some q) : q.2.2 = cn_A T' := by
  unfold mj_ma at h
  split at h
  · rename_i ix dm
    split at h
    · rename_i ki k n r hq
      split at h
      · cases h
        unfold cn_ef at h2
        simp only [hq] at h2
        exact cn_rows_ok h2
      · cases h
    · cases h
  · cases h
theorem cn_cp_ok {j : Nat} {i : Instr} {st : List Value} {T T' : cn_T} {q : Nat × List Value × mj_M} (h2 : cn_ef j i st T = some T') (h : mj_cp (mj_pX ic_P) (mj_pC ic_P j) i (cn_A T) st = some q) : q.2.2 = cn_A T' := by
  unfold mj_cp at h
  split at h
  · rename_i ix
    cases hc : mj_pC ic_P j ix with
    | false => rw [hc] at h; cases h
    | true =>
      rw [hc] at h
      dsimp only [cond_true] at h
      split at h
      · rename_i n dp o' sp o r
        split at h
        · cases h
        · obtain ⟨M2, g1, g2⟩ := Option.map_eq_some_iff.mp h
          cases g2
          unfold cn_ef at h2
          dsimp only at h2
          split at h2
          · cases h2
          · rename_i hl
            split at h2
            · rename_i q9 hq
              cases h2
              unfold mj_cpw at g1
              rw [hl, hq] at g1
              rcases mj_or_inv g1 with g1 | g1
              · cases g1
              rcases mj_or_inv g1 with g1 | g1
              · split at g1
                · rename_i n1 e1 e2
                  cases e1
                  split at g1
                  · cases g1
                    show ((cn_A T).1, mj_uR (cn_fi T.2.1) o' (va_cpy q9.2 (cn_fi T.2.1 o') _ _ _), (cn_A T).2.2) = _
                    rw [cn_cpy_u]
                    rfl
                  · cases g1
                · cases g1
              · exfalso
                have hx : @LE.le Nat instLENat 1000000 o := by
                  unfold mj_xa at hq
                  split at hq
                  · assumption
                  · cases hq
                split at g1
                · rename_i n0 n1 e1 e2
                  have e3 := mj_len_at e1
                  have e4 := (List.getElem?_eq_some_iff.mp e3).1
                  have e5 : (cn_A T).1.length ≤ 195 := by
                    show (fm_sh.take T.1).length ≤ 195
                    rw [List.length_take]
                    have : fm_sh.length = 195 := by decide +kernel
                    omega
                  exact absurd (Nat.le_trans hx (Nat.le_of_lt (Nat.lt_of_lt_of_le e4 e5))) (by decide)
                · cases g1
            · cases h2
      · cases h
  · cases h
theorem cn_ef_ok {j nL k pc : Nat} {i : Instr} {lv : List (Nat × Value)} {st : List Value} {T T' : cn_T} {S' : mj_S} (h : mj_one ic_P true j nL i k (pc, lv, st, cn_A T) = some S') (h2 : cn_ef j i st T = some T') : S'.2.2.2 = cn_A T' := by
  rcases cn_ways h with ⟨e, h⟩ | ⟨q, h, e⟩ | ⟨q, h, e⟩ | ⟨q, h, e⟩ | ⟨q, h, e⟩ | ⟨q, h, e⟩
  · have e : S'.2.2.2 = cn_A T := e
    have hro : T' = T := by
      unfold cn_ef at h2
      split at h2
      · rcases h with h | h | h | h | h | h | h <;> exact cn_no h
      · rcases h with h | h | h | h | h | h | h <;> exact cn_no h
      · rcases h with h | h | h | h | h | h | h <;> exact cn_no h
      · cases h2
      · rcases h with h | h | h | h | h | h | h <;> exact cn_no h
      · rcases h with h | h | h | h | h | h | h <;> exact cn_no h
      · rcases h with h | h | h | h | h | h | h <;> exact cn_no h
      · rcases h with h | h | h | h | h | h | h <;> exact cn_no h
      · cases h2; rfl
    rw [e, hro]
  · rw [e]
    have h : mj_hw (mj_pF ic_P j) i (cn_A T) st = some q := h
    unfold mj_hw at h
    split at h
    · exact cn_put_ok h2 h
    · exact cn_asi_ok (f := fun x => x) h2 h
    · exact cn_asi_ok (f := vp_nar .boolean) h2 h
    · cases h2
    · cases h
  · rw [e]
    exact cn_al_ok h2 h
  · rw [e]
    have h : mj_pz ic_P j i (cn_A T) st = some q := h
    unfold mj_pz at h
    split at h
    · rename_i ci hz
      cases i <;> first | exact cn_putF_ok h2 h | cases h
    · cases h
  · rw [e]
    exact cn_cp_ok h2 h
  · rw [e]
    exact cn_ma_ok h2 h
def cn_r (call : Nat → List Value → cn_T → Option (Option Value × cn_T)) (j : Nat) (Y : mj_Y) : Nat → Nat → List (Nat × Value) → List Value → cn_T → Option (Option Value × cn_T)
  | 0, _, _, _, _ => none
  | n + 1, pc, lv, st, T => match mj_lk Y.2.2.2.2 pc with
    | some (i, k) => (match mj_rt Y.2.2.2.1 i k st with
      | some r => some (r, T)
      | none => (match mj_one ic_P true j Y.2.2.1 i k (pc, lv, st, cn_A T) with
        | some S' => (match cn_ef j i st T with
          | some T' => cn_r call j Y n S'.1 S'.2.1 S'.2.2.1 T'
          | none => none)
        | none => (match mj_call ic_P j i k (pc, lv, st, cn_A T) with
          | some (j', vs, rest) => (match call j' vs T with
            | some (v, T') => cn_r call j Y n (pc + 3) lv (v.toList ++ rest) T'
            | none => none)
          | none => none)))
    | none => none
def cn_m : Nat → Nat → List Value → cn_T → Option (Option Value × cn_T)
  | 0, _, _, _ => none
  | d + 1, j, vs, T => match mj_pY ic_P j with
    | some Y => if mj_sum vs ≤ Y.2.2.1 then cn_r (cn_m d) j Y 3000 0 (lv_args 0 vs) [] T else none
    | none => none
theorem cn_r_ok {call : Nat → List Value → cn_T → Option (Option Value × cn_T)} {Rel : Nat → List Value → mj_M → Option Value → mj_M → Prop} (hc : ∀ j vs T r T', call j vs T = some (r, T') → Rel j vs (cn_A T) r (cn_A T')) {j : Nat} {Y : mj_Y} : ∀ (n : Nat) {pc : Nat} {lv : List (Nat × Value)} {st : List Value} {T T' : cn_T} {r : Option Value}, cn_r call j Y n pc lv st T = some (r, T') → mj_wp ic_P Rel true j Y (pc, lv, st, cn_A T) (fun r9 M9 => r9 = r ∧ M9 = cn_A T') := by
  intro n
  induction n with
  | zero => intro pc lv st T T' r h; cases h
  | succ n ih =>
    intro pc lv st T T' r h
    unfold cn_r at h
    split at h
    · rename_i i k hl
      split at h
      · rename_i r9 hr
        cases h
        exact mj_wp_ret hl hr ⟨rfl, rfl⟩
      · split at h
        · rename_i S1 h1
          split at h
          · rename_i T1 hT
            have e : S1 = (S1.1, S1.2.1, S1.2.2.1, cn_A T1) := Prod.ext rfl (Prod.ext rfl (Prod.ext rfl (cn_ef_ok h1 hT)))
            rw [e] at h1
            exact mj_wp_one hl h1 (ih h)
          · cases h
        · split at h
          · rename_i j' vs rest h2
            split at h
            · rename_i v T9 h3
              exact mj_wp_call hl h2 (hc _ _ _ _ _ h3) (ih h)
            · cases h
          · cases h
    · cases h
theorem cn_m_ok : ∀ (d : Nat) {j : Nat} {vs : List Value} {T T' : cn_T} {r : Option Value}, cn_m d j vs T = some (r, T') → mj_R ic_P d j vs (cn_A T) r (cn_A T') := by
  intro d
  induction d with
  | zero => intro j vs T T' r h; cases h
  | succ d ih =>
    intro j vs T T' r h
    unfold cn_m at h
    split at h
    · rename_i Y hY
      split at h
      · rename_i hs
        exact mj_wp_Rb hY hs (cn_r_ok (Rel := mj_R ic_P d) (fun j9 vs9 T9 r9 N9 g => ih g) _ h)
      · cases h
    · cases h
end CR

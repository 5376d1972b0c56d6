/-! CONSTRUCTORS, 6: rows of fm as numbers -/
section CM
def cn_e : List Nat → Nat
  | [] => 0
  | x :: r => x % 2 ^ 64 + 2 ^ 64 * cn_e r
theorem cn_d_0 (x R : Nat) : cn_d (x % 2 ^ 64 + 2 ^ 64 * R) 0 = x % 2 ^ 64 := by
  unfold cn_d
  rw [Nat.mul_zero, Nat.shiftRight_zero, Nat.add_mul_mod_self_left, Nat.mod_mod]
theorem cn_d_s (x R k : Nat) : cn_d (x % 2 ^ 64 + 2 ^ 64 * R) (k + 1) = cn_d R k := by
  unfold cn_d
  have e : (x % 2 ^ 64 + 2 ^ 64 * R) >>> 64 = R := by
    rw [Nat.shiftRight_eq_div_pow, Nat.add_mul_div_left _ _ (by decide), Nat.div_eq_of_lt (Nat.mod_lt _ (by decide)), Nat.zero_add]
  rw [show 64 * (k + 1) = 64 + 64 * k by omega, Nat.shiftRight_add, e]
theorem cn_e_d : ∀ (l : List Nat) (k : Nat), cn_d (cn_e l) k = l.getD k 0 % 2 ^ 64 := by
  intro l
  induction l with
  | nil => intro k; show cn_d 0 k = 0 % 2 ^ 64; rw [cn_d0]
  | cons x r ih =>
    intro k
    cases k with
    | zero => exact cn_d_0 x (cn_e r)
    | succ k =>
      show cn_d (x % 2 ^ 64 + 2 ^ 64 * cn_e r) (k + 1) = r.getD k 0 % 2 ^ 64
      rw [cn_d_s, ih]
def cn_rI (L : List (Nat × pj_E)) (z : pj_Z) (o : Nat) : List Nat := match pj_fr L o with
  | some q => bif Nat.blt q.2.1.1 100 then q.2.1.2.2.2.2.2.2.map (fun w => bif w.1 == 0 then cn_i (z.1 w.2) else bif w.1 == 1 then cn_i (z.2.2.1 w.2) else 0) else bif pj_kd false q.2.1.1 then (List.range q.2.1.2.1).map (fun i => cn_i (pj_si q.2.1.2.2.2.2.1 z (pj_ei q.2.1 q.2.2 i))) else []
  | none => []
def cn_rL (L : List (Nat × pj_E)) (z : pj_Z) (o : Nat) : List Nat := match pj_fr L o with
  | some q => bif Nat.blt q.2.1.1 100 then q.2.1.2.2.2.2.2.2.map (fun w => bif w.1 == 0 then cn_l (z.2.1 w.2) else bif w.1 == 1 then cn_l (z.2.2.2 w.2) else 0) else bif pj_kd true q.2.1.1 then (List.range q.2.1.2.1).map (fun i => cn_l (pj_sl q.2.1.2.2.2.2.1 z (pj_ei q.2.1 q.2.2 i))) else []
  | none => []
def cn_rR (L : List (Nat × pj_E)) (o : Nat) : List Nat := match pj_fr L o with
  | some q => bif Nat.blt q.2.1.1 100 then q.2.1.2.2.2.2.2.2.map (fun w => bif w.1 == 2 then w.2 + 1 else 0) else bif (q.2.1.1 == 103 || q.2.1.1 == 104) then (List.range q.2.1.2.1).map (fun i => q.2.1.2.2.2.2.2.1 + i + 1) else []
  | none => []
theorem cn_nth {α : Type} (f : α → Nat) : ∀ (l : List α) (i : Nat), (l.map f).getD i 0 = match pj_nth l i with
    | some w => f w
    | none => 0 := by
  intro l
  induction l with
  | nil => intro i; cases i <;> rfl
  | cons x r ih =>
    intro i
    cases i with
    | zero => rfl
    | succ i => exact ih i
theorem cn_rng (f : Nat → Nat) (n i : Nat) : ((List.range n).map f).getD i 0 = if i < n then f i else 0 := by
  unfold List.getD
  rw [List.getElem?_map]
  by_cases h : i < n
  · rw [List.getElem?_range h, if_pos h]
    rfl
  · rw [List.getElem?_eq_none (by rw [List.length_range]; omega), if_neg h]
    rfl
theorem cn_iZ : Int32.ofNat (0 % 2 ^ 64) = 0 := rfl
theorem cn_lZ : Int64.ofNat (0 % 2 ^ 64) = 0 := rfl
theorem cn_blt {a b : Nat} : Nat.blt a b = decide (a < b) := by
  by_cases h : a < b
  · rw [decide_eq_true h]; exact Nat.ble_eq_true_of_le h
  · rw [decide_eq_false h]
    cases e : Nat.blt a b with
    | false => rfl
    | true => exact absurd (Nat.le_of_ble_eq_true e) h
theorem cn_rI_ok (L : List (Nat × pj_E)) (z : pj_Z) (o i : Nat) : Int32.ofNat ((cn_rI L z o).getD i 0 % 2 ^ 64) = pj_mi L z o i := by
  unfold cn_rI pj_mi pj_va
  cases pj_fr L o with
  | none => rfl
  | some q =>
    dsimp only
    cases Nat.blt q.2.1.1 100 with
    | true =>
      dsimp only [cond_true]
      rw [cn_nth]
      cases pj_nth q.2.1.2.2.2.2.2.2 i with
      | none => rfl
      | some w =>
        dsimp only
        cases (w.1 == 0) with
        | true => exact cn_ii _
        | false =>
          cases (w.1 == 1) with
          | true => exact cn_ii _
          | false => rfl
    | false =>
      dsimp only [cond_false]
      cases pj_kd false q.2.1.1 with
      | false => rfl
      | true =>
        dsimp only [cond_true, Bool.true_and]
        rw [cn_rng, cn_blt]
        by_cases h : i < q.2.1.2.1
        · rw [if_pos h, decide_eq_true h]
          exact cn_ii _
        · rw [if_neg h, decide_eq_false h]
          rfl
theorem cn_rL_ok (L : List (Nat × pj_E)) (z : pj_Z) (o i : Nat) : Int64.ofNat ((cn_rL L z o).getD i 0 % 2 ^ 64) = pj_ml L z o i := by
  unfold cn_rL pj_ml pj_va
  cases pj_fr L o with
  | none => rfl
  | some q =>
    dsimp only
    cases Nat.blt q.2.1.1 100 with
    | true =>
      dsimp only [cond_true]
      rw [cn_nth]
      cases pj_nth q.2.1.2.2.2.2.2.2 i with
      | none => rfl
      | some w =>
        dsimp only
        cases (w.1 == 0) with
        | true => exact cn_ll _
        | false =>
          cases (w.1 == 1) with
          | true => exact cn_ll _
          | false => rfl
    | false =>
      dsimp only [cond_false]
      cases pj_kd true q.2.1.1 with
      | false => rfl
      | true =>
        dsimp only [cond_true, Bool.true_and]
        rw [cn_rng, cn_blt]
        by_cases h : i < q.2.1.2.1
        · rw [if_pos h, decide_eq_true h]
          exact cn_ll _
        · rw [if_neg h, decide_eq_false h]
          rfl
/-- references are small -/
def cn_sm (L : List (Nat × pj_E)) : Bool := L.all (fun q => Nat.blt (q.2.2.2.2.2.2.1 + q.2.2.1) 100000000 && q.2.2.2.2.2.2.2.all (fun w => Nat.blt w.2 100000000))
theorem cn_rR_ok {L : List (Nat × pj_E)} (hs : cn_sm L = true) (o i : Nat) : cn_o ((cn_rR L o).getD i 0 % 2 ^ 64) = pj_mr L o i := by
  unfold cn_rR pj_mr
  cases hq : pj_fr L o with
  | none => rfl
  | some q =>
    obtain ⟨b, e, n⟩ := q
    obtain ⟨hm, -, -⟩ := pj_fr_in hq
    have g := List.all_eq_true.mp hs _ hm
    obtain ⟨g1, g2⟩ := Bool.and_eq_true_iff.mp g
    have g1 : e.2.2.2.2.2.1 + e.2.1 < 100000000 := Nat.le_of_ble_eq_true g1
    dsimp only
    cases Nat.blt e.1 100 with
    | true =>
      dsimp only [cond_true]
      rw [cn_nth]
      cases hw : pj_nth e.2.2.2.2.2.2 i with
      | none => rfl
      | some w =>
        dsimp only
        have g3 := List.all_eq_true.mp g2 _ (fm_nth hw)
        have g3 : w.2 < 100000000 := Nat.le_of_ble_eq_true g3
        cases (w.1 == 2) with
        | true => exact cn_oo (by omega)
        | false => rfl
    | false =>
      dsimp only [cond_false]
      cases (e.1 == 103 || e.1 == 104) with
      | false => rfl
      | true =>
        dsimp only [cond_true, Bool.true_and]
        rw [cn_rng, cn_blt]
        by_cases h : i < e.2.1
        · rw [if_pos h, decide_eq_true h]
          exact cn_oo (by omega)
        · rw [if_neg h, decide_eq_false h]
          rfl
theorem cn_gl : ∀ (L : List Nat) (a : Nat), L.length ≤ a → cn_g L a = 0 := by
  intro L
  induction L with
  | nil => intro a _; rfl
  | cons x r ih =>
    intro a h
    cases a with
    | zero => exact absurd h (by simp)
    | succ a => exact ih a (by rw [List.length_cons] at h; omega)
/-- the check, cell by cell -/
def cn_ok3 (L : List (Nat × pj_E)) (z : pj_Z) (T : cn_T) (o : Nat) : Bool := Nat.beq (cn_e (cn_rI L z o)) (cn_g T.2.1 o) && (Nat.beq (cn_e (cn_rL L z o)) (cn_g T.2.2.1 o) && Nat.beq (cn_e (cn_rR L o)) (cn_g T.2.2.2 o))
def cn_all (zC zR : pj_Z) (T : cn_T) : Bool := (List.range 124).all (cn_ok3 fm_LC zC T) && (List.range 70).all (fun o => cn_ok3 fm_LR zR T (124 + o))
theorem cn_ok3_ok {L : List (Nat × pj_E)} {z : pj_Z} {T : cn_T} {o : Nat} (h : cn_ok3 L z T o = true) : cn_e (cn_rI L z o) = cn_g T.2.1 o ∧ cn_e (cn_rL L z o) = cn_g T.2.2.1 o ∧ cn_e (cn_rR L o) = cn_g T.2.2.2 o := by
  obtain ⟨h1, h2⟩ := Bool.and_eq_true_iff.mp h
  obtain ⟨h2, h3⟩ := Bool.and_eq_true_iff.mp h2
  exact ⟨Nat.eq_of_beq_eq_true h1, Nat.eq_of_beq_eq_true h2, Nat.eq_of_beq_eq_true h3⟩
theorem cn_fm {zC zR : pj_Z} {T : cn_T} (h : cn_all zC zR T = true) (hn : T.1 = 194) (l1 : T.2.1.length ≤ 194) (l2 : T.2.2.1.length ≤ 194) (l3 : T.2.2.2.length ≤ 194) : mj_new (cn_A T) 101 1 = fm zC zR 0 := by
  obtain ⟨hC, hR⟩ := Bool.and_eq_true_iff.mp h
  have sC : cn_sm fm_LC = true := by decide +kernel
  have sR : cn_sm fm_LR = true := by decide +kernel
  have kC : ∀ o, o < 124 → cn_ok3 fm_LC zC T o = true := fun o ho => List.all_eq_true.mp hC o (List.mem_range.mpr ho)
  have kR : ∀ o, ¬ o < 124 → o < 194 → cn_ok3 fm_LR zR T o = true := fun o h1 h2 => by
    have := List.all_eq_true.mp hR (o - 124) (List.mem_range.mpr (by omega))
    rwa [show 124 + (o - 124) = o by omega] at this
  have e9 : fm_sh.take 194 ++ [(101, 1)] = fm_sh := by decide +kernel
  have l9 : (fm_sh.take T.1).length = 194 := by rw [hn]; decide +kernel
  unfold mj_new fm
  refine Prod.ext ?_ (Prod.ext ?_ (Prod.ext ?_ ?_))
  · show fm_sh.take T.1 ++ [(101, 1)] = fm_sh
    rw [hn]
    exact e9
  · funext a b
    show (if a = (fm_sh.take T.1).length then (fun _ => (0 : Int32)) else cn_fi T.2.1 a) b = (bif fm_C a then pj_mi fm_LC zC a else bif fm_R a then pj_mi fm_LR zR a else (fun _ => 0)) b
    rw [l9]
    unfold fm_R fm_C
    rw [cn_blt, cn_blt]
    by_cases h1 : a < 124
    · rw [decide_eq_true h1, if_neg (by omega)]
      show Int32.ofNat (cn_d (cn_g T.2.1 a) b) = pj_mi fm_LC zC a b
      rw [← (cn_ok3_ok (kC a h1)).1, cn_e_d, cn_rI_ok]
    · rw [decide_eq_false h1]
      by_cases h2 : a < 194
      · rw [decide_eq_true h2, if_neg (by omega)]
        show Int32.ofNat (cn_d (cn_g T.2.1 a) b) = pj_mi fm_LR zR a b
        rw [← (cn_ok3_ok (kR a h1 h2)).1, cn_e_d, cn_rI_ok]
      · rw [decide_eq_false h2]
        by_cases h3 : a = 194
        · rw [if_pos h3]; rfl
        · rw [if_neg h3]
          show Int32.ofNat (cn_d (cn_g T.2.1 a) b) = 0
          rw [cn_gl _ _ (by omega), cn_d0]
          rfl
  · funext a b
    show (if a = (fm_sh.take T.1).length then (fun _ => (0 : Int64)) else cn_fl T.2.2.1 a) b = (bif fm_C a then pj_ml fm_LC zC a else bif fm_R a then pj_ml fm_LR zR a else fm_w 0 a) b
    rw [l9]
    unfold fm_R fm_C
    rw [cn_blt, cn_blt]
    by_cases h1 : a < 124
    · rw [decide_eq_true h1, if_neg (by omega)]
      show Int64.ofNat (cn_d (cn_g T.2.2.1 a) b) = pj_ml fm_LC zC a b
      rw [← (cn_ok3_ok (kC a h1)).2.1, cn_e_d, cn_rL_ok]
    · rw [decide_eq_false h1]
      by_cases h2 : a < 194
      · rw [decide_eq_true h2, if_neg (by omega)]
        show Int64.ofNat (cn_d (cn_g T.2.2.1 a) b) = pj_ml fm_LR zR a b
        rw [← (cn_ok3_ok (kR a h1 h2)).2.1, cn_e_d, cn_rL_ok]
      · rw [decide_eq_false h2]
        have e0 : fm_w 0 a b = 0 := by
          unfold fm_w
          split <;> rfl
        by_cases h3 : a = 194
        · rw [if_pos h3]
          exact e0.symm
        · rw [if_neg h3]
          show Int64.ofNat (cn_d (cn_g T.2.2.1 a) b) = fm_w 0 a b
          rw [e0, cn_gl _ _ (by omega), cn_d0]
          rfl
  · funext a b
    show (if a = (fm_sh.take T.1).length then (fun _ => (none : Option Nat)) else cn_fr T.2.2.2 a) b = (bif fm_C a then pj_mr fm_LC a else bif fm_R a then pj_mr fm_LR a else (fun _ => none)) b
    rw [l9]
    unfold fm_R fm_C
    rw [cn_blt, cn_blt]
    by_cases h1 : a < 124
    · rw [decide_eq_true h1, if_neg (by omega)]
      show cn_o (cn_d (cn_g T.2.2.2 a) b) = pj_mr fm_LC a b
      rw [← (cn_ok3_ok (kC a h1)).2.2, cn_e_d, cn_rR_ok sC]
    · rw [decide_eq_false h1]
      by_cases h2 : a < 194
      · rw [decide_eq_true h2, if_neg (by omega)]
        show cn_o (cn_d (cn_g T.2.2.2 a) b) = pj_mr fm_LR a b
        rw [← (cn_ok3_ok (kR a h1 h2)).2.2, cn_e_d, cn_rR_ok sR]
      · rw [decide_eq_false h2]
        by_cases h3 : a = 194
        · rw [if_pos h3]; rfl
        · rw [if_neg h3]
          show cn_o (cn_d (cn_g T.2.2.2 a) b) = none
          rw [cn_gl _ _ (by omega), cn_d0]
          rfl
end CM

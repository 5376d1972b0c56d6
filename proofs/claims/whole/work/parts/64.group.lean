/-! THE RUNNER, 2: one instruction of the small machine, by its group -/
section GRP
variable {P : mj_P} {Rel : Nat → List Value → mj_M → Option Value → mj_M → Prop} {j : Nat} {Y : mj_Y} {Q : Option Value → mj_M → Prop} {pc k : Nat} {i : Instr} {lv lv' : List (Nat × Value)} {st st' : List Value} {M M' : mj_M}
theorem pj_lf_k {α : Nat × List Value} (st' : List Value) (h : α = (k, st')) : mj_lf k pc lv M (some α) = some (pc + k, lv, st', M) := by
  subst h
  unfold mj_lf
  dsimp only
  rw [if_pos rfl]
theorem pj_g_loc (h1 : mj_lk Y.2.2.2.2 pc = some (i, k)) (h : mj_loc i Y.2.2.1 lv st = some (k, lv', st')) (g : mj_wp P Rel true j Y (pc + k, lv', st', M) Q) : mj_wp P Rel true j Y (pc, lv, st, M) Q := by
  refine mj_wp_one h1 (S' := (pc + k, lv', st', M)) ?_ g
  unfold mj_one mj_one0
  dsimp only
  rw [h]
  refine mj_or_l (mj_or_l ?_)
  unfold mj_lfL
  dsimp only
  rw [if_pos rfl]
theorem pj_g_hr (h1 : mj_lk Y.2.2.2.2 pc = some (i, k)) (n1 : mj_loc i Y.2.2.1 lv st = none) (h : mj_hr (mj_pF P j) i M st = some (k, st')) (g : mj_wp P Rel true j Y (pc + k, lv, st', M) Q) : mj_wp P Rel true j Y (pc, lv, st, M) Q := by
  refine mj_wp_one h1 (S' := (pc + k, lv, st', M)) ?_ g
  unfold mj_one mj_one0
  dsimp only
  rw [n1, h]
  exact mj_or_l (mj_or_r rfl (mj_or_l (pj_lf_k st' rfl)))
theorem pj_g_op (h1 : mj_lk Y.2.2.2.2 pc = some (i, k)) (n1 : mj_loc i Y.2.2.1 lv st = none) (n2 : mj_hr (mj_pF P j) i M st = none) (h : mj_op i st = some (k, st')) (g : mj_wp P Rel true j Y (pc + k, lv, st', M) Q) : mj_wp P Rel true j Y (pc, lv, st, M) Q := by
  refine mj_wp_one h1 (S' := (pc + k, lv, st', M)) ?_ g
  unfold mj_one mj_one0
  dsimp only
  rw [n1, n2, h]
  exact mj_or_l (mj_or_r rfl (mj_or_r rfl (mj_or_l (pj_lf_k st' rfl))))
theorem pj_g_br {pc' : Nat} (h1 : mj_lk Y.2.2.2.2 pc = some (i, k)) (n1 : mj_loc i Y.2.2.1 lv st = none) (n2 : mj_hr (mj_pF P j) i M st = none) (n3 : mj_op i st = none) (h : mj_br i k pc st = some (pc', st')) (g : mj_wp P Rel true j Y (pc', lv, st', M) Q) : mj_wp P Rel true j Y (pc, lv, st, M) Q := by
  refine mj_wp_one h1 (S' := (pc', lv, st', M)) ?_ g
  unfold mj_one mj_one0
  dsimp only
  rw [n1, n2, n3, h]
  exact mj_or_l (mj_or_r rfl (mj_or_r rfl (mj_or_r rfl (mj_or_l rfl))))
theorem pj_lfW_k (st' : List Value) : mj_lfW k pc lv (some (k, st', M')) = some (pc + k, lv, st', M') := by
  unfold mj_lfW
  dsimp only
  rw [if_pos rfl]
theorem pj_g_hw (h1 : mj_lk Y.2.2.2.2 pc = some (i, k)) (n1 : mj_loc i Y.2.2.1 lv st = none) (n2 : mj_hr (mj_pF P j) i M st = none) (n3 : mj_op i st = none) (n4 : mj_br i k pc st = none) (h : mj_hw (mj_pF P j) i M st = some (k, st', M')) (g : mj_wp P Rel true j Y (pc + k, lv, st', M') Q) : mj_wp P Rel true j Y (pc, lv, st, M) Q := by
  refine mj_wp_one h1 (S' := (pc + k, lv, st', M')) ?_ g
  unfold mj_one mj_one0
  dsimp only
  rw [n1, n2, n3, n4, h]
  exact mj_or_l (mj_or_r rfl (mj_or_r rfl (mj_or_r rfl (mj_or_r rfl (mj_or_l (pj_lfW_k st'))))))
theorem pj_g_ldc (h1 : mj_lk Y.2.2.2.2 pc = some (i, k)) (n1 : mj_loc i Y.2.2.1 lv st = none) (n2 : mj_hr (mj_pF P j) i M st = none) (n3 : mj_op i st = none) (n4 : mj_br i k pc st = none) (n5 : mj_hw (mj_pF P j) i M st = none) (h : mj_ldc P j i st = some (k, st')) (g : mj_wp P Rel true j Y (pc + k, lv, st', M) Q) : mj_wp P Rel true j Y (pc, lv, st, M) Q := by
  refine mj_wp_one h1 (S' := (pc + k, lv, st', M)) ?_ g
  unfold mj_one mj_one0
  dsimp only
  rw [n1, n2, n3, n4, n5, h]
  exact mj_or_l (mj_or_r rfl (mj_or_r rfl (mj_or_r rfl (mj_or_r rfl (mj_or_r rfl (mj_or_l (pj_lf_k st' rfl)))))))
theorem pj_g_xr (h1 : mj_lk Y.2.2.2.2 pc = some (i, k)) (n1 : mj_loc i Y.2.2.1 lv st = none) (n2 : mj_hr (mj_pF P j) i M st = none) (n3 : mj_op i st = none) (n4 : mj_br i k pc st = none) (n5 : mj_hw (mj_pF P j) i M st = none) (n6 : mj_ldc P j i st = none) (h : mj_xr (mj_pX P) (mj_pS P j) i st = some (k, st')) (g : mj_wp P Rel true j Y (pc + k, lv, st', M) Q) : mj_wp P Rel true j Y (pc, lv, st, M) Q := by
  refine mj_wp_one h1 (S' := (pc + k, lv, st', M)) ?_ g
  unfold mj_one mj_one0
  dsimp only
  rw [n1, n2, n3, n4, n5, n6, h]
  exact mj_or_l (mj_or_r rfl (mj_or_r rfl (mj_or_r rfl (mj_or_r rfl (mj_or_r rfl (mj_or_r rfl (pj_lf_k st' rfl)))))))
theorem pj_g_cp {ix : Nat} (h1 : mj_lk Y.2.2.2.2 pc = some (.invokestatic ix, k)) (h : mj_cp (mj_pX P) (mj_pC P j) (.invokestatic ix) M st = some (k, st', M')) (g : mj_wp P Rel true j Y (pc + k, lv, st', M') Q) : mj_wp P Rel true j Y (pc, lv, st, M) Q := by
  refine mj_wp_one h1 (S' := (pc + k, lv, st', M')) ?_ g
  unfold mj_one
  refine mj_or_r rfl ?_
  dsimp only [cond_true]
  unfold mj_one1
  dsimp only
  rw [h]
  refine mj_or_r rfl (mj_or_r ?_ (mj_or_l (pj_lfW_k st')))
  unfold mj_pz
  split <;> rfl
end GRP
/-- how long an instruction is -/
def pj_ln (i : Instr) : Nat := match i with
  | .iload _ => 2
  | .lload _ => 2
  | .aload _ => 2
  | .istore _ => 2
  | .lstore _ => 2
  | .astore _ => 2
  | .bipush _ => 2
  | .ldc _ => 2
  | .iinc _ _ => 3
  | .sipush _ => 3
  | .ldc_w _ => 3
  | .ldc2_w _ => 3
  | .getfield _ => 3
  | .putfield _ => 3
  | .getstatic _ => 3
  | .ifCond _ _ => 3
  | .if_icmp _ _ => 3
  | .goto _ => 3
  | .invokevirtual _ => 3
  | .invokestatic _ => 3
  | .invokespecial _ => 3
  | .new _ => 3
  | .newarray _ => 2
  | _ => 1
def pj_sw (i : Instr) : Bool := match i with
  | .tableswitch _ _ _ _ => true
  | .lookupswitch _ _ => true
  | _ => false
/-- a jump's place is there -/
def pj_tg (pc : Nat) (i : Instr) : Bool := match i with
  | .ifCond _ off => decide (0 ≤ (pc : Int) + off)
  | .if_icmp _ off => decide (0 ≤ (pc : Int) + off)
  | _ => true
/-- an instruction of the code -/
def pj_at (code : List (Nat × Instr × Nat)) (pc : Nat) (i : Instr) (k : Nat) : Prop := mj_lk code pc = some (i, k) ∧ (pj_sw i = true ∨ k = pj_ln i) ∧ pj_tg pc i = true
/-- a stretch of the code -/
def pj_bk (code : List (Nat × Instr × Nat)) : List (Nat × Instr × Nat) → Nat → Prop
  | [], _ => True
  | q :: r, pc => q.1 = pc ∧ pj_at code pc q.2.1 q.2.2 ∧ pj_bk code r (pc + q.2.2)
-- values
def pj_e (v : pj_V) : Value := match v with
  | .inl x => .int x
  | .inr (.inl x) => .long x
  | .inr (.inr (.inl n)) => .int (Int32.ofInt n)
  | .inr (.inr (.inr (.inl n))) => .long (Int64.ofInt n)
  | .inr (.inr (.inr (.inr (.inl q)))) => .ref (q.1 + q.2)
  | .inr (.inr (.inr (.inr (.inr q)))) => .ref (q.1 + q.2)
def pj_el (lv : List (Nat × pj_V)) : List (Nat × Value) := lv.map (fun q => (q.1, pj_e q.2))
def pj_es (st : List pj_V) : List Value := st.map pj_e
theorem pj_nth_eq {α : Type} : ∀ (l : List α) (n : Nat), pj_nth l n = l[n]? := by
  intro l
  induction l with
  | nil => intro n; cases n <;> rfl
  | cons a r ih =>
    intro n
    cases n with
    | zero => rfl
    | succ n => exact ih n
theorem pj_as_at : ∀ (lv : List (Nat × pj_V)) (n : Nat) (v : pj_V), pj_as lv n = some v → mj_at (pj_el lv) n = some (pj_e v) := by
  intro lv
  induction lv with
  | nil => intro n v h; cases h
  | cons q r ih =>
    intro n v h
    unfold pj_as at h
    show (bif q.1 == n then some (pj_e q.2) else mj_at (pj_el r) n) = _
    cases e : (q.1 == n) with
    | true =>
      rw [e] at h
      cases h
      rfl
    | false =>
      rw [e] at h
      exact ih n v h
theorem pj_lg_cat (v : pj_V) : pj_lg v = ((pj_e v).category == 2) := by
  rcases v with x | x | n | n | q | q <;> rfl
theorem pj_lg_f {v : pj_V} (h : pj_lg v = false) : (pj_e v).category = 1 := by
  rcases v with x | x | n | n | q | q <;> first | rfl | cases h
theorem pj_k1_eq (i : Nat) : ∀ (lv : List (Nat × pj_V)), pj_el (pj_k1 i lv) = (pj_el lv).filter (mj_keep1 i) := by
  intro lv
  induction lv with
  | nil => rfl
  | cons q r ih =>
    unfold pj_k1
    show _ = List.filter (mj_keep1 i) ((q.1, pj_e q.2) :: pj_el r)
    rw [List.filter_cons]
    have e : mj_keep1 i (q.1, pj_e q.2) = !((q.1 == i) || (q.1 + 1 == i && pj_lg q.2)) := by
      unfold mj_keep1
      dsimp only
      rw [pj_lg_cat, Bool.not_or]
    rw [e]
    cases ((q.1 == i) || (q.1 + 1 == i && pj_lg q.2)) with
    | true => exact ih
    | false =>
      show (q.1, pj_e q.2) :: pj_el (pj_k1 i r) = _
      rw [ih]
      rfl
theorem pj_k2_eq (i : Nat) : ∀ (lv : List (Nat × pj_V)), pj_el (pj_k2 i lv) = (pj_el lv).filter (mj_keep2 i) := by
  intro lv
  induction lv with
  | nil => rfl
  | cons q r ih =>
    unfold pj_k2
    show _ = List.filter (mj_keep2 i) ((q.1, pj_e q.2) :: pj_el r)
    rw [List.filter_cons]
    have e : mj_keep2 i (q.1, pj_e q.2) = !((q.1 == i) || ((q.1 == i + 1) || (q.1 + 1 == i && pj_lg q.2))) := by
      unfold mj_keep2
      dsimp only
      rw [pj_lg_cat, Bool.not_or, Bool.not_or]
    rw [e]
    cases ((q.1 == i) || ((q.1 == i + 1) || (q.1 + 1 == i && pj_lg q.2))) with
    | true => exact ih
    | false =>
      show (q.1, pj_e q.2) :: pj_el (pj_k2 i r) = _
      rw [ih]
      rfl
theorem pj_nd_put {lv : List (Nat × Value)} (h : mj_nd lv) (i : Nat) (v : Value) (f : Nat × Value → Bool) (hf : ∀ q, f q = true → q.1 ≠ i) : mj_nd ((i, v) :: lv.filter f) :=
  List.pairwise_cons.mpr ⟨fun q hq e => hf q (List.mem_filter.mp hq).2 e.symm, List.Pairwise.filter _ h⟩
-- the int of a small number
theorem pj_ofn {m : Nat} (h : m ≤ 1000000) : (Int32.ofInt (Int.ofNat m)).toNatClampNeg = m ∧ ¬ (Int32.ofInt (Int.ofNat m)) < 0 := by
  have h2 : (Int.ofNat m) < 2 ^ 31 := by
    show ((m : Nat) : Int) < 2 ^ 31
    omega
  have h1 : (-2 ^ 31 : Int) ≤ Int.ofNat m := by
    show (-2 ^ 31 : Int) ≤ ((m : Nat) : Int)
    omega
  constructor
  · rw [Int32.toNatClampNeg_ofInt_of_le h1 h2]
    rfl
  · rw [Int32.lt_iff_toInt_lt, Int32.toInt_ofInt_of_le h1 h2, Int32.toInt_zero]
    show ¬ ((m : Nat) : Int) < 0
    omega
theorem pj_sm_ok {n : Int} (h : pj_sm n = true) : (Int32.ofInt n).toInt = n := by
  have h2 := (Bool.and_eq_true _ _).mp h
  have a := of_decide_eq_true h2.1
  have b := of_decide_eq_true h2.2
  exact Int32.toInt_ofInt_of_le (by omega) (by omega)
theorem pj_sm_ok64 {n : Int} (h : pj_sm n = true) : (Int64.ofInt n).toInt = n := by
  have h2 := (Bool.and_eq_true _ _).mp h
  have a := of_decide_eq_true h2.1
  have b := of_decide_eq_true h2.2
  exact Int64.toInt_ofInt_of_le (by omega) (by omega)

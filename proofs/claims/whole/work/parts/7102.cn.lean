/-! CONSTRUCTORS, 2: the same run over a memory of numbers: a row is a number of 64-bit digits -/
section CN
/-- how many cells of fm_sh are there; the rows of ints, of longs, of references (0: null) -/
abbrev cn_T : Type := Nat × List Nat × List Nat × List Nat
def cn_g : List Nat → Nat → Nat
  | [], _ => 0
  | x :: _, 0 => x
  | _ :: r, n + 1 => cn_g r n
def cn_z : Nat → Nat → List Nat
  | 0, x => [x]
  | n + 1, x => 0 :: cn_z n x
def cn_s : List Nat → Nat → Nat → List Nat
  | [], n, x => cn_z n x
  | _ :: r, 0, x => x :: r
  | y :: r, n + 1, x => y :: cn_s r n x
theorem cn_gz : ∀ (n x a : Nat), cn_g (cn_z n x) a = if a = n then x else 0 := by
  intro n
  induction n with
  | zero =>
    intro x a
    cases a with
    | zero => rfl
    | succ a => rfl
  | succ n ih =>
    intro x a
    cases a with
    | zero => rfl
    | succ a =>
      show cn_g (cn_z n x) a = _
      rw [ih]
      by_cases h : a = n
      · rw [if_pos h, if_pos (by rw [h])]
      · rw [if_neg h, if_neg (fun q => h (Nat.succ.inj q))]
theorem cn_gs : ∀ (L : List Nat) (o x a : Nat), cn_g (cn_s L o x) a = if a = o then x else cn_g L a := by
  intro L
  induction L with
  | nil =>
    intro o x a
    show cn_g (cn_z o x) a = _
    rw [cn_gz]
    rfl
  | cons y r ih =>
    intro o x a
    cases o with
    | zero =>
      cases a with
      | zero => rfl
      | succ a => rfl
    | succ o =>
      cases a with
      | zero => rfl
      | succ a =>
        show cn_g (cn_s r o x) a = _
        rw [ih]
        by_cases h : a = o
        · rw [if_pos h, if_pos (by rw [h])]
        · rw [if_neg h, if_neg (fun q => h (Nat.succ.inj q))]
          rfl
theorem cn_gt : ∀ (L : List Nat) (m a : Nat), cn_g (L.take m) a = if a < m then cn_g L a else 0 := by
  intro L
  induction L with
  | nil =>
    intro m a
    rw [List.take_nil]
    show 0 = if a < m then 0 else 0
    split <;> rfl
  | cons y r ih =>
    intro m a
    cases m with
    | zero => rfl
    | succ m =>
      cases a with
      | zero => rw [if_pos (Nat.succ_pos m)]; rfl
      | succ a =>
        show cn_g (r.take m) a = _
        rw [ih]
        by_cases h : a < m
        · rw [if_pos h, if_pos (by omega)]
          rfl
        · rw [if_neg h, if_neg (by omega)]
def cn_d (N k : Nat) : Nat := (N >>> (64 * k)) % 2 ^ 64
def cn_w (N k v : Nat) : Nat := N ^^^ ((cn_d N k ^^^ (v % 2 ^ 64)) <<< (64 * k))
theorem cn_d0 (k : Nat) : cn_d 0 k = 0 := by
  unfold cn_d
  rw [Nat.zero_shiftRight]
theorem cn_dt (N k i : Nat) : (cn_d N k).testBit i = (decide (i < 64) && N.testBit (64 * k + i)) := by
  unfold cn_d
  rw [Nat.testBit_mod_two_pow, Nat.testBit_shiftRight]
theorem cn_dw (N k v b : Nat) : cn_d (cn_w N k v) b = if b = k then v % 2 ^ 64 else cn_d N b := by
  apply Nat.eq_of_testBit_eq
  intro i
  rw [cn_dt]
  unfold cn_w
  rw [Nat.testBit_xor, Nat.testBit_shiftLeft, Nat.testBit_xor, cn_dt, Nat.testBit_mod_two_pow]
  by_cases hi : i < 64
  · by_cases h : b = k
    · subst h
      rw [if_pos rfl, Nat.testBit_mod_two_pow]
      have e1 : decide (64 * b + i ≥ 64 * b) = true := decide_eq_true (by omega)
      have e2 : 64 * b + i - 64 * b = i := by omega
      rw [e1, e2, decide_eq_true hi]
      cases N.testBit (64 * b + i) <;> cases v.testBit i <;> rfl
    · rw [if_neg h, cn_dt, decide_eq_true hi]
      by_cases h2 : 64 * b + i ≥ 64 * k
      · have e3 : decide (64 * b + i - 64 * k < 64) = false := decide_eq_false (by omega)
        rw [e3]
        cases N.testBit (64 * b + i) <;> cases decide (64 * b + i ≥ 64 * k) <;> rfl
      · rw [decide_eq_false h2]
        cases N.testBit (64 * b + i) <;> rfl
  · rw [decide_eq_false hi]
    by_cases h : b = k
    · rw [if_pos h, Nat.testBit_mod_two_pow, decide_eq_false hi]
      rfl
    · rw [if_neg h, cn_dt, decide_eq_false hi]
      rfl
def cn_i (x : Int32) : Nat := x.toBitVec.toNat
def cn_l (x : Int64) : Nat := x.toBitVec.toNat
def cn_o : Nat → Option Nat
  | 0 => none
  | n + 1 => some n
theorem cn_ii (x : Int32) : Int32.ofNat (cn_i x % 2 ^ 64) = x := by
  have h : cn_i x < 2 ^ 32 := x.toBitVec.isLt
  rw [Nat.mod_eq_of_lt (by omega)]
  apply Int32.toBitVec_inj.mp
  rw [Int32.toBitVec_ofNat']
  exact BitVec.eq_of_toNat_eq (by rw [BitVec.toNat_ofNat]; exact Nat.mod_eq_of_lt x.toBitVec.isLt)
theorem cn_ll (x : Int64) : Int64.ofNat (cn_l x % 2 ^ 64) = x := by
  have h : cn_l x < 2 ^ 64 := x.toBitVec.isLt
  rw [Nat.mod_eq_of_lt h]
  apply Int64.toBitVec_inj.mp
  rw [Int64.toBitVec_ofNat']
  exact BitVec.eq_of_toNat_eq (by rw [BitVec.toNat_ofNat]; exact Nat.mod_eq_of_lt x.toBitVec.isLt)
theorem cn_oo {x : Nat} (h : x < 1000000000) : cn_o ((x + 1) % 2 ^ 64) = some x := by
  rw [Nat.mod_eq_of_lt (by omega)]
  rfl
def cn_fi (L : List Nat) (a b : Nat) : Int32 := Int32.ofNat (cn_d (cn_g L a) b)
def cn_fl (L : List Nat) (a b : Nat) : Int64 := Int64.ofNat (cn_d (cn_g L a) b)
def cn_fr (L : List Nat) (a b : Nat) : Option Nat := cn_o (cn_d (cn_g L a) b)
def cn_A (T : cn_T) : mj_M := (fm_sh.take T.1, cn_fi T.2.1, cn_fl T.2.2.1, cn_fr T.2.2.2)
def cn_u (L : List Nat) (o k v : Nat) : List Nat := cn_s L o (cn_w (cn_g L o) k v)
theorem cn_gu (L : List Nat) (o k v a b : Nat) : cn_d (cn_g (cn_u L o k v) a) b = if a = o then (if b = k then v % 2 ^ 64 else cn_d (cn_g L o) b) else cn_d (cn_g L a) b := by
  unfold cn_u
  rw [cn_gs]
  by_cases h : a = o
  · rw [if_pos h, if_pos h, cn_dw]
  · rw [if_neg h, if_neg h]
theorem cn_ui (L : List Nat) (o k : Nat) (x : Int32) : mj_u (cn_fi L) o k x = cn_fi (cn_u L o k (cn_i x)) := by
  funext a b
  unfold mj_u cn_fi
  rw [cn_gu]
  by_cases h : a = o
  · rw [if_pos h, if_pos h]
    by_cases h2 : b = k
    · rw [if_pos h2, if_pos h2, cn_ii]
    · rw [if_neg h2, if_neg h2]
  · rw [if_neg h, if_neg h]
theorem cn_ul (L : List Nat) (o k : Nat) (x : Int64) : mj_u (cn_fl L) o k x = cn_fl (cn_u L o k (cn_l x)) := by
  funext a b
  unfold mj_u cn_fl
  rw [cn_gu]
  by_cases h : a = o
  · rw [if_pos h, if_pos h]
    by_cases h2 : b = k
    · rw [if_pos h2, if_pos h2, cn_ll]
    · rw [if_neg h2, if_neg h2]
  · rw [if_neg h, if_neg h]
theorem cn_ur (L : List Nat) (o k : Nat) {x : Nat} (hx : x < 1000000000) : mj_u (cn_fr L) o k (some x) = cn_fr (cn_u L o k (x + 1)) := by
  funext a b
  unfold mj_u cn_fr
  rw [cn_gu]
  by_cases h : a = o
  · rw [if_pos h, if_pos h]
    by_cases h2 : b = k
    · rw [if_pos h2, if_pos h2, cn_oo hx]
    · rw [if_neg h2, if_neg h2]
  · rw [if_neg h, if_neg h]
/-- a new cell -/
def cn_new (T : cn_T) (kd n : Nat) : Option cn_T := match fm_sh[T.1]? with
  | some q => bif Nat.beq q.1 kd && Nat.beq q.2 n then some (T.1 + 1, cn_s T.2.1 T.1 0, cn_s T.2.2.1 T.1 0, cn_s T.2.2.2 T.1 0) else none
  | none => none
theorem cn_tl {m : Nat} {q : Nat × Nat} (h : fm_sh[m]? = some q) : (fm_sh.take m).length = m ∧ fm_sh.take (m + 1) = fm_sh.take m ++ [q] := by
  obtain ⟨h1, h2⟩ := List.getElem?_eq_some_iff.mp h
  refine ⟨by rw [List.length_take]; omega, ?_⟩
  rw [List.take_succ, h]
  rfl
theorem cn_new_ok {T T' : cn_T} {kd n : Nat} (h : cn_new T kd n = some T') : mj_new (cn_A T) kd n = cn_A T' := by
  unfold cn_new at h
  split at h
  · rename_i q hq
    cases hc : (Nat.beq q.1 kd && Nat.beq q.2 n) with
    | false => rw [hc] at h; cases h
    | true =>
      rw [hc] at h
      cases h
      obtain ⟨c1, c2⟩ := Bool.and_eq_true_iff.mp hc
      have c1 := Nat.eq_of_beq_eq_true c1
      have c2 := Nat.eq_of_beq_eq_true c2
      obtain ⟨l1, l2⟩ := cn_tl hq
      have l1 : (cn_A T).1.length = T.1 := l1
      unfold mj_new
      rw [l1]
      unfold cn_A
      refine Prod.ext ?_ (Prod.ext ?_ (Prod.ext ?_ ?_))
      · show fm_sh.take T.1 ++ [(kd, n)] = fm_sh.take (T.1 + 1)
        rw [l2, ← c1, ← c2]
      · funext a b
        show (if a = T.1 then (fun _ => (0 : Int32)) else cn_fi T.2.1 a) b = Int32.ofNat (cn_d (cn_g (cn_s T.2.1 T.1 0) a) b)
        rw [cn_gs]
        by_cases e : a = T.1
        · rw [if_pos e, if_pos e, cn_d0]; rfl
        · rw [if_neg e, if_neg e]; rfl
      · funext a b
        show (if a = T.1 then (fun _ => (0 : Int64)) else cn_fl T.2.2.1 a) b = Int64.ofNat (cn_d (cn_g (cn_s T.2.2.1 T.1 0) a) b)
        rw [cn_gs]
        by_cases e : a = T.1
        · rw [if_pos e, if_pos e, cn_d0]; rfl
        · rw [if_neg e, if_neg e]; rfl
      · funext a b
        show (if a = T.1 then (fun _ => (none : Option Nat)) else cn_fr T.2.2.2 a) b = cn_o (cn_d (cn_g (cn_s T.2.2.2 T.1 0) a) b)
        rw [cn_gs]
        by_cases e : a = T.1
        · rw [if_pos e, if_pos e, cn_d0]; rfl
        · rw [if_neg e, if_neg e]; rfl
  · cases h
/-- rows -/
def cn_rw (b : Nat) : Nat → Nat
  | 0 => 0
  | n + 1 => cn_w (cn_rw b n) n (b + n + 1)
theorem cn_rw_d (b : Nat) : ∀ (n j : Nat), b + n < 1000000000 → cn_o (cn_d (cn_rw b n) j) = if j < n then some (b + j) else none := by
  intro n
  induction n with
  | zero =>
    intro j _
    show cn_o (cn_d 0 j) = none
    rw [cn_d0]
    rfl
  | succ n ih =>
    intro j hb
    show cn_o (cn_d (cn_w (cn_rw b n) n (b + n + 1)) j) = _
    rw [cn_dw]
    by_cases h : j = n
    · rw [if_pos h, if_pos (by omega), cn_oo (by omega), h]
    · rw [if_neg h, ih j (by omega)]
      by_cases h2 : j < n
      · rw [if_pos h2, if_pos (by omega)]
      · rw [if_neg h2, if_neg (by omega)]
def cn_rows (T : cn_T) (ko ki n k : Nat) : Option cn_T := bif decide ((fm_sh.drop T.1).take (n + 1) = (ko, n) :: List.replicate n (ki, k)) && Nat.blt (T.1 + 1 + n) 1000000000 then some (T.1 + (n + 1), T.2.1.take T.1, T.2.2.1.take T.1, cn_s (T.2.2.2.take T.1) T.1 (cn_rw (T.1 + 1) n)) else none
theorem cn_rows_ok {T T' : cn_T} {ko ki n k : Nat} (h : cn_rows T ko ki n k = some T') : mj_rows (cn_A T) ko ki n k = cn_A T' := by
  unfold cn_rows at h
  cases hc : (decide ((fm_sh.drop T.1).take (n + 1) = (ko, n) :: List.replicate n (ki, k)) && Nat.blt (T.1 + 1 + n) 1000000000) with
  | false => rw [hc] at h; cases h
  | true =>
    rw [hc] at h
    cases h
    obtain ⟨c1, c2⟩ := Bool.and_eq_true_iff.mp hc
    have c1 := of_decide_eq_true c1
    have c2 : T.1 + 1 + n < 1000000000 := Nat.le_of_ble_eq_true c2
    have l1 : (cn_A T).1.length = T.1 := by
      show (fm_sh.take T.1).length = T.1
      rw [List.length_take]
      have h9 := congrArg List.length c1
      rw [List.length_take, List.length_drop, List.length_cons] at h9
      omega
    unfold mj_rows
    rw [l1]
    unfold cn_A
    refine Prod.ext ?_ (Prod.ext ?_ (Prod.ext ?_ ?_))
    · show fm_sh.take T.1 ++ ((ko, n) :: List.replicate n (ki, k)) = fm_sh.take (T.1 + (n + 1))
      rw [← c1]
      exact List.take_add.symm
    · funext a b
      show (if T.1 ≤ a then (fun _ => (0 : Int32)) else cn_fi T.2.1 a) b = Int32.ofNat (cn_d (cn_g (T.2.1.take T.1) a) b)
      rw [cn_gt]
      by_cases e : T.1 ≤ a
      · rw [if_pos e, if_neg (by omega), cn_d0]; rfl
      · rw [if_neg e, if_pos (by omega)]; rfl
    · funext a b
      show (if T.1 ≤ a then (fun _ => (0 : Int64)) else cn_fl T.2.2.1 a) b = Int64.ofNat (cn_d (cn_g (T.2.2.1.take T.1) a) b)
      rw [cn_gt]
      by_cases e : T.1 ≤ a
      · rw [if_pos e, if_neg (by omega), cn_d0]; rfl
      · rw [if_neg e, if_pos (by omega)]; rfl
    · funext a b
      show (if a = T.1 then (fun j => if j < n then some (T.1 + 1 + j) else none) else if T.1 ≤ a then (fun _ => none) else cn_fr T.2.2.2 a) b = cn_o (cn_d (cn_g (cn_s (T.2.2.2.take T.1) T.1 (cn_rw (T.1 + 1) n)) a) b)
      rw [cn_gs]
      by_cases e : a = T.1
      · rw [if_pos e, if_pos e, cn_rw_d _ _ _ (by omega)]
      · rw [if_neg e, if_neg e, cn_gt]
        by_cases e2 : T.1 ≤ a
        · rw [if_pos e2, if_neg (by omega), cn_d0]; rfl
        · rw [if_neg e2, if_pos (by omega)]; rfl
/-- a copy from outside -/
def cn_cpy (f : Nat → Int32) (N sp dp : Nat) : Nat → Nat
  | 0 => N
  | n + 1 => cn_w (cn_cpy f N sp dp n) (dp + n) (cn_i (f (sp + n)))
theorem cn_cpy_d (f : Nat → Int32) (N sp dp : Nat) : ∀ (n b : Nat), Int32.ofNat (cn_d (cn_cpy f N sp dp n) b) = if dp ≤ b ∧ b < dp + n then f (sp + (b - dp)) else Int32.ofNat (cn_d N b) := by
  intro n
  induction n with
  | zero =>
    intro b
    rw [if_neg (by omega)]
    rfl
  | succ n ih =>
    intro b
    show Int32.ofNat (cn_d (cn_w (cn_cpy f N sp dp n) (dp + n) (cn_i (f (sp + n)))) b) = _
    rw [cn_dw]
    by_cases h : b = dp + n
    · rw [if_pos h, if_pos (by omega), cn_ii, h, Nat.add_sub_cancel_left]
    · rw [if_neg h, ih]
      by_cases h2 : dp ≤ b ∧ b < dp + n
      · rw [if_pos h2, if_pos (by omega)]
      · rw [if_neg h2, if_neg (by omega)]
theorem cn_cpy_u (L : List Nat) (o : Nat) (f : Nat → Int32) (sp dp n : Nat) : mj_uR (cn_fi L) o (va_cpy f (cn_fi L o) sp dp n) = cn_fi (cn_s L o (cn_cpy f (cn_g L o) sp dp n)) := by
  funext a b
  unfold mj_uR
  by_cases h : a = o
  · rw [if_pos h]
    show va_cpy f (cn_fi L o) sp dp n b = Int32.ofNat (cn_d (cn_g (cn_s L o (cn_cpy f (cn_g L o) sp dp n)) a) b)
    rw [cn_gs, if_pos h, cn_cpy_d]
    rfl
  · rw [if_neg h]
    show Int32.ofNat (cn_d (cn_g L a) b) = Int32.ofNat (cn_d (cn_g (cn_s L o (cn_cpy f (cn_g L o) sp dp n)) a) b)
    rw [cn_gs, if_neg h]
end CN

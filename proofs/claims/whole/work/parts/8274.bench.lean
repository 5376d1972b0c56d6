/-! PURE: the BENCH: programs of class and reference, over lists -/
section QBE
variable {s x u s' x' u' x2 u2 : Nat → Int32} {l y v l' y' v' : Nat → Int64} {D E W : Int} {fu f k n m : Nat} {t : Int64} {a b d e p r c : Int32} {ip : Nat → Int32}
abbrev q_Cd : Type := List (Int32 × Int32)
def q_rk (w b a : Int32) : Int32 := if w = 42 then b * a else if w = 43 then b + a else if w = 45 then b - a else if w = 47 then (if a = 0 then 0 else b / a) else if w = 60 then (if b < a then 1 else 0) else if w = 62 then (if a < b then 1 else 0) else (if b = a then 1 else 0)
def q_jn (w b a : Int32) : Int32 := if w = 3 then b + a else if w = 4 then b - a else if w = 5 then b * a else if w = 6 then (if a = 0 then 0 else b / a) else if w = 8 then (if b < a then 1 else 0) else if w = 9 then (if a < b then 1 else 0) else (if b = a then 1 else 0)
/-- a step of the class's -/
def q_cs (ip : Nat → Int32) (w n : Int32) (st : List Int32) (s : Nat → Int32) : Option (List Int32 × (Nat → Int32)) :=
  if w = 0 then some (n :: st, s)
  else if w = 1 then (if n < 0 then none else if n < 4 then some (s (2000 + n.toNatClampNeg) :: st, s) else none)
  else if w = 2 then (if n < 0 then none else if n < 8 then some (ip n.toNatClampNeg :: st, s) else none)
  else if w = 6 then some (st, s)
  else match st with
    | [] => none
    | a :: r => if w = 5 then some (r, s) else if w = 4 then (if n < 0 then none else if n < 4 then some (r, pj_u s (2000 + n.toNatClampNeg) a) else none) else if w = 3 then some ((-a) :: r, s) else match r with
      | [] => none
      | b :: q => some (q_rk w b a :: q, s)
/-- whether it skips -/
def q_sp9 (w : Int32) (st : List Int32) : Bool := if w = 6 then true else if w = 5 then (match st with | [] => false | a :: _ => decide (a = 0)) else false
def q_cr (ip : Nat → Int32) : q_Cd → Nat → Nat → List Int32 → (Nat → Int32) → Option (Nat × List Int32 × (Nat → Int32))
  | [], _, nx, st, s => some (nx, st, s)
  | q :: r, i, nx, st, s => if i < nx then q_cr ip r (i + 1) nx st s else match q_cs ip q.1 q.2 st s with
    | none => none
    | some z => q_cr ip r (i + 1) (if q_sp9 q.1 st = true then q.2.toNatClampNeg else i + 1) z.1 z.2
/-- a step of the reference's -/
def q_rst (ip : Nat → Int32) (w n : Int32) (st : List Int32) (s : Nat → Int32) : Option (List Int32 × (Nat → Int32)) :=
  if w = 0 then some (n :: st, s)
  else if w = 1 then (if n < 0 then none else if n < 8 then some (ip n.toNatClampNeg :: st, s) else none)
  else if w = 2 then (if n < 0 then none else if n < 4 then some (s (2000 + n.toNatClampNeg) :: st, s) else none)
  else if w < 3 then none
  else match st with
    | [] => none
    | a :: r => if w = 7 then some ((-a) :: r, s) else if w = 12 then (if n < 0 then none else if n < 4 then some (r, pj_u s (2000 + n.toNatClampNeg) a) else none) else match r with
      | [] => none
      | b :: q => if w = 11 then (match q with | [] => none | c :: q2 => some ((if c = 0 then a else b) :: q2, s)) else some (q_jn w b a :: q, s)
def q_rr (ip : Nat → Int32) : q_Cd → List Int32 → (Nat → Int32) → Option (List Int32 × (Nat → Int32))
  | [], st, s => some (st, s)
  | q :: r, st, s => match q_rst ip q.1 q.2 st s with
    | none => none
    | some z => q_rr ip r z.1 z.2
theorem q_cr_c {q : Int32 × Int32} {r : q_Cd} {i nx : Nat} {st : List Int32} : q_cr ip (q :: r) i nx st s = (if i < nx then q_cr ip r (i + 1) nx st s else match q_cs ip q.1 q.2 st s with | none => none | some z => q_cr ip r (i + 1) (if q_sp9 q.1 st = true then q.2.toNatClampNeg else i + 1) z.1 z.2) := rfl
theorem q_rr_c {q : Int32 × Int32} {r : q_Cd} {st : List Int32} : q_rr ip (q :: r) st s = (match q_rst ip q.1 q.2 st s with | none => none | some z => q_rr ip r z.1 z.2) := rfl
theorem q_cr_ap : ∀ (C1 C2 : q_Cd) (i nx : Nat) (st : List Int32) (s : Nat → Int32), q_cr ip (C1 ++ C2) i nx st s = match q_cr ip C1 i nx st s with | none => none | some z => q_cr ip C2 (i + C1.length) z.1 z.2.1 z.2.2 := by
  intro C1
  induction C1 with
  | nil => intro C2 i nx st s; rfl
  | cons q r ih =>
    intro C2 i nx st s
    have e : i + 1 + r.length = i + (q :: r).length := by simp; omega
    show q_cr ip (q :: (r ++ C2)) i nx st s = _
    rw [q_cr_c, q_cr_c]
    by_cases c : i < nx
    · rw [if_pos c, if_pos c, ih, e]
    · rw [if_neg c, if_neg c]
      cases z : q_cs ip q.1 q.2 st s with
      | none => rfl
      | some w => show q_cr ip (r ++ C2) (i + 1) _ _ _ = _; rw [ih, e]
theorem q_rr_ap : ∀ (R1 R2 : q_Cd) (st : List Int32) (s : Nat → Int32), q_rr ip (R1 ++ R2) st s = match q_rr ip R1 st s with | none => none | some z => q_rr ip R2 z.1 z.2 := by
  intro R1
  induction R1 with
  | nil => intro R2 st s; rfl
  | cons q r ih =>
    intro R2 st s
    show q_rr ip (q :: (r ++ R2)) st s = _
    rw [q_rr_c, q_rr_c]
    cases z : q_rst ip q.1 q.2 st s with
    | none => rfl
    | some w => show q_rr ip (r ++ R2) _ _ = _; rw [ih]
/-- what is skipped does nothing -/
theorem q_cr_sk : ∀ (C : q_Cd) (i nx : Nat) (st : List Int32) (s : Nat → Int32), i + C.length ≤ nx → q_cr ip C i nx st s = some (nx, st, s) := by
  intro C
  induction C with
  | nil => intro i nx st s _; rfl
  | cons q r ih =>
    intro i nx st s h
    have h' : i + 1 + r.length ≤ nx := by simp at h; omega
    rw [q_cr_c]
    rw [if_pos (by omega), ih _ _ _ _ h']
/-- two pieces of code that give one value, the same -/
def q_SG (a : Nat) (C R : q_Cd) : Prop := ∀ (s ip : Nat → Int32), ∃ w, (∀ nx st, nx ≤ a → ∃ nx', nx' ≤ a + C.length ∧ q_cr ip C a nx st s = some (nx', w :: st, s)) ∧ ∀ st, q_rr ip R st s = some (w :: st, s)
theorem q_cr1 {w n : Int32} {i nx : Nat} {st : List Int32} (h : nx ≤ i) {z : List Int32 × (Nat → Int32)} (hz : q_cs ip w n st s = some z) (hs : q_sp9 w st = false) : q_cr ip [(w, n)] i nx st s = some (i + 1, z.1, z.2) := by
  rw [q_cr_c, if_neg (by omega)]
  show (match q_cs ip w n st s with | none => none | some z => q_cr ip [] (i + 1) (if q_sp9 w st = true then n.toNatClampNeg else i + 1) z.1 z.2) = _
  rw [hz, hs]
  rfl
theorem q_rr1 {w n : Int32} {st : List Int32} {z : List Int32 × (Nat → Int32)} (hz : q_rst ip w n st s = some z) : q_rr ip [(w, n)] st s = some z := by
  rw [q_rr_c]
  show (match q_rst ip w n st s with | none => none | some z => q_rr ip [] z.1 z.2) = _
  rw [hz]
  rfl
theorem q_SG_num {a : Nat} (n : Int32) : q_SG a [(0, n)] [(0, n)] := by
  intro s ip
  refine ⟨n, fun nx st h => ⟨a + 1, by simp, q_cr1 h (z := (n :: st, s)) rfl rfl⟩, fun st => q_rr1 rfl⟩
theorem q_SG_out {a : Nat} {i : Nat} (hi : i < 4) : q_SG a [(1, Int32.ofNat i)] [(2, Int32.ofNat i)] := by
  intro s ip
  have h1 : ¬ Int32.ofNat i < 0 := q_onnn (by omega)
  have h2 : Int32.ofNat i < 4 := by rw [q_onltL (by omega) (by omega)]; omega
  refine ⟨s (2000 + i), fun nx st h => ⟨a + 1, by simp, q_cr1 h (z := (s (2000 + i) :: st, s)) ?_ rfl⟩, fun st => q_rr1 ?_⟩
  · unfold q_cs
    rw [if_neg (by decide), if_pos rfl, if_neg h1, if_pos h2, q_onC (by omega)]
  · unfold q_rst
    rw [if_neg (by decide), if_neg (by decide), if_pos rfl, if_neg h1, if_pos h2, q_onC (by omega)]
theorem q_SG_in {a : Nat} {i : Nat} (hi : i < 8) : q_SG a [(2, Int32.ofNat i)] [(1, Int32.ofNat i)] := by
  intro s ip
  have h1 : ¬ Int32.ofNat i < 0 := q_onnn (by omega)
  have h2 : Int32.ofNat i < 8 := by rw [q_onltL (by omega) (by omega)]; omega
  refine ⟨ip i, fun nx st h => ⟨a + 1, by simp, q_cr1 h (z := (ip i :: st, s)) ?_ rfl⟩, fun st => q_rr1 ?_⟩
  · unfold q_cs
    rw [if_neg (by decide), if_neg (by decide), if_pos rfl, if_neg h1, if_pos h2, q_onC (by omega)]
  · unfold q_rst
    rw [if_neg (by decide), if_pos rfl, if_neg h1, if_pos h2, q_onC (by omega)]
theorem q_SG_neg {a : Nat} {C R : q_Cd} (h : q_SG a C R) : q_SG a (C ++ [(3, 0)]) (R ++ [(7, 0)]) := by
  intro s ip
  obtain ⟨w, h1, h2⟩ := h s ip
  refine ⟨-w, fun nx st hn => ?_, fun st => ?_⟩
  · obtain ⟨nx', k1, k2⟩ := h1 nx st hn
    refine ⟨a + C.length + 1, by simp; omega, ?_⟩
    rw [q_cr_ap, k2]
    exact q_cr1 k1 (z := ((-w) :: st, s)) rfl rfl
  · rw [q_rr_ap, h2]
    exact q_rr1 rfl
/-- signs and what the reference writes for them -/
def q_Sn (sg op : Int32) : Prop := (sg = 43 ∧ op = 3) ∨ (sg = 45 ∧ op = 4) ∨ (sg = 42 ∧ op = 5) ∨ (sg = 47 ∧ op = 6) ∨ (sg = 60 ∧ op = 8) ∨ (sg = 62 ∧ op = 9) ∨ (sg = 126 ∧ op = 10)
theorem q_Sn_v {sg op b a : Int32} (h : q_Sn sg op) : q_rk sg b a = q_jn op b a := by
  rcases h with ⟨z, w⟩ | ⟨z, w⟩ | ⟨z, w⟩ | ⟨z, w⟩ | ⟨z, w⟩ | ⟨z, w⟩ | ⟨z, w⟩ <;> subst z <;> subst w <;> rfl
theorem q_SG_bin {a : Nat} {C1 R1 C2 R2 : q_Cd} {sg op : Int32} (h1 : q_SG a C1 R1) (h2 : q_SG (a + C1.length) C2 R2) (hs : q_Sn sg op) : q_SG a (C1 ++ C2 ++ [(sg, 0)]) (R1 ++ R2 ++ [(op, 0)]) := by
  intro s ip
  obtain ⟨w1, p1, p2⟩ := h1 s ip
  obtain ⟨w2, q1, q2⟩ := h2 s ip
  refine ⟨q_rk sg w1 w2, fun nx st hn => ?_, fun st => ?_⟩
  · obtain ⟨nx1, k1, k2⟩ := p1 nx st hn
    obtain ⟨nx2, k3, k4⟩ := q1 nx1 (w1 :: st) k1
    refine ⟨a + (C1 ++ C2).length + 1, by simp; omega, ?_⟩
    rw [q_cr_ap, q_cr_ap, k2]
    show (match q_cr ip C2 (a + C1.length) nx1 (w1 :: st) s with | none => none | some z => q_cr ip [(sg, 0)] (a + (C1 ++ C2).length) z.1 z.2.1 z.2.2) = _
    rw [k4]
    refine q_cr1 (by simp; omega) (z := (q_rk sg w1 w2 :: st, s)) ?_ ?_
    · rcases hs with ⟨z, -⟩ | ⟨z, -⟩ | ⟨z, -⟩ | ⟨z, -⟩ | ⟨z, -⟩ | ⟨z, -⟩ | ⟨z, -⟩ <;> subst z <;> rfl
    · rcases hs with ⟨z, -⟩ | ⟨z, -⟩ | ⟨z, -⟩ | ⟨z, -⟩ | ⟨z, -⟩ | ⟨z, -⟩ | ⟨z, -⟩ <;> subst z <;> rfl
  · rw [q_rr_ap, q_rr_ap, p2]
    show (match q_rr ip R2 (w1 :: st) s with | none => none | some z => q_rr ip [(op, 0)] z.1 z.2) = _
    rw [q2, q_Sn_v hs]
    refine q_rr1 ?_
    rcases hs with ⟨-, z⟩ | ⟨-, z⟩ | ⟨-, z⟩ | ⟨-, z⟩ | ⟨-, z⟩ | ⟨-, z⟩ | ⟨-, z⟩ <;> subst z <;> rfl
theorem q_SG_if {a : Nat} {C0 R0 C1 R1 C2 R2 : q_Cd} (hl : a + C0.length + 1 + C1.length + 1 + C2.length < 2147483648) (h0 : q_SG a C0 R0) (h1 : q_SG (a + C0.length + 1) C1 R1) (h2 : q_SG (a + C0.length + 1 + C1.length + 1) C2 R2) : q_SG a (C0 ++ ((5, Int32.ofNat (a + C0.length + 1 + C1.length + 1)) :: (C1 ++ ((6, Int32.ofNat (a + C0.length + 1 + C1.length + 1 + C2.length)) :: C2)))) (R0 ++ R1 ++ R2 ++ [(11, 0)]) := by
  intro s ip
  obtain ⟨w0, p1, p2⟩ := h0 s ip
  obtain ⟨w1, q1, q2⟩ := h1 s ip
  obtain ⟨w2, r1, r2⟩ := h2 s ip
  refine ⟨if w0 = 0 then w2 else w1, fun nx st hn => ?_, fun st => ?_⟩
  · obtain ⟨nx0, k1, k2⟩ := p1 nx st hn
    have L : (C0 ++ ((5, Int32.ofNat (a + C0.length + 1 + C1.length + 1)) :: (C1 ++ ((6, Int32.ofNat (a + C0.length + 1 + C1.length + 1 + C2.length)) :: C2))) : q_Cd).length = C0.length + 1 + C1.length + 1 + C2.length := by simp; omega
    rw [L, q_cr_ap, k2]
    show ∃ nx', nx' ≤ _ ∧ q_cr ip ((5, Int32.ofNat (a + C0.length + 1 + C1.length + 1)) :: (C1 ++ ((6, Int32.ofNat (a + C0.length + 1 + C1.length + 1 + C2.length)) :: C2))) (a + C0.length) nx0 (w0 :: st) s = _
    rw [q_cr_c, if_neg (by omega)]
    have e5 : q_cs ip 5 (Int32.ofNat (a + C0.length + 1 + C1.length + 1)) (w0 :: st) s = some (st, s) := rfl
    show ∃ nx', nx' ≤ _ ∧ (match q_cs ip 5 (Int32.ofNat (a + C0.length + 1 + C1.length + 1)) (w0 :: st) s with | none => none | some z => q_cr ip (C1 ++ ((6, Int32.ofNat (a + C0.length + 1 + C1.length + 1 + C2.length)) :: C2)) (a + C0.length + 1) (if q_sp9 5 (w0 :: st) = true then (Int32.ofNat (a + C0.length + 1 + C1.length + 1)).toNatClampNeg else a + C0.length + 1) z.1 z.2) = _
    rw [e5, q_onC (by omega)]
    show ∃ nx', nx' ≤ _ ∧ q_cr ip (C1 ++ ((6, Int32.ofNat (a + C0.length + 1 + C1.length + 1 + C2.length)) :: C2)) (a + C0.length + 1) (if q_sp9 5 (w0 :: st) = true then a + C0.length + 1 + C1.length + 1 else a + C0.length + 1) st s = _
    by_cases z : w0 = 0
    · have sk : q_sp9 5 (w0 :: st) = true := by rw [z]; rfl
      rw [if_pos sk, if_pos z, q_cr_ap, q_cr_sk _ _ _ _ _ (by omega)]
      show ∃ nx', nx' ≤ _ ∧ q_cr ip ((6, Int32.ofNat (a + C0.length + 1 + C1.length + 1 + C2.length)) :: C2) (a + C0.length + 1 + C1.length) (a + C0.length + 1 + C1.length + 1) st s = _
      rw [q_cr_c, if_pos (by omega)]
      obtain ⟨nx2, m1, m2⟩ := r1 (a + C0.length + 1 + C1.length + 1) st (by omega)
      exact ⟨nx2, by omega, m2⟩
    · have sk : ¬ q_sp9 5 (w0 :: st) = true := by
        show ¬ decide (w0 = 0) = true
        simp [z]
      rw [if_neg sk, if_neg z, q_cr_ap]
      obtain ⟨nx1, m1, m2⟩ := q1 (a + C0.length + 1) st (by omega)
      rw [m2]
      show ∃ nx', nx' ≤ _ ∧ q_cr ip ((6, Int32.ofNat (a + C0.length + 1 + C1.length + 1 + C2.length)) :: C2) (a + C0.length + 1 + C1.length) nx1 (w1 :: st) s = _
      rw [q_cr_c, if_neg (by omega)]
      show ∃ nx', nx' ≤ _ ∧ q_cr ip C2 (a + C0.length + 1 + C1.length + 1) (Int32.ofNat (a + C0.length + 1 + C1.length + 1 + C2.length)).toNatClampNeg (w1 :: st) s = _
      rw [q_onC (by omega), q_cr_sk _ _ _ _ _ (by omega)]
      exact ⟨_, by omega, rfl⟩
  · rw [q_rr_ap, q_rr_ap, q_rr_ap, p2]
    show (match (match q_rr ip R1 (w0 :: st) s with | none => none | some z => q_rr ip R2 z.1 z.2) with | none => none | some z => q_rr ip [(11, 0)] z.1 z.2) = _
    rw [q2]
    show (match q_rr ip R2 (w1 :: w0 :: st) s with | none => none | some z => q_rr ip [(11, 0)] z.1 z.2) = _
    rw [r2]
    exact q_rr1 rfl
end QBE

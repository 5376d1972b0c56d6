/-! THE RUNNER: the small machine over numbered variables (shared ones of class and reference, own ones), in continuation form; what it gives is a plain function.
Abbreviations are unfolded first where two texts are compared; what a function's text may hold (pj_u, pj_g, pj_b ..) is no abbreviation. -/
/-- an int, a long, a known int, a known long, a known reference, a row -/
abbrev pj_V : Type := Int32 ⊕ Int64 ⊕ Int ⊕ Int ⊕ (Nat × Nat) ⊕ (Nat × Nat)
abbrev pj_I (x : Int32) : pj_V := .inl x
abbrev pj_L (x : Int64) : pj_V := .inr (.inl x)
abbrev pj_N (n : Int) : pj_V := .inr (.inr (.inl n))
abbrev pj_M (n : Int) : pj_V := .inr (.inr (.inr (.inl n)))
abbrev pj_O (q : Nat × Nat) : pj_V := .inr (.inr (.inr (.inr (.inl q))))
abbrev pj_W (q : Nat × Nat) : pj_V := .inr (.inr (.inr (.inr (.inr q))))
abbrev pj_Z : Type := (Nat → Int32) × (Nat → Int64) × (Nat → Int32) × (Nat → Int64)
/-- a cell, or rows of cells: kind, length, how many rows, how numbered (0: base + j; 1: base + length * row + j; 2: base + row + rows * j), shared or own, base, fields (0: shared, 1: own, 2: a reference) -/
abbrev pj_E : Type := Nat × Nat × Nat × Nat × Bool × Nat × List (Nat × Nat)
abbrev pj_nth {α : Type} : List α → Nat → Option α
  | [], _ => none
  | a :: _, 0 => some a
  | _ :: r, n + 1 => pj_nth r n
abbrev pj_as {α : Type} : List (Nat × α) → Nat → Option α
  | [], _ => none
  | q :: r, i => match q.1 == i with
    | true => some q.2
    | false => pj_as r i
abbrev pj_lg (v : pj_V) : Bool := match v with
  | .inr (.inl _) => true
  | .inr (.inr (.inr (.inl _))) => true
  | _ => false
abbrev pj_k1 (i : Nat) : List (Nat × pj_V) → List (Nat × pj_V)
  | [] => []
  | q :: r => match (q.1 == i) || (q.1 + 1 == i && pj_lg q.2) with
    | true => pj_k1 i r
    | false => q :: pj_k1 i r
abbrev pj_k2 (i : Nat) : List (Nat × pj_V) → List (Nat × pj_V)
  | [] => []
  | q :: r => match (q.1 == i) || ((q.1 == i + 1) || (q.1 + 1 == i && pj_lg q.2)) with
    | true => pj_k2 i r
    | false => q :: pj_k2 i r
/-- f, but x at v -/
def pj_u {α : Type} (f : Nat → α) (v : Nat) (x : α) : Nat → α := fun w => if w = v then x else f w
/-- f, but at v, v + 1 .. (n of them) what g has from w on -/
def pj_y {α : Type} (f : Nat → α) (v n : Nat) (g : Nat → α) (w : Nat) : Nat → α := fun a => if v ≤ a ∧ a < v + n then g (w + (a - v)) else f a
def pj_rem (x y : Int32) : Int32 := x - x / y * y
def pj_reml (x y : Int64) : Int64 := x - x / y * y
def pj_shr (x y : Int32) : Int32 := (x.toUInt32 >>> (y.toUInt32 &&& Int32.toUInt32 31)).toInt32
def pj_i2c (x : Int32) : Int32 := (x.toUInt32 % 65536).toInt32
section PJ
variable {A : Type}
def pj_g (j : Int32) (n : Nat) (k : Option A) : Option A := if j < 0 ∨ n ≤ j.toNatClampNeg then none else k
def pj_r (n rows : Nat) (k : Option A) : Option A := if n < rows then k else none
def pj_d (y : Int32) (k : Option A) : Option A := if y = 0 then none else k
def pj_dl (y : Int64) (k : Option A) : Option A := if y = 0 then none else k
def pj_bz (x : Int32) (k : Option A) : Option A := if x = 0 ∨ x = 1 then k else none
def pj_c (sp dp n : Int32) (l1 l2 : Nat) (k : Option A) : Option A := if sp < 0 ∨ dp < 0 ∨ n < 0 ∨ l1 < sp.toNatClampNeg + n.toNatClampNeg ∨ l2 < dp.toNatClampNeg + n.toNatClampNeg then none else k
def pj_b {R : Type} (o : Option (R × pj_Z)) (f : R → (Nat → Int32) → (Nat → Int64) → (Nat → Int32) → (Nat → Int64) → Option A) : Option A := match o with
  | some q => f q.1 q.2.1 q.2.2.1 q.2.2.2.1 q.2.2.2.2
  | none => none
abbrev pj_if (b : Bool) (k : Option A) : Option A := match b with
  | true => k
  | false => none
-- a value as an int, a long, a reference
abbrev pj_vi (v : pj_V) (k : Int32 → Option A) : Option A := match v with
  | .inl x => k x
  | .inr (.inr (.inl n)) => k (Int32.ofInt n)
  | _ => none
abbrev pj_vl (v : pj_V) (k : Int64 → Option A) : Option A := match v with
  | .inr (.inl x) => k x
  | .inr (.inr (.inr (.inl n))) => k (Int64.ofInt n)
  | _ => none
-- what a place in the code, or a callee, takes from locals and stack
abbrev pj_xi (lv : List (Nat × pj_V)) (n : Nat) (f : Int32 → Option A) : Option A := match pj_as lv n with
  | some v => pj_vi v f
  | none => none
abbrev pj_xl (lv : List (Nat × pj_V)) (n : Nat) (f : Int64 → Option A) : Option A := match pj_as lv n with
  | some v => pj_vl v f
  | none => none
abbrev pj_xc (lv : List (Nat × pj_V)) (n : Nat) (c : Int) (f : Option A) : Option A := match pj_as lv n with
  | some (.inr (.inr (.inl m))) => pj_if (m == c) f
  | _ => none
abbrev pj_xr (lv : List (Nat × pj_V)) (n b i : Nat) (f : Option A) : Option A := match pj_as lv n with
  | some (.inr (.inr (.inr (.inr (.inl q))))) => pj_if (q.1 == b && q.2 == i) f
  | _ => none
abbrev pj_vw (v : pj_V) (b : Nat) (f : Nat → Option A) : Option A := match v with
  | .inr (.inr (.inr (.inr (.inl q)))) => pj_if (q.1 == b) (f q.2)
  | .inr (.inr (.inr (.inr (.inr q)))) => pj_if (q.1 == b) (f q.2)
  | _ => none
abbrev pj_xw (lv : List (Nat × pj_V)) (n b : Nat) (f : Nat → Option A) : Option A := match pj_as lv n with
  | some v => pj_vw v b f
  | none => none
abbrev pj_pi (st : List pj_V) (f : Int32 → List pj_V → Option A) : Option A := match st with
  | v :: r => pj_vi v (fun x => f x r)
  | _ => none
abbrev pj_pl (st : List pj_V) (f : Int64 → List pj_V → Option A) : Option A := match st with
  | v :: r => pj_vl v (fun x => f x r)
  | _ => none
abbrev pj_pc (st : List pj_V) (c : Int) (f : List pj_V → Option A) : Option A := match st with
  | .inr (.inr (.inl m)) :: r => pj_if (m == c) (f r)
  | _ => none
abbrev pj_pr (st : List pj_V) (b i : Nat) (f : List pj_V → Option A) : Option A := match st with
  | .inr (.inr (.inr (.inr (.inl q)))) :: r => pj_if (q.1 == b && q.2 == i) (f r)
  | _ => none
abbrev pj_pw (st : List pj_V) (b : Nat) (f : Nat → List pj_V → Option A) : Option A := match st with
  | v :: r => pj_vw v b (fun n => f n r)
  | _ => none
abbrev pj_pe (st : List pj_V) (f : Option A) : Option A := match st with
  | [] => f
  | _ => none
abbrev pj_sum : List pj_V → Nat
  | [] => 0
  | v :: r => match pj_lg v with
    | true => 2 + pj_sum r
    | false => 1 + pj_sum r
abbrev pj_ps (st : List pj_V) (f : Option A) : Option A := pj_if (Nat.ble (pj_sum st) 8) f
/-- what a stretch of code rests on: cells; fields, ints, longs, statics by their words; the outside arrays; how many locals; what is returned (0 nothing, 1 an int, 2 a boolean, 3 a long); what becomes of it; calls by their place; which words are arraycopy -/
abbrev pj_C (A : Type) : Type := (Nat → Option pj_E) × (Nat → Option (Nat × Nat × Nat × Bool)) × (Nat → Option Int) × (Nat → Option Int) × (Nat → Option Nat) × mj_XT × Nat × Nat × (Option pj_V → pj_Z → Option A) × (Nat → Option (List pj_V → pj_Z → (List pj_V → pj_Z → Option A) → Option A)) × (Nat → Bool)
abbrev pj_F (A : Type) : Type := (Nat → Int32) → (Nat → Int64) → (Nat → Int32) → (Nat → Int64) → Option A
abbrev pj_K (A : Type) : Type := List (Nat × pj_V) → List pj_V → pj_Z → Option A
abbrev pj_ix (len rows md base n j : Nat) : Nat := match md with
  | 0 => base + j
  | 1 => base + len * n + j
  | _ => base + n + rows * j
/-- a reference: which cells, which row -/
abbrev pj_vr (v : pj_V) (T : Nat → Option pj_E) (k : Nat → pj_E → Nat → Option A) : Option A := match v with
  | .inr (.inr (.inr (.inr (.inl q)))) => (match T q.1 with
    | some e => pj_if (Nat.blt q.2 e.2.2.1) (k q.1 e q.2)
    | none => none)
  | .inr (.inr (.inr (.inr (.inr q)))) => (match T q.1 with
    | some e => pj_r q.2 e.2.2.1 (k q.1 e q.2)
    | none => none)
  | _ => none
/-- an index: within n -/
abbrev pj_vj (v : pj_V) (n : Nat) (k : Nat → Option A) : Option A := match v with
  | .inl x => pj_g x n (k x.toNatClampNeg)
  | .inr (.inr (.inl m)) => (match m with
    | .ofNat j => pj_if (Nat.blt j n && Nat.ble n 1000000) (k j)
    | .negSucc _ => none)
  | _ => none
abbrev pj_si (fg : Bool) (z : pj_Z) (v : Nat) : Int32 := match fg with
  | true => z.1 v
  | false => z.2.2.1 v
abbrev pj_sl (fg : Bool) (z : pj_Z) (v : Nat) : Int64 := match fg with
  | true => z.2.1 v
  | false => z.2.2.2 v
abbrev pj_wi (fg : Bool) (z : pj_Z) (v : Nat) (x : Int32) : pj_Z := match fg with
  | true => (pj_u z.1 v x, z.2)
  | false => (z.1, z.2.1, pj_u z.2.2.1 v x, z.2.2.2)
abbrev pj_wl (fg : Bool) (z : pj_Z) (v : Nat) (x : Int64) : pj_Z := match fg with
  | true => (z.1, pj_u z.2.1 v x, z.2.2)
  | false => (z.1, z.2.1, z.2.2.1, pj_u z.2.2.2 v x)
abbrev pj_ra (T : Nat → Option pj_E) (kd : Nat) (a j : pj_V) (k : Bool → Nat → Option A) : Option A := pj_vr a T (fun _ e n => pj_if (e.1 == kd) (pj_vj j e.2.1 (fun i => k e.2.2.2.2.1 (pj_ix e.2.1 e.2.2.1 e.2.2.2.1 e.2.2.2.2.2.1 n i))))
/-- a field's word: (class, place, type, final) -/
abbrev pj_fd (T : Nat → Option pj_E) (f : Nat × Nat × Nat × Bool) (a : pj_V) (k : Nat × Nat → Option A) : Option A := match a with
  | .inr (.inr (.inr (.inr (.inl q)))) => (match T q.1 with
    | some e => pj_if (e.1 == f.1 && (Nat.blt f.1 100 && (q.2 == 0 && Nat.blt f.2.1 e.2.1))) (match pj_nth e.2.2.2.2.2.2 f.2.1 with
      | some w => k w
      | none => none)
    | none => none)
  | _ => none
abbrev pj_get (T : Nat → Option pj_E) (f : Nat × Nat × Nat × Bool) (st : List pj_V) (z : pj_Z) (k : List pj_V → Option A) : Option A := match st with
  | a :: r => pj_fd T f a (fun w => match f.2.2.1 with
    | 0 => (match w.1 with
      | 0 => k (pj_I (z.1 w.2) :: r)
      | 1 => k (pj_I (z.2.2.1 w.2) :: r)
      | _ => none)
    | 3 => (match w.1 with
      | 0 => k (pj_I (z.1 w.2) :: r)
      | 1 => k (pj_I (z.2.2.1 w.2) :: r)
      | _ => none)
    | 1 => (match w.1 with
      | 0 => k (pj_L (z.2.1 w.2) :: r)
      | 1 => k (pj_L (z.2.2.2 w.2) :: r)
      | _ => none)
    | 2 => (match w.1 with
      | 2 => k (pj_O (w.2, 0) :: r)
      | _ => none)
    | _ => none)
  | _ => none
/-- a boolean that is stored -/
abbrev pj_vb (v : pj_V) (k : Int32 → Option A) : Option A := match v with
  | .inl x => pj_bz x (k x)
  | .inr (.inr (.inl n)) => pj_if (n == 0 || n == 1) (k (Int32.ofInt n))
  | _ => none
abbrev pj_put (T : Nat → Option pj_E) (f : Nat × Nat × Nat × Bool) (st : List pj_V) (z : pj_Z) (k : List pj_V → pj_Z → Option A) : Option A := match f.2.2.2 with
  | true => none
  | false => (match st with
    | v :: a :: r => pj_fd T f a (fun w => match f.2.2.1 with
      | 0 => pj_vi v (fun x => match w.1 with
        | 0 => k r (pj_u z.1 w.2 x, z.2)
        | 1 => k r (z.1, z.2.1, pj_u z.2.2.1 w.2 x, z.2.2.2)
        | _ => none)
      | 3 => pj_vb v (fun x => match w.1 with
        | 0 => k r (pj_u z.1 w.2 x, z.2)
        | 1 => k r (z.1, z.2.1, pj_u z.2.2.1 w.2 x, z.2.2.2)
        | _ => none)
      | 1 => pj_vl v (fun x => match w.1 with
        | 0 => k r (z.1, pj_u z.2.1 w.2 x, z.2.2)
        | 1 => k r (z.1, z.2.1, z.2.2.1, pj_u z.2.2.2 w.2 x)
        | _ => none)
      | _ => none)
    | _ => none)
/-- an outside array -/
abbrev pj_xo (X : mj_XT) (v : pj_V) : Option (Nat × (Nat → Int32)) := match v with
  | .inr (.inr (.inr (.inr (.inl q)))) => (match Nat.ble 1000000 q.1 && q.2 == 0 with
    | true => (match pj_nth X.1 (q.1 - 1000000) with
      | some e => some e.2.2.2
      | none => none)
    | false => none)
  | _ => none
abbrev pj_ifc (c : Jvm.ClassFile.Cond) (x y : Int32) (a b : Option A) : Option A := match c with
  | .eq => if x = y then a else b
  | .ne => if x = y then b else a
  | .lt => if x < y then a else b
  | .ge => if x < y then b else a
  | .gt => if y < x then a else b
  | .le => if y < x then b else a
abbrev pj_bo (b : Bool) (x y : Option A) : Option A := match b with
  | true => x
  | false => y
abbrev pj_ifn (c : Jvm.ClassFile.Cond) (x y : Int) (a b : Option A) : Option A := match c with
  | .eq => pj_bo (x == y) a b
  | .ne => pj_bo (x == y) b a
  | .lt => pj_bo (decide (x < y)) a b
  | .ge => pj_bo (decide (x < y)) b a
  | .gt => pj_bo (decide (y < x)) a b
  | .le => pj_bo (decide (y < x)) b a
/-- a small known int -/
abbrev pj_sm (n : Int) : Bool := decide (-2147483648 ≤ n) && decide (n ≤ 2147483647)
abbrev pj_cmp (c : Jvm.ClassFile.Cond) (v w : pj_V) (a b : Option A) : Option A := match v, w with
  | .inr (.inr (.inl x)), .inr (.inr (.inl y)) => pj_if (pj_sm x && pj_sm y) (pj_ifn c x y a b)
  | v, w => pj_vi v (fun x => pj_vi w (fun y => pj_ifc c x y a b))
abbrev pj_ifl (c : Jvm.ClassFile.Cond) (x y : Int64) (a b : Option A) : Option A := match c with
  | .eq => if x = y then a else b
  | .ne => if x = y then b else a
  | .lt => if x < y then a else b
  | .ge => if x < y then b else a
  | .gt => if y < x then a else b
  | .le => if y < x then b else a
abbrev pj_to (pc : Nat) (off : Int) (K : Nat → Option A) : Option A := match (pc : Int) + off with
  | .ofNat t => K t
  | .negSucc _ => none
abbrev pj_ts (x : Int32) (d : Option A) (k : Int → Option A) (lo : Int) : List Int → Option A
  | [] => d
  | o :: r => if x = Int32.ofInt lo then k o else pj_ts x d k (lo + 1) r
abbrev pj_lo (x : Int32) (d : Option A) (k : Int → Option A) : List (Int × Int) → Option A
  | [] => d
  | o :: r => if x = Int32.ofInt o.1 then k o.2 else pj_lo x d k r
abbrev pj_i2 (st : List pj_V) (k : Int32 → Int32 → List pj_V → Option A) : Option A := match st with
  | w :: v :: r => pj_vi v (fun x => pj_vi w (fun y => k x y r))
  | _ => none
abbrev pj_l2 (st : List pj_V) (k : Int64 → Int64 → List pj_V → Option A) : Option A := match st with
  | w :: v :: r => pj_vl v (fun x => pj_vl w (fun y => k x y r))
  | _ => none
/-- a divisor -/
abbrev pj_dv (st : List pj_V) (k : Int32 → Int32 → List pj_V → Option A) : Option A := match st with
  | w :: v :: r => pj_vi v (fun x => match w with
    | .inl y => pj_d y (k x y r)
    | .inr (.inr (.inl n)) => pj_if (!(n == 0) && pj_sm n) (k x (Int32.ofInt n) r)
    | _ => none)
  | _ => none
abbrev pj_dvl (st : List pj_V) (k : Int64 → Int64 → List pj_V → Option A) : Option A := match st with
  | w :: v :: r => pj_vl v (fun x => match w with
    | .inr (.inl y) => pj_dl y (k x y r)
    | .inr (.inr (.inr (.inl n))) => pj_if (!(n == 0) && pj_sm n) (k x (Int64.ofInt n) r)
    | _ => none)
  | _ => none
/-- System.arraycopy -/
abbrev pj_fi (fg : Bool) (z : pj_Z) : Nat → Int32 := match fg with
  | true => z.1
  | false => z.2.2.1
abbrev pj_fl (fg : Bool) (z : pj_Z) : Nat → Int64 := match fg with
  | true => z.2.1
  | false => z.2.2.2
abbrev pj_ei (e : pj_E) (n j : Nat) : Nat := pj_ix e.2.1 e.2.2.1 e.2.2.2.1 e.2.2.2.2.2.1 n j
abbrev pj_yi (fg : Bool) (z : pj_Z) (v n : Nat) (g : Nat → Int32) (w : Nat) : pj_Z := match fg with
  | true => (pj_y z.1 v n g w, z.2)
  | false => (z.1, z.2.1, pj_y z.2.2.1 v n g w, z.2.2.2)
abbrev pj_yl (fg : Bool) (z : pj_Z) (v n : Nat) (g : Nat → Int64) (w : Nat) : pj_Z := match fg with
  | true => (z.1, pj_y z.2.1 v n g w, z.2.2)
  | false => (z.1, z.2.1, z.2.2.1, pj_y z.2.2.2 v n g w)
abbrev pj_cw (e e' : pj_E) (i i' sp dp n : Nat) (z : pj_Z) (k : pj_Z → Option A) : Option A := match e'.1 with
  | 100 => k (pj_yi e'.2.2.2.2.1 z (pj_ei e' i' dp) n (pj_fi e.2.2.2.2.1 z) (pj_ei e i sp))
  | 101 => k (pj_yl e'.2.2.2.2.1 z (pj_ei e' i' dp) n (pj_fl e.2.2.2.2.1 z) (pj_ei e i sp))
  | _ => none
/-- a place or a number in a copy: its int (for the guard) and its natural number -/
abbrev pj_vn (v : pj_V) (k : Int32 → Nat → Option A) : Option A := match v with
  | .inl x => k x x.toNatClampNeg
  | .inr (.inr (.inl (.ofNat n))) => pj_if (Nat.ble n 1000000) (k (Int32.ofInt (.ofNat n)) n)
  | _ => none
abbrev pj_cn (sp dp n : pj_V) (l1 l2 : Nat) (k : Nat → Nat → Nat → Option A) : Option A := pj_vn sp (fun sp sp' => pj_vn dp (fun dp dp' => pj_vn n (fun n n' => pj_c sp dp n l1 l2 (k sp' dp' n'))))
abbrev pj_cp (c : pj_C A) (st : List pj_V) (z : pj_Z) (k : List pj_V → pj_Z → Option A) : Option A := match st with
  | n :: dp :: a' :: sp :: a :: r => pj_ps r (match pj_xo c.2.2.2.2.2.1 a with
    | some q => pj_vr a' c.1 (fun _ e' i' => pj_if (Nat.ble e'.2.2.2.1 1 && e'.1 == 100) (pj_cn sp dp n q.1 e'.2.1 (fun sp dp n => k r (pj_yi e'.2.2.2.2.1 z (pj_ei e' i' dp) n q.2 sp))))
    | none => pj_vr a c.1 (fun _ e i => pj_vr a' c.1 (fun _ e' i' => pj_if (Nat.ble e.2.2.2.1 1 && (Nat.ble e'.2.2.2.1 1 && e.1 == e'.1)) (pj_cn sp dp n e.2.1 e'.2.1 (fun sp dp n => pj_cw e e' i i' sp dp n z (fun z => k r z))))))
  | _ => none
abbrev pj_ld (lv : List (Nat × pj_V)) (n : Nat) (k : pj_V → Option A) : Option A := match pj_as lv n with
  | some v => k v
  | none => none
abbrev pj_isI (v : pj_V) : Bool := match v with
  | .inl _ => true
  | .inr (.inr (.inl _)) => true
  | _ => false
abbrev pj_isR (v : pj_V) : Bool := match v with
  | .inr (.inr (.inr (.inr _))) => true
  | _ => false
abbrev pj_i1 (st : List pj_V) (k : Int32 → List pj_V → Option A) : Option A := match st with
  | v :: r => pj_vi v (fun x => k x r)
  | _ => none
/-- one instruction; nx: what follows it, K: what follows a jump -/
abbrev pj_st (c : pj_C A) (i : Instr) (r9 : List (Nat × Instr × Nat)) (pc : Nat) (lv : List (Nat × pj_V)) (st : List pj_V) (z : pj_Z) (nx : pj_K A) (K : Nat → pj_K A) : Option A := match i with
  | .aload_n n => pj_ld lv (n : Nat) (fun v => pj_if (pj_isR v) (nx lv (v :: st) z))
  | .aload n => pj_ld lv n (fun v => pj_if (pj_isR v) (nx lv (v :: st) z))
  | .iload_n n => pj_ld lv (n : Nat) (fun v => pj_if (pj_isI v) (nx lv (v :: st) z))
  | .iload n => pj_ld lv n (fun v => pj_if (pj_isI v) (nx lv (v :: st) z))
  | .lload_n n => pj_ld lv (n : Nat) (fun v => pj_if (pj_lg v) (nx lv (v :: st) z))
  | .lload n => pj_ld lv n (fun v => pj_if (pj_lg v) (nx lv (v :: st) z))
  | .getfield ix => (match c.2.1 ix with
    | some f => pj_get c.1 f st z (fun st => nx lv st z)
    | none => none)
  | .putfield ix => (match c.2.1 ix with
    | some f => pj_put c.1 f st z (fun st z => nx lv st z)
    | none => none)
  | .iconst n => nx lv (pj_N n :: st) z
  | .bipush n => pj_if (decide (-128 ≤ n) && decide (n ≤ 127)) (nx lv (pj_N n :: st) z)
  | .sipush n => pj_if (decide (-32768 ≤ n) && decide (n ≤ 32767)) (nx lv (pj_N n :: st) z)
  | .lconst n => nx lv (pj_M (n : Nat) :: st) z
  | .ldc ix => (match c.2.2.1 ix with
    | some v => nx lv (pj_N v :: st) z
    | none => (match c.2.2.2.2.1 ix with
      | some v => pj_if (Nat.ble c.2.2.2.2.2.1.1.length v && (Nat.ble 1000000 v && Nat.blt v 2000000)) (nx lv (pj_O (1000000 + v, 0) :: st) z)
      | none => none))
  | .ldc_w ix => (match c.2.2.1 ix with
    | some v => nx lv (pj_N v :: st) z
    | none => none)
  | .ldc2_w ix => (match c.2.2.2.1 ix with
    | some v => nx lv (pj_M v :: st) z
    | none => none)
  | .ifCond k off => (match st with
    | v :: r => pj_cmp k v (pj_N 0) (pj_to pc off (fun t => K t lv r z)) (K (pc + 3) lv r z)
    | _ => none)
  | .if_icmp k off => (match st with
    | w :: v :: r => pj_cmp k v w (pj_to pc off (fun t => K t lv r z)) (K (pc + 3) lv r z)
    | _ => none)
  | .goto off => pj_to pc off (fun t => K t lv st z)
  | .invokevirtual _ => (match c.2.2.2.2.2.2.2.2.2.1 pc with
    | some h => h st z (fun st z => nx lv st z)
    | none => none)
  | .invokestatic ix => (match c.2.2.2.2.2.2.2.2.2.2 ix with
    | true => pj_cp c st z (fun st z => nx lv st z)
    | false => (match c.2.2.2.2.2.2.2.2.2.1 pc with
      | some h => h st z (fun st z => nx lv st z)
      | none => none))
  | .iaload => (match st with
    | j :: a :: r => (match pj_xo c.2.2.2.2.2.1 a with
      | some q => pj_vj j q.1 (fun i => nx lv (pj_I (q.2 i) :: r) z)
      | none => pj_ra c.1 100 a j (fun fg v => nx lv (pj_I (pj_si fg z v) :: r) z))
    | _ => none)
  | .baload => (match st with
    | j :: a :: r => pj_ra c.1 102 a j (fun fg v => nx lv (pj_I (pj_si fg z v) :: r) z)
    | _ => none)
  | .laload => (match st with
    | j :: a :: r => pj_ra c.1 101 a j (fun fg v => nx lv (pj_L (pj_sl fg z v) :: r) z)
    | _ => none)
  | .aaload => (match st with
    | j :: a :: r => pj_vr a c.1 (fun _ e _ => pj_if (e.1 == 103 || e.1 == 104) (match j with
      | .inl x => pj_g x e.2.1 (nx lv (pj_W (e.2.2.2.2.2.1, x.toNatClampNeg) :: r) z)
      | .inr (.inr (.inl (.ofNat i))) => pj_if (Nat.blt i e.2.1 && Nat.ble e.2.1 1000000) (nx lv (pj_O (e.2.2.2.2.2.1, i) :: r) z)
      | _ => none))
    | _ => none)
  | .iastore => (match st with
    | v :: j :: a :: r => pj_ra c.1 100 a j (fun fg w => pj_vi v (fun x => nx lv r (pj_wi fg z w x)))
    | _ => none)
  | .bastore => (match st with
    | v :: j :: a :: r => pj_ra c.1 102 a j (fun fg w => pj_vb v (fun x => nx lv r (pj_wi fg z w x)))
    | _ => none)
  | .lastore => (match st with
    | v :: j :: a :: r => pj_ra c.1 101 a j (fun fg w => pj_vl v (fun x => nx lv r (pj_wl fg z w x)))
    | _ => none)
  | .arraylength => (match st with
    | a :: r => (match pj_xo c.2.2.2.2.2.1 a with
      | some q => nx lv (pj_N (q.1 : Nat) :: r) z
      | none => pj_vr a c.1 (fun _ e _ => pj_if (Nat.ble 100 e.1 && Nat.ble e.1 104) (nx lv (pj_N (e.2.1 : Nat) :: r) z)))
    | _ => none)
  | .ireturn => (match st with
    | [v] => (match c.2.2.2.2.2.2.2.1 with
      | 1 => pj_vi v (fun x => c.2.2.2.2.2.2.2.2.1 (some (pj_I x)) z)
      | 2 => pj_vb v (fun x => c.2.2.2.2.2.2.2.2.1 (some (pj_I x)) z)
      | _ => none)
    | _ => none)
  | .lreturn => (match st with
    | [v] => (match c.2.2.2.2.2.2.2.1 with
      | 3 => pj_vl v (fun x => c.2.2.2.2.2.2.2.2.1 (some (pj_L x)) z)
      | _ => none)
    | _ => none)
  | .return_ => (match st with
    | [] => (match c.2.2.2.2.2.2.2.1 with
      | 0 => c.2.2.2.2.2.2.2.2.1 none z
      | _ => none)
    | _ => none)
  | .istore_n n => (match st with
    | v :: r => pj_if (pj_isI v && Nat.blt (n : Nat) c.2.2.2.2.2.2.1) (nx (((n : Nat), v) :: pj_k1 (n : Nat) lv) r z)
    | _ => none)
  | .istore n => (match st with
    | v :: r => pj_if (pj_isI v && Nat.blt n c.2.2.2.2.2.2.1) (nx ((n, v) :: pj_k1 n lv) r z)
    | _ => none)
  | .astore_n n => (match st with
    | v :: r => pj_if (pj_isR v && Nat.blt (n : Nat) c.2.2.2.2.2.2.1) (nx (((n : Nat), v) :: pj_k1 (n : Nat) lv) r z)
    | _ => none)
  | .astore n => (match st with
    | v :: r => pj_if (pj_isR v && Nat.blt n c.2.2.2.2.2.2.1) (nx ((n, v) :: pj_k1 n lv) r z)
    | _ => none)
  | .lstore_n n => (match st with
    | v :: r => pj_if (pj_lg v && Nat.blt ((n : Nat) + 1) c.2.2.2.2.2.2.1) (nx (((n : Nat), v) :: pj_k2 (n : Nat) lv) r z)
    | _ => none)
  | .lstore n => (match st with
    | v :: r => pj_if (pj_lg v && Nat.blt (n + 1) c.2.2.2.2.2.2.1) (nx ((n, v) :: pj_k2 n lv) r z)
    | _ => none)
  | .iinc n m => pj_ld lv n (fun v => pj_vi v (fun x => pj_if (Nat.blt n c.2.2.2.2.2.2.1) (nx ((n, pj_I (x + Int32.ofInt m)) :: pj_k1 n lv) st z)))
  | .getstatic ix => (match c.2.2.2.2.1 ix with
    | some v => pj_if (Nat.blt v c.2.2.2.2.2.1.1.length) (nx lv (pj_O (1000000 + v, 0) :: st) z)
    | none => none)
  | .iadd => pj_i2 st (fun x y r => nx lv (pj_I (x + y) :: r) z)
  | .isub => pj_i2 st (fun x y r => nx lv (pj_I (x - y) :: r) z)
  | .imul => pj_i2 st (fun x y r => nx lv (pj_I (x * y) :: r) z)
  | .idiv => pj_dv st (fun x y r => nx lv (pj_I (x / y) :: r) z)
  | .irem => pj_dv st (fun x y r => nx lv (pj_I (pj_rem x y) :: r) z)
  | .iand => pj_i2 st (fun x y r => nx lv (pj_I (x &&& y) :: r) z)
  | .ior => pj_i2 st (fun x y r => nx lv (pj_I (x ||| y) :: r) z)
  | .ixor => pj_i2 st (fun x y r => nx lv (pj_I (x ^^^ y) :: r) z)
  | .ishl => pj_i2 st (fun x y r => nx lv (pj_I (x <<< (y &&& 31)) :: r) z)
  | .ishr => pj_i2 st (fun x y r => nx lv (pj_I (x >>> (y &&& 31)) :: r) z)
  | .iushr => pj_i2 st (fun x y r => nx lv (pj_I (pj_shr x y) :: r) z)
  | .ineg => pj_i1 st (fun x r => nx lv (pj_I (-x) :: r) z)
  | .i2l => (match st with
    | .inl x :: r => nx lv (pj_L x.toInt64 :: r) z
    | .inr (.inr (.inl n)) :: r => pj_if (pj_sm n) (nx lv (pj_M n :: r) z)
    | _ => none)
  | .i2s => pj_i1 st (fun x r => nx lv (pj_I x.toInt16.toInt32 :: r) z)
  | .i2b => pj_i1 st (fun x r => nx lv (pj_I x.toInt8.toInt32 :: r) z)
  | .i2c => pj_i1 st (fun x r => nx lv (pj_I (pj_i2c x) :: r) z)
  | .l2i => (match st with
    | v :: r => pj_vl v (fun x => nx lv (pj_I x.toInt32 :: r) z)
    | _ => none)
  | .ladd => pj_l2 st (fun x y r => nx lv (pj_L (x + y) :: r) z)
  | .lsub => pj_l2 st (fun x y r => nx lv (pj_L (x - y) :: r) z)
  | .lmul => pj_l2 st (fun x y r => nx lv (pj_L (x * y) :: r) z)
  | .lor => pj_l2 st (fun x y r => nx lv (pj_L (x ||| y) :: r) z)
  | .lxor => pj_l2 st (fun x y r => nx lv (pj_L (x ^^^ y) :: r) z)
  | .ldiv => pj_dvl st (fun x y r => nx lv (pj_L (x / y) :: r) z)
  | .lrem => pj_dvl st (fun x y r => nx lv (pj_L (pj_reml x y) :: r) z)
  | .lshl => (match st with
    | w :: v :: r => pj_vl v (fun x => pj_vi w (fun y => nx lv (pj_L (x <<< (y.toInt64 &&& 63)) :: r) z))
    | _ => none)
  | .lshr => (match st with
    | w :: v :: r => pj_vl v (fun x => pj_vi w (fun y => nx lv (pj_L (x >>> (y.toInt64 &&& 63)) :: r) z))
    | _ => none)
  | .dup => (match st with
    | v :: r => pj_if (!(pj_lg v)) (nx lv (v :: v :: r) z)
    | _ => none)
  | .pop => (match st with
    | v :: r => pj_if (!(pj_lg v)) (nx lv r z)
    | _ => none)
  | .dup2 => (match st with
    | v :: w :: r => pj_if (!(pj_lg v) && !(pj_lg w)) (nx lv (v :: w :: v :: w :: r) z)
    | _ => none)
  | .lcmp => pj_l2 st (fun x y r => (match r9 with
    | q :: _ => (match q.2.1 with
      | .ifCond k off => pj_ifl k x y (pj_to (pc + 1) off (fun t => K t lv r z)) (K (pc + 1 + 3) lv r z)
      | _ => none)
    | _ => none))
  | .tableswitch d lo hi offs => pj_i1 st (fun x r => pj_if (pj_sm lo && (pj_sm hi && hi + 1 == lo + (offs.toList.length : Nat))) (pj_ts x (pj_to pc d (fun t => K t lv r z)) (fun off => pj_to pc off (fun t => K t lv r z)) lo offs.toList))
  | .lookupswitch d ps => pj_i1 st (fun x r => pj_if (ps.toList.all (fun q => pj_sm q.1) && (ps.toList.zip (ps.toList.drop 1)).all (fun (a, next) => a.1 < next.1)) (pj_lo x (pj_to pc d (fun t => K t lv r z)) (fun off => pj_to pc off (fun t => K t lv r z)) ps.toList))
  | _ => none
abbrev pj_bl (c : pj_C A) (K : Nat → pj_K A) : List (Nat × Instr × Nat) → Nat → List (Nat × pj_V) → List pj_V → pj_Z → Option A
  | [], pc, lv, st, z => K pc lv st z
  | q :: r, pc, lv, st, z => pj_st c q.2.1 r pc lv st z (fun lv st z => pj_bl c K r (pc + q.2.2) lv st z) K
abbrev pj_rn (c : pj_C A) (B : Nat → Option (List (Nat × Instr × Nat))) (E : Nat → Option (pj_K A)) : Nat → Nat → pj_K A
  | 0, _, _, _, _ => none
  | n + 1, pc, lv, st, z => match E pc with
    | some f => f lv st z
    | none => match B pc with
      | some b => pj_bl c (pj_rn c B E n) b pc lv st z
      | none => none
end PJ
abbrev pj_mI (r : Option pj_V) (z : pj_Z) : Option (Int32 × pj_Z) := match r with
  | some (.inl v) => some (v, z)
  | _ => none
abbrev pj_mL (r : Option pj_V) (z : pj_Z) : Option (Int64 × pj_Z) := match r with
  | some (.inr (.inl v)) => some (v, z)
  | _ => none
abbrev pj_mU (r : Option pj_V) (z : pj_Z) : Option (Unit × pj_Z) := match r with
  | none => some ((), z)
  | _ => none

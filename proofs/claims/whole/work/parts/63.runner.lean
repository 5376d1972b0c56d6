/-! THE RUNNER: the small machine over numbered variables (shared ones of class and reference, own ones), in continuation form; what it gives is a plain function -/
abbrev pj_V : Type := Int32 ⊕ Int64 ⊕ (Nat × Nat)
abbrev pj_Z : Type := (Nat → Int32) × (Nat → Int64) × (Nat → Int32) × (Nat → Int64)
/-- a cell, or rows of cells: kind, length, how many rows, how numbered (0: base + j; 1: base + length * row + j; 2: base + row + rows * j), shared or own, base, fields (0: shared, 1: own, 2: a reference) -/
abbrev pj_E : Type := Nat × Nat × Nat × Nat × Bool × Nat × List (Nat × Nat)
def pj_nth {α : Type} : List α → Nat → Option α
  | [], _ => none
  | a :: _, 0 => some a
  | _ :: r, n + 1 => pj_nth r n
def pj_as {α : Type} : List (Nat × α) → Nat → Option α
  | [], _ => none
  | q :: r, i => bif q.1 == i then some q.2 else pj_as r i
def pj_lg (v : pj_V) : Bool := match v with
  | .inr (.inl _) => true
  | _ => false
def pj_k1 (i : Nat) : List (Nat × pj_V) → List (Nat × pj_V)
  | [] => []
  | q :: r => bif (q.1 == i) || (q.1 + 1 == i && pj_lg q.2) then pj_k1 i r else q :: pj_k1 i r
def pj_k2 (i : Nat) : List (Nat × pj_V) → List (Nat × pj_V)
  | [] => []
  | q :: r => bif (q.1 == i) || ((q.1 == i + 1) || (q.1 + 1 == i && pj_lg q.2)) then pj_k2 i r else q :: pj_k2 i r
/-- f, but x at v -/
def pj_u {α : Type} (f : Nat → α) (v : Nat) (x : α) : Nat → α := fun w => if w = v then x else f w
/-- f, but at v, v + 1 .. (n of them) what g has from w on -/
def pj_y {α : Type} (f : Nat → α) (v n : Nat) (g : Nat → α) (w : Nat) : Nat → α := fun a => if v ≤ a ∧ a < v + n then g (w + (a - v)) else f a
section PJ
variable {A : Type}
def pj_g (j : Int32) (n : Nat) (k : Option A) : Option A := if j < 0 ∨ n ≤ j.toNatClampNeg then none else k
def pj_r (n rows : Nat) (k : Option A) : Option A := if n < rows then k else none
def pj_d (y : Int32) (k : Option A) : Option A := if y = 0 then none else k
def pj_dl (y : Int64) (k : Option A) : Option A := if y = 0 then none else k
def pj_bz (x : Int32) (k : Option A) : Option A := if x = 0 ∨ x = 1 then k else none
def pj_b {R : Type} (o : Option (R × pj_Z)) (f : R → (Nat → Int32) → (Nat → Int64) → (Nat → Int32) → (Nat → Int64) → Option A) : Option A := match o with
  | some q => f q.1 q.2.1 q.2.2.1 q.2.2.2.1 q.2.2.2.2
  | none => none
-- what a place in the code, or a callee, takes from locals and stack
def pj_xi (lv : List (Nat × pj_V)) (n : Nat) (f : Int32 → Option A) : Option A := match pj_as lv n with
  | some (.inl v) => f v
  | _ => none
def pj_xl (lv : List (Nat × pj_V)) (n : Nat) (f : Int64 → Option A) : Option A := match pj_as lv n with
  | some (.inr (.inl v)) => f v
  | _ => none
def pj_xr (lv : List (Nat × pj_V)) (n b i : Nat) (f : Option A) : Option A := match pj_as lv n with
  | some (.inr (.inr q)) => if q.1 = b ∧ q.2 = i then f else none
  | _ => none
def pj_xw (lv : List (Nat × pj_V)) (n b : Nat) (f : Nat → Option A) : Option A := match pj_as lv n with
  | some (.inr (.inr q)) => if q.1 = b then f q.2 else none
  | _ => none
def pj_pi (st : List pj_V) (f : Int32 → List pj_V → Option A) : Option A := match st with
  | .inl v :: r => f v r
  | _ => none
def pj_pl (st : List pj_V) (f : Int64 → List pj_V → Option A) : Option A := match st with
  | .inr (.inl v) :: r => f v r
  | _ => none
def pj_pr (st : List pj_V) (b i : Nat) (f : List pj_V → Option A) : Option A := match st with
  | .inr (.inr q) :: r => if q.1 = b ∧ q.2 = i then f r else none
  | _ => none
def pj_pw (st : List pj_V) (b : Nat) (f : Nat → List pj_V → Option A) : Option A := match st with
  | .inr (.inr q) :: r => if q.1 = b then f q.2 r else none
  | _ => none
def pj_pe (st : List pj_V) (f : Option A) : Option A := match st with
  | [] => f
  | _ => none
def pj_sum : List pj_V → Nat
  | [] => 0
  | v :: r => (bif pj_lg v then 2 else 1) + pj_sum r
def pj_ps (st : List pj_V) (f : Option A) : Option A := if pj_sum st ≤ 8 then f else none
/-- what a stretch of code rests on: cells; fields, ints, longs, statics by their words; the outside arrays; how many locals; what is returned (0 nothing, 1 an int, 2 a boolean, 3 a long); what becomes of it; calls by their place; which words are arraycopy -/
abbrev pj_C (A : Type) : Type := (Nat → Option pj_E) × (Nat → Option (Nat × Nat × Nat × Bool)) × (Nat → Option Int32) × (Nat → Option Int64) × (Nat → Option Nat) × mj_XT × Nat × Nat × (Option pj_V → pj_Z → Option A) × (Nat → Option (List pj_V → pj_Z → (List pj_V → pj_Z → Option A) → Option A)) × (Nat → Bool)
abbrev pj_K (A : Type) : Type := List (Nat × pj_V) → List pj_V → pj_Z → Option A
def pj_ix (len rows md base n j : Nat) : Nat := match md with
  | 0 => base + j
  | 1 => base + len * n + j
  | _ => base + n + rows * j
def pj_ra (T : Nat → Option pj_E) (kd b n : Nat) (j : Int32) (k : Bool → Nat → Option A) : Option A := match T b with
  | some e => bif e.1 == kd then pj_r n e.2.2.1 (pj_g j e.2.1 (k e.2.2.2.2.1 (pj_ix e.2.1 e.2.2.1 e.2.2.2.1 e.2.2.2.2.2.1 n j.toNatClampNeg))) else none
  | none => none
def pj_si (fg : Bool) (z : pj_Z) (v : Nat) : Int32 := bif fg then z.1 v else z.2.2.1 v
def pj_sl (fg : Bool) (z : pj_Z) (v : Nat) : Int64 := bif fg then z.2.1 v else z.2.2.2 v
def pj_wi (fg : Bool) (z : pj_Z) (v : Nat) (x : Int32) : pj_Z := bif fg then (pj_u z.1 v x, z.2) else (z.1, z.2.1, pj_u z.2.2.1 v x, z.2.2.2)
def pj_wl (fg : Bool) (z : pj_Z) (v : Nat) (x : Int64) : pj_Z := bif fg then (z.1, pj_u z.2.1 v x, z.2.2) else (z.1, z.2.1, z.2.2.1, pj_u z.2.2.2 v x)
def pj_fd (T : Nat → Option pj_E) (f : Nat × Nat × Nat × Bool) (b n : Nat) (k : Nat × Nat → Option A) : Option A := match T b with
  | some e => bif e.1 == f.1 && Nat.blt f.1 100 then pj_r n e.2.2.1 (bif Nat.blt f.2.1 e.2.1 then (match pj_nth e.2.2.2.2.2.2 f.2.1 with
    | some q => k q
    | none => none) else none) else none
  | none => none
def pj_get (T : Nat → Option pj_E) (f : Nat × Nat × Nat × Bool) (st : List pj_V) (z : pj_Z) (k : List pj_V → Option A) : Option A := match st with
  | .inr (.inr q) :: r => pj_fd T f q.1 q.2 (fun w => match f.2.2.1 with
    | 0 => (match w.1 with
      | 0 => k (.inl (z.1 w.2) :: r)
      | 1 => k (.inl (z.2.2.1 w.2) :: r)
      | _ => none)
    | 3 => (match w.1 with
      | 0 => k (.inl (z.1 w.2) :: r)
      | 1 => k (.inl (z.2.2.1 w.2) :: r)
      | _ => none)
    | 1 => (match w.1 with
      | 0 => k (.inr (.inl (z.2.1 w.2)) :: r)
      | 1 => k (.inr (.inl (z.2.2.2 w.2)) :: r)
      | _ => none)
    | 2 => (match w.1 with
      | 2 => k (.inr (.inr (w.2, 0)) :: r)
      | _ => none)
    | _ => none)
  | _ => none
def pj_put (T : Nat → Option pj_E) (f : Nat × Nat × Nat × Bool) (st : List pj_V) (z : pj_Z) (k : List pj_V → pj_Z → Option A) : Option A := bif f.2.2.2 then none else match st with
  | .inl x :: .inr (.inr q) :: r => pj_fd T f q.1 q.2 (fun w => match f.2.2.1 with
    | 0 => (match w.1 with
      | 0 => k r (pj_u z.1 w.2 x, z.2)
      | 1 => k r (z.1, z.2.1, pj_u z.2.2.1 w.2 x, z.2.2.2)
      | _ => none)
    | 3 => pj_bz x (match w.1 with
      | 0 => k r (pj_u z.1 w.2 x, z.2)
      | 1 => k r (z.1, z.2.1, pj_u z.2.2.1 w.2 x, z.2.2.2)
      | _ => none)
    | _ => none)
  | .inr (.inl x) :: .inr (.inr q) :: r => pj_fd T f q.1 q.2 (fun w => match f.2.2.1 with
    | 1 => (match w.1 with
      | 0 => k r (z.1, pj_u z.2.1 w.2 x, z.2.2)
      | 1 => k r (z.1, z.2.1, z.2.2.1, pj_u z.2.2.2 w.2 x)
      | _ => none)
    | _ => none)
  | _ => none
def pj_xo (X : mj_XT) (b n : Nat) : Option (Nat × (Nat → Int32)) := bif Nat.ble 1000000 b && n == 0 then (pj_nth X (b - 1000000)).map (fun q => q.2.2.2) else none
def pj_ifc (c : Jvm.ClassFile.Cond) (x y : Int32) (a b : Option A) : Option A := match c with
  | .eq => if x = y then a else b
  | .ne => if x = y then b else a
  | .lt => if x < y then a else b
  | .ge => if x < y then b else a
  | .gt => if y < x then a else b
  | .le => if y < x then b else a
def pj_ifl (c : Jvm.ClassFile.Cond) (x y : Int64) (a b : Option A) : Option A := match c with
  | .eq => if x = y then a else b
  | .ne => if x = y then b else a
  | .lt => if x < y then a else b
  | .ge => if x < y then b else a
  | .gt => if y < x then a else b
  | .le => if y < x then b else a
def pj_to (pc : Nat) (off : Int) (K : Nat → Option A) : Option A := match (pc : Int) + off with
  | .ofNat t => K t
  | .negSucc _ => none
def pj_ts (x : Int32) (d : Option A) (k : Int → Option A) (lo : Int) : List Int → Option A
  | [] => d
  | o :: r => if x = Int32.ofInt lo then k o else pj_ts x d k (lo + 1) r
def pj_lo (x : Int32) (d : Option A) (k : Int → Option A) : List (Int × Int) → Option A
  | [] => d
  | o :: r => if x = Int32.ofInt o.1 then k o.2 else pj_lo x d k r
def pj_i2 (st : List pj_V) (k : Int32 → Int32 → List pj_V → Option A) : Option A := match st with
  | .inl y :: .inl x :: r => k x y r
  | _ => none
def pj_l2 (st : List pj_V) (k : Int64 → Int64 → List pj_V → Option A) : Option A := match st with
  | .inr (.inl y) :: .inr (.inl x) :: r => k x y r
  | _ => none
def pj_aa (T : Nat → Option pj_E) (b n : Nat) (j : Int32) (k : Nat → Option A) : Option A := match T b with
  | some e => bif e.1 == 103 || e.1 == 104 then pj_r n e.2.2.1 (pj_g j e.2.1 (k e.2.2.2.2.2.1)) else none
  | none => none
def pj_al (T : Nat → Option pj_E) (b n : Nat) (k : Nat → Option A) : Option A := match T b with
  | some e => bif Nat.ble 100 e.1 then pj_r n e.2.2.1 (k e.2.1) else none
  | none => none
/-- System.arraycopy -/
def pj_cp (c : pj_C A) (st : List pj_V) (z : pj_Z) (k : List pj_V → pj_Z → Option A) : Option A := match st with
  | .inl n :: .inl dp :: .inr (.inr q') :: .inl sp :: .inr (.inr q) :: r => match c.1 q'.1 with
    | some e' => bif Nat.ble e'.2.2.2.1 1 && Nat.ble (pj_sum r) 8 then pj_r q'.2 e'.2.2.1 (match c.1 q.1 with
      | some e => bif Nat.ble e.2.2.2.1 1 && (e.1 == e'.1) then pj_r q.2 e.2.2.1 (
          if sp < 0 ∨ dp < 0 ∨ n < 0 ∨ e.2.1 < sp.toNatClampNeg + n.toNatClampNeg ∨ e'.2.1 < dp.toNatClampNeg + n.toNatClampNeg then none
          else bif e'.1 == 100 then
            k r (bif e'.2.2.2.2.1 then (pj_y z.1 (pj_ix e'.2.1 e'.2.2.1 e'.2.2.2.1 e'.2.2.2.2.2.1 q'.2 dp.toNatClampNeg) n.toNatClampNeg (bif e.2.2.2.2.1 then z.1 else z.2.2.1) (pj_ix e.2.1 e.2.2.1 e.2.2.2.1 e.2.2.2.2.2.1 q.2 sp.toNatClampNeg), z.2)
              else (z.1, z.2.1, pj_y z.2.2.1 (pj_ix e'.2.1 e'.2.2.1 e'.2.2.2.1 e'.2.2.2.2.2.1 q'.2 dp.toNatClampNeg) n.toNatClampNeg (bif e.2.2.2.2.1 then z.1 else z.2.2.1) (pj_ix e.2.1 e.2.2.1 e.2.2.2.1 e.2.2.2.2.2.1 q.2 sp.toNatClampNeg), z.2.2.2))
          else bif e'.1 == 101 then
            k r (bif e'.2.2.2.2.1 then (z.1, pj_y z.2.1 (pj_ix e'.2.1 e'.2.2.1 e'.2.2.2.1 e'.2.2.2.2.2.1 q'.2 dp.toNatClampNeg) n.toNatClampNeg (bif e.2.2.2.2.1 then z.2.1 else z.2.2.2) (pj_ix e.2.1 e.2.2.1 e.2.2.2.1 e.2.2.2.2.2.1 q.2 sp.toNatClampNeg), z.2.2)
              else (z.1, z.2.1, z.2.2.1, pj_y z.2.2.2 (pj_ix e'.2.1 e'.2.2.1 e'.2.2.2.1 e'.2.2.2.2.2.1 q'.2 dp.toNatClampNeg) n.toNatClampNeg (bif e.2.2.2.2.1 then z.2.1 else z.2.2.2) (pj_ix e.2.1 e.2.2.1 e.2.2.2.1 e.2.2.2.2.2.1 q.2 sp.toNatClampNeg)))
          else none) else none
      | none => none) else none
    | none => none
  | _ => none
/-- one instruction; nx: what follows it, K: what follows a jump, R: what is returned -/
def pj_st (c : pj_C A) (i : Instr) (r9 : List (Nat × Instr × Nat)) (pc : Nat) (lv : List (Nat × pj_V)) (st : List pj_V) (z : pj_Z) (nx : pj_K A) (K : Nat → pj_K A) : Option A := match i with
  | .aload_n n => (match pj_as lv (n : Nat) with
    | some (.inr (.inr q)) => nx lv (.inr (.inr q) :: st) z
    | _ => none)
  | .getfield ix => (match c.2.1 ix with
    | some f => pj_get c.1 f st z (fun st => nx lv st z)
    | none => none)
  | .iconst n => nx lv (.inl (Int32.ofInt n) :: st) z
  | .iload_n n => (match pj_as lv (n : Nat) with
    | some (.inl x) => nx lv (.inl x :: st) z
    | _ => none)
  | .bipush n => nx lv (.inl (Int8.ofInt n).toInt32 :: st) z
  | .putfield ix => (match c.2.1 ix with
    | some f => pj_put c.1 f st z (fun st z => nx lv st z)
    | none => none)
  | .ifCond k off => (match st with
    | .inl x :: r => pj_ifc k x 0 (pj_to pc off (fun t => K t lv r z)) (K (pc + 3) lv r z)
    | _ => none)
  | .if_icmp k off => pj_i2 st (fun x y r => pj_ifc k x y (pj_to pc off (fun t => K t lv r z)) (K (pc + 3) lv r z))
  | .goto off => pj_to pc off (fun t => K t lv st z)
  | .invokevirtual _ => (match c.2.2.2.2.2.2.2.2.2.1 pc with
    | some h => h st z (fun st z => nx lv st z)
    | none => none)
  | .invokestatic ix => bif c.2.2.2.2.2.2.2.2.2.2 ix then pj_cp c st z (fun st z => nx lv st z) else (match c.2.2.2.2.2.2.2.2.2.1 pc with
    | some h => h st z (fun st z => nx lv st z)
    | none => none)
  | .iaload => (match st with
    | .inl j :: .inr (.inr q) :: r => (match pj_xo c.2.2.2.2.2.1 q.1 q.2 with
      | some a => pj_g j a.1 (nx lv (.inl (a.2 j.toNatClampNeg) :: r) z)
      | none => pj_ra c.1 100 q.1 q.2 j (fun fg v => nx lv (.inl (pj_si fg z v) :: r) z))
    | _ => none)
  | .baload => (match st with
    | .inl j :: .inr (.inr q) :: r => pj_ra c.1 102 q.1 q.2 j (fun fg v => nx lv (.inl (pj_si fg z v) :: r) z)
    | _ => none)
  | .laload => (match st with
    | .inl j :: .inr (.inr q) :: r => pj_ra c.1 101 q.1 q.2 j (fun fg v => nx lv (.inr (.inl (pj_sl fg z v)) :: r) z)
    | _ => none)
  | .aaload => (match st with
    | .inl j :: .inr (.inr q) :: r => pj_aa c.1 q.1 q.2 j (fun b => nx lv (.inr (.inr (b, j.toNatClampNeg)) :: r) z)
    | _ => none)
  | .ireturn => (match st with
    | [.inl x] => (match c.2.2.2.2.2.2.2.1 with
      | 1 => c.2.2.2.2.2.2.2.2.1 (some (.inl x)) z
      | 2 => pj_bz x (c.2.2.2.2.2.2.2.2.1 (some (.inl x)) z)
      | _ => none)
    | _ => none)
  | .lreturn => (match st with
    | [.inr (.inl x)] => (match c.2.2.2.2.2.2.2.1 with
      | 3 => c.2.2.2.2.2.2.2.2.1 (some (.inr (.inl x))) z
      | _ => none)
    | _ => none)
  | .return_ => (match st with
    | [] => (match c.2.2.2.2.2.2.2.1 with
      | 0 => c.2.2.2.2.2.2.2.2.1 none z
      | _ => none)
    | _ => none)
  | .iload n => (match pj_as lv n with
    | some (.inl x) => nx lv (.inl x :: st) z
    | _ => none)
  | .lload n => (match pj_as lv n with
    | some (.inr (.inl x)) => nx lv (.inr (.inl x) :: st) z
    | _ => none)
  | .lload_n n => (match pj_as lv (n : Nat) with
    | some (.inr (.inl x)) => nx lv (.inr (.inl x) :: st) z
    | _ => none)
  | .aload n => (match pj_as lv n with
    | some (.inr (.inr q)) => nx lv (.inr (.inr q) :: st) z
    | _ => none)
  | .istore_n n => (match st with
    | .inl x :: r => bif Nat.blt (n : Nat) c.2.2.2.2.2.2.1 then nx (((n : Nat), .inl x) :: pj_k1 (n : Nat) lv) r z else none
    | _ => none)
  | .istore n => (match st with
    | .inl x :: r => bif Nat.blt n c.2.2.2.2.2.2.1 then nx ((n, .inl x) :: pj_k1 n lv) r z else none
    | _ => none)
  | .lstore_n n => (match st with
    | .inr (.inl x) :: r => bif Nat.blt ((n : Nat) + 1) c.2.2.2.2.2.2.1 then nx (((n : Nat), .inr (.inl x)) :: pj_k2 (n : Nat) lv) r z else none
    | _ => none)
  | .lstore n => (match st with
    | .inr (.inl x) :: r => bif Nat.blt (n + 1) c.2.2.2.2.2.2.1 then nx ((n, .inr (.inl x)) :: pj_k2 n lv) r z else none
    | _ => none)
  | .astore_n n => (match st with
    | .inr (.inr q) :: r => bif Nat.blt (n : Nat) c.2.2.2.2.2.2.1 then nx (((n : Nat), .inr (.inr q)) :: pj_k1 (n : Nat) lv) r z else none
    | _ => none)
  | .astore n => (match st with
    | .inr (.inr q) :: r => bif Nat.blt n c.2.2.2.2.2.2.1 then nx ((n, .inr (.inr q)) :: pj_k1 n lv) r z else none
    | _ => none)
  | .iinc n m => (match pj_as lv n with
    | some (.inl x) => bif Nat.blt n c.2.2.2.2.2.2.1 then nx ((n, .inl (x + Int32.ofInt m)) :: pj_k1 n lv) st z else none
    | _ => none)
  | .sipush n => nx lv (.inl (Int16.ofInt n).toInt32 :: st) z
  | .lconst n => nx lv (.inr (.inl (Int64.ofNat (n : Nat))) :: st) z
  | .ldc ix => (match c.2.2.1 ix with
    | some v => nx lv (.inl v :: st) z
    | none => none)
  | .ldc_w ix => (match c.2.2.1 ix with
    | some v => nx lv (.inl v :: st) z
    | none => none)
  | .ldc2_w ix => (match c.2.2.2.1 ix with
    | some v => nx lv (.inr (.inl v) :: st) z
    | none => none)
  | .getstatic ix => (match c.2.2.2.2.1 ix with
    | some v => bif Nat.blt v c.2.2.2.2.2.1.length then nx lv (.inr (.inr (1000000 + v, 0)) :: st) z else none
    | none => none)
  | .iastore => (match st with
    | .inl x :: .inl j :: .inr (.inr q) :: r => pj_ra c.1 100 q.1 q.2 j (fun fg v => nx lv r (pj_wi fg z v x))
    | _ => none)
  | .bastore => (match st with
    | .inl x :: .inl j :: .inr (.inr q) :: r => pj_ra c.1 102 q.1 q.2 j (fun fg v => pj_bz x (nx lv r (pj_wi fg z v x)))
    | _ => none)
  | .lastore => (match st with
    | .inr (.inl x) :: .inl j :: .inr (.inr q) :: r => pj_ra c.1 101 q.1 q.2 j (fun fg v => nx lv r (pj_wl fg z v x))
    | _ => none)
  | .arraylength => (match st with
    | .inr (.inr q) :: r => (match pj_xo c.2.2.2.2.2.1 q.1 q.2 with
      | some a => nx lv (.inl (Int32.ofNat a.1) :: r) z
      | none => pj_al c.1 q.1 q.2 (fun n => nx lv (.inl (Int32.ofNat n) :: r) z))
    | _ => none)
  | .iadd => pj_i2 st (fun x y r => nx lv (.inl (x + y) :: r) z)
  | .isub => pj_i2 st (fun x y r => nx lv (.inl (x - y) :: r) z)
  | .imul => pj_i2 st (fun x y r => nx lv (.inl (x * y) :: r) z)
  | .idiv => pj_i2 st (fun x y r => pj_d y (nx lv (.inl (x / y) :: r) z))
  | .irem => pj_i2 st (fun x y r => pj_d y (nx lv (.inl (x - x / y * y) :: r) z))
  | .iand => pj_i2 st (fun x y r => nx lv (.inl (x &&& y) :: r) z)
  | .ior => pj_i2 st (fun x y r => nx lv (.inl (x ||| y) :: r) z)
  | .ixor => pj_i2 st (fun x y r => nx lv (.inl (x ^^^ y) :: r) z)
  | .ishl => pj_i2 st (fun x y r => nx lv (.inl (x <<< (y &&& 31)) :: r) z)
  | .ishr => pj_i2 st (fun x y r => nx lv (.inl (x >>> (y &&& 31)) :: r) z)
  | .iushr => pj_i2 st (fun x y r => nx lv (.inl (x.toUInt32 >>> (y.toUInt32 &&& Int32.toUInt32 31)).toInt32 :: r) z)
  | .ineg => (match st with
    | .inl x :: r => nx lv (.inl (-x) :: r) z
    | _ => none)
  | .i2l => (match st with
    | .inl x :: r => nx lv (.inr (.inl x.toInt64) :: r) z
    | _ => none)
  | .i2s => (match st with
    | .inl x :: r => nx lv (.inl x.toInt16.toInt32 :: r) z
    | _ => none)
  | .i2b => (match st with
    | .inl x :: r => nx lv (.inl x.toInt8.toInt32 :: r) z
    | _ => none)
  | .i2c => (match st with
    | .inl x :: r => nx lv (.inl (x.toUInt32 % 65536).toInt32 :: r) z
    | _ => none)
  | .l2i => (match st with
    | .inr (.inl x) :: r => nx lv (.inl x.toInt32 :: r) z
    | _ => none)
  | .ladd => pj_l2 st (fun x y r => nx lv (.inr (.inl (x + y)) :: r) z)
  | .lsub => pj_l2 st (fun x y r => nx lv (.inr (.inl (x - y)) :: r) z)
  | .lmul => pj_l2 st (fun x y r => nx lv (.inr (.inl (x * y)) :: r) z)
  | .lor => pj_l2 st (fun x y r => nx lv (.inr (.inl (x ||| y)) :: r) z)
  | .lxor => pj_l2 st (fun x y r => nx lv (.inr (.inl (x ^^^ y)) :: r) z)
  | .ldiv => pj_l2 st (fun x y r => pj_dl y (nx lv (.inr (.inl (x / y)) :: r) z))
  | .lrem => pj_l2 st (fun x y r => pj_dl y (nx lv (.inr (.inl (x - x / y * y)) :: r) z))
  | .lshl => (match st with
    | .inl y :: .inr (.inl x) :: r => nx lv (.inr (.inl (x <<< (y.toInt64 &&& 63))) :: r) z
    | _ => none)
  | .lshr => (match st with
    | .inl y :: .inr (.inl x) :: r => nx lv (.inr (.inl (x >>> (y.toInt64 &&& 63))) :: r) z
    | _ => none)
  | .dup => (match st with
    | v :: r => bif pj_lg v then none else nx lv (v :: v :: r) z
    | _ => none)
  | .pop => (match st with
    | v :: r => bif pj_lg v then none else nx lv r z
    | _ => none)
  | .dup2 => (match st with
    | v :: w :: r => bif pj_lg v || pj_lg w then none else nx lv (v :: w :: v :: w :: r) z
    | _ => none)
  | .lcmp => pj_l2 st (fun x y r => (match r9 with
    | q :: _ => (match q.2.1 with
      | .ifCond k off => pj_ifl k x y (pj_to (pc + 1) off (fun t => K t lv r z)) (K (pc + 1 + 3) lv r z)
      | _ => none)
    | _ => none))
  | .tableswitch d lo _ offs => (match st with
    | .inl x :: r => pj_ts x (pj_to pc d (fun t => K t lv r z)) (fun off => pj_to pc off (fun t => K t lv r z)) lo offs.toList
    | _ => none)
  | .lookupswitch d ps => (match st with
    | .inl x :: r => pj_lo x (pj_to pc d (fun t => K t lv r z)) (fun off => pj_to pc off (fun t => K t lv r z)) ps.toList
    | _ => none)
  | _ => none
def pj_bl (c : pj_C A) (K : Nat → pj_K A) : List (Nat × Instr × Nat) → Nat → List (Nat × pj_V) → List pj_V → pj_Z → Option A
  | [], pc, lv, st, z => K pc lv st z
  | q :: r, pc, lv, st, z => pj_st c q.2.1 r pc lv st z (fun lv st z => pj_bl c K r (pc + q.2.2) lv st z) K
def pj_rn (c : pj_C A) (B : Nat → Option (List (Nat × Instr × Nat))) (E : Nat → Option (pj_K A)) : Nat → Nat → pj_K A
  | 0, _, _, _, _ => none
  | n + 1, pc, lv, st, z => match E pc with
    | some f => f lv st z
    | none => match B pc with
      | some b => pj_bl c (pj_rn c B E n) b pc lv st z
      | none => none
end PJ

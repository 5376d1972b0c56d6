/-! METHODS: the ring, by how often it goes round -/
theorem pr_ring {lf : pj_Z → mj_M} (hT : pj_Lt pj_TC lf) : ∀ n, ((∀ (a1 : Int32) (s : Nat → Int32) (l : Nat → Int64) (x : Nat → Int32) (y : Nat → Int64) (a : Int32 × pj_Z), (pr_X0 n).1 a1 s l x y = some a → mj_R ic_P (8 * n) 9 [.ref 106, .int a1] (lf (s, l, x, y)) (pm_rI a.1) (lf a.2))) ∧ ((∀ (a1 : Int32) (s : Nat → Int32) (l : Nat → Int64) (x : Nat → Int32) (y : Nat → Int64) (a : Int32 × pj_Z), (pr_X0 n).2 a1 s l x y = some a → mj_R ic_P (8 * n) 12 [.ref 106, .int a1] (lf (s, l, x, y)) (pm_rI a.1) (lf a.2))) := by
  intro n
  induction n with
  | zero => exact ⟨fun _ _ _ _ _ _ h => (by cases h), fun _ _ _ _ _ _ h => (by cases h)⟩
  | succ n ih => exact ⟨fun a1 s l x y a h => pm_X0_readChoice hT ih.1 ih.2 a1 s l x y a h, fun a1 s l x y a h => mj_R_le (by omega) (pm_X0_readFactor hT ih.1 ih.2 a1 s l x y a h)⟩
theorem pr_X0_readChoice_14 {lf : pj_Z → mj_M} (hT : pj_Lt pj_TC lf) : (∀ (a1 : Int32) (s : Nat → Int32) (l : Nat → Int64) (x : Nat → Int32) (y : Nat → Int64) (a : Int32 × pj_Z), (pr_X0 14).1 a1 s l x y = some a → mj_R ic_P 112 9 [.ref 106, .int a1] (lf (s, l, x, y)) (pm_rI a.1) (lf a.2)) := (pr_ring hT 14).1

/-! BLOCKS: straight stretches of code, run at once -/
def mj_bl (P : mj_P) (j nL : Nat) : List (Nat × Instr × Nat) → mj_S → Option mj_S
  | [], S => some S
  | q :: r, S => bif S.1 == q.1 then (match mj_one0 P j nL q.2.1 q.2.2 S with
    | some S' => mj_bl P j nL r S'
    | none => none) else none
theorem mj_bl_steps {P : mj_P} {Rel : Nat → List Value → mj_M → Option Value → mj_M → Prop} {b : Bool} {j : Nat} {Y : mj_Y} : ∀ (l : List (Nat × Instr × Nat)) {S S' : mj_S}, (∀ q ∈ l, mj_lk Y.2.2.2.2 q.1 = some q.2) → mj_bl P j Y.2.2.1 l S = some S' → mj_steps P Rel b j Y l.length S S' := by
  intro l
  induction l with
  | nil => intro S S' _ h; cases h; rfl
  | cons q r ih =>
    intro S S' hl h
    unfold mj_bl at h
    cases e : (S.1 == q.1) with
    | false => rw [e] at h; cases h
    | true =>
      rw [e] at h
      dsimp only [cond_true] at h
      split at h
      · rename_i S1 h1
        refine ⟨S1, ⟨q.2.1, q.2.2, ?_, Or.inl ?_⟩, ih (fun z hz => hl z (List.mem_cons_of_mem _ hz)) h⟩
        · rw [show S.1 = q.1 from eq_of_beq e]
          exact hl q List.mem_cons_self
        · unfold mj_one
          rw [h1]
          rfl
      · cases h
theorem tst1 (mi : Nat → Nat → Int32) (mj : Nat → Nat → Int64) (mr : Nat → Nat → Option Nat) (p1 p2 p3 : Int32) : mj_bl ic_P 9006 5 [(0, .aload_n 0, 1), (1, .getfield 15, 3), (4, .aload_n 0, 1), (5, .getfield 18, 3), (8, .isub, 1), (9, .istore 4, 2), (11, .iload_n 1, 1)] (0, [(0, .ref 0), (1, .int p1), (2, .int p2), (3, .int p3)], [], ([(9, 18)], mi, mj, mr)) = some (12, [(4, .int (mi 0 1 - mi 0 2)), (0, .ref 0), (1, .int p1), (2, .int p2), (3, .int p3)], [.int p1], ([(9, 18)], mi, mj, mr)) := rfl
theorem tst2 (mi : Nat → Nat → Int32) (mj : Nat → Nat → Int64) (mr : Nat → Nat → Option Nat) (p1 p2 p3 p4 : Int32) : mj_bl ic_P 9006 5 [(45, .aload_n 0, 1), (46, .dup, 1), (47, .getfield 27, 3), (50, .aload_n 0, 1), (51, .getfield 27, 3), (54, .bipush 8, 2), (56, .idiv, 1), (57, .aload_n 0, 1), (58, .getfield 27, 3)] (45, [(4, .int p4), (0, .ref 0), (1, .int p1), (2, .int p2), (3, .int p3)], [], ([(9, 18)], mi, mj, mr)) = some (61, [(4, .int p4), (0, .ref 0), (1, .int p1), (2, .int p2), (3, .int p3)], [.int (mi 0 5), .int (mi 0 5 / 8), .int (mi 0 5), .ref 0], ([(9, 18)], mi, mj, mr)) := rfl

/-! METHODS: the runner's step, by what its tables say -/
section PJS
variable {A : Type} {c : pj_C A} {B : Nat → Option (List (Nat × Instr × Nat))} {E : Nat → Option (pj_K A)} {pc : Nat} {lv : List (Nat × pj_V)} {st : List pj_V} {z : pj_Z}
theorem pj_rnB (n : Nat) {b : List (Nat × Instr × Nat)} (h1 : E pc = none) (h2 : B pc = some b) : pj_rn c B E (n + 1) pc lv st z = pj_bl c (pj_rn c B E n) b pc lv st z := by
  show (match E pc with | some f => f lv st z | none => match B pc with | some b => pj_bl c (pj_rn c B E n) b pc lv st z | none => none) = _
  rw [h1, h2]
end PJS
theorem pj_m1 : Int32.ofInt (-1) = -1 := by decide
theorem pj_rnE {A : Type} {c : pj_C A} {B : Nat → Option (List (Nat × Instr × Nat))} {E : Nat → Option (pj_K A)} {pc : Nat} {lv : List (Nat × pj_V)} {st : List pj_V} {z : pj_Z} (n : Nat) {f : pj_K A} (h1 : E pc = some f) : pj_rn c B E (n + 1) pc lv st z = f lv st z := by
  show (match E pc with | some f => f lv st z | none => match B pc with | some b => pj_bl c (pj_rn c B E n) b pc lv st z | none => none) = _
  rw [h1]

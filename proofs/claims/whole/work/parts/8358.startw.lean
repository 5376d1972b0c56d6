/-! THE START: what the Statement says of statics and String constants -/
def st_F : List Cond := flatC (Cond.and given_1 narrow_1)
def st_ca (q : String × String × String × Nat × (Nat → Int32)) : Bool := decide (Cond.laysStatic q.1 q.2.1 q.2.2.1 ∈ lw_tbl) && (decide (Cond.initialized q.1 ∈ lw_tbl) && (decide (Cond.arrayOf (.static q.1 q.2.1 q.2.2.1) .int ∈ st_F) && (decide (Cond.eq (.length (.static q.1 q.2.1 q.2.2.1)) (.int (Int32.ofNat q.2.2.2.1)) ∈ st_F) && ((List.range q.2.2.2.1).all (fun j => decide (Cond.eq (.elem (.static q.1 q.2.1 q.2.2.1) (.int (Int32.ofNat j))) (.int (q.2.2.2.2 j)) ∈ st_F)) && decide (q.2.2.2.1 < 2 ^ 31)))))
def st_cs (q : String × String × Nat × Nat × (Nat → Int32)) : Bool := decide (Cond.stringRef q.1 q.2.2.1 q.2.1 ∈ lw_tbl) && (decide (Cond.exactly (.string q.1 q.2.2.1) "java/lang/String" ∈ st_F) && (decide (q.2.2.2.1 = 0) || (decide (Cond.eq (.field (.string q.1 q.2.2.1) "java/lang/String" "coder" "B") (.int 0) ∈ st_F) && (decide (Cond.arrayOf (.field (.string q.1 q.2.2.1) "java/lang/String" "value" "[B") .byte ∈ st_F) && (decide (Cond.eq (.length (.field (.string q.1 q.2.2.1) "java/lang/String" "value" "[B")) (.int (Int32.ofNat q.2.2.2.1)) ∈ st_F) && ((List.range q.2.2.2.1).all (fun j => decide (Cond.eq (.elem (.field (.string q.1 q.2.2.1) "java/lang/String" "value" "[B") (.int (Int32.ofNat j))) (.int (q.2.2.2.2 j)) ∈ st_F)) && decide (q.2.2.2.1 < 2 ^ 31)))))))
def st_cj : Bool := decide (Cond.laysStatic "java/lang/String" "COMPACT_STRINGS" "Z" ∈ lw_tbl) && (decide (Cond.initialized "java/lang/String" ∈ lw_tbl) && (decide (Cond.eq (.static "java/lang/String" "COMPACT_STRINGS" "Z") (.int 1) ∈ st_F) && (decide (Cond.laysStatic "jdk/internal/util/Preconditions" "SIOOBE_FORMATTER" "Ljava/util/function/BiFunction;" ∈ lw_tbl) && (decide (Cond.initialized "jdk/internal/util/Preconditions" ∈ lw_tbl) && (decide (Cond.isRef (.static "jdk/internal/util/Preconditions" "SIOOBE_FORMATTER" "Ljava/util/function/BiFunction;") ∈ st_F) && (decide (Cond.laysStatic Bundle.tN "UNASSIGNED_STACK" Bundle.steD ∈ lw_tbl) && (decide (Cond.laysStatic Bundle.tN "SUPPRESSED_SENTINEL" Bundle.listD ∈ lw_tbl) && (decide (Cond.initialized Bundle.tN ∈ lw_tbl) && (decide (Cond.isRef (.static Bundle.tN "UNASSIGNED_STACK" Bundle.steD) ∈ st_F) && (decide (Cond.isRef (.static Bundle.tN "SUPPRESSED_SENTINEL" Bundle.listD) ∈ st_F) && mj_nl.all (fun q => decide (Cond.not (.castable q.1 q.2) ∈ st_F))))))))))))
theorem st_two {α : Type} {p : α → Bool} {l : List α} (n : Nat) (h1 : (l.take n).all p = true) (h2 : (l.drop n).all p = true) : l.all p = true := by
  rw [← List.take_append_drop n l, List.all_append, h1, h2]
  rfl
set_option maxRecDepth 100000 in
theorem st_ca_0 : ((ic_X.1).take 3).all st_ca = true := by decide +kernel
set_option maxRecDepth 100000 in
theorem st_ca_1 : (((ic_X.1).drop 3).take 2).all st_ca = true := by decide +kernel
set_option maxRecDepth 100000 in
theorem st_ca_2 : ((((ic_X.1).drop 3).drop 2).take 1).all st_ca = true := by decide +kernel
set_option maxRecDepth 100000 in
theorem st_ca_r : ((((ic_X.1).drop 3).drop 2).drop 1).all st_ca = true := by decide +kernel
theorem st_ca_all : (ic_X.1).all st_ca = true := st_two 3 st_ca_0 (st_two 2 st_ca_1 (st_two 1 st_ca_2 st_ca_r))
set_option maxRecDepth 100000 in
theorem st_cj_ok : st_cj = true := by decide +kernel
set_option maxRecDepth 100000 in
theorem st_Ns : ic_Ns.all (fun w => decide (w ∈ lw_tbl)) = true := by decide +kernel

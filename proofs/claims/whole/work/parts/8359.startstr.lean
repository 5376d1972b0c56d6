/-! THE START: the String constants, piece by piece -/
def st_q0 : String × String × Nat × Nat × (Nat → Int32) := ic_X.2.headD ("", "", 0, 0, fun _ => 0)
def st_ft (c : Cond) : Bool := match c with
  | .eq (.elem (.field _ _ _ _) _) _ => true
  | _ => false
set_option maxRecDepth 100000 in
theorem st_0A : decide (Cond.stringRef st_q0.1 st_q0.2.2.1 st_q0.2.1 ∈ lw_tbl) = true := by decide +kernel
set_option maxRecDepth 100000 in
theorem st_0B : decide (Cond.exactly (.string st_q0.1 st_q0.2.2.1) "java/lang/String" ∈ st_F) = true := by decide +kernel
set_option maxRecDepth 100000 in
theorem st_0D : decide (Cond.eq (.field (.string st_q0.1 st_q0.2.2.1) "java/lang/String" "coder" "B") (.int 0) ∈ st_F) = true := by decide +kernel
set_option maxRecDepth 100000 in
theorem st_0E : decide (Cond.arrayOf (.field (.string st_q0.1 st_q0.2.2.1) "java/lang/String" "value" "[B") .byte ∈ st_F) = true := by decide +kernel
set_option maxRecDepth 100000 in
theorem st_0F : decide (Cond.eq (.length (.field (.string st_q0.1 st_q0.2.2.1) "java/lang/String" "value" "[B")) (.int (Int32.ofNat st_q0.2.2.2.1)) ∈ st_F) = true := by decide +kernel
set_option maxRecDepth 100000 in
theorem st_0G1 : ((List.range st_q0.2.2.2.1).take 6).all (fun j => decide (Cond.eq (.elem (.field (.string st_q0.1 st_q0.2.2.1) "java/lang/String" "value" "[B") (.int (Int32.ofNat j))) (.int (st_q0.2.2.2.2 j)) ∈ st_F.filter st_ft)) = true := by decide +kernel
set_option maxRecDepth 100000 in
theorem st_0G2 : (((List.range st_q0.2.2.2.1).drop 6).take 6).all (fun j => decide (Cond.eq (.elem (.field (.string st_q0.1 st_q0.2.2.1) "java/lang/String" "value" "[B") (.int (Int32.ofNat j))) (.int (st_q0.2.2.2.2 j)) ∈ st_F.filter st_ft)) = true := by decide +kernel
set_option maxRecDepth 100000 in
theorem st_0G3 : (((List.range st_q0.2.2.2.1).drop 6).drop 6).all (fun j => decide (Cond.eq (.elem (.field (.string st_q0.1 st_q0.2.2.1) "java/lang/String" "value" "[B") (.int (Int32.ofNat j))) (.int (st_q0.2.2.2.2 j)) ∈ st_F.filter st_ft)) = true := by decide +kernel
theorem st_0G : (List.range st_q0.2.2.2.1).all (fun j => decide (Cond.eq (.elem (.field (.string st_q0.1 st_q0.2.2.1) "java/lang/String" "value" "[B") (.int (Int32.ofNat j))) (.int (st_q0.2.2.2.2 j)) ∈ st_F)) = true := by
  have h := st_two 6 st_0G1 (st_two 6 st_0G2 st_0G3)
  rw [List.all_eq_true] at h ⊢
  intro j hj
  exact decide_eq_true (List.mem_filter.mp (of_decide_eq_true (h j hj))).1
theorem st_0H : decide (st_q0.2.2.2.1 < 2 ^ 31) = true := by decide +kernel
theorem st_cs_0 : ((ic_X.2).take 1).all st_cs = true := by
  show (st_cs st_q0 && true) = true
  unfold st_cs
  rw [st_0A, st_0B, st_0D, st_0E, st_0F, st_0G, st_0H]
  simp
set_option maxRecDepth 100000 in
theorem st_cs_1 : (((ic_X.2).drop 1).take 1).all st_cs = true := by decide +kernel
set_option maxRecDepth 100000 in
theorem st_cs_2 : ((((ic_X.2).drop 1).drop 1).take 6).all st_cs = true := by decide +kernel
set_option maxRecDepth 100000 in
theorem st_cs_3 : (((((ic_X.2).drop 1).drop 1).drop 6).take 8).all st_cs = true := by decide +kernel
set_option maxRecDepth 100000 in
theorem st_cs_4 : ((((((ic_X.2).drop 1).drop 1).drop 6).drop 8).take 8).all st_cs = true := by decide +kernel
set_option maxRecDepth 100000 in
theorem st_cs_5 : (((((((ic_X.2).drop 1).drop 1).drop 6).drop 8).drop 8).take 8).all st_cs = true := by decide +kernel
set_option maxRecDepth 100000 in
theorem st_cs_6 : ((((((((ic_X.2).drop 1).drop 1).drop 6).drop 8).drop 8).drop 8).take 8).all st_cs = true := by decide +kernel
set_option maxRecDepth 100000 in
theorem st_cs_r : ((((((((ic_X.2).drop 1).drop 1).drop 6).drop 8).drop 8).drop 8).drop 8).all st_cs = true := by decide +kernel
theorem st_cs_all : (ic_X.2).all st_cs = true := st_two 1 st_cs_0 (st_two 1 st_cs_1 (st_two 6 st_cs_2 (st_two 8 st_cs_3 (st_two 8 st_cs_4 (st_two 8 st_cs_5 (st_two 8 st_cs_6 st_cs_r))))))

/-! METHODS 27, printed by gen_meth.py -/
abbrev pe_X12_pin_34 (f : Int32 → Int32 → Int32 → pj_F (Int32 × pj_Z)) : pj_K (Int32 × pj_Z) := fun lv st z => pj_xr lv 0 124 0 <| pj_xi lv 1 fun a1 => pj_xi lv 2 fun a2 => pj_pi st fun b1 st => pj_pr st 124 0 fun st => pj_pe st (f a1 a2 b1 z.1 z.2.1 z.2.2.1 z.2.2.2)
abbrev px_X12_pin : pj_C (Int32 × pj_Z) := (pj_TR, (pj_as [(44, 12, 12, 2, true), (259, 12, 0, 0, false)]), (fun _ => none), (pj_as [(929, 9), (931, 1023)]), (fun _ => none), ic_X, 4, 1, pj_mI, (pj_as [(7, ph_X12_isIn), (23, ph_X12_isIn)]), fun _ => false)
abbrev pk_X12_pin : List (Nat × List (Nat × Instr × Nat)) := [(0, [(0, .aload_n 0, 1), (1, .iload_n 1, 1), (2, .i2l, 1), (3, .lconst 0, 1), (4, .ldc2_w 929, 3), (7, .invokestatic 568, 3), (10, .ifCond .ne 7, 3)]), (13, [(13, .iconst 1, 1), (14, .goto 20, 3)]), (17, [(17, .iload_n 2, 1), (18, .i2l, 1), (19, .lconst 0, 1), (20, .ldc2_w 931, 3), (23, .invokestatic 568, 3), (26, .ifCond .ne 7, 3)]), (29, [(29, .iconst 2, 1), (30, .goto 4, 3)]), (33, [(33, .iconst 0, 1)]), (34, [(34, .putfield 259, 3), (37, .aload_n 0, 1), (38, .getfield 259, 3), (41, .ifCond .le 5, 3)]), (44, [(44, .iconst 0, 1), (45, .ireturn, 1)]), (46, [(46, .aload_n 0, 1), (47, .getfield 44, 3), (50, .iload_n 1, 1), (51, .iaload, 1), (52, .istore_n 3, 1), (53, .aload_n 0, 1), (54, .getfield 44, 3), (57, .iload_n 1, 1), (58, .iload_n 2, 1), (59, .iastore, 1), (60, .iload_n 3, 1), (61, .ireturn, 1)])]
set_option maxRecDepth 100000 in
theorem pq_X12_pin_34 (a1 : Int32) (a2 : Int32) (b1 : Int32) (s : Nat → Int32) (l : Nat → Int64) (x : Nat → Int32) (y : Nat → Int64) : pl_X12_pin_34 a1 a2 b1 s l x y = pj_bl px_X12_pin (pj_rn px_X12_pin (pj_as pk_X12_pin) (fun _ => none) 60) [(34, .putfield 259, 3), (37, .aload_n 0, 1), (38, .getfield 259, 3), (41, .ifCond .le 5, 3)] 34 [(0, pj_O (124, 0)), (1, pj_I a1), (2, pj_I a2)] [pj_I b1, pj_O (124, 0)] (s, l, x, y) := rfl
set_option maxRecDepth 100000 in
theorem pq_X12_pin_m (a1 : Int32) (a2 : Int32) (s : Nat → Int32) (l : Nat → Int64) (x : Nat → Int32) (y : Nat → Int64) : pf_X12_pin a1 a2 s l x y = pj_bl px_X12_pin (pj_rn px_X12_pin (pj_as pk_X12_pin) (pj_as [(34, pe_X12_pin_34 (pl_X12_pin_34))]) 60) [(0, .aload_n 0, 1), (1, .iload_n 1, 1), (2, .i2l, 1), (3, .lconst 0, 1), (4, .ldc2_w 929, 3), (7, .invokestatic 568, 3), (10, .ifCond .ne 7, 3)] 0 [(0, pj_O (124, 0)), (1, pj_I a1), (2, pj_I a2)] [] (s, l, x, y) := rfl
theorem pu_X12_pin_34 {lf : pj_Z → mj_M} {a : Int32 × pj_Z} (f : Int32 → Int32 → Int32 → pj_F (Int32 × pj_Z)) (hf : ∀ (a1 : Int32) (a2 : Int32) (b1 : Int32) (s : Nat → Int32) (l : Nat → Int64) (x : Nat → Int32) (y : Nat → Int64), f a1 a2 b1 s l x y = some a → pm_Gd 1 12092 ie_X12_pin.1 pm_rI lf 34 [(0, .ref 124), (1, .int a1), (2, .int a2)] [.int b1, .ref 124] (s, l, x, y) a) : pm_Ex 1 12092 ie_X12_pin.1 pm_rI lf a 34 (pe_X12_pin_34 f) := by
  intro lv st z hd h
  obtain ⟨g0, h⟩ := pj_xr_inv h
  obtain ⟨a1, g1, h⟩ := pj_xi_inv h
  obtain ⟨a2, g2, h⟩ := pj_xi_inv h
  obtain ⟨b1, r1, e1, h⟩ := pj_pi_inv h
  obtain ⟨r0, e0, h⟩ := pj_pr_inv h
  obtain ⟨e9, h⟩ := pj_pe_inv h
  rw [e1, e0, e9]
  exact mj_wp_sub (mj_sub_cons g0 (mj_sub_cons g1 (mj_sub_cons g2 (mj_sub_nil hd)))) (hf _ _ _ _ _ _ _ h)
set_option maxRecDepth 100000 in
theorem pz_X12_pin {lf : pj_Z → mj_M} (hT : pj_Lt pj_TR lf) : pj_Cok ic_P (mj_R ic_P 1) 12092 ie_X12_pin.1 (pm_OK lf pm_rI) lf px_X12_pin := by
  exact pm_cok (c := px_X12_pin) hT (pm_in_ok (L := [(44, 12, 12, 2, true), (259, 12, 0, 0, false)]) (f := mj_pF ic_P 12092) (by decide +kernel)) (fun _ _ h => by cases h) (pm_inL_ok (L := [(929, 9), (931, 1023)]) (f := mj_pL ic_P 12092) (by decide +kernel)) (fun _ _ h => by cases h) rfl rfl ⟨by decide, rfl⟩ pm_mI (pj_as_all (p := pm_Cl 1 12092 ie_X12_pin.1 lf (pm_OK lf pm_rI)) (List.forall_mem_cons.mpr ⟨fun _ _ lv st z K a hK h => pc_X12_isIn hT (by decide) (ix := 568) rfl rfl hK h, (List.forall_mem_cons.mpr ⟨fun _ _ lv st z K a hK h => pc_X12_isIn hT (by decide) (ix := 568) rfl rfl hK h, (fun _ h => by cases h)⟩)⟩)) (fun _ h => by cases h)
set_option maxRecDepth 100000 in
theorem pb_X12_pin : pm_bks ie_X12_pin.1.2.2.2.2 pk_X12_pin = true := by decide +kernel
set_option maxRecDepth 100000 in
theorem pg_X12_pin_34 {lf : pj_Z → mj_M} (hT : pj_Lt pj_TR lf) : ∀ (a1 : Int32) (a2 : Int32) (b1 : Int32) (s : Nat → Int32) (l : Nat → Int64) (x : Nat → Int32) (y : Nat → Int64) (a : Int32 × pj_Z), pl_X12_pin_34 a1 a2 b1 s l x y = some a → pm_Gd 1 12092 ie_X12_pin.1 pm_rI lf 34 [(0, .ref 124), (1, .int a1), (2, .int a2)] [.int b1, .ref 124] (s, l, x, y) a := by
  intro a1 a2 b1 s l x y a h
  exact pj_bl_ok (pz_X12_pin hT) (fun t lv st z hd h => pj_rn_ok (pz_X12_pin hT) (pm_bks_ok pb_X12_pin) (fun _ _ h => by cases h) 60 t lv st z hd h) [(34, .putfield 259, 3), (37, .aload_n 0, 1), (38, .getfield 259, 3), (41, .ifCond .le 5, 3)] 34 [(0, pj_O (124, 0)), (1, pj_I a1), (2, pj_I a2)] [pj_I b1, pj_O (124, 0)] (s, l, x, y) (pm_bks_ok pb_X12_pin _ _ rfl) (pm_ndb_ok rfl) ((pq_X12_pin_34  a1 a2 b1 s l x y).symm.trans h)
set_option maxRecDepth 100000 in
theorem pm_X12_pin {lf : pj_Z → mj_M} (hT : pj_Lt pj_TR lf) (a1 : Int32) (a2 : Int32) (s : Nat → Int32) (l : Nat → Int64) (x : Nat → Int32) (y : Nat → Int64) (a : Int32 × pj_Z) (h : pf_X12_pin a1 a2 s l x y = some a) : mj_R ic_P 2 12092 [.ref 124, .int a1, .int a2] (lf (s, l, x, y)) (pm_rI a.1) (lf a.2) := by
  refine pm_main (Y := ie_X12_pin.1) rfl (Nat.le_of_ble_eq_true rfl) ?_
  exact pj_bl_ok (pz_X12_pin hT) (fun t lv st z hd h => pj_rn_ok (pz_X12_pin hT) (pm_bks_ok pb_X12_pin) (pj_as_all (p := pm_Ex 1 12092 ie_X12_pin.1 pm_rI lf a) (List.forall_mem_cons.mpr ⟨pu_X12_pin_34 _ (fun c0 c1 c2 s l x y h => pg_X12_pin_34 hT c0 c1 c2 s l x y _ h), (fun _ h => by cases h)⟩)) 60 t lv st z hd h) [(0, .aload_n 0, 1), (1, .iload_n 1, 1), (2, .i2l, 1), (3, .lconst 0, 1), (4, .ldc2_w 929, 3), (7, .invokestatic 568, 3), (10, .ifCond .ne 7, 3)] 0 [(0, pj_O (124, 0)), (1, pj_I a1), (2, pj_I a2)] [] (s, l, x, y) (pm_bks_ok pb_X12_pin _ _ rfl) (pm_ndb_ok rfl) ((pq_X12_pin_m a1 a2 s l x y).symm.trans h)
abbrev ph_X12_pin {A : Type} : List pj_V → pj_Z → (List pj_V → pj_Z → Option A) → Option A := fun st z K => pj_pi st fun a2 st => pj_pi st fun a1 st => pj_pr st 124 0 fun st => pj_ps st (pj_b (pf_X12_pin a1 a2 z.1 z.2.1 z.2.2.1 z.2.2.2) fun r s l x y => K (pj_I r :: st) (s, l, x, y))
set_option maxRecDepth 100000 in
theorem pc_X12_pin {A : Type} {OK : A → Option Value → mj_M → Prop} {d j pc ix : Nat} {Y : mj_Y} {lf : pj_Z → mj_M} (hT : pj_Lt pj_TR lf) (hd : 2 ≤ d) (hl : mj_lk Y.2.2.2.2 pc = some (.invokevirtual ix, 3)) (hg : mj_pG ic_P j ix = some (12092, 2, some 12)) {lv : List (Nat × Value)} {st : List pj_V} {z : pj_Z} {K : List pj_V → pj_Z → Option A} {a : A} (hK : ∀ st z, K st z = some a → pj_Gd ic_P (mj_R ic_P d) j Y OK lf (pc + 3) lv (pj_es st) z a) (h : ph_X12_pin st z K = some a) : pj_Gd ic_P (mj_R ic_P d) j Y OK lf pc lv (pj_es st) z a := by
  obtain ⟨a2, r2, e2, h⟩ := pj_pi_inv h
  obtain ⟨a1, r1, e1, h⟩ := pj_pi_inv h
  obtain ⟨r0, e0, h⟩ := pj_pr_inv h
  obtain ⟨hs, h⟩ := pj_ps_inv h
  obtain ⟨q, hq, h⟩ := pj_b_inv h
  exact pm_cv (o := 124) hl hg [.int a1, .int a2] rfl (by rw [e2, e1, e0]; rfl) hs (by decide) ((hT.2 124 _ rfl).1.2 z 0 (by decide)) (pm_rI q.1) hd (pm_X12_pin hT a1 a2 z.1 z.2.1 z.2.2.1 z.2.2.2 q hq) rfl (hK _ _ h)
abbrev pe_X12_limits_46 (f : Int32 → Int32 → Int32 → Int32 → pj_F (Unit × pj_Z)) : pj_K (Unit × pj_Z) := fun lv st z => pj_xr lv 0 124 0 <| pj_xi lv 1 fun a1 => pj_xi lv 2 fun a2 => pj_xi lv 3 fun a3 => pj_xi lv 4 fun a4 => pj_pe st (f a1 a2 a3 a4 z.1 z.2.1 z.2.2.1 z.2.2.2)
abbrev pe_X12_limits_47 (f : Int32 → Int32 → Int32 → Int32 → Int32 → pj_F (Unit × pj_Z)) : pj_K (Unit × pj_Z) := fun lv st z => pj_xr lv 0 124 0 <| pj_xi lv 1 fun a1 => pj_xi lv 2 fun a2 => pj_xi lv 3 fun a3 => pj_xi lv 4 fun a4 => pj_pi st fun b0 st => pj_pe st (f a1 a2 a3 a4 b0 z.1 z.2.1 z.2.2.1 z.2.2.2)
abbrev pe_X12_limits_87 (f : Int32 → Int32 → Int32 → Int32 → Int32 → pj_F (Unit × pj_Z)) : pj_K (Unit × pj_Z) := fun lv st z => pj_xr lv 0 124 0 <| pj_xi lv 1 fun a1 => pj_xi lv 2 fun a2 => pj_xi lv 3 fun a3 => pj_xi lv 4 fun a4 => pj_pi st fun b1 st => pj_pr st 124 0 fun st => pj_pe st (f a1 a2 a3 a4 b1 z.1 z.2.1 z.2.2.1 z.2.2.2)
abbrev px_X12_limits : pj_C (Unit × pj_Z) := (pj_TR, (pj_as [(47, 12, 13, 2, true), (50, 12, 14, 2, true), (53, 12, 15, 2, true), (259, 12, 0, 0, false), (519, 12, 23, 0, false)]), (fun _ => none), (pj_as [(929, 9), (931, 1023)]), (fun _ => none), ic_X, 6, 0, pj_mU, (pj_as [(6, ph_X12_isIn), (18, ph_X12_isIn), (31, ph_X12_isIn), (56, ph_X12_isIn)]), fun _ => false)
abbrev pk_X12_limits : List (Nat × List (Nat × Instr × Nat)) := [(0, [(0, .iload_n 2, 1), (1, .i2l, 1), (2, .lconst 0, 1), (3, .ldc2_w 931, 3), (6, .invokestatic 568, 3), (9, .ifCond .eq 37, 3)]), (12, [(12, .iload_n 3, 1), (13, .i2l, 1), (14, .lconst 0, 1), (15, .ldc2_w 931, 3), (18, .invokestatic 568, 3), (21, .ifCond .eq 25, 3)]), (24, [(24, .iload 4, 2), (26, .i2l, 1), (27, .lconst 0, 1), (28, .ldc2_w 931, 3), (31, .invokestatic 568, 3), (34, .ifCond .eq 12, 3)]), (37, [(37, .iload_n 2, 1), (38, .iload_n 3, 1), (39, .if_icmp .gt 7, 3)]), (42, [(42, .iconst 1, 1), (43, .goto 4, 3)]), (46, [(46, .iconst 0, 1)]), (47, [(47, .istore 5, 2), (49, .aload_n 0, 1), (50, .iload_n 1, 1), (51, .i2l, 1), (52, .lconst 0, 1), (53, .ldc2_w 929, 3), (56, .invokestatic 568, 3), (59, .ifCond .ne 7, 3)]), (62, [(62, .iconst 1, 1), (63, .goto 24, 3)]), (66, [(66, .iload 5, 2), (68, .ifCond .ne 7, 3)]), (71, [(71, .iconst 2, 1), (72, .goto 15, 3)]), (75, [(75, .aload_n 0, 1), (76, .getfield 519, 3), (79, .ifCond .eq 7, 3)]), (82, [(82, .iconst 3, 1), (83, .goto 4, 3)]), (86, [(86, .iconst 0, 1)]), (87, [(87, .putfield 259, 3), (90, .aload_n 0, 1), (91, .getfield 259, 3), (94, .ifCond .ne 25, 3)]), (97, [(97, .aload_n 0, 1), (98, .getfield 47, 3), (101, .iload_n 1, 1), (102, .iload_n 2, 1), (103, .iastore, 1), (104, .aload_n 0, 1), (105, .getfield 50, 3), (108, .iload_n 1, 1), (109, .iload_n 3, 1), (110, .iastore, 1), (111, .aload_n 0, 1), (112, .getfield 53, 3), (115, .iload_n 1, 1), (116, .iload 4, 2), (118, .iastore, 1)]), (119, [(119, .return_, 1)])]
set_option maxRecDepth 100000 in
theorem pq_X12_limits_87 (a1 : Int32) (a2 : Int32) (a3 : Int32) (a4 : Int32) (b1 : Int32) (s : Nat → Int32) (l : Nat → Int64) (x : Nat → Int32) (y : Nat → Int64) : pl_X12_limits_87 a1 a2 a3 a4 b1 s l x y = pj_bl px_X12_limits (pj_rn px_X12_limits (pj_as pk_X12_limits) (fun _ => none) 60) [(87, .putfield 259, 3), (90, .aload_n 0, 1), (91, .getfield 259, 3), (94, .ifCond .ne 25, 3)] 87 [(0, pj_O (124, 0)), (1, pj_I a1), (2, pj_I a2), (3, pj_I a3), (4, pj_I a4)] [pj_I b1, pj_O (124, 0)] (s, l, x, y) := rfl
set_option maxRecDepth 100000 in
theorem pq_X12_limits_47 (a1 : Int32) (a2 : Int32) (a3 : Int32) (a4 : Int32) (b0 : Int32) (s : Nat → Int32) (l : Nat → Int64) (x : Nat → Int32) (y : Nat → Int64) : pl_X12_limits_47 a1 a2 a3 a4 b0 s l x y = pj_bl px_X12_limits (pj_rn px_X12_limits (pj_as pk_X12_limits) (pj_as [(87, pe_X12_limits_87 (pl_X12_limits_87))]) 60) [(47, .istore 5, 2), (49, .aload_n 0, 1), (50, .iload_n 1, 1), (51, .i2l, 1), (52, .lconst 0, 1), (53, .ldc2_w 929, 3), (56, .invokestatic 568, 3), (59, .ifCond .ne 7, 3)] 47 [(0, pj_O (124, 0)), (1, pj_I a1), (2, pj_I a2), (3, pj_I a3), (4, pj_I a4)] [pj_I b0] (s, l, x, y) := rfl
set_option maxRecDepth 100000 in
theorem pq_X12_limits_46 (a1 : Int32) (a2 : Int32) (a3 : Int32) (a4 : Int32) (s : Nat → Int32) (l : Nat → Int64) (x : Nat → Int32) (y : Nat → Int64) : pl_X12_limits_46 a1 a2 a3 a4 s l x y = pj_bl px_X12_limits (pj_rn px_X12_limits (pj_as pk_X12_limits) (pj_as [(47, pe_X12_limits_47 (pl_X12_limits_47))]) 60) [(46, .iconst 0, 1)] 46 [(0, pj_O (124, 0)), (1, pj_I a1), (2, pj_I a2), (3, pj_I a3), (4, pj_I a4)] [] (s, l, x, y) := rfl
set_option maxRecDepth 100000 in
theorem pq_X12_limits_m (a1 : Int32) (a2 : Int32) (a3 : Int32) (a4 : Int32) (s : Nat → Int32) (l : Nat → Int64) (x : Nat → Int32) (y : Nat → Int64) : pf_X12_limits a1 a2 a3 a4 s l x y = pj_bl px_X12_limits (pj_rn px_X12_limits (pj_as pk_X12_limits) (pj_as [(46, pe_X12_limits_46 (pl_X12_limits_46)), (47, pe_X12_limits_47 (pl_X12_limits_47))]) 60) [(0, .iload_n 2, 1), (1, .i2l, 1), (2, .lconst 0, 1), (3, .ldc2_w 931, 3), (6, .invokestatic 568, 3), (9, .ifCond .eq 37, 3)] 0 [(0, pj_O (124, 0)), (1, pj_I a1), (2, pj_I a2), (3, pj_I a3), (4, pj_I a4)] [] (s, l, x, y) := rfl
theorem pu_X12_limits_46 {lf : pj_Z → mj_M} {a : Unit × pj_Z} (f : Int32 → Int32 → Int32 → Int32 → pj_F (Unit × pj_Z)) (hf : ∀ (a1 : Int32) (a2 : Int32) (a3 : Int32) (a4 : Int32) (s : Nat → Int32) (l : Nat → Int64) (x : Nat → Int32) (y : Nat → Int64), f a1 a2 a3 a4 s l x y = some a → pm_Gd 1 12093 ie_X12_limits.1 pm_rU lf 46 [(0, .ref 124), (1, .int a1), (2, .int a2), (3, .int a3), (4, .int a4)] [] (s, l, x, y) a) : pm_Ex 1 12093 ie_X12_limits.1 pm_rU lf a 46 (pe_X12_limits_46 f) := by
  intro lv st z hd h
  obtain ⟨g0, h⟩ := pj_xr_inv h
  obtain ⟨a1, g1, h⟩ := pj_xi_inv h
  obtain ⟨a2, g2, h⟩ := pj_xi_inv h
  obtain ⟨a3, g3, h⟩ := pj_xi_inv h
  obtain ⟨a4, g4, h⟩ := pj_xi_inv h
  obtain ⟨e9, h⟩ := pj_pe_inv h
  rw [e9]
  exact mj_wp_sub (mj_sub_cons g0 (mj_sub_cons g1 (mj_sub_cons g2 (mj_sub_cons g3 (mj_sub_cons g4 (mj_sub_nil hd)))))) (hf _ _ _ _ _ _ _ _ h)
theorem pu_X12_limits_47 {lf : pj_Z → mj_M} {a : Unit × pj_Z} (f : Int32 → Int32 → Int32 → Int32 → Int32 → pj_F (Unit × pj_Z)) (hf : ∀ (a1 : Int32) (a2 : Int32) (a3 : Int32) (a4 : Int32) (b0 : Int32) (s : Nat → Int32) (l : Nat → Int64) (x : Nat → Int32) (y : Nat → Int64), f a1 a2 a3 a4 b0 s l x y = some a → pm_Gd 1 12093 ie_X12_limits.1 pm_rU lf 47 [(0, .ref 124), (1, .int a1), (2, .int a2), (3, .int a3), (4, .int a4)] [.int b0] (s, l, x, y) a) : pm_Ex 1 12093 ie_X12_limits.1 pm_rU lf a 47 (pe_X12_limits_47 f) := by
  intro lv st z hd h
  obtain ⟨g0, h⟩ := pj_xr_inv h
  obtain ⟨a1, g1, h⟩ := pj_xi_inv h
  obtain ⟨a2, g2, h⟩ := pj_xi_inv h
  obtain ⟨a3, g3, h⟩ := pj_xi_inv h
  obtain ⟨a4, g4, h⟩ := pj_xi_inv h
  obtain ⟨b0, r0, e0, h⟩ := pj_pi_inv h
  obtain ⟨e9, h⟩ := pj_pe_inv h
  rw [e0, e9]
  exact mj_wp_sub (mj_sub_cons g0 (mj_sub_cons g1 (mj_sub_cons g2 (mj_sub_cons g3 (mj_sub_cons g4 (mj_sub_nil hd)))))) (hf _ _ _ _ _ _ _ _ _ h)
theorem pu_X12_limits_87 {lf : pj_Z → mj_M} {a : Unit × pj_Z} (f : Int32 → Int32 → Int32 → Int32 → Int32 → pj_F (Unit × pj_Z)) (hf : ∀ (a1 : Int32) (a2 : Int32) (a3 : Int32) (a4 : Int32) (b1 : Int32) (s : Nat → Int32) (l : Nat → Int64) (x : Nat → Int32) (y : Nat → Int64), f a1 a2 a3 a4 b1 s l x y = some a → pm_Gd 1 12093 ie_X12_limits.1 pm_rU lf 87 [(0, .ref 124), (1, .int a1), (2, .int a2), (3, .int a3), (4, .int a4)] [.int b1, .ref 124] (s, l, x, y) a) : pm_Ex 1 12093 ie_X12_limits.1 pm_rU lf a 87 (pe_X12_limits_87 f) := by
  intro lv st z hd h
  obtain ⟨g0, h⟩ := pj_xr_inv h
  obtain ⟨a1, g1, h⟩ := pj_xi_inv h
  obtain ⟨a2, g2, h⟩ := pj_xi_inv h
  obtain ⟨a3, g3, h⟩ := pj_xi_inv h
  obtain ⟨a4, g4, h⟩ := pj_xi_inv h
  obtain ⟨b1, r1, e1, h⟩ := pj_pi_inv h
  obtain ⟨r0, e0, h⟩ := pj_pr_inv h
  obtain ⟨e9, h⟩ := pj_pe_inv h
  rw [e1, e0, e9]
  exact mj_wp_sub (mj_sub_cons g0 (mj_sub_cons g1 (mj_sub_cons g2 (mj_sub_cons g3 (mj_sub_cons g4 (mj_sub_nil hd)))))) (hf _ _ _ _ _ _ _ _ _ h)
set_option maxRecDepth 100000 in
theorem pz_X12_limits {lf : pj_Z → mj_M} (hT : pj_Lt pj_TR lf) : pj_Cok ic_P (mj_R ic_P 1) 12093 ie_X12_limits.1 (pm_OK lf pm_rU) lf px_X12_limits := by
  exact pm_cok (c := px_X12_limits) hT (pm_in_ok (L := [(47, 12, 13, 2, true), (50, 12, 14, 2, true), (53, 12, 15, 2, true), (259, 12, 0, 0, false), (519, 12, 23, 0, false)]) (f := mj_pF ic_P 12093) (by decide +kernel)) (fun _ _ h => by cases h) (pm_inL_ok (L := [(929, 9), (931, 1023)]) (f := mj_pL ic_P 12093) (by decide +kernel)) (fun _ _ h => by cases h) rfl rfl ⟨by decide, rfl⟩ pm_mU (pj_as_all (p := pm_Cl 1 12093 ie_X12_limits.1 lf (pm_OK lf pm_rU)) (List.forall_mem_cons.mpr ⟨fun _ _ lv st z K a hK h => pc_X12_isIn hT (by decide) (ix := 568) rfl rfl hK h, (List.forall_mem_cons.mpr ⟨fun _ _ lv st z K a hK h => pc_X12_isIn hT (by decide) (ix := 568) rfl rfl hK h, (List.forall_mem_cons.mpr ⟨fun _ _ lv st z K a hK h => pc_X12_isIn hT (by decide) (ix := 568) rfl rfl hK h, (List.forall_mem_cons.mpr ⟨fun _ _ lv st z K a hK h => pc_X12_isIn hT (by decide) (ix := 568) rfl rfl hK h, (fun _ h => by cases h)⟩)⟩)⟩)⟩)) (fun _ h => by cases h)
set_option maxRecDepth 100000 in
theorem pb_X12_limits : pm_bks ie_X12_limits.1.2.2.2.2 pk_X12_limits = true := by decide +kernel
set_option maxRecDepth 100000 in
theorem pg_X12_limits_87 {lf : pj_Z → mj_M} (hT : pj_Lt pj_TR lf) : ∀ (a1 : Int32) (a2 : Int32) (a3 : Int32) (a4 : Int32) (b1 : Int32) (s : Nat → Int32) (l : Nat → Int64) (x : Nat → Int32) (y : Nat → Int64) (a : Unit × pj_Z), pl_X12_limits_87 a1 a2 a3 a4 b1 s l x y = some a → pm_Gd 1 12093 ie_X12_limits.1 pm_rU lf 87 [(0, .ref 124), (1, .int a1), (2, .int a2), (3, .int a3), (4, .int a4)] [.int b1, .ref 124] (s, l, x, y) a := by
  intro a1 a2 a3 a4 b1 s l x y a h
  exact pj_bl_ok (pz_X12_limits hT) (fun t lv st z hd h => pj_rn_ok (pz_X12_limits hT) (pm_bks_ok pb_X12_limits) (fun _ _ h => by cases h) 60 t lv st z hd h) [(87, .putfield 259, 3), (90, .aload_n 0, 1), (91, .getfield 259, 3), (94, .ifCond .ne 25, 3)] 87 [(0, pj_O (124, 0)), (1, pj_I a1), (2, pj_I a2), (3, pj_I a3), (4, pj_I a4)] [pj_I b1, pj_O (124, 0)] (s, l, x, y) (pm_bks_ok pb_X12_limits _ _ rfl) (pm_ndb_ok rfl) ((pq_X12_limits_87  a1 a2 a3 a4 b1 s l x y).symm.trans h)
set_option maxRecDepth 100000 in
theorem pg_X12_limits_47 {lf : pj_Z → mj_M} (hT : pj_Lt pj_TR lf) : ∀ (a1 : Int32) (a2 : Int32) (a3 : Int32) (a4 : Int32) (b0 : Int32) (s : Nat → Int32) (l : Nat → Int64) (x : Nat → Int32) (y : Nat → Int64) (a : Unit × pj_Z), pl_X12_limits_47 a1 a2 a3 a4 b0 s l x y = some a → pm_Gd 1 12093 ie_X12_limits.1 pm_rU lf 47 [(0, .ref 124), (1, .int a1), (2, .int a2), (3, .int a3), (4, .int a4)] [.int b0] (s, l, x, y) a := by
  intro a1 a2 a3 a4 b0 s l x y a h
  exact pj_bl_ok (pz_X12_limits hT) (fun t lv st z hd h => pj_rn_ok (pz_X12_limits hT) (pm_bks_ok pb_X12_limits) (pj_as_all (p := pm_Ex 1 12093 ie_X12_limits.1 pm_rU lf a) (List.forall_mem_cons.mpr ⟨pu_X12_limits_87 _ (fun c0 c1 c2 c3 c4 s l x y h => pg_X12_limits_87 hT c0 c1 c2 c3 c4 s l x y _ h), (fun _ h => by cases h)⟩)) 60 t lv st z hd h) [(47, .istore 5, 2), (49, .aload_n 0, 1), (50, .iload_n 1, 1), (51, .i2l, 1), (52, .lconst 0, 1), (53, .ldc2_w 929, 3), (56, .invokestatic 568, 3), (59, .ifCond .ne 7, 3)] 47 [(0, pj_O (124, 0)), (1, pj_I a1), (2, pj_I a2), (3, pj_I a3), (4, pj_I a4)] [pj_I b0] (s, l, x, y) (pm_bks_ok pb_X12_limits _ _ rfl) (pm_ndb_ok rfl) ((pq_X12_limits_47  a1 a2 a3 a4 b0 s l x y).symm.trans h)
set_option maxRecDepth 100000 in
theorem pg_X12_limits_46 {lf : pj_Z → mj_M} (hT : pj_Lt pj_TR lf) : ∀ (a1 : Int32) (a2 : Int32) (a3 : Int32) (a4 : Int32) (s : Nat → Int32) (l : Nat → Int64) (x : Nat → Int32) (y : Nat → Int64) (a : Unit × pj_Z), pl_X12_limits_46 a1 a2 a3 a4 s l x y = some a → pm_Gd 1 12093 ie_X12_limits.1 pm_rU lf 46 [(0, .ref 124), (1, .int a1), (2, .int a2), (3, .int a3), (4, .int a4)] [] (s, l, x, y) a := by
  intro a1 a2 a3 a4 s l x y a h
  exact pj_bl_ok (pz_X12_limits hT) (fun t lv st z hd h => pj_rn_ok (pz_X12_limits hT) (pm_bks_ok pb_X12_limits) (pj_as_all (p := pm_Ex 1 12093 ie_X12_limits.1 pm_rU lf a) (List.forall_mem_cons.mpr ⟨pu_X12_limits_47 _ (fun c0 c1 c2 c3 c4 s l x y h => pg_X12_limits_47 hT c0 c1 c2 c3 c4 s l x y _ h), (fun _ h => by cases h)⟩)) 60 t lv st z hd h) [(46, .iconst 0, 1)] 46 [(0, pj_O (124, 0)), (1, pj_I a1), (2, pj_I a2), (3, pj_I a3), (4, pj_I a4)] [] (s, l, x, y) (pm_bks_ok pb_X12_limits _ _ rfl) (pm_ndb_ok rfl) ((pq_X12_limits_46  a1 a2 a3 a4 s l x y).symm.trans h)
set_option maxRecDepth 100000 in
theorem pm_X12_limits {lf : pj_Z → mj_M} (hT : pj_Lt pj_TR lf) (a1 : Int32) (a2 : Int32) (a3 : Int32) (a4 : Int32) (s : Nat → Int32) (l : Nat → Int64) (x : Nat → Int32) (y : Nat → Int64) (a : Unit × pj_Z) (h : pf_X12_limits a1 a2 a3 a4 s l x y = some a) : mj_R ic_P 2 12093 [.ref 124, .int a1, .int a2, .int a3, .int a4] (lf (s, l, x, y)) (pm_rU a.1) (lf a.2) := by
  refine pm_main (Y := ie_X12_limits.1) rfl (Nat.le_of_ble_eq_true rfl) ?_
  exact pj_bl_ok (pz_X12_limits hT) (fun t lv st z hd h => pj_rn_ok (pz_X12_limits hT) (pm_bks_ok pb_X12_limits) (pj_as_all (p := pm_Ex 1 12093 ie_X12_limits.1 pm_rU lf a) (List.forall_mem_cons.mpr ⟨pu_X12_limits_46 _ (fun c0 c1 c2 c3 s l x y h => pg_X12_limits_46 hT c0 c1 c2 c3 s l x y _ h), (List.forall_mem_cons.mpr ⟨pu_X12_limits_47 _ (fun c0 c1 c2 c3 c4 s l x y h => pg_X12_limits_47 hT c0 c1 c2 c3 c4 s l x y _ h), (fun _ h => by cases h)⟩)⟩)) 60 t lv st z hd h) [(0, .iload_n 2, 1), (1, .i2l, 1), (2, .lconst 0, 1), (3, .ldc2_w 931, 3), (6, .invokestatic 568, 3), (9, .ifCond .eq 37, 3)] 0 [(0, pj_O (124, 0)), (1, pj_I a1), (2, pj_I a2), (3, pj_I a3), (4, pj_I a4)] [] (s, l, x, y) (pm_bks_ok pb_X12_limits _ _ rfl) (pm_ndb_ok rfl) ((pq_X12_limits_m a1 a2 a3 a4 s l x y).symm.trans h)
abbrev ph_X12_limits {A : Type} : List pj_V → pj_Z → (List pj_V → pj_Z → Option A) → Option A := fun st z K => pj_pi st fun a4 st => pj_pi st fun a3 st => pj_pi st fun a2 st => pj_pi st fun a1 st => pj_pr st 124 0 fun st => pj_ps st (pj_b (pf_X12_limits a1 a2 a3 a4 z.1 z.2.1 z.2.2.1 z.2.2.2) fun r s l x y => K st (s, l, x, y))
set_option maxRecDepth 100000 in
theorem pc_X12_limits {A : Type} {OK : A → Option Value → mj_M → Prop} {d j pc ix : Nat} {Y : mj_Y} {lf : pj_Z → mj_M} (hT : pj_Lt pj_TR lf) (hd : 2 ≤ d) (hl : mj_lk Y.2.2.2.2 pc = some (.invokevirtual ix, 3)) (hg : mj_pG ic_P j ix = some (12093, 4, some 12)) {lv : List (Nat × Value)} {st : List pj_V} {z : pj_Z} {K : List pj_V → pj_Z → Option A} {a : A} (hK : ∀ st z, K st z = some a → pj_Gd ic_P (mj_R ic_P d) j Y OK lf (pc + 3) lv (pj_es st) z a) (h : ph_X12_limits st z K = some a) : pj_Gd ic_P (mj_R ic_P d) j Y OK lf pc lv (pj_es st) z a := by
  obtain ⟨a4, r4, e4, h⟩ := pj_pi_inv h
  obtain ⟨a3, r3, e3, h⟩ := pj_pi_inv h
  obtain ⟨a2, r2, e2, h⟩ := pj_pi_inv h
  obtain ⟨a1, r1, e1, h⟩ := pj_pi_inv h
  obtain ⟨r0, e0, h⟩ := pj_pr_inv h
  obtain ⟨hs, h⟩ := pj_ps_inv h
  obtain ⟨q, hq, h⟩ := pj_b_inv h
  exact pm_cv (o := 124) hl hg [.int a1, .int a2, .int a3, .int a4] rfl (by rw [e4, e3, e2, e1, e0]; rfl) hs (by decide) ((hT.2 124 _ rfl).1.2 z 0 (by decide)) (pm_rU q.1) hd (pm_X12_limits hT a1 a2 a3 a4 z.1 z.2.1 z.2.2.1 z.2.2.2 q hq) rfl (hK _ _ h)
abbrev pe_X12_isPoint_31 (f : Int64 → Int64 → pj_F (Int32 × pj_Z)) : pj_K (Int32 × pj_Z) := fun lv st z => pj_pl st fun b1 st => pj_pl st fun b0 st => pj_pe st (f b0 b1 z.1 z.2.1 z.2.2.1 z.2.2.2)
abbrev px_X12_isPoint : pj_C (Int32 × pj_Z) := (pj_TR, (fun _ => none), (fun _ => none), (pj_as [(574, 100), (933, (-10000)), (935, 30000)]), (fun _ => none), ic_X, 3, 2, pj_mI, (pj_as [(8, ph_X12_isIn), (34, ph_X12_isIn)]), fun _ => false)
abbrev pk_X12_isPoint : List (Nat × List (Nat × Instr × Nat)) := [(0, [(0, .iload_n 1, 1), (1, .i2l, 1), (2, .ldc2_w 933, 3), (5, .ldc2_w 935, 3), (8, .invokestatic 568, 3), (11, .ifCond .eq 33, 3)]), (14, [(14, .iload_n 2, 1), (15, .i2l, 1), (16, .iload_n 0, 1), (17, .bipush 12, 2), (19, .if_icmp .ne 9, 3)]), (22, [(22, .ldc2_w 574, 3), (25, .goto 6, 3)]), (28, [(28, .ldc2_w 933, 3)]), (31, [(31, .ldc2_w 935, 3), (34, .invokestatic 568, 3), (37, .ifCond .eq 7, 3)]), (40, [(40, .iconst 1, 1), (41, .goto 4, 3)]), (44, [(44, .iconst 0, 1)]), (45, [(45, .ireturn, 1)])]
set_option maxRecDepth 100000 in
theorem pq_X12_isPoint_31 (b0 : Int64) (b1 : Int64) (s : Nat → Int32) (l : Nat → Int64) (x : Nat → Int32) (y : Nat → Int64) : pl_X12_isPoint_31 b0 b1 s l x y = pj_bl px_X12_isPoint (pj_rn px_X12_isPoint (pj_as pk_X12_isPoint) (fun _ => none) 60) [(31, .ldc2_w 935, 3), (34, .invokestatic 568, 3), (37, .ifCond .eq 7, 3)] 31 [] [pj_L b1, pj_L b0] (s, l, x, y) := rfl
set_option maxRecDepth 100000 in
theorem pq_X12_isPoint_m (a0 : Int32) (a1 : Int32) (a2 : Int32) (s : Nat → Int32) (l : Nat → Int64) (x : Nat → Int32) (y : Nat → Int64) : pf_X12_isPoint a0 a1 a2 s l x y = pj_bl px_X12_isPoint (pj_rn px_X12_isPoint (pj_as pk_X12_isPoint) (pj_as [(31, pe_X12_isPoint_31 (pl_X12_isPoint_31))]) 60) [(0, .iload_n 1, 1), (1, .i2l, 1), (2, .ldc2_w 933, 3), (5, .ldc2_w 935, 3), (8, .invokestatic 568, 3), (11, .ifCond .eq 33, 3)] 0 [(0, pj_I a0), (1, pj_I a1), (2, pj_I a2)] [] (s, l, x, y) := rfl
theorem pu_X12_isPoint_31 {lf : pj_Z → mj_M} {a : Int32 × pj_Z} (f : Int64 → Int64 → pj_F (Int32 × pj_Z)) (hf : ∀ (b0 : Int64) (b1 : Int64) (s : Nat → Int32) (l : Nat → Int64) (x : Nat → Int32) (y : Nat → Int64), f b0 b1 s l x y = some a → pm_Gd 1 12094 ie_X12_isPoint.1 pm_rI lf 31 [] [.long b1, .long b0] (s, l, x, y) a) : pm_Ex 1 12094 ie_X12_isPoint.1 pm_rI lf a 31 (pe_X12_isPoint_31 f) := by
  intro lv st z hd h
  obtain ⟨b1, r1, e1, h⟩ := pj_pl_inv h
  obtain ⟨b0, r0, e0, h⟩ := pj_pl_inv h
  obtain ⟨e9, h⟩ := pj_pe_inv h
  rw [e1, e0, e9]
  exact mj_wp_sub (mj_sub_nil hd) (hf _ _ _ _ _ _ h)
set_option maxRecDepth 100000 in
theorem pz_X12_isPoint {lf : pj_Z → mj_M} (hT : pj_Lt pj_TR lf) : pj_Cok ic_P (mj_R ic_P 1) 12094 ie_X12_isPoint.1 (pm_OK lf pm_rI) lf px_X12_isPoint := by
  exact pm_cok (c := px_X12_isPoint) hT (fun _ _ h => by cases h) (fun _ _ h => by cases h) (pm_inL_ok (L := [(574, 100), (933, (-10000)), (935, 30000)]) (f := mj_pL ic_P 12094) (by decide +kernel)) (fun _ _ h => by cases h) rfl rfl ⟨by decide, rfl⟩ pm_mI (pj_as_all (p := pm_Cl 1 12094 ie_X12_isPoint.1 lf (pm_OK lf pm_rI)) (List.forall_mem_cons.mpr ⟨fun _ _ lv st z K a hK h => pc_X12_isIn hT (by decide) (ix := 568) rfl rfl hK h, (List.forall_mem_cons.mpr ⟨fun _ _ lv st z K a hK h => pc_X12_isIn hT (by decide) (ix := 568) rfl rfl hK h, (fun _ h => by cases h)⟩)⟩)) (fun _ h => by cases h)
set_option maxRecDepth 100000 in
theorem pb_X12_isPoint : pm_bks ie_X12_isPoint.1.2.2.2.2 pk_X12_isPoint = true := by decide +kernel
set_option maxRecDepth 100000 in
theorem pg_X12_isPoint_31 {lf : pj_Z → mj_M} (hT : pj_Lt pj_TR lf) : ∀ (b0 : Int64) (b1 : Int64) (s : Nat → Int32) (l : Nat → Int64) (x : Nat → Int32) (y : Nat → Int64) (a : Int32 × pj_Z), pl_X12_isPoint_31 b0 b1 s l x y = some a → pm_Gd 1 12094 ie_X12_isPoint.1 pm_rI lf 31 [] [.long b1, .long b0] (s, l, x, y) a := by
  intro b0 b1 s l x y a h
  exact pj_bl_ok (pz_X12_isPoint hT) (fun t lv st z hd h => pj_rn_ok (pz_X12_isPoint hT) (pm_bks_ok pb_X12_isPoint) (fun _ _ h => by cases h) 60 t lv st z hd h) [(31, .ldc2_w 935, 3), (34, .invokestatic 568, 3), (37, .ifCond .eq 7, 3)] 31 [] [pj_L b1, pj_L b0] (s, l, x, y) (pm_bks_ok pb_X12_isPoint _ _ rfl) (pm_ndb_ok rfl) ((pq_X12_isPoint_31  b0 b1 s l x y).symm.trans h)
set_option maxRecDepth 100000 in
theorem pm_X12_isPoint {lf : pj_Z → mj_M} (hT : pj_Lt pj_TR lf) (a0 : Int32) (a1 : Int32) (a2 : Int32) (s : Nat → Int32) (l : Nat → Int64) (x : Nat → Int32) (y : Nat → Int64) (a : Int32 × pj_Z) (h : pf_X12_isPoint a0 a1 a2 s l x y = some a) : mj_R ic_P 2 12094 [.int a0, .int a1, .int a2] (lf (s, l, x, y)) (pm_rI a.1) (lf a.2) := by
  refine pm_main (Y := ie_X12_isPoint.1) rfl (Nat.le_of_ble_eq_true rfl) ?_
  exact pj_bl_ok (pz_X12_isPoint hT) (fun t lv st z hd h => pj_rn_ok (pz_X12_isPoint hT) (pm_bks_ok pb_X12_isPoint) (pj_as_all (p := pm_Ex 1 12094 ie_X12_isPoint.1 pm_rI lf a) (List.forall_mem_cons.mpr ⟨pu_X12_isPoint_31 _ (fun c0 c1 s l x y h => pg_X12_isPoint_31 hT c0 c1 s l x y _ h), (fun _ h => by cases h)⟩)) 60 t lv st z hd h) [(0, .iload_n 1, 1), (1, .i2l, 1), (2, .ldc2_w 933, 3), (5, .ldc2_w 935, 3), (8, .invokestatic 568, 3), (11, .ifCond .eq 33, 3)] 0 [(0, pj_I a0), (1, pj_I a1), (2, pj_I a2)] [] (s, l, x, y) (pm_bks_ok pb_X12_isPoint _ _ rfl) (pm_ndb_ok rfl) ((pq_X12_isPoint_m a0 a1 a2 s l x y).symm.trans h)
abbrev ph_X12_isPoint {A : Type} : List pj_V → pj_Z → (List pj_V → pj_Z → Option A) → Option A := fun st z K => pj_pi st fun a2 st => pj_pi st fun a1 st => pj_pi st fun a0 st => pj_ps st (pj_b (pf_X12_isPoint a0 a1 a2 z.1 z.2.1 z.2.2.1 z.2.2.2) fun r s l x y => K (pj_I r :: st) (s, l, x, y))
set_option maxRecDepth 100000 in
theorem pc_X12_isPoint {A : Type} {OK : A → Option Value → mj_M → Prop} {d j pc ix : Nat} {Y : mj_Y} {lf : pj_Z → mj_M} (hT : pj_Lt pj_TR lf) (hd : 2 ≤ d) (hl : mj_lk Y.2.2.2.2 pc = some (.invokestatic ix, 3)) (hg : mj_pG ic_P j ix = some (12094, 3, none)) {lv : List (Nat × Value)} {st : List pj_V} {z : pj_Z} {K : List pj_V → pj_Z → Option A} {a : A} (hK : ∀ st z, K st z = some a → pj_Gd ic_P (mj_R ic_P d) j Y OK lf (pc + 3) lv (pj_es st) z a) (h : ph_X12_isPoint st z K = some a) : pj_Gd ic_P (mj_R ic_P d) j Y OK lf pc lv (pj_es st) z a := by
  obtain ⟨a2, r2, e2, h⟩ := pj_pi_inv h
  obtain ⟨a1, r1, e1, h⟩ := pj_pi_inv h
  obtain ⟨a0, r0, e0, h⟩ := pj_pi_inv h
  obtain ⟨hs, h⟩ := pj_ps_inv h
  obtain ⟨q, hq, h⟩ := pj_b_inv h
  exact pm_cs hl hg [.int a0, .int a1, .int a2] rfl (by rw [e2, e1, e0]; rfl) hs (pm_rI q.1) hd (pm_X12_isPoint hT a0 a1 a2 z.1 z.2.1 z.2.2.1 z.2.2.2 q hq) rfl (hK _ _ h)
abbrev pe_X12_line_30 (f : Int32 → Int32 → Int32 → Int32 → Int32 → pj_F (Unit × pj_Z)) : pj_K (Unit × pj_Z) := fun lv st z => pj_xr lv 0 124 0 <| pj_xi lv 1 fun a1 => pj_xi lv 2 fun a2 => pj_xi lv 3 fun a3 => pj_xi lv 4 fun a4 => pj_xi lv 5 fun a5 => pj_pe st (f a1 a2 a3 a4 a5 z.1 z.2.1 z.2.2.1 z.2.2.2)
abbrev pe_X12_line_31 (f : Int32 → Int32 → Int32 → Int32 → Int32 → Int32 → pj_F (Unit × pj_Z)) : pj_K (Unit × pj_Z) := fun lv st z => pj_xr lv 0 124 0 <| pj_xi lv 1 fun a1 => pj_xi lv 2 fun a2 => pj_xi lv 3 fun a3 => pj_xi lv 4 fun a4 => pj_xi lv 5 fun a5 => pj_pi st fun b0 st => pj_pe st (f a1 a2 a3 a4 a5 b0 z.1 z.2.1 z.2.2.1 z.2.2.2)
abbrev pe_X12_line_71 (f : Int32 → Int32 → Int32 → Int32 → Int32 → Int32 → pj_F (Unit × pj_Z)) : pj_K (Unit × pj_Z) := fun lv st z => pj_xr lv 0 124 0 <| pj_xi lv 1 fun a1 => pj_xi lv 2 fun a2 => pj_xi lv 3 fun a3 => pj_xi lv 4 fun a4 => pj_xi lv 5 fun a5 => pj_pi st fun b1 st => pj_pr st 124 0 fun st => pj_pe st (f a1 a2 a3 a4 a5 b1 z.1 z.2.1 z.2.2.1 z.2.2.2)
abbrev px_X12_line : pj_C (Unit × pj_Z) := (pj_TR, (pj_as [(22, 12, 4, 2, true), (25, 12, 5, 2, true), (28, 12, 6, 2, true), (259, 12, 0, 0, false), (519, 12, 23, 0, false)]), (fun _ => none), (pj_as [(940, 12)]), (fun _ => none), ic_X, 7, 0, pj_mU, (pj_as [(3, ph_X12_isPoint), (14, ph_X12_isPoint), (40, ph_X12_isIn)]), fun _ => false)
abbrev pk_X12_line : List (Nat × List (Nat × Instr × Nat)) := [(0, [(0, .iload_n 1, 1), (1, .iload_n 2, 1), (2, .iload_n 3, 1), (3, .invokestatic 937, 3), (6, .ifCond .eq 24, 3)]), (9, [(9, .iload_n 1, 1), (10, .iload 4, 2), (12, .iload 5, 2), (14, .invokestatic 937, 3), (17, .ifCond .eq 13, 3)]), (20, [(20, .iload_n 2, 1), (21, .iload 4, 2), (23, .if_icmp .ge 7, 3)]), (26, [(26, .iconst 1, 1), (27, .goto 4, 3)]), (30, [(30, .iconst 0, 1)]), (31, [(31, .istore 6, 2), (33, .aload_n 0, 1), (34, .iload_n 1, 1), (35, .i2l, 1), (36, .lconst 0, 1), (37, .ldc2_w 940, 3), (40, .invokestatic 568, 3), (43, .ifCond .ne 7, 3)]), (46, [(46, .iconst 1, 1), (47, .goto 24, 3)]), (50, [(50, .iload 6, 2), (52, .ifCond .ne 7, 3)]), (55, [(55, .iconst 2, 1), (56, .goto 15, 3)]), (59, [(59, .aload_n 0, 1), (60, .getfield 519, 3), (63, .ifCond .eq 7, 3)]), (66, [(66, .iconst 3, 1), (67, .goto 4, 3)]), (70, [(70, .iconst 0, 1)]), (71, [(71, .putfield 259, 3), (74, .aload_n 0, 1), (75, .getfield 259, 3), (78, .ifCond .ne 56, 3)]), (81, [(81, .aload_n 0, 1), (82, .getfield 22, 3), (85, .iload_n 1, 1), (86, .iconst 2, 1), (87, .iastore, 1), (88, .aload_n 0, 1), (89, .getfield 25, 3), (92, .bipush 8, 2), (94, .iload_n 1, 1), (95, .imul, 1), (96, .iload_n 2, 1), (97, .iastore, 1), (98, .aload_n 0, 1), (99, .getfield 28, 3), (102, .bipush 8, 2), (104, .iload_n 1, 1), (105, .imul, 1), (106, .iload_n 3, 1), (107, .iastore, 1), (108, .aload_n 0, 1), (109, .getfield 25, 3), (112, .bipush 8, 2), (114, .iload_n 1, 1), (115, .imul, 1), (116, .iconst 1, 1), (117, .iadd, 1), (118, .iload 4, 2), (120, .iastore, 1), (121, .aload_n 0, 1), (122, .getfield 28, 3), (125, .bipush 8, 2), (127, .iload_n 1, 1), (128, .imul, 1), (129, .iconst 1, 1), (130, .iadd, 1), (131, .iload 5, 2), (133, .iastore, 1)]), (134, [(134, .return_, 1)])]
set_option maxRecDepth 100000 in
theorem pq_X12_line_71 (a1 : Int32) (a2 : Int32) (a3 : Int32) (a4 : Int32) (a5 : Int32) (b1 : Int32) (s : Nat → Int32) (l : Nat → Int64) (x : Nat → Int32) (y : Nat → Int64) : pl_X12_line_71 a1 a2 a3 a4 a5 b1 s l x y = pj_bl px_X12_line (pj_rn px_X12_line (pj_as pk_X12_line) (fun _ => none) 60) [(71, .putfield 259, 3), (74, .aload_n 0, 1), (75, .getfield 259, 3), (78, .ifCond .ne 56, 3)] 71 [(0, pj_O (124, 0)), (1, pj_I a1), (2, pj_I a2), (3, pj_I a3), (4, pj_I a4), (5, pj_I a5)] [pj_I b1, pj_O (124, 0)] (s, l, x, y) := rfl
set_option maxRecDepth 100000 in
theorem pq_X12_line_31 (a1 : Int32) (a2 : Int32) (a3 : Int32) (a4 : Int32) (a5 : Int32) (b0 : Int32) (s : Nat → Int32) (l : Nat → Int64) (x : Nat → Int32) (y : Nat → Int64) : pl_X12_line_31 a1 a2 a3 a4 a5 b0 s l x y = pj_bl px_X12_line (pj_rn px_X12_line (pj_as pk_X12_line) (pj_as [(71, pe_X12_line_71 (pl_X12_line_71))]) 60) [(31, .istore 6, 2), (33, .aload_n 0, 1), (34, .iload_n 1, 1), (35, .i2l, 1), (36, .lconst 0, 1), (37, .ldc2_w 940, 3), (40, .invokestatic 568, 3), (43, .ifCond .ne 7, 3)] 31 [(0, pj_O (124, 0)), (1, pj_I a1), (2, pj_I a2), (3, pj_I a3), (4, pj_I a4), (5, pj_I a5)] [pj_I b0] (s, l, x, y) := rfl
set_option maxRecDepth 100000 in
theorem pq_X12_line_30 (a1 : Int32) (a2 : Int32) (a3 : Int32) (a4 : Int32) (a5 : Int32) (s : Nat → Int32) (l : Nat → Int64) (x : Nat → Int32) (y : Nat → Int64) : pl_X12_line_30 a1 a2 a3 a4 a5 s l x y = pj_bl px_X12_line (pj_rn px_X12_line (pj_as pk_X12_line) (pj_as [(31, pe_X12_line_31 (pl_X12_line_31))]) 60) [(30, .iconst 0, 1)] 30 [(0, pj_O (124, 0)), (1, pj_I a1), (2, pj_I a2), (3, pj_I a3), (4, pj_I a4), (5, pj_I a5)] [] (s, l, x, y) := rfl
set_option maxRecDepth 100000 in
theorem pq_X12_line_m (a1 : Int32) (a2 : Int32) (a3 : Int32) (a4 : Int32) (a5 : Int32) (s : Nat → Int32) (l : Nat → Int64) (x : Nat → Int32) (y : Nat → Int64) : pf_X12_line a1 a2 a3 a4 a5 s l x y = pj_bl px_X12_line (pj_rn px_X12_line (pj_as pk_X12_line) (pj_as [(30, pe_X12_line_30 (pl_X12_line_30)), (31, pe_X12_line_31 (pl_X12_line_31))]) 60) [(0, .iload_n 1, 1), (1, .iload_n 2, 1), (2, .iload_n 3, 1), (3, .invokestatic 937, 3), (6, .ifCond .eq 24, 3)] 0 [(0, pj_O (124, 0)), (1, pj_I a1), (2, pj_I a2), (3, pj_I a3), (4, pj_I a4), (5, pj_I a5)] [] (s, l, x, y) := rfl
theorem pu_X12_line_30 {lf : pj_Z → mj_M} {a : Unit × pj_Z} (f : Int32 → Int32 → Int32 → Int32 → Int32 → pj_F (Unit × pj_Z)) (hf : ∀ (a1 : Int32) (a2 : Int32) (a3 : Int32) (a4 : Int32) (a5 : Int32) (s : Nat → Int32) (l : Nat → Int64) (x : Nat → Int32) (y : Nat → Int64), f a1 a2 a3 a4 a5 s l x y = some a → pm_Gd 2 12095 ie_X12_line.1 pm_rU lf 30 [(0, .ref 124), (1, .int a1), (2, .int a2), (3, .int a3), (4, .int a4), (5, .int a5)] [] (s, l, x, y) a) : pm_Ex 2 12095 ie_X12_line.1 pm_rU lf a 30 (pe_X12_line_30 f) := by
  intro lv st z hd h
  obtain ⟨g0, h⟩ := pj_xr_inv h
  obtain ⟨a1, g1, h⟩ := pj_xi_inv h
  obtain ⟨a2, g2, h⟩ := pj_xi_inv h
  obtain ⟨a3, g3, h⟩ := pj_xi_inv h
  obtain ⟨a4, g4, h⟩ := pj_xi_inv h
  obtain ⟨a5, g5, h⟩ := pj_xi_inv h
  obtain ⟨e9, h⟩ := pj_pe_inv h
  rw [e9]
  exact mj_wp_sub (mj_sub_cons g0 (mj_sub_cons g1 (mj_sub_cons g2 (mj_sub_cons g3 (mj_sub_cons g4 (mj_sub_cons g5 (mj_sub_nil hd))))))) (hf _ _ _ _ _ _ _ _ _ h)
theorem pu_X12_line_31 {lf : pj_Z → mj_M} {a : Unit × pj_Z} (f : Int32 → Int32 → Int32 → Int32 → Int32 → Int32 → pj_F (Unit × pj_Z)) (hf : ∀ (a1 : Int32) (a2 : Int32) (a3 : Int32) (a4 : Int32) (a5 : Int32) (b0 : Int32) (s : Nat → Int32) (l : Nat → Int64) (x : Nat → Int32) (y : Nat → Int64), f a1 a2 a3 a4 a5 b0 s l x y = some a → pm_Gd 2 12095 ie_X12_line.1 pm_rU lf 31 [(0, .ref 124), (1, .int a1), (2, .int a2), (3, .int a3), (4, .int a4), (5, .int a5)] [.int b0] (s, l, x, y) a) : pm_Ex 2 12095 ie_X12_line.1 pm_rU lf a 31 (pe_X12_line_31 f) := by
  intro lv st z hd h
  obtain ⟨g0, h⟩ := pj_xr_inv h
  obtain ⟨a1, g1, h⟩ := pj_xi_inv h
  obtain ⟨a2, g2, h⟩ := pj_xi_inv h
  obtain ⟨a3, g3, h⟩ := pj_xi_inv h
  obtain ⟨a4, g4, h⟩ := pj_xi_inv h
  obtain ⟨a5, g5, h⟩ := pj_xi_inv h
  obtain ⟨b0, r0, e0, h⟩ := pj_pi_inv h
  obtain ⟨e9, h⟩ := pj_pe_inv h
  rw [e0, e9]
  exact mj_wp_sub (mj_sub_cons g0 (mj_sub_cons g1 (mj_sub_cons g2 (mj_sub_cons g3 (mj_sub_cons g4 (mj_sub_cons g5 (mj_sub_nil hd))))))) (hf _ _ _ _ _ _ _ _ _ _ h)
theorem pu_X12_line_71 {lf : pj_Z → mj_M} {a : Unit × pj_Z} (f : Int32 → Int32 → Int32 → Int32 → Int32 → Int32 → pj_F (Unit × pj_Z)) (hf : ∀ (a1 : Int32) (a2 : Int32) (a3 : Int32) (a4 : Int32) (a5 : Int32) (b1 : Int32) (s : Nat → Int32) (l : Nat → Int64) (x : Nat → Int32) (y : Nat → Int64), f a1 a2 a3 a4 a5 b1 s l x y = some a → pm_Gd 2 12095 ie_X12_line.1 pm_rU lf 71 [(0, .ref 124), (1, .int a1), (2, .int a2), (3, .int a3), (4, .int a4), (5, .int a5)] [.int b1, .ref 124] (s, l, x, y) a) : pm_Ex 2 12095 ie_X12_line.1 pm_rU lf a 71 (pe_X12_line_71 f) := by
  intro lv st z hd h
  obtain ⟨g0, h⟩ := pj_xr_inv h
  obtain ⟨a1, g1, h⟩ := pj_xi_inv h
  obtain ⟨a2, g2, h⟩ := pj_xi_inv h
  obtain ⟨a3, g3, h⟩ := pj_xi_inv h
  obtain ⟨a4, g4, h⟩ := pj_xi_inv h
  obtain ⟨a5, g5, h⟩ := pj_xi_inv h
  obtain ⟨b1, r1, e1, h⟩ := pj_pi_inv h
  obtain ⟨r0, e0, h⟩ := pj_pr_inv h
  obtain ⟨e9, h⟩ := pj_pe_inv h
  rw [e1, e0, e9]
  exact mj_wp_sub (mj_sub_cons g0 (mj_sub_cons g1 (mj_sub_cons g2 (mj_sub_cons g3 (mj_sub_cons g4 (mj_sub_cons g5 (mj_sub_nil hd))))))) (hf _ _ _ _ _ _ _ _ _ _ h)
set_option maxRecDepth 100000 in
theorem pz_X12_line {lf : pj_Z → mj_M} (hT : pj_Lt pj_TR lf) : pj_Cok ic_P (mj_R ic_P 2) 12095 ie_X12_line.1 (pm_OK lf pm_rU) lf px_X12_line := by
  exact pm_cok (c := px_X12_line) hT (pm_in_ok (L := [(22, 12, 4, 2, true), (25, 12, 5, 2, true), (28, 12, 6, 2, true), (259, 12, 0, 0, false), (519, 12, 23, 0, false)]) (f := mj_pF ic_P 12095) (by decide +kernel)) (fun _ _ h => by cases h) (pm_inL_ok (L := [(940, 12)]) (f := mj_pL ic_P 12095) (by decide +kernel)) (fun _ _ h => by cases h) rfl rfl ⟨by decide, rfl⟩ pm_mU (pj_as_all (p := pm_Cl 2 12095 ie_X12_line.1 lf (pm_OK lf pm_rU)) (List.forall_mem_cons.mpr ⟨fun _ _ lv st z K a hK h => pc_X12_isPoint hT (by decide) (ix := 937) rfl rfl hK h, (List.forall_mem_cons.mpr ⟨fun _ _ lv st z K a hK h => pc_X12_isPoint hT (by decide) (ix := 937) rfl rfl hK h, (List.forall_mem_cons.mpr ⟨fun _ _ lv st z K a hK h => pc_X12_isIn hT (by decide) (ix := 568) rfl rfl hK h, (fun _ h => by cases h)⟩)⟩)⟩)) (fun _ h => by cases h)
set_option maxRecDepth 100000 in
theorem pb_X12_line : pm_bks ie_X12_line.1.2.2.2.2 pk_X12_line = true := by decide +kernel
set_option maxRecDepth 100000 in
theorem pg_X12_line_71 {lf : pj_Z → mj_M} (hT : pj_Lt pj_TR lf) : ∀ (a1 : Int32) (a2 : Int32) (a3 : Int32) (a4 : Int32) (a5 : Int32) (b1 : Int32) (s : Nat → Int32) (l : Nat → Int64) (x : Nat → Int32) (y : Nat → Int64) (a : Unit × pj_Z), pl_X12_line_71 a1 a2 a3 a4 a5 b1 s l x y = some a → pm_Gd 2 12095 ie_X12_line.1 pm_rU lf 71 [(0, .ref 124), (1, .int a1), (2, .int a2), (3, .int a3), (4, .int a4), (5, .int a5)] [.int b1, .ref 124] (s, l, x, y) a := by
  intro a1 a2 a3 a4 a5 b1 s l x y a h
  exact pj_bl_ok (pz_X12_line hT) (fun t lv st z hd h => pj_rn_ok (pz_X12_line hT) (pm_bks_ok pb_X12_line) (fun _ _ h => by cases h) 60 t lv st z hd h) [(71, .putfield 259, 3), (74, .aload_n 0, 1), (75, .getfield 259, 3), (78, .ifCond .ne 56, 3)] 71 [(0, pj_O (124, 0)), (1, pj_I a1), (2, pj_I a2), (3, pj_I a3), (4, pj_I a4), (5, pj_I a5)] [pj_I b1, pj_O (124, 0)] (s, l, x, y) (pm_bks_ok pb_X12_line _ _ rfl) (pm_ndb_ok rfl) ((pq_X12_line_71  a1 a2 a3 a4 a5 b1 s l x y).symm.trans h)
set_option maxRecDepth 100000 in
theorem pg_X12_line_31 {lf : pj_Z → mj_M} (hT : pj_Lt pj_TR lf) : ∀ (a1 : Int32) (a2 : Int32) (a3 : Int32) (a4 : Int32) (a5 : Int32) (b0 : Int32) (s : Nat → Int32) (l : Nat → Int64) (x : Nat → Int32) (y : Nat → Int64) (a : Unit × pj_Z), pl_X12_line_31 a1 a2 a3 a4 a5 b0 s l x y = some a → pm_Gd 2 12095 ie_X12_line.1 pm_rU lf 31 [(0, .ref 124), (1, .int a1), (2, .int a2), (3, .int a3), (4, .int a4), (5, .int a5)] [.int b0] (s, l, x, y) a := by
  intro a1 a2 a3 a4 a5 b0 s l x y a h
  exact pj_bl_ok (pz_X12_line hT) (fun t lv st z hd h => pj_rn_ok (pz_X12_line hT) (pm_bks_ok pb_X12_line) (pj_as_all (p := pm_Ex 2 12095 ie_X12_line.1 pm_rU lf a) (List.forall_mem_cons.mpr ⟨pu_X12_line_71 _ (fun c0 c1 c2 c3 c4 c5 s l x y h => pg_X12_line_71 hT c0 c1 c2 c3 c4 c5 s l x y _ h), (fun _ h => by cases h)⟩)) 60 t lv st z hd h) [(31, .istore 6, 2), (33, .aload_n 0, 1), (34, .iload_n 1, 1), (35, .i2l, 1), (36, .lconst 0, 1), (37, .ldc2_w 940, 3), (40, .invokestatic 568, 3), (43, .ifCond .ne 7, 3)] 31 [(0, pj_O (124, 0)), (1, pj_I a1), (2, pj_I a2), (3, pj_I a3), (4, pj_I a4), (5, pj_I a5)] [pj_I b0] (s, l, x, y) (pm_bks_ok pb_X12_line _ _ rfl) (pm_ndb_ok rfl) ((pq_X12_line_31  a1 a2 a3 a4 a5 b0 s l x y).symm.trans h)
set_option maxRecDepth 100000 in
theorem pg_X12_line_30 {lf : pj_Z → mj_M} (hT : pj_Lt pj_TR lf) : ∀ (a1 : Int32) (a2 : Int32) (a3 : Int32) (a4 : Int32) (a5 : Int32) (s : Nat → Int32) (l : Nat → Int64) (x : Nat → Int32) (y : Nat → Int64) (a : Unit × pj_Z), pl_X12_line_30 a1 a2 a3 a4 a5 s l x y = some a → pm_Gd 2 12095 ie_X12_line.1 pm_rU lf 30 [(0, .ref 124), (1, .int a1), (2, .int a2), (3, .int a3), (4, .int a4), (5, .int a5)] [] (s, l, x, y) a := by
  intro a1 a2 a3 a4 a5 s l x y a h
  exact pj_bl_ok (pz_X12_line hT) (fun t lv st z hd h => pj_rn_ok (pz_X12_line hT) (pm_bks_ok pb_X12_line) (pj_as_all (p := pm_Ex 2 12095 ie_X12_line.1 pm_rU lf a) (List.forall_mem_cons.mpr ⟨pu_X12_line_31 _ (fun c0 c1 c2 c3 c4 c5 s l x y h => pg_X12_line_31 hT c0 c1 c2 c3 c4 c5 s l x y _ h), (fun _ h => by cases h)⟩)) 60 t lv st z hd h) [(30, .iconst 0, 1)] 30 [(0, pj_O (124, 0)), (1, pj_I a1), (2, pj_I a2), (3, pj_I a3), (4, pj_I a4), (5, pj_I a5)] [] (s, l, x, y) (pm_bks_ok pb_X12_line _ _ rfl) (pm_ndb_ok rfl) ((pq_X12_line_30  a1 a2 a3 a4 a5 s l x y).symm.trans h)
set_option maxRecDepth 100000 in
theorem pm_X12_line {lf : pj_Z → mj_M} (hT : pj_Lt pj_TR lf) (a1 : Int32) (a2 : Int32) (a3 : Int32) (a4 : Int32) (a5 : Int32) (s : Nat → Int32) (l : Nat → Int64) (x : Nat → Int32) (y : Nat → Int64) (a : Unit × pj_Z) (h : pf_X12_line a1 a2 a3 a4 a5 s l x y = some a) : mj_R ic_P 3 12095 [.ref 124, .int a1, .int a2, .int a3, .int a4, .int a5] (lf (s, l, x, y)) (pm_rU a.1) (lf a.2) := by
  refine pm_main (Y := ie_X12_line.1) rfl (Nat.le_of_ble_eq_true rfl) ?_
  exact pj_bl_ok (pz_X12_line hT) (fun t lv st z hd h => pj_rn_ok (pz_X12_line hT) (pm_bks_ok pb_X12_line) (pj_as_all (p := pm_Ex 2 12095 ie_X12_line.1 pm_rU lf a) (List.forall_mem_cons.mpr ⟨pu_X12_line_30 _ (fun c0 c1 c2 c3 c4 s l x y h => pg_X12_line_30 hT c0 c1 c2 c3 c4 s l x y _ h), (List.forall_mem_cons.mpr ⟨pu_X12_line_31 _ (fun c0 c1 c2 c3 c4 c5 s l x y h => pg_X12_line_31 hT c0 c1 c2 c3 c4 c5 s l x y _ h), (fun _ h => by cases h)⟩)⟩)) 60 t lv st z hd h) [(0, .iload_n 1, 1), (1, .iload_n 2, 1), (2, .iload_n 3, 1), (3, .invokestatic 937, 3), (6, .ifCond .eq 24, 3)] 0 [(0, pj_O (124, 0)), (1, pj_I a1), (2, pj_I a2), (3, pj_I a3), (4, pj_I a4), (5, pj_I a5)] [] (s, l, x, y) (pm_bks_ok pb_X12_line _ _ rfl) (pm_ndb_ok rfl) ((pq_X12_line_m a1 a2 a3 a4 a5 s l x y).symm.trans h)
abbrev ph_X12_line {A : Type} : List pj_V → pj_Z → (List pj_V → pj_Z → Option A) → Option A := fun st z K => pj_pi st fun a5 st => pj_pi st fun a4 st => pj_pi st fun a3 st => pj_pi st fun a2 st => pj_pi st fun a1 st => pj_pr st 124 0 fun st => pj_ps st (pj_b (pf_X12_line a1 a2 a3 a4 a5 z.1 z.2.1 z.2.2.1 z.2.2.2) fun r s l x y => K st (s, l, x, y))
set_option maxRecDepth 100000 in
theorem pc_X12_line {A : Type} {OK : A → Option Value → mj_M → Prop} {d j pc ix : Nat} {Y : mj_Y} {lf : pj_Z → mj_M} (hT : pj_Lt pj_TR lf) (hd : 3 ≤ d) (hl : mj_lk Y.2.2.2.2 pc = some (.invokevirtual ix, 3)) (hg : mj_pG ic_P j ix = some (12095, 5, some 12)) {lv : List (Nat × Value)} {st : List pj_V} {z : pj_Z} {K : List pj_V → pj_Z → Option A} {a : A} (hK : ∀ st z, K st z = some a → pj_Gd ic_P (mj_R ic_P d) j Y OK lf (pc + 3) lv (pj_es st) z a) (h : ph_X12_line st z K = some a) : pj_Gd ic_P (mj_R ic_P d) j Y OK lf pc lv (pj_es st) z a := by
  obtain ⟨a5, r5, e5, h⟩ := pj_pi_inv h
  obtain ⟨a4, r4, e4, h⟩ := pj_pi_inv h
  obtain ⟨a3, r3, e3, h⟩ := pj_pi_inv h
  obtain ⟨a2, r2, e2, h⟩ := pj_pi_inv h
  obtain ⟨a1, r1, e1, h⟩ := pj_pi_inv h
  obtain ⟨r0, e0, h⟩ := pj_pr_inv h
  obtain ⟨hs, h⟩ := pj_ps_inv h
  obtain ⟨q, hq, h⟩ := pj_b_inv h
  exact pm_cv (o := 124) hl hg [.int a1, .int a2, .int a3, .int a4, .int a5] rfl (by rw [e5, e4, e3, e2, e1, e0]; rfl) hs (by decide) ((hT.2 124 _ rfl).1.2 z 0 (by decide)) (pm_rU q.1) hd (pm_X12_line hT a1 a2 a3 a4 a5 z.1 z.2.1 z.2.2.1 z.2.2.2 q hq) rfl (hK _ _ h)
abbrev pe_X12_point_51 (f : Int32 → Int32 → Int32 → Int32 → pj_F (Int32 × pj_Z)) : pj_K (Int32 × pj_Z) := fun lv st z => pj_xr lv 0 124 0 <| pj_xi lv 1 fun a1 => pj_xi lv 2 fun a2 => pj_xi lv 3 fun a3 => pj_xi lv 4 fun a4 => pj_pe st (f a1 a2 a3 a4 z.1 z.2.1 z.2.2.1 z.2.2.2)
abbrev pe_X12_point_52 (f : Int32 → Int32 → Int32 → Int32 → Int32 → pj_F (Int32 × pj_Z)) : pj_K (Int32 × pj_Z) := fun lv st z => pj_xr lv 0 124 0 <| pj_xi lv 1 fun a1 => pj_xi lv 2 fun a2 => pj_xi lv 3 fun a3 => pj_xi lv 4 fun a4 => pj_pi st fun b0 st => pj_pe st (f a1 a2 a3 a4 b0 z.1 z.2.1 z.2.2.1 z.2.2.2)
abbrev pe_X12_point_91 (f : Int32 → Int32 → Int32 → pj_F (Int32 × pj_Z)) : pj_K (Int32 × pj_Z) := fun lv st z => pj_xr lv 0 124 0 <| pj_xi lv 1 fun a1 => pj_xi lv 2 fun a2 => pj_xi lv 3 fun a3 => pj_pr st 124 0 fun st => pj_pe st (f a1 a2 a3 z.1 z.2.1 z.2.2.1 z.2.2.2)
abbrev pe_X12_point_96 (f : Int32 → Int32 → Int32 → Int32 → pj_F (Int32 × pj_Z)) : pj_K (Int32 × pj_Z) := fun lv st z => pj_xr lv 0 124 0 <| pj_xi lv 1 fun a1 => pj_xi lv 2 fun a2 => pj_xi lv 3 fun a3 => pj_pi st fun b1 st => pj_pr st 124 0 fun st => pj_pe st (f a1 a2 a3 b1 z.1 z.2.1 z.2.2.1 z.2.2.2)
abbrev px_X12_point : pj_C (Int32 × pj_Z) := (pj_TR, (pj_as [(22, 12, 4, 2, true), (25, 12, 5, 2, true), (28, 12, 6, 2, true), (259, 12, 0, 0, false), (519, 12, 23, 0, false)]), (fun _ => none), (pj_as [(940, 12)]), (fun _ => none), ic_X, 6, 1, pj_mI, (pj_as [(6, ph_X12_isIn), (19, ph_X12_isPoint)]), fun _ => false)
abbrev pk_X12_point : List (Nat × List (Nat × Instr × Nat)) := [(0, [(0, .iload_n 1, 1), (1, .i2l, 1), (2, .lconst 0, 1), (3, .ldc2_w 940, 3), (6, .invokestatic 568, 3), (9, .istore 4, 2), (11, .iload 4, 2), (13, .ifCond .eq 38, 3)]), (16, [(16, .iload_n 1, 1), (17, .iload_n 2, 1), (18, .iload_n 3, 1), (19, .invokestatic 937, 3), (22, .ifCond .eq 29, 3)]), (25, [(25, .iload_n 2, 1), (26, .aload_n 0, 1), (27, .getfield 25, 3), (30, .bipush 8, 2), (32, .iload_n 1, 1), (33, .imul, 1), (34, .aload_n 0, 1), (35, .getfield 22, 3), (38, .iload_n 1, 1), (39, .iaload, 1), (40, .iadd, 1), (41, .iconst 1, 1), (42, .isub, 1), (43, .iaload, 1), (44, .if_icmp .le 7, 3)]), (47, [(47, .iconst 1, 1), (48, .goto 4, 3)]), (51, [(51, .iconst 0, 1)]), (52, [(52, .istore 5, 2), (54, .aload_n 0, 1), (55, .iload 4, 2), (57, .ifCond .ne 7, 3)]), (60, [(60, .iconst 1, 1), (61, .goto 35, 3)]), (64, [(64, .iload 5, 2), (66, .ifCond .ne 7, 3)]), (69, [(69, .iconst 2, 1), (70, .goto 26, 3)]), (73, [(73, .aload_n 0, 1), (74, .getfield 519, 3), (77, .ifCond .ne 14, 3)]), (80, [(80, .aload_n 0, 1), (81, .getfield 22, 3), (84, .iload_n 1, 1), (85, .iaload, 1), (86, .bipush 8, 2), (88, .if_icmp .ne 7, 3)]), (91, [(91, .iconst 3, 1), (92, .goto 4, 3)]), (95, [(95, .iconst 0, 1)]), (96, [(96, .putfield 259, 3), (99, .aload_n 0, 1), (100, .getfield 259, 3), (103, .ifCond .le 5, 3)]), (106, [(106, .iconst 0, 1), (107, .ireturn, 1)]), (108, [(108, .aload_n 0, 1), (109, .getfield 25, 3), (112, .bipush 8, 2), (114, .iload_n 1, 1), (115, .imul, 1), (116, .aload_n 0, 1), (117, .getfield 22, 3), (120, .iload_n 1, 1), (121, .iaload, 1), (122, .iadd, 1), (123, .iload_n 2, 1), (124, .iastore, 1), (125, .aload_n 0, 1), (126, .getfield 28, 3), (129, .bipush 8, 2), (131, .iload_n 1, 1), (132, .imul, 1), (133, .aload_n 0, 1), (134, .getfield 22, 3), (137, .iload_n 1, 1), (138, .iaload, 1), (139, .iadd, 1), (140, .iload_n 3, 1), (141, .iastore, 1), (142, .aload_n 0, 1), (143, .getfield 22, 3), (146, .iload_n 1, 1), (147, .dup2, 1), (148, .iaload, 1), (149, .iconst 1, 1), (150, .iadd, 1), (151, .iastore, 1), (152, .aload_n 0, 1), (153, .getfield 22, 3), (156, .iload_n 1, 1), (157, .iaload, 1), (158, .ireturn, 1)])]
set_option maxRecDepth 100000 in
theorem pq_X12_point_96 (a1 : Int32) (a2 : Int32) (a3 : Int32) (b1 : Int32) (s : Nat → Int32) (l : Nat → Int64) (x : Nat → Int32) (y : Nat → Int64) : pl_X12_point_96 a1 a2 a3 b1 s l x y = pj_bl px_X12_point (pj_rn px_X12_point (pj_as pk_X12_point) (fun _ => none) 60) [(96, .putfield 259, 3), (99, .aload_n 0, 1), (100, .getfield 259, 3), (103, .ifCond .le 5, 3)] 96 [(0, pj_O (124, 0)), (1, pj_I a1), (2, pj_I a2), (3, pj_I a3)] [pj_I b1, pj_O (124, 0)] (s, l, x, y) := rfl
set_option maxRecDepth 100000 in
theorem pq_X12_point_91 (a1 : Int32) (a2 : Int32) (a3 : Int32) (s : Nat → Int32) (l : Nat → Int64) (x : Nat → Int32) (y : Nat → Int64) : pl_X12_point_91 a1 a2 a3 s l x y = pj_bl px_X12_point (pj_rn px_X12_point (pj_as pk_X12_point) (pj_as [(96, pe_X12_point_96 (pl_X12_point_96))]) 60) [(91, .iconst 3, 1), (92, .goto 4, 3)] 91 [(0, pj_O (124, 0)), (1, pj_I a1), (2, pj_I a2), (3, pj_I a3)] [pj_O (124, 0)] (s, l, x, y) := rfl
set_option maxRecDepth 100000 in
theorem pq_X12_point_52 (a1 : Int32) (a2 : Int32) (a3 : Int32) (a4 : Int32) (b0 : Int32) (s : Nat → Int32) (l : Nat → Int64) (x : Nat → Int32) (y : Nat → Int64) : pl_X12_point_52 a1 a2 a3 a4 b0 s l x y = pj_bl px_X12_point (pj_rn px_X12_point (pj_as pk_X12_point) (pj_as [(91, pe_X12_point_91 (pl_X12_point_91)), (96, pe_X12_point_96 (pl_X12_point_96))]) 60) [(52, .istore 5, 2), (54, .aload_n 0, 1), (55, .iload 4, 2), (57, .ifCond .ne 7, 3)] 52 [(0, pj_O (124, 0)), (1, pj_I a1), (2, pj_I a2), (3, pj_I a3), (4, pj_I a4)] [pj_I b0] (s, l, x, y) := rfl
set_option maxRecDepth 100000 in
theorem pq_X12_point_51 (a1 : Int32) (a2 : Int32) (a3 : Int32) (a4 : Int32) (s : Nat → Int32) (l : Nat → Int64) (x : Nat → Int32) (y : Nat → Int64) : pl_X12_point_51 a1 a2 a3 a4 s l x y = pj_bl px_X12_point (pj_rn px_X12_point (pj_as pk_X12_point) (pj_as [(52, pe_X12_point_52 (pl_X12_point_52))]) 60) [(51, .iconst 0, 1)] 51 [(0, pj_O (124, 0)), (1, pj_I a1), (2, pj_I a2), (3, pj_I a3), (4, pj_I a4)] [] (s, l, x, y) := rfl
set_option maxRecDepth 100000 in
theorem pq_X12_point_m (a1 : Int32) (a2 : Int32) (a3 : Int32) (s : Nat → Int32) (l : Nat → Int64) (x : Nat → Int32) (y : Nat → Int64) : pf_X12_point a1 a2 a3 s l x y = pj_bl px_X12_point (pj_rn px_X12_point (pj_as pk_X12_point) (pj_as [(51, pe_X12_point_51 (pl_X12_point_51)), (52, pe_X12_point_52 (pl_X12_point_52))]) 60) [(0, .iload_n 1, 1), (1, .i2l, 1), (2, .lconst 0, 1), (3, .ldc2_w 940, 3), (6, .invokestatic 568, 3), (9, .istore 4, 2), (11, .iload 4, 2), (13, .ifCond .eq 38, 3)] 0 [(0, pj_O (124, 0)), (1, pj_I a1), (2, pj_I a2), (3, pj_I a3)] [] (s, l, x, y) := rfl
theorem pu_X12_point_51 {lf : pj_Z → mj_M} {a : Int32 × pj_Z} (f : Int32 → Int32 → Int32 → Int32 → pj_F (Int32 × pj_Z)) (hf : ∀ (a1 : Int32) (a2 : Int32) (a3 : Int32) (a4 : Int32) (s : Nat → Int32) (l : Nat → Int64) (x : Nat → Int32) (y : Nat → Int64), f a1 a2 a3 a4 s l x y = some a → pm_Gd 2 12096 ie_X12_point.1 pm_rI lf 51 [(0, .ref 124), (1, .int a1), (2, .int a2), (3, .int a3), (4, .int a4)] [] (s, l, x, y) a) : pm_Ex 2 12096 ie_X12_point.1 pm_rI lf a 51 (pe_X12_point_51 f) := by
  intro lv st z hd h
  obtain ⟨g0, h⟩ := pj_xr_inv h
  obtain ⟨a1, g1, h⟩ := pj_xi_inv h
  obtain ⟨a2, g2, h⟩ := pj_xi_inv h
  obtain ⟨a3, g3, h⟩ := pj_xi_inv h
  obtain ⟨a4, g4, h⟩ := pj_xi_inv h
  obtain ⟨e9, h⟩ := pj_pe_inv h
  rw [e9]
  exact mj_wp_sub (mj_sub_cons g0 (mj_sub_cons g1 (mj_sub_cons g2 (mj_sub_cons g3 (mj_sub_cons g4 (mj_sub_nil hd)))))) (hf _ _ _ _ _ _ _ _ h)
theorem pu_X12_point_52 {lf : pj_Z → mj_M} {a : Int32 × pj_Z} (f : Int32 → Int32 → Int32 → Int32 → Int32 → pj_F (Int32 × pj_Z)) (hf : ∀ (a1 : Int32) (a2 : Int32) (a3 : Int32) (a4 : Int32) (b0 : Int32) (s : Nat → Int32) (l : Nat → Int64) (x : Nat → Int32) (y : Nat → Int64), f a1 a2 a3 a4 b0 s l x y = some a → pm_Gd 2 12096 ie_X12_point.1 pm_rI lf 52 [(0, .ref 124), (1, .int a1), (2, .int a2), (3, .int a3), (4, .int a4)] [.int b0] (s, l, x, y) a) : pm_Ex 2 12096 ie_X12_point.1 pm_rI lf a 52 (pe_X12_point_52 f) := by
  intro lv st z hd h
  obtain ⟨g0, h⟩ := pj_xr_inv h
  obtain ⟨a1, g1, h⟩ := pj_xi_inv h
  obtain ⟨a2, g2, h⟩ := pj_xi_inv h
  obtain ⟨a3, g3, h⟩ := pj_xi_inv h
  obtain ⟨a4, g4, h⟩ := pj_xi_inv h
  obtain ⟨b0, r0, e0, h⟩ := pj_pi_inv h
  obtain ⟨e9, h⟩ := pj_pe_inv h
  rw [e0, e9]
  exact mj_wp_sub (mj_sub_cons g0 (mj_sub_cons g1 (mj_sub_cons g2 (mj_sub_cons g3 (mj_sub_cons g4 (mj_sub_nil hd)))))) (hf _ _ _ _ _ _ _ _ _ h)
theorem pu_X12_point_91 {lf : pj_Z → mj_M} {a : Int32 × pj_Z} (f : Int32 → Int32 → Int32 → pj_F (Int32 × pj_Z)) (hf : ∀ (a1 : Int32) (a2 : Int32) (a3 : Int32) (s : Nat → Int32) (l : Nat → Int64) (x : Nat → Int32) (y : Nat → Int64), f a1 a2 a3 s l x y = some a → pm_Gd 2 12096 ie_X12_point.1 pm_rI lf 91 [(0, .ref 124), (1, .int a1), (2, .int a2), (3, .int a3)] [.ref 124] (s, l, x, y) a) : pm_Ex 2 12096 ie_X12_point.1 pm_rI lf a 91 (pe_X12_point_91 f) := by
  intro lv st z hd h
  obtain ⟨g0, h⟩ := pj_xr_inv h
  obtain ⟨a1, g1, h⟩ := pj_xi_inv h
  obtain ⟨a2, g2, h⟩ := pj_xi_inv h
  obtain ⟨a3, g3, h⟩ := pj_xi_inv h
  obtain ⟨r0, e0, h⟩ := pj_pr_inv h
  obtain ⟨e9, h⟩ := pj_pe_inv h
  rw [e0, e9]
  exact mj_wp_sub (mj_sub_cons g0 (mj_sub_cons g1 (mj_sub_cons g2 (mj_sub_cons g3 (mj_sub_nil hd))))) (hf _ _ _ _ _ _ _ h)
theorem pu_X12_point_96 {lf : pj_Z → mj_M} {a : Int32 × pj_Z} (f : Int32 → Int32 → Int32 → Int32 → pj_F (Int32 × pj_Z)) (hf : ∀ (a1 : Int32) (a2 : Int32) (a3 : Int32) (b1 : Int32) (s : Nat → Int32) (l : Nat → Int64) (x : Nat → Int32) (y : Nat → Int64), f a1 a2 a3 b1 s l x y = some a → pm_Gd 2 12096 ie_X12_point.1 pm_rI lf 96 [(0, .ref 124), (1, .int a1), (2, .int a2), (3, .int a3)] [.int b1, .ref 124] (s, l, x, y) a) : pm_Ex 2 12096 ie_X12_point.1 pm_rI lf a 96 (pe_X12_point_96 f) := by
  intro lv st z hd h
  obtain ⟨g0, h⟩ := pj_xr_inv h
  obtain ⟨a1, g1, h⟩ := pj_xi_inv h
  obtain ⟨a2, g2, h⟩ := pj_xi_inv h
  obtain ⟨a3, g3, h⟩ := pj_xi_inv h
  obtain ⟨b1, r1, e1, h⟩ := pj_pi_inv h
  obtain ⟨r0, e0, h⟩ := pj_pr_inv h
  obtain ⟨e9, h⟩ := pj_pe_inv h
  rw [e1, e0, e9]
  exact mj_wp_sub (mj_sub_cons g0 (mj_sub_cons g1 (mj_sub_cons g2 (mj_sub_cons g3 (mj_sub_nil hd))))) (hf _ _ _ _ _ _ _ _ h)
set_option maxRecDepth 100000 in
theorem pz_X12_point {lf : pj_Z → mj_M} (hT : pj_Lt pj_TR lf) : pj_Cok ic_P (mj_R ic_P 2) 12096 ie_X12_point.1 (pm_OK lf pm_rI) lf px_X12_point := by
  exact pm_cok (c := px_X12_point) hT (pm_in_ok (L := [(22, 12, 4, 2, true), (25, 12, 5, 2, true), (28, 12, 6, 2, true), (259, 12, 0, 0, false), (519, 12, 23, 0, false)]) (f := mj_pF ic_P 12096) (by decide +kernel)) (fun _ _ h => by cases h) (pm_inL_ok (L := [(940, 12)]) (f := mj_pL ic_P 12096) (by decide +kernel)) (fun _ _ h => by cases h) rfl rfl ⟨by decide, rfl⟩ pm_mI (pj_as_all (p := pm_Cl 2 12096 ie_X12_point.1 lf (pm_OK lf pm_rI)) (List.forall_mem_cons.mpr ⟨fun _ _ lv st z K a hK h => pc_X12_isIn hT (by decide) (ix := 568) rfl rfl hK h, (List.forall_mem_cons.mpr ⟨fun _ _ lv st z K a hK h => pc_X12_isPoint hT (by decide) (ix := 937) rfl rfl hK h, (fun _ h => by cases h)⟩)⟩)) (fun _ h => by cases h)
set_option maxRecDepth 100000 in
theorem pb_X12_point : pm_bks ie_X12_point.1.2.2.2.2 pk_X12_point = true := by decide +kernel
set_option maxRecDepth 100000 in
theorem pg_X12_point_96 {lf : pj_Z → mj_M} (hT : pj_Lt pj_TR lf) : ∀ (a1 : Int32) (a2 : Int32) (a3 : Int32) (b1 : Int32) (s : Nat → Int32) (l : Nat → Int64) (x : Nat → Int32) (y : Nat → Int64) (a : Int32 × pj_Z), pl_X12_point_96 a1 a2 a3 b1 s l x y = some a → pm_Gd 2 12096 ie_X12_point.1 pm_rI lf 96 [(0, .ref 124), (1, .int a1), (2, .int a2), (3, .int a3)] [.int b1, .ref 124] (s, l, x, y) a := by
  intro a1 a2 a3 b1 s l x y a h
  exact pj_bl_ok (pz_X12_point hT) (fun t lv st z hd h => pj_rn_ok (pz_X12_point hT) (pm_bks_ok pb_X12_point) (fun _ _ h => by cases h) 60 t lv st z hd h) [(96, .putfield 259, 3), (99, .aload_n 0, 1), (100, .getfield 259, 3), (103, .ifCond .le 5, 3)] 96 [(0, pj_O (124, 0)), (1, pj_I a1), (2, pj_I a2), (3, pj_I a3)] [pj_I b1, pj_O (124, 0)] (s, l, x, y) (pm_bks_ok pb_X12_point _ _ rfl) (pm_ndb_ok rfl) ((pq_X12_point_96  a1 a2 a3 b1 s l x y).symm.trans h)
set_option maxRecDepth 100000 in
theorem pg_X12_point_91 {lf : pj_Z → mj_M} (hT : pj_Lt pj_TR lf) : ∀ (a1 : Int32) (a2 : Int32) (a3 : Int32) (s : Nat → Int32) (l : Nat → Int64) (x : Nat → Int32) (y : Nat → Int64) (a : Int32 × pj_Z), pl_X12_point_91 a1 a2 a3 s l x y = some a → pm_Gd 2 12096 ie_X12_point.1 pm_rI lf 91 [(0, .ref 124), (1, .int a1), (2, .int a2), (3, .int a3)] [.ref 124] (s, l, x, y) a := by
  intro a1 a2 a3 s l x y a h
  exact pj_bl_ok (pz_X12_point hT) (fun t lv st z hd h => pj_rn_ok (pz_X12_point hT) (pm_bks_ok pb_X12_point) (pj_as_all (p := pm_Ex 2 12096 ie_X12_point.1 pm_rI lf a) (List.forall_mem_cons.mpr ⟨pu_X12_point_96 _ (fun c0 c1 c2 c3 s l x y h => pg_X12_point_96 hT c0 c1 c2 c3 s l x y _ h), (fun _ h => by cases h)⟩)) 60 t lv st z hd h) [(91, .iconst 3, 1), (92, .goto 4, 3)] 91 [(0, pj_O (124, 0)), (1, pj_I a1), (2, pj_I a2), (3, pj_I a3)] [pj_O (124, 0)] (s, l, x, y) (pm_bks_ok pb_X12_point _ _ rfl) (pm_ndb_ok rfl) ((pq_X12_point_91  a1 a2 a3 s l x y).symm.trans h)
set_option maxRecDepth 100000 in
theorem pg_X12_point_52 {lf : pj_Z → mj_M} (hT : pj_Lt pj_TR lf) : ∀ (a1 : Int32) (a2 : Int32) (a3 : Int32) (a4 : Int32) (b0 : Int32) (s : Nat → Int32) (l : Nat → Int64) (x : Nat → Int32) (y : Nat → Int64) (a : Int32 × pj_Z), pl_X12_point_52 a1 a2 a3 a4 b0 s l x y = some a → pm_Gd 2 12096 ie_X12_point.1 pm_rI lf 52 [(0, .ref 124), (1, .int a1), (2, .int a2), (3, .int a3), (4, .int a4)] [.int b0] (s, l, x, y) a := by
  intro a1 a2 a3 a4 b0 s l x y a h
  exact pj_bl_ok (pz_X12_point hT) (fun t lv st z hd h => pj_rn_ok (pz_X12_point hT) (pm_bks_ok pb_X12_point) (pj_as_all (p := pm_Ex 2 12096 ie_X12_point.1 pm_rI lf a) (List.forall_mem_cons.mpr ⟨pu_X12_point_91 _ (fun c0 c1 c2 s l x y h => pg_X12_point_91 hT c0 c1 c2 s l x y _ h), (List.forall_mem_cons.mpr ⟨pu_X12_point_96 _ (fun c0 c1 c2 c3 s l x y h => pg_X12_point_96 hT c0 c1 c2 c3 s l x y _ h), (fun _ h => by cases h)⟩)⟩)) 60 t lv st z hd h) [(52, .istore 5, 2), (54, .aload_n 0, 1), (55, .iload 4, 2), (57, .ifCond .ne 7, 3)] 52 [(0, pj_O (124, 0)), (1, pj_I a1), (2, pj_I a2), (3, pj_I a3), (4, pj_I a4)] [pj_I b0] (s, l, x, y) (pm_bks_ok pb_X12_point _ _ rfl) (pm_ndb_ok rfl) ((pq_X12_point_52  a1 a2 a3 a4 b0 s l x y).symm.trans h)
set_option maxRecDepth 100000 in
theorem pg_X12_point_51 {lf : pj_Z → mj_M} (hT : pj_Lt pj_TR lf) : ∀ (a1 : Int32) (a2 : Int32) (a3 : Int32) (a4 : Int32) (s : Nat → Int32) (l : Nat → Int64) (x : Nat → Int32) (y : Nat → Int64) (a : Int32 × pj_Z), pl_X12_point_51 a1 a2 a3 a4 s l x y = some a → pm_Gd 2 12096 ie_X12_point.1 pm_rI lf 51 [(0, .ref 124), (1, .int a1), (2, .int a2), (3, .int a3), (4, .int a4)] [] (s, l, x, y) a := by
  intro a1 a2 a3 a4 s l x y a h
  exact pj_bl_ok (pz_X12_point hT) (fun t lv st z hd h => pj_rn_ok (pz_X12_point hT) (pm_bks_ok pb_X12_point) (pj_as_all (p := pm_Ex 2 12096 ie_X12_point.1 pm_rI lf a) (List.forall_mem_cons.mpr ⟨pu_X12_point_52 _ (fun c0 c1 c2 c3 c4 s l x y h => pg_X12_point_52 hT c0 c1 c2 c3 c4 s l x y _ h), (fun _ h => by cases h)⟩)) 60 t lv st z hd h) [(51, .iconst 0, 1)] 51 [(0, pj_O (124, 0)), (1, pj_I a1), (2, pj_I a2), (3, pj_I a3), (4, pj_I a4)] [] (s, l, x, y) (pm_bks_ok pb_X12_point _ _ rfl) (pm_ndb_ok rfl) ((pq_X12_point_51  a1 a2 a3 a4 s l x y).symm.trans h)
set_option maxRecDepth 100000 in
theorem pm_X12_point {lf : pj_Z → mj_M} (hT : pj_Lt pj_TR lf) (a1 : Int32) (a2 : Int32) (a3 : Int32) (s : Nat → Int32) (l : Nat → Int64) (x : Nat → Int32) (y : Nat → Int64) (a : Int32 × pj_Z) (h : pf_X12_point a1 a2 a3 s l x y = some a) : mj_R ic_P 3 12096 [.ref 124, .int a1, .int a2, .int a3] (lf (s, l, x, y)) (pm_rI a.1) (lf a.2) := by
  refine pm_main (Y := ie_X12_point.1) rfl (Nat.le_of_ble_eq_true rfl) ?_
  exact pj_bl_ok (pz_X12_point hT) (fun t lv st z hd h => pj_rn_ok (pz_X12_point hT) (pm_bks_ok pb_X12_point) (pj_as_all (p := pm_Ex 2 12096 ie_X12_point.1 pm_rI lf a) (List.forall_mem_cons.mpr ⟨pu_X12_point_51 _ (fun c0 c1 c2 c3 s l x y h => pg_X12_point_51 hT c0 c1 c2 c3 s l x y _ h), (List.forall_mem_cons.mpr ⟨pu_X12_point_52 _ (fun c0 c1 c2 c3 c4 s l x y h => pg_X12_point_52 hT c0 c1 c2 c3 c4 s l x y _ h), (fun _ h => by cases h)⟩)⟩)) 60 t lv st z hd h) [(0, .iload_n 1, 1), (1, .i2l, 1), (2, .lconst 0, 1), (3, .ldc2_w 940, 3), (6, .invokestatic 568, 3), (9, .istore 4, 2), (11, .iload 4, 2), (13, .ifCond .eq 38, 3)] 0 [(0, pj_O (124, 0)), (1, pj_I a1), (2, pj_I a2), (3, pj_I a3)] [] (s, l, x, y) (pm_bks_ok pb_X12_point _ _ rfl) (pm_ndb_ok rfl) ((pq_X12_point_m a1 a2 a3 s l x y).symm.trans h)
abbrev ph_X12_point {A : Type} : List pj_V → pj_Z → (List pj_V → pj_Z → Option A) → Option A := fun st z K => pj_pi st fun a3 st => pj_pi st fun a2 st => pj_pi st fun a1 st => pj_pr st 124 0 fun st => pj_ps st (pj_b (pf_X12_point a1 a2 a3 z.1 z.2.1 z.2.2.1 z.2.2.2) fun r s l x y => K (pj_I r :: st) (s, l, x, y))
set_option maxRecDepth 100000 in
theorem pc_X12_point {A : Type} {OK : A → Option Value → mj_M → Prop} {d j pc ix : Nat} {Y : mj_Y} {lf : pj_Z → mj_M} (hT : pj_Lt pj_TR lf) (hd : 3 ≤ d) (hl : mj_lk Y.2.2.2.2 pc = some (.invokevirtual ix, 3)) (hg : mj_pG ic_P j ix = some (12096, 3, some 12)) {lv : List (Nat × Value)} {st : List pj_V} {z : pj_Z} {K : List pj_V → pj_Z → Option A} {a : A} (hK : ∀ st z, K st z = some a → pj_Gd ic_P (mj_R ic_P d) j Y OK lf (pc + 3) lv (pj_es st) z a) (h : ph_X12_point st z K = some a) : pj_Gd ic_P (mj_R ic_P d) j Y OK lf pc lv (pj_es st) z a := by
  obtain ⟨a3, r3, e3, h⟩ := pj_pi_inv h
  obtain ⟨a2, r2, e2, h⟩ := pj_pi_inv h
  obtain ⟨a1, r1, e1, h⟩ := pj_pi_inv h
  obtain ⟨r0, e0, h⟩ := pj_pr_inv h
  obtain ⟨hs, h⟩ := pj_ps_inv h
  obtain ⟨q, hq, h⟩ := pj_b_inv h
  exact pm_cv (o := 124) hl hg [.int a1, .int a2, .int a3] rfl (by rw [e3, e2, e1, e0]; rfl) hs (by decide) ((hT.2 124 _ rfl).1.2 z 0 (by decide)) (pm_rI q.1) hd (pm_X12_point hT a1 a2 a3 z.1 z.2.1 z.2.2.1 z.2.2.2 q hq) rfl (hK _ _ h)
abbrev pe_X12_lineAt_18 (f : Int32 → Int32 → Int32 → pj_F (Int32 × pj_Z)) : pj_K (Int32 × pj_Z) := fun lv st z => pj_xr lv 0 124 0 <| pj_xi lv 1 fun a1 => pj_xi lv 2 fun a2 => pj_pi st fun b1 st => pj_pr st 124 0 fun st => pj_pe st (f a1 a2 b1 z.1 z.2.1 z.2.2.1 z.2.2.2)
abbrev px_X12_lineAt : pj_C (Int32 × pj_Z) := (pj_TR, (pj_as [(259, 12, 0, 0, false)]), (fun _ => none), (pj_as [(940, 12)]), (fun _ => none), ic_X, 3, 1, pj_mI, (pj_as [(7, ph_X12_isIn), (35, ph_X12_lineValue)]), fun _ => false)
abbrev pk_X12_lineAt : List (Nat × List (Nat × Instr × Nat)) := [(0, [(0, .aload_n 0, 1), (1, .iload_n 1, 1), (2, .i2l, 1), (3, .lconst 0, 1), (4, .ldc2_w 940, 3), (7, .invokestatic 568, 3), (10, .ifCond .ne 7, 3)]), (13, [(13, .iconst 1, 1), (14, .goto 4, 3)]), (17, [(17, .iconst 0, 1)]), (18, [(18, .putfield 259, 3), (21, .aload_n 0, 1), (22, .getfield 259, 3), (25, .ifCond .le 7, 3)]), (28, [(28, .iconst 0, 1), (29, .goto 9, 3)]), (32, [(32, .aload_n 0, 1), (33, .iload_n 1, 1), (34, .iload_n 2, 1), (35, .invokevirtual 684, 3)]), (38, [(38, .ireturn, 1)])]
set_option maxRecDepth 100000 in
theorem pq_X12_lineAt_18 (a1 : Int32) (a2 : Int32) (b1 : Int32) (s : Nat → Int32) (l : Nat → Int64) (x : Nat → Int32) (y : Nat → Int64) : pl_X12_lineAt_18 a1 a2 b1 s l x y = pj_bl px_X12_lineAt (pj_rn px_X12_lineAt (pj_as pk_X12_lineAt) (fun _ => none) 60) [(18, .putfield 259, 3), (21, .aload_n 0, 1), (22, .getfield 259, 3), (25, .ifCond .le 7, 3)] 18 [(0, pj_O (124, 0)), (1, pj_I a1), (2, pj_I a2)] [pj_I b1, pj_O (124, 0)] (s, l, x, y) := rfl
set_option maxRecDepth 100000 in
theorem pq_X12_lineAt_m (a1 : Int32) (a2 : Int32) (s : Nat → Int32) (l : Nat → Int64) (x : Nat → Int32) (y : Nat → Int64) : pf_X12_lineAt a1 a2 s l x y = pj_bl px_X12_lineAt (pj_rn px_X12_lineAt (pj_as pk_X12_lineAt) (pj_as [(18, pe_X12_lineAt_18 (pl_X12_lineAt_18))]) 60) [(0, .aload_n 0, 1), (1, .iload_n 1, 1), (2, .i2l, 1), (3, .lconst 0, 1), (4, .ldc2_w 940, 3), (7, .invokestatic 568, 3), (10, .ifCond .ne 7, 3)] 0 [(0, pj_O (124, 0)), (1, pj_I a1), (2, pj_I a2)] [] (s, l, x, y) := rfl
theorem pu_X12_lineAt_18 {lf : pj_Z → mj_M} {a : Int32 × pj_Z} (f : Int32 → Int32 → Int32 → pj_F (Int32 × pj_Z)) (hf : ∀ (a1 : Int32) (a2 : Int32) (b1 : Int32) (s : Nat → Int32) (l : Nat → Int64) (x : Nat → Int32) (y : Nat → Int64), f a1 a2 b1 s l x y = some a → pm_Gd 2 12097 ie_X12_lineAt.1 pm_rI lf 18 [(0, .ref 124), (1, .int a1), (2, .int a2)] [.int b1, .ref 124] (s, l, x, y) a) : pm_Ex 2 12097 ie_X12_lineAt.1 pm_rI lf a 18 (pe_X12_lineAt_18 f) := by
  intro lv st z hd h
  obtain ⟨g0, h⟩ := pj_xr_inv h
  obtain ⟨a1, g1, h⟩ := pj_xi_inv h
  obtain ⟨a2, g2, h⟩ := pj_xi_inv h
  obtain ⟨b1, r1, e1, h⟩ := pj_pi_inv h
  obtain ⟨r0, e0, h⟩ := pj_pr_inv h
  obtain ⟨e9, h⟩ := pj_pe_inv h
  rw [e1, e0, e9]
  exact mj_wp_sub (mj_sub_cons g0 (mj_sub_cons g1 (mj_sub_cons g2 (mj_sub_nil hd)))) (hf _ _ _ _ _ _ _ h)
set_option maxRecDepth 100000 in
theorem pz_X12_lineAt {lf : pj_Z → mj_M} (hT : pj_Lt pj_TR lf) : pj_Cok ic_P (mj_R ic_P 2) 12097 ie_X12_lineAt.1 (pm_OK lf pm_rI) lf px_X12_lineAt := by
  exact pm_cok (c := px_X12_lineAt) hT (pm_in_ok (L := [(259, 12, 0, 0, false)]) (f := mj_pF ic_P 12097) (by decide +kernel)) (fun _ _ h => by cases h) (pm_inL_ok (L := [(940, 12)]) (f := mj_pL ic_P 12097) (by decide +kernel)) (fun _ _ h => by cases h) rfl rfl ⟨by decide, rfl⟩ pm_mI (pj_as_all (p := pm_Cl 2 12097 ie_X12_lineAt.1 lf (pm_OK lf pm_rI)) (List.forall_mem_cons.mpr ⟨fun _ _ lv st z K a hK h => pc_X12_isIn hT (by decide) (ix := 568) rfl rfl hK h, (List.forall_mem_cons.mpr ⟨fun _ _ lv st z K a hK h => pc_X12_lineValue hT (by decide) (ix := 684) rfl rfl hK h, (fun _ h => by cases h)⟩)⟩)) (fun _ h => by cases h)
set_option maxRecDepth 100000 in
theorem pb_X12_lineAt : pm_bks ie_X12_lineAt.1.2.2.2.2 pk_X12_lineAt = true := by decide +kernel
set_option maxRecDepth 100000 in
theorem pg_X12_lineAt_18 {lf : pj_Z → mj_M} (hT : pj_Lt pj_TR lf) : ∀ (a1 : Int32) (a2 : Int32) (b1 : Int32) (s : Nat → Int32) (l : Nat → Int64) (x : Nat → Int32) (y : Nat → Int64) (a : Int32 × pj_Z), pl_X12_lineAt_18 a1 a2 b1 s l x y = some a → pm_Gd 2 12097 ie_X12_lineAt.1 pm_rI lf 18 [(0, .ref 124), (1, .int a1), (2, .int a2)] [.int b1, .ref 124] (s, l, x, y) a := by
  intro a1 a2 b1 s l x y a h
  exact pj_bl_ok (pz_X12_lineAt hT) (fun t lv st z hd h => pj_rn_ok (pz_X12_lineAt hT) (pm_bks_ok pb_X12_lineAt) (fun _ _ h => by cases h) 60 t lv st z hd h) [(18, .putfield 259, 3), (21, .aload_n 0, 1), (22, .getfield 259, 3), (25, .ifCond .le 7, 3)] 18 [(0, pj_O (124, 0)), (1, pj_I a1), (2, pj_I a2)] [pj_I b1, pj_O (124, 0)] (s, l, x, y) (pm_bks_ok pb_X12_lineAt _ _ rfl) (pm_ndb_ok rfl) ((pq_X12_lineAt_18  a1 a2 b1 s l x y).symm.trans h)
set_option maxRecDepth 100000 in
theorem pm_X12_lineAt {lf : pj_Z → mj_M} (hT : pj_Lt pj_TR lf) (a1 : Int32) (a2 : Int32) (s : Nat → Int32) (l : Nat → Int64) (x : Nat → Int32) (y : Nat → Int64) (a : Int32 × pj_Z) (h : pf_X12_lineAt a1 a2 s l x y = some a) : mj_R ic_P 3 12097 [.ref 124, .int a1, .int a2] (lf (s, l, x, y)) (pm_rI a.1) (lf a.2) := by
  refine pm_main (Y := ie_X12_lineAt.1) rfl (Nat.le_of_ble_eq_true rfl) ?_
  exact pj_bl_ok (pz_X12_lineAt hT) (fun t lv st z hd h => pj_rn_ok (pz_X12_lineAt hT) (pm_bks_ok pb_X12_lineAt) (pj_as_all (p := pm_Ex 2 12097 ie_X12_lineAt.1 pm_rI lf a) (List.forall_mem_cons.mpr ⟨pu_X12_lineAt_18 _ (fun c0 c1 c2 s l x y h => pg_X12_lineAt_18 hT c0 c1 c2 s l x y _ h), (fun _ h => by cases h)⟩)) 60 t lv st z hd h) [(0, .aload_n 0, 1), (1, .iload_n 1, 1), (2, .i2l, 1), (3, .lconst 0, 1), (4, .ldc2_w 940, 3), (7, .invokestatic 568, 3), (10, .ifCond .ne 7, 3)] 0 [(0, pj_O (124, 0)), (1, pj_I a1), (2, pj_I a2)] [] (s, l, x, y) (pm_bks_ok pb_X12_lineAt _ _ rfl) (pm_ndb_ok rfl) ((pq_X12_lineAt_m a1 a2 s l x y).symm.trans h)
abbrev ph_X12_lineAt {A : Type} : List pj_V → pj_Z → (List pj_V → pj_Z → Option A) → Option A := fun st z K => pj_pi st fun a2 st => pj_pi st fun a1 st => pj_pr st 124 0 fun st => pj_ps st (pj_b (pf_X12_lineAt a1 a2 z.1 z.2.1 z.2.2.1 z.2.2.2) fun r s l x y => K (pj_I r :: st) (s, l, x, y))
set_option maxRecDepth 100000 in
theorem pc_X12_lineAt {A : Type} {OK : A → Option Value → mj_M → Prop} {d j pc ix : Nat} {Y : mj_Y} {lf : pj_Z → mj_M} (hT : pj_Lt pj_TR lf) (hd : 3 ≤ d) (hl : mj_lk Y.2.2.2.2 pc = some (.invokevirtual ix, 3)) (hg : mj_pG ic_P j ix = some (12097, 2, some 12)) {lv : List (Nat × Value)} {st : List pj_V} {z : pj_Z} {K : List pj_V → pj_Z → Option A} {a : A} (hK : ∀ st z, K st z = some a → pj_Gd ic_P (mj_R ic_P d) j Y OK lf (pc + 3) lv (pj_es st) z a) (h : ph_X12_lineAt st z K = some a) : pj_Gd ic_P (mj_R ic_P d) j Y OK lf pc lv (pj_es st) z a := by
  obtain ⟨a2, r2, e2, h⟩ := pj_pi_inv h
  obtain ⟨a1, r1, e1, h⟩ := pj_pi_inv h
  obtain ⟨r0, e0, h⟩ := pj_pr_inv h
  obtain ⟨hs, h⟩ := pj_ps_inv h
  obtain ⟨q, hq, h⟩ := pj_b_inv h
  exact pm_cv (o := 124) hl hg [.int a1, .int a2] rfl (by rw [e2, e1, e0]; rfl) hs (by decide) ((hT.2 124 _ rfl).1.2 z 0 (by decide)) (pm_rI q.1) hd (pm_X12_lineAt hT a1 a2 z.1 z.2.1 z.2.2.1 z.2.2.2 q hq) rfl (hK _ _ h)
abbrev pe_X12_axis_36 (f : Int32 → Int32 → Int32 → Int32 → Int32 → Int32 → pj_F (Unit × pj_Z)) : pj_K (Unit × pj_Z) := fun lv st z => pj_xr lv 0 124 0 <| pj_xi lv 1 fun a1 => pj_xi lv 2 fun a2 => pj_xi lv 3 fun a3 => pj_xi lv 4 fun a4 => pj_xi lv 5 fun a5 => pj_xi lv 6 fun a6 => pj_pe st (f a1 a2 a3 a4 a5 a6 z.1 z.2.1 z.2.2.1 z.2.2.2)
abbrev pe_X12_axis_37 (f : Int32 → Int32 → Int32 → Int32 → Int32 → Int32 → Int32 → pj_F (Unit × pj_Z)) : pj_K (Unit × pj_Z) := fun lv st z => pj_xr lv 0 124 0 <| pj_xi lv 1 fun a1 => pj_xi lv 2 fun a2 => pj_xi lv 3 fun a3 => pj_xi lv 4 fun a4 => pj_xi lv 5 fun a5 => pj_xi lv 6 fun a6 => pj_pi st fun b0 st => pj_pe st (f a1 a2 a3 a4 a5 a6 b0 z.1 z.2.1 z.2.2.1 z.2.2.2)
abbrev pe_X12_axis_60 (f : Int32 → Int32 → Int32 → Int32 → Int32 → Int32 → pj_F (Unit × pj_Z)) : pj_K (Unit × pj_Z) := fun lv st z => pj_xr lv 0 124 0 <| pj_xi lv 1 fun a1 => pj_xi lv 2 fun a2 => pj_xi lv 3 fun a3 => pj_xi lv 4 fun a4 => pj_xi lv 5 fun a5 => pj_xi lv 6 fun a6 => pj_pr st 124 0 fun st => pj_pe st (f a1 a2 a3 a4 a5 a6 z.1 z.2.1 z.2.2.1 z.2.2.2)
abbrev pe_X12_axis_85 (f : Int32 → Int32 → Int32 → Int32 → Int32 → Int32 → Int32 → pj_F (Unit × pj_Z)) : pj_K (Unit × pj_Z) := fun lv st z => pj_xr lv 0 124 0 <| pj_xi lv 1 fun a1 => pj_xi lv 2 fun a2 => pj_xi lv 3 fun a3 => pj_xi lv 4 fun a4 => pj_xi lv 5 fun a5 => pj_xi lv 6 fun a6 => pj_pi st fun b1 st => pj_pr st 124 0 fun st => pj_pe st (f a1 a2 a3 a4 a5 a6 b1 z.1 z.2.1 z.2.2.1 z.2.2.2)
abbrev px_X12_axis : pj_C (Unit × pj_Z) := (pj_TR, (pj_as [(259, 12, 0, 0, false), (519, 12, 23, 0, false)]), (fun _ => none), (fun _ => none), (fun _ => none), ic_X, 8, 0, pj_mU, (pj_as [(44, ph_X12_isIn), (54, ph_X12_isIn), (111, ph_X12_axisOf)]), fun _ => false)
abbrev pk_X12_axis : List (Nat × List (Nat × Instr × Nat)) := [(0, [(0, .iload_n 3, 1), (1, .ifCond .lt 35, 3)]), (4, [(4, .iload_n 3, 1), (5, .iload 4, 2), (7, .if_icmp .ge 29, 3)]), (10, [(10, .iload 4, 2), (12, .iload 5, 2), (14, .if_icmp .ge 22, 3)]), (17, [(17, .iload 5, 2), (19, .iload 6, 2), (21, .if_icmp .ge 15, 3)]), (24, [(24, .iload 6, 2), (26, .sipush 10000, 3), (29, .if_icmp .gt 7, 3)]), (32, [(32, .iconst 1, 1), (33, .goto 4, 3)]), (36, [(36, .iconst 0, 1)]), (37, [(37, .istore 7, 2), (39, .aload_n 0, 1), (40, .iload_n 1, 1), (41, .i2l, 1), (42, .lconst 0, 1), (43, .lconst 1, 1), (44, .invokestatic 568, 3), (47, .ifCond .eq 13, 3)]), (50, [(50, .iload_n 2, 1), (51, .i2l, 1), (52, .lconst 0, 1), (53, .lconst 1, 1), (54, .invokestatic 568, 3), (57, .ifCond .ne 7, 3)]), (60, [(60, .iconst 1, 1), (61, .goto 24, 3)]), (64, [(64, .iload 7, 2), (66, .ifCond .ne 7, 3)]), (69, [(69, .iconst 2, 1), (70, .goto 15, 3)]), (73, [(73, .aload_n 0, 1), (74, .getfield 519, 3), (77, .ifCond .eq 7, 3)]), (80, [(80, .iconst 3, 1), (81, .goto 4, 3)]), (84, [(84, .iconst 0, 1)]), (85, [(85, .putfield 259, 3), (88, .aload_n 0, 1), (89, .getfield 259, 3), (92, .ifCond .ne 22, 3)]), (95, [(95, .aload_n 0, 1), (96, .bipush 8, 2), (98, .iload_n 1, 1), (99, .imul, 1), (100, .iconst 4, 1), (101, .iload_n 2, 1), (102, .imul, 1), (103, .iadd, 1), (104, .iload_n 3, 1), (105, .iload 4, 2), (107, .iload 5, 2), (109, .iload 6, 2), (111, .invokevirtual 252, 3)]), (114, [(114, .return_, 1)])]
set_option maxRecDepth 100000 in
theorem pq_X12_axis_85 (a1 : Int32) (a2 : Int32) (a3 : Int32) (a4 : Int32) (a5 : Int32) (a6 : Int32) (b1 : Int32) (s : Nat → Int32) (l : Nat → Int64) (x : Nat → Int32) (y : Nat → Int64) : pl_X12_axis_85 a1 a2 a3 a4 a5 a6 b1 s l x y = pj_bl px_X12_axis (pj_rn px_X12_axis (pj_as pk_X12_axis) (fun _ => none) 60) [(85, .putfield 259, 3), (88, .aload_n 0, 1), (89, .getfield 259, 3), (92, .ifCond .ne 22, 3)] 85 [(0, pj_O (124, 0)), (1, pj_I a1), (2, pj_I a2), (3, pj_I a3), (4, pj_I a4), (5, pj_I a5), (6, pj_I a6)] [pj_I b1, pj_O (124, 0)] (s, l, x, y) := rfl
set_option maxRecDepth 100000 in
theorem pq_X12_axis_60 (a1 : Int32) (a2 : Int32) (a3 : Int32) (a4 : Int32) (a5 : Int32) (a6 : Int32) (s : Nat → Int32) (l : Nat → Int64) (x : Nat → Int32) (y : Nat → Int64) : pl_X12_axis_60 a1 a2 a3 a4 a5 a6 s l x y = pj_bl px_X12_axis (pj_rn px_X12_axis (pj_as pk_X12_axis) (pj_as [(85, pe_X12_axis_85 (pl_X12_axis_85))]) 60) [(60, .iconst 1, 1), (61, .goto 24, 3)] 60 [(0, pj_O (124, 0)), (1, pj_I a1), (2, pj_I a2), (3, pj_I a3), (4, pj_I a4), (5, pj_I a5), (6, pj_I a6)] [pj_O (124, 0)] (s, l, x, y) := rfl
set_option maxRecDepth 100000 in
theorem pq_X12_axis_37 (a1 : Int32) (a2 : Int32) (a3 : Int32) (a4 : Int32) (a5 : Int32) (a6 : Int32) (b0 : Int32) (s : Nat → Int32) (l : Nat → Int64) (x : Nat → Int32) (y : Nat → Int64) : pl_X12_axis_37 a1 a2 a3 a4 a5 a6 b0 s l x y = pj_bl px_X12_axis (pj_rn px_X12_axis (pj_as pk_X12_axis) (pj_as [(60, pe_X12_axis_60 (pl_X12_axis_60)), (85, pe_X12_axis_85 (pl_X12_axis_85))]) 60) [(37, .istore 7, 2), (39, .aload_n 0, 1), (40, .iload_n 1, 1), (41, .i2l, 1), (42, .lconst 0, 1), (43, .lconst 1, 1), (44, .invokestatic 568, 3), (47, .ifCond .eq 13, 3)] 37 [(0, pj_O (124, 0)), (1, pj_I a1), (2, pj_I a2), (3, pj_I a3), (4, pj_I a4), (5, pj_I a5), (6, pj_I a6)] [pj_I b0] (s, l, x, y) := rfl
set_option maxRecDepth 100000 in
theorem pq_X12_axis_36 (a1 : Int32) (a2 : Int32) (a3 : Int32) (a4 : Int32) (a5 : Int32) (a6 : Int32) (s : Nat → Int32) (l : Nat → Int64) (x : Nat → Int32) (y : Nat → Int64) : pl_X12_axis_36 a1 a2 a3 a4 a5 a6 s l x y = pj_bl px_X12_axis (pj_rn px_X12_axis (pj_as pk_X12_axis) (pj_as [(37, pe_X12_axis_37 (pl_X12_axis_37))]) 60) [(36, .iconst 0, 1)] 36 [(0, pj_O (124, 0)), (1, pj_I a1), (2, pj_I a2), (3, pj_I a3), (4, pj_I a4), (5, pj_I a5), (6, pj_I a6)] [] (s, l, x, y) := rfl
set_option maxRecDepth 100000 in
theorem pq_X12_axis_m (a1 : Int32) (a2 : Int32) (a3 : Int32) (a4 : Int32) (a5 : Int32) (a6 : Int32) (s : Nat → Int32) (l : Nat → Int64) (x : Nat → Int32) (y : Nat → Int64) : pf_X12_axis a1 a2 a3 a4 a5 a6 s l x y = pj_bl px_X12_axis (pj_rn px_X12_axis (pj_as pk_X12_axis) (pj_as [(36, pe_X12_axis_36 (pl_X12_axis_36)), (37, pe_X12_axis_37 (pl_X12_axis_37))]) 60) [(0, .iload_n 3, 1), (1, .ifCond .lt 35, 3)] 0 [(0, pj_O (124, 0)), (1, pj_I a1), (2, pj_I a2), (3, pj_I a3), (4, pj_I a4), (5, pj_I a5), (6, pj_I a6)] [] (s, l, x, y) := rfl
theorem pu_X12_axis_36 {lf : pj_Z → mj_M} {a : Unit × pj_Z} (f : Int32 → Int32 → Int32 → Int32 → Int32 → Int32 → pj_F (Unit × pj_Z)) (hf : ∀ (a1 : Int32) (a2 : Int32) (a3 : Int32) (a4 : Int32) (a5 : Int32) (a6 : Int32) (s : Nat → Int32) (l : Nat → Int64) (x : Nat → Int32) (y : Nat → Int64), f a1 a2 a3 a4 a5 a6 s l x y = some a → pm_Gd 1 12098 ie_X12_axis.1 pm_rU lf 36 [(0, .ref 124), (1, .int a1), (2, .int a2), (3, .int a3), (4, .int a4), (5, .int a5), (6, .int a6)] [] (s, l, x, y) a) : pm_Ex 1 12098 ie_X12_axis.1 pm_rU lf a 36 (pe_X12_axis_36 f) := by
  intro lv st z hd h
  obtain ⟨g0, h⟩ := pj_xr_inv h
  obtain ⟨a1, g1, h⟩ := pj_xi_inv h
  obtain ⟨a2, g2, h⟩ := pj_xi_inv h
  obtain ⟨a3, g3, h⟩ := pj_xi_inv h
  obtain ⟨a4, g4, h⟩ := pj_xi_inv h
  obtain ⟨a5, g5, h⟩ := pj_xi_inv h
  obtain ⟨a6, g6, h⟩ := pj_xi_inv h
  obtain ⟨e9, h⟩ := pj_pe_inv h
  rw [e9]
  exact mj_wp_sub (mj_sub_cons g0 (mj_sub_cons g1 (mj_sub_cons g2 (mj_sub_cons g3 (mj_sub_cons g4 (mj_sub_cons g5 (mj_sub_cons g6 (mj_sub_nil hd)))))))) (hf _ _ _ _ _ _ _ _ _ _ h)
theorem pu_X12_axis_37 {lf : pj_Z → mj_M} {a : Unit × pj_Z} (f : Int32 → Int32 → Int32 → Int32 → Int32 → Int32 → Int32 → pj_F (Unit × pj_Z)) (hf : ∀ (a1 : Int32) (a2 : Int32) (a3 : Int32) (a4 : Int32) (a5 : Int32) (a6 : Int32) (b0 : Int32) (s : Nat → Int32) (l : Nat → Int64) (x : Nat → Int32) (y : Nat → Int64), f a1 a2 a3 a4 a5 a6 b0 s l x y = some a → pm_Gd 1 12098 ie_X12_axis.1 pm_rU lf 37 [(0, .ref 124), (1, .int a1), (2, .int a2), (3, .int a3), (4, .int a4), (5, .int a5), (6, .int a6)] [.int b0] (s, l, x, y) a) : pm_Ex 1 12098 ie_X12_axis.1 pm_rU lf a 37 (pe_X12_axis_37 f) := by
  intro lv st z hd h
  obtain ⟨g0, h⟩ := pj_xr_inv h
  obtain ⟨a1, g1, h⟩ := pj_xi_inv h
  obtain ⟨a2, g2, h⟩ := pj_xi_inv h
  obtain ⟨a3, g3, h⟩ := pj_xi_inv h
  obtain ⟨a4, g4, h⟩ := pj_xi_inv h
  obtain ⟨a5, g5, h⟩ := pj_xi_inv h
  obtain ⟨a6, g6, h⟩ := pj_xi_inv h
  obtain ⟨b0, r0, e0, h⟩ := pj_pi_inv h
  obtain ⟨e9, h⟩ := pj_pe_inv h
  rw [e0, e9]
  exact mj_wp_sub (mj_sub_cons g0 (mj_sub_cons g1 (mj_sub_cons g2 (mj_sub_cons g3 (mj_sub_cons g4 (mj_sub_cons g5 (mj_sub_cons g6 (mj_sub_nil hd)))))))) (hf _ _ _ _ _ _ _ _ _ _ _ h)
theorem pu_X12_axis_60 {lf : pj_Z → mj_M} {a : Unit × pj_Z} (f : Int32 → Int32 → Int32 → Int32 → Int32 → Int32 → pj_F (Unit × pj_Z)) (hf : ∀ (a1 : Int32) (a2 : Int32) (a3 : Int32) (a4 : Int32) (a5 : Int32) (a6 : Int32) (s : Nat → Int32) (l : Nat → Int64) (x : Nat → Int32) (y : Nat → Int64), f a1 a2 a3 a4 a5 a6 s l x y = some a → pm_Gd 1 12098 ie_X12_axis.1 pm_rU lf 60 [(0, .ref 124), (1, .int a1), (2, .int a2), (3, .int a3), (4, .int a4), (5, .int a5), (6, .int a6)] [.ref 124] (s, l, x, y) a) : pm_Ex 1 12098 ie_X12_axis.1 pm_rU lf a 60 (pe_X12_axis_60 f) := by
  intro lv st z hd h
  obtain ⟨g0, h⟩ := pj_xr_inv h
  obtain ⟨a1, g1, h⟩ := pj_xi_inv h
  obtain ⟨a2, g2, h⟩ := pj_xi_inv h
  obtain ⟨a3, g3, h⟩ := pj_xi_inv h
  obtain ⟨a4, g4, h⟩ := pj_xi_inv h
  obtain ⟨a5, g5, h⟩ := pj_xi_inv h
  obtain ⟨a6, g6, h⟩ := pj_xi_inv h
  obtain ⟨r0, e0, h⟩ := pj_pr_inv h
  obtain ⟨e9, h⟩ := pj_pe_inv h
  rw [e0, e9]
  exact mj_wp_sub (mj_sub_cons g0 (mj_sub_cons g1 (mj_sub_cons g2 (mj_sub_cons g3 (mj_sub_cons g4 (mj_sub_cons g5 (mj_sub_cons g6 (mj_sub_nil hd)))))))) (hf _ _ _ _ _ _ _ _ _ _ h)
theorem pu_X12_axis_85 {lf : pj_Z → mj_M} {a : Unit × pj_Z} (f : Int32 → Int32 → Int32 → Int32 → Int32 → Int32 → Int32 → pj_F (Unit × pj_Z)) (hf : ∀ (a1 : Int32) (a2 : Int32) (a3 : Int32) (a4 : Int32) (a5 : Int32) (a6 : Int32) (b1 : Int32) (s : Nat → Int32) (l : Nat → Int64) (x : Nat → Int32) (y : Nat → Int64), f a1 a2 a3 a4 a5 a6 b1 s l x y = some a → pm_Gd 1 12098 ie_X12_axis.1 pm_rU lf 85 [(0, .ref 124), (1, .int a1), (2, .int a2), (3, .int a3), (4, .int a4), (5, .int a5), (6, .int a6)] [.int b1, .ref 124] (s, l, x, y) a) : pm_Ex 1 12098 ie_X12_axis.1 pm_rU lf a 85 (pe_X12_axis_85 f) := by
  intro lv st z hd h
  obtain ⟨g0, h⟩ := pj_xr_inv h
  obtain ⟨a1, g1, h⟩ := pj_xi_inv h
  obtain ⟨a2, g2, h⟩ := pj_xi_inv h
  obtain ⟨a3, g3, h⟩ := pj_xi_inv h
  obtain ⟨a4, g4, h⟩ := pj_xi_inv h
  obtain ⟨a5, g5, h⟩ := pj_xi_inv h
  obtain ⟨a6, g6, h⟩ := pj_xi_inv h
  obtain ⟨b1, r1, e1, h⟩ := pj_pi_inv h
  obtain ⟨r0, e0, h⟩ := pj_pr_inv h
  obtain ⟨e9, h⟩ := pj_pe_inv h
  rw [e1, e0, e9]
  exact mj_wp_sub (mj_sub_cons g0 (mj_sub_cons g1 (mj_sub_cons g2 (mj_sub_cons g3 (mj_sub_cons g4 (mj_sub_cons g5 (mj_sub_cons g6 (mj_sub_nil hd)))))))) (hf _ _ _ _ _ _ _ _ _ _ _ h)
set_option maxRecDepth 100000 in
theorem pz_X12_axis {lf : pj_Z → mj_M} (hT : pj_Lt pj_TR lf) : pj_Cok ic_P (mj_R ic_P 1) 12098 ie_X12_axis.1 (pm_OK lf pm_rU) lf px_X12_axis := by
  exact pm_cok (c := px_X12_axis) hT (pm_in_ok (L := [(259, 12, 0, 0, false), (519, 12, 23, 0, false)]) (f := mj_pF ic_P 12098) (by decide +kernel)) (fun _ _ h => by cases h) (fun _ _ h => by cases h) (fun _ _ h => by cases h) rfl rfl ⟨by decide, rfl⟩ pm_mU (pj_as_all (p := pm_Cl 1 12098 ie_X12_axis.1 lf (pm_OK lf pm_rU)) (List.forall_mem_cons.mpr ⟨fun _ _ lv st z K a hK h => pc_X12_isIn hT (by decide) (ix := 568) rfl rfl hK h, (List.forall_mem_cons.mpr ⟨fun _ _ lv st z K a hK h => pc_X12_isIn hT (by decide) (ix := 568) rfl rfl hK h, (List.forall_mem_cons.mpr ⟨fun _ _ lv st z K a hK h => pc_X12_axisOf hT (by decide) (ix := 252) rfl rfl hK h, (fun _ h => by cases h)⟩)⟩)⟩)) (fun _ h => by cases h)
set_option maxRecDepth 100000 in
theorem pb_X12_axis : pm_bks ie_X12_axis.1.2.2.2.2 pk_X12_axis = true := by decide +kernel
set_option maxRecDepth 100000 in
theorem pg_X12_axis_85 {lf : pj_Z → mj_M} (hT : pj_Lt pj_TR lf) : ∀ (a1 : Int32) (a2 : Int32) (a3 : Int32) (a4 : Int32) (a5 : Int32) (a6 : Int32) (b1 : Int32) (s : Nat → Int32) (l : Nat → Int64) (x : Nat → Int32) (y : Nat → Int64) (a : Unit × pj_Z), pl_X12_axis_85 a1 a2 a3 a4 a5 a6 b1 s l x y = some a → pm_Gd 1 12098 ie_X12_axis.1 pm_rU lf 85 [(0, .ref 124), (1, .int a1), (2, .int a2), (3, .int a3), (4, .int a4), (5, .int a5), (6, .int a6)] [.int b1, .ref 124] (s, l, x, y) a := by
  intro a1 a2 a3 a4 a5 a6 b1 s l x y a h
  exact pj_bl_ok (pz_X12_axis hT) (fun t lv st z hd h => pj_rn_ok (pz_X12_axis hT) (pm_bks_ok pb_X12_axis) (fun _ _ h => by cases h) 60 t lv st z hd h) [(85, .putfield 259, 3), (88, .aload_n 0, 1), (89, .getfield 259, 3), (92, .ifCond .ne 22, 3)] 85 [(0, pj_O (124, 0)), (1, pj_I a1), (2, pj_I a2), (3, pj_I a3), (4, pj_I a4), (5, pj_I a5), (6, pj_I a6)] [pj_I b1, pj_O (124, 0)] (s, l, x, y) (pm_bks_ok pb_X12_axis _ _ rfl) (pm_ndb_ok rfl) ((pq_X12_axis_85  a1 a2 a3 a4 a5 a6 b1 s l x y).symm.trans h)
set_option maxRecDepth 100000 in
theorem pg_X12_axis_60 {lf : pj_Z → mj_M} (hT : pj_Lt pj_TR lf) : ∀ (a1 : Int32) (a2 : Int32) (a3 : Int32) (a4 : Int32) (a5 : Int32) (a6 : Int32) (s : Nat → Int32) (l : Nat → Int64) (x : Nat → Int32) (y : Nat → Int64) (a : Unit × pj_Z), pl_X12_axis_60 a1 a2 a3 a4 a5 a6 s l x y = some a → pm_Gd 1 12098 ie_X12_axis.1 pm_rU lf 60 [(0, .ref 124), (1, .int a1), (2, .int a2), (3, .int a3), (4, .int a4), (5, .int a5), (6, .int a6)] [.ref 124] (s, l, x, y) a := by
  intro a1 a2 a3 a4 a5 a6 s l x y a h
  exact pj_bl_ok (pz_X12_axis hT) (fun t lv st z hd h => pj_rn_ok (pz_X12_axis hT) (pm_bks_ok pb_X12_axis) (pj_as_all (p := pm_Ex 1 12098 ie_X12_axis.1 pm_rU lf a) (List.forall_mem_cons.mpr ⟨pu_X12_axis_85 _ (fun c0 c1 c2 c3 c4 c5 c6 s l x y h => pg_X12_axis_85 hT c0 c1 c2 c3 c4 c5 c6 s l x y _ h), (fun _ h => by cases h)⟩)) 60 t lv st z hd h) [(60, .iconst 1, 1), (61, .goto 24, 3)] 60 [(0, pj_O (124, 0)), (1, pj_I a1), (2, pj_I a2), (3, pj_I a3), (4, pj_I a4), (5, pj_I a5), (6, pj_I a6)] [pj_O (124, 0)] (s, l, x, y) (pm_bks_ok pb_X12_axis _ _ rfl) (pm_ndb_ok rfl) ((pq_X12_axis_60  a1 a2 a3 a4 a5 a6 s l x y).symm.trans h)
set_option maxRecDepth 100000 in
theorem pg_X12_axis_37 {lf : pj_Z → mj_M} (hT : pj_Lt pj_TR lf) : ∀ (a1 : Int32) (a2 : Int32) (a3 : Int32) (a4 : Int32) (a5 : Int32) (a6 : Int32) (b0 : Int32) (s : Nat → Int32) (l : Nat → Int64) (x : Nat → Int32) (y : Nat → Int64) (a : Unit × pj_Z), pl_X12_axis_37 a1 a2 a3 a4 a5 a6 b0 s l x y = some a → pm_Gd 1 12098 ie_X12_axis.1 pm_rU lf 37 [(0, .ref 124), (1, .int a1), (2, .int a2), (3, .int a3), (4, .int a4), (5, .int a5), (6, .int a6)] [.int b0] (s, l, x, y) a := by
  intro a1 a2 a3 a4 a5 a6 b0 s l x y a h
  exact pj_bl_ok (pz_X12_axis hT) (fun t lv st z hd h => pj_rn_ok (pz_X12_axis hT) (pm_bks_ok pb_X12_axis) (pj_as_all (p := pm_Ex 1 12098 ie_X12_axis.1 pm_rU lf a) (List.forall_mem_cons.mpr ⟨pu_X12_axis_60 _ (fun c0 c1 c2 c3 c4 c5 s l x y h => pg_X12_axis_60 hT c0 c1 c2 c3 c4 c5 s l x y _ h), (List.forall_mem_cons.mpr ⟨pu_X12_axis_85 _ (fun c0 c1 c2 c3 c4 c5 c6 s l x y h => pg_X12_axis_85 hT c0 c1 c2 c3 c4 c5 c6 s l x y _ h), (fun _ h => by cases h)⟩)⟩)) 60 t lv st z hd h) [(37, .istore 7, 2), (39, .aload_n 0, 1), (40, .iload_n 1, 1), (41, .i2l, 1), (42, .lconst 0, 1), (43, .lconst 1, 1), (44, .invokestatic 568, 3), (47, .ifCond .eq 13, 3)] 37 [(0, pj_O (124, 0)), (1, pj_I a1), (2, pj_I a2), (3, pj_I a3), (4, pj_I a4), (5, pj_I a5), (6, pj_I a6)] [pj_I b0] (s, l, x, y) (pm_bks_ok pb_X12_axis _ _ rfl) (pm_ndb_ok rfl) ((pq_X12_axis_37  a1 a2 a3 a4 a5 a6 b0 s l x y).symm.trans h)
set_option maxRecDepth 100000 in
theorem pg_X12_axis_36 {lf : pj_Z → mj_M} (hT : pj_Lt pj_TR lf) : ∀ (a1 : Int32) (a2 : Int32) (a3 : Int32) (a4 : Int32) (a5 : Int32) (a6 : Int32) (s : Nat → Int32) (l : Nat → Int64) (x : Nat → Int32) (y : Nat → Int64) (a : Unit × pj_Z), pl_X12_axis_36 a1 a2 a3 a4 a5 a6 s l x y = some a → pm_Gd 1 12098 ie_X12_axis.1 pm_rU lf 36 [(0, .ref 124), (1, .int a1), (2, .int a2), (3, .int a3), (4, .int a4), (5, .int a5), (6, .int a6)] [] (s, l, x, y) a := by
  intro a1 a2 a3 a4 a5 a6 s l x y a h
  exact pj_bl_ok (pz_X12_axis hT) (fun t lv st z hd h => pj_rn_ok (pz_X12_axis hT) (pm_bks_ok pb_X12_axis) (pj_as_all (p := pm_Ex 1 12098 ie_X12_axis.1 pm_rU lf a) (List.forall_mem_cons.mpr ⟨pu_X12_axis_37 _ (fun c0 c1 c2 c3 c4 c5 c6 s l x y h => pg_X12_axis_37 hT c0 c1 c2 c3 c4 c5 c6 s l x y _ h), (fun _ h => by cases h)⟩)) 60 t lv st z hd h) [(36, .iconst 0, 1)] 36 [(0, pj_O (124, 0)), (1, pj_I a1), (2, pj_I a2), (3, pj_I a3), (4, pj_I a4), (5, pj_I a5), (6, pj_I a6)] [] (s, l, x, y) (pm_bks_ok pb_X12_axis _ _ rfl) (pm_ndb_ok rfl) ((pq_X12_axis_36  a1 a2 a3 a4 a5 a6 s l x y).symm.trans h)
set_option maxRecDepth 100000 in
theorem pm_X12_axis {lf : pj_Z → mj_M} (hT : pj_Lt pj_TR lf) (a1 : Int32) (a2 : Int32) (a3 : Int32) (a4 : Int32) (a5 : Int32) (a6 : Int32) (s : Nat → Int32) (l : Nat → Int64) (x : Nat → Int32) (y : Nat → Int64) (a : Unit × pj_Z) (h : pf_X12_axis a1 a2 a3 a4 a5 a6 s l x y = some a) : mj_R ic_P 2 12098 [.ref 124, .int a1, .int a2, .int a3, .int a4, .int a5, .int a6] (lf (s, l, x, y)) (pm_rU a.1) (lf a.2) := by
  refine pm_main (Y := ie_X12_axis.1) rfl (Nat.le_of_ble_eq_true rfl) ?_
  exact pj_bl_ok (pz_X12_axis hT) (fun t lv st z hd h => pj_rn_ok (pz_X12_axis hT) (pm_bks_ok pb_X12_axis) (pj_as_all (p := pm_Ex 1 12098 ie_X12_axis.1 pm_rU lf a) (List.forall_mem_cons.mpr ⟨pu_X12_axis_36 _ (fun c0 c1 c2 c3 c4 c5 s l x y h => pg_X12_axis_36 hT c0 c1 c2 c3 c4 c5 s l x y _ h), (List.forall_mem_cons.mpr ⟨pu_X12_axis_37 _ (fun c0 c1 c2 c3 c4 c5 c6 s l x y h => pg_X12_axis_37 hT c0 c1 c2 c3 c4 c5 c6 s l x y _ h), (fun _ h => by cases h)⟩)⟩)) 60 t lv st z hd h) [(0, .iload_n 3, 1), (1, .ifCond .lt 35, 3)] 0 [(0, pj_O (124, 0)), (1, pj_I a1), (2, pj_I a2), (3, pj_I a3), (4, pj_I a4), (5, pj_I a5), (6, pj_I a6)] [] (s, l, x, y) (pm_bks_ok pb_X12_axis _ _ rfl) (pm_ndb_ok rfl) ((pq_X12_axis_m a1 a2 a3 a4 a5 a6 s l x y).symm.trans h)
abbrev ph_X12_axis {A : Type} : List pj_V → pj_Z → (List pj_V → pj_Z → Option A) → Option A := fun st z K => pj_pi st fun a6 st => pj_pi st fun a5 st => pj_pi st fun a4 st => pj_pi st fun a3 st => pj_pi st fun a2 st => pj_pi st fun a1 st => pj_pr st 124 0 fun st => pj_ps st (pj_b (pf_X12_axis a1 a2 a3 a4 a5 a6 z.1 z.2.1 z.2.2.1 z.2.2.2) fun r s l x y => K st (s, l, x, y))
set_option maxRecDepth 100000 in
theorem pc_X12_axis {A : Type} {OK : A → Option Value → mj_M → Prop} {d j pc ix : Nat} {Y : mj_Y} {lf : pj_Z → mj_M} (hT : pj_Lt pj_TR lf) (hd : 2 ≤ d) (hl : mj_lk Y.2.2.2.2 pc = some (.invokevirtual ix, 3)) (hg : mj_pG ic_P j ix = some (12098, 6, some 12)) {lv : List (Nat × Value)} {st : List pj_V} {z : pj_Z} {K : List pj_V → pj_Z → Option A} {a : A} (hK : ∀ st z, K st z = some a → pj_Gd ic_P (mj_R ic_P d) j Y OK lf (pc + 3) lv (pj_es st) z a) (h : ph_X12_axis st z K = some a) : pj_Gd ic_P (mj_R ic_P d) j Y OK lf pc lv (pj_es st) z a := by
  obtain ⟨a6, r6, e6, h⟩ := pj_pi_inv h
  obtain ⟨a5, r5, e5, h⟩ := pj_pi_inv h
  obtain ⟨a4, r4, e4, h⟩ := pj_pi_inv h
  obtain ⟨a3, r3, e3, h⟩ := pj_pi_inv h
  obtain ⟨a2, r2, e2, h⟩ := pj_pi_inv h
  obtain ⟨a1, r1, e1, h⟩ := pj_pi_inv h
  obtain ⟨r0, e0, h⟩ := pj_pr_inv h
  obtain ⟨hs, h⟩ := pj_ps_inv h
  obtain ⟨q, hq, h⟩ := pj_b_inv h
  exact pm_cv (o := 124) hl hg [.int a1, .int a2, .int a3, .int a4, .int a5, .int a6] rfl (by rw [e6, e5, e4, e3, e2, e1, e0]; rfl) hs (by decide) ((hT.2 124 _ rfl).1.2 z 0 (by decide)) (pm_rU q.1) hd (pm_X12_axis hT a1 a2 a3 a4 a5 a6 z.1 z.2.1 z.2.2.1 z.2.2.2 q hq) rfl (hK _ _ h)
abbrev pe_X12_cell_38 (f : Int32 → Int32 → Int32 → Int32 → pj_F (Int32 × pj_Z)) : pj_K (Int32 × pj_Z) := fun lv st z => pj_xr lv 0 124 0 <| pj_xi lv 1 fun a1 => pj_xi lv 2 fun a2 => pj_xi lv 3 fun a3 => pj_xi lv 4 fun a4 => pj_pe st (f a1 a2 a3 a4 z.1 z.2.1 z.2.2.1 z.2.2.2)
abbrev pe_X12_cell_39 (f : Int32 → Int32 → Int32 → Int32 → Int32 → pj_F (Int32 × pj_Z)) : pj_K (Int32 × pj_Z) := fun lv st z => pj_xr lv 0 124 0 <| pj_xi lv 1 fun a1 => pj_xi lv 2 fun a2 => pj_xi lv 3 fun a3 => pj_xi lv 4 fun a4 => pj_pi st fun b0 st => pj_pe st (f a1 a2 a3 a4 b0 z.1 z.2.1 z.2.2.1 z.2.2.2)
abbrev pe_X12_cell_80 (f : Int32 → Int32 → Int32 → Int32 → Int32 → pj_F (Int32 × pj_Z)) : pj_K (Int32 × pj_Z) := fun lv st z => pj_xr lv 0 124 0 <| pj_xi lv 1 fun a1 => pj_xi lv 2 fun a2 => pj_xi lv 3 fun a3 => pj_xi lv 4 fun a4 => pj_pi st fun b1 st => pj_pr st 124 0 fun st => pj_pe st (f a1 a2 a3 a4 b1 z.1 z.2.1 z.2.2.1 z.2.2.2)
abbrev px_X12_cell : pj_C (Int32 × pj_Z) := (pj_TR, (pj_as [(34, 12, 8, 2, true), (259, 12, 0, 0, false), (519, 12, 23, 0, false)]), (fun _ => none), (pj_as [(647, 3)]), (fun _ => none), ic_X, 8, 1, pj_mI, (pj_as [(4, ph_X12_isIn), (16, ph_X12_isIn), (28, ph_X12_isIn), (44, ph_X12_isCell)]), fun _ => false)
abbrev pk_X12_cell : List (Nat × List (Nat × Instr × Nat)) := [(0, [(0, .iload_n 1, 1), (1, .i2l, 1), (2, .lconst 0, 1), (3, .lconst 1, 1), (4, .invokestatic 568, 3), (7, .ifCond .eq 31, 3)]), (10, [(10, .iload_n 2, 1), (11, .i2l, 1), (12, .lconst 0, 1), (13, .ldc2_w 647, 3), (16, .invokestatic 568, 3), (19, .ifCond .eq 19, 3)]), (22, [(22, .iload_n 3, 1), (23, .i2l, 1), (24, .lconst 0, 1), (25, .ldc2_w 647, 3), (28, .invokestatic 568, 3), (31, .ifCond .eq 7, 3)]), (34, [(34, .iconst 1, 1), (35, .goto 4, 3)]), (38, [(38, .iconst 0, 1)]), (39, [(39, .istore 5, 2), (41, .iload_n 1, 1), (42, .iload 4, 2), (44, .invokestatic 584, 3), (47, .istore 6, 2), (49, .aload_n 0, 1), (50, .iload 5, 2), (52, .ifCond .ne 7, 3)]), (55, [(55, .iconst 1, 1), (56, .goto 24, 3)]), (59, [(59, .iload 6, 2), (61, .ifCond .ne 7, 3)]), (64, [(64, .iconst 2, 1), (65, .goto 15, 3)]), (68, [(68, .aload_n 0, 1), (69, .getfield 519, 3), (72, .ifCond .eq 7, 3)]), (75, [(75, .iconst 3, 1), (76, .goto 4, 3)]), (79, [(79, .iconst 0, 1)]), (80, [(80, .putfield 259, 3), (83, .aload_n 0, 1), (84, .getfield 259, 3), (87, .ifCond .le 5, 3)]), (90, [(90, .iconst 0, 1), (91, .ireturn, 1)]), (92, [(92, .aload_n 0, 1), (93, .getfield 34, 3), (96, .bipush 16, 2), (98, .iload_n 1, 1), (99, .imul, 1), (100, .iconst 4, 1), (101, .iload_n 2, 1), (102, .imul, 1), (103, .iadd, 1), (104, .iload_n 3, 1), (105, .iadd, 1), (106, .iaload, 1), (107, .istore 7, 2), (109, .aload_n 0, 1), (110, .getfield 34, 3), (113, .bipush 16, 2), (115, .iload_n 1, 1), (116, .imul, 1), (117, .iconst 4, 1), (118, .iload_n 2, 1), (119, .imul, 1), (120, .iadd, 1), (121, .iload_n 3, 1), (122, .iadd, 1), (123, .iload 4, 2), (125, .iastore, 1), (126, .iload 7, 2), (128, .ireturn, 1)])]
set_option maxRecDepth 100000 in
theorem pq_X12_cell_80 (a1 : Int32) (a2 : Int32) (a3 : Int32) (a4 : Int32) (b1 : Int32) (s : Nat → Int32) (l : Nat → Int64) (x : Nat → Int32) (y : Nat → Int64) : pl_X12_cell_80 a1 a2 a3 a4 b1 s l x y = pj_bl px_X12_cell (pj_rn px_X12_cell (pj_as pk_X12_cell) (fun _ => none) 60) [(80, .putfield 259, 3), (83, .aload_n 0, 1), (84, .getfield 259, 3), (87, .ifCond .le 5, 3)] 80 [(0, pj_O (124, 0)), (1, pj_I a1), (2, pj_I a2), (3, pj_I a3), (4, pj_I a4)] [pj_I b1, pj_O (124, 0)] (s, l, x, y) := rfl
set_option maxRecDepth 100000 in
theorem pq_X12_cell_39 (a1 : Int32) (a2 : Int32) (a3 : Int32) (a4 : Int32) (b0 : Int32) (s : Nat → Int32) (l : Nat → Int64) (x : Nat → Int32) (y : Nat → Int64) : pl_X12_cell_39 a1 a2 a3 a4 b0 s l x y = pj_bl px_X12_cell (pj_rn px_X12_cell (pj_as pk_X12_cell) (pj_as [(80, pe_X12_cell_80 (pl_X12_cell_80))]) 60) [(39, .istore 5, 2), (41, .iload_n 1, 1), (42, .iload 4, 2), (44, .invokestatic 584, 3), (47, .istore 6, 2), (49, .aload_n 0, 1), (50, .iload 5, 2), (52, .ifCond .ne 7, 3)] 39 [(0, pj_O (124, 0)), (1, pj_I a1), (2, pj_I a2), (3, pj_I a3), (4, pj_I a4)] [pj_I b0] (s, l, x, y) := rfl
set_option maxRecDepth 100000 in
theorem pq_X12_cell_38 (a1 : Int32) (a2 : Int32) (a3 : Int32) (a4 : Int32) (s : Nat → Int32) (l : Nat → Int64) (x : Nat → Int32) (y : Nat → Int64) : pl_X12_cell_38 a1 a2 a3 a4 s l x y = pj_bl px_X12_cell (pj_rn px_X12_cell (pj_as pk_X12_cell) (pj_as [(39, pe_X12_cell_39 (pl_X12_cell_39))]) 60) [(38, .iconst 0, 1)] 38 [(0, pj_O (124, 0)), (1, pj_I a1), (2, pj_I a2), (3, pj_I a3), (4, pj_I a4)] [] (s, l, x, y) := rfl
set_option maxRecDepth 100000 in
theorem pq_X12_cell_m (a1 : Int32) (a2 : Int32) (a3 : Int32) (a4 : Int32) (s : Nat → Int32) (l : Nat → Int64) (x : Nat → Int32) (y : Nat → Int64) : pf_X12_cell a1 a2 a3 a4 s l x y = pj_bl px_X12_cell (pj_rn px_X12_cell (pj_as pk_X12_cell) (pj_as [(38, pe_X12_cell_38 (pl_X12_cell_38)), (39, pe_X12_cell_39 (pl_X12_cell_39))]) 60) [(0, .iload_n 1, 1), (1, .i2l, 1), (2, .lconst 0, 1), (3, .lconst 1, 1), (4, .invokestatic 568, 3), (7, .ifCond .eq 31, 3)] 0 [(0, pj_O (124, 0)), (1, pj_I a1), (2, pj_I a2), (3, pj_I a3), (4, pj_I a4)] [] (s, l, x, y) := rfl
theorem pu_X12_cell_38 {lf : pj_Z → mj_M} {a : Int32 × pj_Z} (f : Int32 → Int32 → Int32 → Int32 → pj_F (Int32 × pj_Z)) (hf : ∀ (a1 : Int32) (a2 : Int32) (a3 : Int32) (a4 : Int32) (s : Nat → Int32) (l : Nat → Int64) (x : Nat → Int32) (y : Nat → Int64), f a1 a2 a3 a4 s l x y = some a → pm_Gd 2 12099 ie_X12_cell.1 pm_rI lf 38 [(0, .ref 124), (1, .int a1), (2, .int a2), (3, .int a3), (4, .int a4)] [] (s, l, x, y) a) : pm_Ex 2 12099 ie_X12_cell.1 pm_rI lf a 38 (pe_X12_cell_38 f) := by
  intro lv st z hd h
  obtain ⟨g0, h⟩ := pj_xr_inv h
  obtain ⟨a1, g1, h⟩ := pj_xi_inv h
  obtain ⟨a2, g2, h⟩ := pj_xi_inv h
  obtain ⟨a3, g3, h⟩ := pj_xi_inv h
  obtain ⟨a4, g4, h⟩ := pj_xi_inv h
  obtain ⟨e9, h⟩ := pj_pe_inv h
  rw [e9]
  exact mj_wp_sub (mj_sub_cons g0 (mj_sub_cons g1 (mj_sub_cons g2 (mj_sub_cons g3 (mj_sub_cons g4 (mj_sub_nil hd)))))) (hf _ _ _ _ _ _ _ _ h)
theorem pu_X12_cell_39 {lf : pj_Z → mj_M} {a : Int32 × pj_Z} (f : Int32 → Int32 → Int32 → Int32 → Int32 → pj_F (Int32 × pj_Z)) (hf : ∀ (a1 : Int32) (a2 : Int32) (a3 : Int32) (a4 : Int32) (b0 : Int32) (s : Nat → Int32) (l : Nat → Int64) (x : Nat → Int32) (y : Nat → Int64), f a1 a2 a3 a4 b0 s l x y = some a → pm_Gd 2 12099 ie_X12_cell.1 pm_rI lf 39 [(0, .ref 124), (1, .int a1), (2, .int a2), (3, .int a3), (4, .int a4)] [.int b0] (s, l, x, y) a) : pm_Ex 2 12099 ie_X12_cell.1 pm_rI lf a 39 (pe_X12_cell_39 f) := by
  intro lv st z hd h
  obtain ⟨g0, h⟩ := pj_xr_inv h
  obtain ⟨a1, g1, h⟩ := pj_xi_inv h
  obtain ⟨a2, g2, h⟩ := pj_xi_inv h
  obtain ⟨a3, g3, h⟩ := pj_xi_inv h
  obtain ⟨a4, g4, h⟩ := pj_xi_inv h
  obtain ⟨b0, r0, e0, h⟩ := pj_pi_inv h
  obtain ⟨e9, h⟩ := pj_pe_inv h
  rw [e0, e9]
  exact mj_wp_sub (mj_sub_cons g0 (mj_sub_cons g1 (mj_sub_cons g2 (mj_sub_cons g3 (mj_sub_cons g4 (mj_sub_nil hd)))))) (hf _ _ _ _ _ _ _ _ _ h)
theorem pu_X12_cell_80 {lf : pj_Z → mj_M} {a : Int32 × pj_Z} (f : Int32 → Int32 → Int32 → Int32 → Int32 → pj_F (Int32 × pj_Z)) (hf : ∀ (a1 : Int32) (a2 : Int32) (a3 : Int32) (a4 : Int32) (b1 : Int32) (s : Nat → Int32) (l : Nat → Int64) (x : Nat → Int32) (y : Nat → Int64), f a1 a2 a3 a4 b1 s l x y = some a → pm_Gd 2 12099 ie_X12_cell.1 pm_rI lf 80 [(0, .ref 124), (1, .int a1), (2, .int a2), (3, .int a3), (4, .int a4)] [.int b1, .ref 124] (s, l, x, y) a) : pm_Ex 2 12099 ie_X12_cell.1 pm_rI lf a 80 (pe_X12_cell_80 f) := by
  intro lv st z hd h
  obtain ⟨g0, h⟩ := pj_xr_inv h
  obtain ⟨a1, g1, h⟩ := pj_xi_inv h
  obtain ⟨a2, g2, h⟩ := pj_xi_inv h
  obtain ⟨a3, g3, h⟩ := pj_xi_inv h
  obtain ⟨a4, g4, h⟩ := pj_xi_inv h
  obtain ⟨b1, r1, e1, h⟩ := pj_pi_inv h
  obtain ⟨r0, e0, h⟩ := pj_pr_inv h
  obtain ⟨e9, h⟩ := pj_pe_inv h
  rw [e1, e0, e9]
  exact mj_wp_sub (mj_sub_cons g0 (mj_sub_cons g1 (mj_sub_cons g2 (mj_sub_cons g3 (mj_sub_cons g4 (mj_sub_nil hd)))))) (hf _ _ _ _ _ _ _ _ _ h)
set_option maxRecDepth 100000 in
theorem pz_X12_cell {lf : pj_Z → mj_M} (hT : pj_Lt pj_TR lf) : pj_Cok ic_P (mj_R ic_P 2) 12099 ie_X12_cell.1 (pm_OK lf pm_rI) lf px_X12_cell := by
  exact pm_cok (c := px_X12_cell) hT (pm_in_ok (L := [(34, 12, 8, 2, true), (259, 12, 0, 0, false), (519, 12, 23, 0, false)]) (f := mj_pF ic_P 12099) (by decide +kernel)) (fun _ _ h => by cases h) (pm_inL_ok (L := [(647, 3)]) (f := mj_pL ic_P 12099) (by decide +kernel)) (fun _ _ h => by cases h) rfl rfl ⟨by decide, rfl⟩ pm_mI (pj_as_all (p := pm_Cl 2 12099 ie_X12_cell.1 lf (pm_OK lf pm_rI)) (List.forall_mem_cons.mpr ⟨fun _ _ lv st z K a hK h => pc_X12_isIn hT (by decide) (ix := 568) rfl rfl hK h, (List.forall_mem_cons.mpr ⟨fun _ _ lv st z K a hK h => pc_X12_isIn hT (by decide) (ix := 568) rfl rfl hK h, (List.forall_mem_cons.mpr ⟨fun _ _ lv st z K a hK h => pc_X12_isIn hT (by decide) (ix := 568) rfl rfl hK h, (List.forall_mem_cons.mpr ⟨fun _ _ lv st z K a hK h => pc_X12_isCell hT (by decide) (ix := 584) rfl rfl hK h, (fun _ h => by cases h)⟩)⟩)⟩)⟩)) (fun _ h => by cases h)
set_option maxRecDepth 100000 in
theorem pb_X12_cell : pm_bks ie_X12_cell.1.2.2.2.2 pk_X12_cell = true := by decide +kernel
set_option maxRecDepth 100000 in
theorem pg_X12_cell_80 {lf : pj_Z → mj_M} (hT : pj_Lt pj_TR lf) : ∀ (a1 : Int32) (a2 : Int32) (a3 : Int32) (a4 : Int32) (b1 : Int32) (s : Nat → Int32) (l : Nat → Int64) (x : Nat → Int32) (y : Nat → Int64) (a : Int32 × pj_Z), pl_X12_cell_80 a1 a2 a3 a4 b1 s l x y = some a → pm_Gd 2 12099 ie_X12_cell.1 pm_rI lf 80 [(0, .ref 124), (1, .int a1), (2, .int a2), (3, .int a3), (4, .int a4)] [.int b1, .ref 124] (s, l, x, y) a := by
  intro a1 a2 a3 a4 b1 s l x y a h
  exact pj_bl_ok (pz_X12_cell hT) (fun t lv st z hd h => pj_rn_ok (pz_X12_cell hT) (pm_bks_ok pb_X12_cell) (fun _ _ h => by cases h) 60 t lv st z hd h) [(80, .putfield 259, 3), (83, .aload_n 0, 1), (84, .getfield 259, 3), (87, .ifCond .le 5, 3)] 80 [(0, pj_O (124, 0)), (1, pj_I a1), (2, pj_I a2), (3, pj_I a3), (4, pj_I a4)] [pj_I b1, pj_O (124, 0)] (s, l, x, y) (pm_bks_ok pb_X12_cell _ _ rfl) (pm_ndb_ok rfl) ((pq_X12_cell_80  a1 a2 a3 a4 b1 s l x y).symm.trans h)
set_option maxRecDepth 100000 in
theorem pg_X12_cell_39 {lf : pj_Z → mj_M} (hT : pj_Lt pj_TR lf) : ∀ (a1 : Int32) (a2 : Int32) (a3 : Int32) (a4 : Int32) (b0 : Int32) (s : Nat → Int32) (l : Nat → Int64) (x : Nat → Int32) (y : Nat → Int64) (a : Int32 × pj_Z), pl_X12_cell_39 a1 a2 a3 a4 b0 s l x y = some a → pm_Gd 2 12099 ie_X12_cell.1 pm_rI lf 39 [(0, .ref 124), (1, .int a1), (2, .int a2), (3, .int a3), (4, .int a4)] [.int b0] (s, l, x, y) a := by
  intro a1 a2 a3 a4 b0 s l x y a h
  exact pj_bl_ok (pz_X12_cell hT) (fun t lv st z hd h => pj_rn_ok (pz_X12_cell hT) (pm_bks_ok pb_X12_cell) (pj_as_all (p := pm_Ex 2 12099 ie_X12_cell.1 pm_rI lf a) (List.forall_mem_cons.mpr ⟨pu_X12_cell_80 _ (fun c0 c1 c2 c3 c4 s l x y h => pg_X12_cell_80 hT c0 c1 c2 c3 c4 s l x y _ h), (fun _ h => by cases h)⟩)) 60 t lv st z hd h) [(39, .istore 5, 2), (41, .iload_n 1, 1), (42, .iload 4, 2), (44, .invokestatic 584, 3), (47, .istore 6, 2), (49, .aload_n 0, 1), (50, .iload 5, 2), (52, .ifCond .ne 7, 3)] 39 [(0, pj_O (124, 0)), (1, pj_I a1), (2, pj_I a2), (3, pj_I a3), (4, pj_I a4)] [pj_I b0] (s, l, x, y) (pm_bks_ok pb_X12_cell _ _ rfl) (pm_ndb_ok rfl) ((pq_X12_cell_39  a1 a2 a3 a4 b0 s l x y).symm.trans h)
set_option maxRecDepth 100000 in
theorem pg_X12_cell_38 {lf : pj_Z → mj_M} (hT : pj_Lt pj_TR lf) : ∀ (a1 : Int32) (a2 : Int32) (a3 : Int32) (a4 : Int32) (s : Nat → Int32) (l : Nat → Int64) (x : Nat → Int32) (y : Nat → Int64) (a : Int32 × pj_Z), pl_X12_cell_38 a1 a2 a3 a4 s l x y = some a → pm_Gd 2 12099 ie_X12_cell.1 pm_rI lf 38 [(0, .ref 124), (1, .int a1), (2, .int a2), (3, .int a3), (4, .int a4)] [] (s, l, x, y) a := by
  intro a1 a2 a3 a4 s l x y a h
  exact pj_bl_ok (pz_X12_cell hT) (fun t lv st z hd h => pj_rn_ok (pz_X12_cell hT) (pm_bks_ok pb_X12_cell) (pj_as_all (p := pm_Ex 2 12099 ie_X12_cell.1 pm_rI lf a) (List.forall_mem_cons.mpr ⟨pu_X12_cell_39 _ (fun c0 c1 c2 c3 c4 s l x y h => pg_X12_cell_39 hT c0 c1 c2 c3 c4 s l x y _ h), (fun _ h => by cases h)⟩)) 60 t lv st z hd h) [(38, .iconst 0, 1)] 38 [(0, pj_O (124, 0)), (1, pj_I a1), (2, pj_I a2), (3, pj_I a3), (4, pj_I a4)] [] (s, l, x, y) (pm_bks_ok pb_X12_cell _ _ rfl) (pm_ndb_ok rfl) ((pq_X12_cell_38  a1 a2 a3 a4 s l x y).symm.trans h)
set_option maxRecDepth 100000 in
theorem pm_X12_cell {lf : pj_Z → mj_M} (hT : pj_Lt pj_TR lf) (a1 : Int32) (a2 : Int32) (a3 : Int32) (a4 : Int32) (s : Nat → Int32) (l : Nat → Int64) (x : Nat → Int32) (y : Nat → Int64) (a : Int32 × pj_Z) (h : pf_X12_cell a1 a2 a3 a4 s l x y = some a) : mj_R ic_P 3 12099 [.ref 124, .int a1, .int a2, .int a3, .int a4] (lf (s, l, x, y)) (pm_rI a.1) (lf a.2) := by
  refine pm_main (Y := ie_X12_cell.1) rfl (Nat.le_of_ble_eq_true rfl) ?_
  exact pj_bl_ok (pz_X12_cell hT) (fun t lv st z hd h => pj_rn_ok (pz_X12_cell hT) (pm_bks_ok pb_X12_cell) (pj_as_all (p := pm_Ex 2 12099 ie_X12_cell.1 pm_rI lf a) (List.forall_mem_cons.mpr ⟨pu_X12_cell_38 _ (fun c0 c1 c2 c3 s l x y h => pg_X12_cell_38 hT c0 c1 c2 c3 s l x y _ h), (List.forall_mem_cons.mpr ⟨pu_X12_cell_39 _ (fun c0 c1 c2 c3 c4 s l x y h => pg_X12_cell_39 hT c0 c1 c2 c3 c4 s l x y _ h), (fun _ h => by cases h)⟩)⟩)) 60 t lv st z hd h) [(0, .iload_n 1, 1), (1, .i2l, 1), (2, .lconst 0, 1), (3, .lconst 1, 1), (4, .invokestatic 568, 3), (7, .ifCond .eq 31, 3)] 0 [(0, pj_O (124, 0)), (1, pj_I a1), (2, pj_I a2), (3, pj_I a3), (4, pj_I a4)] [] (s, l, x, y) (pm_bks_ok pb_X12_cell _ _ rfl) (pm_ndb_ok rfl) ((pq_X12_cell_m a1 a2 a3 a4 s l x y).symm.trans h)
abbrev ph_X12_cell {A : Type} : List pj_V → pj_Z → (List pj_V → pj_Z → Option A) → Option A := fun st z K => pj_pi st fun a4 st => pj_pi st fun a3 st => pj_pi st fun a2 st => pj_pi st fun a1 st => pj_pr st 124 0 fun st => pj_ps st (pj_b (pf_X12_cell a1 a2 a3 a4 z.1 z.2.1 z.2.2.1 z.2.2.2) fun r s l x y => K (pj_I r :: st) (s, l, x, y))
set_option maxRecDepth 100000 in
theorem pc_X12_cell {A : Type} {OK : A → Option Value → mj_M → Prop} {d j pc ix : Nat} {Y : mj_Y} {lf : pj_Z → mj_M} (hT : pj_Lt pj_TR lf) (hd : 3 ≤ d) (hl : mj_lk Y.2.2.2.2 pc = some (.invokevirtual ix, 3)) (hg : mj_pG ic_P j ix = some (12099, 4, some 12)) {lv : List (Nat × Value)} {st : List pj_V} {z : pj_Z} {K : List pj_V → pj_Z → Option A} {a : A} (hK : ∀ st z, K st z = some a → pj_Gd ic_P (mj_R ic_P d) j Y OK lf (pc + 3) lv (pj_es st) z a) (h : ph_X12_cell st z K = some a) : pj_Gd ic_P (mj_R ic_P d) j Y OK lf pc lv (pj_es st) z a := by
  obtain ⟨a4, r4, e4, h⟩ := pj_pi_inv h
  obtain ⟨a3, r3, e3, h⟩ := pj_pi_inv h
  obtain ⟨a2, r2, e2, h⟩ := pj_pi_inv h
  obtain ⟨a1, r1, e1, h⟩ := pj_pi_inv h
  obtain ⟨r0, e0, h⟩ := pj_pr_inv h
  obtain ⟨hs, h⟩ := pj_ps_inv h
  obtain ⟨q, hq, h⟩ := pj_b_inv h
  exact pm_cv (o := 124) hl hg [.int a1, .int a2, .int a3, .int a4] rfl (by rw [e4, e3, e2, e1, e0]; rfl) hs (by decide) ((hT.2 124 _ rfl).1.2 z 0 (by decide)) (pm_rI q.1) hd (pm_X12_cell hT a1 a2 a3 a4 z.1 z.2.1 z.2.2.1 z.2.2.2 q hq) rfl (hK _ _ h)
abbrev pe_X12_value_16 (f : Int32 → Int32 → Int32 → Int32 → pj_F (Int32 × pj_Z)) : pj_K (Int32 × pj_Z) := fun lv st z => pj_xr lv 0 124 0 <| pj_xi lv 1 fun a1 => pj_xi lv 2 fun a2 => pj_xi lv 3 fun a3 => pj_pi st fun b1 st => pj_pr st 124 0 fun st => pj_pe st (f a1 a2 a3 b1 z.1 z.2.1 z.2.2.1 z.2.2.2)
abbrev px_X12_value : pj_C (Int32 × pj_Z) := (pj_TR, (pj_as [(259, 12, 0, 0, false)]), (fun _ => none), (fun _ => none), (fun _ => none), ic_X, 4, 1, pj_mI, (pj_as [(5, ph_X12_isIn), (34, ph_X12_mapValue)]), fun _ => false)
abbrev pk_X12_value : List (Nat × List (Nat × Instr × Nat)) := [(0, [(0, .aload_n 0, 1), (1, .iload_n 1, 1), (2, .i2l, 1), (3, .lconst 0, 1), (4, .lconst 1, 1), (5, .invokestatic 568, 3), (8, .ifCond .ne 7, 3)]), (11, [(11, .iconst 1, 1), (12, .goto 4, 3)]), (15, [(15, .iconst 0, 1)]), (16, [(16, .putfield 259, 3), (19, .aload_n 0, 1), (20, .getfield 259, 3), (23, .ifCond .le 7, 3)]), (26, [(26, .iconst 0, 1), (27, .goto 10, 3)]), (30, [(30, .aload_n 0, 1), (31, .iload_n 1, 1), (32, .iload_n 2, 1), (33, .iload_n 3, 1), (34, .invokevirtual 680, 3)]), (37, [(37, .ireturn, 1)])]
set_option maxRecDepth 100000 in
theorem pq_X12_value_16 (a1 : Int32) (a2 : Int32) (a3 : Int32) (b1 : Int32) (s : Nat → Int32) (l : Nat → Int64) (x : Nat → Int32) (y : Nat → Int64) : pl_X12_value_16 a1 a2 a3 b1 s l x y = pj_bl px_X12_value (pj_rn px_X12_value (pj_as pk_X12_value) (fun _ => none) 60) [(16, .putfield 259, 3), (19, .aload_n 0, 1), (20, .getfield 259, 3), (23, .ifCond .le 7, 3)] 16 [(0, pj_O (124, 0)), (1, pj_I a1), (2, pj_I a2), (3, pj_I a3)] [pj_I b1, pj_O (124, 0)] (s, l, x, y) := rfl
set_option maxRecDepth 100000 in
theorem pq_X12_value_m (a1 : Int32) (a2 : Int32) (a3 : Int32) (s : Nat → Int32) (l : Nat → Int64) (x : Nat → Int32) (y : Nat → Int64) : pf_X12_value a1 a2 a3 s l x y = pj_bl px_X12_value (pj_rn px_X12_value (pj_as pk_X12_value) (pj_as [(16, pe_X12_value_16 (pl_X12_value_16))]) 60) [(0, .aload_n 0, 1), (1, .iload_n 1, 1), (2, .i2l, 1), (3, .lconst 0, 1), (4, .lconst 1, 1), (5, .invokestatic 568, 3), (8, .ifCond .ne 7, 3)] 0 [(0, pj_O (124, 0)), (1, pj_I a1), (2, pj_I a2), (3, pj_I a3)] [] (s, l, x, y) := rfl
theorem pu_X12_value_16 {lf : pj_Z → mj_M} {a : Int32 × pj_Z} (f : Int32 → Int32 → Int32 → Int32 → pj_F (Int32 × pj_Z)) (hf : ∀ (a1 : Int32) (a2 : Int32) (a3 : Int32) (b1 : Int32) (s : Nat → Int32) (l : Nat → Int64) (x : Nat → Int32) (y : Nat → Int64), f a1 a2 a3 b1 s l x y = some a → pm_Gd 2 12100 ie_X12_value.1 pm_rI lf 16 [(0, .ref 124), (1, .int a1), (2, .int a2), (3, .int a3)] [.int b1, .ref 124] (s, l, x, y) a) : pm_Ex 2 12100 ie_X12_value.1 pm_rI lf a 16 (pe_X12_value_16 f) := by
  intro lv st z hd h
  obtain ⟨g0, h⟩ := pj_xr_inv h
  obtain ⟨a1, g1, h⟩ := pj_xi_inv h
  obtain ⟨a2, g2, h⟩ := pj_xi_inv h
  obtain ⟨a3, g3, h⟩ := pj_xi_inv h
  obtain ⟨b1, r1, e1, h⟩ := pj_pi_inv h
  obtain ⟨r0, e0, h⟩ := pj_pr_inv h
  obtain ⟨e9, h⟩ := pj_pe_inv h
  rw [e1, e0, e9]
  exact mj_wp_sub (mj_sub_cons g0 (mj_sub_cons g1 (mj_sub_cons g2 (mj_sub_cons g3 (mj_sub_nil hd))))) (hf _ _ _ _ _ _ _ _ h)
set_option maxRecDepth 100000 in
theorem pz_X12_value {lf : pj_Z → mj_M} (hT : pj_Lt pj_TR lf) : pj_Cok ic_P (mj_R ic_P 2) 12100 ie_X12_value.1 (pm_OK lf pm_rI) lf px_X12_value := by
  exact pm_cok (c := px_X12_value) hT (pm_in_ok (L := [(259, 12, 0, 0, false)]) (f := mj_pF ic_P 12100) (by decide +kernel)) (fun _ _ h => by cases h) (fun _ _ h => by cases h) (fun _ _ h => by cases h) rfl rfl ⟨by decide, rfl⟩ pm_mI (pj_as_all (p := pm_Cl 2 12100 ie_X12_value.1 lf (pm_OK lf pm_rI)) (List.forall_mem_cons.mpr ⟨fun _ _ lv st z K a hK h => pc_X12_isIn hT (by decide) (ix := 568) rfl rfl hK h, (List.forall_mem_cons.mpr ⟨fun _ _ lv st z K a hK h => pc_X12_mapValue hT (by decide) (ix := 680) rfl rfl hK h, (fun _ h => by cases h)⟩)⟩)) (fun _ h => by cases h)
set_option maxRecDepth 100000 in
theorem pb_X12_value : pm_bks ie_X12_value.1.2.2.2.2 pk_X12_value = true := by decide +kernel
set_option maxRecDepth 100000 in
theorem pg_X12_value_16 {lf : pj_Z → mj_M} (hT : pj_Lt pj_TR lf) : ∀ (a1 : Int32) (a2 : Int32) (a3 : Int32) (b1 : Int32) (s : Nat → Int32) (l : Nat → Int64) (x : Nat → Int32) (y : Nat → Int64) (a : Int32 × pj_Z), pl_X12_value_16 a1 a2 a3 b1 s l x y = some a → pm_Gd 2 12100 ie_X12_value.1 pm_rI lf 16 [(0, .ref 124), (1, .int a1), (2, .int a2), (3, .int a3)] [.int b1, .ref 124] (s, l, x, y) a := by
  intro a1 a2 a3 b1 s l x y a h
  exact pj_bl_ok (pz_X12_value hT) (fun t lv st z hd h => pj_rn_ok (pz_X12_value hT) (pm_bks_ok pb_X12_value) (fun _ _ h => by cases h) 60 t lv st z hd h) [(16, .putfield 259, 3), (19, .aload_n 0, 1), (20, .getfield 259, 3), (23, .ifCond .le 7, 3)] 16 [(0, pj_O (124, 0)), (1, pj_I a1), (2, pj_I a2), (3, pj_I a3)] [pj_I b1, pj_O (124, 0)] (s, l, x, y) (pm_bks_ok pb_X12_value _ _ rfl) (pm_ndb_ok rfl) ((pq_X12_value_16  a1 a2 a3 b1 s l x y).symm.trans h)
set_option maxRecDepth 100000 in
theorem pm_X12_value {lf : pj_Z → mj_M} (hT : pj_Lt pj_TR lf) (a1 : Int32) (a2 : Int32) (a3 : Int32) (s : Nat → Int32) (l : Nat → Int64) (x : Nat → Int32) (y : Nat → Int64) (a : Int32 × pj_Z) (h : pf_X12_value a1 a2 a3 s l x y = some a) : mj_R ic_P 3 12100 [.ref 124, .int a1, .int a2, .int a3] (lf (s, l, x, y)) (pm_rI a.1) (lf a.2) := by
  refine pm_main (Y := ie_X12_value.1) rfl (Nat.le_of_ble_eq_true rfl) ?_
  exact pj_bl_ok (pz_X12_value hT) (fun t lv st z hd h => pj_rn_ok (pz_X12_value hT) (pm_bks_ok pb_X12_value) (pj_as_all (p := pm_Ex 2 12100 ie_X12_value.1 pm_rI lf a) (List.forall_mem_cons.mpr ⟨pu_X12_value_16 _ (fun c0 c1 c2 c3 s l x y h => pg_X12_value_16 hT c0 c1 c2 c3 s l x y _ h), (fun _ h => by cases h)⟩)) 60 t lv st z hd h) [(0, .aload_n 0, 1), (1, .iload_n 1, 1), (2, .i2l, 1), (3, .lconst 0, 1), (4, .lconst 1, 1), (5, .invokestatic 568, 3), (8, .ifCond .ne 7, 3)] 0 [(0, pj_O (124, 0)), (1, pj_I a1), (2, pj_I a2), (3, pj_I a3)] [] (s, l, x, y) (pm_bks_ok pb_X12_value _ _ rfl) (pm_ndb_ok rfl) ((pq_X12_value_m a1 a2 a3 s l x y).symm.trans h)
abbrev ph_X12_value {A : Type} : List pj_V → pj_Z → (List pj_V → pj_Z → Option A) → Option A := fun st z K => pj_pi st fun a3 st => pj_pi st fun a2 st => pj_pi st fun a1 st => pj_pr st 124 0 fun st => pj_ps st (pj_b (pf_X12_value a1 a2 a3 z.1 z.2.1 z.2.2.1 z.2.2.2) fun r s l x y => K (pj_I r :: st) (s, l, x, y))
set_option maxRecDepth 100000 in
theorem pc_X12_value {A : Type} {OK : A → Option Value → mj_M → Prop} {d j pc ix : Nat} {Y : mj_Y} {lf : pj_Z → mj_M} (hT : pj_Lt pj_TR lf) (hd : 3 ≤ d) (hl : mj_lk Y.2.2.2.2 pc = some (.invokevirtual ix, 3)) (hg : mj_pG ic_P j ix = some (12100, 3, some 12)) {lv : List (Nat × Value)} {st : List pj_V} {z : pj_Z} {K : List pj_V → pj_Z → Option A} {a : A} (hK : ∀ st z, K st z = some a → pj_Gd ic_P (mj_R ic_P d) j Y OK lf (pc + 3) lv (pj_es st) z a) (h : ph_X12_value st z K = some a) : pj_Gd ic_P (mj_R ic_P d) j Y OK lf pc lv (pj_es st) z a := by
  obtain ⟨a3, r3, e3, h⟩ := pj_pi_inv h
  obtain ⟨a2, r2, e2, h⟩ := pj_pi_inv h
  obtain ⟨a1, r1, e1, h⟩ := pj_pi_inv h
  obtain ⟨r0, e0, h⟩ := pj_pr_inv h
  obtain ⟨hs, h⟩ := pj_ps_inv h
  obtain ⟨q, hq, h⟩ := pj_b_inv h
  exact pm_cv (o := 124) hl hg [.int a1, .int a2, .int a3] rfl (by rw [e3, e2, e1, e0]; rfl) hs (by decide) ((hT.2 124 _ rfl).1.2 z 0 (by decide)) (pm_rI q.1) hd (pm_X12_value hT a1 a2 a3 z.1 z.2.1 z.2.2.1 z.2.2.2 q hq) rfl (hK _ _ h)
abbrev pe_X12_calibrate_57 (f : Int32 → Int32 → Int32 → pj_F (Int32 × pj_Z)) : pj_K (Int32 × pj_Z) := fun lv st z => pj_xr lv 0 124 0 <| pj_xi lv 1 fun a1 => pj_xi lv 2 fun a2 => pj_pi st fun b1 st => pj_pr st 124 0 fun st => pj_pe st (f a1 a2 b1 z.1 z.2.1 z.2.2.1 z.2.2.2)
abbrev px_X12_calibrate : pj_C (Int32 × pj_Z) := (pj_TR, (pj_as [(8, 12, 1, 2, true), (15, 12, 2, 2, true), (19, 12, 3, 2, true), (259, 12, 0, 0, false), (519, 12, 23, 0, false)]), (fun _ => none), (pj_as [(942, 23)]), (fun _ => none), ic_X, 5, 1, pj_mI, (pj_as [(6, ph_X12_isIn), (35, ph_X12_isIn)]), fun _ => false)
abbrev pk_X12_calibrate : List (Nat × List (Nat × Instr × Nat)) := [(0, [(0, .iload_n 1, 1), (1, .i2l, 1), (2, .lconst 0, 1), (3, .ldc2_w 942, 3), (6, .invokestatic 568, 3), (9, .istore_n 3, 1), (10, .aload_n 0, 1), (11, .iload_n 3, 1), (12, .ifCond .ne 7, 3)]), (15, [(15, .iconst 1, 1), (16, .goto 41, 3)]), (19, [(19, .iload_n 2, 1), (20, .i2l, 1), (21, .aload_n 0, 1), (22, .getfield 8, 3), (25, .iload_n 1, 1), (26, .iaload, 1), (27, .i2l, 1), (28, .aload_n 0, 1), (29, .getfield 15, 3), (32, .iload_n 1, 1), (33, .iaload, 1), (34, .i2l, 1), (35, .invokestatic 568, 3), (38, .ifCond .ne 7, 3)]), (41, [(41, .iconst 2, 1), (42, .goto 15, 3)]), (45, [(45, .aload_n 0, 1), (46, .getfield 519, 3), (49, .ifCond .eq 7, 3)]), (52, [(52, .iconst 3, 1), (53, .goto 4, 3)]), (56, [(56, .iconst 0, 1)]), (57, [(57, .putfield 259, 3), (60, .aload_n 0, 1), (61, .getfield 259, 3), (64, .ifCond .le 5, 3)]), (67, [(67, .iconst 0, 1), (68, .ireturn, 1)]), (69, [(69, .aload_n 0, 1), (70, .getfield 19, 3), (73, .iload_n 1, 1), (74, .iaload, 1), (75, .istore 4, 2), (77, .aload_n 0, 1), (78, .getfield 19, 3), (81, .iload_n 1, 1), (82, .iload_n 2, 1), (83, .iastore, 1), (84, .iload 4, 2), (86, .ireturn, 1)])]
set_option maxRecDepth 100000 in
theorem pq_X12_calibrate_57 (a1 : Int32) (a2 : Int32) (b1 : Int32) (s : Nat → Int32) (l : Nat → Int64) (x : Nat → Int32) (y : Nat → Int64) : pl_X12_calibrate_57 a1 a2 b1 s l x y = pj_bl px_X12_calibrate (pj_rn px_X12_calibrate (pj_as pk_X12_calibrate) (fun _ => none) 60) [(57, .putfield 259, 3), (60, .aload_n 0, 1), (61, .getfield 259, 3), (64, .ifCond .le 5, 3)] 57 [(0, pj_O (124, 0)), (1, pj_I a1), (2, pj_I a2)] [pj_I b1, pj_O (124, 0)] (s, l, x, y) := rfl
set_option maxRecDepth 100000 in
theorem pq_X12_calibrate_m (a1 : Int32) (a2 : Int32) (s : Nat → Int32) (l : Nat → Int64) (x : Nat → Int32) (y : Nat → Int64) : pf_X12_calibrate a1 a2 s l x y = pj_bl px_X12_calibrate (pj_rn px_X12_calibrate (pj_as pk_X12_calibrate) (pj_as [(57, pe_X12_calibrate_57 (pl_X12_calibrate_57))]) 60) [(0, .iload_n 1, 1), (1, .i2l, 1), (2, .lconst 0, 1), (3, .ldc2_w 942, 3), (6, .invokestatic 568, 3), (9, .istore_n 3, 1), (10, .aload_n 0, 1), (11, .iload_n 3, 1), (12, .ifCond .ne 7, 3)] 0 [(0, pj_O (124, 0)), (1, pj_I a1), (2, pj_I a2)] [] (s, l, x, y) := rfl
theorem pu_X12_calibrate_57 {lf : pj_Z → mj_M} {a : Int32 × pj_Z} (f : Int32 → Int32 → Int32 → pj_F (Int32 × pj_Z)) (hf : ∀ (a1 : Int32) (a2 : Int32) (b1 : Int32) (s : Nat → Int32) (l : Nat → Int64) (x : Nat → Int32) (y : Nat → Int64), f a1 a2 b1 s l x y = some a → pm_Gd 1 12101 ie_X12_calibrate.1 pm_rI lf 57 [(0, .ref 124), (1, .int a1), (2, .int a2)] [.int b1, .ref 124] (s, l, x, y) a) : pm_Ex 1 12101 ie_X12_calibrate.1 pm_rI lf a 57 (pe_X12_calibrate_57 f) := by
  intro lv st z hd h
  obtain ⟨g0, h⟩ := pj_xr_inv h
  obtain ⟨a1, g1, h⟩ := pj_xi_inv h
  obtain ⟨a2, g2, h⟩ := pj_xi_inv h
  obtain ⟨b1, r1, e1, h⟩ := pj_pi_inv h
  obtain ⟨r0, e0, h⟩ := pj_pr_inv h
  obtain ⟨e9, h⟩ := pj_pe_inv h
  rw [e1, e0, e9]
  exact mj_wp_sub (mj_sub_cons g0 (mj_sub_cons g1 (mj_sub_cons g2 (mj_sub_nil hd)))) (hf _ _ _ _ _ _ _ h)
set_option maxRecDepth 100000 in
theorem pz_X12_calibrate {lf : pj_Z → mj_M} (hT : pj_Lt pj_TR lf) : pj_Cok ic_P (mj_R ic_P 1) 12101 ie_X12_calibrate.1 (pm_OK lf pm_rI) lf px_X12_calibrate := by
  exact pm_cok (c := px_X12_calibrate) hT (pm_in_ok (L := [(8, 12, 1, 2, true), (15, 12, 2, 2, true), (19, 12, 3, 2, true), (259, 12, 0, 0, false), (519, 12, 23, 0, false)]) (f := mj_pF ic_P 12101) (by decide +kernel)) (fun _ _ h => by cases h) (pm_inL_ok (L := [(942, 23)]) (f := mj_pL ic_P 12101) (by decide +kernel)) (fun _ _ h => by cases h) rfl rfl ⟨by decide, rfl⟩ pm_mI (pj_as_all (p := pm_Cl 1 12101 ie_X12_calibrate.1 lf (pm_OK lf pm_rI)) (List.forall_mem_cons.mpr ⟨fun _ _ lv st z K a hK h => pc_X12_isIn hT (by decide) (ix := 568) rfl rfl hK h, (List.forall_mem_cons.mpr ⟨fun _ _ lv st z K a hK h => pc_X12_isIn hT (by decide) (ix := 568) rfl rfl hK h, (fun _ h => by cases h)⟩)⟩)) (fun _ h => by cases h)
set_option maxRecDepth 100000 in
theorem pb_X12_calibrate : pm_bks ie_X12_calibrate.1.2.2.2.2 pk_X12_calibrate = true := by decide +kernel
set_option maxRecDepth 100000 in
theorem pg_X12_calibrate_57 {lf : pj_Z → mj_M} (hT : pj_Lt pj_TR lf) : ∀ (a1 : Int32) (a2 : Int32) (b1 : Int32) (s : Nat → Int32) (l : Nat → Int64) (x : Nat → Int32) (y : Nat → Int64) (a : Int32 × pj_Z), pl_X12_calibrate_57 a1 a2 b1 s l x y = some a → pm_Gd 1 12101 ie_X12_calibrate.1 pm_rI lf 57 [(0, .ref 124), (1, .int a1), (2, .int a2)] [.int b1, .ref 124] (s, l, x, y) a := by
  intro a1 a2 b1 s l x y a h
  exact pj_bl_ok (pz_X12_calibrate hT) (fun t lv st z hd h => pj_rn_ok (pz_X12_calibrate hT) (pm_bks_ok pb_X12_calibrate) (fun _ _ h => by cases h) 60 t lv st z hd h) [(57, .putfield 259, 3), (60, .aload_n 0, 1), (61, .getfield 259, 3), (64, .ifCond .le 5, 3)] 57 [(0, pj_O (124, 0)), (1, pj_I a1), (2, pj_I a2)] [pj_I b1, pj_O (124, 0)] (s, l, x, y) (pm_bks_ok pb_X12_calibrate _ _ rfl) (pm_ndb_ok rfl) ((pq_X12_calibrate_57  a1 a2 b1 s l x y).symm.trans h)
set_option maxRecDepth 100000 in
theorem pm_X12_calibrate {lf : pj_Z → mj_M} (hT : pj_Lt pj_TR lf) (a1 : Int32) (a2 : Int32) (s : Nat → Int32) (l : Nat → Int64) (x : Nat → Int32) (y : Nat → Int64) (a : Int32 × pj_Z) (h : pf_X12_calibrate a1 a2 s l x y = some a) : mj_R ic_P 2 12101 [.ref 124, .int a1, .int a2] (lf (s, l, x, y)) (pm_rI a.1) (lf a.2) := by
  refine pm_main (Y := ie_X12_calibrate.1) rfl (Nat.le_of_ble_eq_true rfl) ?_
  exact pj_bl_ok (pz_X12_calibrate hT) (fun t lv st z hd h => pj_rn_ok (pz_X12_calibrate hT) (pm_bks_ok pb_X12_calibrate) (pj_as_all (p := pm_Ex 1 12101 ie_X12_calibrate.1 pm_rI lf a) (List.forall_mem_cons.mpr ⟨pu_X12_calibrate_57 _ (fun c0 c1 c2 s l x y h => pg_X12_calibrate_57 hT c0 c1 c2 s l x y _ h), (fun _ h => by cases h)⟩)) 60 t lv st z hd h) [(0, .iload_n 1, 1), (1, .i2l, 1), (2, .lconst 0, 1), (3, .ldc2_w 942, 3), (6, .invokestatic 568, 3), (9, .istore_n 3, 1), (10, .aload_n 0, 1), (11, .iload_n 3, 1), (12, .ifCond .ne 7, 3)] 0 [(0, pj_O (124, 0)), (1, pj_I a1), (2, pj_I a2)] [] (s, l, x, y) (pm_bks_ok pb_X12_calibrate _ _ rfl) (pm_ndb_ok rfl) ((pq_X12_calibrate_m a1 a2 s l x y).symm.trans h)
abbrev ph_X12_calibrate {A : Type} : List pj_V → pj_Z → (List pj_V → pj_Z → Option A) → Option A := fun st z K => pj_pi st fun a2 st => pj_pi st fun a1 st => pj_pr st 124 0 fun st => pj_ps st (pj_b (pf_X12_calibrate a1 a2 z.1 z.2.1 z.2.2.1 z.2.2.2) fun r s l x y => K (pj_I r :: st) (s, l, x, y))
set_option maxRecDepth 100000 in
theorem pc_X12_calibrate {A : Type} {OK : A → Option Value → mj_M → Prop} {d j pc ix : Nat} {Y : mj_Y} {lf : pj_Z → mj_M} (hT : pj_Lt pj_TR lf) (hd : 2 ≤ d) (hl : mj_lk Y.2.2.2.2 pc = some (.invokevirtual ix, 3)) (hg : mj_pG ic_P j ix = some (12101, 2, some 12)) {lv : List (Nat × Value)} {st : List pj_V} {z : pj_Z} {K : List pj_V → pj_Z → Option A} {a : A} (hK : ∀ st z, K st z = some a → pj_Gd ic_P (mj_R ic_P d) j Y OK lf (pc + 3) lv (pj_es st) z a) (h : ph_X12_calibrate st z K = some a) : pj_Gd ic_P (mj_R ic_P d) j Y OK lf pc lv (pj_es st) z a := by
  obtain ⟨a2, r2, e2, h⟩ := pj_pi_inv h
  obtain ⟨a1, r1, e1, h⟩ := pj_pi_inv h
  obtain ⟨r0, e0, h⟩ := pj_pr_inv h
  obtain ⟨hs, h⟩ := pj_ps_inv h
  obtain ⟨q, hq, h⟩ := pj_b_inv h
  exact pm_cv (o := 124) hl hg [.int a1, .int a2] rfl (by rw [e2, e1, e0]; rfl) hs (by decide) ((hT.2 124 _ rfl).1.2 z 0 (by decide)) (pm_rI q.1) hd (pm_X12_calibrate hT a1 a2 z.1 z.2.1 z.2.2.1 z.2.2.2 q hq) rfl (hK _ _ h)
abbrev pe_X12_cut_20 (f : Int32 → Int32 → pj_F (Int32 × pj_Z)) : pj_K (Int32 × pj_Z) := fun lv st z => pj_xr lv 0 124 0 <| pj_xi lv 1 fun a1 => pj_pi st fun b1 st => pj_pr st 124 0 fun st => pj_pe st (f a1 b1 z.1 z.2.1 z.2.2.1 z.2.2.2)
abbrev px_X12_cut : pj_C (Int32 × pj_Z) := (pj_TR, (pj_as [(40, 12, 11, 0, false), (259, 12, 0, 0, false), (519, 12, 23, 0, false)]), (fun _ => none), (pj_as [(687, 1000), (944, (-1))]), (fun _ => none), ic_X, 2, 1, pj_mI, (pj_as [(9, ph_X12_isIn), (37, ph_X12_cutNow)]), fun _ => false)
abbrev pk_X12_cut : List (Nat × List (Nat × Instr × Nat)) := [(0, [(0, .aload_n 0, 1), (1, .iload_n 1, 1), (2, .i2l, 1), (3, .ldc2_w 944, 3), (6, .ldc2_w 687, 3), (9, .invokestatic 568, 3), (12, .ifCond .ne 7, 3)]), (15, [(15, .iconst 1, 1), (16, .goto 4, 3)]), (19, [(19, .iconst 0, 1)]), (20, [(20, .putfield 259, 3), (23, .aload_n 0, 1), (24, .getfield 259, 3), (27, .ifCond .le 5, 3)]), (30, [(30, .iconst 0, 1), (31, .ireturn, 1)]), (32, [(32, .iload_n 1, 1), (33, .ifCond .ne 10, 3)]), (36, [(36, .aload_n 0, 1), (37, .invokevirtual 542, 3), (40, .goto 8, 3)]), (43, [(43, .aload_n 0, 1), (44, .iload_n 1, 1), (45, .putfield 40, 3)]), (48, [(48, .aload_n 0, 1), (49, .getfield 519, 3), (52, .ireturn, 1)])]
set_option maxRecDepth 100000 in
theorem pq_X12_cut_20 (a1 : Int32) (b1 : Int32) (s : Nat → Int32) (l : Nat → Int64) (x : Nat → Int32) (y : Nat → Int64) : pl_X12_cut_20 a1 b1 s l x y = pj_bl px_X12_cut (pj_rn px_X12_cut (pj_as pk_X12_cut) (fun _ => none) 60) [(20, .putfield 259, 3), (23, .aload_n 0, 1), (24, .getfield 259, 3), (27, .ifCond .le 5, 3)] 20 [(0, pj_O (124, 0)), (1, pj_I a1)] [pj_I b1, pj_O (124, 0)] (s, l, x, y) := rfl
set_option maxRecDepth 100000 in
theorem pq_X12_cut_m (a1 : Int32) (s : Nat → Int32) (l : Nat → Int64) (x : Nat → Int32) (y : Nat → Int64) : pf_X12_cut a1 s l x y = pj_bl px_X12_cut (pj_rn px_X12_cut (pj_as pk_X12_cut) (pj_as [(20, pe_X12_cut_20 (pl_X12_cut_20))]) 60) [(0, .aload_n 0, 1), (1, .iload_n 1, 1), (2, .i2l, 1), (3, .ldc2_w 944, 3), (6, .ldc2_w 687, 3), (9, .invokestatic 568, 3), (12, .ifCond .ne 7, 3)] 0 [(0, pj_O (124, 0)), (1, pj_I a1)] [] (s, l, x, y) := rfl
theorem pu_X12_cut_20 {lf : pj_Z → mj_M} {a : Int32 × pj_Z} (f : Int32 → Int32 → pj_F (Int32 × pj_Z)) (hf : ∀ (a1 : Int32) (b1 : Int32) (s : Nat → Int32) (l : Nat → Int64) (x : Nat → Int32) (y : Nat → Int64), f a1 b1 s l x y = some a → pm_Gd 3 12102 ie_X12_cut.1 pm_rI lf 20 [(0, .ref 124), (1, .int a1)] [.int b1, .ref 124] (s, l, x, y) a) : pm_Ex 3 12102 ie_X12_cut.1 pm_rI lf a 20 (pe_X12_cut_20 f) := by
  intro lv st z hd h
  obtain ⟨g0, h⟩ := pj_xr_inv h
  obtain ⟨a1, g1, h⟩ := pj_xi_inv h
  obtain ⟨b1, r1, e1, h⟩ := pj_pi_inv h
  obtain ⟨r0, e0, h⟩ := pj_pr_inv h
  obtain ⟨e9, h⟩ := pj_pe_inv h
  rw [e1, e0, e9]
  exact mj_wp_sub (mj_sub_cons g0 (mj_sub_cons g1 (mj_sub_nil hd))) (hf _ _ _ _ _ _ h)
set_option maxRecDepth 100000 in
theorem pz_X12_cut {lf : pj_Z → mj_M} (hT : pj_Lt pj_TR lf) : pj_Cok ic_P (mj_R ic_P 3) 12102 ie_X12_cut.1 (pm_OK lf pm_rI) lf px_X12_cut := by
  exact pm_cok (c := px_X12_cut) hT (pm_in_ok (L := [(40, 12, 11, 0, false), (259, 12, 0, 0, false), (519, 12, 23, 0, false)]) (f := mj_pF ic_P 12102) (by decide +kernel)) (fun _ _ h => by cases h) (pm_inL_ok (L := [(687, 1000), (944, (-1))]) (f := mj_pL ic_P 12102) (by decide +kernel)) (fun _ _ h => by cases h) rfl rfl ⟨by decide, rfl⟩ pm_mI (pj_as_all (p := pm_Cl 3 12102 ie_X12_cut.1 lf (pm_OK lf pm_rI)) (List.forall_mem_cons.mpr ⟨fun _ _ lv st z K a hK h => pc_X12_isIn hT (by decide) (ix := 568) rfl rfl hK h, (List.forall_mem_cons.mpr ⟨fun _ _ lv st z K a hK h => pc_X12_cutNow hT (by decide) (ix := 542) rfl rfl hK h, (fun _ h => by cases h)⟩)⟩)) (fun _ h => by cases h)
set_option maxRecDepth 100000 in
theorem pb_X12_cut : pm_bks ie_X12_cut.1.2.2.2.2 pk_X12_cut = true := by decide +kernel
set_option maxRecDepth 100000 in
theorem pg_X12_cut_20 {lf : pj_Z → mj_M} (hT : pj_Lt pj_TR lf) : ∀ (a1 : Int32) (b1 : Int32) (s : Nat → Int32) (l : Nat → Int64) (x : Nat → Int32) (y : Nat → Int64) (a : Int32 × pj_Z), pl_X12_cut_20 a1 b1 s l x y = some a → pm_Gd 3 12102 ie_X12_cut.1 pm_rI lf 20 [(0, .ref 124), (1, .int a1)] [.int b1, .ref 124] (s, l, x, y) a := by
  intro a1 b1 s l x y a h
  exact pj_bl_ok (pz_X12_cut hT) (fun t lv st z hd h => pj_rn_ok (pz_X12_cut hT) (pm_bks_ok pb_X12_cut) (fun _ _ h => by cases h) 60 t lv st z hd h) [(20, .putfield 259, 3), (23, .aload_n 0, 1), (24, .getfield 259, 3), (27, .ifCond .le 5, 3)] 20 [(0, pj_O (124, 0)), (1, pj_I a1)] [pj_I b1, pj_O (124, 0)] (s, l, x, y) (pm_bks_ok pb_X12_cut _ _ rfl) (pm_ndb_ok rfl) ((pq_X12_cut_20  a1 b1 s l x y).symm.trans h)
set_option maxRecDepth 100000 in
theorem pm_X12_cut {lf : pj_Z → mj_M} (hT : pj_Lt pj_TR lf) (a1 : Int32) (s : Nat → Int32) (l : Nat → Int64) (x : Nat → Int32) (y : Nat → Int64) (a : Int32 × pj_Z) (h : pf_X12_cut a1 s l x y = some a) : mj_R ic_P 4 12102 [.ref 124, .int a1] (lf (s, l, x, y)) (pm_rI a.1) (lf a.2) := by
  refine pm_main (Y := ie_X12_cut.1) rfl (Nat.le_of_ble_eq_true rfl) ?_
  exact pj_bl_ok (pz_X12_cut hT) (fun t lv st z hd h => pj_rn_ok (pz_X12_cut hT) (pm_bks_ok pb_X12_cut) (pj_as_all (p := pm_Ex 3 12102 ie_X12_cut.1 pm_rI lf a) (List.forall_mem_cons.mpr ⟨pu_X12_cut_20 _ (fun c0 c1 s l x y h => pg_X12_cut_20 hT c0 c1 s l x y _ h), (fun _ h => by cases h)⟩)) 60 t lv st z hd h) [(0, .aload_n 0, 1), (1, .iload_n 1, 1), (2, .i2l, 1), (3, .ldc2_w 944, 3), (6, .ldc2_w 687, 3), (9, .invokestatic 568, 3), (12, .ifCond .ne 7, 3)] 0 [(0, pj_O (124, 0)), (1, pj_I a1)] [] (s, l, x, y) (pm_bks_ok pb_X12_cut _ _ rfl) (pm_ndb_ok rfl) ((pq_X12_cut_m a1 s l x y).symm.trans h)
abbrev ph_X12_cut {A : Type} : List pj_V → pj_Z → (List pj_V → pj_Z → Option A) → Option A := fun st z K => pj_pi st fun a1 st => pj_pr st 124 0 fun st => pj_ps st (pj_b (pf_X12_cut a1 z.1 z.2.1 z.2.2.1 z.2.2.2) fun r s l x y => K (pj_I r :: st) (s, l, x, y))
set_option maxRecDepth 100000 in
theorem pc_X12_cut {A : Type} {OK : A → Option Value → mj_M → Prop} {d j pc ix : Nat} {Y : mj_Y} {lf : pj_Z → mj_M} (hT : pj_Lt pj_TR lf) (hd : 4 ≤ d) (hl : mj_lk Y.2.2.2.2 pc = some (.invokevirtual ix, 3)) (hg : mj_pG ic_P j ix = some (12102, 1, some 12)) {lv : List (Nat × Value)} {st : List pj_V} {z : pj_Z} {K : List pj_V → pj_Z → Option A} {a : A} (hK : ∀ st z, K st z = some a → pj_Gd ic_P (mj_R ic_P d) j Y OK lf (pc + 3) lv (pj_es st) z a) (h : ph_X12_cut st z K = some a) : pj_Gd ic_P (mj_R ic_P d) j Y OK lf pc lv (pj_es st) z a := by
  obtain ⟨a1, r1, e1, h⟩ := pj_pi_inv h
  obtain ⟨r0, e0, h⟩ := pj_pr_inv h
  obtain ⟨hs, h⟩ := pj_ps_inv h
  obtain ⟨q, hq, h⟩ := pj_b_inv h
  exact pm_cv (o := 124) hl hg [.int a1] rfl (by rw [e1, e0]; rfl) hs (by decide) ((hT.2 124 _ rfl).1.2 z 0 (by decide)) (pm_rI q.1) hd (pm_X12_cut hT a1 z.1 z.2.1 z.2.2.1 z.2.2.2 q hq) rfl (hK _ _ h)
abbrev pe_X12_noWord_22 (f : pj_F (Int32 × pj_Z)) : pj_K (Int32 × pj_Z) := fun lv st z => pj_pe st (f  z.1 z.2.1 z.2.2.1 z.2.2.2)
abbrev px_X12_noWord : pj_C (Int32 × pj_Z) := (pj_TR, (fun _ => none), (fun _ => none), (pj_as [(946, 54)]), (fun _ => none), ic_X, 2, 2, pj_mI, (pj_as [(4, ph_X12_isIn), (16, ph_X12_isIn)]), fun _ => false)
abbrev pk_X12_noWord : List (Nat × List (Nat × Instr × Nat)) := [(0, [(0, .iload_n 0, 1), (1, .i2l, 1), (2, .lconst 0, 1), (3, .lconst 1, 1), (4, .invokestatic 568, 3), (7, .ifCond .eq 15, 3)]), (10, [(10, .iload_n 1, 1), (11, .i2l, 1), (12, .lconst 0, 1), (13, .ldc2_w 946, 3), (16, .invokestatic 568, 3), (19, .ifCond .ne 7, 3)]), (22, [(22, .iconst 1, 1), (23, .goto 4, 3)]), (26, [(26, .iconst 0, 1)]), (27, [(27, .ireturn, 1)])]
set_option maxRecDepth 100000 in
theorem pq_X12_noWord_22  (s : Nat → Int32) (l : Nat → Int64) (x : Nat → Int32) (y : Nat → Int64) : pl_X12_noWord_22 s l x y = pj_bl px_X12_noWord (pj_rn px_X12_noWord (pj_as pk_X12_noWord) (fun _ => none) 60) [(22, .iconst 1, 1), (23, .goto 4, 3)] 22 [] [] (s, l, x, y) := rfl
set_option maxRecDepth 100000 in
theorem pq_X12_noWord_m (a0 : Int32) (a1 : Int32) (s : Nat → Int32) (l : Nat → Int64) (x : Nat → Int32) (y : Nat → Int64) : pf_X12_noWord a0 a1 s l x y = pj_bl px_X12_noWord (pj_rn px_X12_noWord (pj_as pk_X12_noWord) (pj_as [(22, pe_X12_noWord_22 (pl_X12_noWord_22))]) 60) [(0, .iload_n 0, 1), (1, .i2l, 1), (2, .lconst 0, 1), (3, .lconst 1, 1), (4, .invokestatic 568, 3), (7, .ifCond .eq 15, 3)] 0 [(0, pj_I a0), (1, pj_I a1)] [] (s, l, x, y) := rfl
theorem pu_X12_noWord_22 {lf : pj_Z → mj_M} {a : Int32 × pj_Z} (f : pj_F (Int32 × pj_Z)) (hf : ∀  (s : Nat → Int32) (l : Nat → Int64) (x : Nat → Int32) (y : Nat → Int64), f  s l x y = some a → pm_Gd 1 12103 ie_X12_noWord.1 pm_rI lf 22 [] [] (s, l, x, y) a) : pm_Ex 1 12103 ie_X12_noWord.1 pm_rI lf a 22 (pe_X12_noWord_22 f) := by
  intro lv st z hd h
  obtain ⟨e9, h⟩ := pj_pe_inv h
  rw [e9]
  exact mj_wp_sub (mj_sub_nil hd) (hf  _ _ _ _ h)
set_option maxRecDepth 100000 in
theorem pz_X12_noWord {lf : pj_Z → mj_M} (hT : pj_Lt pj_TR lf) : pj_Cok ic_P (mj_R ic_P 1) 12103 ie_X12_noWord.1 (pm_OK lf pm_rI) lf px_X12_noWord := by
  exact pm_cok (c := px_X12_noWord) hT (fun _ _ h => by cases h) (fun _ _ h => by cases h) (pm_inL_ok (L := [(946, 54)]) (f := mj_pL ic_P 12103) (by decide +kernel)) (fun _ _ h => by cases h) rfl rfl ⟨by decide, rfl⟩ pm_mI (pj_as_all (p := pm_Cl 1 12103 ie_X12_noWord.1 lf (pm_OK lf pm_rI)) (List.forall_mem_cons.mpr ⟨fun _ _ lv st z K a hK h => pc_X12_isIn hT (by decide) (ix := 568) rfl rfl hK h, (List.forall_mem_cons.mpr ⟨fun _ _ lv st z K a hK h => pc_X12_isIn hT (by decide) (ix := 568) rfl rfl hK h, (fun _ h => by cases h)⟩)⟩)) (fun _ h => by cases h)
set_option maxRecDepth 100000 in
theorem pb_X12_noWord : pm_bks ie_X12_noWord.1.2.2.2.2 pk_X12_noWord = true := by decide +kernel
set_option maxRecDepth 100000 in
theorem pg_X12_noWord_22 {lf : pj_Z → mj_M} (hT : pj_Lt pj_TR lf) : ∀  (s : Nat → Int32) (l : Nat → Int64) (x : Nat → Int32) (y : Nat → Int64) (a : Int32 × pj_Z), pl_X12_noWord_22 s l x y = some a → pm_Gd 1 12103 ie_X12_noWord.1 pm_rI lf 22 [] [] (s, l, x, y) a := by
  intro  s l x y a h
  exact pj_bl_ok (pz_X12_noWord hT) (fun t lv st z hd h => pj_rn_ok (pz_X12_noWord hT) (pm_bks_ok pb_X12_noWord) (fun _ _ h => by cases h) 60 t lv st z hd h) [(22, .iconst 1, 1), (23, .goto 4, 3)] 22 [] [] (s, l, x, y) (pm_bks_ok pb_X12_noWord _ _ rfl) (pm_ndb_ok rfl) ((pq_X12_noWord_22   s l x y).symm.trans h)
set_option maxRecDepth 100000 in
theorem pm_X12_noWord {lf : pj_Z → mj_M} (hT : pj_Lt pj_TR lf) (a0 : Int32) (a1 : Int32) (s : Nat → Int32) (l : Nat → Int64) (x : Nat → Int32) (y : Nat → Int64) (a : Int32 × pj_Z) (h : pf_X12_noWord a0 a1 s l x y = some a) : mj_R ic_P 2 12103 [.int a0, .int a1] (lf (s, l, x, y)) (pm_rI a.1) (lf a.2) := by
  refine pm_main (Y := ie_X12_noWord.1) rfl (Nat.le_of_ble_eq_true rfl) ?_
  exact pj_bl_ok (pz_X12_noWord hT) (fun t lv st z hd h => pj_rn_ok (pz_X12_noWord hT) (pm_bks_ok pb_X12_noWord) (pj_as_all (p := pm_Ex 1 12103 ie_X12_noWord.1 pm_rI lf a) (List.forall_mem_cons.mpr ⟨pu_X12_noWord_22 _ (fun  s l x y h => pg_X12_noWord_22 hT  s l x y _ h), (fun _ h => by cases h)⟩)) 60 t lv st z hd h) [(0, .iload_n 0, 1), (1, .i2l, 1), (2, .lconst 0, 1), (3, .lconst 1, 1), (4, .invokestatic 568, 3), (7, .ifCond .eq 15, 3)] 0 [(0, pj_I a0), (1, pj_I a1)] [] (s, l, x, y) (pm_bks_ok pb_X12_noWord _ _ rfl) (pm_ndb_ok rfl) ((pq_X12_noWord_m a0 a1 s l x y).symm.trans h)
abbrev ph_X12_noWord {A : Type} : List pj_V → pj_Z → (List pj_V → pj_Z → Option A) → Option A := fun st z K => pj_pi st fun a1 st => pj_pi st fun a0 st => pj_ps st (pj_b (pf_X12_noWord a0 a1 z.1 z.2.1 z.2.2.1 z.2.2.2) fun r s l x y => K (pj_I r :: st) (s, l, x, y))
set_option maxRecDepth 100000 in
theorem pc_X12_noWord {A : Type} {OK : A → Option Value → mj_M → Prop} {d j pc ix : Nat} {Y : mj_Y} {lf : pj_Z → mj_M} (hT : pj_Lt pj_TR lf) (hd : 2 ≤ d) (hl : mj_lk Y.2.2.2.2 pc = some (.invokestatic ix, 3)) (hg : mj_pG ic_P j ix = some (12103, 2, none)) {lv : List (Nat × Value)} {st : List pj_V} {z : pj_Z} {K : List pj_V → pj_Z → Option A} {a : A} (hK : ∀ st z, K st z = some a → pj_Gd ic_P (mj_R ic_P d) j Y OK lf (pc + 3) lv (pj_es st) z a) (h : ph_X12_noWord st z K = some a) : pj_Gd ic_P (mj_R ic_P d) j Y OK lf pc lv (pj_es st) z a := by
  obtain ⟨a1, r1, e1, h⟩ := pj_pi_inv h
  obtain ⟨a0, r0, e0, h⟩ := pj_pi_inv h
  obtain ⟨hs, h⟩ := pj_ps_inv h
  obtain ⟨q, hq, h⟩ := pj_b_inv h
  exact pm_cs hl hg [.int a0, .int a1] rfl (by rw [e1, e0]; rfl) hs (pm_rI q.1) hd (pm_X12_noWord hT a0 a1 z.1 z.2.1 z.2.2.1 z.2.2.2 q hq) rfl (hK _ _ h)
abbrev pe_X12_spoil_25 (f : Int32 → Int32 → Int32 → Int32 → pj_F (Int32 × pj_Z)) : pj_K (Int32 × pj_Z) := fun lv st z => pj_xr lv 0 124 0 <| pj_xi lv 1 fun a1 => pj_xi lv 2 fun a2 => pj_xi lv 3 fun a3 => pj_pi st fun b1 st => pj_pr st 124 0 fun st => pj_pe st (f a1 a2 a3 b1 z.1 z.2.1 z.2.2.1 z.2.2.2)
abbrev px_X12_spoil : pj_C (Int32 × pj_Z) := (pj_TR, (pj_as [(37, 12, 9, 2, true), (259, 12, 0, 0, false), (519, 12, 23, 0, false)]), (fun _ => none), (fun _ => none), (fun _ => none), ic_X, 5, 1, pj_mI, (pj_as [(3, ph_X12_noWord)]), fun _ => false)
abbrev pk_X12_spoil : List (Nat × List (Nat × Instr × Nat)) := [(0, [(0, .aload_n 0, 1), (1, .iload_n 1, 1), (2, .iload_n 2, 1), (3, .invokestatic 948, 3), (6, .ifCond .eq 7, 3)]), (9, [(9, .iconst 1, 1), (10, .goto 15, 3)]), (13, [(13, .aload_n 0, 1), (14, .getfield 519, 3), (17, .ifCond .eq 7, 3)]), (20, [(20, .iconst 2, 1), (21, .goto 4, 3)]), (24, [(24, .iconst 0, 1)]), (25, [(25, .putfield 259, 3), (28, .aload_n 0, 1), (29, .getfield 259, 3), (32, .ifCond .le 5, 3)]), (35, [(35, .iconst 0, 1), (36, .ireturn, 1)]), (37, [(37, .aload_n 0, 1), (38, .getfield 37, 3), (41, .bipush 55, 2), (43, .iload_n 1, 1), (44, .imul, 1), (45, .iload_n 2, 1), (46, .iadd, 1), (47, .iaload, 1), (48, .istore 4, 2), (50, .aload_n 0, 1), (51, .getfield 37, 3), (54, .bipush 55, 2), (56, .iload_n 1, 1), (57, .imul, 1), (58, .iload_n 2, 1), (59, .iadd, 1), (60, .iload_n 3, 1), (61, .iastore, 1), (62, .iload 4, 2), (64, .ireturn, 1)])]
set_option maxRecDepth 100000 in
theorem pq_X12_spoil_25 (a1 : Int32) (a2 : Int32) (a3 : Int32) (b1 : Int32) (s : Nat → Int32) (l : Nat → Int64) (x : Nat → Int32) (y : Nat → Int64) : pl_X12_spoil_25 a1 a2 a3 b1 s l x y = pj_bl px_X12_spoil (pj_rn px_X12_spoil (pj_as pk_X12_spoil) (fun _ => none) 60) [(25, .putfield 259, 3), (28, .aload_n 0, 1), (29, .getfield 259, 3), (32, .ifCond .le 5, 3)] 25 [(0, pj_O (124, 0)), (1, pj_I a1), (2, pj_I a2), (3, pj_I a3)] [pj_I b1, pj_O (124, 0)] (s, l, x, y) := rfl
set_option maxRecDepth 100000 in
theorem pq_X12_spoil_m (a1 : Int32) (a2 : Int32) (a3 : Int32) (s : Nat → Int32) (l : Nat → Int64) (x : Nat → Int32) (y : Nat → Int64) : pf_X12_spoil a1 a2 a3 s l x y = pj_bl px_X12_spoil (pj_rn px_X12_spoil (pj_as pk_X12_spoil) (pj_as [(25, pe_X12_spoil_25 (pl_X12_spoil_25))]) 60) [(0, .aload_n 0, 1), (1, .iload_n 1, 1), (2, .iload_n 2, 1), (3, .invokestatic 948, 3), (6, .ifCond .eq 7, 3)] 0 [(0, pj_O (124, 0)), (1, pj_I a1), (2, pj_I a2), (3, pj_I a3)] [] (s, l, x, y) := rfl
theorem pu_X12_spoil_25 {lf : pj_Z → mj_M} {a : Int32 × pj_Z} (f : Int32 → Int32 → Int32 → Int32 → pj_F (Int32 × pj_Z)) (hf : ∀ (a1 : Int32) (a2 : Int32) (a3 : Int32) (b1 : Int32) (s : Nat → Int32) (l : Nat → Int64) (x : Nat → Int32) (y : Nat → Int64), f a1 a2 a3 b1 s l x y = some a → pm_Gd 2 12104 ie_X12_spoil.1 pm_rI lf 25 [(0, .ref 124), (1, .int a1), (2, .int a2), (3, .int a3)] [.int b1, .ref 124] (s, l, x, y) a) : pm_Ex 2 12104 ie_X12_spoil.1 pm_rI lf a 25 (pe_X12_spoil_25 f) := by
  intro lv st z hd h
  obtain ⟨g0, h⟩ := pj_xr_inv h
  obtain ⟨a1, g1, h⟩ := pj_xi_inv h
  obtain ⟨a2, g2, h⟩ := pj_xi_inv h
  obtain ⟨a3, g3, h⟩ := pj_xi_inv h
  obtain ⟨b1, r1, e1, h⟩ := pj_pi_inv h
  obtain ⟨r0, e0, h⟩ := pj_pr_inv h
  obtain ⟨e9, h⟩ := pj_pe_inv h
  rw [e1, e0, e9]
  exact mj_wp_sub (mj_sub_cons g0 (mj_sub_cons g1 (mj_sub_cons g2 (mj_sub_cons g3 (mj_sub_nil hd))))) (hf _ _ _ _ _ _ _ _ h)
set_option maxRecDepth 100000 in
theorem pz_X12_spoil {lf : pj_Z → mj_M} (hT : pj_Lt pj_TR lf) : pj_Cok ic_P (mj_R ic_P 2) 12104 ie_X12_spoil.1 (pm_OK lf pm_rI) lf px_X12_spoil := by
  exact pm_cok (c := px_X12_spoil) hT (pm_in_ok (L := [(37, 12, 9, 2, true), (259, 12, 0, 0, false), (519, 12, 23, 0, false)]) (f := mj_pF ic_P 12104) (by decide +kernel)) (fun _ _ h => by cases h) (fun _ _ h => by cases h) (fun _ _ h => by cases h) rfl rfl ⟨by decide, rfl⟩ pm_mI (pj_as_all (p := pm_Cl 2 12104 ie_X12_spoil.1 lf (pm_OK lf pm_rI)) (List.forall_mem_cons.mpr ⟨fun _ _ lv st z K a hK h => pc_X12_noWord hT (by decide) (ix := 948) rfl rfl hK h, (fun _ h => by cases h)⟩)) (fun _ h => by cases h)
set_option maxRecDepth 100000 in
theorem pb_X12_spoil : pm_bks ie_X12_spoil.1.2.2.2.2 pk_X12_spoil = true := by decide +kernel
set_option maxRecDepth 100000 in
theorem pg_X12_spoil_25 {lf : pj_Z → mj_M} (hT : pj_Lt pj_TR lf) : ∀ (a1 : Int32) (a2 : Int32) (a3 : Int32) (b1 : Int32) (s : Nat → Int32) (l : Nat → Int64) (x : Nat → Int32) (y : Nat → Int64) (a : Int32 × pj_Z), pl_X12_spoil_25 a1 a2 a3 b1 s l x y = some a → pm_Gd 2 12104 ie_X12_spoil.1 pm_rI lf 25 [(0, .ref 124), (1, .int a1), (2, .int a2), (3, .int a3)] [.int b1, .ref 124] (s, l, x, y) a := by
  intro a1 a2 a3 b1 s l x y a h
  exact pj_bl_ok (pz_X12_spoil hT) (fun t lv st z hd h => pj_rn_ok (pz_X12_spoil hT) (pm_bks_ok pb_X12_spoil) (fun _ _ h => by cases h) 60 t lv st z hd h) [(25, .putfield 259, 3), (28, .aload_n 0, 1), (29, .getfield 259, 3), (32, .ifCond .le 5, 3)] 25 [(0, pj_O (124, 0)), (1, pj_I a1), (2, pj_I a2), (3, pj_I a3)] [pj_I b1, pj_O (124, 0)] (s, l, x, y) (pm_bks_ok pb_X12_spoil _ _ rfl) (pm_ndb_ok rfl) ((pq_X12_spoil_25  a1 a2 a3 b1 s l x y).symm.trans h)
set_option maxRecDepth 100000 in
theorem pm_X12_spoil {lf : pj_Z → mj_M} (hT : pj_Lt pj_TR lf) (a1 : Int32) (a2 : Int32) (a3 : Int32) (s : Nat → Int32) (l : Nat → Int64) (x : Nat → Int32) (y : Nat → Int64) (a : Int32 × pj_Z) (h : pf_X12_spoil a1 a2 a3 s l x y = some a) : mj_R ic_P 3 12104 [.ref 124, .int a1, .int a2, .int a3] (lf (s, l, x, y)) (pm_rI a.1) (lf a.2) := by
  refine pm_main (Y := ie_X12_spoil.1) rfl (Nat.le_of_ble_eq_true rfl) ?_
  exact pj_bl_ok (pz_X12_spoil hT) (fun t lv st z hd h => pj_rn_ok (pz_X12_spoil hT) (pm_bks_ok pb_X12_spoil) (pj_as_all (p := pm_Ex 2 12104 ie_X12_spoil.1 pm_rI lf a) (List.forall_mem_cons.mpr ⟨pu_X12_spoil_25 _ (fun c0 c1 c2 c3 s l x y h => pg_X12_spoil_25 hT c0 c1 c2 c3 s l x y _ h), (fun _ h => by cases h)⟩)) 60 t lv st z hd h) [(0, .aload_n 0, 1), (1, .iload_n 1, 1), (2, .iload_n 2, 1), (3, .invokestatic 948, 3), (6, .ifCond .eq 7, 3)] 0 [(0, pj_O (124, 0)), (1, pj_I a1), (2, pj_I a2), (3, pj_I a3)] [] (s, l, x, y) (pm_bks_ok pb_X12_spoil _ _ rfl) (pm_ndb_ok rfl) ((pq_X12_spoil_m a1 a2 a3 s l x y).symm.trans h)
abbrev ph_X12_spoil {A : Type} : List pj_V → pj_Z → (List pj_V → pj_Z → Option A) → Option A := fun st z K => pj_pi st fun a3 st => pj_pi st fun a2 st => pj_pi st fun a1 st => pj_pr st 124 0 fun st => pj_ps st (pj_b (pf_X12_spoil a1 a2 a3 z.1 z.2.1 z.2.2.1 z.2.2.2) fun r s l x y => K (pj_I r :: st) (s, l, x, y))
set_option maxRecDepth 100000 in
theorem pc_X12_spoil {A : Type} {OK : A → Option Value → mj_M → Prop} {d j pc ix : Nat} {Y : mj_Y} {lf : pj_Z → mj_M} (hT : pj_Lt pj_TR lf) (hd : 3 ≤ d) (hl : mj_lk Y.2.2.2.2 pc = some (.invokevirtual ix, 3)) (hg : mj_pG ic_P j ix = some (12104, 3, some 12)) {lv : List (Nat × Value)} {st : List pj_V} {z : pj_Z} {K : List pj_V → pj_Z → Option A} {a : A} (hK : ∀ st z, K st z = some a → pj_Gd ic_P (mj_R ic_P d) j Y OK lf (pc + 3) lv (pj_es st) z a) (h : ph_X12_spoil st z K = some a) : pj_Gd ic_P (mj_R ic_P d) j Y OK lf pc lv (pj_es st) z a := by
  obtain ⟨a3, r3, e3, h⟩ := pj_pi_inv h
  obtain ⟨a2, r2, e2, h⟩ := pj_pi_inv h
  obtain ⟨a1, r1, e1, h⟩ := pj_pi_inv h
  obtain ⟨r0, e0, h⟩ := pj_pr_inv h
  obtain ⟨hs, h⟩ := pj_ps_inv h
  obtain ⟨q, hq, h⟩ := pj_b_inv h
  exact pm_cv (o := 124) hl hg [.int a1, .int a2, .int a3] rfl (by rw [e3, e2, e1, e0]; rfl) hs (by decide) ((hT.2 124 _ rfl).1.2 z 0 (by decide)) (pm_rI q.1) hd (pm_X12_spoil hT a1 a2 a3 z.1 z.2.1 z.2.2.1 z.2.2.2 q hq) rfl (hK _ _ h)

/-! METHODS 13, printed by gen_meth.py -/
abbrev pe_X11_serveCalibration_82 (f : pj_F (Int32 × pj_Z)) : pj_K (Int32 × pj_Z) := fun lv st z => pj_pe st (f  z.1 z.2.1 z.2.2.1 z.2.2.2)
abbrev px_X11_serveCalibration : pj_C (Int32 × pj_Z) := ((pj_as [(0, 11, 17, 1, 0, true, 0, [(2, 1), (2, 20), (2, 58), (2, 68), (2, 82), (2, 83), (2, 85), (2, 96), (2, 102), (2, 106), (2, 122), (0, 93), (0, 94), (0, 95), (1, 1), (1, 2), (0, 96)]), (1, 4, 10, 1, 0, true, 0, [(2, 2), (2, 3), (2, 8), (2, 11), (2, 14), (2, 17), (2, 18), (2, 19), (0, 44), (1, 3)]), (2, 100, 24, 1, 0, true, 10000, []), (58, 2, 19, 1, 0, true, 0, [(0, 19), (0, 20), (1, 4), (1, 5), (1, 6), (1, 7), (0, 21), (0, 22), (0, 23), (0, 24), (0, 25), (2, 59), (2, 63), (0, 26), (1, 8), (1, 9), (1, 10), (0, 27), (0, 28)]), (96, 8, 18, 1, 0, true, 0, [(2, 97), (0, 62), (1, 18), (0, 63), (0, 64), (0, 65), (0, 66), (1, 19), (0, 67), (0, 68), (2, 98), (0, 69), (2, 99), (1, 20), (0, 70), (1, 21), (2, 100), (2, 101)]), (97, 100, 67, 1, 0, true, 37000, [])]), (pj_as [(10, 11, 0, 2, true), (26, 11, 2, 2, true), (61, 11, 7, 2, true), (127, 2, 0, 0, false), (287, 4, 0, 2, true), (929, 8, 0, 2, true), (1021, 8, 4, 3, false)]), (fun _ => none), (fun _ => none), (fun _ => none), ic_X, 3, 1, pj_mI, (pj_as [(76, ph_X4_isNumber), (101, ph_X8_say), (110, ph_X8_say)]), fun _ => false)
abbrev pk_X11_serveCalibration : List (Nat × List (Nat × Instr × Nat)) := [(0, [(0, .aload_n 0, 1), (1, .getfield 61, 3), (4, .getfield 1021, 3), (7, .ifCond .ne 6, 3)]), (10, [(10, .bipush 51, 2), (12, .ireturn, 1)]), (13, [(13, .aload_n 0, 1), (14, .getfield 26, 3), (17, .getfield 127, 3), (20, .ifCond .eq 6, 3)]), (23, [(23, .bipush 34, 2), (25, .ireturn, 1)]), (26, [(26, .aload_n 0, 1), (27, .getfield 61, 3), (30, .getfield 929, 3), (33, .iconst 5, 1), (34, .iaload, 1), (35, .bipush 16, 2), (37, .ishl, 1), (38, .aload_n 0, 1), (39, .getfield 61, 3), (42, .getfield 929, 3), (45, .bipush 6, 2), (47, .iaload, 1), (48, .bipush 8, 2), (50, .ishl, 1), (51, .ior, 1), (52, .aload_n 0, 1), (53, .getfield 61, 3), (56, .getfield 929, 3), (59, .bipush 7, 2), (61, .iaload, 1), (62, .ior, 1), (63, .istore_n 2, 1), (64, .iload_n 1, 1), (65, .ifCond .lt 17, 3)]), (68, [(68, .iload_n 1, 1), (69, .bipush 24, 2), (71, .if_icmp .ge 11, 3)]), (74, [(74, .iload_n 1, 1), (75, .iload_n 2, 1), (76, .invokestatic 282, 3), (79, .ifCond .ne 6, 3)]), (82, [(82, .bipush 49, 2), (84, .ireturn, 1)]), (85, [(85, .aload_n 0, 1), (86, .getfield 10, 3), (89, .getfield 287, 3), (92, .iload_n 1, 1), (93, .iload_n 2, 1), (94, .iastore, 1), (95, .aload_n 0, 1), (96, .getfield 61, 3), (99, .bipush 123, 2), (101, .invokevirtual 941, 3), (104, .pop, 1), (105, .aload_n 0, 1), (106, .getfield 61, 3), (109, .iload_n 1, 1), (110, .invokevirtual 941, 3), (113, .ireturn, 1)])]
set_option maxRecDepth 100000 in
theorem pq_X11_serveCalibration_82   (s : Nat → Int32) (l : Nat → Int64) (x : Nat → Int32) (y : Nat → Int64) : pl_X11_serveCalibration_82 s l x y = pj_bl px_X11_serveCalibration (pj_rn px_X11_serveCalibration (pj_as pk_X11_serveCalibration) (fun _ => none) 60) [(82, .bipush 49, 2), (84, .ireturn, 1)] 82 [] [] (s, l, x, y) := rfl
set_option maxRecDepth 100000 in
theorem pq_X11_serveCalibration_m  (a1 : Int32) (s : Nat → Int32) (l : Nat → Int64) (x : Nat → Int32) (y : Nat → Int64) : pf_X11_serveCalibration a1 s l x y = pj_bl px_X11_serveCalibration (pj_rn px_X11_serveCalibration (pj_as pk_X11_serveCalibration) (pj_as [(82, pe_X11_serveCalibration_82 (pl_X11_serveCalibration_82))]) 60) [(0, .aload_n 0, 1), (1, .getfield 61, 3), (4, .getfield 1021, 3), (7, .ifCond .ne 6, 3)] 0 [(0, pj_O (0, 0)), (1, pj_I a1)] [] (s, l, x, y) := rfl
theorem pu_X11_serveCalibration_82 {lf : pj_Z → mj_M} {a : Int32 × pj_Z} (f : pj_F (Int32 × pj_Z)) (hf : ∀  (s : Nat → Int32) (l : Nat → Int64) (x : Nat → Int32) (y : Nat → Int64), f  s l x y = some a → pm_Gd 1 11096 ie_X11_serveCalibration.1 pm_rI lf 82 [] [] (s, l, x, y) a) : pm_Ex 1 11096 ie_X11_serveCalibration.1 pm_rI lf a 82 (pe_X11_serveCalibration_82 f) := by
  intro lv st z hd h
  obtain ⟨e9, h⟩ := pj_pe_inv h
  rw [e9]
  exact mj_wp_sub (mj_sub_nil hd) (hf  _ _ _ _ h)
set_option maxRecDepth 100000 in
theorem pz_X11_serveCalibration {lf : pj_Z → mj_M} (hT : pj_Lt pj_TC lf) : pj_Cok ic_P (mj_R ic_P 1) 11096 ie_X11_serveCalibration.1 (pm_OK lf pm_rI) lf px_X11_serveCalibration := by
  exact pm_cok (c := px_X11_serveCalibration) (pm_part hT (pj_as_all (p := fun b e => pj_TC b = some e) (List.forall_mem_cons.mpr ⟨rfl, (List.forall_mem_cons.mpr ⟨rfl, (List.forall_mem_cons.mpr ⟨rfl, (List.forall_mem_cons.mpr ⟨rfl, (List.forall_mem_cons.mpr ⟨rfl, (List.forall_mem_cons.mpr ⟨rfl, (fun _ h => by cases h)⟩)⟩)⟩)⟩)⟩)⟩))) (pm_in_ok (L := [(10, 11, 0, 2, true), (26, 11, 2, 2, true), (61, 11, 7, 2, true), (127, 2, 0, 0, false), (287, 4, 0, 2, true), (929, 8, 0, 2, true), (1021, 8, 4, 3, false)]) (f := mj_pF ic_P 11096) (by decide +kernel)) (fun _ _ h => by cases h) (fun _ _ h => by cases h) (fun _ _ h => by cases h) rfl rfl ⟨by decide, rfl⟩ pm_mI (pj_as_all (p := pm_Cl 1 11096 ie_X11_serveCalibration.1 lf (pm_OK lf pm_rI)) (List.forall_mem_cons.mpr ⟨fun _ _ lv st z K a hK h => pc_X4_isNumber hT (by decide) (ix := 282) rfl rfl hK h, (List.forall_mem_cons.mpr ⟨fun _ _ lv st z K a hK h => pc_X8_say hT (by decide) (ix := 941) rfl rfl hK h, (List.forall_mem_cons.mpr ⟨fun _ _ lv st z K a hK h => pc_X8_say hT (by decide) (ix := 941) rfl rfl hK h, (fun _ h => by cases h)⟩)⟩)⟩)) (fun _ h => by cases h)
set_option maxRecDepth 100000 in
theorem pb_X11_serveCalibration : pm_bks ie_X11_serveCalibration.1.2.2.2.2 pk_X11_serveCalibration = true := by decide +kernel
set_option maxRecDepth 100000 in
theorem pg_X11_serveCalibration_82 {lf : pj_Z → mj_M} (hT : pj_Lt pj_TC lf) : ∀  (s : Nat → Int32) (l : Nat → Int64) (x : Nat → Int32) (y : Nat → Int64) (a : Int32 × pj_Z), pl_X11_serveCalibration_82 s l x y = some a → pm_Gd 1 11096 ie_X11_serveCalibration.1 pm_rI lf 82 [] [] (s, l, x, y) a := by
  intro  s l x y a h
  exact pm_run ((pq_X11_serveCalibration_82   s l x y).symm.trans h) (pz_X11_serveCalibration hT) (pm_bks_ok pb_X11_serveCalibration) (pm_bks_ok pb_X11_serveCalibration _ _ rfl) (pm_ndb_ok rfl) (fun _ _ h => by cases h)
set_option maxRecDepth 100000 in
theorem pm_X11_serveCalibration {lf : pj_Z → mj_M} (hT : pj_Lt pj_TC lf) (a1 : Int32) (s : Nat → Int32) (l : Nat → Int64) (x : Nat → Int32) (y : Nat → Int64) (a : Int32 × pj_Z) (h : pf_X11_serveCalibration a1 s l x y = some a) : mj_R ic_P 2 11096 [.ref 0, .int a1] (lf (s, l, x, y)) (pm_rI a.1) (lf a.2) := by
  refine pm_main (Y := ie_X11_serveCalibration.1) rfl (Nat.le_of_ble_eq_true rfl) ?_
  exact pm_run ((pq_X11_serveCalibration_m a1 s l x y).symm.trans h) (pz_X11_serveCalibration hT) (pm_bks_ok pb_X11_serveCalibration) (pm_bks_ok pb_X11_serveCalibration _ _ rfl) (pm_ndb_ok rfl) (pj_as_all (p := pm_Ex 1 11096 ie_X11_serveCalibration.1 pm_rI lf a) (List.forall_mem_cons.mpr ⟨pu_X11_serveCalibration_82 _ (fun  s l x y h => pg_X11_serveCalibration_82 hT  s l x y _ h), (fun _ h => by cases h)⟩))
abbrev ph_X11_serveCalibration {A : Type} : List pj_V → pj_Z → (List pj_V → pj_Z → Option A) → Option A := fun st z K => pj_pi st fun a1 st => pj_pr st 0 0 fun st => pj_ps st (pj_b (pf_X11_serveCalibration a1 z.1 z.2.1 z.2.2.1 z.2.2.2) fun r s l x y => K (pj_I r :: st) (s, l, x, y))
set_option maxRecDepth 100000 in
theorem pc_X11_serveCalibration {A : Type} {OK : A → Option Value → mj_M → Prop} {d j pc ix : Nat} {Y : mj_Y} {lf : pj_Z → mj_M} (hT : pj_Lt pj_TC lf) (hd : 2 ≤ d) (hl : mj_lk Y.2.2.2.2 pc = some (.invokevirtual ix, 3)) (hg : mj_pG ic_P j ix = some (11096, 1, some 11)) {lv : List (Nat × Value)} {st : List pj_V} {z : pj_Z} {K : List pj_V → pj_Z → Option A} {a : A} (hK : ∀ st z, K st z = some a → pj_Gd ic_P (mj_R ic_P d) j Y OK lf (pc + 3) lv (pj_es st) z a) (h : ph_X11_serveCalibration st z K = some a) : pj_Gd ic_P (mj_R ic_P d) j Y OK lf pc lv (pj_es st) z a := by
  obtain ⟨a1, r1, e1, h⟩ := pj_pi_inv h
  obtain ⟨r0, e0, h⟩ := pj_pr_inv h
  obtain ⟨hs, h⟩ := pj_ps_inv h
  obtain ⟨q, hq, h⟩ := pj_b_inv h
  exact pm_cv (o := 0) hl hg [.int a1] rfl (by rw [e1, e0]; rfl) hs (by decide) ((hT.2 0 _ rfl).1.2 z 0 (by decide)) (pm_rI q.1) hd (pm_X11_serveCalibration hT a1 z.1 z.2.1 z.2.2.1 z.2.2.2 q hq) rfl (hK _ _ h)
abbrev px_X8_sayTwo : pj_C (Int32 × pj_Z) := ((fun _ => none), (fun _ => none), (fun _ => none), (fun _ => none), (fun _ => none), ic_X, 3, 1, pj_mI, (pj_as [(6, ph_X8_say), (13, ph_X8_say)]), fun _ => false)
abbrev pk_X8_sayTwo : List (Nat × List (Nat × Instr × Nat)) := [(0, [(0, .aload_n 0, 1), (1, .lload_n 1, 1), (2, .bipush 8, 2), (4, .lshr, 1), (5, .l2i, 1), (6, .invokevirtual 74, 3), (9, .pop, 1), (10, .aload_n 0, 1), (11, .lload_n 1, 1), (12, .l2i, 1), (13, .invokevirtual 74, 3), (16, .ireturn, 1)])]
set_option maxRecDepth 100000 in
theorem pq_X8_sayTwo_m  (a1 : Int64) (s : Nat → Int32) (l : Nat → Int64) (x : Nat → Int32) (y : Nat → Int64) : pf_X8_sayTwo a1 s l x y = pj_bl px_X8_sayTwo (pj_rn px_X8_sayTwo (pj_as pk_X8_sayTwo) (fun _ => none) 60) [(0, .aload_n 0, 1), (1, .lload_n 1, 1), (2, .bipush 8, 2), (4, .lshr, 1), (5, .l2i, 1), (6, .invokevirtual 74, 3), (9, .pop, 1), (10, .aload_n 0, 1), (11, .lload_n 1, 1), (12, .l2i, 1), (13, .invokevirtual 74, 3), (16, .ireturn, 1)] 0 [(0, pj_O (96, 0)), (1, pj_L a1)] [] (s, l, x, y) := rfl
set_option maxRecDepth 100000 in
theorem pz_X8_sayTwo {lf : pj_Z → mj_M} (hT : pj_Lt pj_TC lf) : pj_Cok ic_P (mj_R ic_P 1) 8009 ie_X8_sayTwo.1 (pm_OK lf pm_rI) lf px_X8_sayTwo := by
  exact pm_cok (c := px_X8_sayTwo) (pm_none hT) (fun _ _ h => by cases h) (fun _ _ h => by cases h) (fun _ _ h => by cases h) (fun _ _ h => by cases h) rfl rfl ⟨by decide, rfl⟩ pm_mI (pj_as_all (p := pm_Cl 1 8009 ie_X8_sayTwo.1 lf (pm_OK lf pm_rI)) (List.forall_mem_cons.mpr ⟨fun _ _ lv st z K a hK h => pc_X8_say hT (by decide) (ix := 74) rfl rfl hK h, (List.forall_mem_cons.mpr ⟨fun _ _ lv st z K a hK h => pc_X8_say hT (by decide) (ix := 74) rfl rfl hK h, (fun _ h => by cases h)⟩)⟩)) (fun _ h => by cases h)
set_option maxRecDepth 100000 in
theorem pb_X8_sayTwo : pm_bks ie_X8_sayTwo.1.2.2.2.2 pk_X8_sayTwo = true := by decide +kernel
set_option maxRecDepth 100000 in
theorem pm_X8_sayTwo {lf : pj_Z → mj_M} (hT : pj_Lt pj_TC lf) (a1 : Int64) (s : Nat → Int32) (l : Nat → Int64) (x : Nat → Int32) (y : Nat → Int64) (a : Int32 × pj_Z) (h : pf_X8_sayTwo a1 s l x y = some a) : mj_R ic_P 2 8009 [.ref 96, .long a1] (lf (s, l, x, y)) (pm_rI a.1) (lf a.2) := by
  refine pm_main (Y := ie_X8_sayTwo.1) rfl (Nat.le_of_ble_eq_true rfl) ?_
  exact pm_run ((pq_X8_sayTwo_m a1 s l x y).symm.trans h) (pz_X8_sayTwo hT) (pm_bks_ok pb_X8_sayTwo) (pm_bks_ok pb_X8_sayTwo _ _ rfl) (pm_ndb_ok rfl) (fun _ _ h => by cases h)
abbrev ph_X8_sayTwo {A : Type} : List pj_V → pj_Z → (List pj_V → pj_Z → Option A) → Option A := fun st z K => pj_pl st fun a1 st => pj_pr st 96 0 fun st => pj_ps st (pj_b (pf_X8_sayTwo a1 z.1 z.2.1 z.2.2.1 z.2.2.2) fun r s l x y => K (pj_I r :: st) (s, l, x, y))
set_option maxRecDepth 100000 in
theorem pc_X8_sayTwo {A : Type} {OK : A → Option Value → mj_M → Prop} {d j pc ix : Nat} {Y : mj_Y} {lf : pj_Z → mj_M} (hT : pj_Lt pj_TC lf) (hd : 2 ≤ d) (hl : mj_lk Y.2.2.2.2 pc = some (.invokevirtual ix, 3)) (hg : mj_pG ic_P j ix = some (8009, 1, some 8)) {lv : List (Nat × Value)} {st : List pj_V} {z : pj_Z} {K : List pj_V → pj_Z → Option A} {a : A} (hK : ∀ st z, K st z = some a → pj_Gd ic_P (mj_R ic_P d) j Y OK lf (pc + 3) lv (pj_es st) z a) (h : ph_X8_sayTwo st z K = some a) : pj_Gd ic_P (mj_R ic_P d) j Y OK lf pc lv (pj_es st) z a := by
  obtain ⟨a1, r1, e1, h⟩ := pj_pl_inv h
  obtain ⟨r0, e0, h⟩ := pj_pr_inv h
  obtain ⟨hs, h⟩ := pj_ps_inv h
  obtain ⟨q, hq, h⟩ := pj_b_inv h
  exact pm_cv (o := 96) hl hg [.long a1] rfl (by rw [e1, e0]; rfl) hs (by decide) ((hT.2 96 _ rfl).1.2 z 0 (by decide)) (pm_rI q.1) hd (pm_X8_sayTwo hT a1 z.1 z.2.1 z.2.2.1 z.2.2.2 q hq) rfl (hK _ _ h)
abbrev pe_X8_serveLock_72 (f : Int32 → pj_F (Int32 × pj_Z)) : pj_K (Int32 × pj_Z) := fun lv st z => pj_xr lv 0 96 0 <| pj_xi lv 2 fun a2 => pj_pe st (f a2 z.1 z.2.1 z.2.2.1 z.2.2.2)
abbrev pe_X8_serveLock_87 (f : pj_F (Int32 × pj_Z)) : pj_K (Int32 × pj_Z) := fun lv st z => pj_pe st (f  z.1 z.2.1 z.2.2.1 z.2.2.2)
abbrev px_X8_serveLock : pj_C (Int32 × pj_Z) := ((pj_as [(96, 8, 18, 1, 0, true, 0, [(2, 97), (0, 62), (1, 18), (0, 63), (0, 64), (0, 65), (0, 66), (1, 19), (0, 67), (0, 68), (2, 98), (0, 69), (2, 99), (1, 20), (0, 70), (1, 21), (2, 100), (2, 101)]), (97, 100, 67, 1, 0, true, 37000, [])]), (pj_as [(9, 8, 0, 2, true), (42, 8, 4, 3, false), (51, 8, 7, 0, false), (54, 8, 8, 3, false), (57, 8, 9, 0, false)]), (pj_as [(138, 65536)]), (pj_as [(132, 7919), (134, 13), (136, 65536)]), (fun _ => none), ic_X, 3, 1, pj_mI, (pj_as [(52, ph_X8_say), (58, ph_X8_say), (68, ph_X8_sayTwo), (170, ph_X8_say), (176, ph_X8_say)]), fun _ => false)
abbrev pk_X8_serveLock : List (Nat × List (Nat × Instr × Nat)) := [(0, [(0, .aload_n 0, 1), (1, .getfield 9, 3), (4, .iconst 0, 1), (5, .iaload, 1), (6, .bipush 63, 2), (8, .iand, 1), (9, .istore_n 2, 1), (10, .iload_n 2, 1), (11, .iconst 2, 1), (12, .if_icmp .ne 60, 3)]), (15, [(15, .aload_n 0, 1), (16, .getfield 9, 3), (19, .iconst 4, 1), (20, .iaload, 1), (21, .iconst 1, 1), (22, .if_icmp .ne 50, 3)]), (25, [(25, .aload_n 0, 1), (26, .ldc2_w 132, 3), (29, .iload_n 1, 1), (30, .i2l, 1), (31, .lmul, 1), (32, .ldc2_w 134, 3), (35, .ladd, 1), (36, .ldc2_w 136, 3), (39, .lrem, 1), (40, .l2i, 1), (41, .putfield 51, 3), (44, .aload_n 0, 1), (45, .iconst 1, 1), (46, .putfield 54, 3), (49, .aload_n 0, 1), (50, .bipush 103, 2), (52, .invokevirtual 74, 3), (55, .pop, 1), (56, .aload_n 0, 1), (57, .iconst 1, 1), (58, .invokevirtual 74, 3), (61, .pop, 1), (62, .aload_n 0, 1), (63, .aload_n 0, 1), (64, .getfield 51, 3), (67, .i2l, 1), (68, .invokevirtual 78, 3), (71, .ireturn, 1)]), (72, [(72, .iload_n 2, 1), (73, .iconst 4, 1), (74, .if_icmp .ne 13, 3)]), (77, [(77, .aload_n 0, 1), (78, .getfield 9, 3), (81, .iconst 4, 1), (82, .iaload, 1), (83, .iconst 2, 1), (84, .if_icmp .eq 6, 3)]), (87, [(87, .bipush 18, 2), (89, .ireturn, 1)]), (90, [(90, .aload_n 0, 1), (91, .getfield 57, 3), (94, .iconst 3, 1), (95, .if_icmp .lt 6, 3)]), (98, [(98, .bipush 54, 2), (100, .ireturn, 1)]), (101, [(101, .aload_n 0, 1), (102, .getfield 54, 3), (105, .ifCond .ne 6, 3)]), (108, [(108, .bipush 36, 2), (110, .ireturn, 1)]), (111, [(111, .aload_n 0, 1), (112, .iconst 0, 1), (113, .putfield 54, 3), (116, .aload_n 0, 1), (117, .getfield 9, 3), (120, .iconst 5, 1), (121, .iaload, 1), (122, .bipush 8, 2), (124, .ishl, 1), (125, .aload_n 0, 1), (126, .getfield 9, 3), (129, .bipush 6, 2), (131, .iaload, 1), (132, .ior, 1), (133, .iconst 3, 1), (134, .aload_n 0, 1), (135, .getfield 51, 3), (138, .imul, 1), (139, .sipush 4660, 3), (142, .iadd, 1), (143, .ldc 138, 2), (145, .irem, 1), (146, .if_icmp .eq 16, 3)]), (149, [(149, .aload_n 0, 1), (150, .dup, 1), (151, .getfield 57, 3), (154, .iconst 1, 1), (155, .iadd, 1), (156, .putfield 57, 3), (159, .bipush 53, 2), (161, .ireturn, 1)]), (162, [(162, .aload_n 0, 1), (163, .iconst 1, 1), (164, .putfield 42, 3), (167, .aload_n 0, 1), (168, .bipush 103, 2), (170, .invokevirtual 74, 3), (173, .pop, 1), (174, .aload_n 0, 1), (175, .iconst 2, 1), (176, .invokevirtual 74, 3), (179, .ireturn, 1)])]
set_option maxRecDepth 100000 in
theorem pq_X8_serveLock_87   (s : Nat → Int32) (l : Nat → Int64) (x : Nat → Int32) (y : Nat → Int64) : pl_X8_serveLock_87 s l x y = pj_bl px_X8_serveLock (pj_rn px_X8_serveLock (pj_as pk_X8_serveLock) (fun _ => none) 60) [(87, .bipush 18, 2), (89, .ireturn, 1)] 87 [] [] (s, l, x, y) := rfl
set_option maxRecDepth 100000 in
theorem pq_X8_serveLock_72  (a2 : Int32) (s : Nat → Int32) (l : Nat → Int64) (x : Nat → Int32) (y : Nat → Int64) : pl_X8_serveLock_72 a2 s l x y = pj_bl px_X8_serveLock (pj_rn px_X8_serveLock (pj_as pk_X8_serveLock) (pj_as [(87, pe_X8_serveLock_87 (pl_X8_serveLock_87))]) 60) [(72, .iload_n 2, 1), (73, .iconst 4, 1), (74, .if_icmp .ne 13, 3)] 72 [(0, pj_O (96, 0)), (2, pj_I a2)] [] (s, l, x, y) := rfl
set_option maxRecDepth 100000 in
theorem pq_X8_serveLock_m  (a1 : Int32) (s : Nat → Int32) (l : Nat → Int64) (x : Nat → Int32) (y : Nat → Int64) : pf_X8_serveLock a1 s l x y = pj_bl px_X8_serveLock (pj_rn px_X8_serveLock (pj_as pk_X8_serveLock) (pj_as [(72, pe_X8_serveLock_72 (pl_X8_serveLock_72))]) 60) [(0, .aload_n 0, 1), (1, .getfield 9, 3), (4, .iconst 0, 1), (5, .iaload, 1), (6, .bipush 63, 2), (8, .iand, 1), (9, .istore_n 2, 1), (10, .iload_n 2, 1), (11, .iconst 2, 1), (12, .if_icmp .ne 60, 3)] 0 [(0, pj_O (96, 0)), (1, pj_I a1)] [] (s, l, x, y) := rfl
theorem pu_X8_serveLock_72 {lf : pj_Z → mj_M} {a : Int32 × pj_Z} (f : Int32 → pj_F (Int32 × pj_Z)) (hf : ∀ (a2 : Int32) (s : Nat → Int32) (l : Nat → Int64) (x : Nat → Int32) (y : Nat → Int64), f a2 s l x y = some a → pm_Gd 2 8019 ie_X8_serveLock.1 pm_rI lf 72 [(0, .ref 96), (2, .int a2)] [] (s, l, x, y) a) : pm_Ex 2 8019 ie_X8_serveLock.1 pm_rI lf a 72 (pe_X8_serveLock_72 f) := by
  intro lv st z hd h
  obtain ⟨g0, h⟩ := pj_xr_inv h
  obtain ⟨a2, g2, h⟩ := pj_xi_inv h
  obtain ⟨e9, h⟩ := pj_pe_inv h
  rw [e9]
  exact mj_wp_sub (mj_sub_cons g0 (mj_sub_cons g2 (mj_sub_nil hd))) (hf _ _ _ _ _ h)
theorem pu_X8_serveLock_87 {lf : pj_Z → mj_M} {a : Int32 × pj_Z} (f : pj_F (Int32 × pj_Z)) (hf : ∀  (s : Nat → Int32) (l : Nat → Int64) (x : Nat → Int32) (y : Nat → Int64), f  s l x y = some a → pm_Gd 2 8019 ie_X8_serveLock.1 pm_rI lf 87 [] [] (s, l, x, y) a) : pm_Ex 2 8019 ie_X8_serveLock.1 pm_rI lf a 87 (pe_X8_serveLock_87 f) := by
  intro lv st z hd h
  obtain ⟨e9, h⟩ := pj_pe_inv h
  rw [e9]
  exact mj_wp_sub (mj_sub_nil hd) (hf  _ _ _ _ h)
set_option maxRecDepth 100000 in
theorem pz_X8_serveLock {lf : pj_Z → mj_M} (hT : pj_Lt pj_TC lf) : pj_Cok ic_P (mj_R ic_P 2) 8019 ie_X8_serveLock.1 (pm_OK lf pm_rI) lf px_X8_serveLock := by
  exact pm_cok (c := px_X8_serveLock) (pm_part hT (pj_as_all (p := fun b e => pj_TC b = some e) (List.forall_mem_cons.mpr ⟨rfl, (List.forall_mem_cons.mpr ⟨rfl, (fun _ h => by cases h)⟩)⟩))) (pm_in_ok (L := [(9, 8, 0, 2, true), (42, 8, 4, 3, false), (51, 8, 7, 0, false), (54, 8, 8, 3, false), (57, 8, 9, 0, false)]) (f := mj_pF ic_P 8019) (by decide +kernel)) (pm_inI_ok (L := [(138, 65536)]) (f := mj_pK ic_P 8019) (by decide +kernel)) (pm_inL_ok (L := [(132, 7919), (134, 13), (136, 65536)]) (f := mj_pL ic_P 8019) (by decide +kernel)) (fun _ _ h => by cases h) rfl rfl ⟨by decide, rfl⟩ pm_mI (pj_as_all (p := pm_Cl 2 8019 ie_X8_serveLock.1 lf (pm_OK lf pm_rI)) (List.forall_mem_cons.mpr ⟨fun _ _ lv st z K a hK h => pc_X8_say hT (by decide) (ix := 74) rfl rfl hK h, (List.forall_mem_cons.mpr ⟨fun _ _ lv st z K a hK h => pc_X8_say hT (by decide) (ix := 74) rfl rfl hK h, (List.forall_mem_cons.mpr ⟨fun _ _ lv st z K a hK h => pc_X8_sayTwo hT (by decide) (ix := 78) rfl rfl hK h, (List.forall_mem_cons.mpr ⟨fun _ _ lv st z K a hK h => pc_X8_say hT (by decide) (ix := 74) rfl rfl hK h, (List.forall_mem_cons.mpr ⟨fun _ _ lv st z K a hK h => pc_X8_say hT (by decide) (ix := 74) rfl rfl hK h, (fun _ h => by cases h)⟩)⟩)⟩)⟩)⟩)) (fun _ h => by cases h)
set_option maxRecDepth 100000 in
theorem pb_X8_serveLock : pm_bks ie_X8_serveLock.1.2.2.2.2 pk_X8_serveLock = true := by decide +kernel
set_option maxRecDepth 100000 in
theorem pg_X8_serveLock_87 {lf : pj_Z → mj_M} (hT : pj_Lt pj_TC lf) : ∀  (s : Nat → Int32) (l : Nat → Int64) (x : Nat → Int32) (y : Nat → Int64) (a : Int32 × pj_Z), pl_X8_serveLock_87 s l x y = some a → pm_Gd 2 8019 ie_X8_serveLock.1 pm_rI lf 87 [] [] (s, l, x, y) a := by
  intro  s l x y a h
  exact pm_run ((pq_X8_serveLock_87   s l x y).symm.trans h) (pz_X8_serveLock hT) (pm_bks_ok pb_X8_serveLock) (pm_bks_ok pb_X8_serveLock _ _ rfl) (pm_ndb_ok rfl) (fun _ _ h => by cases h)
set_option maxRecDepth 100000 in
theorem pg_X8_serveLock_72 {lf : pj_Z → mj_M} (hT : pj_Lt pj_TC lf) : ∀ (a2 : Int32) (s : Nat → Int32) (l : Nat → Int64) (x : Nat → Int32) (y : Nat → Int64) (a : Int32 × pj_Z), pl_X8_serveLock_72 a2 s l x y = some a → pm_Gd 2 8019 ie_X8_serveLock.1 pm_rI lf 72 [(0, .ref 96), (2, .int a2)] [] (s, l, x, y) a := by
  intro a2 s l x y a h
  exact pm_run ((pq_X8_serveLock_72  a2 s l x y).symm.trans h) (pz_X8_serveLock hT) (pm_bks_ok pb_X8_serveLock) (pm_bks_ok pb_X8_serveLock _ _ rfl) (pm_ndb_ok rfl) (pj_as_all (p := pm_Ex 2 8019 ie_X8_serveLock.1 pm_rI lf a) (List.forall_mem_cons.mpr ⟨pu_X8_serveLock_87 _ (fun  s l x y h => pg_X8_serveLock_87 hT  s l x y _ h), (fun _ h => by cases h)⟩))
set_option maxRecDepth 100000 in
theorem pm_X8_serveLock {lf : pj_Z → mj_M} (hT : pj_Lt pj_TC lf) (a1 : Int32) (s : Nat → Int32) (l : Nat → Int64) (x : Nat → Int32) (y : Nat → Int64) (a : Int32 × pj_Z) (h : pf_X8_serveLock a1 s l x y = some a) : mj_R ic_P 3 8019 [.ref 96, .int a1] (lf (s, l, x, y)) (pm_rI a.1) (lf a.2) := by
  refine pm_main (Y := ie_X8_serveLock.1) rfl (Nat.le_of_ble_eq_true rfl) ?_
  exact pm_run ((pq_X8_serveLock_m a1 s l x y).symm.trans h) (pz_X8_serveLock hT) (pm_bks_ok pb_X8_serveLock) (pm_bks_ok pb_X8_serveLock _ _ rfl) (pm_ndb_ok rfl) (pj_as_all (p := pm_Ex 2 8019 ie_X8_serveLock.1 pm_rI lf a) (List.forall_mem_cons.mpr ⟨pu_X8_serveLock_72 _ (fun c0 s l x y h => pg_X8_serveLock_72 hT c0 s l x y _ h), (fun _ h => by cases h)⟩))
abbrev ph_X8_serveLock {A : Type} : List pj_V → pj_Z → (List pj_V → pj_Z → Option A) → Option A := fun st z K => pj_pi st fun a1 st => pj_pr st 96 0 fun st => pj_ps st (pj_b (pf_X8_serveLock a1 z.1 z.2.1 z.2.2.1 z.2.2.2) fun r s l x y => K (pj_I r :: st) (s, l, x, y))
set_option maxRecDepth 100000 in
theorem pc_X8_serveLock {A : Type} {OK : A → Option Value → mj_M → Prop} {d j pc ix : Nat} {Y : mj_Y} {lf : pj_Z → mj_M} (hT : pj_Lt pj_TC lf) (hd : 3 ≤ d) (hl : mj_lk Y.2.2.2.2 pc = some (.invokevirtual ix, 3)) (hg : mj_pG ic_P j ix = some (8019, 1, some 8)) {lv : List (Nat × Value)} {st : List pj_V} {z : pj_Z} {K : List pj_V → pj_Z → Option A} {a : A} (hK : ∀ st z, K st z = some a → pj_Gd ic_P (mj_R ic_P d) j Y OK lf (pc + 3) lv (pj_es st) z a) (h : ph_X8_serveLock st z K = some a) : pj_Gd ic_P (mj_R ic_P d) j Y OK lf pc lv (pj_es st) z a := by
  obtain ⟨a1, r1, e1, h⟩ := pj_pi_inv h
  obtain ⟨r0, e0, h⟩ := pj_pr_inv h
  obtain ⟨hs, h⟩ := pj_ps_inv h
  obtain ⟨q, hq, h⟩ := pj_b_inv h
  exact pm_cv (o := 96) hl hg [.int a1] rfl (by rw [e1, e0]; rfl) hs (by decide) ((hT.2 96 _ rfl).1.2 z 0 (by decide)) (pm_rI q.1) hd (pm_X8_serveLock hT a1 z.1 z.2.1 z.2.2.1 z.2.2.2 q hq) rfl (hK _ _ h)
abbrev pe_X11_serveNumber_10 (f : pj_F (Int32 × pj_Z)) : pj_K (Int32 × pj_Z) := fun lv st z => pj_pe st (f  z.1 z.2.1 z.2.2.1 z.2.2.2)
abbrev px_X11_serveNumber : pj_C (Int32 × pj_Z) := ((pj_as [(0, 11, 17, 1, 0, true, 0, [(2, 1), (2, 20), (2, 58), (2, 68), (2, 82), (2, 83), (2, 85), (2, 96), (2, 102), (2, 106), (2, 122), (0, 93), (0, 94), (0, 95), (1, 1), (1, 2), (0, 96)]), (1, 4, 10, 1, 0, true, 0, [(2, 2), (2, 3), (2, 8), (2, 11), (2, 14), (2, 17), (2, 18), (2, 19), (0, 44), (1, 3)]), (2, 100, 24, 1, 0, true, 10000, [])]), (pj_as [(10, 11, 0, 2, true), (61, 11, 7, 2, true), (287, 4, 0, 2, true)]), (pj_as [(894, 65535)]), (fun _ => none), (fun _ => none), ic_X, 2, 1, pj_mI, (pj_as [(19, ph_X8_say), (28, ph_X8_say), (48, ph_X8_say), (70, ph_X8_sayTwo)]), fun _ => false)
abbrev pk_X11_serveNumber : List (Nat × List (Nat × Instr × Nat)) := [(0, [(0, .iload_n 1, 1), (1, .ifCond .lt 9, 3)]), (4, [(4, .iload_n 1, 1), (5, .bipush 24, 2), (7, .if_icmp .lt 6, 3)]), (10, [(10, .bipush 49, 2), (12, .ireturn, 1)]), (13, [(13, .aload_n 0, 1), (14, .getfield 61, 3), (17, .bipush 97, 2), (19, .invokevirtual 941, 3), (22, .pop, 1), (23, .aload_n 0, 1), (24, .getfield 61, 3), (27, .iload_n 1, 1), (28, .invokevirtual 941, 3), (31, .pop, 1), (32, .aload_n 0, 1), (33, .getfield 61, 3), (36, .aload_n 0, 1), (37, .getfield 10, 3), (40, .getfield 287, 3), (43, .iload_n 1, 1), (44, .iaload, 1), (45, .bipush 16, 2), (47, .ishr, 1), (48, .invokevirtual 941, 3), (51, .pop, 1), (52, .aload_n 0, 1), (53, .getfield 61, 3), (56, .aload_n 0, 1), (57, .getfield 10, 3), (60, .getfield 287, 3), (63, .iload_n 1, 1), (64, .iaload, 1), (65, .ldc_w 894, 3), (68, .iand, 1), (69, .i2l, 1), (70, .invokevirtual 998, 3), (73, .ireturn, 1)])]
set_option maxRecDepth 100000 in
theorem pq_X11_serveNumber_10   (s : Nat → Int32) (l : Nat → Int64) (x : Nat → Int32) (y : Nat → Int64) : pl_X11_serveNumber_10 s l x y = pj_bl px_X11_serveNumber (pj_rn px_X11_serveNumber (pj_as pk_X11_serveNumber) (fun _ => none) 60) [(10, .bipush 49, 2), (12, .ireturn, 1)] 10 [] [] (s, l, x, y) := rfl
set_option maxRecDepth 100000 in
theorem pq_X11_serveNumber_m  (a1 : Int32) (s : Nat → Int32) (l : Nat → Int64) (x : Nat → Int32) (y : Nat → Int64) : pf_X11_serveNumber a1 s l x y = pj_bl px_X11_serveNumber (pj_rn px_X11_serveNumber (pj_as pk_X11_serveNumber) (pj_as [(10, pe_X11_serveNumber_10 (pl_X11_serveNumber_10))]) 60) [(0, .iload_n 1, 1), (1, .ifCond .lt 9, 3)] 0 [(0, pj_O (0, 0)), (1, pj_I a1)] [] (s, l, x, y) := rfl
theorem pu_X11_serveNumber_10 {lf : pj_Z → mj_M} {a : Int32 × pj_Z} (f : pj_F (Int32 × pj_Z)) (hf : ∀  (s : Nat → Int32) (l : Nat → Int64) (x : Nat → Int32) (y : Nat → Int64), f  s l x y = some a → pm_Gd 2 11095 ie_X11_serveNumber.1 pm_rI lf 10 [] [] (s, l, x, y) a) : pm_Ex 2 11095 ie_X11_serveNumber.1 pm_rI lf a 10 (pe_X11_serveNumber_10 f) := by
  intro lv st z hd h
  obtain ⟨e9, h⟩ := pj_pe_inv h
  rw [e9]
  exact mj_wp_sub (mj_sub_nil hd) (hf  _ _ _ _ h)
set_option maxRecDepth 100000 in
theorem pz_X11_serveNumber {lf : pj_Z → mj_M} (hT : pj_Lt pj_TC lf) : pj_Cok ic_P (mj_R ic_P 2) 11095 ie_X11_serveNumber.1 (pm_OK lf pm_rI) lf px_X11_serveNumber := by
  exact pm_cok (c := px_X11_serveNumber) (pm_part hT (pj_as_all (p := fun b e => pj_TC b = some e) (List.forall_mem_cons.mpr ⟨rfl, (List.forall_mem_cons.mpr ⟨rfl, (List.forall_mem_cons.mpr ⟨rfl, (fun _ h => by cases h)⟩)⟩)⟩))) (pm_in_ok (L := [(10, 11, 0, 2, true), (61, 11, 7, 2, true), (287, 4, 0, 2, true)]) (f := mj_pF ic_P 11095) (by decide +kernel)) (pm_inI_ok (L := [(894, 65535)]) (f := mj_pK ic_P 11095) (by decide +kernel)) (fun _ _ h => by cases h) (fun _ _ h => by cases h) rfl rfl ⟨by decide, rfl⟩ pm_mI (pj_as_all (p := pm_Cl 2 11095 ie_X11_serveNumber.1 lf (pm_OK lf pm_rI)) (List.forall_mem_cons.mpr ⟨fun _ _ lv st z K a hK h => pc_X8_say hT (by decide) (ix := 941) rfl rfl hK h, (List.forall_mem_cons.mpr ⟨fun _ _ lv st z K a hK h => pc_X8_say hT (by decide) (ix := 941) rfl rfl hK h, (List.forall_mem_cons.mpr ⟨fun _ _ lv st z K a hK h => pc_X8_say hT (by decide) (ix := 941) rfl rfl hK h, (List.forall_mem_cons.mpr ⟨fun _ _ lv st z K a hK h => pc_X8_sayTwo hT (by decide) (ix := 998) rfl rfl hK h, (fun _ h => by cases h)⟩)⟩)⟩)⟩)) (fun _ h => by cases h)
set_option maxRecDepth 100000 in
theorem pb_X11_serveNumber : pm_bks ie_X11_serveNumber.1.2.2.2.2 pk_X11_serveNumber = true := by decide +kernel
set_option maxRecDepth 100000 in
theorem pg_X11_serveNumber_10 {lf : pj_Z → mj_M} (hT : pj_Lt pj_TC lf) : ∀  (s : Nat → Int32) (l : Nat → Int64) (x : Nat → Int32) (y : Nat → Int64) (a : Int32 × pj_Z), pl_X11_serveNumber_10 s l x y = some a → pm_Gd 2 11095 ie_X11_serveNumber.1 pm_rI lf 10 [] [] (s, l, x, y) a := by
  intro  s l x y a h
  exact pm_run ((pq_X11_serveNumber_10   s l x y).symm.trans h) (pz_X11_serveNumber hT) (pm_bks_ok pb_X11_serveNumber) (pm_bks_ok pb_X11_serveNumber _ _ rfl) (pm_ndb_ok rfl) (fun _ _ h => by cases h)
set_option maxRecDepth 100000 in
theorem pm_X11_serveNumber {lf : pj_Z → mj_M} (hT : pj_Lt pj_TC lf) (a1 : Int32) (s : Nat → Int32) (l : Nat → Int64) (x : Nat → Int32) (y : Nat → Int64) (a : Int32 × pj_Z) (h : pf_X11_serveNumber a1 s l x y = some a) : mj_R ic_P 3 11095 [.ref 0, .int a1] (lf (s, l, x, y)) (pm_rI a.1) (lf a.2) := by
  refine pm_main (Y := ie_X11_serveNumber.1) rfl (Nat.le_of_ble_eq_true rfl) ?_
  exact pm_run ((pq_X11_serveNumber_m a1 s l x y).symm.trans h) (pz_X11_serveNumber hT) (pm_bks_ok pb_X11_serveNumber) (pm_bks_ok pb_X11_serveNumber _ _ rfl) (pm_ndb_ok rfl) (pj_as_all (p := pm_Ex 2 11095 ie_X11_serveNumber.1 pm_rI lf a) (List.forall_mem_cons.mpr ⟨pu_X11_serveNumber_10 _ (fun  s l x y h => pg_X11_serveNumber_10 hT  s l x y _ h), (fun _ h => by cases h)⟩))
abbrev ph_X11_serveNumber {A : Type} : List pj_V → pj_Z → (List pj_V → pj_Z → Option A) → Option A := fun st z K => pj_pi st fun a1 st => pj_pr st 0 0 fun st => pj_ps st (pj_b (pf_X11_serveNumber a1 z.1 z.2.1 z.2.2.1 z.2.2.2) fun r s l x y => K (pj_I r :: st) (s, l, x, y))
set_option maxRecDepth 100000 in
theorem pc_X11_serveNumber {A : Type} {OK : A → Option Value → mj_M → Prop} {d j pc ix : Nat} {Y : mj_Y} {lf : pj_Z → mj_M} (hT : pj_Lt pj_TC lf) (hd : 3 ≤ d) (hl : mj_lk Y.2.2.2.2 pc = some (.invokevirtual ix, 3)) (hg : mj_pG ic_P j ix = some (11095, 1, some 11)) {lv : List (Nat × Value)} {st : List pj_V} {z : pj_Z} {K : List pj_V → pj_Z → Option A} {a : A} (hK : ∀ st z, K st z = some a → pj_Gd ic_P (mj_R ic_P d) j Y OK lf (pc + 3) lv (pj_es st) z a) (h : ph_X11_serveNumber st z K = some a) : pj_Gd ic_P (mj_R ic_P d) j Y OK lf pc lv (pj_es st) z a := by
  obtain ⟨a1, r1, e1, h⟩ := pj_pi_inv h
  obtain ⟨r0, e0, h⟩ := pj_pr_inv h
  obtain ⟨hs, h⟩ := pj_ps_inv h
  obtain ⟨q, hq, h⟩ := pj_b_inv h
  exact pm_cv (o := 0) hl hg [.int a1] rfl (by rw [e1, e0]; rfl) hs (by decide) ((hT.2 0 _ rfl).1.2 z 0 (by decide)) (pm_rI q.1) hd (pm_X11_serveNumber hT a1 z.1 z.2.1 z.2.2.1 z.2.2.2 q hq) rfl (hK _ _ h)
abbrev pe_X4_numbersSum_4 (f : Int64 → Int32 → pj_F (Int64 × pj_Z)) : pj_K (Int64 × pj_Z) := fun lv st z => pj_xr lv 0 1 0 <| pj_xl lv 1 fun a1 => pj_xi lv 3 fun a3 => pj_pe st (f a1 a3 z.1 z.2.1 z.2.2.1 z.2.2.2)
abbrev px_X4_numbersSum : pj_C (Int64 × pj_Z) := ((pj_as [(1, 4, 10, 1, 0, true, 0, [(2, 2), (2, 3), (2, 8), (2, 11), (2, 14), (2, 17), (2, 18), (2, 19), (0, 44), (1, 3)]), (2, 100, 24, 1, 0, true, 10000, [])]), (pj_as [(9, 4, 0, 2, true)]), (fun _ => none), (fun _ => none), (fun _ => none), ic_X, 4, 3, pj_mL, (fun _ => none), fun _ => false)
abbrev pk_X4_numbersSum : List (Nat × List (Nat × Instr × Nat)) := [(0, [(0, .lconst 0, 1), (1, .lstore_n 1, 1), (2, .iconst 0, 1), (3, .istore_n 3, 1)]), (4, [(4, .iload_n 3, 1), (5, .bipush 24, 2), (7, .if_icmp .ge 24, 3)]), (10, [(10, .lload_n 1, 1), (11, .iload_n 3, 1), (12, .i2l, 1), (13, .lconst 1, 1), (14, .ladd, 1), (15, .aload_n 0, 1), (16, .getfield 9, 3), (19, .iload_n 3, 1), (20, .iaload, 1), (21, .i2l, 1), (22, .lmul, 1), (23, .ladd, 1), (24, .lstore_n 1, 1), (25, .iinc 3 1, 3), (28, .goto (-24), 3)]), (31, [(31, .lload_n 1, 1), (32, .lreturn, 1)])]
set_option maxRecDepth 100000 in
theorem pq_X4_numbersSum_4 (fu : Nat)  (n : Nat) (a1 : Int64) (a3 : Int32) (s : Nat → Int32) (l : Nat → Int64) (x : Nat → Int32) (y : Nat → Int64) : pl_X4_numbersSum_4 fu (n + 1) a1 a3 s l x y = pj_bl px_X4_numbersSum (pj_rn px_X4_numbersSum (pj_as pk_X4_numbersSum) (pj_as [(4, pe_X4_numbersSum_4 (pl_X4_numbersSum_4 fu n))]) 60) [(4, .iload_n 3, 1), (5, .bipush 24, 2), (7, .if_icmp .ge 24, 3)] 4 [(0, pj_O (1, 0)), (1, pj_L a1), (3, pj_I a3)] [] (s, l, x, y) := rfl
set_option maxRecDepth 100000 in
theorem pq_X4_numbersSum_m (fu : Nat)   (s : Nat → Int32) (l : Nat → Int64) (x : Nat → Int32) (y : Nat → Int64) : po_X4_numbersSum fu  s l x y = pj_bl px_X4_numbersSum (pj_rn px_X4_numbersSum (pj_as pk_X4_numbersSum) (pj_as [(4, pe_X4_numbersSum_4 (pl_X4_numbersSum_4 fu fu))]) 60) [(0, .lconst 0, 1), (1, .lstore_n 1, 1), (2, .iconst 0, 1), (3, .istore_n 3, 1)] 0 [(0, pj_O (1, 0))] [] (s, l, x, y) := rfl
theorem pu_X4_numbersSum_4 {lf : pj_Z → mj_M} {a : Int64 × pj_Z} (f : Int64 → Int32 → pj_F (Int64 × pj_Z)) (hf : ∀ (a1 : Int64) (a3 : Int32) (s : Nat → Int32) (l : Nat → Int64) (x : Nat → Int32) (y : Nat → Int64), f a1 a3 s l x y = some a → pm_Gd 0 4003 ie_X4_numbersSum.1 pm_rL lf 4 [(0, .ref 1), (1, .long a1), (3, .int a3)] [] (s, l, x, y) a) : pm_Ex 0 4003 ie_X4_numbersSum.1 pm_rL lf a 4 (pe_X4_numbersSum_4 f) := by
  intro lv st z hd h
  obtain ⟨g0, h⟩ := pj_xr_inv h
  obtain ⟨a1, g1, h⟩ := pj_xl_inv h
  obtain ⟨a3, g3, h⟩ := pj_xi_inv h
  obtain ⟨e9, h⟩ := pj_pe_inv h
  rw [e9]
  exact mj_wp_sub (mj_sub_cons g0 (mj_sub_cons g1 (mj_sub_cons g3 (mj_sub_nil hd)))) (hf _ _ _ _ _ _ h)
set_option maxRecDepth 100000 in
theorem pz_X4_numbersSum {lf : pj_Z → mj_M} (hT : pj_Lt pj_TC lf) : pj_Cok ic_P (mj_R ic_P 0) 4003 ie_X4_numbersSum.1 (pm_OK lf pm_rL) lf px_X4_numbersSum := by
  exact pm_cok (c := px_X4_numbersSum) (pm_part hT (pj_as_all (p := fun b e => pj_TC b = some e) (List.forall_mem_cons.mpr ⟨rfl, (List.forall_mem_cons.mpr ⟨rfl, (fun _ h => by cases h)⟩)⟩))) (pm_in_ok (L := [(9, 4, 0, 2, true)]) (f := mj_pF ic_P 4003) (by decide +kernel)) (fun _ _ h => by cases h) (fun _ _ h => by cases h) (fun _ _ h => by cases h) rfl rfl ⟨by decide, rfl⟩ pm_mL (fun _ _ h => by cases h) (fun _ h => by cases h)
set_option maxRecDepth 100000 in
theorem pb_X4_numbersSum : pm_bks ie_X4_numbersSum.1.2.2.2.2 pk_X4_numbersSum = true := by decide +kernel
set_option maxRecDepth 100000 in
theorem pg_X4_numbersSum_4 {fu : Nat} {lf : pj_Z → mj_M} (hT : pj_Lt pj_TC lf) : ∀ (n : Nat), ∀ (a1 : Int64) (a3 : Int32) (s : Nat → Int32) (l : Nat → Int64) (x : Nat → Int32) (y : Nat → Int64) (a : Int64 × pj_Z), pl_X4_numbersSum_4 fu n a1 a3 s l x y = some a → pm_Gd 0 4003 ie_X4_numbersSum.1 pm_rL lf 4 [(0, .ref 1), (1, .long a1), (3, .int a3)] [] (s, l, x, y) a := by
  intro n
  induction n with
  | zero => intro a1 a3 s l x y a h; cases (show (none : Option (Int64 × pj_Z)) = some a from h)
  | succ n ih =>
    intro a1 a3 s l x y a h
    exact pm_run ((pq_X4_numbersSum_4 fu n a1 a3 s l x y).symm.trans h) (pz_X4_numbersSum hT) (pm_bks_ok pb_X4_numbersSum) (pm_bks_ok pb_X4_numbersSum _ _ rfl) (pm_ndb_ok rfl) (pj_as_all (p := pm_Ex 0 4003 ie_X4_numbersSum.1 pm_rL lf a) (List.forall_mem_cons.mpr ⟨pu_X4_numbersSum_4 _ (fun c0 c1 s l x y h => ih c0 c1 s l x y _ h), (fun _ h => by cases h)⟩))
set_option maxRecDepth 100000 in
theorem pm_X4_numbersSum {lf : pj_Z → mj_M} (hT : pj_Lt pj_TC lf)  (s : Nat → Int32) (l : Nat → Int64) (x : Nat → Int32) (y : Nat → Int64) (a : Int64 × pj_Z) (h : pf_X4_numbersSum  s l x y = some a) : mj_R ic_P 1 4003 [.ref 1] (lf (s, l, x, y)) (pm_rL a.1) (lf a.2) := by
  refine pm_main (Y := ie_X4_numbersSum.1) rfl (Nat.le_of_ble_eq_true rfl) ?_
  exact pm_run ((pq_X4_numbersSum_m 1000  s l x y).symm.trans h) (pz_X4_numbersSum hT) (pm_bks_ok pb_X4_numbersSum) (pm_bks_ok pb_X4_numbersSum _ _ rfl) (pm_ndb_ok rfl) (pj_as_all (p := pm_Ex 0 4003 ie_X4_numbersSum.1 pm_rL lf a) (List.forall_mem_cons.mpr ⟨pu_X4_numbersSum_4 _ (fun c0 c1 s l x y h => pg_X4_numbersSum_4 hT _ c0 c1 s l x y _ h), (fun _ h => by cases h)⟩))
abbrev ph_X4_numbersSum {A : Type} : List pj_V → pj_Z → (List pj_V → pj_Z → Option A) → Option A := fun st z K => pj_pr st 1 0 fun st => pj_ps st (pj_b (pf_X4_numbersSum  z.1 z.2.1 z.2.2.1 z.2.2.2) fun r s l x y => K (pj_L r :: st) (s, l, x, y))
set_option maxRecDepth 100000 in
theorem pc_X4_numbersSum {A : Type} {OK : A → Option Value → mj_M → Prop} {d j pc ix : Nat} {Y : mj_Y} {lf : pj_Z → mj_M} (hT : pj_Lt pj_TC lf) (hd : 1 ≤ d) (hl : mj_lk Y.2.2.2.2 pc = some (.invokevirtual ix, 3)) (hg : mj_pG ic_P j ix = some (4003, 0, some 4)) {lv : List (Nat × Value)} {st : List pj_V} {z : pj_Z} {K : List pj_V → pj_Z → Option A} {a : A} (hK : ∀ st z, K st z = some a → pj_Gd ic_P (mj_R ic_P d) j Y OK lf (pc + 3) lv (pj_es st) z a) (h : ph_X4_numbersSum st z K = some a) : pj_Gd ic_P (mj_R ic_P d) j Y OK lf pc lv (pj_es st) z a := by
  obtain ⟨r0, e0, h⟩ := pj_pr_inv h
  obtain ⟨hs, h⟩ := pj_ps_inv h
  obtain ⟨q, hq, h⟩ := pj_b_inv h
  exact pm_cv (o := 1) hl hg [] rfl (by rw [e0]; rfl) hs (by decide) ((hT.2 1 _ rfl).1.2 z 0 (by decide)) (pm_rL q.1) hd (pm_X4_numbersSum hT  z.1 z.2.1 z.2.2.1 z.2.2.2 q hq) rfl (hK _ _ h)
abbrev px_X8_sayFour : pj_C (Int32 × pj_Z) := ((fun _ => none), (fun _ => none), (fun _ => none), (fun _ => none), (fun _ => none), ic_X, 3, 1, pj_mI, (pj_as [(5, ph_X8_sayTwo), (11, ph_X8_sayTwo)]), fun _ => false)
abbrev pk_X8_sayFour : List (Nat × List (Nat × Instr × Nat)) := [(0, [(0, .aload_n 0, 1), (1, .lload_n 1, 1), (2, .bipush 16, 2), (4, .lshr, 1), (5, .invokevirtual 78, 3), (8, .pop, 1), (9, .aload_n 0, 1), (10, .lload_n 1, 1), (11, .invokevirtual 78, 3), (14, .ireturn, 1)])]
set_option maxRecDepth 100000 in
theorem pq_X8_sayFour_m  (a1 : Int64) (s : Nat → Int32) (l : Nat → Int64) (x : Nat → Int32) (y : Nat → Int64) : pf_X8_sayFour a1 s l x y = pj_bl px_X8_sayFour (pj_rn px_X8_sayFour (pj_as pk_X8_sayFour) (fun _ => none) 60) [(0, .aload_n 0, 1), (1, .lload_n 1, 1), (2, .bipush 16, 2), (4, .lshr, 1), (5, .invokevirtual 78, 3), (8, .pop, 1), (9, .aload_n 0, 1), (10, .lload_n 1, 1), (11, .invokevirtual 78, 3), (14, .ireturn, 1)] 0 [(0, pj_O (96, 0)), (1, pj_L a1)] [] (s, l, x, y) := rfl
set_option maxRecDepth 100000 in
theorem pz_X8_sayFour {lf : pj_Z → mj_M} (hT : pj_Lt pj_TC lf) : pj_Cok ic_P (mj_R ic_P 2) 8010 ie_X8_sayFour.1 (pm_OK lf pm_rI) lf px_X8_sayFour := by
  exact pm_cok (c := px_X8_sayFour) (pm_none hT) (fun _ _ h => by cases h) (fun _ _ h => by cases h) (fun _ _ h => by cases h) (fun _ _ h => by cases h) rfl rfl ⟨by decide, rfl⟩ pm_mI (pj_as_all (p := pm_Cl 2 8010 ie_X8_sayFour.1 lf (pm_OK lf pm_rI)) (List.forall_mem_cons.mpr ⟨fun _ _ lv st z K a hK h => pc_X8_sayTwo hT (by decide) (ix := 78) rfl rfl hK h, (List.forall_mem_cons.mpr ⟨fun _ _ lv st z K a hK h => pc_X8_sayTwo hT (by decide) (ix := 78) rfl rfl hK h, (fun _ h => by cases h)⟩)⟩)) (fun _ h => by cases h)
set_option maxRecDepth 100000 in
theorem pb_X8_sayFour : pm_bks ie_X8_sayFour.1.2.2.2.2 pk_X8_sayFour = true := by decide +kernel
set_option maxRecDepth 100000 in
theorem pm_X8_sayFour {lf : pj_Z → mj_M} (hT : pj_Lt pj_TC lf) (a1 : Int64) (s : Nat → Int32) (l : Nat → Int64) (x : Nat → Int32) (y : Nat → Int64) (a : Int32 × pj_Z) (h : pf_X8_sayFour a1 s l x y = some a) : mj_R ic_P 3 8010 [.ref 96, .long a1] (lf (s, l, x, y)) (pm_rI a.1) (lf a.2) := by
  refine pm_main (Y := ie_X8_sayFour.1) rfl (Nat.le_of_ble_eq_true rfl) ?_
  exact pm_run ((pq_X8_sayFour_m a1 s l x y).symm.trans h) (pz_X8_sayFour hT) (pm_bks_ok pb_X8_sayFour) (pm_bks_ok pb_X8_sayFour _ _ rfl) (pm_ndb_ok rfl) (fun _ _ h => by cases h)
abbrev ph_X8_sayFour {A : Type} : List pj_V → pj_Z → (List pj_V → pj_Z → Option A) → Option A := fun st z K => pj_pl st fun a1 st => pj_pr st 96 0 fun st => pj_ps st (pj_b (pf_X8_sayFour a1 z.1 z.2.1 z.2.2.1 z.2.2.2) fun r s l x y => K (pj_I r :: st) (s, l, x, y))
set_option maxRecDepth 100000 in
theorem pc_X8_sayFour {A : Type} {OK : A → Option Value → mj_M → Prop} {d j pc ix : Nat} {Y : mj_Y} {lf : pj_Z → mj_M} (hT : pj_Lt pj_TC lf) (hd : 3 ≤ d) (hl : mj_lk Y.2.2.2.2 pc = some (.invokevirtual ix, 3)) (hg : mj_pG ic_P j ix = some (8010, 1, some 8)) {lv : List (Nat × Value)} {st : List pj_V} {z : pj_Z} {K : List pj_V → pj_Z → Option A} {a : A} (hK : ∀ st z, K st z = some a → pj_Gd ic_P (mj_R ic_P d) j Y OK lf (pc + 3) lv (pj_es st) z a) (h : ph_X8_sayFour st z K = some a) : pj_Gd ic_P (mj_R ic_P d) j Y OK lf pc lv (pj_es st) z a := by
  obtain ⟨a1, r1, e1, h⟩ := pj_pl_inv h
  obtain ⟨r0, e0, h⟩ := pj_pr_inv h
  obtain ⟨hs, h⟩ := pj_ps_inv h
  obtain ⟨q, hq, h⟩ := pj_b_inv h
  exact pm_cv (o := 96) hl hg [.long a1] rfl (by rw [e1, e0]; rfl) hs (by decide) ((hT.2 96 _ rfl).1.2 z 0 (by decide)) (pm_rI q.1) hd (pm_X8_sayFour hT a1 z.1 z.2.1 z.2.2.1 z.2.2.2 q hq) rfl (hK _ _ h)
abbrev pe_X11_byteOf_22 (f : pj_F (Int32 × pj_Z)) : pj_K (Int32 × pj_Z) := fun lv st z => pj_pe st (f  z.1 z.2.1 z.2.2.1 z.2.2.2)
abbrev px_X11_byteOf : pj_C (Int32 × pj_Z) := ((pj_as [(0, 11, 17, 1, 0, true, 0, [(2, 1), (2, 20), (2, 58), (2, 68), (2, 82), (2, 83), (2, 85), (2, 96), (2, 102), (2, 106), (2, 122), (0, 93), (0, 94), (0, 95), (1, 1), (1, 2), (0, 96)]), (96, 8, 18, 1, 0, true, 0, [(2, 97), (0, 62), (1, 18), (0, 63), (0, 64), (0, 65), (0, 66), (1, 19), (0, 67), (0, 68), (2, 98), (0, 69), (2, 99), (1, 20), (0, 70), (1, 21), (2, 100), (2, 101)]), (98, 100, 600, 1, 0, true, 38000, [])]), (pj_as [(61, 11, 7, 2, true), (324, 8, 11, 0, false), (331, 8, 10, 2, true)]), (fun _ => none), (fun _ => none), (fun _ => none), ic_X, 2, 1, pj_mI, (fun _ => none), fun _ => false)
abbrev pk_X11_byteOf : List (Nat × List (Nat × Instr × Nat)) := [(0, [(0, .iload_n 1, 1), (1, .ifCond .lt 21, 3)]), (4, [(4, .iload_n 1, 1), (5, .aload_n 0, 1), (6, .getfield 61, 3), (9, .getfield 324, 3), (12, .if_icmp .ge 10, 3)]), (15, [(15, .iload_n 1, 1), (16, .sipush 600, 3), (19, .if_icmp .lt 14, 3)]), (22, [(22, .new 158, 3)]), (33, [(33, .aload_n 0, 1), (34, .getfield 61, 3), (37, .getfield 331, 3), (40, .iload_n 1, 1), (41, .iaload, 1), (42, .ireturn, 1)])]
set_option maxRecDepth 100000 in
theorem pq_X11_byteOf_22   (s : Nat → Int32) (l : Nat → Int64) (x : Nat → Int32) (y : Nat → Int64) : pl_X11_byteOf_22 s l x y = pj_bl px_X11_byteOf (pj_rn px_X11_byteOf (pj_as pk_X11_byteOf) (fun _ => none) 60) [(22, .new 158, 3)] 22 [] [] (s, l, x, y) := rfl
set_option maxRecDepth 100000 in
theorem pq_X11_byteOf_m  (a1 : Int32) (s : Nat → Int32) (l : Nat → Int64) (x : Nat → Int32) (y : Nat → Int64) : pf_X11_byteOf a1 s l x y = pj_bl px_X11_byteOf (pj_rn px_X11_byteOf (pj_as pk_X11_byteOf) (pj_as [(22, pe_X11_byteOf_22 (pl_X11_byteOf_22))]) 60) [(0, .iload_n 1, 1), (1, .ifCond .lt 21, 3)] 0 [(0, pj_O (0, 0)), (1, pj_I a1)] [] (s, l, x, y) := rfl
theorem pu_X11_byteOf_22 {lf : pj_Z → mj_M} {a : Int32 × pj_Z} (f : pj_F (Int32 × pj_Z)) (hf : ∀  (s : Nat → Int32) (l : Nat → Int64) (x : Nat → Int32) (y : Nat → Int64), f  s l x y = some a → pm_Gd 0 11031 ie_X11_byteOf.1 pm_rI lf 22 [] [] (s, l, x, y) a) : pm_Ex 0 11031 ie_X11_byteOf.1 pm_rI lf a 22 (pe_X11_byteOf_22 f) := by
  intro lv st z hd h
  obtain ⟨e9, h⟩ := pj_pe_inv h
  rw [e9]
  exact mj_wp_sub (mj_sub_nil hd) (hf  _ _ _ _ h)
set_option maxRecDepth 100000 in
theorem pz_X11_byteOf {lf : pj_Z → mj_M} (hT : pj_Lt pj_TC lf) : pj_Cok ic_P (mj_R ic_P 0) 11031 ie_X11_byteOf.1 (pm_OK lf pm_rI) lf px_X11_byteOf := by
  exact pm_cok (c := px_X11_byteOf) (pm_part hT (pj_as_all (p := fun b e => pj_TC b = some e) (List.forall_mem_cons.mpr ⟨rfl, (List.forall_mem_cons.mpr ⟨rfl, (List.forall_mem_cons.mpr ⟨rfl, (fun _ h => by cases h)⟩)⟩)⟩))) (pm_in_ok (L := [(61, 11, 7, 2, true), (324, 8, 11, 0, false), (331, 8, 10, 2, true)]) (f := mj_pF ic_P 11031) (by decide +kernel)) (fun _ _ h => by cases h) (fun _ _ h => by cases h) (fun _ _ h => by cases h) rfl rfl ⟨by decide, rfl⟩ pm_mI (fun _ _ h => by cases h) (fun _ h => by cases h)
set_option maxRecDepth 100000 in
theorem pb_X11_byteOf : pm_bks ie_X11_byteOf.1.2.2.2.2 pk_X11_byteOf = true := by decide +kernel
set_option maxRecDepth 100000 in
theorem pg_X11_byteOf_22 {lf : pj_Z → mj_M} (hT : pj_Lt pj_TC lf) : ∀  (s : Nat → Int32) (l : Nat → Int64) (x : Nat → Int32) (y : Nat → Int64) (a : Int32 × pj_Z), pl_X11_byteOf_22 s l x y = some a → pm_Gd 0 11031 ie_X11_byteOf.1 pm_rI lf 22 [] [] (s, l, x, y) a := by
  intro  s l x y a h
  exact pm_run ((pq_X11_byteOf_22   s l x y).symm.trans h) (pz_X11_byteOf hT) (pm_bks_ok pb_X11_byteOf) (pm_bks_ok pb_X11_byteOf _ _ rfl) (pm_ndb_ok rfl) (fun _ _ h => by cases h)
set_option maxRecDepth 100000 in
theorem pm_X11_byteOf {lf : pj_Z → mj_M} (hT : pj_Lt pj_TC lf) (a1 : Int32) (s : Nat → Int32) (l : Nat → Int64) (x : Nat → Int32) (y : Nat → Int64) (a : Int32 × pj_Z) (h : pf_X11_byteOf a1 s l x y = some a) : mj_R ic_P 1 11031 [.ref 0, .int a1] (lf (s, l, x, y)) (pm_rI a.1) (lf a.2) := by
  refine pm_main (Y := ie_X11_byteOf.1) rfl (Nat.le_of_ble_eq_true rfl) ?_
  exact pm_run ((pq_X11_byteOf_m a1 s l x y).symm.trans h) (pz_X11_byteOf hT) (pm_bks_ok pb_X11_byteOf) (pm_bks_ok pb_X11_byteOf _ _ rfl) (pm_ndb_ok rfl) (pj_as_all (p := pm_Ex 0 11031 ie_X11_byteOf.1 pm_rI lf a) (List.forall_mem_cons.mpr ⟨pu_X11_byteOf_22 _ (fun  s l x y h => pg_X11_byteOf_22 hT  s l x y _ h), (fun _ h => by cases h)⟩))
abbrev ph_X11_byteOf {A : Type} : List pj_V → pj_Z → (List pj_V → pj_Z → Option A) → Option A := fun st z K => pj_pi st fun a1 st => pj_pr st 0 0 fun st => pj_ps st (pj_b (pf_X11_byteOf a1 z.1 z.2.1 z.2.2.1 z.2.2.2) fun r s l x y => K (pj_I r :: st) (s, l, x, y))
set_option maxRecDepth 100000 in
theorem pc_X11_byteOf {A : Type} {OK : A → Option Value → mj_M → Prop} {d j pc ix : Nat} {Y : mj_Y} {lf : pj_Z → mj_M} (hT : pj_Lt pj_TC lf) (hd : 1 ≤ d) (hl : mj_lk Y.2.2.2.2 pc = some (.invokevirtual ix, 3)) (hg : mj_pG ic_P j ix = some (11031, 1, some 11)) {lv : List (Nat × Value)} {st : List pj_V} {z : pj_Z} {K : List pj_V → pj_Z → Option A} {a : A} (hK : ∀ st z, K st z = some a → pj_Gd ic_P (mj_R ic_P d) j Y OK lf (pc + 3) lv (pj_es st) z a) (h : ph_X11_byteOf st z K = some a) : pj_Gd ic_P (mj_R ic_P d) j Y OK lf pc lv (pj_es st) z a := by
  obtain ⟨a1, r1, e1, h⟩ := pj_pi_inv h
  obtain ⟨r0, e0, h⟩ := pj_pr_inv h
  obtain ⟨hs, h⟩ := pj_ps_inv h
  obtain ⟨q, hq, h⟩ := pj_b_inv h
  exact pm_cv (o := 0) hl hg [.int a1] rfl (by rw [e1, e0]; rfl) hs (by decide) ((hT.2 0 _ rfl).1.2 z 0 (by decide)) (pm_rI q.1) hd (pm_X11_byteOf hT a1 z.1 z.2.1 z.2.2.1 z.2.2.2 q hq) rfl (hK _ _ h)
abbrev px_X11_drain : pj_C (Int32 × pj_Z) := ((pj_as [(0, 11, 17, 1, 0, true, 0, [(2, 1), (2, 20), (2, 58), (2, 68), (2, 82), (2, 83), (2, 85), (2, 96), (2, 102), (2, 106), (2, 122), (0, 93), (0, 94), (0, 95), (1, 1), (1, 2), (0, 96)]), (96, 8, 18, 1, 0, true, 0, [(2, 97), (0, 62), (1, 18), (0, 63), (0, 64), (0, 65), (0, 66), (1, 19), (0, 67), (0, 68), (2, 98), (0, 69), (2, 99), (1, 20), (0, 70), (1, 21), (2, 100), (2, 101)])]), (pj_as [(61, 11, 7, 2, true), (324, 8, 11, 0, false)]), (fun _ => none), (fun _ => none), (fun _ => none), ic_X, 2, 1, pj_mI, (fun _ => none), fun _ => false)
abbrev pk_X11_drain : List (Nat × List (Nat × Instr × Nat)) := [(0, [(0, .aload_n 0, 1), (1, .getfield 61, 3), (4, .getfield 324, 3), (7, .istore_n 1, 1), (8, .aload_n 0, 1), (9, .getfield 61, 3), (12, .iconst 0, 1), (13, .putfield 324, 3), (16, .iload_n 1, 1), (17, .ireturn, 1)])]
set_option maxRecDepth 100000 in
theorem pq_X11_drain_m   (s : Nat → Int32) (l : Nat → Int64) (x : Nat → Int32) (y : Nat → Int64) : pf_X11_drain  s l x y = pj_bl px_X11_drain (pj_rn px_X11_drain (pj_as pk_X11_drain) (fun _ => none) 60) [(0, .aload_n 0, 1), (1, .getfield 61, 3), (4, .getfield 324, 3), (7, .istore_n 1, 1), (8, .aload_n 0, 1), (9, .getfield 61, 3), (12, .iconst 0, 1), (13, .putfield 324, 3), (16, .iload_n 1, 1), (17, .ireturn, 1)] 0 [(0, pj_O (0, 0))] [] (s, l, x, y) := rfl
set_option maxRecDepth 100000 in
theorem pz_X11_drain {lf : pj_Z → mj_M} (hT : pj_Lt pj_TC lf) : pj_Cok ic_P (mj_R ic_P 0) 11032 ie_X11_drain.1 (pm_OK lf pm_rI) lf px_X11_drain := by
  exact pm_cok (c := px_X11_drain) (pm_part hT (pj_as_all (p := fun b e => pj_TC b = some e) (List.forall_mem_cons.mpr ⟨rfl, (List.forall_mem_cons.mpr ⟨rfl, (fun _ h => by cases h)⟩)⟩))) (pm_in_ok (L := [(61, 11, 7, 2, true), (324, 8, 11, 0, false)]) (f := mj_pF ic_P 11032) (by decide +kernel)) (fun _ _ h => by cases h) (fun _ _ h => by cases h) (fun _ _ h => by cases h) rfl rfl ⟨by decide, rfl⟩ pm_mI (fun _ _ h => by cases h) (fun _ h => by cases h)
set_option maxRecDepth 100000 in
theorem pb_X11_drain : pm_bks ie_X11_drain.1.2.2.2.2 pk_X11_drain = true := by decide +kernel
set_option maxRecDepth 100000 in
theorem pm_X11_drain {lf : pj_Z → mj_M} (hT : pj_Lt pj_TC lf)  (s : Nat → Int32) (l : Nat → Int64) (x : Nat → Int32) (y : Nat → Int64) (a : Int32 × pj_Z) (h : pf_X11_drain  s l x y = some a) : mj_R ic_P 1 11032 [.ref 0] (lf (s, l, x, y)) (pm_rI a.1) (lf a.2) := by
  refine pm_main (Y := ie_X11_drain.1) rfl (Nat.le_of_ble_eq_true rfl) ?_
  exact pm_run ((pq_X11_drain_m  s l x y).symm.trans h) (pz_X11_drain hT) (pm_bks_ok pb_X11_drain) (pm_bks_ok pb_X11_drain _ _ rfl) (pm_ndb_ok rfl) (fun _ _ h => by cases h)
abbrev ph_X11_drain {A : Type} : List pj_V → pj_Z → (List pj_V → pj_Z → Option A) → Option A := fun st z K => pj_pr st 0 0 fun st => pj_ps st (pj_b (pf_X11_drain  z.1 z.2.1 z.2.2.1 z.2.2.2) fun r s l x y => K (pj_I r :: st) (s, l, x, y))
set_option maxRecDepth 100000 in
theorem pc_X11_drain {A : Type} {OK : A → Option Value → mj_M → Prop} {d j pc ix : Nat} {Y : mj_Y} {lf : pj_Z → mj_M} (hT : pj_Lt pj_TC lf) (hd : 1 ≤ d) (hl : mj_lk Y.2.2.2.2 pc = some (.invokevirtual ix, 3)) (hg : mj_pG ic_P j ix = some (11032, 0, some 11)) {lv : List (Nat × Value)} {st : List pj_V} {z : pj_Z} {K : List pj_V → pj_Z → Option A} {a : A} (hK : ∀ st z, K st z = some a → pj_Gd ic_P (mj_R ic_P d) j Y OK lf (pc + 3) lv (pj_es st) z a) (h : ph_X11_drain st z K = some a) : pj_Gd ic_P (mj_R ic_P d) j Y OK lf pc lv (pj_es st) z a := by
  obtain ⟨r0, e0, h⟩ := pj_pr_inv h
  obtain ⟨hs, h⟩ := pj_ps_inv h
  obtain ⟨q, hq, h⟩ := pj_b_inv h
  exact pm_cv (o := 0) hl hg [] rfl (by rw [e0]; rfl) hs (by decide) ((hT.2 0 _ rfl).1.2 z 0 (by decide)) (pm_rI q.1) hd (pm_X11_drain hT  z.1 z.2.1 z.2.2.1 z.2.2.2 q hq) rfl (hK _ _ h)
abbrev pe_X1_hearAllowed_46 (f : Int32 → Int32 → Int32 → Int32 → pj_F (Int32 × pj_Z)) : pj_K (Int32 × pj_Z) := fun lv st z => pj_xr lv 0 102 0 <| pj_xi lv 1 fun a1 => pj_xi lv 2 fun a2 => pj_xi lv 3 fun a3 => pj_xi lv 4 fun a4 => pj_pe st (f a1 a2 a3 a4 z.1 z.2.1 z.2.2.1 z.2.2.2)
abbrev pe_X1_hearAllowed_51 (f : Int32 → Int32 → Int32 → Int32 → Int32 → pj_F (Int32 × pj_Z)) : pj_K (Int32 × pj_Z) := fun lv st z => pj_xr lv 0 102 0 <| pj_xi lv 1 fun a1 => pj_xi lv 2 fun a2 => pj_xi lv 3 fun a3 => pj_xi lv 4 fun a4 => pj_pi st fun b0 st => pj_pe st (f a1 a2 a3 a4 b0 z.1 z.2.1 z.2.2.1 z.2.2.2)
abbrev pe_X1_hearAllowed_87 (f : pj_F (Int32 × pj_Z)) : pj_K (Int32 × pj_Z) := fun lv st z => pj_xr lv 0 102 0 <| pj_pe st (f  z.1 z.2.1 z.2.2.1 z.2.2.2)
abbrev px_X1_hearAllowed : pj_C (Int32 × pj_Z) := ((pj_as [(102, 1, 18, 1, 0, true, 0, [(2, 103), (2, 104), (2, 105), (1, 22), (0, 16), (0, 17), (0, 6), (0, 7), (0, 8), (0, 9), (0, 10), (1, 23), (0, 11), (0, 12), (0, 13), (0, 18), (0, 14), (0, 15)])]), (pj_as [(21, 1, 9, 0, false), (25, 1, 10, 0, false), (28, 1, 11, 0, false), (50, 1, 12, 0, false)]), (fun _ => none), (fun _ => none), (fun _ => none), ic_X, 6, 2, pj_mI, (pj_as [(76, ph_X1_checkOf)]), fun _ => false)
abbrev pk_X1_hearAllowed : List (Nat × List (Nat × Instr × Nat)) := [(0, [(0, .iload_n 1, 1), (1, .bipush 24, 2), (3, .iushr, 1), (4, .istore_n 3, 1), (5, .iload_n 2, 1), (6, .bipush 8, 2), (8, .iushr, 1), (9, .sipush 255, 3), (12, .iand, 1), (13, .istore 4, 2), (15, .aload_n 0, 1), (16, .getfield 28, 3), (19, .iconst (-1), 1), (20, .if_icmp .eq 26, 3)]), (23, [(23, .aload_n 0, 1), (24, .getfield 25, 3), (27, .bipush 20, 2), (29, .if_icmp .eq 17, 3)]), (32, [(32, .iload 4, 2), (34, .aload_n 0, 1), (35, .getfield 28, 3), (38, .iconst 1, 1), (39, .iadd, 1), (40, .bipush 16, 2), (42, .irem, 1), (43, .if_icmp .ne 7, 3)]), (46, [(46, .iconst 1, 1), (47, .goto 4, 3)]), (50, [(50, .iconst 0, 1)]), (51, [(51, .istore 5, 2), (53, .iload_n 3, 1), (54, .bipush 100, 2), (56, .if_icmp .gt 31, 3)]), (59, [(59, .iload 4, 2), (61, .bipush 15, 2), (63, .if_icmp .gt 24, 3)]), (66, [(66, .iload_n 2, 1), (67, .sipush 255, 3), (70, .iand, 1), (71, .iload_n 1, 1), (72, .iload_n 2, 1), (73, .bipush 8, 2), (75, .iushr, 1), (76, .invokestatic 78, 3), (79, .if_icmp .ne 8, 3)]), (82, [(82, .iload 5, 2), (84, .ifCond .ne 15, 3)]), (87, [(87, .aload_n 0, 1), (88, .dup, 1), (89, .getfield 50, 3), (92, .iconst 1, 1), (93, .iadd, 1), (94, .putfield 50, 3), (97, .iconst 0, 1), (98, .ireturn, 1)]), (99, [(99, .aload_n 0, 1), (100, .iload 4, 2), (102, .putfield 28, 3), (105, .aload_n 0, 1), (106, .bipush 10, 2), (108, .iload_n 3, 1), (109, .imul, 1), (110, .putfield 21, 3), (113, .aload_n 0, 1), (114, .iconst 0, 1), (115, .putfield 25, 3), (118, .iconst 1, 1), (119, .ireturn, 1)])]
set_option maxRecDepth 100000 in
theorem pq_X1_hearAllowed_87   (s : Nat → Int32) (l : Nat → Int64) (x : Nat → Int32) (y : Nat → Int64) : pl_X1_hearAllowed_87 s l x y = pj_bl px_X1_hearAllowed (pj_rn px_X1_hearAllowed (pj_as pk_X1_hearAllowed) (fun _ => none) 60) [(87, .aload_n 0, 1), (88, .dup, 1), (89, .getfield 50, 3), (92, .iconst 1, 1), (93, .iadd, 1), (94, .putfield 50, 3), (97, .iconst 0, 1), (98, .ireturn, 1)] 87 [(0, pj_O (102, 0))] [] (s, l, x, y) := rfl
set_option maxRecDepth 100000 in
theorem pq_X1_hearAllowed_51  (a1 : Int32) (a2 : Int32) (a3 : Int32) (a4 : Int32) (b0 : Int32) (s : Nat → Int32) (l : Nat → Int64) (x : Nat → Int32) (y : Nat → Int64) : pl_X1_hearAllowed_51 a1 a2 a3 a4 b0 s l x y = pj_bl px_X1_hearAllowed (pj_rn px_X1_hearAllowed (pj_as pk_X1_hearAllowed) (pj_as [(87, pe_X1_hearAllowed_87 (pl_X1_hearAllowed_87))]) 60) [(51, .istore 5, 2), (53, .iload_n 3, 1), (54, .bipush 100, 2), (56, .if_icmp .gt 31, 3)] 51 [(0, pj_O (102, 0)), (1, pj_I a1), (2, pj_I a2), (3, pj_I a3), (4, pj_I a4)] [pj_I b0] (s, l, x, y) := rfl
set_option maxRecDepth 100000 in
theorem pq_X1_hearAllowed_46  (a1 : Int32) (a2 : Int32) (a3 : Int32) (a4 : Int32) (s : Nat → Int32) (l : Nat → Int64) (x : Nat → Int32) (y : Nat → Int64) : pl_X1_hearAllowed_46 a1 a2 a3 a4 s l x y = pj_bl px_X1_hearAllowed (pj_rn px_X1_hearAllowed (pj_as pk_X1_hearAllowed) (pj_as [(51, pe_X1_hearAllowed_51 (pl_X1_hearAllowed_51))]) 60) [(46, .iconst 1, 1), (47, .goto 4, 3)] 46 [(0, pj_O (102, 0)), (1, pj_I a1), (2, pj_I a2), (3, pj_I a3), (4, pj_I a4)] [] (s, l, x, y) := rfl
set_option maxRecDepth 100000 in
theorem pq_X1_hearAllowed_m  (a1 : Int32) (a2 : Int32) (s : Nat → Int32) (l : Nat → Int64) (x : Nat → Int32) (y : Nat → Int64) : pf_X1_hearAllowed a1 a2 s l x y = pj_bl px_X1_hearAllowed (pj_rn px_X1_hearAllowed (pj_as pk_X1_hearAllowed) (pj_as [(46, pe_X1_hearAllowed_46 (pl_X1_hearAllowed_46)), (51, pe_X1_hearAllowed_51 (pl_X1_hearAllowed_51))]) 60) [(0, .iload_n 1, 1), (1, .bipush 24, 2), (3, .iushr, 1), (4, .istore_n 3, 1), (5, .iload_n 2, 1), (6, .bipush 8, 2), (8, .iushr, 1), (9, .sipush 255, 3), (12, .iand, 1), (13, .istore 4, 2), (15, .aload_n 0, 1), (16, .getfield 28, 3), (19, .iconst (-1), 1), (20, .if_icmp .eq 26, 3)] 0 [(0, pj_O (102, 0)), (1, pj_I a1), (2, pj_I a2)] [] (s, l, x, y) := rfl
theorem pu_X1_hearAllowed_46 {lf : pj_Z → mj_M} {a : Int32 × pj_Z} (f : Int32 → Int32 → Int32 → Int32 → pj_F (Int32 × pj_Z)) (hf : ∀ (a1 : Int32) (a2 : Int32) (a3 : Int32) (a4 : Int32) (s : Nat → Int32) (l : Nat → Int64) (x : Nat → Int32) (y : Nat → Int64), f a1 a2 a3 a4 s l x y = some a → pm_Gd 1 1009 ie_X1_hearAllowed.1 pm_rI lf 46 [(0, .ref 102), (1, .int a1), (2, .int a2), (3, .int a3), (4, .int a4)] [] (s, l, x, y) a) : pm_Ex 1 1009 ie_X1_hearAllowed.1 pm_rI lf a 46 (pe_X1_hearAllowed_46 f) := by
  intro lv st z hd h
  obtain ⟨g0, h⟩ := pj_xr_inv h
  obtain ⟨a1, g1, h⟩ := pj_xi_inv h
  obtain ⟨a2, g2, h⟩ := pj_xi_inv h
  obtain ⟨a3, g3, h⟩ := pj_xi_inv h
  obtain ⟨a4, g4, h⟩ := pj_xi_inv h
  obtain ⟨e9, h⟩ := pj_pe_inv h
  rw [e9]
  exact mj_wp_sub (mj_sub_cons g0 (mj_sub_cons g1 (mj_sub_cons g2 (mj_sub_cons g3 (mj_sub_cons g4 (mj_sub_nil hd)))))) (hf _ _ _ _ _ _ _ _ h)
theorem pu_X1_hearAllowed_51 {lf : pj_Z → mj_M} {a : Int32 × pj_Z} (f : Int32 → Int32 → Int32 → Int32 → Int32 → pj_F (Int32 × pj_Z)) (hf : ∀ (a1 : Int32) (a2 : Int32) (a3 : Int32) (a4 : Int32) (b0 : Int32) (s : Nat → Int32) (l : Nat → Int64) (x : Nat → Int32) (y : Nat → Int64), f a1 a2 a3 a4 b0 s l x y = some a → pm_Gd 1 1009 ie_X1_hearAllowed.1 pm_rI lf 51 [(0, .ref 102), (1, .int a1), (2, .int a2), (3, .int a3), (4, .int a4)] [.int b0] (s, l, x, y) a) : pm_Ex 1 1009 ie_X1_hearAllowed.1 pm_rI lf a 51 (pe_X1_hearAllowed_51 f) := by
  intro lv st z hd h
  obtain ⟨g0, h⟩ := pj_xr_inv h
  obtain ⟨a1, g1, h⟩ := pj_xi_inv h
  obtain ⟨a2, g2, h⟩ := pj_xi_inv h
  obtain ⟨a3, g3, h⟩ := pj_xi_inv h
  obtain ⟨a4, g4, h⟩ := pj_xi_inv h
  obtain ⟨b0, r0, e0, h⟩ := pj_pi_inv h
  obtain ⟨e9, h⟩ := pj_pe_inv h
  rw [e0, e9]
  exact mj_wp_sub (mj_sub_cons g0 (mj_sub_cons g1 (mj_sub_cons g2 (mj_sub_cons g3 (mj_sub_cons g4 (mj_sub_nil hd)))))) (hf _ _ _ _ _ _ _ _ _ h)
theorem pu_X1_hearAllowed_87 {lf : pj_Z → mj_M} {a : Int32 × pj_Z} (f : pj_F (Int32 × pj_Z)) (hf : ∀  (s : Nat → Int32) (l : Nat → Int64) (x : Nat → Int32) (y : Nat → Int64), f  s l x y = some a → pm_Gd 1 1009 ie_X1_hearAllowed.1 pm_rI lf 87 [(0, .ref 102)] [] (s, l, x, y) a) : pm_Ex 1 1009 ie_X1_hearAllowed.1 pm_rI lf a 87 (pe_X1_hearAllowed_87 f) := by
  intro lv st z hd h
  obtain ⟨g0, h⟩ := pj_xr_inv h
  obtain ⟨e9, h⟩ := pj_pe_inv h
  rw [e9]
  exact mj_wp_sub (mj_sub_cons g0 (mj_sub_nil hd)) (hf  _ _ _ _ h)
set_option maxRecDepth 100000 in
theorem pz_X1_hearAllowed {lf : pj_Z → mj_M} (hT : pj_Lt pj_TC lf) : pj_Cok ic_P (mj_R ic_P 1) 1009 ie_X1_hearAllowed.1 (pm_OK lf pm_rI) lf px_X1_hearAllowed := by
  exact pm_cok (c := px_X1_hearAllowed) (pm_part hT (pj_as_all (p := fun b e => pj_TC b = some e) (List.forall_mem_cons.mpr ⟨rfl, (fun _ h => by cases h)⟩))) (pm_in_ok (L := [(21, 1, 9, 0, false), (25, 1, 10, 0, false), (28, 1, 11, 0, false), (50, 1, 12, 0, false)]) (f := mj_pF ic_P 1009) (by decide +kernel)) (fun _ _ h => by cases h) (fun _ _ h => by cases h) (fun _ _ h => by cases h) rfl rfl ⟨by decide, rfl⟩ pm_mI (pj_as_all (p := pm_Cl 1 1009 ie_X1_hearAllowed.1 lf (pm_OK lf pm_rI)) (List.forall_mem_cons.mpr ⟨fun _ _ lv st z K a hK h => pc_X1_checkOf hT (by decide) (ix := 78) rfl rfl hK h, (fun _ h => by cases h)⟩)) (fun _ h => by cases h)
set_option maxRecDepth 100000 in
theorem pb_X1_hearAllowed : pm_bks ie_X1_hearAllowed.1.2.2.2.2 pk_X1_hearAllowed = true := by decide +kernel
set_option maxRecDepth 100000 in
theorem pg_X1_hearAllowed_87 {lf : pj_Z → mj_M} (hT : pj_Lt pj_TC lf) : ∀  (s : Nat → Int32) (l : Nat → Int64) (x : Nat → Int32) (y : Nat → Int64) (a : Int32 × pj_Z), pl_X1_hearAllowed_87 s l x y = some a → pm_Gd 1 1009 ie_X1_hearAllowed.1 pm_rI lf 87 [(0, .ref 102)] [] (s, l, x, y) a := by
  intro  s l x y a h
  exact pm_run ((pq_X1_hearAllowed_87   s l x y).symm.trans h) (pz_X1_hearAllowed hT) (pm_bks_ok pb_X1_hearAllowed) (pm_bks_ok pb_X1_hearAllowed _ _ rfl) (pm_ndb_ok rfl) (fun _ _ h => by cases h)
set_option maxRecDepth 100000 in
theorem pg_X1_hearAllowed_51 {lf : pj_Z → mj_M} (hT : pj_Lt pj_TC lf) : ∀ (a1 : Int32) (a2 : Int32) (a3 : Int32) (a4 : Int32) (b0 : Int32) (s : Nat → Int32) (l : Nat → Int64) (x : Nat → Int32) (y : Nat → Int64) (a : Int32 × pj_Z), pl_X1_hearAllowed_51 a1 a2 a3 a4 b0 s l x y = some a → pm_Gd 1 1009 ie_X1_hearAllowed.1 pm_rI lf 51 [(0, .ref 102), (1, .int a1), (2, .int a2), (3, .int a3), (4, .int a4)] [.int b0] (s, l, x, y) a := by
  intro a1 a2 a3 a4 b0 s l x y a h
  exact pm_run ((pq_X1_hearAllowed_51  a1 a2 a3 a4 b0 s l x y).symm.trans h) (pz_X1_hearAllowed hT) (pm_bks_ok pb_X1_hearAllowed) (pm_bks_ok pb_X1_hearAllowed _ _ rfl) (pm_ndb_ok rfl) (pj_as_all (p := pm_Ex 1 1009 ie_X1_hearAllowed.1 pm_rI lf a) (List.forall_mem_cons.mpr ⟨pu_X1_hearAllowed_87 _ (fun  s l x y h => pg_X1_hearAllowed_87 hT  s l x y _ h), (fun _ h => by cases h)⟩))
set_option maxRecDepth 100000 in
theorem pg_X1_hearAllowed_46 {lf : pj_Z → mj_M} (hT : pj_Lt pj_TC lf) : ∀ (a1 : Int32) (a2 : Int32) (a3 : Int32) (a4 : Int32) (s : Nat → Int32) (l : Nat → Int64) (x : Nat → Int32) (y : Nat → Int64) (a : Int32 × pj_Z), pl_X1_hearAllowed_46 a1 a2 a3 a4 s l x y = some a → pm_Gd 1 1009 ie_X1_hearAllowed.1 pm_rI lf 46 [(0, .ref 102), (1, .int a1), (2, .int a2), (3, .int a3), (4, .int a4)] [] (s, l, x, y) a := by
  intro a1 a2 a3 a4 s l x y a h
  exact pm_run ((pq_X1_hearAllowed_46  a1 a2 a3 a4 s l x y).symm.trans h) (pz_X1_hearAllowed hT) (pm_bks_ok pb_X1_hearAllowed) (pm_bks_ok pb_X1_hearAllowed _ _ rfl) (pm_ndb_ok rfl) (pj_as_all (p := pm_Ex 1 1009 ie_X1_hearAllowed.1 pm_rI lf a) (List.forall_mem_cons.mpr ⟨pu_X1_hearAllowed_51 _ (fun c0 c1 c2 c3 c4 s l x y h => pg_X1_hearAllowed_51 hT c0 c1 c2 c3 c4 s l x y _ h), (fun _ h => by cases h)⟩))
set_option maxRecDepth 100000 in
theorem pm_X1_hearAllowed {lf : pj_Z → mj_M} (hT : pj_Lt pj_TC lf) (a1 : Int32) (a2 : Int32) (s : Nat → Int32) (l : Nat → Int64) (x : Nat → Int32) (y : Nat → Int64) (a : Int32 × pj_Z) (h : pf_X1_hearAllowed a1 a2 s l x y = some a) : mj_R ic_P 2 1009 [.ref 102, .int a1, .int a2] (lf (s, l, x, y)) (pm_rI a.1) (lf a.2) := by
  refine pm_main (Y := ie_X1_hearAllowed.1) rfl (Nat.le_of_ble_eq_true rfl) ?_
  exact pm_run ((pq_X1_hearAllowed_m a1 a2 s l x y).symm.trans h) (pz_X1_hearAllowed hT) (pm_bks_ok pb_X1_hearAllowed) (pm_bks_ok pb_X1_hearAllowed _ _ rfl) (pm_ndb_ok rfl) (pj_as_all (p := pm_Ex 1 1009 ie_X1_hearAllowed.1 pm_rI lf a) (List.forall_mem_cons.mpr ⟨pu_X1_hearAllowed_46 _ (fun c0 c1 c2 c3 s l x y h => pg_X1_hearAllowed_46 hT c0 c1 c2 c3 s l x y _ h), (List.forall_mem_cons.mpr ⟨pu_X1_hearAllowed_51 _ (fun c0 c1 c2 c3 c4 s l x y h => pg_X1_hearAllowed_51 hT c0 c1 c2 c3 c4 s l x y _ h), (fun _ h => by cases h)⟩)⟩))
abbrev ph_X1_hearAllowed {A : Type} : List pj_V → pj_Z → (List pj_V → pj_Z → Option A) → Option A := fun st z K => pj_pi st fun a2 st => pj_pi st fun a1 st => pj_pr st 102 0 fun st => pj_ps st (pj_b (pf_X1_hearAllowed a1 a2 z.1 z.2.1 z.2.2.1 z.2.2.2) fun r s l x y => K (pj_I r :: st) (s, l, x, y))
set_option maxRecDepth 100000 in
theorem pc_X1_hearAllowed {A : Type} {OK : A → Option Value → mj_M → Prop} {d j pc ix : Nat} {Y : mj_Y} {lf : pj_Z → mj_M} (hT : pj_Lt pj_TC lf) (hd : 2 ≤ d) (hl : mj_lk Y.2.2.2.2 pc = some (.invokevirtual ix, 3)) (hg : mj_pG ic_P j ix = some (1009, 2, some 1)) {lv : List (Nat × Value)} {st : List pj_V} {z : pj_Z} {K : List pj_V → pj_Z → Option A} {a : A} (hK : ∀ st z, K st z = some a → pj_Gd ic_P (mj_R ic_P d) j Y OK lf (pc + 3) lv (pj_es st) z a) (h : ph_X1_hearAllowed st z K = some a) : pj_Gd ic_P (mj_R ic_P d) j Y OK lf pc lv (pj_es st) z a := by
  obtain ⟨a2, r2, e2, h⟩ := pj_pi_inv h
  obtain ⟨a1, r1, e1, h⟩ := pj_pi_inv h
  obtain ⟨r0, e0, h⟩ := pj_pr_inv h
  obtain ⟨hs, h⟩ := pj_ps_inv h
  obtain ⟨q, hq, h⟩ := pj_b_inv h
  exact pm_cv (o := 102) hl hg [.int a1, .int a2] rfl (by rw [e2, e1, e0]; rfl) hs (by decide) ((hT.2 102 _ rfl).1.2 z 0 (by decide)) (pm_rI q.1) hd (pm_X1_hearAllowed hT a1 a2 z.1 z.2.1 z.2.2.1 z.2.2.2 q hq) rfl (hK _ _ h)
abbrev px_X1_hearUnlock : pj_C (Int32 × pj_Z) := ((pj_as [(102, 1, 18, 1, 0, true, 0, [(2, 103), (2, 104), (2, 105), (1, 22), (0, 16), (0, 17), (0, 6), (0, 7), (0, 8), (0, 9), (0, 10), (1, 23), (0, 11), (0, 12), (0, 13), (0, 18), (0, 14), (0, 15)])]), (pj_as [(53, 1, 14, 3, false), (56, 1, 15, 0, false), (59, 1, 16, 0, false), (62, 1, 17, 0, false), (65, 1, 13, 0, false)]), (pj_as [(84, (-1640531535))]), (fun _ => none), (fun _ => none), ic_X, 3, 2, pj_mI, (fun _ => none), fun _ => false)
abbrev pk_X1_hearUnlock : List (Nat × List (Nat × Instr × Nat)) := [(0, [(0, .aload_n 0, 1), (1, .getfield 53, 3), (4, .ifCond .eq 10, 3)]), (7, [(7, .aload_n 0, 1), (8, .getfield 62, 3), (11, .ifCond .le 5, 3)]), (14, [(14, .iconst 0, 1), (15, .ireturn, 1)]), (16, [(16, .aload_n 0, 1), (17, .getfield 56, 3), (20, .aload_n 0, 1), (21, .getfield 65, 3), (24, .ixor, 1), (25, .ldc 84, 2), (27, .imul, 1), (28, .istore_n 2, 1), (29, .iload_n 1, 1), (30, .iload_n 2, 1), (31, .iload_n 2, 1), (32, .bipush 15, 2), (34, .iushr, 1), (35, .ixor, 1), (36, .if_icmp .ne 10, 3)]), (39, [(39, .aload_n 0, 1), (40, .iconst 0, 1), (41, .putfield 53, 3), (44, .iconst 1, 1), (45, .ireturn, 1)]), (46, [(46, .aload_n 0, 1), (47, .dup, 1), (48, .getfield 59, 3), (51, .iconst 1, 1), (52, .iadd, 1), (53, .putfield 59, 3), (56, .aload_n 0, 1), (57, .getfield 59, 3), (60, .iconst 5, 1), (61, .if_icmp .lt 15, 3)]), (64, [(64, .aload_n 0, 1), (65, .iconst 0, 1), (66, .putfield 59, 3), (69, .aload_n 0, 1), (70, .sipush 1000, 3), (73, .putfield 62, 3)]), (76, [(76, .iconst 0, 1), (77, .ireturn, 1)])]
set_option maxRecDepth 100000 in
theorem pq_X1_hearUnlock_m  (a1 : Int32) (s : Nat → Int32) (l : Nat → Int64) (x : Nat → Int32) (y : Nat → Int64) : pf_X1_hearUnlock a1 s l x y = pj_bl px_X1_hearUnlock (pj_rn px_X1_hearUnlock (pj_as pk_X1_hearUnlock) (fun _ => none) 60) [(0, .aload_n 0, 1), (1, .getfield 53, 3), (4, .ifCond .eq 10, 3)] 0 [(0, pj_O (102, 0)), (1, pj_I a1)] [] (s, l, x, y) := rfl
set_option maxRecDepth 100000 in
theorem pz_X1_hearUnlock {lf : pj_Z → mj_M} (hT : pj_Lt pj_TC lf) : pj_Cok ic_P (mj_R ic_P 0) 1010 ie_X1_hearUnlock.1 (pm_OK lf pm_rI) lf px_X1_hearUnlock := by
  exact pm_cok (c := px_X1_hearUnlock) (pm_part hT (pj_as_all (p := fun b e => pj_TC b = some e) (List.forall_mem_cons.mpr ⟨rfl, (fun _ h => by cases h)⟩))) (pm_in_ok (L := [(53, 1, 14, 3, false), (56, 1, 15, 0, false), (59, 1, 16, 0, false), (62, 1, 17, 0, false), (65, 1, 13, 0, false)]) (f := mj_pF ic_P 1010) (by decide +kernel)) (pm_inI_ok (L := [(84, (-1640531535))]) (f := mj_pK ic_P 1010) (by decide +kernel)) (fun _ _ h => by cases h) (fun _ _ h => by cases h) rfl rfl ⟨by decide, rfl⟩ pm_mI (fun _ _ h => by cases h) (fun _ h => by cases h)
set_option maxRecDepth 100000 in
theorem pb_X1_hearUnlock : pm_bks ie_X1_hearUnlock.1.2.2.2.2 pk_X1_hearUnlock = true := by decide +kernel
set_option maxRecDepth 100000 in
theorem pm_X1_hearUnlock {lf : pj_Z → mj_M} (hT : pj_Lt pj_TC lf) (a1 : Int32) (s : Nat → Int32) (l : Nat → Int64) (x : Nat → Int32) (y : Nat → Int64) (a : Int32 × pj_Z) (h : pf_X1_hearUnlock a1 s l x y = some a) : mj_R ic_P 1 1010 [.ref 102, .int a1] (lf (s, l, x, y)) (pm_rI a.1) (lf a.2) := by
  refine pm_main (Y := ie_X1_hearUnlock.1) rfl (Nat.le_of_ble_eq_true rfl) ?_
  exact pm_run ((pq_X1_hearUnlock_m a1 s l x y).symm.trans h) (pz_X1_hearUnlock hT) (pm_bks_ok pb_X1_hearUnlock) (pm_bks_ok pb_X1_hearUnlock _ _ rfl) (pm_ndb_ok rfl) (fun _ _ h => by cases h)
abbrev ph_X1_hearUnlock {A : Type} : List pj_V → pj_Z → (List pj_V → pj_Z → Option A) → Option A := fun st z K => pj_pi st fun a1 st => pj_pr st 102 0 fun st => pj_ps st (pj_b (pf_X1_hearUnlock a1 z.1 z.2.1 z.2.2.1 z.2.2.2) fun r s l x y => K (pj_I r :: st) (s, l, x, y))
set_option maxRecDepth 100000 in
theorem pc_X1_hearUnlock {A : Type} {OK : A → Option Value → mj_M → Prop} {d j pc ix : Nat} {Y : mj_Y} {lf : pj_Z → mj_M} (hT : pj_Lt pj_TC lf) (hd : 1 ≤ d) (hl : mj_lk Y.2.2.2.2 pc = some (.invokevirtual ix, 3)) (hg : mj_pG ic_P j ix = some (1010, 1, some 1)) {lv : List (Nat × Value)} {st : List pj_V} {z : pj_Z} {K : List pj_V → pj_Z → Option A} {a : A} (hK : ∀ st z, K st z = some a → pj_Gd ic_P (mj_R ic_P d) j Y OK lf (pc + 3) lv (pj_es st) z a) (h : ph_X1_hearUnlock st z K = some a) : pj_Gd ic_P (mj_R ic_P d) j Y OK lf pc lv (pj_es st) z a := by
  obtain ⟨a1, r1, e1, h⟩ := pj_pi_inv h
  obtain ⟨r0, e0, h⟩ := pj_pr_inv h
  obtain ⟨hs, h⟩ := pj_ps_inv h
  obtain ⟨q, hq, h⟩ := pj_b_inv h
  exact pm_cv (o := 102) hl hg [.int a1] rfl (by rw [e1, e0]; rfl) hs (by decide) ((hT.2 102 _ rfl).1.2 z 0 (by decide)) (pm_rI q.1) hd (pm_X1_hearUnlock hT a1 z.1 z.2.1 z.2.2.1 z.2.2.2 q hq) rfl (hK _ _ h)
abbrev pe_X11_frameComes_11 (f : pj_F (Int32 × pj_Z)) : pj_K (Int32 × pj_Z) := fun lv st z => pj_pe st (f  z.1 z.2.1 z.2.2.1 z.2.2.2)
abbrev px_X11_frameComes : pj_C (Int32 × pj_Z) := ((pj_as [(0, 11, 17, 1, 0, true, 0, [(2, 1), (2, 20), (2, 58), (2, 68), (2, 82), (2, 83), (2, 85), (2, 96), (2, 102), (2, 106), (2, 122), (0, 93), (0, 94), (0, 95), (1, 1), (1, 2), (0, 96)]), (102, 1, 18, 1, 0, true, 0, [(2, 103), (2, 104), (2, 105), (1, 22), (0, 16), (0, 17), (0, 6), (0, 7), (0, 8), (0, 9), (0, 10), (1, 23), (0, 11), (0, 12), (0, 13), (0, 18), (0, 14), (0, 15)])]), (pj_as [(68, 11, 8, 2, true), (90, 11, 12, 0, false), (336, 1, 7, 3, false)]), (fun _ => none), (fun _ => none), (fun _ => none), ic_X, 4, 2, pj_mI, (pj_as [(54, ph_X1_hearAllowed), (70, ph_X1_hearUnlock)]), fun _ => false)
abbrev pk_X11_frameComes : List (Nat × List (Nat × Instr × Nat)) := [(0, [(0, .iload_n 1, 1), (1, .ifCond .lt 10, 3)]), (4, [(4, .iload_n 1, 1), (5, .sipush 2047, 3), (8, .if_icmp .le 14, 3)]), (11, [(11, .new 107, 3)]), (22, [(22, .aload_n 0, 1), (23, .getfield 90, 3), (26, .ifCond .eq 13, 3)]), (29, [(29, .aload_n 0, 1), (30, .getfield 68, 3), (33, .getfield 336, 3), (36, .ifCond .eq 5, 3)]), (39, [(39, .iconst 0, 1), (40, .ireturn, 1)]), (41, [(41, .iload_n 1, 1), (42, .sipush 336, 3), (45, .if_icmp .ne 13, 3)]), (48, [(48, .aload_n 0, 1), (49, .getfield 68, 3), (52, .iload_n 2, 1), (53, .iload_n 3, 1), (54, .invokevirtual 339, 3), (57, .ireturn, 1)]), (58, [(58, .iload_n 1, 1), (59, .sipush 1281, 3), (62, .if_icmp .ne 18, 3)]), (65, [(65, .aload_n 0, 1), (66, .getfield 68, 3), (69, .iload_n 2, 1), (70, .invokevirtual 342, 3), (73, .ifCond .eq 7, 3)]), (76, [(76, .iconst 1, 1), (77, .goto 4, 3)]), (80, [(80, .iconst 0, 1)]), (81, [(81, .ireturn, 1)])]
set_option maxRecDepth 100000 in
theorem pq_X11_frameComes_11   (s : Nat → Int32) (l : Nat → Int64) (x : Nat → Int32) (y : Nat → Int64) : pl_X11_frameComes_11 s l x y = pj_bl px_X11_frameComes (pj_rn px_X11_frameComes (pj_as pk_X11_frameComes) (fun _ => none) 60) [(11, .new 107, 3)] 11 [] [] (s, l, x, y) := rfl
set_option maxRecDepth 100000 in
theorem pq_X11_frameComes_m  (a1 : Int32) (a2 : Int32) (a3 : Int32) (s : Nat → Int32) (l : Nat → Int64) (x : Nat → Int32) (y : Nat → Int64) : pf_X11_frameComes a1 a2 a3 s l x y = pj_bl px_X11_frameComes (pj_rn px_X11_frameComes (pj_as pk_X11_frameComes) (pj_as [(11, pe_X11_frameComes_11 (pl_X11_frameComes_11))]) 60) [(0, .iload_n 1, 1), (1, .ifCond .lt 10, 3)] 0 [(0, pj_O (0, 0)), (1, pj_I a1), (2, pj_I a2), (3, pj_I a3)] [] (s, l, x, y) := rfl
theorem pu_X11_frameComes_11 {lf : pj_Z → mj_M} {a : Int32 × pj_Z} (f : pj_F (Int32 × pj_Z)) (hf : ∀  (s : Nat → Int32) (l : Nat → Int64) (x : Nat → Int32) (y : Nat → Int64), f  s l x y = some a → pm_Gd 2 11033 ie_X11_frameComes.1 pm_rI lf 11 [] [] (s, l, x, y) a) : pm_Ex 2 11033 ie_X11_frameComes.1 pm_rI lf a 11 (pe_X11_frameComes_11 f) := by
  intro lv st z hd h
  obtain ⟨e9, h⟩ := pj_pe_inv h
  rw [e9]
  exact mj_wp_sub (mj_sub_nil hd) (hf  _ _ _ _ h)
set_option maxRecDepth 100000 in
theorem pz_X11_frameComes {lf : pj_Z → mj_M} (hT : pj_Lt pj_TC lf) : pj_Cok ic_P (mj_R ic_P 2) 11033 ie_X11_frameComes.1 (pm_OK lf pm_rI) lf px_X11_frameComes := by
  exact pm_cok (c := px_X11_frameComes) (pm_part hT (pj_as_all (p := fun b e => pj_TC b = some e) (List.forall_mem_cons.mpr ⟨rfl, (List.forall_mem_cons.mpr ⟨rfl, (fun _ h => by cases h)⟩)⟩))) (pm_in_ok (L := [(68, 11, 8, 2, true), (90, 11, 12, 0, false), (336, 1, 7, 3, false)]) (f := mj_pF ic_P 11033) (by decide +kernel)) (fun _ _ h => by cases h) (fun _ _ h => by cases h) (fun _ _ h => by cases h) rfl rfl ⟨by decide, rfl⟩ pm_mI (pj_as_all (p := pm_Cl 2 11033 ie_X11_frameComes.1 lf (pm_OK lf pm_rI)) (List.forall_mem_cons.mpr ⟨fun _ _ lv st z K a hK h => pc_X1_hearAllowed hT (by decide) (ix := 339) rfl rfl hK h, (List.forall_mem_cons.mpr ⟨fun _ _ lv st z K a hK h => pc_X1_hearUnlock hT (by decide) (ix := 342) rfl rfl hK h, (fun _ h => by cases h)⟩)⟩)) (fun _ h => by cases h)
set_option maxRecDepth 100000 in
theorem pb_X11_frameComes : pm_bks ie_X11_frameComes.1.2.2.2.2 pk_X11_frameComes = true := by decide +kernel
set_option maxRecDepth 100000 in
theorem pg_X11_frameComes_11 {lf : pj_Z → mj_M} (hT : pj_Lt pj_TC lf) : ∀  (s : Nat → Int32) (l : Nat → Int64) (x : Nat → Int32) (y : Nat → Int64) (a : Int32 × pj_Z), pl_X11_frameComes_11 s l x y = some a → pm_Gd 2 11033 ie_X11_frameComes.1 pm_rI lf 11 [] [] (s, l, x, y) a := by
  intro  s l x y a h
  exact pm_run ((pq_X11_frameComes_11   s l x y).symm.trans h) (pz_X11_frameComes hT) (pm_bks_ok pb_X11_frameComes) (pm_bks_ok pb_X11_frameComes _ _ rfl) (pm_ndb_ok rfl) (fun _ _ h => by cases h)
set_option maxRecDepth 100000 in
theorem pm_X11_frameComes {lf : pj_Z → mj_M} (hT : pj_Lt pj_TC lf) (a1 : Int32) (a2 : Int32) (a3 : Int32) (s : Nat → Int32) (l : Nat → Int64) (x : Nat → Int32) (y : Nat → Int64) (a : Int32 × pj_Z) (h : pf_X11_frameComes a1 a2 a3 s l x y = some a) : mj_R ic_P 3 11033 [.ref 0, .int a1, .int a2, .int a3] (lf (s, l, x, y)) (pm_rI a.1) (lf a.2) := by
  refine pm_main (Y := ie_X11_frameComes.1) rfl (Nat.le_of_ble_eq_true rfl) ?_
  exact pm_run ((pq_X11_frameComes_m a1 a2 a3 s l x y).symm.trans h) (pz_X11_frameComes hT) (pm_bks_ok pb_X11_frameComes) (pm_bks_ok pb_X11_frameComes _ _ rfl) (pm_ndb_ok rfl) (pj_as_all (p := pm_Ex 2 11033 ie_X11_frameComes.1 pm_rI lf a) (List.forall_mem_cons.mpr ⟨pu_X11_frameComes_11 _ (fun  s l x y h => pg_X11_frameComes_11 hT  s l x y _ h), (fun _ h => by cases h)⟩))
abbrev ph_X11_frameComes {A : Type} : List pj_V → pj_Z → (List pj_V → pj_Z → Option A) → Option A := fun st z K => pj_pi st fun a3 st => pj_pi st fun a2 st => pj_pi st fun a1 st => pj_pr st 0 0 fun st => pj_ps st (pj_b (pf_X11_frameComes a1 a2 a3 z.1 z.2.1 z.2.2.1 z.2.2.2) fun r s l x y => K (pj_I r :: st) (s, l, x, y))
set_option maxRecDepth 100000 in
theorem pc_X11_frameComes {A : Type} {OK : A → Option Value → mj_M → Prop} {d j pc ix : Nat} {Y : mj_Y} {lf : pj_Z → mj_M} (hT : pj_Lt pj_TC lf) (hd : 3 ≤ d) (hl : mj_lk Y.2.2.2.2 pc = some (.invokevirtual ix, 3)) (hg : mj_pG ic_P j ix = some (11033, 3, some 11)) {lv : List (Nat × Value)} {st : List pj_V} {z : pj_Z} {K : List pj_V → pj_Z → Option A} {a : A} (hK : ∀ st z, K st z = some a → pj_Gd ic_P (mj_R ic_P d) j Y OK lf (pc + 3) lv (pj_es st) z a) (h : ph_X11_frameComes st z K = some a) : pj_Gd ic_P (mj_R ic_P d) j Y OK lf pc lv (pj_es st) z a := by
  obtain ⟨a3, r3, e3, h⟩ := pj_pi_inv h
  obtain ⟨a2, r2, e2, h⟩ := pj_pi_inv h
  obtain ⟨a1, r1, e1, h⟩ := pj_pi_inv h
  obtain ⟨r0, e0, h⟩ := pj_pr_inv h
  obtain ⟨hs, h⟩ := pj_ps_inv h
  obtain ⟨q, hq, h⟩ := pj_b_inv h
  exact pm_cv (o := 0) hl hg [.int a1, .int a2, .int a3] rfl (by rw [e3, e2, e1, e0]; rfl) hs (by decide) ((hT.2 0 _ rfl).1.2 z 0 (by decide)) (pm_rI q.1) hd (pm_X11_frameComes hT a1 a2 a3 z.1 z.2.1 z.2.2.1 z.2.2.2 q hq) rfl (hK _ _ h)
abbrev px_X1_sentNumber : pj_C (Int32 × pj_Z) := ((pj_as [(102, 1, 18, 1, 0, true, 0, [(2, 103), (2, 104), (2, 105), (1, 22), (0, 16), (0, 17), (0, 6), (0, 7), (0, 8), (0, 9), (0, 10), (1, 23), (0, 11), (0, 12), (0, 13), (0, 18), (0, 14), (0, 15)]), (103, 100, 64, 1, 0, true, 5000, []), (104, 100, 64, 1, 0, true, 6000, []), (105, 100, 64, 1, 0, true, 7000, [])]), (pj_as [(11, 1, 0, 2, true), (15, 1, 1, 2, true), (18, 1, 2, 2, true), (31, 1, 3, 0, false)]), (fun _ => none), (fun _ => none), (fun _ => none), ic_X, 5, 1, pj_mI, (pj_as [(8, ph_J9_max_7cf53), (17, ph_J9_floorMod_7cf53)]), fun _ => false)
abbrev pk_X1_sentNumber : List (Nat × List (Nat × Instr × Nat)) := [(0, [(0, .iconst 0, 1), (1, .aload_n 0, 1), (2, .getfield 31, 3), (5, .bipush 64, 2), (7, .isub, 1), (8, .invokestatic 69, 3), (11, .istore_n 3, 1), (12, .iload_n 3, 1), (13, .iload_n 1, 1), (14, .iadd, 1), (15, .bipush 64, 2), (17, .invokestatic 81, 3), (20, .istore 4, 2), (22, .iload_n 2, 1), (23, .ifCond .ne 13, 3)]), (26, [(26, .aload_n 0, 1), (27, .getfield 11, 3), (30, .iload 4, 2), (32, .iaload, 1), (33, .goto 25, 3)]), (36, [(36, .iload_n 2, 1), (37, .iconst 1, 1), (38, .if_icmp .ne 13, 3)]), (41, [(41, .aload_n 0, 1), (42, .getfield 15, 3), (45, .iload 4, 2), (47, .iaload, 1), (48, .goto 10, 3)]), (51, [(51, .aload_n 0, 1), (52, .getfield 18, 3), (55, .iload 4, 2), (57, .iaload, 1)]), (58, [(58, .ireturn, 1)])]
set_option maxRecDepth 100000 in
theorem pq_X1_sentNumber_m  (a1 : Int32) (a2 : Int32) (s : Nat → Int32) (l : Nat → Int64) (x : Nat → Int32) (y : Nat → Int64) : pf_X1_sentNumber a1 a2 s l x y = pj_bl px_X1_sentNumber (pj_rn px_X1_sentNumber (pj_as pk_X1_sentNumber) (fun _ => none) 60) [(0, .iconst 0, 1), (1, .aload_n 0, 1), (2, .getfield 31, 3), (5, .bipush 64, 2), (7, .isub, 1), (8, .invokestatic 69, 3), (11, .istore_n 3, 1), (12, .iload_n 3, 1), (13, .iload_n 1, 1), (14, .iadd, 1), (15, .bipush 64, 2), (17, .invokestatic 81, 3), (20, .istore 4, 2), (22, .iload_n 2, 1), (23, .ifCond .ne 13, 3)] 0 [(0, pj_O (102, 0)), (1, pj_I a1), (2, pj_I a2)] [] (s, l, x, y) := rfl
set_option maxRecDepth 100000 in
theorem pz_X1_sentNumber {lf : pj_Z → mj_M} (hT : pj_Lt pj_TC lf) : pj_Cok ic_P (mj_R ic_P 1) 1007 ie_X1_sentNumber.1 (pm_OK lf pm_rI) lf px_X1_sentNumber := by
  exact pm_cok (c := px_X1_sentNumber) (pm_part hT (pj_as_all (p := fun b e => pj_TC b = some e) (List.forall_mem_cons.mpr ⟨rfl, (List.forall_mem_cons.mpr ⟨rfl, (List.forall_mem_cons.mpr ⟨rfl, (List.forall_mem_cons.mpr ⟨rfl, (fun _ h => by cases h)⟩)⟩)⟩)⟩))) (pm_in_ok (L := [(11, 1, 0, 2, true), (15, 1, 1, 2, true), (18, 1, 2, 2, true), (31, 1, 3, 0, false)]) (f := mj_pF ic_P 1007) (by decide +kernel)) (fun _ _ h => by cases h) (fun _ _ h => by cases h) (fun _ _ h => by cases h) rfl rfl ⟨by decide, rfl⟩ pm_mI (pj_as_all (p := pm_Cl 1 1007 ie_X1_sentNumber.1 lf (pm_OK lf pm_rI)) (List.forall_mem_cons.mpr ⟨fun _ _ lv st z K a hK h => pc_J9_max_7cf53 (pm_none hT) (by decide) (ix := 69) rfl rfl hK h, (List.forall_mem_cons.mpr ⟨fun _ _ lv st z K a hK h => pc_J9_floorMod_7cf53 (pm_none hT) (by decide) (ix := 81) rfl rfl hK h, (fun _ h => by cases h)⟩)⟩)) (fun _ h => by cases h)
set_option maxRecDepth 100000 in
theorem pb_X1_sentNumber : pm_bks ie_X1_sentNumber.1.2.2.2.2 pk_X1_sentNumber = true := by decide +kernel
set_option maxRecDepth 100000 in
theorem pm_X1_sentNumber {lf : pj_Z → mj_M} (hT : pj_Lt pj_TC lf) (a1 : Int32) (a2 : Int32) (s : Nat → Int32) (l : Nat → Int64) (x : Nat → Int32) (y : Nat → Int64) (a : Int32 × pj_Z) (h : pf_X1_sentNumber a1 a2 s l x y = some a) : mj_R ic_P 2 1007 [.ref 102, .int a1, .int a2] (lf (s, l, x, y)) (pm_rI a.1) (lf a.2) := by
  refine pm_main (Y := ie_X1_sentNumber.1) rfl (Nat.le_of_ble_eq_true rfl) ?_
  exact pm_run ((pq_X1_sentNumber_m a1 a2 s l x y).symm.trans h) (pz_X1_sentNumber hT) (pm_bks_ok pb_X1_sentNumber) (pm_bks_ok pb_X1_sentNumber _ _ rfl) (pm_ndb_ok rfl) (fun _ _ h => by cases h)
abbrev ph_X1_sentNumber {A : Type} : List pj_V → pj_Z → (List pj_V → pj_Z → Option A) → Option A := fun st z K => pj_pi st fun a2 st => pj_pi st fun a1 st => pj_pr st 102 0 fun st => pj_ps st (pj_b (pf_X1_sentNumber a1 a2 z.1 z.2.1 z.2.2.1 z.2.2.2) fun r s l x y => K (pj_I r :: st) (s, l, x, y))
set_option maxRecDepth 100000 in
theorem pc_X1_sentNumber {A : Type} {OK : A → Option Value → mj_M → Prop} {d j pc ix : Nat} {Y : mj_Y} {lf : pj_Z → mj_M} (hT : pj_Lt pj_TC lf) (hd : 2 ≤ d) (hl : mj_lk Y.2.2.2.2 pc = some (.invokevirtual ix, 3)) (hg : mj_pG ic_P j ix = some (1007, 2, some 1)) {lv : List (Nat × Value)} {st : List pj_V} {z : pj_Z} {K : List pj_V → pj_Z → Option A} {a : A} (hK : ∀ st z, K st z = some a → pj_Gd ic_P (mj_R ic_P d) j Y OK lf (pc + 3) lv (pj_es st) z a) (h : ph_X1_sentNumber st z K = some a) : pj_Gd ic_P (mj_R ic_P d) j Y OK lf pc lv (pj_es st) z a := by
  obtain ⟨a2, r2, e2, h⟩ := pj_pi_inv h
  obtain ⟨a1, r1, e1, h⟩ := pj_pi_inv h
  obtain ⟨r0, e0, h⟩ := pj_pr_inv h
  obtain ⟨hs, h⟩ := pj_ps_inv h
  obtain ⟨q, hq, h⟩ := pj_b_inv h
  exact pm_cv (o := 102) hl hg [.int a1, .int a2] rfl (by rw [e2, e1, e0]; rfl) hs (by decide) ((hT.2 102 _ rfl).1.2 z 0 (by decide)) (pm_rI q.1) hd (pm_X1_sentNumber hT a1 a2 z.1 z.2.1 z.2.2.1 z.2.2.2 q hq) rfl (hK _ _ h)
abbrev pe_X11_sent_29 (f : pj_F (Int32 × pj_Z)) : pj_K (Int32 × pj_Z) := fun lv st z => pj_pe st (f  z.1 z.2.1 z.2.2.1 z.2.2.2)
abbrev px_X11_sent : pj_C (Int32 × pj_Z) := ((pj_as [(0, 11, 17, 1, 0, true, 0, [(2, 1), (2, 20), (2, 58), (2, 68), (2, 82), (2, 83), (2, 85), (2, 96), (2, 102), (2, 106), (2, 122), (0, 93), (0, 94), (0, 95), (1, 1), (1, 2), (0, 96)]), (102, 1, 18, 1, 0, true, 0, [(2, 103), (2, 104), (2, 105), (1, 22), (0, 16), (0, 17), (0, 6), (0, 7), (0, 8), (0, 9), (0, 10), (1, 23), (0, 11), (0, 12), (0, 13), (0, 18), (0, 14), (0, 15)])]), (pj_as [(68, 11, 8, 2, true), (345, 1, 3, 0, false)]), (fun _ => none), (fun _ => none), (fun _ => none), ic_X, 3, 1, pj_mI, (pj_as [(14, ph_J9_min_7cf53), (46, ph_X1_sentNumber)]), fun _ => false)
abbrev pk_X11_sent : List (Nat × List (Nat × Instr × Nat)) := [(0, [(0, .iload_n 1, 1), (1, .ifCond .lt 28, 3)]), (4, [(4, .iload_n 1, 1), (5, .aload_n 0, 1), (6, .getfield 68, 3), (9, .getfield 345, 3), (12, .bipush 64, 2), (14, .invokestatic 348, 3), (17, .if_icmp .ge 12, 3)]), (20, [(20, .iload_n 2, 1), (21, .ifCond .lt 8, 3)]), (24, [(24, .iload_n 2, 1), (25, .iconst 2, 1), (26, .if_icmp .le 14, 3)]), (29, [(29, .new 158, 3)]), (40, [(40, .aload_n 0, 1), (41, .getfield 68, 3), (44, .iload_n 1, 1), (45, .iload_n 2, 1), (46, .invokevirtual 355, 3), (49, .ireturn, 1)])]
set_option maxRecDepth 100000 in
theorem pq_X11_sent_29   (s : Nat → Int32) (l : Nat → Int64) (x : Nat → Int32) (y : Nat → Int64) : pl_X11_sent_29 s l x y = pj_bl px_X11_sent (pj_rn px_X11_sent (pj_as pk_X11_sent) (fun _ => none) 60) [(29, .new 158, 3)] 29 [] [] (s, l, x, y) := rfl
set_option maxRecDepth 100000 in
theorem pq_X11_sent_m  (a1 : Int32) (a2 : Int32) (s : Nat → Int32) (l : Nat → Int64) (x : Nat → Int32) (y : Nat → Int64) : pf_X11_sent a1 a2 s l x y = pj_bl px_X11_sent (pj_rn px_X11_sent (pj_as pk_X11_sent) (pj_as [(29, pe_X11_sent_29 (pl_X11_sent_29))]) 60) [(0, .iload_n 1, 1), (1, .ifCond .lt 28, 3)] 0 [(0, pj_O (0, 0)), (1, pj_I a1), (2, pj_I a2)] [] (s, l, x, y) := rfl
theorem pu_X11_sent_29 {lf : pj_Z → mj_M} {a : Int32 × pj_Z} (f : pj_F (Int32 × pj_Z)) (hf : ∀  (s : Nat → Int32) (l : Nat → Int64) (x : Nat → Int32) (y : Nat → Int64), f  s l x y = some a → pm_Gd 2 11034 ie_X11_sent.1 pm_rI lf 29 [] [] (s, l, x, y) a) : pm_Ex 2 11034 ie_X11_sent.1 pm_rI lf a 29 (pe_X11_sent_29 f) := by
  intro lv st z hd h
  obtain ⟨e9, h⟩ := pj_pe_inv h
  rw [e9]
  exact mj_wp_sub (mj_sub_nil hd) (hf  _ _ _ _ h)
set_option maxRecDepth 100000 in
theorem pz_X11_sent {lf : pj_Z → mj_M} (hT : pj_Lt pj_TC lf) : pj_Cok ic_P (mj_R ic_P 2) 11034 ie_X11_sent.1 (pm_OK lf pm_rI) lf px_X11_sent := by
  exact pm_cok (c := px_X11_sent) (pm_part hT (pj_as_all (p := fun b e => pj_TC b = some e) (List.forall_mem_cons.mpr ⟨rfl, (List.forall_mem_cons.mpr ⟨rfl, (fun _ h => by cases h)⟩)⟩))) (pm_in_ok (L := [(68, 11, 8, 2, true), (345, 1, 3, 0, false)]) (f := mj_pF ic_P 11034) (by decide +kernel)) (fun _ _ h => by cases h) (fun _ _ h => by cases h) (fun _ _ h => by cases h) rfl rfl ⟨by decide, rfl⟩ pm_mI (pj_as_all (p := pm_Cl 2 11034 ie_X11_sent.1 lf (pm_OK lf pm_rI)) (List.forall_mem_cons.mpr ⟨fun _ _ lv st z K a hK h => pc_J9_min_7cf53 (pm_none hT) (by decide) (ix := 348) rfl rfl hK h, (List.forall_mem_cons.mpr ⟨fun _ _ lv st z K a hK h => pc_X1_sentNumber hT (by decide) (ix := 355) rfl rfl hK h, (fun _ h => by cases h)⟩)⟩)) (fun _ h => by cases h)
set_option maxRecDepth 100000 in
theorem pb_X11_sent : pm_bks ie_X11_sent.1.2.2.2.2 pk_X11_sent = true := by decide +kernel
set_option maxRecDepth 100000 in
theorem pg_X11_sent_29 {lf : pj_Z → mj_M} (hT : pj_Lt pj_TC lf) : ∀  (s : Nat → Int32) (l : Nat → Int64) (x : Nat → Int32) (y : Nat → Int64) (a : Int32 × pj_Z), pl_X11_sent_29 s l x y = some a → pm_Gd 2 11034 ie_X11_sent.1 pm_rI lf 29 [] [] (s, l, x, y) a := by
  intro  s l x y a h
  exact pm_run ((pq_X11_sent_29   s l x y).symm.trans h) (pz_X11_sent hT) (pm_bks_ok pb_X11_sent) (pm_bks_ok pb_X11_sent _ _ rfl) (pm_ndb_ok rfl) (fun _ _ h => by cases h)
set_option maxRecDepth 100000 in
theorem pm_X11_sent {lf : pj_Z → mj_M} (hT : pj_Lt pj_TC lf) (a1 : Int32) (a2 : Int32) (s : Nat → Int32) (l : Nat → Int64) (x : Nat → Int32) (y : Nat → Int64) (a : Int32 × pj_Z) (h : pf_X11_sent a1 a2 s l x y = some a) : mj_R ic_P 3 11034 [.ref 0, .int a1, .int a2] (lf (s, l, x, y)) (pm_rI a.1) (lf a.2) := by
  refine pm_main (Y := ie_X11_sent.1) rfl (Nat.le_of_ble_eq_true rfl) ?_
  exact pm_run ((pq_X11_sent_m a1 a2 s l x y).symm.trans h) (pz_X11_sent hT) (pm_bks_ok pb_X11_sent) (pm_bks_ok pb_X11_sent _ _ rfl) (pm_ndb_ok rfl) (pj_as_all (p := pm_Ex 2 11034 ie_X11_sent.1 pm_rI lf a) (List.forall_mem_cons.mpr ⟨pu_X11_sent_29 _ (fun  s l x y h => pg_X11_sent_29 hT  s l x y _ h), (fun _ h => by cases h)⟩))
abbrev ph_X11_sent {A : Type} : List pj_V → pj_Z → (List pj_V → pj_Z → Option A) → Option A := fun st z K => pj_pi st fun a2 st => pj_pi st fun a1 st => pj_pr st 0 0 fun st => pj_ps st (pj_b (pf_X11_sent a1 a2 z.1 z.2.1 z.2.2.1 z.2.2.2) fun r s l x y => K (pj_I r :: st) (s, l, x, y))
set_option maxRecDepth 100000 in
theorem pc_X11_sent {A : Type} {OK : A → Option Value → mj_M → Prop} {d j pc ix : Nat} {Y : mj_Y} {lf : pj_Z → mj_M} (hT : pj_Lt pj_TC lf) (hd : 3 ≤ d) (hl : mj_lk Y.2.2.2.2 pc = some (.invokevirtual ix, 3)) (hg : mj_pG ic_P j ix = some (11034, 2, some 11)) {lv : List (Nat × Value)} {st : List pj_V} {z : pj_Z} {K : List pj_V → pj_Z → Option A} {a : A} (hK : ∀ st z, K st z = some a → pj_Gd ic_P (mj_R ic_P d) j Y OK lf (pc + 3) lv (pj_es st) z a) (h : ph_X11_sent st z K = some a) : pj_Gd ic_P (mj_R ic_P d) j Y OK lf pc lv (pj_es st) z a := by
  obtain ⟨a2, r2, e2, h⟩ := pj_pi_inv h
  obtain ⟨a1, r1, e1, h⟩ := pj_pi_inv h
  obtain ⟨r0, e0, h⟩ := pj_pr_inv h
  obtain ⟨hs, h⟩ := pj_ps_inv h
  obtain ⟨q, hq, h⟩ := pj_b_inv h
  exact pm_cv (o := 0) hl hg [.int a1, .int a2] rfl (by rw [e2, e1, e0]; rfl) hs (by decide) ((hT.2 0 _ rfl).1.2 z 0 (by decide)) (pm_rI q.1) hd (pm_X11_sent hT a1 a2 z.1 z.2.1 z.2.2.1 z.2.2.2 q hq) rfl (hK _ _ h)
abbrev px_X1_disturb : pj_C (Unit × pj_Z) := ((pj_as [(102, 1, 18, 1, 0, true, 0, [(2, 103), (2, 104), (2, 105), (1, 22), (0, 16), (0, 17), (0, 6), (0, 7), (0, 8), (0, 9), (0, 10), (1, 23), (0, 11), (0, 12), (0, 13), (0, 18), (0, 14), (0, 15)])]), (pj_as [(40, 1, 6, 0, false), (43, 1, 7, 3, false), (47, 1, 8, 0, false)]), (fun _ => none), (fun _ => none), (fun _ => none), ic_X, 2, 0, pj_mU, (fun _ => none), fun _ => false)
abbrev pk_X1_disturb : List (Nat × List (Nat × Instr × Nat)) := [(0, [(0, .aload_n 0, 1), (1, .getfield 43, 3), (4, .ifCond .eq 4, 3)]), (7, [(7, .return_, 1)]), (8, [(8, .aload_n 0, 1), (9, .dup, 1), (10, .getfield 40, 3), (13, .iload_n 1, 1), (14, .iadd, 1), (15, .putfield 40, 3), (18, .aload_n 0, 1), (19, .getfield 40, 3), (22, .sipush 256, 3), (25, .if_icmp .lt 13, 3)]), (28, [(28, .aload_n 0, 1), (29, .iconst 1, 1), (30, .putfield 43, 3), (33, .aload_n 0, 1), (34, .iconst 0, 1), (35, .putfield 47, 3)]), (38, [(38, .return_, 1)])]
set_option maxRecDepth 100000 in
theorem pq_X1_disturb_m  (a1 : Int32) (s : Nat → Int32) (l : Nat → Int64) (x : Nat → Int32) (y : Nat → Int64) : pf_X1_disturb a1 s l x y = pj_bl px_X1_disturb (pj_rn px_X1_disturb (pj_as pk_X1_disturb) (fun _ => none) 60) [(0, .aload_n 0, 1), (1, .getfield 43, 3), (4, .ifCond .eq 4, 3)] 0 [(0, pj_O (102, 0)), (1, pj_I a1)] [] (s, l, x, y) := rfl
set_option maxRecDepth 100000 in
theorem pz_X1_disturb {lf : pj_Z → mj_M} (hT : pj_Lt pj_TC lf) : pj_Cok ic_P (mj_R ic_P 0) 1003 ie_X1_disturb.1 (pm_OK lf pm_rU) lf px_X1_disturb := by
  exact pm_cok (c := px_X1_disturb) (pm_part hT (pj_as_all (p := fun b e => pj_TC b = some e) (List.forall_mem_cons.mpr ⟨rfl, (fun _ h => by cases h)⟩))) (pm_in_ok (L := [(40, 1, 6, 0, false), (43, 1, 7, 3, false), (47, 1, 8, 0, false)]) (f := mj_pF ic_P 1003) (by decide +kernel)) (fun _ _ h => by cases h) (fun _ _ h => by cases h) (fun _ _ h => by cases h) rfl rfl ⟨by decide, rfl⟩ pm_mU (fun _ _ h => by cases h) (fun _ h => by cases h)
set_option maxRecDepth 100000 in
theorem pb_X1_disturb : pm_bks ie_X1_disturb.1.2.2.2.2 pk_X1_disturb = true := by decide +kernel
set_option maxRecDepth 100000 in
theorem pm_X1_disturb {lf : pj_Z → mj_M} (hT : pj_Lt pj_TC lf) (a1 : Int32) (s : Nat → Int32) (l : Nat → Int64) (x : Nat → Int32) (y : Nat → Int64) (a : Unit × pj_Z) (h : pf_X1_disturb a1 s l x y = some a) : mj_R ic_P 1 1003 [.ref 102, .int a1] (lf (s, l, x, y)) (pm_rU a.1) (lf a.2) := by
  refine pm_main (Y := ie_X1_disturb.1) rfl (Nat.le_of_ble_eq_true rfl) ?_
  exact pm_run ((pq_X1_disturb_m a1 s l x y).symm.trans h) (pz_X1_disturb hT) (pm_bks_ok pb_X1_disturb) (pm_bks_ok pb_X1_disturb _ _ rfl) (pm_ndb_ok rfl) (fun _ _ h => by cases h)
abbrev ph_X1_disturb {A : Type} : List pj_V → pj_Z → (List pj_V → pj_Z → Option A) → Option A := fun st z K => pj_pi st fun a1 st => pj_pr st 102 0 fun st => pj_ps st (pj_b (pf_X1_disturb a1 z.1 z.2.1 z.2.2.1 z.2.2.2) fun r s l x y => K st (s, l, x, y))
set_option maxRecDepth 100000 in
theorem pc_X1_disturb {A : Type} {OK : A → Option Value → mj_M → Prop} {d j pc ix : Nat} {Y : mj_Y} {lf : pj_Z → mj_M} (hT : pj_Lt pj_TC lf) (hd : 1 ≤ d) (hl : mj_lk Y.2.2.2.2 pc = some (.invokevirtual ix, 3)) (hg : mj_pG ic_P j ix = some (1003, 1, some 1)) {lv : List (Nat × Value)} {st : List pj_V} {z : pj_Z} {K : List pj_V → pj_Z → Option A} {a : A} (hK : ∀ st z, K st z = some a → pj_Gd ic_P (mj_R ic_P d) j Y OK lf (pc + 3) lv (pj_es st) z a) (h : ph_X1_disturb st z K = some a) : pj_Gd ic_P (mj_R ic_P d) j Y OK lf pc lv (pj_es st) z a := by
  obtain ⟨a1, r1, e1, h⟩ := pj_pi_inv h
  obtain ⟨r0, e0, h⟩ := pj_pr_inv h
  obtain ⟨hs, h⟩ := pj_ps_inv h
  obtain ⟨q, hq, h⟩ := pj_b_inv h
  exact pm_cv (o := 102) hl hg [.int a1] rfl (by rw [e1, e0]; rfl) hs (by decide) ((hT.2 102 _ rfl).1.2 z 0 (by decide)) (pm_rU q.1) hd (pm_X1_disturb hT a1 z.1 z.2.1 z.2.2.1 z.2.2.2 q hq) rfl (hK _ _ h)
abbrev pe_X11_noise_11 (f : pj_F (Int32 × pj_Z)) : pj_K (Int32 × pj_Z) := fun lv st z => pj_pe st (f  z.1 z.2.1 z.2.2.1 z.2.2.2)
abbrev px_X11_noise : pj_C (Int32 × pj_Z) := ((pj_as [(0, 11, 17, 1, 0, true, 0, [(2, 1), (2, 20), (2, 58), (2, 68), (2, 82), (2, 83), (2, 85), (2, 96), (2, 102), (2, 106), (2, 122), (0, 93), (0, 94), (0, 95), (1, 1), (1, 2), (0, 96)]), (102, 1, 18, 1, 0, true, 0, [(2, 103), (2, 104), (2, 105), (1, 22), (0, 16), (0, 17), (0, 6), (0, 7), (0, 8), (0, 9), (0, 10), (1, 23), (0, 11), (0, 12), (0, 13), (0, 18), (0, 14), (0, 15)])]), (pj_as [(68, 11, 8, 2, true), (90, 11, 12, 0, false), (363, 1, 6, 0, false)]), (fun _ => none), (fun _ => none), (fun _ => none), ic_X, 2, 1, pj_mI, (pj_as [(34, ph_X1_disturb)]), fun _ => false)
abbrev pk_X11_noise : List (Nat × List (Nat × Instr × Nat)) := [(0, [(0, .iload_n 1, 1), (1, .ifCond .lt 10, 3)]), (4, [(4, .iload_n 1, 1), (5, .sipush 300, 3), (8, .if_icmp .le 14, 3)]), (11, [(11, .new 107, 3)]), (22, [(22, .aload_n 0, 1), (23, .getfield 90, 3), (26, .ifCond .eq 11, 3)]), (29, [(29, .aload_n 0, 1), (30, .getfield 68, 3), (33, .iload_n 1, 1), (34, .invokevirtual 360, 3)]), (37, [(37, .aload_n 0, 1), (38, .getfield 68, 3), (41, .getfield 363, 3), (44, .ireturn, 1)])]
set_option maxRecDepth 100000 in
theorem pq_X11_noise_11   (s : Nat → Int32) (l : Nat → Int64) (x : Nat → Int32) (y : Nat → Int64) : pl_X11_noise_11 s l x y = pj_bl px_X11_noise (pj_rn px_X11_noise (pj_as pk_X11_noise) (fun _ => none) 60) [(11, .new 107, 3)] 11 [] [] (s, l, x, y) := rfl
set_option maxRecDepth 100000 in
theorem pq_X11_noise_m  (a1 : Int32) (s : Nat → Int32) (l : Nat → Int64) (x : Nat → Int32) (y : Nat → Int64) : pf_X11_noise a1 s l x y = pj_bl px_X11_noise (pj_rn px_X11_noise (pj_as pk_X11_noise) (pj_as [(11, pe_X11_noise_11 (pl_X11_noise_11))]) 60) [(0, .iload_n 1, 1), (1, .ifCond .lt 10, 3)] 0 [(0, pj_O (0, 0)), (1, pj_I a1)] [] (s, l, x, y) := rfl
theorem pu_X11_noise_11 {lf : pj_Z → mj_M} {a : Int32 × pj_Z} (f : pj_F (Int32 × pj_Z)) (hf : ∀  (s : Nat → Int32) (l : Nat → Int64) (x : Nat → Int32) (y : Nat → Int64), f  s l x y = some a → pm_Gd 1 11035 ie_X11_noise.1 pm_rI lf 11 [] [] (s, l, x, y) a) : pm_Ex 1 11035 ie_X11_noise.1 pm_rI lf a 11 (pe_X11_noise_11 f) := by
  intro lv st z hd h
  obtain ⟨e9, h⟩ := pj_pe_inv h
  rw [e9]
  exact mj_wp_sub (mj_sub_nil hd) (hf  _ _ _ _ h)
set_option maxRecDepth 100000 in
theorem pz_X11_noise {lf : pj_Z → mj_M} (hT : pj_Lt pj_TC lf) : pj_Cok ic_P (mj_R ic_P 1) 11035 ie_X11_noise.1 (pm_OK lf pm_rI) lf px_X11_noise := by
  exact pm_cok (c := px_X11_noise) (pm_part hT (pj_as_all (p := fun b e => pj_TC b = some e) (List.forall_mem_cons.mpr ⟨rfl, (List.forall_mem_cons.mpr ⟨rfl, (fun _ h => by cases h)⟩)⟩))) (pm_in_ok (L := [(68, 11, 8, 2, true), (90, 11, 12, 0, false), (363, 1, 6, 0, false)]) (f := mj_pF ic_P 11035) (by decide +kernel)) (fun _ _ h => by cases h) (fun _ _ h => by cases h) (fun _ _ h => by cases h) rfl rfl ⟨by decide, rfl⟩ pm_mI (pj_as_all (p := pm_Cl 1 11035 ie_X11_noise.1 lf (pm_OK lf pm_rI)) (List.forall_mem_cons.mpr ⟨fun _ _ lv st z K a hK h => pc_X1_disturb hT (by decide) (ix := 360) rfl rfl hK h, (fun _ h => by cases h)⟩)) (fun _ h => by cases h)
set_option maxRecDepth 100000 in
theorem pb_X11_noise : pm_bks ie_X11_noise.1.2.2.2.2 pk_X11_noise = true := by decide +kernel
set_option maxRecDepth 100000 in
theorem pg_X11_noise_11 {lf : pj_Z → mj_M} (hT : pj_Lt pj_TC lf) : ∀  (s : Nat → Int32) (l : Nat → Int64) (x : Nat → Int32) (y : Nat → Int64) (a : Int32 × pj_Z), pl_X11_noise_11 s l x y = some a → pm_Gd 1 11035 ie_X11_noise.1 pm_rI lf 11 [] [] (s, l, x, y) a := by
  intro  s l x y a h
  exact pm_run ((pq_X11_noise_11   s l x y).symm.trans h) (pz_X11_noise hT) (pm_bks_ok pb_X11_noise) (pm_bks_ok pb_X11_noise _ _ rfl) (pm_ndb_ok rfl) (fun _ _ h => by cases h)
set_option maxRecDepth 100000 in
theorem pm_X11_noise {lf : pj_Z → mj_M} (hT : pj_Lt pj_TC lf) (a1 : Int32) (s : Nat → Int32) (l : Nat → Int64) (x : Nat → Int32) (y : Nat → Int64) (a : Int32 × pj_Z) (h : pf_X11_noise a1 s l x y = some a) : mj_R ic_P 2 11035 [.ref 0, .int a1] (lf (s, l, x, y)) (pm_rI a.1) (lf a.2) := by
  refine pm_main (Y := ie_X11_noise.1) rfl (Nat.le_of_ble_eq_true rfl) ?_
  exact pm_run ((pq_X11_noise_m a1 s l x y).symm.trans h) (pz_X11_noise hT) (pm_bks_ok pb_X11_noise) (pm_bks_ok pb_X11_noise _ _ rfl) (pm_ndb_ok rfl) (pj_as_all (p := pm_Ex 1 11035 ie_X11_noise.1 pm_rI lf a) (List.forall_mem_cons.mpr ⟨pu_X11_noise_11 _ (fun  s l x y h => pg_X11_noise_11 hT  s l x y _ h), (fun _ h => by cases h)⟩))
abbrev ph_X11_noise {A : Type} : List pj_V → pj_Z → (List pj_V → pj_Z → Option A) → Option A := fun st z K => pj_pi st fun a1 st => pj_pr st 0 0 fun st => pj_ps st (pj_b (pf_X11_noise a1 z.1 z.2.1 z.2.2.1 z.2.2.2) fun r s l x y => K (pj_I r :: st) (s, l, x, y))
set_option maxRecDepth 100000 in
theorem pc_X11_noise {A : Type} {OK : A → Option Value → mj_M → Prop} {d j pc ix : Nat} {Y : mj_Y} {lf : pj_Z → mj_M} (hT : pj_Lt pj_TC lf) (hd : 2 ≤ d) (hl : mj_lk Y.2.2.2.2 pc = some (.invokevirtual ix, 3)) (hg : mj_pG ic_P j ix = some (11035, 1, some 11)) {lv : List (Nat × Value)} {st : List pj_V} {z : pj_Z} {K : List pj_V → pj_Z → Option A} {a : A} (hK : ∀ st z, K st z = some a → pj_Gd ic_P (mj_R ic_P d) j Y OK lf (pc + 3) lv (pj_es st) z a) (h : ph_X11_noise st z K = some a) : pj_Gd ic_P (mj_R ic_P d) j Y OK lf pc lv (pj_es st) z a := by
  obtain ⟨a1, r1, e1, h⟩ := pj_pi_inv h
  obtain ⟨r0, e0, h⟩ := pj_pr_inv h
  obtain ⟨hs, h⟩ := pj_ps_inv h
  obtain ⟨q, hq, h⟩ := pj_b_inv h
  exact pm_cv (o := 0) hl hg [.int a1] rfl (by rw [e1, e0]; rfl) hs (by decide) ((hT.2 0 _ rfl).1.2 z 0 (by decide)) (pm_rI q.1) hd (pm_X11_noise hT a1 z.1 z.2.1 z.2.2.1 z.2.2.2 q hq) rfl (hK _ _ h)
abbrev px_X0_addUnit : pj_C (Int32 × pj_Z) := ((pj_as [(106, 0, 19, 1, 0, true, 0, [(2, 107), (0, 1), (2, 108), (1, 24), (0, 2), (2, 111), (1, 25), (1, 26), (2, 114), (2, 115), (2, 116), (0, 3), (2, 117), (2, 118), (1, 27), (1, 28), (0, 4), (0, 5), (1, 29)]), (107, 100, 200, 1, 0, true, 1000, [])]), (pj_as [(11, 0, 0, 2, true), (53, 0, 1, 0, false)]), (fun _ => none), (fun _ => none), (fun _ => none), ic_X, 2, 2, pj_mI, (fun _ => none), fun _ => false)
abbrev pk_X0_addUnit : List (Nat × List (Nat × Instr × Nat)) := [(0, [(0, .aload_n 0, 1), (1, .getfield 53, 3), (4, .sipush 200, 3), (7, .if_icmp .ge 15, 3)]), (10, [(10, .iload_n 1, 1), (11, .bipush 32, 2), (13, .if_icmp .lt 9, 3)]), (16, [(16, .iload_n 1, 1), (17, .bipush 126, 2), (19, .if_icmp .le 5, 3)]), (22, [(22, .iconst 0, 1), (23, .ireturn, 1)]), (24, [(24, .aload_n 0, 1), (25, .getfield 11, 3), (28, .aload_n 0, 1), (29, .getfield 53, 3), (32, .iload_n 1, 1), (33, .iastore, 1), (34, .aload_n 0, 1), (35, .dup, 1), (36, .getfield 53, 3), (39, .iconst 1, 1), (40, .iadd, 1), (41, .putfield 53, 3), (44, .iconst 1, 1), (45, .ireturn, 1)])]
set_option maxRecDepth 100000 in
theorem pq_X0_addUnit_m  (a1 : Int32) (s : Nat → Int32) (l : Nat → Int64) (x : Nat → Int32) (y : Nat → Int64) : pf_X0_addUnit a1 s l x y = pj_bl px_X0_addUnit (pj_rn px_X0_addUnit (pj_as pk_X0_addUnit) (fun _ => none) 60) [(0, .aload_n 0, 1), (1, .getfield 53, 3), (4, .sipush 200, 3), (7, .if_icmp .ge 15, 3)] 0 [(0, pj_O (106, 0)), (1, pj_I a1)] [] (s, l, x, y) := rfl
set_option maxRecDepth 100000 in
theorem pz_X0_addUnit {lf : pj_Z → mj_M} (hT : pj_Lt pj_TC lf) : pj_Cok ic_P (mj_R ic_P 0) 2 ie_X0_addUnit.1 (pm_OK lf pm_rI) lf px_X0_addUnit := by
  exact pm_cok (c := px_X0_addUnit) (pm_part hT (pj_as_all (p := fun b e => pj_TC b = some e) (List.forall_mem_cons.mpr ⟨rfl, (List.forall_mem_cons.mpr ⟨rfl, (fun _ h => by cases h)⟩)⟩))) (pm_in_ok (L := [(11, 0, 0, 2, true), (53, 0, 1, 0, false)]) (f := mj_pF ic_P 2) (by decide +kernel)) (fun _ _ h => by cases h) (fun _ _ h => by cases h) (fun _ _ h => by cases h) rfl rfl ⟨by decide, rfl⟩ pm_mI (fun _ _ h => by cases h) (fun _ h => by cases h)
set_option maxRecDepth 100000 in
theorem pb_X0_addUnit : pm_bks ie_X0_addUnit.1.2.2.2.2 pk_X0_addUnit = true := by decide +kernel
set_option maxRecDepth 100000 in
theorem pm_X0_addUnit {lf : pj_Z → mj_M} (hT : pj_Lt pj_TC lf) (a1 : Int32) (s : Nat → Int32) (l : Nat → Int64) (x : Nat → Int32) (y : Nat → Int64) (a : Int32 × pj_Z) (h : pf_X0_addUnit a1 s l x y = some a) : mj_R ic_P 1 2 [.ref 106, .int a1] (lf (s, l, x, y)) (pm_rI a.1) (lf a.2) := by
  refine pm_main (Y := ie_X0_addUnit.1) rfl (Nat.le_of_ble_eq_true rfl) ?_
  exact pm_run ((pq_X0_addUnit_m a1 s l x y).symm.trans h) (pz_X0_addUnit hT) (pm_bks_ok pb_X0_addUnit) (pm_bks_ok pb_X0_addUnit _ _ rfl) (pm_ndb_ok rfl) (fun _ _ h => by cases h)
abbrev ph_X0_addUnit {A : Type} : List pj_V → pj_Z → (List pj_V → pj_Z → Option A) → Option A := fun st z K => pj_pi st fun a1 st => pj_pr st 106 0 fun st => pj_ps st (pj_b (pf_X0_addUnit a1 z.1 z.2.1 z.2.2.1 z.2.2.2) fun r s l x y => K (pj_I r :: st) (s, l, x, y))
set_option maxRecDepth 100000 in
theorem pc_X0_addUnit {A : Type} {OK : A → Option Value → mj_M → Prop} {d j pc ix : Nat} {Y : mj_Y} {lf : pj_Z → mj_M} (hT : pj_Lt pj_TC lf) (hd : 1 ≤ d) (hl : mj_lk Y.2.2.2.2 pc = some (.invokevirtual ix, 3)) (hg : mj_pG ic_P j ix = some (2, 1, some 0)) {lv : List (Nat × Value)} {st : List pj_V} {z : pj_Z} {K : List pj_V → pj_Z → Option A} {a : A} (hK : ∀ st z, K st z = some a → pj_Gd ic_P (mj_R ic_P d) j Y OK lf (pc + 3) lv (pj_es st) z a) (h : ph_X0_addUnit st z K = some a) : pj_Gd ic_P (mj_R ic_P d) j Y OK lf pc lv (pj_es st) z a := by
  obtain ⟨a1, r1, e1, h⟩ := pj_pi_inv h
  obtain ⟨r0, e0, h⟩ := pj_pr_inv h
  obtain ⟨hs, h⟩ := pj_ps_inv h
  obtain ⟨q, hq, h⟩ := pj_b_inv h
  exact pm_cv (o := 106) hl hg [.int a1] rfl (by rw [e1, e0]; rfl) hs (by decide) ((hT.2 106 _ rfl).1.2 z 0 (by decide)) (pm_rI q.1) hd (pm_X0_addUnit hT a1 z.1 z.2.1 z.2.2.1 z.2.2.2 q hq) rfl (hK _ _ h)
abbrev px_X11_unit : pj_C (Int32 × pj_Z) := ((pj_as [(0, 11, 17, 1, 0, true, 0, [(2, 1), (2, 20), (2, 58), (2, 68), (2, 82), (2, 83), (2, 85), (2, 96), (2, 102), (2, 106), (2, 122), (0, 93), (0, 94), (0, 95), (1, 1), (1, 2), (0, 96)])]), (pj_as [(75, 11, 9, 2, true)]), (fun _ => none), (fun _ => none), (fun _ => none), ic_X, 2, 2, pj_mI, (pj_as [(5, ph_X0_addUnit)]), fun _ => false)
abbrev pk_X11_unit : List (Nat × List (Nat × Instr × Nat)) := [(0, [(0, .aload_n 0, 1), (1, .getfield 75, 3), (4, .iload_n 1, 1), (5, .invokevirtual 366, 3), (8, .ireturn, 1)])]
set_option maxRecDepth 100000 in
theorem pq_X11_unit_m  (a1 : Int32) (s : Nat → Int32) (l : Nat → Int64) (x : Nat → Int32) (y : Nat → Int64) : pf_X11_unit a1 s l x y = pj_bl px_X11_unit (pj_rn px_X11_unit (pj_as pk_X11_unit) (fun _ => none) 60) [(0, .aload_n 0, 1), (1, .getfield 75, 3), (4, .iload_n 1, 1), (5, .invokevirtual 366, 3), (8, .ireturn, 1)] 0 [(0, pj_O (0, 0)), (1, pj_I a1)] [] (s, l, x, y) := rfl
set_option maxRecDepth 100000 in
theorem pz_X11_unit {lf : pj_Z → mj_M} (hT : pj_Lt pj_TC lf) : pj_Cok ic_P (mj_R ic_P 1) 11036 ie_X11_unit.1 (pm_OK lf pm_rI) lf px_X11_unit := by
  exact pm_cok (c := px_X11_unit) (pm_part hT (pj_as_all (p := fun b e => pj_TC b = some e) (List.forall_mem_cons.mpr ⟨rfl, (fun _ h => by cases h)⟩))) (pm_in_ok (L := [(75, 11, 9, 2, true)]) (f := mj_pF ic_P 11036) (by decide +kernel)) (fun _ _ h => by cases h) (fun _ _ h => by cases h) (fun _ _ h => by cases h) rfl rfl ⟨by decide, rfl⟩ pm_mI (pj_as_all (p := pm_Cl 1 11036 ie_X11_unit.1 lf (pm_OK lf pm_rI)) (List.forall_mem_cons.mpr ⟨fun _ _ lv st z K a hK h => pc_X0_addUnit hT (by decide) (ix := 366) rfl rfl hK h, (fun _ h => by cases h)⟩)) (fun _ h => by cases h)
set_option maxRecDepth 100000 in
theorem pb_X11_unit : pm_bks ie_X11_unit.1.2.2.2.2 pk_X11_unit = true := by decide +kernel
set_option maxRecDepth 100000 in
theorem pm_X11_unit {lf : pj_Z → mj_M} (hT : pj_Lt pj_TC lf) (a1 : Int32) (s : Nat → Int32) (l : Nat → Int64) (x : Nat → Int32) (y : Nat → Int64) (a : Int32 × pj_Z) (h : pf_X11_unit a1 s l x y = some a) : mj_R ic_P 2 11036 [.ref 0, .int a1] (lf (s, l, x, y)) (pm_rI a.1) (lf a.2) := by
  refine pm_main (Y := ie_X11_unit.1) rfl (Nat.le_of_ble_eq_true rfl) ?_
  exact pm_run ((pq_X11_unit_m a1 s l x y).symm.trans h) (pz_X11_unit hT) (pm_bks_ok pb_X11_unit) (pm_bks_ok pb_X11_unit _ _ rfl) (pm_ndb_ok rfl) (fun _ _ h => by cases h)
abbrev ph_X11_unit {A : Type} : List pj_V → pj_Z → (List pj_V → pj_Z → Option A) → Option A := fun st z K => pj_pi st fun a1 st => pj_pr st 0 0 fun st => pj_ps st (pj_b (pf_X11_unit a1 z.1 z.2.1 z.2.2.1 z.2.2.2) fun r s l x y => K (pj_I r :: st) (s, l, x, y))
set_option maxRecDepth 100000 in
theorem pc_X11_unit {A : Type} {OK : A → Option Value → mj_M → Prop} {d j pc ix : Nat} {Y : mj_Y} {lf : pj_Z → mj_M} (hT : pj_Lt pj_TC lf) (hd : 2 ≤ d) (hl : mj_lk Y.2.2.2.2 pc = some (.invokevirtual ix, 3)) (hg : mj_pG ic_P j ix = some (11036, 1, some 11)) {lv : List (Nat × Value)} {st : List pj_V} {z : pj_Z} {K : List pj_V → pj_Z → Option A} {a : A} (hK : ∀ st z, K st z = some a → pj_Gd ic_P (mj_R ic_P d) j Y OK lf (pc + 3) lv (pj_es st) z a) (h : ph_X11_unit st z K = some a) : pj_Gd ic_P (mj_R ic_P d) j Y OK lf pc lv (pj_es st) z a := by
  obtain ⟨a1, r1, e1, h⟩ := pj_pi_inv h
  obtain ⟨r0, e0, h⟩ := pj_pr_inv h
  obtain ⟨hs, h⟩ := pj_ps_inv h
  obtain ⟨q, hq, h⟩ := pj_b_inv h
  exact pm_cv (o := 0) hl hg [.int a1] rfl (by rw [e1, e0]; rfl) hs (by decide) ((hT.2 0 _ rfl).1.2 z 0 (by decide)) (pm_rI q.1) hd (pm_X11_unit hT a1 z.1 z.2.1 z.2.2.1 z.2.2.2 q hq) rfl (hK _ _ h)
abbrev pe_X0_nextSign_0 (f : pj_F (Int32 × pj_Z)) : pj_K (Int32 × pj_Z) := fun lv st z => pj_xr lv 0 106 0 <| pj_pe st (f  z.1 z.2.1 z.2.2.1 z.2.2.2)
abbrev pe_X0_nextSign_48 (f : pj_F (Int32 × pj_Z)) : pj_K (Int32 × pj_Z) := fun lv st z => pj_xr lv 0 106 0 <| pj_pe st (f  z.1 z.2.1 z.2.2.1 z.2.2.2)
abbrev px_X0_nextSign : pj_C (Int32 × pj_Z) := ((pj_as [(106, 0, 19, 1, 0, true, 0, [(2, 107), (0, 1), (2, 108), (1, 24), (0, 2), (2, 111), (1, 25), (1, 26), (2, 114), (2, 115), (2, 116), (0, 3), (2, 117), (2, 118), (1, 27), (1, 28), (0, 4), (0, 5), (1, 29)]), (107, 100, 200, 1, 0, true, 1000, [])]), (pj_as [(11, 0, 0, 2, true), (53, 0, 1, 0, false), (56, 0, 7, 0, false)]), (fun _ => none), (fun _ => none), (fun _ => none), ic_X, 1, 1, pj_mI, (fun _ => none), fun _ => false)
abbrev pk_X0_nextSign : List (Nat × List (Nat × Instr × Nat)) := [(0, [(0, .aload_n 0, 1), (1, .getfield 56, 3), (4, .aload_n 0, 1), (5, .getfield 53, 3), (8, .if_icmp .ge 40, 3)]), (11, [(11, .aload_n 0, 1), (12, .getfield 56, 3), (15, .sipush 200, 3), (18, .if_icmp .ge 30, 3)]), (21, [(21, .aload_n 0, 1), (22, .getfield 11, 3), (25, .aload_n 0, 1), (26, .getfield 56, 3), (29, .iaload, 1), (30, .bipush 32, 2), (32, .if_icmp .ne 16, 3)]), (35, [(35, .aload_n 0, 1), (36, .dup, 1), (37, .getfield 56, 3), (40, .iconst 1, 1), (41, .iadd, 1), (42, .putfield 56, 3), (45, .goto (-45), 3)]), (48, [(48, .aload_n 0, 1), (49, .getfield 56, 3), (52, .aload_n 0, 1), (53, .getfield 53, 3), (56, .if_icmp .ge 25, 3)]), (59, [(59, .aload_n 0, 1), (60, .getfield 56, 3), (63, .sipush 200, 3), (66, .if_icmp .ge 15, 3)]), (69, [(69, .aload_n 0, 1), (70, .getfield 11, 3), (73, .aload_n 0, 1), (74, .getfield 56, 3), (77, .iaload, 1), (78, .goto 4, 3)]), (81, [(81, .iconst (-1), 1)]), (82, [(82, .ireturn, 1)])]
set_option maxRecDepth 100000 in
theorem pq_X0_nextSign_48 (fu : Nat)   (s : Nat → Int32) (l : Nat → Int64) (x : Nat → Int32) (y : Nat → Int64) : pl_X0_nextSign_48 fu s l x y = pj_bl px_X0_nextSign (pj_rn px_X0_nextSign (pj_as pk_X0_nextSign) (fun _ => none) 60) [(48, .aload_n 0, 1), (49, .getfield 56, 3), (52, .aload_n 0, 1), (53, .getfield 53, 3), (56, .if_icmp .ge 25, 3)] 48 [(0, pj_O (106, 0))] [] (s, l, x, y) := rfl
set_option maxRecDepth 100000 in
theorem pq_X0_nextSign_0 (fu : Nat)  (n : Nat)  (s : Nat → Int32) (l : Nat → Int64) (x : Nat → Int32) (y : Nat → Int64) : pl_X0_nextSign_0 fu (n + 1) s l x y = pj_bl px_X0_nextSign (pj_rn px_X0_nextSign (pj_as pk_X0_nextSign) (pj_as [(0, pe_X0_nextSign_0 (pl_X0_nextSign_0 fu n)), (48, pe_X0_nextSign_48 (pl_X0_nextSign_48 fu))]) 60) [(0, .aload_n 0, 1), (1, .getfield 56, 3), (4, .aload_n 0, 1), (5, .getfield 53, 3), (8, .if_icmp .ge 40, 3)] 0 [(0, pj_O (106, 0))] [] (s, l, x, y) := rfl
theorem pu_X0_nextSign_0 {lf : pj_Z → mj_M} {a : Int32 × pj_Z} (f : pj_F (Int32 × pj_Z)) (hf : ∀  (s : Nat → Int32) (l : Nat → Int64) (x : Nat → Int32) (y : Nat → Int64), f  s l x y = some a → pm_Gd 0 4 ie_X0_nextSign.1 pm_rI lf 0 [(0, .ref 106)] [] (s, l, x, y) a) : pm_Ex 0 4 ie_X0_nextSign.1 pm_rI lf a 0 (pe_X0_nextSign_0 f) := by
  intro lv st z hd h
  obtain ⟨g0, h⟩ := pj_xr_inv h
  obtain ⟨e9, h⟩ := pj_pe_inv h
  rw [e9]
  exact mj_wp_sub (mj_sub_cons g0 (mj_sub_nil hd)) (hf  _ _ _ _ h)
theorem pu_X0_nextSign_48 {lf : pj_Z → mj_M} {a : Int32 × pj_Z} (f : pj_F (Int32 × pj_Z)) (hf : ∀  (s : Nat → Int32) (l : Nat → Int64) (x : Nat → Int32) (y : Nat → Int64), f  s l x y = some a → pm_Gd 0 4 ie_X0_nextSign.1 pm_rI lf 48 [(0, .ref 106)] [] (s, l, x, y) a) : pm_Ex 0 4 ie_X0_nextSign.1 pm_rI lf a 48 (pe_X0_nextSign_48 f) := by
  intro lv st z hd h
  obtain ⟨g0, h⟩ := pj_xr_inv h
  obtain ⟨e9, h⟩ := pj_pe_inv h
  rw [e9]
  exact mj_wp_sub (mj_sub_cons g0 (mj_sub_nil hd)) (hf  _ _ _ _ h)
set_option maxRecDepth 100000 in
theorem pz_X0_nextSign {lf : pj_Z → mj_M} (hT : pj_Lt pj_TC lf) : pj_Cok ic_P (mj_R ic_P 0) 4 ie_X0_nextSign.1 (pm_OK lf pm_rI) lf px_X0_nextSign := by
  exact pm_cok (c := px_X0_nextSign) (pm_part hT (pj_as_all (p := fun b e => pj_TC b = some e) (List.forall_mem_cons.mpr ⟨rfl, (List.forall_mem_cons.mpr ⟨rfl, (fun _ h => by cases h)⟩)⟩))) (pm_in_ok (L := [(11, 0, 0, 2, true), (53, 0, 1, 0, false), (56, 0, 7, 0, false)]) (f := mj_pF ic_P 4) (by decide +kernel)) (fun _ _ h => by cases h) (fun _ _ h => by cases h) (fun _ _ h => by cases h) rfl rfl ⟨by decide, rfl⟩ pm_mI (fun _ _ h => by cases h) (fun _ h => by cases h)
set_option maxRecDepth 100000 in
theorem pb_X0_nextSign : pm_bks ie_X0_nextSign.1.2.2.2.2 pk_X0_nextSign = true := by decide +kernel
set_option maxRecDepth 100000 in
theorem pg_X0_nextSign_48 {fu : Nat} {lf : pj_Z → mj_M} (hT : pj_Lt pj_TC lf) : ∀  (s : Nat → Int32) (l : Nat → Int64) (x : Nat → Int32) (y : Nat → Int64) (a : Int32 × pj_Z), pl_X0_nextSign_48 fu s l x y = some a → pm_Gd 0 4 ie_X0_nextSign.1 pm_rI lf 48 [(0, .ref 106)] [] (s, l, x, y) a := by
  intro  s l x y a h
  exact pm_run ((pq_X0_nextSign_48 fu  s l x y).symm.trans h) (pz_X0_nextSign hT) (pm_bks_ok pb_X0_nextSign) (pm_bks_ok pb_X0_nextSign _ _ rfl) (pm_ndb_ok rfl) (fun _ _ h => by cases h)
set_option maxRecDepth 100000 in
theorem pg_X0_nextSign_0 {fu : Nat} {lf : pj_Z → mj_M} (hT : pj_Lt pj_TC lf) : ∀ (n : Nat), ∀  (s : Nat → Int32) (l : Nat → Int64) (x : Nat → Int32) (y : Nat → Int64) (a : Int32 × pj_Z), pl_X0_nextSign_0 fu n s l x y = some a → pm_Gd 0 4 ie_X0_nextSign.1 pm_rI lf 0 [(0, .ref 106)] [] (s, l, x, y) a := by
  intro n
  induction n with
  | zero => intro  s l x y a h; cases (show (none : Option (Int32 × pj_Z)) = some a from h)
  | succ n ih =>
    intro  s l x y a h
    exact pm_run ((pq_X0_nextSign_0 fu n  s l x y).symm.trans h) (pz_X0_nextSign hT) (pm_bks_ok pb_X0_nextSign) (pm_bks_ok pb_X0_nextSign _ _ rfl) (pm_ndb_ok rfl) (pj_as_all (p := pm_Ex 0 4 ie_X0_nextSign.1 pm_rI lf a) (List.forall_mem_cons.mpr ⟨pu_X0_nextSign_0 _ (fun  s l x y h => ih  s l x y _ h), (List.forall_mem_cons.mpr ⟨pu_X0_nextSign_48 _ (fun  s l x y h => pg_X0_nextSign_48 hT  s l x y _ h), (fun _ h => by cases h)⟩)⟩))
set_option maxRecDepth 100000 in
theorem pm_X0_nextSign {lf : pj_Z → mj_M} (hT : pj_Lt pj_TC lf)  (s : Nat → Int32) (l : Nat → Int64) (x : Nat → Int32) (y : Nat → Int64) (a : Int32 × pj_Z) (h : pf_X0_nextSign  s l x y = some a) : mj_R ic_P 1 4 [.ref 106] (lf (s, l, x, y)) (pm_rI a.1) (lf a.2) := by
  refine pm_main (Y := ie_X0_nextSign.1) rfl (Nat.le_of_ble_eq_true rfl) ?_
  exact pg_X0_nextSign_0 (fu := 1000) hT 1000  s l x y a h
abbrev ph_X0_nextSign {A : Type} : List pj_V → pj_Z → (List pj_V → pj_Z → Option A) → Option A := fun st z K => pj_pr st 106 0 fun st => pj_ps st (pj_b (pf_X0_nextSign  z.1 z.2.1 z.2.2.1 z.2.2.2) fun r s l x y => K (pj_I r :: st) (s, l, x, y))
set_option maxRecDepth 100000 in
theorem pc_X0_nextSign {A : Type} {OK : A → Option Value → mj_M → Prop} {d j pc ix : Nat} {Y : mj_Y} {lf : pj_Z → mj_M} (hT : pj_Lt pj_TC lf) (hd : 1 ≤ d) (hl : mj_lk Y.2.2.2.2 pc = some (.invokevirtual ix, 3)) (hg : mj_pG ic_P j ix = some (4, 0, some 0)) {lv : List (Nat × Value)} {st : List pj_V} {z : pj_Z} {K : List pj_V → pj_Z → Option A} {a : A} (hK : ∀ st z, K st z = some a → pj_Gd ic_P (mj_R ic_P d) j Y OK lf (pc + 3) lv (pj_es st) z a) (h : ph_X0_nextSign st z K = some a) : pj_Gd ic_P (mj_R ic_P d) j Y OK lf pc lv (pj_es st) z a := by
  obtain ⟨r0, e0, h⟩ := pj_pr_inv h
  obtain ⟨hs, h⟩ := pj_ps_inv h
  obtain ⟨q, hq, h⟩ := pj_b_inv h
  exact pm_cv (o := 106) hl hg [] rfl (by rw [e0]; rfl) hs (by decide) ((hT.2 106 _ rfl).1.2 z 0 (by decide)) (pm_rI q.1) hd (pm_X0_nextSign hT  z.1 z.2.1 z.2.2.1 z.2.2.2 q hq) rfl (hK _ _ h)
abbrev px_X0_readSign : pj_C (Int32 × pj_Z) := ((pj_as [(106, 0, 19, 1, 0, true, 0, [(2, 107), (0, 1), (2, 108), (1, 24), (0, 2), (2, 111), (1, 25), (1, 26), (2, 114), (2, 115), (2, 116), (0, 3), (2, 117), (2, 118), (1, 27), (1, 28), (0, 4), (0, 5), (1, 29)])]), (pj_as [(56, 0, 7, 0, false)]), (fun _ => none), (fun _ => none), (fun _ => none), ic_X, 2, 2, pj_mI, (pj_as [(1, ph_X0_nextSign)]), fun _ => false)
abbrev pk_X0_readSign : List (Nat × List (Nat × Instr × Nat)) := [(0, [(0, .aload_n 0, 1), (1, .invokevirtual 70, 3), (4, .iload_n 1, 1), (5, .if_icmp .eq 5, 3)]), (8, [(8, .iconst 0, 1), (9, .ireturn, 1)]), (10, [(10, .aload_n 0, 1), (11, .dup, 1), (12, .getfield 56, 3), (15, .iconst 1, 1), (16, .iadd, 1), (17, .putfield 56, 3), (20, .iconst 1, 1), (21, .ireturn, 1)])]
set_option maxRecDepth 100000 in
theorem pq_X0_readSign_m  (a1 : Int32) (s : Nat → Int32) (l : Nat → Int64) (x : Nat → Int32) (y : Nat → Int64) : pf_X0_readSign a1 s l x y = pj_bl px_X0_readSign (pj_rn px_X0_readSign (pj_as pk_X0_readSign) (fun _ => none) 60) [(0, .aload_n 0, 1), (1, .invokevirtual 70, 3), (4, .iload_n 1, 1), (5, .if_icmp .eq 5, 3)] 0 [(0, pj_O (106, 0)), (1, pj_I a1)] [] (s, l, x, y) := rfl
set_option maxRecDepth 100000 in
theorem pz_X0_readSign {lf : pj_Z → mj_M} (hT : pj_Lt pj_TC lf) : pj_Cok ic_P (mj_R ic_P 1) 5 ie_X0_readSign.1 (pm_OK lf pm_rI) lf px_X0_readSign := by
  exact pm_cok (c := px_X0_readSign) (pm_part hT (pj_as_all (p := fun b e => pj_TC b = some e) (List.forall_mem_cons.mpr ⟨rfl, (fun _ h => by cases h)⟩))) (pm_in_ok (L := [(56, 0, 7, 0, false)]) (f := mj_pF ic_P 5) (by decide +kernel)) (fun _ _ h => by cases h) (fun _ _ h => by cases h) (fun _ _ h => by cases h) rfl rfl ⟨by decide, rfl⟩ pm_mI (pj_as_all (p := pm_Cl 1 5 ie_X0_readSign.1 lf (pm_OK lf pm_rI)) (List.forall_mem_cons.mpr ⟨fun _ _ lv st z K a hK h => pc_X0_nextSign hT (by decide) (ix := 70) rfl rfl hK h, (fun _ h => by cases h)⟩)) (fun _ h => by cases h)
set_option maxRecDepth 100000 in
theorem pb_X0_readSign : pm_bks ie_X0_readSign.1.2.2.2.2 pk_X0_readSign = true := by decide +kernel
set_option maxRecDepth 100000 in
theorem pm_X0_readSign {lf : pj_Z → mj_M} (hT : pj_Lt pj_TC lf) (a1 : Int32) (s : Nat → Int32) (l : Nat → Int64) (x : Nat → Int32) (y : Nat → Int64) (a : Int32 × pj_Z) (h : pf_X0_readSign a1 s l x y = some a) : mj_R ic_P 2 5 [.ref 106, .int a1] (lf (s, l, x, y)) (pm_rI a.1) (lf a.2) := by
  refine pm_main (Y := ie_X0_readSign.1) rfl (Nat.le_of_ble_eq_true rfl) ?_
  exact pm_run ((pq_X0_readSign_m a1 s l x y).symm.trans h) (pz_X0_readSign hT) (pm_bks_ok pb_X0_readSign) (pm_bks_ok pb_X0_readSign _ _ rfl) (pm_ndb_ok rfl) (fun _ _ h => by cases h)
abbrev ph_X0_readSign {A : Type} : List pj_V → pj_Z → (List pj_V → pj_Z → Option A) → Option A := fun st z K => pj_pi st fun a1 st => pj_pr st 106 0 fun st => pj_ps st (pj_b (pf_X0_readSign a1 z.1 z.2.1 z.2.2.1 z.2.2.2) fun r s l x y => K (pj_I r :: st) (s, l, x, y))
set_option maxRecDepth 100000 in
theorem pc_X0_readSign {A : Type} {OK : A → Option Value → mj_M → Prop} {d j pc ix : Nat} {Y : mj_Y} {lf : pj_Z → mj_M} (hT : pj_Lt pj_TC lf) (hd : 2 ≤ d) (hl : mj_lk Y.2.2.2.2 pc = some (.invokevirtual ix, 3)) (hg : mj_pG ic_P j ix = some (5, 1, some 0)) {lv : List (Nat × Value)} {st : List pj_V} {z : pj_Z} {K : List pj_V → pj_Z → Option A} {a : A} (hK : ∀ st z, K st z = some a → pj_Gd ic_P (mj_R ic_P d) j Y OK lf (pc + 3) lv (pj_es st) z a) (h : ph_X0_readSign st z K = some a) : pj_Gd ic_P (mj_R ic_P d) j Y OK lf pc lv (pj_es st) z a := by
  obtain ⟨a1, r1, e1, h⟩ := pj_pi_inv h
  obtain ⟨r0, e0, h⟩ := pj_pr_inv h
  obtain ⟨hs, h⟩ := pj_ps_inv h
  obtain ⟨q, hq, h⟩ := pj_b_inv h
  exact pm_cv (o := 106) hl hg [.int a1] rfl (by rw [e1, e0]; rfl) hs (by decide) ((hT.2 106 _ rfl).1.2 z 0 (by decide)) (pm_rI q.1) hd (pm_X0_readSign hT a1 z.1 z.2.1 z.2.2.1 z.2.2.2 q hq) rfl (hK _ _ h)
abbrev pe_X0_readNumber_4 (f : Int32 → Int32 → pj_F (Int32 × pj_Z)) : pj_K (Int32 × pj_Z) := fun lv st z => pj_xr lv 0 106 0 <| pj_xi lv 1 fun a1 => pj_xi lv 2 fun a2 => pj_pe st (f a1 a2 z.1 z.2.1 z.2.2.1 z.2.2.2)
abbrev px_X0_readNumber : pj_C (Int32 × pj_Z) := ((pj_as [(106, 0, 19, 1, 0, true, 0, [(2, 107), (0, 1), (2, 108), (1, 24), (0, 2), (2, 111), (1, 25), (1, 26), (2, 114), (2, 115), (2, 116), (0, 3), (2, 117), (2, 118), (1, 27), (1, 28), (0, 4), (0, 5), (1, 29)]), (107, 100, 200, 1, 0, true, 1000, [])]), (pj_as [(11, 0, 0, 2, true), (53, 0, 1, 0, false), (56, 0, 7, 0, false)]), (fun _ => none), (fun _ => none), (fun _ => none), ic_X, 3, 1, pj_mI, (fun _ => none), fun _ => false)
abbrev pk_X0_readNumber : List (Nat × List (Nat × Instr × Nat)) := [(0, [(0, .iconst 0, 1), (1, .istore_n 1, 1), (2, .iconst 0, 1), (3, .istore_n 2, 1)]), (4, [(4, .iload_n 2, 1), (5, .bipush 6, 2), (7, .if_icmp .ge 94, 3)]), (10, [(10, .aload_n 0, 1), (11, .getfield 56, 3), (14, .aload_n 0, 1), (15, .getfield 53, 3), (18, .if_icmp .ge 83, 3)]), (21, [(21, .aload_n 0, 1), (22, .getfield 56, 3), (25, .sipush 200, 3), (28, .if_icmp .ge 73, 3)]), (31, [(31, .aload_n 0, 1), (32, .getfield 11, 3), (35, .aload_n 0, 1), (36, .getfield 56, 3), (39, .iaload, 1), (40, .bipush 48, 2), (42, .if_icmp .lt 59, 3)]), (45, [(45, .aload_n 0, 1), (46, .getfield 11, 3), (49, .aload_n 0, 1), (50, .getfield 56, 3), (53, .iaload, 1), (54, .bipush 57, 2), (56, .if_icmp .gt 45, 3)]), (59, [(59, .iinc 2 1, 3), (62, .iload_n 2, 1), (63, .bipush 6, 2), (65, .if_icmp .ne 5, 3)]), (68, [(68, .iconst (-1), 1), (69, .ireturn, 1)]), (70, [(70, .bipush 10, 2), (72, .iload_n 1, 1), (73, .imul, 1), (74, .aload_n 0, 1), (75, .getfield 11, 3), (78, .aload_n 0, 1), (79, .getfield 56, 3), (82, .iaload, 1), (83, .iadd, 1), (84, .bipush 48, 2), (86, .isub, 1), (87, .istore_n 1, 1), (88, .aload_n 0, 1), (89, .dup, 1), (90, .getfield 56, 3), (93, .iconst 1, 1), (94, .iadd, 1), (95, .putfield 56, 3), (98, .goto (-94), 3)]), (101, [(101, .iload_n 1, 1), (102, .ireturn, 1)])]
set_option maxRecDepth 100000 in
theorem pq_X0_readNumber_4 (fu : Nat)  (n : Nat) (a1 : Int32) (a2 : Int32) (s : Nat → Int32) (l : Nat → Int64) (x : Nat → Int32) (y : Nat → Int64) : pl_X0_readNumber_4 fu (n + 1) a1 a2 s l x y = pj_bl px_X0_readNumber (pj_rn px_X0_readNumber (pj_as pk_X0_readNumber) (pj_as [(4, pe_X0_readNumber_4 (pl_X0_readNumber_4 fu n))]) 60) [(4, .iload_n 2, 1), (5, .bipush 6, 2), (7, .if_icmp .ge 94, 3)] 4 [(0, pj_O (106, 0)), (1, pj_I a1), (2, pj_I a2)] [] (s, l, x, y) := rfl
set_option maxRecDepth 100000 in
theorem pq_X0_readNumber_m (fu : Nat)   (s : Nat → Int32) (l : Nat → Int64) (x : Nat → Int32) (y : Nat → Int64) : po_X0_readNumber fu  s l x y = pj_bl px_X0_readNumber (pj_rn px_X0_readNumber (pj_as pk_X0_readNumber) (pj_as [(4, pe_X0_readNumber_4 (pl_X0_readNumber_4 fu fu))]) 60) [(0, .iconst 0, 1), (1, .istore_n 1, 1), (2, .iconst 0, 1), (3, .istore_n 2, 1)] 0 [(0, pj_O (106, 0))] [] (s, l, x, y) := rfl
theorem pu_X0_readNumber_4 {lf : pj_Z → mj_M} {a : Int32 × pj_Z} (f : Int32 → Int32 → pj_F (Int32 × pj_Z)) (hf : ∀ (a1 : Int32) (a2 : Int32) (s : Nat → Int32) (l : Nat → Int64) (x : Nat → Int32) (y : Nat → Int64), f a1 a2 s l x y = some a → pm_Gd 0 13 ie_X0_readNumber.1 pm_rI lf 4 [(0, .ref 106), (1, .int a1), (2, .int a2)] [] (s, l, x, y) a) : pm_Ex 0 13 ie_X0_readNumber.1 pm_rI lf a 4 (pe_X0_readNumber_4 f) := by
  intro lv st z hd h
  obtain ⟨g0, h⟩ := pj_xr_inv h
  obtain ⟨a1, g1, h⟩ := pj_xi_inv h
  obtain ⟨a2, g2, h⟩ := pj_xi_inv h
  obtain ⟨e9, h⟩ := pj_pe_inv h
  rw [e9]
  exact mj_wp_sub (mj_sub_cons g0 (mj_sub_cons g1 (mj_sub_cons g2 (mj_sub_nil hd)))) (hf _ _ _ _ _ _ h)
set_option maxRecDepth 100000 in
theorem pz_X0_readNumber {lf : pj_Z → mj_M} (hT : pj_Lt pj_TC lf) : pj_Cok ic_P (mj_R ic_P 0) 13 ie_X0_readNumber.1 (pm_OK lf pm_rI) lf px_X0_readNumber := by
  exact pm_cok (c := px_X0_readNumber) (pm_part hT (pj_as_all (p := fun b e => pj_TC b = some e) (List.forall_mem_cons.mpr ⟨rfl, (List.forall_mem_cons.mpr ⟨rfl, (fun _ h => by cases h)⟩)⟩))) (pm_in_ok (L := [(11, 0, 0, 2, true), (53, 0, 1, 0, false), (56, 0, 7, 0, false)]) (f := mj_pF ic_P 13) (by decide +kernel)) (fun _ _ h => by cases h) (fun _ _ h => by cases h) (fun _ _ h => by cases h) rfl rfl ⟨by decide, rfl⟩ pm_mI (fun _ _ h => by cases h) (fun _ h => by cases h)
set_option maxRecDepth 100000 in
theorem pb_X0_readNumber : pm_bks ie_X0_readNumber.1.2.2.2.2 pk_X0_readNumber = true := by decide +kernel
set_option maxRecDepth 100000 in
theorem pg_X0_readNumber_4 {fu : Nat} {lf : pj_Z → mj_M} (hT : pj_Lt pj_TC lf) : ∀ (n : Nat), ∀ (a1 : Int32) (a2 : Int32) (s : Nat → Int32) (l : Nat → Int64) (x : Nat → Int32) (y : Nat → Int64) (a : Int32 × pj_Z), pl_X0_readNumber_4 fu n a1 a2 s l x y = some a → pm_Gd 0 13 ie_X0_readNumber.1 pm_rI lf 4 [(0, .ref 106), (1, .int a1), (2, .int a2)] [] (s, l, x, y) a := by
  intro n
  induction n with
  | zero => intro a1 a2 s l x y a h; cases (show (none : Option (Int32 × pj_Z)) = some a from h)
  | succ n ih =>
    intro a1 a2 s l x y a h
    exact pm_run ((pq_X0_readNumber_4 fu n a1 a2 s l x y).symm.trans h) (pz_X0_readNumber hT) (pm_bks_ok pb_X0_readNumber) (pm_bks_ok pb_X0_readNumber _ _ rfl) (pm_ndb_ok rfl) (pj_as_all (p := pm_Ex 0 13 ie_X0_readNumber.1 pm_rI lf a) (List.forall_mem_cons.mpr ⟨pu_X0_readNumber_4 _ (fun c0 c1 s l x y h => ih c0 c1 s l x y _ h), (fun _ h => by cases h)⟩))
set_option maxRecDepth 100000 in
theorem pm_X0_readNumber {lf : pj_Z → mj_M} (hT : pj_Lt pj_TC lf)  (s : Nat → Int32) (l : Nat → Int64) (x : Nat → Int32) (y : Nat → Int64) (a : Int32 × pj_Z) (h : pf_X0_readNumber  s l x y = some a) : mj_R ic_P 1 13 [.ref 106] (lf (s, l, x, y)) (pm_rI a.1) (lf a.2) := by
  refine pm_main (Y := ie_X0_readNumber.1) rfl (Nat.le_of_ble_eq_true rfl) ?_
  exact pm_run ((pq_X0_readNumber_m 1000  s l x y).symm.trans h) (pz_X0_readNumber hT) (pm_bks_ok pb_X0_readNumber) (pm_bks_ok pb_X0_readNumber _ _ rfl) (pm_ndb_ok rfl) (pj_as_all (p := pm_Ex 0 13 ie_X0_readNumber.1 pm_rI lf a) (List.forall_mem_cons.mpr ⟨pu_X0_readNumber_4 _ (fun c0 c1 s l x y h => pg_X0_readNumber_4 hT _ c0 c1 s l x y _ h), (fun _ h => by cases h)⟩))
abbrev ph_X0_readNumber {A : Type} : List pj_V → pj_Z → (List pj_V → pj_Z → Option A) → Option A := fun st z K => pj_pr st 106 0 fun st => pj_ps st (pj_b (pf_X0_readNumber  z.1 z.2.1 z.2.2.1 z.2.2.2) fun r s l x y => K (pj_I r :: st) (s, l, x, y))
set_option maxRecDepth 100000 in
theorem pc_X0_readNumber {A : Type} {OK : A → Option Value → mj_M → Prop} {d j pc ix : Nat} {Y : mj_Y} {lf : pj_Z → mj_M} (hT : pj_Lt pj_TC lf) (hd : 1 ≤ d) (hl : mj_lk Y.2.2.2.2 pc = some (.invokevirtual ix, 3)) (hg : mj_pG ic_P j ix = some (13, 0, some 0)) {lv : List (Nat × Value)} {st : List pj_V} {z : pj_Z} {K : List pj_V → pj_Z → Option A} {a : A} (hK : ∀ st z, K st z = some a → pj_Gd ic_P (mj_R ic_P d) j Y OK lf (pc + 3) lv (pj_es st) z a) (h : ph_X0_readNumber st z K = some a) : pj_Gd ic_P (mj_R ic_P d) j Y OK lf pc lv (pj_es st) z a := by
  obtain ⟨r0, e0, h⟩ := pj_pr_inv h
  obtain ⟨hs, h⟩ := pj_ps_inv h
  obtain ⟨q, hq, h⟩ := pj_b_inv h
  exact pm_cv (o := 106) hl hg [] rfl (by rw [e0]; rfl) hs (by decide) ((hT.2 106 _ rfl).1.2 z 0 (by decide)) (pm_rI q.1) hd (pm_X0_readNumber hT  z.1 z.2.1 z.2.2.1 z.2.2.2 q hq) rfl (hK _ _ h)
abbrev px_X0_addStep : pj_C (Int32 × pj_Z) := ((pj_as [(106, 0, 19, 1, 0, true, 0, [(2, 107), (0, 1), (2, 108), (1, 24), (0, 2), (2, 111), (1, 25), (1, 26), (2, 114), (2, 115), (2, 116), (0, 3), (2, 117), (2, 118), (1, 27), (1, 28), (0, 4), (0, 5), (1, 29)]), (111, 103, 2, 1, 0, true, 112, []), (112, 100, 256, 2, 1, false, 12000, [])]), (pj_as [(20, 0, 5, 2, true), (59, 0, 6, 0, false)]), (fun _ => none), (fun _ => none), (fun _ => none), ic_X, 4, 1, pj_mI, (fun _ => none), fun _ => false)
abbrev pk_X0_addStep : List (Nat × List (Nat × Instr × Nat)) := [(0, [(0, .aload_n 0, 1), (1, .getfield 59, 3), (4, .istore_n 3, 1), (5, .iload_n 3, 1), (6, .sipush 256, 3), (9, .if_icmp .ge 31, 3)]), (12, [(12, .aload_n 0, 1), (13, .getfield 20, 3), (16, .iconst 0, 1), (17, .aaload, 1), (18, .iload_n 3, 1), (19, .iload_n 1, 1), (20, .iastore, 1), (21, .aload_n 0, 1), (22, .getfield 20, 3), (25, .iconst 1, 1), (26, .aaload, 1), (27, .iload_n 3, 1), (28, .iload_n 2, 1), (29, .iastore, 1), (30, .aload_n 0, 1), (31, .dup, 1), (32, .getfield 59, 3), (35, .iconst 1, 1), (36, .iadd, 1), (37, .putfield 59, 3)]), (40, [(40, .iload_n 3, 1), (41, .ireturn, 1)])]
set_option maxRecDepth 100000 in
theorem pq_X0_addStep_m  (a1 : Int32) (a2 : Int32) (s : Nat → Int32) (l : Nat → Int64) (x : Nat → Int32) (y : Nat → Int64) : pf_X0_addStep a1 a2 s l x y = pj_bl px_X0_addStep (pj_rn px_X0_addStep (pj_as pk_X0_addStep) (fun _ => none) 60) [(0, .aload_n 0, 1), (1, .getfield 59, 3), (4, .istore_n 3, 1), (5, .iload_n 3, 1), (6, .sipush 256, 3), (9, .if_icmp .ge 31, 3)] 0 [(0, pj_O (106, 0)), (1, pj_I a1), (2, pj_I a2)] [] (s, l, x, y) := rfl
set_option maxRecDepth 100000 in
theorem pz_X0_addStep {lf : pj_Z → mj_M} (hT : pj_Lt pj_TC lf) : pj_Cok ic_P (mj_R ic_P 0) 6 ie_X0_addStep.1 (pm_OK lf pm_rI) lf px_X0_addStep := by
  exact pm_cok (c := px_X0_addStep) (pm_part hT (pj_as_all (p := fun b e => pj_TC b = some e) (List.forall_mem_cons.mpr ⟨rfl, (List.forall_mem_cons.mpr ⟨rfl, (List.forall_mem_cons.mpr ⟨rfl, (fun _ h => by cases h)⟩)⟩)⟩))) (pm_in_ok (L := [(20, 0, 5, 2, true), (59, 0, 6, 0, false)]) (f := mj_pF ic_P 6) (by decide +kernel)) (fun _ _ h => by cases h) (fun _ _ h => by cases h) (fun _ _ h => by cases h) rfl rfl ⟨by decide, rfl⟩ pm_mI (fun _ _ h => by cases h) (fun _ h => by cases h)
set_option maxRecDepth 100000 in
theorem pb_X0_addStep : pm_bks ie_X0_addStep.1.2.2.2.2 pk_X0_addStep = true := by decide +kernel
set_option maxRecDepth 100000 in
theorem pm_X0_addStep {lf : pj_Z → mj_M} (hT : pj_Lt pj_TC lf) (a1 : Int32) (a2 : Int32) (s : Nat → Int32) (l : Nat → Int64) (x : Nat → Int32) (y : Nat → Int64) (a : Int32 × pj_Z) (h : pf_X0_addStep a1 a2 s l x y = some a) : mj_R ic_P 1 6 [.ref 106, .int a1, .int a2] (lf (s, l, x, y)) (pm_rI a.1) (lf a.2) := by
  refine pm_main (Y := ie_X0_addStep.1) rfl (Nat.le_of_ble_eq_true rfl) ?_
  exact pm_run ((pq_X0_addStep_m a1 a2 s l x y).symm.trans h) (pz_X0_addStep hT) (pm_bks_ok pb_X0_addStep) (pm_bks_ok pb_X0_addStep _ _ rfl) (pm_ndb_ok rfl) (fun _ _ h => by cases h)
abbrev ph_X0_addStep {A : Type} : List pj_V → pj_Z → (List pj_V → pj_Z → Option A) → Option A := fun st z K => pj_pi st fun a2 st => pj_pi st fun a1 st => pj_pr st 106 0 fun st => pj_ps st (pj_b (pf_X0_addStep a1 a2 z.1 z.2.1 z.2.2.1 z.2.2.2) fun r s l x y => K (pj_I r :: st) (s, l, x, y))
set_option maxRecDepth 100000 in
theorem pc_X0_addStep {A : Type} {OK : A → Option Value → mj_M → Prop} {d j pc ix : Nat} {Y : mj_Y} {lf : pj_Z → mj_M} (hT : pj_Lt pj_TC lf) (hd : 1 ≤ d) (hl : mj_lk Y.2.2.2.2 pc = some (.invokevirtual ix, 3)) (hg : mj_pG ic_P j ix = some (6, 2, some 0)) {lv : List (Nat × Value)} {st : List pj_V} {z : pj_Z} {K : List pj_V → pj_Z → Option A} {a : A} (hK : ∀ st z, K st z = some a → pj_Gd ic_P (mj_R ic_P d) j Y OK lf (pc + 3) lv (pj_es st) z a) (h : ph_X0_addStep st z K = some a) : pj_Gd ic_P (mj_R ic_P d) j Y OK lf pc lv (pj_es st) z a := by
  obtain ⟨a2, r2, e2, h⟩ := pj_pi_inv h
  obtain ⟨a1, r1, e1, h⟩ := pj_pi_inv h
  obtain ⟨r0, e0, h⟩ := pj_pr_inv h
  obtain ⟨hs, h⟩ := pj_ps_inv h
  obtain ⟨q, hq, h⟩ := pj_b_inv h
  exact pm_cv (o := 106) hl hg [.int a1, .int a2] rfl (by rw [e2, e1, e0]; rfl) hs (by decide) ((hT.2 106 _ rfl).1.2 z 0 (by decide)) (pm_rI q.1) hd (pm_X0_addStep hT a1 a2 z.1 z.2.1 z.2.2.1 z.2.2.2 q hq) rfl (hK _ _ h)
abbrev px_X0_beginRows : pj_C (Unit × pj_Z) := ((pj_as [(106, 0, 19, 1, 0, true, 0, [(2, 107), (0, 1), (2, 108), (1, 24), (0, 2), (2, 111), (1, 25), (1, 26), (2, 114), (2, 115), (2, 116), (0, 3), (2, 117), (2, 118), (1, 27), (1, 28), (0, 4), (0, 5), (1, 29)]), (117, 100, 3, 1, 0, true, 3000, [])]), (pj_as [(32, 0, 12, 2, true), (40, 0, 17, 0, false), (50, 0, 18, 0, false), (127, 0, 11, 0, false), (130, 0, 14, 0, false), (133, 0, 15, 0, false), (136, 0, 16, 3, false)]), (fun _ => none), (fun _ => none), (fun _ => none), ic_X, 5, 0, pj_mU, (fun _ => none), fun _ => false)
abbrev pk_X0_beginRows : List (Nat × List (Nat × Instr × Nat)) := [(0, [(0, .aload_n 0, 1), (1, .iload_n 1, 1), (2, .putfield 127, 3), (5, .aload_n 0, 1), (6, .getfield 32, 3), (9, .iconst 0, 1), (10, .iload_n 2, 1), (11, .iastore, 1), (12, .aload_n 0, 1), (13, .getfield 32, 3), (16, .iconst 1, 1), (17, .iload_n 3, 1), (18, .iastore, 1), (19, .aload_n 0, 1), (20, .getfield 32, 3), (23, .iconst 2, 1), (24, .iload 4, 2), (26, .iastore, 1), (27, .aload_n 0, 1), (28, .iconst 0, 1), (29, .putfield 130, 3), (32, .aload_n 0, 1), (33, .iconst 0, 1), (34, .putfield 133, 3), (37, .aload_n 0, 1), (38, .iconst 1, 1), (39, .putfield 136, 3), (42, .aload_n 0, 1), (43, .iconst (-1), 1), (44, .putfield 40, 3), (47, .aload_n 0, 1), (48, .iconst 0, 1), (49, .putfield 50, 3), (52, .return_, 1)])]
set_option maxRecDepth 100000 in
theorem pq_X0_beginRows_m  (a1 : Int32) (a2 : Int32) (a3 : Int32) (a4 : Int32) (s : Nat → Int32) (l : Nat → Int64) (x : Nat → Int32) (y : Nat → Int64) : pf_X0_beginRows a1 a2 a3 a4 s l x y = pj_bl px_X0_beginRows (pj_rn px_X0_beginRows (pj_as pk_X0_beginRows) (fun _ => none) 60) [(0, .aload_n 0, 1), (1, .iload_n 1, 1), (2, .putfield 127, 3), (5, .aload_n 0, 1), (6, .getfield 32, 3), (9, .iconst 0, 1), (10, .iload_n 2, 1), (11, .iastore, 1), (12, .aload_n 0, 1), (13, .getfield 32, 3), (16, .iconst 1, 1), (17, .iload_n 3, 1), (18, .iastore, 1), (19, .aload_n 0, 1), (20, .getfield 32, 3), (23, .iconst 2, 1), (24, .iload 4, 2), (26, .iastore, 1), (27, .aload_n 0, 1), (28, .iconst 0, 1), (29, .putfield 130, 3), (32, .aload_n 0, 1), (33, .iconst 0, 1), (34, .putfield 133, 3), (37, .aload_n 0, 1), (38, .iconst 1, 1), (39, .putfield 136, 3), (42, .aload_n 0, 1), (43, .iconst (-1), 1), (44, .putfield 40, 3), (47, .aload_n 0, 1), (48, .iconst 0, 1), (49, .putfield 50, 3), (52, .return_, 1)] 0 [(0, pj_O (106, 0)), (1, pj_I a1), (2, pj_I a2), (3, pj_I a3), (4, pj_I a4)] [] (s, l, x, y) := rfl
set_option maxRecDepth 100000 in
theorem pz_X0_beginRows {lf : pj_Z → mj_M} (hT : pj_Lt pj_TC lf) : pj_Cok ic_P (mj_R ic_P 0) 18 ie_X0_beginRows.1 (pm_OK lf pm_rU) lf px_X0_beginRows := by
  exact pm_cok (c := px_X0_beginRows) (pm_part hT (pj_as_all (p := fun b e => pj_TC b = some e) (List.forall_mem_cons.mpr ⟨rfl, (List.forall_mem_cons.mpr ⟨rfl, (fun _ h => by cases h)⟩)⟩))) (pm_in_ok (L := [(32, 0, 12, 2, true), (40, 0, 17, 0, false), (50, 0, 18, 0, false), (127, 0, 11, 0, false), (130, 0, 14, 0, false), (133, 0, 15, 0, false), (136, 0, 16, 3, false)]) (f := mj_pF ic_P 18) (by decide +kernel)) (fun _ _ h => by cases h) (fun _ _ h => by cases h) (fun _ _ h => by cases h) rfl rfl ⟨by decide, rfl⟩ pm_mU (fun _ _ h => by cases h) (fun _ h => by cases h)
set_option maxRecDepth 100000 in
theorem pb_X0_beginRows : pm_bks ie_X0_beginRows.1.2.2.2.2 pk_X0_beginRows = true := by decide +kernel
set_option maxRecDepth 100000 in
theorem pm_X0_beginRows {lf : pj_Z → mj_M} (hT : pj_Lt pj_TC lf) (a1 : Int32) (a2 : Int32) (a3 : Int32) (a4 : Int32) (s : Nat → Int32) (l : Nat → Int64) (x : Nat → Int32) (y : Nat → Int64) (a : Unit × pj_Z) (h : pf_X0_beginRows a1 a2 a3 a4 s l x y = some a) : mj_R ic_P 1 18 [.ref 106, .int a1, .int a2, .int a3, .int a4] (lf (s, l, x, y)) (pm_rU a.1) (lf a.2) := by
  refine pm_main (Y := ie_X0_beginRows.1) rfl (Nat.le_of_ble_eq_true rfl) ?_
  exact pm_run ((pq_X0_beginRows_m a1 a2 a3 a4 s l x y).symm.trans h) (pz_X0_beginRows hT) (pm_bks_ok pb_X0_beginRows) (pm_bks_ok pb_X0_beginRows _ _ rfl) (pm_ndb_ok rfl) (fun _ _ h => by cases h)
abbrev ph_X0_beginRows {A : Type} : List pj_V → pj_Z → (List pj_V → pj_Z → Option A) → Option A := fun st z K => pj_pi st fun a4 st => pj_pi st fun a3 st => pj_pi st fun a2 st => pj_pi st fun a1 st => pj_pr st 106 0 fun st => pj_ps st (pj_b (pf_X0_beginRows a1 a2 a3 a4 z.1 z.2.1 z.2.2.1 z.2.2.2) fun r s l x y => K st (s, l, x, y))
set_option maxRecDepth 100000 in
theorem pc_X0_beginRows {A : Type} {OK : A → Option Value → mj_M → Prop} {d j pc ix : Nat} {Y : mj_Y} {lf : pj_Z → mj_M} (hT : pj_Lt pj_TC lf) (hd : 1 ≤ d) (hl : mj_lk Y.2.2.2.2 pc = some (.invokevirtual ix, 3)) (hg : mj_pG ic_P j ix = some (18, 4, some 0)) {lv : List (Nat × Value)} {st : List pj_V} {z : pj_Z} {K : List pj_V → pj_Z → Option A} {a : A} (hK : ∀ st z, K st z = some a → pj_Gd ic_P (mj_R ic_P d) j Y OK lf (pc + 3) lv (pj_es st) z a) (h : ph_X0_beginRows st z K = some a) : pj_Gd ic_P (mj_R ic_P d) j Y OK lf pc lv (pj_es st) z a := by
  obtain ⟨a4, r4, e4, h⟩ := pj_pi_inv h
  obtain ⟨a3, r3, e3, h⟩ := pj_pi_inv h
  obtain ⟨a2, r2, e2, h⟩ := pj_pi_inv h
  obtain ⟨a1, r1, e1, h⟩ := pj_pi_inv h
  obtain ⟨r0, e0, h⟩ := pj_pr_inv h
  obtain ⟨hs, h⟩ := pj_ps_inv h
  obtain ⟨q, hq, h⟩ := pj_b_inv h
  exact pm_cv (o := 106) hl hg [.int a1, .int a2, .int a3, .int a4] rfl (by rw [e4, e3, e2, e1, e0]; rfl) hs (by decide) ((hT.2 106 _ rfl).1.2 z 0 (by decide)) (pm_rU q.1) hd (pm_X0_beginRows hT a1 a2 a3 a4 z.1 z.2.1 z.2.2.1 z.2.2.2 q hq) rfl (hK _ _ h)
abbrev pe_X11_record_32 (f : pj_F (Unit × pj_Z)) : pj_K (Unit × pj_Z) := fun lv st z => pj_pe st (f  z.1 z.2.1 z.2.2.1 z.2.2.2)
abbrev pe_X11_record_54 (f : pj_F (Unit × pj_Z)) : pj_K (Unit × pj_Z) := fun lv st z => pj_pe st (f  z.1 z.2.1 z.2.2.1 z.2.2.2)
abbrev px_X11_record : pj_C (Unit × pj_Z) := ((pj_as [(0, 11, 17, 1, 0, true, 0, [(2, 1), (2, 20), (2, 58), (2, 68), (2, 82), (2, 83), (2, 85), (2, 96), (2, 102), (2, 106), (2, 122), (0, 93), (0, 94), (0, 95), (1, 1), (1, 2), (0, 96)])]), (pj_as [(75, 11, 9, 2, true)]), (fun _ => none), (fun _ => none), (fun _ => none), ic_X, 5, 0, pj_mU, (pj_as [(74, ph_X0_beginRows)]), fun _ => false)
abbrev pk_X11_record : List (Nat × List (Nat × Instr × Nat)) := [(0, [(0, .iload_n 2, 1), (1, .ifCond .lt 31, 3)]), (4, [(4, .iload_n 2, 1), (5, .bipush 80, 2), (7, .if_icmp .ge 25, 3)]), (10, [(10, .iload_n 3, 1), (11, .ifCond .lt 21, 3)]), (14, [(14, .iload_n 3, 1), (15, .bipush 80, 2), (17, .if_icmp .ge 15, 3)]), (20, [(20, .iload 4, 2), (22, .ifCond .lt 10, 3)]), (25, [(25, .iload 4, 2), (27, .bipush 80, 2), (29, .if_icmp .lt 14, 3)]), (32, [(32, .new 158, 3)]), (43, [(43, .iload_n 1, 1), (44, .iconst 1, 1), (45, .if_icmp .lt 9, 3)]), (48, [(48, .iload_n 1, 1), (49, .bipush 100, 2), (51, .if_icmp .le 14, 3)]), (54, [(54, .new 107, 3)]), (65, [(65, .aload_n 0, 1), (66, .getfield 75, 3), (69, .iload_n 1, 1), (70, .iload_n 2, 1), (71, .iload_n 3, 1), (72, .iload 4, 2), (74, .invokevirtual 376, 3), (77, .return_, 1)])]
set_option maxRecDepth 100000 in
theorem pq_X11_record_32   (s : Nat → Int32) (l : Nat → Int64) (x : Nat → Int32) (y : Nat → Int64) : pl_X11_record_32 s l x y = pj_bl px_X11_record (pj_rn px_X11_record (pj_as pk_X11_record) (fun _ => none) 60) [(32, .new 158, 3)] 32 [] [] (s, l, x, y) := rfl
set_option maxRecDepth 100000 in
theorem pq_X11_record_54   (s : Nat → Int32) (l : Nat → Int64) (x : Nat → Int32) (y : Nat → Int64) : pl_X11_record_54 s l x y = pj_bl px_X11_record (pj_rn px_X11_record (pj_as pk_X11_record) (fun _ => none) 60) [(54, .new 107, 3)] 54 [] [] (s, l, x, y) := rfl
set_option maxRecDepth 100000 in
theorem pq_X11_record_m  (a1 : Int32) (a2 : Int32) (a3 : Int32) (a4 : Int32) (s : Nat → Int32) (l : Nat → Int64) (x : Nat → Int32) (y : Nat → Int64) : pf_X11_record a1 a2 a3 a4 s l x y = pj_bl px_X11_record (pj_rn px_X11_record (pj_as pk_X11_record) (pj_as [(32, pe_X11_record_32 (pl_X11_record_32)), (54, pe_X11_record_54 (pl_X11_record_54))]) 60) [(0, .iload_n 2, 1), (1, .ifCond .lt 31, 3)] 0 [(0, pj_O (0, 0)), (1, pj_I a1), (2, pj_I a2), (3, pj_I a3), (4, pj_I a4)] [] (s, l, x, y) := rfl
theorem pu_X11_record_32 {lf : pj_Z → mj_M} {a : Unit × pj_Z} (f : pj_F (Unit × pj_Z)) (hf : ∀  (s : Nat → Int32) (l : Nat → Int64) (x : Nat → Int32) (y : Nat → Int64), f  s l x y = some a → pm_Gd 1 11038 ie_X11_record.1 pm_rU lf 32 [] [] (s, l, x, y) a) : pm_Ex 1 11038 ie_X11_record.1 pm_rU lf a 32 (pe_X11_record_32 f) := by
  intro lv st z hd h
  obtain ⟨e9, h⟩ := pj_pe_inv h
  rw [e9]
  exact mj_wp_sub (mj_sub_nil hd) (hf  _ _ _ _ h)
theorem pu_X11_record_54 {lf : pj_Z → mj_M} {a : Unit × pj_Z} (f : pj_F (Unit × pj_Z)) (hf : ∀  (s : Nat → Int32) (l : Nat → Int64) (x : Nat → Int32) (y : Nat → Int64), f  s l x y = some a → pm_Gd 1 11038 ie_X11_record.1 pm_rU lf 54 [] [] (s, l, x, y) a) : pm_Ex 1 11038 ie_X11_record.1 pm_rU lf a 54 (pe_X11_record_54 f) := by
  intro lv st z hd h
  obtain ⟨e9, h⟩ := pj_pe_inv h
  rw [e9]
  exact mj_wp_sub (mj_sub_nil hd) (hf  _ _ _ _ h)
set_option maxRecDepth 100000 in
theorem pz_X11_record {lf : pj_Z → mj_M} (hT : pj_Lt pj_TC lf) : pj_Cok ic_P (mj_R ic_P 1) 11038 ie_X11_record.1 (pm_OK lf pm_rU) lf px_X11_record := by
  exact pm_cok (c := px_X11_record) (pm_part hT (pj_as_all (p := fun b e => pj_TC b = some e) (List.forall_mem_cons.mpr ⟨rfl, (fun _ h => by cases h)⟩))) (pm_in_ok (L := [(75, 11, 9, 2, true)]) (f := mj_pF ic_P 11038) (by decide +kernel)) (fun _ _ h => by cases h) (fun _ _ h => by cases h) (fun _ _ h => by cases h) rfl rfl ⟨by decide, rfl⟩ pm_mU (pj_as_all (p := pm_Cl 1 11038 ie_X11_record.1 lf (pm_OK lf pm_rU)) (List.forall_mem_cons.mpr ⟨fun _ _ lv st z K a hK h => pc_X0_beginRows hT (by decide) (ix := 376) rfl rfl hK h, (fun _ h => by cases h)⟩)) (fun _ h => by cases h)
set_option maxRecDepth 100000 in
theorem pb_X11_record : pm_bks ie_X11_record.1.2.2.2.2 pk_X11_record = true := by decide +kernel
set_option maxRecDepth 100000 in
theorem pg_X11_record_32 {lf : pj_Z → mj_M} (hT : pj_Lt pj_TC lf) : ∀  (s : Nat → Int32) (l : Nat → Int64) (x : Nat → Int32) (y : Nat → Int64) (a : Unit × pj_Z), pl_X11_record_32 s l x y = some a → pm_Gd 1 11038 ie_X11_record.1 pm_rU lf 32 [] [] (s, l, x, y) a := by
  intro  s l x y a h
  exact pm_run ((pq_X11_record_32   s l x y).symm.trans h) (pz_X11_record hT) (pm_bks_ok pb_X11_record) (pm_bks_ok pb_X11_record _ _ rfl) (pm_ndb_ok rfl) (fun _ _ h => by cases h)
set_option maxRecDepth 100000 in
theorem pg_X11_record_54 {lf : pj_Z → mj_M} (hT : pj_Lt pj_TC lf) : ∀  (s : Nat → Int32) (l : Nat → Int64) (x : Nat → Int32) (y : Nat → Int64) (a : Unit × pj_Z), pl_X11_record_54 s l x y = some a → pm_Gd 1 11038 ie_X11_record.1 pm_rU lf 54 [] [] (s, l, x, y) a := by
  intro  s l x y a h
  exact pm_run ((pq_X11_record_54   s l x y).symm.trans h) (pz_X11_record hT) (pm_bks_ok pb_X11_record) (pm_bks_ok pb_X11_record _ _ rfl) (pm_ndb_ok rfl) (fun _ _ h => by cases h)
set_option maxRecDepth 100000 in
theorem pm_X11_record {lf : pj_Z → mj_M} (hT : pj_Lt pj_TC lf) (a1 : Int32) (a2 : Int32) (a3 : Int32) (a4 : Int32) (s : Nat → Int32) (l : Nat → Int64) (x : Nat → Int32) (y : Nat → Int64) (a : Unit × pj_Z) (h : pf_X11_record a1 a2 a3 a4 s l x y = some a) : mj_R ic_P 2 11038 [.ref 0, .int a1, .int a2, .int a3, .int a4] (lf (s, l, x, y)) (pm_rU a.1) (lf a.2) := by
  refine pm_main (Y := ie_X11_record.1) rfl (Nat.le_of_ble_eq_true rfl) ?_
  exact pm_run ((pq_X11_record_m a1 a2 a3 a4 s l x y).symm.trans h) (pz_X11_record hT) (pm_bks_ok pb_X11_record) (pm_bks_ok pb_X11_record _ _ rfl) (pm_ndb_ok rfl) (pj_as_all (p := pm_Ex 1 11038 ie_X11_record.1 pm_rU lf a) (List.forall_mem_cons.mpr ⟨pu_X11_record_32 _ (fun  s l x y h => pg_X11_record_32 hT  s l x y _ h), (List.forall_mem_cons.mpr ⟨pu_X11_record_54 _ (fun  s l x y h => pg_X11_record_54 hT  s l x y _ h), (fun _ h => by cases h)⟩)⟩))
abbrev ph_X11_record {A : Type} : List pj_V → pj_Z → (List pj_V → pj_Z → Option A) → Option A := fun st z K => pj_pi st fun a4 st => pj_pi st fun a3 st => pj_pi st fun a2 st => pj_pi st fun a1 st => pj_pr st 0 0 fun st => pj_ps st (pj_b (pf_X11_record a1 a2 a3 a4 z.1 z.2.1 z.2.2.1 z.2.2.2) fun r s l x y => K st (s, l, x, y))
set_option maxRecDepth 100000 in
theorem pc_X11_record {A : Type} {OK : A → Option Value → mj_M → Prop} {d j pc ix : Nat} {Y : mj_Y} {lf : pj_Z → mj_M} (hT : pj_Lt pj_TC lf) (hd : 2 ≤ d) (hl : mj_lk Y.2.2.2.2 pc = some (.invokevirtual ix, 3)) (hg : mj_pG ic_P j ix = some (11038, 4, some 11)) {lv : List (Nat × Value)} {st : List pj_V} {z : pj_Z} {K : List pj_V → pj_Z → Option A} {a : A} (hK : ∀ st z, K st z = some a → pj_Gd ic_P (mj_R ic_P d) j Y OK lf (pc + 3) lv (pj_es st) z a) (h : ph_X11_record st z K = some a) : pj_Gd ic_P (mj_R ic_P d) j Y OK lf pc lv (pj_es st) z a := by
  obtain ⟨a4, r4, e4, h⟩ := pj_pi_inv h
  obtain ⟨a3, r3, e3, h⟩ := pj_pi_inv h
  obtain ⟨a2, r2, e2, h⟩ := pj_pi_inv h
  obtain ⟨a1, r1, e1, h⟩ := pj_pi_inv h
  obtain ⟨r0, e0, h⟩ := pj_pr_inv h
  obtain ⟨hs, h⟩ := pj_ps_inv h
  obtain ⟨q, hq, h⟩ := pj_b_inv h
  exact pm_cv (o := 0) hl hg [.int a1, .int a2, .int a3, .int a4] rfl (by rw [e4, e3, e2, e1, e0]; rfl) hs (by decide) ((hT.2 0 _ rfl).1.2 z 0 (by decide)) (pm_rU q.1) hd (pm_X11_record hT a1 a2 a3 a4 z.1 z.2.1 z.2.2.1 z.2.2.2 q hq) rfl (hK _ _ h)

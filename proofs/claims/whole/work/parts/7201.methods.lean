/-! METHODS 1, printed by gen_meth.py -/
abbrev px_X6_beginInjection : pj_C (Unit × pj_Z) := ((pj_as [(68, 6, 19, 1, 0, true, 0, [(2, 69), (2, 70), (2, 71), (2, 72), (0, 57), (0, 58), (2, 73), (2, 74), (2, 75), (2, 76), (2, 77), (2, 78), (1, 11), (0, 59), (0, 60), (0, 61), (2, 79), (2, 80), (2, 81)]), (73, 102, 8, 1, 0, true, 18000, []), (79, 102, 8, 1, 0, true, 23000, []), (81, 100, 8, 1, 0, true, 25000, [])]), (pj_as [(25, 6, 6, 2, true), (44, 6, 16, 2, true), (50, 6, 18, 2, true), (66, 6, 15, 1, false)]), (fun _ => none), (fun _ => none), (fun _ => none), ic_X, 5, 0, pj_mU, (pj_as [(38, ph_X6_keepEdge), (50, ph_X6_put)]), fun _ => false)
abbrev pk_X6_beginInjection : List (Nat × List (Nat × Instr × Nat)) := [(0, [(0, .aload_n 0, 1), (1, .getfield 25, 3), (4, .iload_n 3, 1), (5, .iconst 1, 1), (6, .bastore, 1), (7, .aload_n 0, 1), (8, .getfield 44, 3), (11, .iload_n 3, 1), (12, .iconst 1, 1), (13, .bastore, 1), (14, .aload_n 0, 1), (15, .getfield 50, 3), (18, .iload_n 3, 1), (19, .iload 4, 2), (21, .iastore, 1), (22, .aload_n 0, 1), (23, .dup, 1), (24, .getfield 66, 3), (27, .iload 4, 2), (29, .i2l, 1), (30, .ladd, 1), (31, .putfield 66, 3), (34, .aload_n 0, 1), (35, .lload_n 1, 1), (36, .iconst 0, 1), (37, .iload_n 3, 1), (38, .invokevirtual 80, 3), (41, .aload_n 0, 1), (42, .lload_n 1, 1), (43, .iload 4, 2), (45, .i2l, 1), (46, .ladd, 1), (47, .iconst 3, 1), (48, .iload_n 3, 1), (49, .iconst 0, 1), (50, .invokevirtual 83, 3), (53, .return_, 1)])]
set_option maxRecDepth 100000 in
theorem pq_X6_beginInjection_m  (a1 : Int64) (a3 : Int32) (a4 : Int32) (s : Nat → Int32) (l : Nat → Int64) (x : Nat → Int32) (y : Nat → Int64) : pf_X6_beginInjection a1 a3 a4 s l x y = pj_bl px_X6_beginInjection (pj_rn px_X6_beginInjection (pj_as pk_X6_beginInjection) (fun _ => none) 60) [(0, .aload_n 0, 1), (1, .getfield 25, 3), (4, .iload_n 3, 1), (5, .iconst 1, 1), (6, .bastore, 1), (7, .aload_n 0, 1), (8, .getfield 44, 3), (11, .iload_n 3, 1), (12, .iconst 1, 1), (13, .bastore, 1), (14, .aload_n 0, 1), (15, .getfield 50, 3), (18, .iload_n 3, 1), (19, .iload 4, 2), (21, .iastore, 1), (22, .aload_n 0, 1), (23, .dup, 1), (24, .getfield 66, 3), (27, .iload 4, 2), (29, .i2l, 1), (30, .ladd, 1), (31, .putfield 66, 3), (34, .aload_n 0, 1), (35, .lload_n 1, 1), (36, .iconst 0, 1), (37, .iload_n 3, 1), (38, .invokevirtual 80, 3), (41, .aload_n 0, 1), (42, .lload_n 1, 1), (43, .iload 4, 2), (45, .i2l, 1), (46, .ladd, 1), (47, .iconst 3, 1), (48, .iload_n 3, 1), (49, .iconst 0, 1), (50, .invokevirtual 83, 3), (53, .return_, 1)] 0 [(0, pj_O (68, 0)), (1, pj_L a1), (3, pj_I a3), (4, pj_I a4)] [] (s, l, x, y) := rfl
set_option maxRecDepth 100000 in
theorem pz_X6_beginInjection {lf : pj_Z → mj_M} (hT : pj_Lt pj_TC lf) : pj_Cok ic_P (mj_R ic_P 1) 6005 ie_X6_beginInjection.1 (pm_OK lf pm_rU) lf px_X6_beginInjection := by
  exact pm_cok (c := px_X6_beginInjection) (pm_part hT (pj_as_all (p := fun b e => pj_TC b = some e) (List.forall_mem_cons.mpr ⟨rfl, (List.forall_mem_cons.mpr ⟨rfl, (List.forall_mem_cons.mpr ⟨rfl, (List.forall_mem_cons.mpr ⟨rfl, (fun _ h => by cases h)⟩)⟩)⟩)⟩))) (pm_in_ok (L := [(25, 6, 6, 2, true), (44, 6, 16, 2, true), (50, 6, 18, 2, true), (66, 6, 15, 1, false)]) (f := mj_pF ic_P 6005) (by decide +kernel)) (fun _ _ h => by cases h) (fun _ _ h => by cases h) (fun _ _ h => by cases h) rfl rfl ⟨by decide, rfl⟩ pm_mU (pj_as_all (p := pm_Cl 1 6005 ie_X6_beginInjection.1 lf (pm_OK lf pm_rU)) (List.forall_mem_cons.mpr ⟨fun _ _ lv st z K a hK h => pc_X6_keepEdge hT (by decide) (ix := 80) rfl rfl hK h, (List.forall_mem_cons.mpr ⟨fun _ _ lv st z K a hK h => pc_X6_put hT (by decide) (ix := 83) rfl rfl hK h, (fun _ h => by cases h)⟩)⟩)) (fun _ h => by cases h)
set_option maxRecDepth 100000 in
theorem pb_X6_beginInjection : pm_bks ie_X6_beginInjection.1.2.2.2.2 pk_X6_beginInjection = true := by decide +kernel
set_option maxRecDepth 100000 in
theorem pm_X6_beginInjection {lf : pj_Z → mj_M} (hT : pj_Lt pj_TC lf) (a1 : Int64) (a3 : Int32) (a4 : Int32) (s : Nat → Int32) (l : Nat → Int64) (x : Nat → Int32) (y : Nat → Int64) (a : Unit × pj_Z) (h : pf_X6_beginInjection a1 a3 a4 s l x y = some a) : mj_R ic_P 2 6005 [.ref 68, .long a1, .int a3, .int a4] (lf (s, l, x, y)) (pm_rU a.1) (lf a.2) := by
  refine pm_main (Y := ie_X6_beginInjection.1) rfl (Nat.le_of_ble_eq_true rfl) ?_
  exact pm_run ((pq_X6_beginInjection_m a1 a3 a4 s l x y).symm.trans h) (pz_X6_beginInjection hT) (pm_bks_ok pb_X6_beginInjection) (pm_bks_ok pb_X6_beginInjection _ _ rfl) (pm_ndb_ok rfl) (fun _ _ h => by cases h)
abbrev ph_X6_beginInjection {A : Type} : List pj_V → pj_Z → (List pj_V → pj_Z → Option A) → Option A := fun st z K => pj_pi st fun a4 st => pj_pi st fun a3 st => pj_pl st fun a1 st => pj_pr st 68 0 fun st => pj_ps st (pj_b (pf_X6_beginInjection a1 a3 a4 z.1 z.2.1 z.2.2.1 z.2.2.2) fun r s l x y => K st (s, l, x, y))
set_option maxRecDepth 100000 in
theorem pc_X6_beginInjection {A : Type} {OK : A → Option Value → mj_M → Prop} {d j pc ix : Nat} {Y : mj_Y} {lf : pj_Z → mj_M} (hT : pj_Lt pj_TC lf) (hd : 2 ≤ d) (hl : mj_lk Y.2.2.2.2 pc = some (.invokevirtual ix, 3)) (hg : mj_pG ic_P j ix = some (6005, 3, some 6)) {lv : List (Nat × Value)} {st : List pj_V} {z : pj_Z} {K : List pj_V → pj_Z → Option A} {a : A} (hK : ∀ st z, K st z = some a → pj_Gd ic_P (mj_R ic_P d) j Y OK lf (pc + 3) lv (pj_es st) z a) (h : ph_X6_beginInjection st z K = some a) : pj_Gd ic_P (mj_R ic_P d) j Y OK lf pc lv (pj_es st) z a := by
  obtain ⟨a4, r4, e4, h⟩ := pj_pi_inv h
  obtain ⟨a3, r3, e3, h⟩ := pj_pi_inv h
  obtain ⟨a1, r1, e1, h⟩ := pj_pl_inv h
  obtain ⟨r0, e0, h⟩ := pj_pr_inv h
  obtain ⟨hs, h⟩ := pj_ps_inv h
  obtain ⟨q, hq, h⟩ := pj_b_inv h
  exact pm_cv (o := 68) hl hg [.long a1, .int a3, .int a4] rfl (by rw [e4, e3, e1, e0]; rfl) hs (by decide) ((hT.2 68 _ rfl).1.2 z 0 (by decide)) (pm_rU q.1) hd (pm_X6_beginInjection hT a1 a3 a4 z.1 z.2.1 z.2.2.1 z.2.2.2 q hq) rfl (hK _ _ h)
abbrev pe_X6_happen_95 (f : Int32 → Int64 → Int32 → Int32 → Int32 → pj_F (Unit × pj_Z)) : pj_K (Unit × pj_Z) := fun lv st z => pj_xr lv 0 68 0 <| pj_xi lv 2 fun a2 => pj_xl lv 3 fun a3 => pj_xi lv 5 fun a5 => pj_xi lv 6 fun a6 => pj_xi lv 7 fun a7 => pj_pe st (f a2 a3 a5 a6 a7 z.1 z.2.1 z.2.2.1 z.2.2.2)
abbrev pe_X6_happen_130 (f : Int32 → Int64 → Int32 → Int32 → Int32 → pj_F (Unit × pj_Z)) : pj_K (Unit × pj_Z) := fun lv st z => pj_xr lv 0 68 0 <| pj_xi lv 2 fun a2 => pj_xl lv 3 fun a3 => pj_xi lv 5 fun a5 => pj_xi lv 6 fun a6 => pj_xi lv 7 fun a7 => pj_pe st (f a2 a3 a5 a6 a7 z.1 z.2.1 z.2.2.1 z.2.2.2)
abbrev pe_X6_happen_154 (f : Int32 → Int64 → Int32 → pj_F (Unit × pj_Z)) : pj_K (Unit × pj_Z) := fun lv st z => pj_xr lv 0 68 0 <| pj_xi lv 2 fun a2 => pj_xl lv 3 fun a3 => pj_xi lv 6 fun a6 => pj_pe st (f a2 a3 a6 z.1 z.2.1 z.2.2.1 z.2.2.2)
abbrev pe_X6_happen_194 (f : Int64 → Int32 → Int32 → Int32 → pj_F (Unit × pj_Z)) : pj_K (Unit × pj_Z) := fun lv st z => pj_xr lv 0 68 0 <| pj_xl lv 3 fun a3 => pj_xi lv 5 fun a5 => pj_xi lv 6 fun a6 => pj_xi lv 7 fun a7 => pj_pe st (f a3 a5 a6 a7 z.1 z.2.1 z.2.2.1 z.2.2.2)
abbrev pe_X6_happen_247 (f : Int64 → Int32 → Int32 → Int32 → pj_F (Unit × pj_Z)) : pj_K (Unit × pj_Z) := fun lv st z => pj_xr lv 0 68 0 <| pj_xl lv 3 fun a3 => pj_xi lv 5 fun a5 => pj_xi lv 6 fun a6 => pj_xi lv 7 fun a7 => pj_pe st (f a3 a5 a6 a7 z.1 z.2.1 z.2.2.1 z.2.2.2)
abbrev px_X6_happen : pj_C (Unit × pj_Z) := ((pj_as [(68, 6, 19, 1, 0, true, 0, [(2, 69), (2, 70), (2, 71), (2, 72), (0, 57), (0, 58), (2, 73), (2, 74), (2, 75), (2, 76), (2, 77), (2, 78), (1, 11), (0, 59), (0, 60), (0, 61), (2, 79), (2, 80), (2, 81)]), (69, 101, 64, 1, 0, true, 16000, []), (70, 100, 64, 1, 0, false, 5000, []), (71, 100, 64, 1, 0, true, 17000, []), (72, 100, 64, 1, 0, false, 6000, []), (73, 102, 8, 1, 0, true, 18000, []), (74, 102, 8, 1, 0, true, 19000, []), (75, 100, 8, 1, 0, false, 7000, []), (80, 102, 8, 1, 0, true, 24000, [])]), (pj_as [(11, 6, 0, 2, true), (15, 6, 1, 2, true), (19, 6, 2, 2, true), (22, 6, 3, 2, true), (25, 6, 6, 2, true), (29, 6, 7, 2, true), (32, 6, 8, 2, true), (47, 6, 17, 2, true), (53, 6, 4, 0, false), (60, 6, 13, 0, false), (63, 6, 14, 0, false)]), (fun _ => none), (fun _ => none), (fun _ => none), ic_X, 8, 0, pj_mU, (pj_as [(52, ph_X6_takeOut), (89, ph_X6_beginInjection), (124, ph_X6_keepEdge), (170, ph_X6_keepEdge), (188, ph_X6_put), (241, ph_X6_keepEdge), (298, ph_X6_keepEdge)]), fun _ => false)
abbrev pk_X6_happen : List (Nat × List (Nat × Instr × Nat)) := [(0, [(0, .iload_n 1, 1), (1, .ifCond .lt 17, 3)]), (4, [(4, .iload_n 1, 1), (5, .aload_n 0, 1), (6, .getfield 53, 3), (9, .if_icmp .ge 9, 3)]), (12, [(12, .iload_n 1, 1), (13, .bipush 64, 2), (15, .if_icmp .lt 4, 3)]), (18, [(18, .return_, 1)]), (19, [(19, .aload_n 0, 1), (20, .getfield 11, 3), (23, .iload_n 1, 1), (24, .laload, 1), (25, .lstore_n 3, 1), (26, .aload_n 0, 1), (27, .getfield 15, 3), (30, .iload_n 1, 1), (31, .iaload, 1), (32, .istore 5, 2), (34, .aload_n 0, 1), (35, .getfield 19, 3), (38, .iload_n 1, 1), (39, .iaload, 1), (40, .istore 6, 2), (42, .aload_n 0, 1), (43, .getfield 22, 3), (46, .iload_n 1, 1), (47, .iaload, 1), (48, .istore 7, 2), (50, .aload_n 0, 1), (51, .iload_n 1, 1), (52, .invokevirtual 72, 3), (55, .iload 6, 2), (57, .ifCond .lt 10, 3)]), (60, [(60, .iload 6, 2), (62, .bipush 8, 2), (64, .if_icmp .lt 4, 3)]), (67, [(67, .return_, 1)]), (68, [(68, .iload 5, 2), (70, .ifCond .ne 25, 3)]), (73, [(73, .aload_n 0, 1), (74, .getfield 25, 3), (77, .iload 6, 2), (79, .baload, 1), (80, .ifCond .ne 15, 3)]), (83, [(83, .aload_n 0, 1), (84, .lload_n 3, 1), (85, .iload 6, 2), (87, .iload 7, 2), (89, .invokevirtual 76, 3), (92, .goto 209, 3)]), (95, [(95, .iload 5, 2), (97, .iconst 3, 1), (98, .if_icmp .ne 32, 3)]), (101, [(101, .aload_n 0, 1), (102, .getfield 25, 3), (105, .iload 6, 2), (107, .baload, 1), (108, .ifCond .eq 22, 3)]), (111, [(111, .aload_n 0, 1), (112, .getfield 25, 3), (115, .iload 6, 2), (117, .iconst 0, 1), (118, .bastore, 1), (119, .aload_n 0, 1), (120, .lload_n 3, 1), (121, .iconst 1, 1), (122, .iload 6, 2), (124, .invokevirtual 80, 3), (127, .goto 174, 3)]), (130, [(130, .iload 5, 2), (132, .iconst 1, 1), (133, .if_icmp .ne 61, 3)]), (136, [(136, .aload_n 0, 1), (137, .getfield 29, 3), (140, .iload 6, 2), (142, .baload, 1), (143, .ifCond .ne 51, 3)]), (146, [(146, .aload_n 0, 1), (147, .getfield 29, 3), (150, .iload 6, 2), (152, .iconst 1, 1), (153, .bastore, 1)]), (154, [(154, .aload_n 0, 1), (155, .getfield 32, 3), (158, .iload 6, 2), (160, .dup2, 1), (161, .iaload, 1), (162, .iconst 1, 1), (163, .iadd, 1), (164, .iastore, 1), (165, .aload_n 0, 1), (166, .lload_n 3, 1), (167, .iconst 2, 1), (168, .iload 6, 2), (170, .invokevirtual 80, 3), (173, .aload_n 0, 1), (174, .lload_n 3, 1), (175, .iload_n 2, 1), (176, .i2l, 1), (177, .ladd, 1), (178, .iconst 4, 1), (179, .iload 6, 2), (181, .aload_n 0, 1), (182, .getfield 32, 3), (185, .iload 6, 2), (187, .iaload, 1), (188, .invokevirtual 83, 3), (191, .goto 110, 3)]), (194, [(194, .iload 5, 2), (196, .iconst 2, 1), (197, .if_icmp .ne 50, 3)]), (200, [(200, .aload_n 0, 1), (201, .getfield 29, 3), (204, .iload 6, 2), (206, .baload, 1), (207, .ifCond .eq 40, 3)]), (210, [(210, .aload_n 0, 1), (211, .getfield 29, 3), (214, .iload 6, 2), (216, .iconst 0, 1), (217, .bastore, 1), (218, .aload_n 0, 1), (219, .dup, 1), (220, .getfield 60, 3), (223, .iconst 1, 1), (224, .iadd, 1), (225, .putfield 60, 3), (228, .aload_n 0, 1), (229, .getfield 47, 3), (232, .iload 6, 2), (234, .iconst 1, 1), (235, .bastore, 1), (236, .aload_n 0, 1), (237, .lload_n 3, 1), (238, .iconst 3, 1), (239, .iload 6, 2), (241, .invokevirtual 80, 3), (244, .goto 57, 3)]), (247, [(247, .iload 5, 2), (249, .iconst 4, 1), (250, .if_icmp .ne 51, 3)]), (253, [(253, .aload_n 0, 1), (254, .getfield 29, 3), (257, .iload 6, 2), (259, .baload, 1), (260, .ifCond .eq 41, 3)]), (263, [(263, .aload_n 0, 1), (264, .getfield 32, 3), (267, .iload 6, 2), (269, .iaload, 1), (270, .iload 7, 2), (272, .if_icmp .ne 29, 3)]), (275, [(275, .aload_n 0, 1), (276, .getfield 29, 3), (279, .iload 6, 2), (281, .iconst 0, 1), (282, .bastore, 1), (283, .aload_n 0, 1), (284, .dup, 1), (285, .getfield 63, 3), (288, .iconst 1, 1), (289, .iadd, 1), (290, .putfield 63, 3), (293, .aload_n 0, 1), (294, .lload_n 3, 1), (295, .iconst 4, 1), (296, .iload 6, 2), (298, .invokevirtual 80, 3)]), (301, [(301, .return_, 1)])]
set_option maxRecDepth 100000 in
theorem pq_X6_happen_154  (a2 : Int32) (a3 : Int64) (a6 : Int32) (s : Nat → Int32) (l : Nat → Int64) (x : Nat → Int32) (y : Nat → Int64) : pl_X6_happen_154 a2 a3 a6 s l x y = pj_bl px_X6_happen (pj_rn px_X6_happen (pj_as pk_X6_happen) (fun _ => none) 60) [(154, .aload_n 0, 1), (155, .getfield 32, 3), (158, .iload 6, 2), (160, .dup2, 1), (161, .iaload, 1), (162, .iconst 1, 1), (163, .iadd, 1), (164, .iastore, 1), (165, .aload_n 0, 1), (166, .lload_n 3, 1), (167, .iconst 2, 1), (168, .iload 6, 2), (170, .invokevirtual 80, 3), (173, .aload_n 0, 1), (174, .lload_n 3, 1), (175, .iload_n 2, 1), (176, .i2l, 1), (177, .ladd, 1), (178, .iconst 4, 1), (179, .iload 6, 2), (181, .aload_n 0, 1), (182, .getfield 32, 3), (185, .iload 6, 2), (187, .iaload, 1), (188, .invokevirtual 83, 3), (191, .goto 110, 3)] 154 [(0, pj_O (68, 0)), (2, pj_I a2), (3, pj_L a3), (6, pj_I a6)] [] (s, l, x, y) := rfl
set_option maxRecDepth 100000 in
theorem pq_X6_happen_247  (a3 : Int64) (a5 : Int32) (a6 : Int32) (a7 : Int32) (s : Nat → Int32) (l : Nat → Int64) (x : Nat → Int32) (y : Nat → Int64) : pl_X6_happen_247 a3 a5 a6 a7 s l x y = pj_bl px_X6_happen (pj_rn px_X6_happen (pj_as pk_X6_happen) (fun _ => none) 60) [(247, .iload 5, 2), (249, .iconst 4, 1), (250, .if_icmp .ne 51, 3)] 247 [(0, pj_O (68, 0)), (3, pj_L a3), (5, pj_I a5), (6, pj_I a6), (7, pj_I a7)] [] (s, l, x, y) := rfl
set_option maxRecDepth 100000 in
theorem pq_X6_happen_194  (a3 : Int64) (a5 : Int32) (a6 : Int32) (a7 : Int32) (s : Nat → Int32) (l : Nat → Int64) (x : Nat → Int32) (y : Nat → Int64) : pl_X6_happen_194 a3 a5 a6 a7 s l x y = pj_bl px_X6_happen (pj_rn px_X6_happen (pj_as pk_X6_happen) (pj_as [(247, pe_X6_happen_247 (pl_X6_happen_247))]) 60) [(194, .iload 5, 2), (196, .iconst 2, 1), (197, .if_icmp .ne 50, 3)] 194 [(0, pj_O (68, 0)), (3, pj_L a3), (5, pj_I a5), (6, pj_I a6), (7, pj_I a7)] [] (s, l, x, y) := rfl
set_option maxRecDepth 100000 in
theorem pq_X6_happen_130  (a2 : Int32) (a3 : Int64) (a5 : Int32) (a6 : Int32) (a7 : Int32) (s : Nat → Int32) (l : Nat → Int64) (x : Nat → Int32) (y : Nat → Int64) : pl_X6_happen_130 a2 a3 a5 a6 a7 s l x y = pj_bl px_X6_happen (pj_rn px_X6_happen (pj_as pk_X6_happen) (pj_as [(154, pe_X6_happen_154 (pl_X6_happen_154)), (194, pe_X6_happen_194 (pl_X6_happen_194))]) 60) [(130, .iload 5, 2), (132, .iconst 1, 1), (133, .if_icmp .ne 61, 3)] 130 [(0, pj_O (68, 0)), (2, pj_I a2), (3, pj_L a3), (5, pj_I a5), (6, pj_I a6), (7, pj_I a7)] [] (s, l, x, y) := rfl
set_option maxRecDepth 100000 in
theorem pq_X6_happen_95  (a2 : Int32) (a3 : Int64) (a5 : Int32) (a6 : Int32) (a7 : Int32) (s : Nat → Int32) (l : Nat → Int64) (x : Nat → Int32) (y : Nat → Int64) : pl_X6_happen_95 a2 a3 a5 a6 a7 s l x y = pj_bl px_X6_happen (pj_rn px_X6_happen (pj_as pk_X6_happen) (pj_as [(130, pe_X6_happen_130 (pl_X6_happen_130))]) 60) [(95, .iload 5, 2), (97, .iconst 3, 1), (98, .if_icmp .ne 32, 3)] 95 [(0, pj_O (68, 0)), (2, pj_I a2), (3, pj_L a3), (5, pj_I a5), (6, pj_I a6), (7, pj_I a7)] [] (s, l, x, y) := rfl
set_option maxRecDepth 100000 in
theorem pq_X6_happen_m  (a1 : Int32) (a2 : Int32) (s : Nat → Int32) (l : Nat → Int64) (x : Nat → Int32) (y : Nat → Int64) : pf_X6_happen a1 a2 s l x y = pj_bl px_X6_happen (pj_rn px_X6_happen (pj_as pk_X6_happen) (pj_as [(95, pe_X6_happen_95 (pl_X6_happen_95))]) 60) [(0, .iload_n 1, 1), (1, .ifCond .lt 17, 3)] 0 [(0, pj_O (68, 0)), (1, pj_I a1), (2, pj_I a2)] [] (s, l, x, y) := rfl
theorem pu_X6_happen_95 {lf : pj_Z → mj_M} {a : Unit × pj_Z} (f : Int32 → Int64 → Int32 → Int32 → Int32 → pj_F (Unit × pj_Z)) (hf : ∀ (a2 : Int32) (a3 : Int64) (a5 : Int32) (a6 : Int32) (a7 : Int32) (s : Nat → Int32) (l : Nat → Int64) (x : Nat → Int32) (y : Nat → Int64), f a2 a3 a5 a6 a7 s l x y = some a → pm_Gd 2 6004 ie_X6_happen.1 pm_rU lf 95 [(0, .ref 68), (2, .int a2), (3, .long a3), (5, .int a5), (6, .int a6), (7, .int a7)] [] (s, l, x, y) a) : pm_Ex 2 6004 ie_X6_happen.1 pm_rU lf a 95 (pe_X6_happen_95 f) := by
  intro lv st z hd h
  obtain ⟨g0, h⟩ := pj_xr_inv h
  obtain ⟨a2, g2, h⟩ := pj_xi_inv h
  obtain ⟨a3, g3, h⟩ := pj_xl_inv h
  obtain ⟨a5, g5, h⟩ := pj_xi_inv h
  obtain ⟨a6, g6, h⟩ := pj_xi_inv h
  obtain ⟨a7, g7, h⟩ := pj_xi_inv h
  obtain ⟨e9, h⟩ := pj_pe_inv h
  rw [e9]
  exact mj_wp_sub (mj_sub_cons g0 (mj_sub_cons g2 (mj_sub_cons g3 (mj_sub_cons g5 (mj_sub_cons g6 (mj_sub_cons g7 (mj_sub_nil hd))))))) (hf _ _ _ _ _ _ _ _ _ h)
theorem pu_X6_happen_130 {lf : pj_Z → mj_M} {a : Unit × pj_Z} (f : Int32 → Int64 → Int32 → Int32 → Int32 → pj_F (Unit × pj_Z)) (hf : ∀ (a2 : Int32) (a3 : Int64) (a5 : Int32) (a6 : Int32) (a7 : Int32) (s : Nat → Int32) (l : Nat → Int64) (x : Nat → Int32) (y : Nat → Int64), f a2 a3 a5 a6 a7 s l x y = some a → pm_Gd 2 6004 ie_X6_happen.1 pm_rU lf 130 [(0, .ref 68), (2, .int a2), (3, .long a3), (5, .int a5), (6, .int a6), (7, .int a7)] [] (s, l, x, y) a) : pm_Ex 2 6004 ie_X6_happen.1 pm_rU lf a 130 (pe_X6_happen_130 f) := by
  intro lv st z hd h
  obtain ⟨g0, h⟩ := pj_xr_inv h
  obtain ⟨a2, g2, h⟩ := pj_xi_inv h
  obtain ⟨a3, g3, h⟩ := pj_xl_inv h
  obtain ⟨a5, g5, h⟩ := pj_xi_inv h
  obtain ⟨a6, g6, h⟩ := pj_xi_inv h
  obtain ⟨a7, g7, h⟩ := pj_xi_inv h
  obtain ⟨e9, h⟩ := pj_pe_inv h
  rw [e9]
  exact mj_wp_sub (mj_sub_cons g0 (mj_sub_cons g2 (mj_sub_cons g3 (mj_sub_cons g5 (mj_sub_cons g6 (mj_sub_cons g7 (mj_sub_nil hd))))))) (hf _ _ _ _ _ _ _ _ _ h)
theorem pu_X6_happen_154 {lf : pj_Z → mj_M} {a : Unit × pj_Z} (f : Int32 → Int64 → Int32 → pj_F (Unit × pj_Z)) (hf : ∀ (a2 : Int32) (a3 : Int64) (a6 : Int32) (s : Nat → Int32) (l : Nat → Int64) (x : Nat → Int32) (y : Nat → Int64), f a2 a3 a6 s l x y = some a → pm_Gd 2 6004 ie_X6_happen.1 pm_rU lf 154 [(0, .ref 68), (2, .int a2), (3, .long a3), (6, .int a6)] [] (s, l, x, y) a) : pm_Ex 2 6004 ie_X6_happen.1 pm_rU lf a 154 (pe_X6_happen_154 f) := by
  intro lv st z hd h
  obtain ⟨g0, h⟩ := pj_xr_inv h
  obtain ⟨a2, g2, h⟩ := pj_xi_inv h
  obtain ⟨a3, g3, h⟩ := pj_xl_inv h
  obtain ⟨a6, g6, h⟩ := pj_xi_inv h
  obtain ⟨e9, h⟩ := pj_pe_inv h
  rw [e9]
  exact mj_wp_sub (mj_sub_cons g0 (mj_sub_cons g2 (mj_sub_cons g3 (mj_sub_cons g6 (mj_sub_nil hd))))) (hf _ _ _ _ _ _ _ h)
theorem pu_X6_happen_194 {lf : pj_Z → mj_M} {a : Unit × pj_Z} (f : Int64 → Int32 → Int32 → Int32 → pj_F (Unit × pj_Z)) (hf : ∀ (a3 : Int64) (a5 : Int32) (a6 : Int32) (a7 : Int32) (s : Nat → Int32) (l : Nat → Int64) (x : Nat → Int32) (y : Nat → Int64), f a3 a5 a6 a7 s l x y = some a → pm_Gd 2 6004 ie_X6_happen.1 pm_rU lf 194 [(0, .ref 68), (3, .long a3), (5, .int a5), (6, .int a6), (7, .int a7)] [] (s, l, x, y) a) : pm_Ex 2 6004 ie_X6_happen.1 pm_rU lf a 194 (pe_X6_happen_194 f) := by
  intro lv st z hd h
  obtain ⟨g0, h⟩ := pj_xr_inv h
  obtain ⟨a3, g3, h⟩ := pj_xl_inv h
  obtain ⟨a5, g5, h⟩ := pj_xi_inv h
  obtain ⟨a6, g6, h⟩ := pj_xi_inv h
  obtain ⟨a7, g7, h⟩ := pj_xi_inv h
  obtain ⟨e9, h⟩ := pj_pe_inv h
  rw [e9]
  exact mj_wp_sub (mj_sub_cons g0 (mj_sub_cons g3 (mj_sub_cons g5 (mj_sub_cons g6 (mj_sub_cons g7 (mj_sub_nil hd)))))) (hf _ _ _ _ _ _ _ _ h)
theorem pu_X6_happen_247 {lf : pj_Z → mj_M} {a : Unit × pj_Z} (f : Int64 → Int32 → Int32 → Int32 → pj_F (Unit × pj_Z)) (hf : ∀ (a3 : Int64) (a5 : Int32) (a6 : Int32) (a7 : Int32) (s : Nat → Int32) (l : Nat → Int64) (x : Nat → Int32) (y : Nat → Int64), f a3 a5 a6 a7 s l x y = some a → pm_Gd 2 6004 ie_X6_happen.1 pm_rU lf 247 [(0, .ref 68), (3, .long a3), (5, .int a5), (6, .int a6), (7, .int a7)] [] (s, l, x, y) a) : pm_Ex 2 6004 ie_X6_happen.1 pm_rU lf a 247 (pe_X6_happen_247 f) := by
  intro lv st z hd h
  obtain ⟨g0, h⟩ := pj_xr_inv h
  obtain ⟨a3, g3, h⟩ := pj_xl_inv h
  obtain ⟨a5, g5, h⟩ := pj_xi_inv h
  obtain ⟨a6, g6, h⟩ := pj_xi_inv h
  obtain ⟨a7, g7, h⟩ := pj_xi_inv h
  obtain ⟨e9, h⟩ := pj_pe_inv h
  rw [e9]
  exact mj_wp_sub (mj_sub_cons g0 (mj_sub_cons g3 (mj_sub_cons g5 (mj_sub_cons g6 (mj_sub_cons g7 (mj_sub_nil hd)))))) (hf _ _ _ _ _ _ _ _ h)
set_option maxRecDepth 100000 in
theorem pz_X6_happen {lf : pj_Z → mj_M} (hT : pj_Lt pj_TC lf) : pj_Cok ic_P (mj_R ic_P 2) 6004 ie_X6_happen.1 (pm_OK lf pm_rU) lf px_X6_happen := by
  exact pm_cok (c := px_X6_happen) (pm_part hT (pj_as_all (p := fun b e => pj_TC b = some e) (List.forall_mem_cons.mpr ⟨rfl, (List.forall_mem_cons.mpr ⟨rfl, (List.forall_mem_cons.mpr ⟨rfl, (List.forall_mem_cons.mpr ⟨rfl, (List.forall_mem_cons.mpr ⟨rfl, (List.forall_mem_cons.mpr ⟨rfl, (List.forall_mem_cons.mpr ⟨rfl, (List.forall_mem_cons.mpr ⟨rfl, (List.forall_mem_cons.mpr ⟨rfl, (fun _ h => by cases h)⟩)⟩)⟩)⟩)⟩)⟩)⟩)⟩)⟩))) (pm_in_ok (L := [(11, 6, 0, 2, true), (15, 6, 1, 2, true), (19, 6, 2, 2, true), (22, 6, 3, 2, true), (25, 6, 6, 2, true), (29, 6, 7, 2, true), (32, 6, 8, 2, true), (47, 6, 17, 2, true), (53, 6, 4, 0, false), (60, 6, 13, 0, false), (63, 6, 14, 0, false)]) (f := mj_pF ic_P 6004) (by decide +kernel)) (fun _ _ h => by cases h) (fun _ _ h => by cases h) (fun _ _ h => by cases h) rfl rfl ⟨by decide, rfl⟩ pm_mU (pj_as_all (p := pm_Cl 2 6004 ie_X6_happen.1 lf (pm_OK lf pm_rU)) (List.forall_mem_cons.mpr ⟨fun _ _ lv st z K a hK h => pc_X6_takeOut hT (by decide) (ix := 72) rfl rfl hK h, (List.forall_mem_cons.mpr ⟨fun _ _ lv st z K a hK h => pc_X6_beginInjection hT (by decide) (ix := 76) rfl rfl hK h, (List.forall_mem_cons.mpr ⟨fun _ _ lv st z K a hK h => pc_X6_keepEdge hT (by decide) (ix := 80) rfl rfl hK h, (List.forall_mem_cons.mpr ⟨fun _ _ lv st z K a hK h => pc_X6_keepEdge hT (by decide) (ix := 80) rfl rfl hK h, (List.forall_mem_cons.mpr ⟨fun _ _ lv st z K a hK h => pc_X6_put hT (by decide) (ix := 83) rfl rfl hK h, (List.forall_mem_cons.mpr ⟨fun _ _ lv st z K a hK h => pc_X6_keepEdge hT (by decide) (ix := 80) rfl rfl hK h, (List.forall_mem_cons.mpr ⟨fun _ _ lv st z K a hK h => pc_X6_keepEdge hT (by decide) (ix := 80) rfl rfl hK h, (fun _ h => by cases h)⟩)⟩)⟩)⟩)⟩)⟩)⟩)) (fun _ h => by cases h)
set_option maxRecDepth 100000 in
theorem pb_X6_happen : pm_bks ie_X6_happen.1.2.2.2.2 pk_X6_happen = true := by decide +kernel
set_option maxRecDepth 100000 in
theorem pg_X6_happen_154 {lf : pj_Z → mj_M} (hT : pj_Lt pj_TC lf) : ∀ (a2 : Int32) (a3 : Int64) (a6 : Int32) (s : Nat → Int32) (l : Nat → Int64) (x : Nat → Int32) (y : Nat → Int64) (a : Unit × pj_Z), pl_X6_happen_154 a2 a3 a6 s l x y = some a → pm_Gd 2 6004 ie_X6_happen.1 pm_rU lf 154 [(0, .ref 68), (2, .int a2), (3, .long a3), (6, .int a6)] [] (s, l, x, y) a := by
  intro a2 a3 a6 s l x y a h
  exact pm_run ((pq_X6_happen_154  a2 a3 a6 s l x y).symm.trans h) (pz_X6_happen hT) (pm_bks_ok pb_X6_happen) (pm_bks_ok pb_X6_happen _ _ rfl) (pm_ndb_ok rfl) (fun _ _ h => by cases h)
set_option maxRecDepth 100000 in
theorem pg_X6_happen_247 {lf : pj_Z → mj_M} (hT : pj_Lt pj_TC lf) : ∀ (a3 : Int64) (a5 : Int32) (a6 : Int32) (a7 : Int32) (s : Nat → Int32) (l : Nat → Int64) (x : Nat → Int32) (y : Nat → Int64) (a : Unit × pj_Z), pl_X6_happen_247 a3 a5 a6 a7 s l x y = some a → pm_Gd 2 6004 ie_X6_happen.1 pm_rU lf 247 [(0, .ref 68), (3, .long a3), (5, .int a5), (6, .int a6), (7, .int a7)] [] (s, l, x, y) a := by
  intro a3 a5 a6 a7 s l x y a h
  exact pm_run ((pq_X6_happen_247  a3 a5 a6 a7 s l x y).symm.trans h) (pz_X6_happen hT) (pm_bks_ok pb_X6_happen) (pm_bks_ok pb_X6_happen _ _ rfl) (pm_ndb_ok rfl) (fun _ _ h => by cases h)
set_option maxRecDepth 100000 in
theorem pg_X6_happen_194 {lf : pj_Z → mj_M} (hT : pj_Lt pj_TC lf) : ∀ (a3 : Int64) (a5 : Int32) (a6 : Int32) (a7 : Int32) (s : Nat → Int32) (l : Nat → Int64) (x : Nat → Int32) (y : Nat → Int64) (a : Unit × pj_Z), pl_X6_happen_194 a3 a5 a6 a7 s l x y = some a → pm_Gd 2 6004 ie_X6_happen.1 pm_rU lf 194 [(0, .ref 68), (3, .long a3), (5, .int a5), (6, .int a6), (7, .int a7)] [] (s, l, x, y) a := by
  intro a3 a5 a6 a7 s l x y a h
  exact pm_run ((pq_X6_happen_194  a3 a5 a6 a7 s l x y).symm.trans h) (pz_X6_happen hT) (pm_bks_ok pb_X6_happen) (pm_bks_ok pb_X6_happen _ _ rfl) (pm_ndb_ok rfl) (pj_as_all (p := pm_Ex 2 6004 ie_X6_happen.1 pm_rU lf a) (List.forall_mem_cons.mpr ⟨pu_X6_happen_247 _ (fun c0 c1 c2 c3 s l x y h => pg_X6_happen_247 hT c0 c1 c2 c3 s l x y _ h), (fun _ h => by cases h)⟩))
set_option maxRecDepth 100000 in
theorem pg_X6_happen_130 {lf : pj_Z → mj_M} (hT : pj_Lt pj_TC lf) : ∀ (a2 : Int32) (a3 : Int64) (a5 : Int32) (a6 : Int32) (a7 : Int32) (s : Nat → Int32) (l : Nat → Int64) (x : Nat → Int32) (y : Nat → Int64) (a : Unit × pj_Z), pl_X6_happen_130 a2 a3 a5 a6 a7 s l x y = some a → pm_Gd 2 6004 ie_X6_happen.1 pm_rU lf 130 [(0, .ref 68), (2, .int a2), (3, .long a3), (5, .int a5), (6, .int a6), (7, .int a7)] [] (s, l, x, y) a := by
  intro a2 a3 a5 a6 a7 s l x y a h
  exact pm_run ((pq_X6_happen_130  a2 a3 a5 a6 a7 s l x y).symm.trans h) (pz_X6_happen hT) (pm_bks_ok pb_X6_happen) (pm_bks_ok pb_X6_happen _ _ rfl) (pm_ndb_ok rfl) (pj_as_all (p := pm_Ex 2 6004 ie_X6_happen.1 pm_rU lf a) (List.forall_mem_cons.mpr ⟨pu_X6_happen_154 _ (fun c0 c1 c2 s l x y h => pg_X6_happen_154 hT c0 c1 c2 s l x y _ h), (List.forall_mem_cons.mpr ⟨pu_X6_happen_194 _ (fun c0 c1 c2 c3 s l x y h => pg_X6_happen_194 hT c0 c1 c2 c3 s l x y _ h), (fun _ h => by cases h)⟩)⟩))
set_option maxRecDepth 100000 in
theorem pg_X6_happen_95 {lf : pj_Z → mj_M} (hT : pj_Lt pj_TC lf) : ∀ (a2 : Int32) (a3 : Int64) (a5 : Int32) (a6 : Int32) (a7 : Int32) (s : Nat → Int32) (l : Nat → Int64) (x : Nat → Int32) (y : Nat → Int64) (a : Unit × pj_Z), pl_X6_happen_95 a2 a3 a5 a6 a7 s l x y = some a → pm_Gd 2 6004 ie_X6_happen.1 pm_rU lf 95 [(0, .ref 68), (2, .int a2), (3, .long a3), (5, .int a5), (6, .int a6), (7, .int a7)] [] (s, l, x, y) a := by
  intro a2 a3 a5 a6 a7 s l x y a h
  exact pm_run ((pq_X6_happen_95  a2 a3 a5 a6 a7 s l x y).symm.trans h) (pz_X6_happen hT) (pm_bks_ok pb_X6_happen) (pm_bks_ok pb_X6_happen _ _ rfl) (pm_ndb_ok rfl) (pj_as_all (p := pm_Ex 2 6004 ie_X6_happen.1 pm_rU lf a) (List.forall_mem_cons.mpr ⟨pu_X6_happen_130 _ (fun c0 c1 c2 c3 c4 s l x y h => pg_X6_happen_130 hT c0 c1 c2 c3 c4 s l x y _ h), (fun _ h => by cases h)⟩))
set_option maxRecDepth 100000 in
theorem pm_X6_happen {lf : pj_Z → mj_M} (hT : pj_Lt pj_TC lf) (a1 : Int32) (a2 : Int32) (s : Nat → Int32) (l : Nat → Int64) (x : Nat → Int32) (y : Nat → Int64) (a : Unit × pj_Z) (h : pf_X6_happen a1 a2 s l x y = some a) : mj_R ic_P 3 6004 [.ref 68, .int a1, .int a2] (lf (s, l, x, y)) (pm_rU a.1) (lf a.2) := by
  refine pm_main (Y := ie_X6_happen.1) rfl (Nat.le_of_ble_eq_true rfl) ?_
  exact pm_run ((pq_X6_happen_m a1 a2 s l x y).symm.trans h) (pz_X6_happen hT) (pm_bks_ok pb_X6_happen) (pm_bks_ok pb_X6_happen _ _ rfl) (pm_ndb_ok rfl) (pj_as_all (p := pm_Ex 2 6004 ie_X6_happen.1 pm_rU lf a) (List.forall_mem_cons.mpr ⟨pu_X6_happen_95 _ (fun c0 c1 c2 c3 c4 s l x y h => pg_X6_happen_95 hT c0 c1 c2 c3 c4 s l x y _ h), (fun _ h => by cases h)⟩))
abbrev ph_X6_happen {A : Type} : List pj_V → pj_Z → (List pj_V → pj_Z → Option A) → Option A := fun st z K => pj_pi st fun a2 st => pj_pi st fun a1 st => pj_pr st 68 0 fun st => pj_ps st (pj_b (pf_X6_happen a1 a2 z.1 z.2.1 z.2.2.1 z.2.2.2) fun r s l x y => K st (s, l, x, y))
set_option maxRecDepth 100000 in
theorem pc_X6_happen {A : Type} {OK : A → Option Value → mj_M → Prop} {d j pc ix : Nat} {Y : mj_Y} {lf : pj_Z → mj_M} (hT : pj_Lt pj_TC lf) (hd : 3 ≤ d) (hl : mj_lk Y.2.2.2.2 pc = some (.invokevirtual ix, 3)) (hg : mj_pG ic_P j ix = some (6004, 2, some 6)) {lv : List (Nat × Value)} {st : List pj_V} {z : pj_Z} {K : List pj_V → pj_Z → Option A} {a : A} (hK : ∀ st z, K st z = some a → pj_Gd ic_P (mj_R ic_P d) j Y OK lf (pc + 3) lv (pj_es st) z a) (h : ph_X6_happen st z K = some a) : pj_Gd ic_P (mj_R ic_P d) j Y OK lf pc lv (pj_es st) z a := by
  obtain ⟨a2, r2, e2, h⟩ := pj_pi_inv h
  obtain ⟨a1, r1, e1, h⟩ := pj_pi_inv h
  obtain ⟨r0, e0, h⟩ := pj_pr_inv h
  obtain ⟨hs, h⟩ := pj_ps_inv h
  obtain ⟨q, hq, h⟩ := pj_b_inv h
  exact pm_cv (o := 68) hl hg [.int a1, .int a2] rfl (by rw [e2, e1, e0]; rfl) hs (by decide) ((hT.2 68 _ rfl).1.2 z 0 (by decide)) (pm_rU q.1) hd (pm_X6_happen hT a1 a2 z.1 z.2.1 z.2.2.1 z.2.2.2 q hq) rfl (hK _ _ h)
abbrev px_J9_min_7cf53 : pj_C (Int32 × pj_Z) := ((fun _ => none), (fun _ => none), (fun _ => none), (fun _ => none), (fun _ => none), ic_X, 2, 1, pj_mI, (fun _ => none), fun _ => false)
abbrev pk_J9_min_7cf53 : List (Nat × List (Nat × Instr × Nat)) := [(0, [(0, .iload_n 0, 1), (1, .iload_n 1, 1), (2, .if_icmp .gt 7, 3)]), (5, [(5, .iload_n 0, 1), (6, .goto 4, 3)]), (9, [(9, .iload_n 1, 1)]), (10, [(10, .ireturn, 1)])]
set_option maxRecDepth 100000 in
theorem pq_J9_min_7cf53_m  (a0 : Int32) (a1 : Int32) (s : Nat → Int32) (l : Nat → Int64) (x : Nat → Int32) (y : Nat → Int64) : pf_J9_min_7cf53 a0 a1 s l x y = pj_bl px_J9_min_7cf53 (pj_rn px_J9_min_7cf53 (pj_as pk_J9_min_7cf53) (fun _ => none) 60) [(0, .iload_n 0, 1), (1, .iload_n 1, 1), (2, .if_icmp .gt 7, 3)] 0 [(0, pj_I a0), (1, pj_I a1)] [] (s, l, x, y) := rfl
set_option maxRecDepth 100000 in
theorem pz_J9_min_7cf53 {lf : pj_Z → mj_M} (hT : pj_Lt (fun _ => none) lf) : pj_Cok ic_P (mj_R ic_P 0) 29006 ie_J9_min_7cf53.1 (pm_OK lf pm_rI) lf px_J9_min_7cf53 := by
  exact pm_cok (c := px_J9_min_7cf53) hT (fun _ _ h => by cases h) (fun _ _ h => by cases h) (fun _ _ h => by cases h) (fun _ _ h => by cases h) rfl rfl ⟨by decide, rfl⟩ pm_mI (fun _ _ h => by cases h) (fun _ h => by cases h)
set_option maxRecDepth 100000 in
theorem pb_J9_min_7cf53 : pm_bks ie_J9_min_7cf53.1.2.2.2.2 pk_J9_min_7cf53 = true := by decide +kernel
set_option maxRecDepth 100000 in
theorem pm_J9_min_7cf53 {lf : pj_Z → mj_M} (hT : pj_Lt (fun _ => none) lf) (a0 : Int32) (a1 : Int32) (s : Nat → Int32) (l : Nat → Int64) (x : Nat → Int32) (y : Nat → Int64) (a : Int32 × pj_Z) (h : pf_J9_min_7cf53 a0 a1 s l x y = some a) : mj_R ic_P 1 29006 [.int a0, .int a1] (lf (s, l, x, y)) (pm_rI a.1) (lf a.2) := by
  refine pm_main (Y := ie_J9_min_7cf53.1) rfl (Nat.le_of_ble_eq_true rfl) ?_
  exact pm_run ((pq_J9_min_7cf53_m a0 a1 s l x y).symm.trans h) (pz_J9_min_7cf53 hT) (pm_bks_ok pb_J9_min_7cf53) (pm_bks_ok pb_J9_min_7cf53 _ _ rfl) (pm_ndb_ok rfl) (fun _ _ h => by cases h)
abbrev ph_J9_min_7cf53 {A : Type} : List pj_V → pj_Z → (List pj_V → pj_Z → Option A) → Option A := fun st z K => pj_pi st fun a1 st => pj_pi st fun a0 st => pj_ps st (pj_b (pf_J9_min_7cf53 a0 a1 z.1 z.2.1 z.2.2.1 z.2.2.2) fun r s l x y => K (pj_I r :: st) (s, l, x, y))
set_option maxRecDepth 100000 in
theorem pc_J9_min_7cf53 {A : Type} {OK : A → Option Value → mj_M → Prop} {d j pc ix : Nat} {Y : mj_Y} {lf : pj_Z → mj_M} (hT : pj_Lt (fun _ => none) lf) (hd : 1 ≤ d) (hl : mj_lk Y.2.2.2.2 pc = some (.invokestatic ix, 3)) (hg : mj_pG ic_P j ix = some (29006, 2, none)) {lv : List (Nat × Value)} {st : List pj_V} {z : pj_Z} {K : List pj_V → pj_Z → Option A} {a : A} (hK : ∀ st z, K st z = some a → pj_Gd ic_P (mj_R ic_P d) j Y OK lf (pc + 3) lv (pj_es st) z a) (h : ph_J9_min_7cf53 st z K = some a) : pj_Gd ic_P (mj_R ic_P d) j Y OK lf pc lv (pj_es st) z a := by
  obtain ⟨a1, r1, e1, h⟩ := pj_pi_inv h
  obtain ⟨a0, r0, e0, h⟩ := pj_pi_inv h
  obtain ⟨hs, h⟩ := pj_ps_inv h
  obtain ⟨q, hq, h⟩ := pj_b_inv h
  exact pm_cs hl hg [.int a0, .int a1] rfl (by rw [e1, e0]; rfl) hs (pm_rI q.1) hd (pm_J9_min_7cf53 hT a0 a1 z.1 z.2.1 z.2.2.1 z.2.2.2 q hq) rfl (hK _ _ h)
abbrev px_J9_max_7cf53 : pj_C (Int32 × pj_Z) := ((fun _ => none), (fun _ => none), (fun _ => none), (fun _ => none), (fun _ => none), ic_X, 2, 1, pj_mI, (fun _ => none), fun _ => false)
abbrev pk_J9_max_7cf53 : List (Nat × List (Nat × Instr × Nat)) := [(0, [(0, .iload_n 0, 1), (1, .iload_n 1, 1), (2, .if_icmp .lt 7, 3)]), (5, [(5, .iload_n 0, 1), (6, .goto 4, 3)]), (9, [(9, .iload_n 1, 1)]), (10, [(10, .ireturn, 1)])]
set_option maxRecDepth 100000 in
theorem pq_J9_max_7cf53_m  (a0 : Int32) (a1 : Int32) (s : Nat → Int32) (l : Nat → Int64) (x : Nat → Int32) (y : Nat → Int64) : pf_J9_max_7cf53 a0 a1 s l x y = pj_bl px_J9_max_7cf53 (pj_rn px_J9_max_7cf53 (pj_as pk_J9_max_7cf53) (fun _ => none) 60) [(0, .iload_n 0, 1), (1, .iload_n 1, 1), (2, .if_icmp .lt 7, 3)] 0 [(0, pj_I a0), (1, pj_I a1)] [] (s, l, x, y) := rfl
set_option maxRecDepth 100000 in
theorem pz_J9_max_7cf53 {lf : pj_Z → mj_M} (hT : pj_Lt (fun _ => none) lf) : pj_Cok ic_P (mj_R ic_P 0) 29004 ie_J9_max_7cf53.1 (pm_OK lf pm_rI) lf px_J9_max_7cf53 := by
  exact pm_cok (c := px_J9_max_7cf53) hT (fun _ _ h => by cases h) (fun _ _ h => by cases h) (fun _ _ h => by cases h) (fun _ _ h => by cases h) rfl rfl ⟨by decide, rfl⟩ pm_mI (fun _ _ h => by cases h) (fun _ h => by cases h)
set_option maxRecDepth 100000 in
theorem pb_J9_max_7cf53 : pm_bks ie_J9_max_7cf53.1.2.2.2.2 pk_J9_max_7cf53 = true := by decide +kernel
set_option maxRecDepth 100000 in
theorem pm_J9_max_7cf53 {lf : pj_Z → mj_M} (hT : pj_Lt (fun _ => none) lf) (a0 : Int32) (a1 : Int32) (s : Nat → Int32) (l : Nat → Int64) (x : Nat → Int32) (y : Nat → Int64) (a : Int32 × pj_Z) (h : pf_J9_max_7cf53 a0 a1 s l x y = some a) : mj_R ic_P 1 29004 [.int a0, .int a1] (lf (s, l, x, y)) (pm_rI a.1) (lf a.2) := by
  refine pm_main (Y := ie_J9_max_7cf53.1) rfl (Nat.le_of_ble_eq_true rfl) ?_
  exact pm_run ((pq_J9_max_7cf53_m a0 a1 s l x y).symm.trans h) (pz_J9_max_7cf53 hT) (pm_bks_ok pb_J9_max_7cf53) (pm_bks_ok pb_J9_max_7cf53 _ _ rfl) (pm_ndb_ok rfl) (fun _ _ h => by cases h)
abbrev ph_J9_max_7cf53 {A : Type} : List pj_V → pj_Z → (List pj_V → pj_Z → Option A) → Option A := fun st z K => pj_pi st fun a1 st => pj_pi st fun a0 st => pj_ps st (pj_b (pf_J9_max_7cf53 a0 a1 z.1 z.2.1 z.2.2.1 z.2.2.2) fun r s l x y => K (pj_I r :: st) (s, l, x, y))
set_option maxRecDepth 100000 in
theorem pc_J9_max_7cf53 {A : Type} {OK : A → Option Value → mj_M → Prop} {d j pc ix : Nat} {Y : mj_Y} {lf : pj_Z → mj_M} (hT : pj_Lt (fun _ => none) lf) (hd : 1 ≤ d) (hl : mj_lk Y.2.2.2.2 pc = some (.invokestatic ix, 3)) (hg : mj_pG ic_P j ix = some (29004, 2, none)) {lv : List (Nat × Value)} {st : List pj_V} {z : pj_Z} {K : List pj_V → pj_Z → Option A} {a : A} (hK : ∀ st z, K st z = some a → pj_Gd ic_P (mj_R ic_P d) j Y OK lf (pc + 3) lv (pj_es st) z a) (h : ph_J9_max_7cf53 st z K = some a) : pj_Gd ic_P (mj_R ic_P d) j Y OK lf pc lv (pj_es st) z a := by
  obtain ⟨a1, r1, e1, h⟩ := pj_pi_inv h
  obtain ⟨a0, r0, e0, h⟩ := pj_pi_inv h
  obtain ⟨hs, h⟩ := pj_ps_inv h
  obtain ⟨q, hq, h⟩ := pj_b_inv h
  exact pm_cs hl hg [.int a0, .int a1] rfl (by rw [e1, e0]; rfl) hs (pm_rI q.1) hd (pm_J9_max_7cf53 hT a0 a1 z.1 z.2.1 z.2.2.1 z.2.2.2 q hq) rfl (hK _ _ h)
abbrev pe_X5_roll_77 (f : pj_F (Unit × pj_Z)) : pj_K (Unit × pj_Z) := fun lv st z => pj_xr lv 0 122 0 <| pj_pe st (f  z.1 z.2.1 z.2.2.1 z.2.2.2)
abbrev pe_X5_roll_98 (f : pj_F (Unit × pj_Z)) : pj_K (Unit × pj_Z) := fun lv st z => pj_xr lv 0 122 0 <| pj_pe st (f  z.1 z.2.1 z.2.2.1 z.2.2.2)
abbrev px_X5_roll : pj_C (Unit × pj_Z) := ((pj_as [(122, 5, 13, 1, 0, true, 0, [(0, 45), (0, 46), (0, 47), (0, 48), (0, 49), (0, 50), (0, 51), (0, 52), (0, 53), (0, 54), (0, 55), (2, 123), (0, 56)])]), (pj_as [(26, 5, 1, 0, false), (46, 5, 4, 3, false), (49, 5, 8, 0, false), (56, 5, 7, 0, false), (59, 5, 10, 0, false), (63, 5, 9, 0, false)]), (pj_as [(62, 36000)]), (fun _ => none), (pj_as [(52, 8)]), ic_X, 2, 0, pj_mU, (pj_as [(47, ph_J9_min_7cf53), (67, ph_X11_clip), (92, ph_J9_max_7cf53)]), fun _ => false)
abbrev pk_X5_roll : List (Nat × List (Nat × Instr × Nat)) := [(0, [(0, .aload_n 0, 1), (1, .getfield 46, 3), (4, .ifCond .eq 73, 3)]), (7, [(7, .aload_n 0, 1), (8, .getfield 49, 3), (11, .iconst 1, 1), (12, .if_icmp .lt 65, 3)]), (15, [(15, .aload_n 0, 1), (16, .getfield 49, 3), (19, .getstatic 52, 3), (22, .arraylength, 1), (23, .if_icmp .gt 54, 3)]), (26, [(26, .sipush 30000, 3), (29, .aload_n 0, 1), (30, .getfield 26, 3), (33, .getstatic 52, 3), (36, .aload_n 0, 1), (37, .getfield 49, 3), (40, .iconst 1, 1), (41, .isub, 1), (42, .iaload, 1), (43, .imul, 1), (44, .bipush 100, 2), (46, .idiv, 1), (47, .invokestatic 30, 3), (50, .istore_n 1, 1), (51, .aload_n 0, 1), (52, .dup, 1), (53, .getfield 56, 3), (56, .iload_n 1, 1), (57, .aload_n 0, 1), (58, .getfield 56, 3), (61, .isub, 1), (62, .i2l, 1), (63, .bipush (-50), 2), (65, .bipush 50, 2), (67, .invokestatic 42, 3), (70, .iadd, 1), (71, .putfield 56, 3), (74, .goto 24, 3)]), (77, [(77, .aload_n 0, 1), (78, .getfield 46, 3), (81, .ifCond .eq 17, 3)]), (84, [(84, .aload_n 0, 1), (85, .iconst 0, 1), (86, .aload_n 0, 1), (87, .getfield 56, 3), (90, .iconst 5, 1), (91, .isub, 1), (92, .invokestatic 39, 3), (95, .putfield 56, 3)]), (98, [(98, .aload_n 0, 1), (99, .dup, 1), (100, .getfield 59, 3), (103, .aload_n 0, 1), (104, .getfield 56, 3), (107, .iadd, 1), (108, .putfield 59, 3), (111, .aload_n 0, 1), (112, .getfield 59, 3), (115, .ldc 62, 2), (117, .if_icmp .lt 24, 3)]), (120, [(120, .aload_n 0, 1), (121, .dup, 1), (122, .getfield 59, 3), (125, .ldc 62, 2), (127, .isub, 1), (128, .putfield 59, 3), (131, .aload_n 0, 1), (132, .dup, 1), (133, .getfield 63, 3), (136, .iconst 1, 1), (137, .iadd, 1), (138, .putfield 63, 3)]), (141, [(141, .return_, 1)])]
set_option maxRecDepth 100000 in
theorem pq_X5_roll_98   (s : Nat → Int32) (l : Nat → Int64) (x : Nat → Int32) (y : Nat → Int64) : pl_X5_roll_98 s l x y = pj_bl px_X5_roll (pj_rn px_X5_roll (pj_as pk_X5_roll) (fun _ => none) 60) [(98, .aload_n 0, 1), (99, .dup, 1), (100, .getfield 59, 3), (103, .aload_n 0, 1), (104, .getfield 56, 3), (107, .iadd, 1), (108, .putfield 59, 3), (111, .aload_n 0, 1), (112, .getfield 59, 3), (115, .ldc 62, 2), (117, .if_icmp .lt 24, 3)] 98 [(0, pj_O (122, 0))] [] (s, l, x, y) := rfl
set_option maxRecDepth 100000 in
theorem pq_X5_roll_77   (s : Nat → Int32) (l : Nat → Int64) (x : Nat → Int32) (y : Nat → Int64) : pl_X5_roll_77 s l x y = pj_bl px_X5_roll (pj_rn px_X5_roll (pj_as pk_X5_roll) (pj_as [(98, pe_X5_roll_98 (pl_X5_roll_98))]) 60) [(77, .aload_n 0, 1), (78, .getfield 46, 3), (81, .ifCond .eq 17, 3)] 77 [(0, pj_O (122, 0))] [] (s, l, x, y) := rfl
set_option maxRecDepth 100000 in
theorem pq_X5_roll_m   (s : Nat → Int32) (l : Nat → Int64) (x : Nat → Int32) (y : Nat → Int64) : pf_X5_roll  s l x y = pj_bl px_X5_roll (pj_rn px_X5_roll (pj_as pk_X5_roll) (pj_as [(77, pe_X5_roll_77 (pl_X5_roll_77)), (98, pe_X5_roll_98 (pl_X5_roll_98))]) 60) [(0, .aload_n 0, 1), (1, .getfield 46, 3), (4, .ifCond .eq 73, 3)] 0 [(0, pj_O (122, 0))] [] (s, l, x, y) := rfl
theorem pu_X5_roll_77 {lf : pj_Z → mj_M} {a : Unit × pj_Z} (f : pj_F (Unit × pj_Z)) (hf : ∀  (s : Nat → Int32) (l : Nat → Int64) (x : Nat → Int32) (y : Nat → Int64), f  s l x y = some a → pm_Gd 1 5006 ie_X5_roll.1 pm_rU lf 77 [(0, .ref 122)] [] (s, l, x, y) a) : pm_Ex 1 5006 ie_X5_roll.1 pm_rU lf a 77 (pe_X5_roll_77 f) := by
  intro lv st z hd h
  obtain ⟨g0, h⟩ := pj_xr_inv h
  obtain ⟨e9, h⟩ := pj_pe_inv h
  rw [e9]
  exact mj_wp_sub (mj_sub_cons g0 (mj_sub_nil hd)) (hf  _ _ _ _ h)
theorem pu_X5_roll_98 {lf : pj_Z → mj_M} {a : Unit × pj_Z} (f : pj_F (Unit × pj_Z)) (hf : ∀  (s : Nat → Int32) (l : Nat → Int64) (x : Nat → Int32) (y : Nat → Int64), f  s l x y = some a → pm_Gd 1 5006 ie_X5_roll.1 pm_rU lf 98 [(0, .ref 122)] [] (s, l, x, y) a) : pm_Ex 1 5006 ie_X5_roll.1 pm_rU lf a 98 (pe_X5_roll_98 f) := by
  intro lv st z hd h
  obtain ⟨g0, h⟩ := pj_xr_inv h
  obtain ⟨e9, h⟩ := pj_pe_inv h
  rw [e9]
  exact mj_wp_sub (mj_sub_cons g0 (mj_sub_nil hd)) (hf  _ _ _ _ h)
set_option maxRecDepth 100000 in
theorem pz_X5_roll {lf : pj_Z → mj_M} (hT : pj_Lt pj_TC lf) : pj_Cok ic_P (mj_R ic_P 1) 5006 ie_X5_roll.1 (pm_OK lf pm_rU) lf px_X5_roll := by
  exact pm_cok (c := px_X5_roll) (pm_part hT (pj_as_all (p := fun b e => pj_TC b = some e) (List.forall_mem_cons.mpr ⟨rfl, (fun _ h => by cases h)⟩))) (pm_in_ok (L := [(26, 5, 1, 0, false), (46, 5, 4, 3, false), (49, 5, 8, 0, false), (56, 5, 7, 0, false), (59, 5, 10, 0, false), (63, 5, 9, 0, false)]) (f := mj_pF ic_P 5006) (by decide +kernel)) (pm_inI_ok (L := [(62, 36000)]) (f := mj_pK ic_P 5006) (by decide +kernel)) (fun _ _ h => by cases h) (pm_in_ok (L := [(52, 8)]) (f := mj_pS ic_P 5006) (by decide +kernel)) rfl rfl ⟨by decide, rfl⟩ pm_mU (pj_as_all (p := pm_Cl 1 5006 ie_X5_roll.1 lf (pm_OK lf pm_rU)) (List.forall_mem_cons.mpr ⟨fun _ _ lv st z K a hK h => pc_J9_min_7cf53 (pm_none hT) (by decide) (ix := 30) rfl rfl hK h, (List.forall_mem_cons.mpr ⟨fun _ _ lv st z K a hK h => pc_X11_clip hT (by decide) (ix := 42) rfl rfl hK h, (List.forall_mem_cons.mpr ⟨fun _ _ lv st z K a hK h => pc_J9_max_7cf53 (pm_none hT) (by decide) (ix := 39) rfl rfl hK h, (fun _ h => by cases h)⟩)⟩)⟩)) (fun _ h => by cases h)
set_option maxRecDepth 100000 in
theorem pb_X5_roll : pm_bks ie_X5_roll.1.2.2.2.2 pk_X5_roll = true := by decide +kernel
set_option maxRecDepth 100000 in
theorem pg_X5_roll_98 {lf : pj_Z → mj_M} (hT : pj_Lt pj_TC lf) : ∀  (s : Nat → Int32) (l : Nat → Int64) (x : Nat → Int32) (y : Nat → Int64) (a : Unit × pj_Z), pl_X5_roll_98 s l x y = some a → pm_Gd 1 5006 ie_X5_roll.1 pm_rU lf 98 [(0, .ref 122)] [] (s, l, x, y) a := by
  intro  s l x y a h
  exact pm_run ((pq_X5_roll_98   s l x y).symm.trans h) (pz_X5_roll hT) (pm_bks_ok pb_X5_roll) (pm_bks_ok pb_X5_roll _ _ rfl) (pm_ndb_ok rfl) (fun _ _ h => by cases h)
set_option maxRecDepth 100000 in
theorem pg_X5_roll_77 {lf : pj_Z → mj_M} (hT : pj_Lt pj_TC lf) : ∀  (s : Nat → Int32) (l : Nat → Int64) (x : Nat → Int32) (y : Nat → Int64) (a : Unit × pj_Z), pl_X5_roll_77 s l x y = some a → pm_Gd 1 5006 ie_X5_roll.1 pm_rU lf 77 [(0, .ref 122)] [] (s, l, x, y) a := by
  intro  s l x y a h
  exact pm_run ((pq_X5_roll_77   s l x y).symm.trans h) (pz_X5_roll hT) (pm_bks_ok pb_X5_roll) (pm_bks_ok pb_X5_roll _ _ rfl) (pm_ndb_ok rfl) (pj_as_all (p := pm_Ex 1 5006 ie_X5_roll.1 pm_rU lf a) (List.forall_mem_cons.mpr ⟨pu_X5_roll_98 _ (fun  s l x y h => pg_X5_roll_98 hT  s l x y _ h), (fun _ h => by cases h)⟩))
set_option maxRecDepth 100000 in
theorem pm_X5_roll {lf : pj_Z → mj_M} (hT : pj_Lt pj_TC lf)  (s : Nat → Int32) (l : Nat → Int64) (x : Nat → Int32) (y : Nat → Int64) (a : Unit × pj_Z) (h : pf_X5_roll  s l x y = some a) : mj_R ic_P 2 5006 [.ref 122] (lf (s, l, x, y)) (pm_rU a.1) (lf a.2) := by
  refine pm_main (Y := ie_X5_roll.1) rfl (Nat.le_of_ble_eq_true rfl) ?_
  exact pm_run ((pq_X5_roll_m  s l x y).symm.trans h) (pz_X5_roll hT) (pm_bks_ok pb_X5_roll) (pm_bks_ok pb_X5_roll _ _ rfl) (pm_ndb_ok rfl) (pj_as_all (p := pm_Ex 1 5006 ie_X5_roll.1 pm_rU lf a) (List.forall_mem_cons.mpr ⟨pu_X5_roll_77 _ (fun  s l x y h => pg_X5_roll_77 hT  s l x y _ h), (List.forall_mem_cons.mpr ⟨pu_X5_roll_98 _ (fun  s l x y h => pg_X5_roll_98 hT  s l x y _ h), (fun _ h => by cases h)⟩)⟩))
abbrev ph_X5_roll {A : Type} : List pj_V → pj_Z → (List pj_V → pj_Z → Option A) → Option A := fun st z K => pj_pr st 122 0 fun st => pj_ps st (pj_b (pf_X5_roll  z.1 z.2.1 z.2.2.1 z.2.2.2) fun r s l x y => K st (s, l, x, y))
set_option maxRecDepth 100000 in
theorem pc_X5_roll {A : Type} {OK : A → Option Value → mj_M → Prop} {d j pc ix : Nat} {Y : mj_Y} {lf : pj_Z → mj_M} (hT : pj_Lt pj_TC lf) (hd : 2 ≤ d) (hl : mj_lk Y.2.2.2.2 pc = some (.invokevirtual ix, 3)) (hg : mj_pG ic_P j ix = some (5006, 0, some 5)) {lv : List (Nat × Value)} {st : List pj_V} {z : pj_Z} {K : List pj_V → pj_Z → Option A} {a : A} (hK : ∀ st z, K st z = some a → pj_Gd ic_P (mj_R ic_P d) j Y OK lf (pc + 3) lv (pj_es st) z a) (h : ph_X5_roll st z K = some a) : pj_Gd ic_P (mj_R ic_P d) j Y OK lf pc lv (pj_es st) z a := by
  obtain ⟨r0, e0, h⟩ := pj_pr_inv h
  obtain ⟨hs, h⟩ := pj_ps_inv h
  obtain ⟨q, hq, h⟩ := pj_b_inv h
  exact pm_cv (o := 122) hl hg [] rfl (by rw [e0]; rfl) hs (by decide) ((hT.2 122 _ rfl).1.2 z 0 (by decide)) (pm_rU q.1) hd (pm_X5_roll hT  z.1 z.2.1 z.2.2.1 z.2.2.2 q hq) rfl (hK _ _ h)
abbrev pe_X9_feelBrake_20 (f : Int32 → pj_F (Unit × pj_Z)) : pj_K (Unit × pj_Z) := fun lv st z => pj_xr lv 0 82 0 <| pj_pi st fun b1 st => pj_pr st 82 0 fun st => pj_pe st (f b1 z.1 z.2.1 z.2.2.1 z.2.2.2)
abbrev px_X9_feelBrake : pj_C (Unit × pj_Z) := ((pj_as [(82, 9, 18, 1, 0, true, 0, [(0, 71), (0, 72), (1, 12), (0, 73), (0, 74), (0, 75), (0, 76), (0, 77), (0, 78), (0, 79), (0, 80), (1, 13), (0, 81), (0, 82), (0, 83), (0, 84), (0, 85), (0, 86)])]), (pj_as [(61, 9, 16, 0, false), (64, 9, 17, 3, false)]), (fun _ => none), (fun _ => none), (fun _ => none), ic_X, 2, 0, pj_mU, (pj_as [(13, ph_J9_min_7cf53)]), fun _ => false)
abbrev pk_X9_feelBrake : List (Nat × List (Nat × Instr × Nat)) := [(0, [(0, .aload_n 0, 1), (1, .iload_n 1, 1), (2, .ifCond .eq 17, 3)]), (5, [(5, .bipush 20, 2), (7, .aload_n 0, 1), (8, .getfield 61, 3), (11, .iconst 1, 1), (12, .iadd, 1), (13, .invokestatic 67, 3), (16, .goto 4, 3)]), (19, [(19, .iconst 0, 1)]), (20, [(20, .putfield 61, 3), (23, .aload_n 0, 1), (24, .getfield 61, 3), (27, .bipush 20, 2), (29, .if_icmp .ne 8, 3)]), (32, [(32, .aload_n 0, 1), (33, .iconst 1, 1), (34, .putfield 64, 3)]), (37, [(37, .return_, 1)])]
set_option maxRecDepth 100000 in
theorem pq_X9_feelBrake_20  (b1 : Int32) (s : Nat → Int32) (l : Nat → Int64) (x : Nat → Int32) (y : Nat → Int64) : pl_X9_feelBrake_20 b1 s l x y = pj_bl px_X9_feelBrake (pj_rn px_X9_feelBrake (pj_as pk_X9_feelBrake) (fun _ => none) 60) [(20, .putfield 61, 3), (23, .aload_n 0, 1), (24, .getfield 61, 3), (27, .bipush 20, 2), (29, .if_icmp .ne 8, 3)] 20 [(0, pj_O (82, 0))] [pj_I b1, pj_O (82, 0)] (s, l, x, y) := rfl
set_option maxRecDepth 100000 in
theorem pq_X9_feelBrake_m  (a1 : Int32) (s : Nat → Int32) (l : Nat → Int64) (x : Nat → Int32) (y : Nat → Int64) : pf_X9_feelBrake a1 s l x y = pj_bl px_X9_feelBrake (pj_rn px_X9_feelBrake (pj_as pk_X9_feelBrake) (pj_as [(20, pe_X9_feelBrake_20 (pl_X9_feelBrake_20))]) 60) [(0, .aload_n 0, 1), (1, .iload_n 1, 1), (2, .ifCond .eq 17, 3)] 0 [(0, pj_O (82, 0)), (1, pj_I a1)] [] (s, l, x, y) := rfl
theorem pu_X9_feelBrake_20 {lf : pj_Z → mj_M} {a : Unit × pj_Z} (f : Int32 → pj_F (Unit × pj_Z)) (hf : ∀ (b1 : Int32) (s : Nat → Int32) (l : Nat → Int64) (x : Nat → Int32) (y : Nat → Int64), f b1 s l x y = some a → pm_Gd 1 9002 ie_X9_feelBrake.1 pm_rU lf 20 [(0, .ref 82)] [.int b1, .ref 82] (s, l, x, y) a) : pm_Ex 1 9002 ie_X9_feelBrake.1 pm_rU lf a 20 (pe_X9_feelBrake_20 f) := by
  intro lv st z hd h
  obtain ⟨g0, h⟩ := pj_xr_inv h
  obtain ⟨b1, r1, e1, h⟩ := pj_pi_inv h
  obtain ⟨r0, e0, h⟩ := pj_pr_inv h
  obtain ⟨e9, h⟩ := pj_pe_inv h
  rw [e1, e0, e9]
  exact mj_wp_sub (mj_sub_cons g0 (mj_sub_nil hd)) (hf _ _ _ _ _ h)
set_option maxRecDepth 100000 in
theorem pz_X9_feelBrake {lf : pj_Z → mj_M} (hT : pj_Lt pj_TC lf) : pj_Cok ic_P (mj_R ic_P 1) 9002 ie_X9_feelBrake.1 (pm_OK lf pm_rU) lf px_X9_feelBrake := by
  exact pm_cok (c := px_X9_feelBrake) (pm_part hT (pj_as_all (p := fun b e => pj_TC b = some e) (List.forall_mem_cons.mpr ⟨rfl, (fun _ h => by cases h)⟩))) (pm_in_ok (L := [(61, 9, 16, 0, false), (64, 9, 17, 3, false)]) (f := mj_pF ic_P 9002) (by decide +kernel)) (fun _ _ h => by cases h) (fun _ _ h => by cases h) (fun _ _ h => by cases h) rfl rfl ⟨by decide, rfl⟩ pm_mU (pj_as_all (p := pm_Cl 1 9002 ie_X9_feelBrake.1 lf (pm_OK lf pm_rU)) (List.forall_mem_cons.mpr ⟨fun _ _ lv st z K a hK h => pc_J9_min_7cf53 (pm_none hT) (by decide) (ix := 67) rfl rfl hK h, (fun _ h => by cases h)⟩)) (fun _ h => by cases h)
set_option maxRecDepth 100000 in
theorem pb_X9_feelBrake : pm_bks ie_X9_feelBrake.1.2.2.2.2 pk_X9_feelBrake = true := by decide +kernel
set_option maxRecDepth 100000 in
theorem pg_X9_feelBrake_20 {lf : pj_Z → mj_M} (hT : pj_Lt pj_TC lf) : ∀ (b1 : Int32) (s : Nat → Int32) (l : Nat → Int64) (x : Nat → Int32) (y : Nat → Int64) (a : Unit × pj_Z), pl_X9_feelBrake_20 b1 s l x y = some a → pm_Gd 1 9002 ie_X9_feelBrake.1 pm_rU lf 20 [(0, .ref 82)] [.int b1, .ref 82] (s, l, x, y) a := by
  intro b1 s l x y a h
  exact pm_run ((pq_X9_feelBrake_20  b1 s l x y).symm.trans h) (pz_X9_feelBrake hT) (pm_bks_ok pb_X9_feelBrake) (pm_bks_ok pb_X9_feelBrake _ _ rfl) (pm_ndb_ok rfl) (fun _ _ h => by cases h)
set_option maxRecDepth 100000 in
theorem pm_X9_feelBrake {lf : pj_Z → mj_M} (hT : pj_Lt pj_TC lf) (a1 : Int32) (s : Nat → Int32) (l : Nat → Int64) (x : Nat → Int32) (y : Nat → Int64) (a : Unit × pj_Z) (h : pf_X9_feelBrake a1 s l x y = some a) : mj_R ic_P 2 9002 [.ref 82, .int a1] (lf (s, l, x, y)) (pm_rU a.1) (lf a.2) := by
  refine pm_main (Y := ie_X9_feelBrake.1) rfl (Nat.le_of_ble_eq_true rfl) ?_
  exact pm_run ((pq_X9_feelBrake_m a1 s l x y).symm.trans h) (pz_X9_feelBrake hT) (pm_bks_ok pb_X9_feelBrake) (pm_bks_ok pb_X9_feelBrake _ _ rfl) (pm_ndb_ok rfl) (pj_as_all (p := pm_Ex 1 9002 ie_X9_feelBrake.1 pm_rU lf a) (List.forall_mem_cons.mpr ⟨pu_X9_feelBrake_20 _ (fun c0 s l x y h => pg_X9_feelBrake_20 hT c0 s l x y _ h), (fun _ h => by cases h)⟩))
abbrev ph_X9_feelBrake {A : Type} : List pj_V → pj_Z → (List pj_V → pj_Z → Option A) → Option A := fun st z K => pj_pi st fun a1 st => pj_pr st 82 0 fun st => pj_ps st (pj_b (pf_X9_feelBrake a1 z.1 z.2.1 z.2.2.1 z.2.2.2) fun r s l x y => K st (s, l, x, y))
set_option maxRecDepth 100000 in
theorem pc_X9_feelBrake {A : Type} {OK : A → Option Value → mj_M → Prop} {d j pc ix : Nat} {Y : mj_Y} {lf : pj_Z → mj_M} (hT : pj_Lt pj_TC lf) (hd : 2 ≤ d) (hl : mj_lk Y.2.2.2.2 pc = some (.invokevirtual ix, 3)) (hg : mj_pG ic_P j ix = some (9002, 1, some 9)) {lv : List (Nat × Value)} {st : List pj_V} {z : pj_Z} {K : List pj_V → pj_Z → Option A} {a : A} (hK : ∀ st z, K st z = some a → pj_Gd ic_P (mj_R ic_P d) j Y OK lf (pc + 3) lv (pj_es st) z a) (h : ph_X9_feelBrake st z K = some a) : pj_Gd ic_P (mj_R ic_P d) j Y OK lf pc lv (pj_es st) z a := by
  obtain ⟨a1, r1, e1, h⟩ := pj_pi_inv h
  obtain ⟨r0, e0, h⟩ := pj_pr_inv h
  obtain ⟨hs, h⟩ := pj_ps_inv h
  obtain ⟨q, hq, h⟩ := pj_b_inv h
  exact pm_cv (o := 82) hl hg [.int a1] rfl (by rw [e1, e0]; rfl) hs (by decide) ((hT.2 82 _ rfl).1.2 z 0 (by decide)) (pm_rU q.1) hd (pm_X9_feelBrake hT a1 z.1 z.2.1 z.2.2.1 z.2.2.2 q hq) rfl (hK _ _ h)
abbrev pe_X5_moveFlap_26 (f : Int32 → pj_F (Unit × pj_Z)) : pj_K (Unit × pj_Z) := fun lv st z => pj_xr lv 0 122 0 <| pj_pi st fun b0 st => pj_pe st (f b0 z.1 z.2.1 z.2.2.1 z.2.2.2)
abbrev px_X5_moveFlap : pj_C (Unit × pj_Z) := ((pj_as [(122, 5, 13, 1, 0, true, 0, [(0, 45), (0, 46), (0, 47), (0, 48), (0, 49), (0, 50), (0, 51), (0, 52), (0, 53), (0, 54), (0, 55), (2, 123), (0, 56)])]), (pj_as [(9, 5, 5, 0, false)]), (fun _ => none), (fun _ => none), (fun _ => none), ic_X, 4, 0, pj_mU, (pj_as [(23, ph_X11_clip), (39, ph_X11_clip)]), fun _ => false)
abbrev pk_X5_moveFlap : List (Nat × List (Nat × Instr × Nat)) := [(0, [(0, .iload_n 1, 1), (1, .ifCond .eq 10, 3)]), (4, [(4, .iload_n 2, 1), (5, .bipush 20, 2), (7, .idiv, 1), (8, .goto 18, 3)]), (11, [(11, .bipush 60, 2), (13, .aload_n 0, 1), (14, .getfield 9, 3), (17, .isub, 1), (18, .i2l, 1), (19, .bipush (-10), 2), (21, .bipush 10, 2), (23, .invokestatic 42, 3)]), (26, [(26, .istore_n 3, 1), (27, .aload_n 0, 1), (28, .aload_n 0, 1), (29, .getfield 9, 3), (32, .iload_n 3, 1), (33, .iadd, 1), (34, .i2l, 1), (35, .iconst 0, 1), (36, .sipush 1000, 3), (39, .invokestatic 42, 3), (42, .putfield 9, 3), (45, .return_, 1)])]
set_option maxRecDepth 100000 in
theorem pq_X5_moveFlap_26  (b0 : Int32) (s : Nat → Int32) (l : Nat → Int64) (x : Nat → Int32) (y : Nat → Int64) : pl_X5_moveFlap_26 b0 s l x y = pj_bl px_X5_moveFlap (pj_rn px_X5_moveFlap (pj_as pk_X5_moveFlap) (fun _ => none) 60) [(26, .istore_n 3, 1), (27, .aload_n 0, 1), (28, .aload_n 0, 1), (29, .getfield 9, 3), (32, .iload_n 3, 1), (33, .iadd, 1), (34, .i2l, 1), (35, .iconst 0, 1), (36, .sipush 1000, 3), (39, .invokestatic 42, 3), (42, .putfield 9, 3), (45, .return_, 1)] 26 [(0, pj_O (122, 0))] [pj_I b0] (s, l, x, y) := rfl
set_option maxRecDepth 100000 in
theorem pq_X5_moveFlap_m  (a1 : Int32) (a2 : Int32) (s : Nat → Int32) (l : Nat → Int64) (x : Nat → Int32) (y : Nat → Int64) : pf_X5_moveFlap a1 a2 s l x y = pj_bl px_X5_moveFlap (pj_rn px_X5_moveFlap (pj_as pk_X5_moveFlap) (pj_as [(26, pe_X5_moveFlap_26 (pl_X5_moveFlap_26))]) 60) [(0, .iload_n 1, 1), (1, .ifCond .eq 10, 3)] 0 [(0, pj_O (122, 0)), (1, pj_I a1), (2, pj_I a2)] [] (s, l, x, y) := rfl
theorem pu_X5_moveFlap_26 {lf : pj_Z → mj_M} {a : Unit × pj_Z} (f : Int32 → pj_F (Unit × pj_Z)) (hf : ∀ (b0 : Int32) (s : Nat → Int32) (l : Nat → Int64) (x : Nat → Int32) (y : Nat → Int64), f b0 s l x y = some a → pm_Gd 1 5004 ie_X5_moveFlap.1 pm_rU lf 26 [(0, .ref 122)] [.int b0] (s, l, x, y) a) : pm_Ex 1 5004 ie_X5_moveFlap.1 pm_rU lf a 26 (pe_X5_moveFlap_26 f) := by
  intro lv st z hd h
  obtain ⟨g0, h⟩ := pj_xr_inv h
  obtain ⟨b0, r0, e0, h⟩ := pj_pi_inv h
  obtain ⟨e9, h⟩ := pj_pe_inv h
  rw [e0, e9]
  exact mj_wp_sub (mj_sub_cons g0 (mj_sub_nil hd)) (hf _ _ _ _ _ h)
set_option maxRecDepth 100000 in
theorem pz_X5_moveFlap {lf : pj_Z → mj_M} (hT : pj_Lt pj_TC lf) : pj_Cok ic_P (mj_R ic_P 1) 5004 ie_X5_moveFlap.1 (pm_OK lf pm_rU) lf px_X5_moveFlap := by
  exact pm_cok (c := px_X5_moveFlap) (pm_part hT (pj_as_all (p := fun b e => pj_TC b = some e) (List.forall_mem_cons.mpr ⟨rfl, (fun _ h => by cases h)⟩))) (pm_in_ok (L := [(9, 5, 5, 0, false)]) (f := mj_pF ic_P 5004) (by decide +kernel)) (fun _ _ h => by cases h) (fun _ _ h => by cases h) (fun _ _ h => by cases h) rfl rfl ⟨by decide, rfl⟩ pm_mU (pj_as_all (p := pm_Cl 1 5004 ie_X5_moveFlap.1 lf (pm_OK lf pm_rU)) (List.forall_mem_cons.mpr ⟨fun _ _ lv st z K a hK h => pc_X11_clip hT (by decide) (ix := 42) rfl rfl hK h, (List.forall_mem_cons.mpr ⟨fun _ _ lv st z K a hK h => pc_X11_clip hT (by decide) (ix := 42) rfl rfl hK h, (fun _ h => by cases h)⟩)⟩)) (fun _ h => by cases h)
set_option maxRecDepth 100000 in
theorem pb_X5_moveFlap : pm_bks ie_X5_moveFlap.1.2.2.2.2 pk_X5_moveFlap = true := by decide +kernel
set_option maxRecDepth 100000 in
theorem pg_X5_moveFlap_26 {lf : pj_Z → mj_M} (hT : pj_Lt pj_TC lf) : ∀ (b0 : Int32) (s : Nat → Int32) (l : Nat → Int64) (x : Nat → Int32) (y : Nat → Int64) (a : Unit × pj_Z), pl_X5_moveFlap_26 b0 s l x y = some a → pm_Gd 1 5004 ie_X5_moveFlap.1 pm_rU lf 26 [(0, .ref 122)] [.int b0] (s, l, x, y) a := by
  intro b0 s l x y a h
  exact pm_run ((pq_X5_moveFlap_26  b0 s l x y).symm.trans h) (pz_X5_moveFlap hT) (pm_bks_ok pb_X5_moveFlap) (pm_bks_ok pb_X5_moveFlap _ _ rfl) (pm_ndb_ok rfl) (fun _ _ h => by cases h)
set_option maxRecDepth 100000 in
theorem pm_X5_moveFlap {lf : pj_Z → mj_M} (hT : pj_Lt pj_TC lf) (a1 : Int32) (a2 : Int32) (s : Nat → Int32) (l : Nat → Int64) (x : Nat → Int32) (y : Nat → Int64) (a : Unit × pj_Z) (h : pf_X5_moveFlap a1 a2 s l x y = some a) : mj_R ic_P 2 5004 [.ref 122, .int a1, .int a2] (lf (s, l, x, y)) (pm_rU a.1) (lf a.2) := by
  refine pm_main (Y := ie_X5_moveFlap.1) rfl (Nat.le_of_ble_eq_true rfl) ?_
  exact pm_run ((pq_X5_moveFlap_m a1 a2 s l x y).symm.trans h) (pz_X5_moveFlap hT) (pm_bks_ok pb_X5_moveFlap) (pm_bks_ok pb_X5_moveFlap _ _ rfl) (pm_ndb_ok rfl) (pj_as_all (p := pm_Ex 1 5004 ie_X5_moveFlap.1 pm_rU lf a) (List.forall_mem_cons.mpr ⟨pu_X5_moveFlap_26 _ (fun c0 s l x y h => pg_X5_moveFlap_26 hT c0 s l x y _ h), (fun _ h => by cases h)⟩))
abbrev ph_X5_moveFlap {A : Type} : List pj_V → pj_Z → (List pj_V → pj_Z → Option A) → Option A := fun st z K => pj_pi st fun a2 st => pj_pi st fun a1 st => pj_pr st 122 0 fun st => pj_ps st (pj_b (pf_X5_moveFlap a1 a2 z.1 z.2.1 z.2.2.1 z.2.2.2) fun r s l x y => K st (s, l, x, y))
set_option maxRecDepth 100000 in
theorem pc_X5_moveFlap {A : Type} {OK : A → Option Value → mj_M → Prop} {d j pc ix : Nat} {Y : mj_Y} {lf : pj_Z → mj_M} (hT : pj_Lt pj_TC lf) (hd : 2 ≤ d) (hl : mj_lk Y.2.2.2.2 pc = some (.invokevirtual ix, 3)) (hg : mj_pG ic_P j ix = some (5004, 2, some 5)) {lv : List (Nat × Value)} {st : List pj_V} {z : pj_Z} {K : List pj_V → pj_Z → Option A} {a : A} (hK : ∀ st z, K st z = some a → pj_Gd ic_P (mj_R ic_P d) j Y OK lf (pc + 3) lv (pj_es st) z a) (h : ph_X5_moveFlap st z K = some a) : pj_Gd ic_P (mj_R ic_P d) j Y OK lf pc lv (pj_es st) z a := by
  obtain ⟨a2, r2, e2, h⟩ := pj_pi_inv h
  obtain ⟨a1, r1, e1, h⟩ := pj_pi_inv h
  obtain ⟨r0, e0, h⟩ := pj_pr_inv h
  obtain ⟨hs, h⟩ := pj_ps_inv h
  obtain ⟨q, hq, h⟩ := pj_b_inv h
  exact pm_cv (o := 122) hl hg [.int a1, .int a2] rfl (by rw [e2, e1, e0]; rfl) hs (by decide) ((hT.2 122 _ rfl).1.2 z 0 (by decide)) (pm_rU q.1) hd (pm_X5_moveFlap hT a1 a2 z.1 z.2.1 z.2.2.1 z.2.2.2 q hq) rfl (hK _ _ h)
abbrev pe_X5_warm_37 (f : Int32 → Int32 → pj_F (Unit × pj_Z)) : pj_K (Unit × pj_Z) := fun lv st z => pj_xr lv 0 122 0 <| pj_xi lv 1 fun a1 => pj_pi st fun b1 st => pj_pr st 122 0 fun st => pj_pe st (f a1 b1 z.1 z.2.1 z.2.2.1 z.2.2.2)
abbrev px_X5_warm : pj_C (Unit × pj_Z) := ((pj_as [(122, 5, 13, 1, 0, true, 0, [(0, 45), (0, 46), (0, 47), (0, 48), (0, 49), (0, 50), (0, 51), (0, 52), (0, 53), (0, 54), (0, 55), (2, 123), (0, 56)])]), (pj_as [(15, 5, 6, 0, false), (26, 5, 1, 0, false)]), (fun _ => none), (fun _ => none), (fun _ => none), ic_X, 2, 0, pj_mU, (pj_as [(20, ph_J9_min_7cf53), (34, ph_J9_max_7cf53)]), fun _ => false)
abbrev pk_X5_warm : List (Nat × List (Nat × Instr × Nat)) := [(0, [(0, .aload_n 0, 1), (1, .aload_n 0, 1), (2, .getfield 26, 3), (5, .sipush 400, 3), (8, .if_icmp .lt 18, 3)]), (11, [(11, .sipush 130, 3), (14, .aload_n 0, 1), (15, .getfield 15, 3), (18, .iconst 1, 1), (19, .iadd, 1), (20, .invokestatic 30, 3), (23, .goto 14, 3)]), (26, [(26, .bipush 20, 2), (28, .aload_n 0, 1), (29, .getfield 15, 3), (32, .iconst 1, 1), (33, .isub, 1), (34, .invokestatic 39, 3)]), (37, [(37, .putfield 15, 3), (40, .iload_n 1, 1), (41, .ifCond .eq 22, 3)]), (44, [(44, .aload_n 0, 1), (45, .getfield 15, 3), (48, .bipush 60, 2), (50, .if_icmp .le 13, 3)]), (53, [(53, .aload_n 0, 1), (54, .dup, 1), (55, .getfield 15, 3), (58, .iconst 2, 1), (59, .isub, 1), (60, .putfield 15, 3)]), (63, [(63, .return_, 1)])]
set_option maxRecDepth 100000 in
theorem pq_X5_warm_37  (a1 : Int32) (b1 : Int32) (s : Nat → Int32) (l : Nat → Int64) (x : Nat → Int32) (y : Nat → Int64) : pl_X5_warm_37 a1 b1 s l x y = pj_bl px_X5_warm (pj_rn px_X5_warm (pj_as pk_X5_warm) (fun _ => none) 60) [(37, .putfield 15, 3), (40, .iload_n 1, 1), (41, .ifCond .eq 22, 3)] 37 [(0, pj_O (122, 0)), (1, pj_I a1)] [pj_I b1, pj_O (122, 0)] (s, l, x, y) := rfl
set_option maxRecDepth 100000 in
theorem pq_X5_warm_m  (a1 : Int32) (s : Nat → Int32) (l : Nat → Int64) (x : Nat → Int32) (y : Nat → Int64) : pf_X5_warm a1 s l x y = pj_bl px_X5_warm (pj_rn px_X5_warm (pj_as pk_X5_warm) (pj_as [(37, pe_X5_warm_37 (pl_X5_warm_37))]) 60) [(0, .aload_n 0, 1), (1, .aload_n 0, 1), (2, .getfield 26, 3), (5, .sipush 400, 3), (8, .if_icmp .lt 18, 3)] 0 [(0, pj_O (122, 0)), (1, pj_I a1)] [] (s, l, x, y) := rfl
theorem pu_X5_warm_37 {lf : pj_Z → mj_M} {a : Unit × pj_Z} (f : Int32 → Int32 → pj_F (Unit × pj_Z)) (hf : ∀ (a1 : Int32) (b1 : Int32) (s : Nat → Int32) (l : Nat → Int64) (x : Nat → Int32) (y : Nat → Int64), f a1 b1 s l x y = some a → pm_Gd 1 5005 ie_X5_warm.1 pm_rU lf 37 [(0, .ref 122), (1, .int a1)] [.int b1, .ref 122] (s, l, x, y) a) : pm_Ex 1 5005 ie_X5_warm.1 pm_rU lf a 37 (pe_X5_warm_37 f) := by
  intro lv st z hd h
  obtain ⟨g0, h⟩ := pj_xr_inv h
  obtain ⟨a1, g1, h⟩ := pj_xi_inv h
  obtain ⟨b1, r1, e1, h⟩ := pj_pi_inv h
  obtain ⟨r0, e0, h⟩ := pj_pr_inv h
  obtain ⟨e9, h⟩ := pj_pe_inv h
  rw [e1, e0, e9]
  exact mj_wp_sub (mj_sub_cons g0 (mj_sub_cons g1 (mj_sub_nil hd))) (hf _ _ _ _ _ _ h)
set_option maxRecDepth 100000 in
theorem pz_X5_warm {lf : pj_Z → mj_M} (hT : pj_Lt pj_TC lf) : pj_Cok ic_P (mj_R ic_P 1) 5005 ie_X5_warm.1 (pm_OK lf pm_rU) lf px_X5_warm := by
  exact pm_cok (c := px_X5_warm) (pm_part hT (pj_as_all (p := fun b e => pj_TC b = some e) (List.forall_mem_cons.mpr ⟨rfl, (fun _ h => by cases h)⟩))) (pm_in_ok (L := [(15, 5, 6, 0, false), (26, 5, 1, 0, false)]) (f := mj_pF ic_P 5005) (by decide +kernel)) (fun _ _ h => by cases h) (fun _ _ h => by cases h) (fun _ _ h => by cases h) rfl rfl ⟨by decide, rfl⟩ pm_mU (pj_as_all (p := pm_Cl 1 5005 ie_X5_warm.1 lf (pm_OK lf pm_rU)) (List.forall_mem_cons.mpr ⟨fun _ _ lv st z K a hK h => pc_J9_min_7cf53 (pm_none hT) (by decide) (ix := 30) rfl rfl hK h, (List.forall_mem_cons.mpr ⟨fun _ _ lv st z K a hK h => pc_J9_max_7cf53 (pm_none hT) (by decide) (ix := 39) rfl rfl hK h, (fun _ h => by cases h)⟩)⟩)) (fun _ h => by cases h)
set_option maxRecDepth 100000 in
theorem pb_X5_warm : pm_bks ie_X5_warm.1.2.2.2.2 pk_X5_warm = true := by decide +kernel
set_option maxRecDepth 100000 in
theorem pg_X5_warm_37 {lf : pj_Z → mj_M} (hT : pj_Lt pj_TC lf) : ∀ (a1 : Int32) (b1 : Int32) (s : Nat → Int32) (l : Nat → Int64) (x : Nat → Int32) (y : Nat → Int64) (a : Unit × pj_Z), pl_X5_warm_37 a1 b1 s l x y = some a → pm_Gd 1 5005 ie_X5_warm.1 pm_rU lf 37 [(0, .ref 122), (1, .int a1)] [.int b1, .ref 122] (s, l, x, y) a := by
  intro a1 b1 s l x y a h
  exact pm_run ((pq_X5_warm_37  a1 b1 s l x y).symm.trans h) (pz_X5_warm hT) (pm_bks_ok pb_X5_warm) (pm_bks_ok pb_X5_warm _ _ rfl) (pm_ndb_ok rfl) (fun _ _ h => by cases h)
set_option maxRecDepth 100000 in
theorem pm_X5_warm {lf : pj_Z → mj_M} (hT : pj_Lt pj_TC lf) (a1 : Int32) (s : Nat → Int32) (l : Nat → Int64) (x : Nat → Int32) (y : Nat → Int64) (a : Unit × pj_Z) (h : pf_X5_warm a1 s l x y = some a) : mj_R ic_P 2 5005 [.ref 122, .int a1] (lf (s, l, x, y)) (pm_rU a.1) (lf a.2) := by
  refine pm_main (Y := ie_X5_warm.1) rfl (Nat.le_of_ble_eq_true rfl) ?_
  exact pm_run ((pq_X5_warm_m a1 s l x y).symm.trans h) (pz_X5_warm hT) (pm_bks_ok pb_X5_warm) (pm_bks_ok pb_X5_warm _ _ rfl) (pm_ndb_ok rfl) (pj_as_all (p := pm_Ex 1 5005 ie_X5_warm.1 pm_rU lf a) (List.forall_mem_cons.mpr ⟨pu_X5_warm_37 _ (fun c0 c1 s l x y h => pg_X5_warm_37 hT c0 c1 s l x y _ h), (fun _ h => by cases h)⟩))
abbrev ph_X5_warm {A : Type} : List pj_V → pj_Z → (List pj_V → pj_Z → Option A) → Option A := fun st z K => pj_pi st fun a1 st => pj_pr st 122 0 fun st => pj_ps st (pj_b (pf_X5_warm a1 z.1 z.2.1 z.2.2.1 z.2.2.2) fun r s l x y => K st (s, l, x, y))
set_option maxRecDepth 100000 in
theorem pc_X5_warm {A : Type} {OK : A → Option Value → mj_M → Prop} {d j pc ix : Nat} {Y : mj_Y} {lf : pj_Z → mj_M} (hT : pj_Lt pj_TC lf) (hd : 2 ≤ d) (hl : mj_lk Y.2.2.2.2 pc = some (.invokevirtual ix, 3)) (hg : mj_pG ic_P j ix = some (5005, 1, some 5)) {lv : List (Nat × Value)} {st : List pj_V} {z : pj_Z} {K : List pj_V → pj_Z → Option A} {a : A} (hK : ∀ st z, K st z = some a → pj_Gd ic_P (mj_R ic_P d) j Y OK lf (pc + 3) lv (pj_es st) z a) (h : ph_X5_warm st z K = some a) : pj_Gd ic_P (mj_R ic_P d) j Y OK lf pc lv (pj_es st) z a := by
  obtain ⟨a1, r1, e1, h⟩ := pj_pi_inv h
  obtain ⟨r0, e0, h⟩ := pj_pr_inv h
  obtain ⟨hs, h⟩ := pj_ps_inv h
  obtain ⟨q, hq, h⟩ := pj_b_inv h
  exact pm_cv (o := 122) hl hg [.int a1] rfl (by rw [e1, e0]; rfl) hs (by decide) ((hT.2 122 _ rfl).1.2 z 0 (by decide)) (pm_rU q.1) hd (pm_X5_warm hT a1 z.1 z.2.1 z.2.2.1 z.2.2.2 q hq) rfl (hK _ _ h)
abbrev pe_X11_moveModelPins_45 (f : pj_F (Unit × pj_Z)) : pj_K (Unit × pj_Z) := fun lv st z => pj_xr lv 0 0 0 <| pj_pe st (f  z.1 z.2.1 z.2.2.1 z.2.2.2)
abbrev px_X11_moveModelPins : pj_C (Unit × pj_Z) := ((pj_as [(0, 11, 17, 1, 0, true, 0, [(2, 1), (2, 20), (2, 58), (2, 68), (2, 82), (2, 83), (2, 85), (2, 96), (2, 102), (2, 106), (2, 122), (0, 93), (0, 94), (0, 95), (1, 1), (1, 2), (0, 96)]), (20, 7, 11, 1, 0, true, 0, [(2, 21), (2, 35), (2, 49), (2, 50), (2, 51), (2, 52), (2, 53), (2, 54), (2, 55), (2, 56), (2, 57)]), (50, 100, 10, 1, 0, true, 29000, []), (82, 9, 18, 1, 0, true, 0, [(0, 71), (0, 72), (1, 12), (0, 73), (0, 74), (0, 75), (0, 76), (0, 77), (0, 78), (0, 79), (0, 80), (1, 13), (0, 81), (0, 82), (0, 83), (0, 84), (0, 85), (0, 86)]), (83, 3, 20, 1, 0, true, 0, [(0, 29), (0, 30), (1, 14), (1, 15), (0, 31), (0, 32), (0, 33), (0, 34), (0, 35), (0, 36), (0, 37), (0, 38), (0, 39), (0, 40), (1, 16), (1, 17), (0, 41), (0, 42), (0, 43), (2, 84)]), (122, 5, 13, 1, 0, true, 0, [(0, 45), (0, 46), (0, 47), (0, 48), (0, 49), (0, 50), (0, 51), (0, 52), (0, 53), (0, 54), (0, 55), (2, 123), (0, 56)])]), (pj_as [(19, 11, 1, 2, true), (40, 11, 4, 2, true), (47, 11, 5, 2, true), (82, 11, 10, 2, true), (183, 7, 3, 2, true), (454, 11, 14, 0, false), (703, 9, 11, 3, false), (706, 9, 8, 0, false), (713, 3, 11, 3, false), (719, 5, 5, 0, false), (722, 5, 1, 0, false), (728, 5, 6, 0, false)]), (fun _ => none), (fun _ => none), (fun _ => none), ic_X, 2, 0, pj_mU, (pj_as [(18, ph_X5_moveFlap), (42, ph_X5_warm), (118, ph_J9_max_7cf53)]), fun _ => false)
abbrev pk_X11_moveModelPins : List (Nat × List (Nat × Instr × Nat)) := [(0, [(0, .aload_n 0, 1), (1, .getfield 82, 3), (4, .aload_n 0, 1), (5, .getfield 40, 3), (8, .getfield 703, 3), (11, .aload_n 0, 1), (12, .getfield 40, 3), (15, .getfield 706, 3), (18, .invokevirtual 709, 3), (21, .aload_n 0, 1), (22, .getfield 454, 3), (25, .bipush 50, 2), (27, .irem, 1), (28, .ifCond .ne 17, 3)]), (31, [(31, .aload_n 0, 1), (32, .getfield 82, 3), (35, .aload_n 0, 1), (36, .getfield 47, 3), (39, .getfield 713, 3), (42, .invokevirtual 716, 3)]), (45, [(45, .aload_n 0, 1), (46, .getfield 19, 3), (49, .getfield 183, 3), (52, .iconst 2, 1), (53, .aload_n 0, 1), (54, .getfield 82, 3), (57, .getfield 719, 3), (60, .sipush 1023, 3), (63, .imul, 1), (64, .sipush 1000, 3), (67, .idiv, 1), (68, .iastore, 1), (69, .aload_n 0, 1), (70, .getfield 19, 3), (73, .getfield 183, 3), (76, .iconst 3, 1), (77, .aload_n 0, 1), (78, .getfield 19, 3), (81, .getfield 183, 3), (84, .iconst 2, 1), (85, .iaload, 1), (86, .iastore, 1), (87, .bipush 12, 2), (89, .bipush 30, 2), (91, .aload_n 0, 1), (92, .getfield 82, 3), (95, .getfield 719, 3), (98, .bipush 70, 2), (100, .imul, 1), (101, .sipush 1000, 3), (104, .idiv, 1), (105, .iadd, 1), (106, .aload_n 0, 1), (107, .getfield 82, 3), (110, .getfield 722, 3), (113, .sipush 200, 3), (116, .idiv, 1), (117, .isub, 1), (118, .invokestatic 725, 3), (121, .istore_n 1, 1), (122, .aload_n 0, 1), (123, .getfield 19, 3), (126, .getfield 183, 3), (129, .iconst 4, 1), (130, .iload_n 1, 1), (131, .bipush 10, 2), (133, .isub, 1), (134, .sipush 1023, 3), (137, .imul, 1), (138, .bipush 100, 2), (140, .idiv, 1), (141, .iastore, 1), (142, .aload_n 0, 1), (143, .getfield 19, 3), (146, .getfield 183, 3), (149, .iconst 5, 1), (150, .sipush 140, 3), (153, .aload_n 0, 1), (154, .getfield 82, 3), (157, .getfield 728, 3), (160, .isub, 1), (161, .sipush 1023, 3), (164, .imul, 1), (165, .sipush 180, 3), (168, .idiv, 1), (169, .iastore, 1), (170, .return_, 1)])]
set_option maxRecDepth 100000 in
theorem pq_X11_moveModelPins_45   (s : Nat → Int32) (l : Nat → Int64) (x : Nat → Int32) (y : Nat → Int64) : pl_X11_moveModelPins_45 s l x y = pj_bl px_X11_moveModelPins (pj_rn px_X11_moveModelPins (pj_as pk_X11_moveModelPins) (fun _ => none) 60) [(45, .aload_n 0, 1), (46, .getfield 19, 3), (49, .getfield 183, 3), (52, .iconst 2, 1), (53, .aload_n 0, 1), (54, .getfield 82, 3), (57, .getfield 719, 3), (60, .sipush 1023, 3), (63, .imul, 1), (64, .sipush 1000, 3), (67, .idiv, 1), (68, .iastore, 1), (69, .aload_n 0, 1), (70, .getfield 19, 3), (73, .getfield 183, 3), (76, .iconst 3, 1), (77, .aload_n 0, 1), (78, .getfield 19, 3), (81, .getfield 183, 3), (84, .iconst 2, 1), (85, .iaload, 1), (86, .iastore, 1), (87, .bipush 12, 2), (89, .bipush 30, 2), (91, .aload_n 0, 1), (92, .getfield 82, 3), (95, .getfield 719, 3), (98, .bipush 70, 2), (100, .imul, 1), (101, .sipush 1000, 3), (104, .idiv, 1), (105, .iadd, 1), (106, .aload_n 0, 1), (107, .getfield 82, 3), (110, .getfield 722, 3), (113, .sipush 200, 3), (116, .idiv, 1), (117, .isub, 1), (118, .invokestatic 725, 3), (121, .istore_n 1, 1), (122, .aload_n 0, 1), (123, .getfield 19, 3), (126, .getfield 183, 3), (129, .iconst 4, 1), (130, .iload_n 1, 1), (131, .bipush 10, 2), (133, .isub, 1), (134, .sipush 1023, 3), (137, .imul, 1), (138, .bipush 100, 2), (140, .idiv, 1), (141, .iastore, 1), (142, .aload_n 0, 1), (143, .getfield 19, 3), (146, .getfield 183, 3), (149, .iconst 5, 1), (150, .sipush 140, 3), (153, .aload_n 0, 1), (154, .getfield 82, 3), (157, .getfield 728, 3), (160, .isub, 1), (161, .sipush 1023, 3), (164, .imul, 1), (165, .sipush 180, 3), (168, .idiv, 1), (169, .iastore, 1), (170, .return_, 1)] 45 [(0, pj_O (0, 0))] [] (s, l, x, y) := rfl
set_option maxRecDepth 100000 in
theorem pq_X11_moveModelPins_m   (s : Nat → Int32) (l : Nat → Int64) (x : Nat → Int32) (y : Nat → Int64) : pf_X11_moveModelPins  s l x y = pj_bl px_X11_moveModelPins (pj_rn px_X11_moveModelPins (pj_as pk_X11_moveModelPins) (pj_as [(45, pe_X11_moveModelPins_45 (pl_X11_moveModelPins_45))]) 60) [(0, .aload_n 0, 1), (1, .getfield 82, 3), (4, .aload_n 0, 1), (5, .getfield 40, 3), (8, .getfield 703, 3), (11, .aload_n 0, 1), (12, .getfield 40, 3), (15, .getfield 706, 3), (18, .invokevirtual 709, 3), (21, .aload_n 0, 1), (22, .getfield 454, 3), (25, .bipush 50, 2), (27, .irem, 1), (28, .ifCond .ne 17, 3)] 0 [(0, pj_O (0, 0))] [] (s, l, x, y) := rfl
theorem pu_X11_moveModelPins_45 {lf : pj_Z → mj_M} {a : Unit × pj_Z} (f : pj_F (Unit × pj_Z)) (hf : ∀  (s : Nat → Int32) (l : Nat → Int64) (x : Nat → Int32) (y : Nat → Int64), f  s l x y = some a → pm_Gd 2 11067 ie_X11_moveModelPins.1 pm_rU lf 45 [(0, .ref 0)] [] (s, l, x, y) a) : pm_Ex 2 11067 ie_X11_moveModelPins.1 pm_rU lf a 45 (pe_X11_moveModelPins_45 f) := by
  intro lv st z hd h
  obtain ⟨g0, h⟩ := pj_xr_inv h
  obtain ⟨e9, h⟩ := pj_pe_inv h
  rw [e9]
  exact mj_wp_sub (mj_sub_cons g0 (mj_sub_nil hd)) (hf  _ _ _ _ h)
set_option maxRecDepth 100000 in
theorem pz_X11_moveModelPins {lf : pj_Z → mj_M} (hT : pj_Lt pj_TC lf) : pj_Cok ic_P (mj_R ic_P 2) 11067 ie_X11_moveModelPins.1 (pm_OK lf pm_rU) lf px_X11_moveModelPins := by
  exact pm_cok (c := px_X11_moveModelPins) (pm_part hT (pj_as_all (p := fun b e => pj_TC b = some e) (List.forall_mem_cons.mpr ⟨rfl, (List.forall_mem_cons.mpr ⟨rfl, (List.forall_mem_cons.mpr ⟨rfl, (List.forall_mem_cons.mpr ⟨rfl, (List.forall_mem_cons.mpr ⟨rfl, (List.forall_mem_cons.mpr ⟨rfl, (fun _ h => by cases h)⟩)⟩)⟩)⟩)⟩)⟩))) (pm_in_ok (L := [(19, 11, 1, 2, true), (40, 11, 4, 2, true), (47, 11, 5, 2, true), (82, 11, 10, 2, true), (183, 7, 3, 2, true), (454, 11, 14, 0, false), (703, 9, 11, 3, false), (706, 9, 8, 0, false), (713, 3, 11, 3, false), (719, 5, 5, 0, false), (722, 5, 1, 0, false), (728, 5, 6, 0, false)]) (f := mj_pF ic_P 11067) (by decide +kernel)) (fun _ _ h => by cases h) (fun _ _ h => by cases h) (fun _ _ h => by cases h) rfl rfl ⟨by decide, rfl⟩ pm_mU (pj_as_all (p := pm_Cl 2 11067 ie_X11_moveModelPins.1 lf (pm_OK lf pm_rU)) (List.forall_mem_cons.mpr ⟨fun _ _ lv st z K a hK h => pc_X5_moveFlap hT (by decide) (ix := 709) rfl rfl hK h, (List.forall_mem_cons.mpr ⟨fun _ _ lv st z K a hK h => pc_X5_warm hT (by decide) (ix := 716) rfl rfl hK h, (List.forall_mem_cons.mpr ⟨fun _ _ lv st z K a hK h => pc_J9_max_7cf53 (pm_none hT) (by decide) (ix := 725) rfl rfl hK h, (fun _ h => by cases h)⟩)⟩)⟩)) (fun _ h => by cases h)
set_option maxRecDepth 100000 in
theorem pb_X11_moveModelPins : pm_bks ie_X11_moveModelPins.1.2.2.2.2 pk_X11_moveModelPins = true := by decide +kernel
set_option maxRecDepth 100000 in
theorem pg_X11_moveModelPins_45 {lf : pj_Z → mj_M} (hT : pj_Lt pj_TC lf) : ∀  (s : Nat → Int32) (l : Nat → Int64) (x : Nat → Int32) (y : Nat → Int64) (a : Unit × pj_Z), pl_X11_moveModelPins_45 s l x y = some a → pm_Gd 2 11067 ie_X11_moveModelPins.1 pm_rU lf 45 [(0, .ref 0)] [] (s, l, x, y) a := by
  intro  s l x y a h
  exact pm_run ((pq_X11_moveModelPins_45   s l x y).symm.trans h) (pz_X11_moveModelPins hT) (pm_bks_ok pb_X11_moveModelPins) (pm_bks_ok pb_X11_moveModelPins _ _ rfl) (pm_ndb_ok rfl) (fun _ _ h => by cases h)
set_option maxRecDepth 100000 in
theorem pm_X11_moveModelPins {lf : pj_Z → mj_M} (hT : pj_Lt pj_TC lf)  (s : Nat → Int32) (l : Nat → Int64) (x : Nat → Int32) (y : Nat → Int64) (a : Unit × pj_Z) (h : pf_X11_moveModelPins  s l x y = some a) : mj_R ic_P 3 11067 [.ref 0] (lf (s, l, x, y)) (pm_rU a.1) (lf a.2) := by
  refine pm_main (Y := ie_X11_moveModelPins.1) rfl (Nat.le_of_ble_eq_true rfl) ?_
  exact pm_run ((pq_X11_moveModelPins_m  s l x y).symm.trans h) (pz_X11_moveModelPins hT) (pm_bks_ok pb_X11_moveModelPins) (pm_bks_ok pb_X11_moveModelPins _ _ rfl) (pm_ndb_ok rfl) (pj_as_all (p := pm_Ex 2 11067 ie_X11_moveModelPins.1 pm_rU lf a) (List.forall_mem_cons.mpr ⟨pu_X11_moveModelPins_45 _ (fun  s l x y h => pg_X11_moveModelPins_45 hT  s l x y _ h), (fun _ h => by cases h)⟩))
abbrev ph_X11_moveModelPins {A : Type} : List pj_V → pj_Z → (List pj_V → pj_Z → Option A) → Option A := fun st z K => pj_pr st 0 0 fun st => pj_ps st (pj_b (pf_X11_moveModelPins  z.1 z.2.1 z.2.2.1 z.2.2.2) fun r s l x y => K st (s, l, x, y))
set_option maxRecDepth 100000 in
theorem pc_X11_moveModelPins {A : Type} {OK : A → Option Value → mj_M → Prop} {d j pc ix : Nat} {Y : mj_Y} {lf : pj_Z → mj_M} (hT : pj_Lt pj_TC lf) (hd : 3 ≤ d) (hl : mj_lk Y.2.2.2.2 pc = some (.invokevirtual ix, 3)) (hg : mj_pG ic_P j ix = some (11067, 0, some 11)) {lv : List (Nat × Value)} {st : List pj_V} {z : pj_Z} {K : List pj_V → pj_Z → Option A} {a : A} (hK : ∀ st z, K st z = some a → pj_Gd ic_P (mj_R ic_P d) j Y OK lf (pc + 3) lv (pj_es st) z a) (h : ph_X11_moveModelPins st z K = some a) : pj_Gd ic_P (mj_R ic_P d) j Y OK lf pc lv (pj_es st) z a := by
  obtain ⟨r0, e0, h⟩ := pj_pr_inv h
  obtain ⟨hs, h⟩ := pj_ps_inv h
  obtain ⟨q, hq, h⟩ := pj_b_inv h
  exact pm_cv (o := 0) hl hg [] rfl (by rw [e0]; rfl) hs (by decide) ((hT.2 0 _ rfl).1.2 z 0 (by decide)) (pm_rU q.1) hd (pm_X11_moveModelPins hT  z.1 z.2.1 z.2.2.1 z.2.2.2 q hq) rfl (hK _ _ h)
abbrev px_J9_abs_0f7a4 : pj_C (Int32 × pj_Z) := ((fun _ => none), (fun _ => none), (fun _ => none), (fun _ => none), (fun _ => none), ic_X, 1, 1, pj_mI, (fun _ => none), fun _ => false)
abbrev pk_J9_abs_0f7a4 : List (Nat × List (Nat × Instr × Nat)) := [(0, [(0, .iload_n 0, 1), (1, .ifCond .ge 8, 3)]), (4, [(4, .iload_n 0, 1), (5, .ineg, 1), (6, .goto 4, 3)]), (9, [(9, .iload_n 0, 1)]), (10, [(10, .ireturn, 1)])]
set_option maxRecDepth 100000 in
theorem pq_J9_abs_0f7a4_m  (a0 : Int32) (s : Nat → Int32) (l : Nat → Int64) (x : Nat → Int32) (y : Nat → Int64) : pf_J9_abs_0f7a4 a0 s l x y = pj_bl px_J9_abs_0f7a4 (pj_rn px_J9_abs_0f7a4 (pj_as pk_J9_abs_0f7a4) (fun _ => none) 60) [(0, .iload_n 0, 1), (1, .ifCond .ge 8, 3)] 0 [(0, pj_I a0)] [] (s, l, x, y) := rfl
set_option maxRecDepth 100000 in
theorem pz_J9_abs_0f7a4 {lf : pj_Z → mj_M} (hT : pj_Lt (fun _ => none) lf) : pj_Cok ic_P (mj_R ic_P 0) 29003 ie_J9_abs_0f7a4.1 (pm_OK lf pm_rI) lf px_J9_abs_0f7a4 := by
  exact pm_cok (c := px_J9_abs_0f7a4) hT (fun _ _ h => by cases h) (fun _ _ h => by cases h) (fun _ _ h => by cases h) (fun _ _ h => by cases h) rfl rfl ⟨by decide, rfl⟩ pm_mI (fun _ _ h => by cases h) (fun _ h => by cases h)
set_option maxRecDepth 100000 in
theorem pb_J9_abs_0f7a4 : pm_bks ie_J9_abs_0f7a4.1.2.2.2.2 pk_J9_abs_0f7a4 = true := by decide +kernel
set_option maxRecDepth 100000 in
theorem pm_J9_abs_0f7a4 {lf : pj_Z → mj_M} (hT : pj_Lt (fun _ => none) lf) (a0 : Int32) (s : Nat → Int32) (l : Nat → Int64) (x : Nat → Int32) (y : Nat → Int64) (a : Int32 × pj_Z) (h : pf_J9_abs_0f7a4 a0 s l x y = some a) : mj_R ic_P 1 29003 [.int a0] (lf (s, l, x, y)) (pm_rI a.1) (lf a.2) := by
  refine pm_main (Y := ie_J9_abs_0f7a4.1) rfl (Nat.le_of_ble_eq_true rfl) ?_
  exact pm_run ((pq_J9_abs_0f7a4_m a0 s l x y).symm.trans h) (pz_J9_abs_0f7a4 hT) (pm_bks_ok pb_J9_abs_0f7a4) (pm_bks_ok pb_J9_abs_0f7a4 _ _ rfl) (pm_ndb_ok rfl) (fun _ _ h => by cases h)
abbrev ph_J9_abs_0f7a4 {A : Type} : List pj_V → pj_Z → (List pj_V → pj_Z → Option A) → Option A := fun st z K => pj_pi st fun a0 st => pj_ps st (pj_b (pf_J9_abs_0f7a4 a0 z.1 z.2.1 z.2.2.1 z.2.2.2) fun r s l x y => K (pj_I r :: st) (s, l, x, y))
set_option maxRecDepth 100000 in
theorem pc_J9_abs_0f7a4 {A : Type} {OK : A → Option Value → mj_M → Prop} {d j pc ix : Nat} {Y : mj_Y} {lf : pj_Z → mj_M} (hT : pj_Lt (fun _ => none) lf) (hd : 1 ≤ d) (hl : mj_lk Y.2.2.2.2 pc = some (.invokestatic ix, 3)) (hg : mj_pG ic_P j ix = some (29003, 1, none)) {lv : List (Nat × Value)} {st : List pj_V} {z : pj_Z} {K : List pj_V → pj_Z → Option A} {a : A} (hK : ∀ st z, K st z = some a → pj_Gd ic_P (mj_R ic_P d) j Y OK lf (pc + 3) lv (pj_es st) z a) (h : ph_J9_abs_0f7a4 st z K = some a) : pj_Gd ic_P (mj_R ic_P d) j Y OK lf pc lv (pj_es st) z a := by
  obtain ⟨a0, r0, e0, h⟩ := pj_pi_inv h
  obtain ⟨hs, h⟩ := pj_ps_inv h
  obtain ⟨q, hq, h⟩ := pj_b_inv h
  exact pm_cs hl hg [.int a0] rfl (by rw [e0]; rfl) hs (pm_rI q.1) hd (pm_J9_abs_0f7a4 hT a0 z.1 z.2.1 z.2.2.1 z.2.2.2 q hq) rfl (hK _ _ h)
abbrev pe_J9_floorDiv_f86c9_27 (f : Int64 → pj_F (Int64 × pj_Z)) : pj_K (Int64 × pj_Z) := fun lv st z => pj_xl lv 4 fun a4 => pj_pe st (f a4 z.1 z.2.1 z.2.2.1 z.2.2.2)
abbrev px_J9_floorDiv_f86c9 : pj_C (Int64 × pj_Z) := ((fun _ => none), (fun _ => none), (fun _ => none), (fun _ => none), (fun _ => none), ic_X, 6, 3, pj_mL, (fun _ => none), fun _ => false)
abbrev pk_J9_floorDiv_f86c9 : List (Nat × List (Nat × Instr × Nat)) := [(0, [(0, .lload_n 0, 1), (1, .lload_n 2, 1), (2, .ldiv, 1), (3, .lstore 4, 2), (5, .lload_n 0, 1), (6, .lload_n 2, 1), (7, .lxor, 1), (8, .lconst 0, 1), (9, .lcmp, 1), (10, .ifCond .ge 17, 3)]), (13, [(13, .lload 4, 2), (15, .lload_n 2, 1), (16, .lmul, 1), (17, .lload_n 0, 1), (18, .lcmp, 1), (19, .ifCond .eq 8, 3)]), (22, [(22, .lload 4, 2), (24, .lconst 1, 1), (25, .lsub, 1), (26, .lreturn, 1)]), (27, [(27, .lload 4, 2), (29, .lreturn, 1)])]
set_option maxRecDepth 100000 in
theorem pq_J9_floorDiv_f86c9_27  (a4 : Int64) (s : Nat → Int32) (l : Nat → Int64) (x : Nat → Int32) (y : Nat → Int64) : pl_J9_floorDiv_f86c9_27 a4 s l x y = pj_bl px_J9_floorDiv_f86c9 (pj_rn px_J9_floorDiv_f86c9 (pj_as pk_J9_floorDiv_f86c9) (fun _ => none) 60) [(27, .lload 4, 2), (29, .lreturn, 1)] 27 [(4, pj_L a4)] [] (s, l, x, y) := rfl
set_option maxRecDepth 100000 in
theorem pq_J9_floorDiv_f86c9_m  (a0 : Int64) (a2 : Int64) (s : Nat → Int32) (l : Nat → Int64) (x : Nat → Int32) (y : Nat → Int64) : pf_J9_floorDiv_f86c9 a0 a2 s l x y = pj_bl px_J9_floorDiv_f86c9 (pj_rn px_J9_floorDiv_f86c9 (pj_as pk_J9_floorDiv_f86c9) (pj_as [(27, pe_J9_floorDiv_f86c9_27 (pl_J9_floorDiv_f86c9_27))]) 60) [(0, .lload_n 0, 1), (1, .lload_n 2, 1), (2, .ldiv, 1), (3, .lstore 4, 2), (5, .lload_n 0, 1), (6, .lload_n 2, 1), (7, .lxor, 1), (8, .lconst 0, 1), (9, .lcmp, 1), (10, .ifCond .ge 17, 3)] 0 [(0, pj_L a0), (2, pj_L a2)] [] (s, l, x, y) := rfl
theorem pu_J9_floorDiv_f86c9_27 {lf : pj_Z → mj_M} {a : Int64 × pj_Z} (f : Int64 → pj_F (Int64 × pj_Z)) (hf : ∀ (a4 : Int64) (s : Nat → Int32) (l : Nat → Int64) (x : Nat → Int32) (y : Nat → Int64), f a4 s l x y = some a → pm_Gd 0 29001 ie_J9_floorDiv_f86c9.1 pm_rL lf 27 [(4, .long a4)] [] (s, l, x, y) a) : pm_Ex 0 29001 ie_J9_floorDiv_f86c9.1 pm_rL lf a 27 (pe_J9_floorDiv_f86c9_27 f) := by
  intro lv st z hd h
  obtain ⟨a4, g4, h⟩ := pj_xl_inv h
  obtain ⟨e9, h⟩ := pj_pe_inv h
  rw [e9]
  exact mj_wp_sub (mj_sub_cons g4 (mj_sub_nil hd)) (hf _ _ _ _ _ h)
set_option maxRecDepth 100000 in
theorem pz_J9_floorDiv_f86c9 {lf : pj_Z → mj_M} (hT : pj_Lt (fun _ => none) lf) : pj_Cok ic_P (mj_R ic_P 0) 29001 ie_J9_floorDiv_f86c9.1 (pm_OK lf pm_rL) lf px_J9_floorDiv_f86c9 := by
  exact pm_cok (c := px_J9_floorDiv_f86c9) hT (fun _ _ h => by cases h) (fun _ _ h => by cases h) (fun _ _ h => by cases h) (fun _ _ h => by cases h) rfl rfl ⟨by decide, rfl⟩ pm_mL (fun _ _ h => by cases h) (fun _ h => by cases h)
set_option maxRecDepth 100000 in
theorem pb_J9_floorDiv_f86c9 : pm_bks ie_J9_floorDiv_f86c9.1.2.2.2.2 pk_J9_floorDiv_f86c9 = true := by decide +kernel
set_option maxRecDepth 100000 in
theorem pg_J9_floorDiv_f86c9_27 {lf : pj_Z → mj_M} (hT : pj_Lt (fun _ => none) lf) : ∀ (a4 : Int64) (s : Nat → Int32) (l : Nat → Int64) (x : Nat → Int32) (y : Nat → Int64) (a : Int64 × pj_Z), pl_J9_floorDiv_f86c9_27 a4 s l x y = some a → pm_Gd 0 29001 ie_J9_floorDiv_f86c9.1 pm_rL lf 27 [(4, .long a4)] [] (s, l, x, y) a := by
  intro a4 s l x y a h
  exact pm_run ((pq_J9_floorDiv_f86c9_27  a4 s l x y).symm.trans h) (pz_J9_floorDiv_f86c9 hT) (pm_bks_ok pb_J9_floorDiv_f86c9) (pm_bks_ok pb_J9_floorDiv_f86c9 _ _ rfl) (pm_ndb_ok rfl) (fun _ _ h => by cases h)
set_option maxRecDepth 100000 in
theorem pm_J9_floorDiv_f86c9 {lf : pj_Z → mj_M} (hT : pj_Lt (fun _ => none) lf) (a0 : Int64) (a2 : Int64) (s : Nat → Int32) (l : Nat → Int64) (x : Nat → Int32) (y : Nat → Int64) (a : Int64 × pj_Z) (h : pf_J9_floorDiv_f86c9 a0 a2 s l x y = some a) : mj_R ic_P 1 29001 [.long a0, .long a2] (lf (s, l, x, y)) (pm_rL a.1) (lf a.2) := by
  refine pm_main (Y := ie_J9_floorDiv_f86c9.1) rfl (Nat.le_of_ble_eq_true rfl) ?_
  exact pm_run ((pq_J9_floorDiv_f86c9_m a0 a2 s l x y).symm.trans h) (pz_J9_floorDiv_f86c9 hT) (pm_bks_ok pb_J9_floorDiv_f86c9) (pm_bks_ok pb_J9_floorDiv_f86c9 _ _ rfl) (pm_ndb_ok rfl) (pj_as_all (p := pm_Ex 0 29001 ie_J9_floorDiv_f86c9.1 pm_rL lf a) (List.forall_mem_cons.mpr ⟨pu_J9_floorDiv_f86c9_27 _ (fun c0 s l x y h => pg_J9_floorDiv_f86c9_27 hT c0 s l x y _ h), (fun _ h => by cases h)⟩))
abbrev ph_J9_floorDiv_f86c9 {A : Type} : List pj_V → pj_Z → (List pj_V → pj_Z → Option A) → Option A := fun st z K => pj_pl st fun a2 st => pj_pl st fun a0 st => pj_ps st (pj_b (pf_J9_floorDiv_f86c9 a0 a2 z.1 z.2.1 z.2.2.1 z.2.2.2) fun r s l x y => K (pj_L r :: st) (s, l, x, y))
set_option maxRecDepth 100000 in
theorem pc_J9_floorDiv_f86c9 {A : Type} {OK : A → Option Value → mj_M → Prop} {d j pc ix : Nat} {Y : mj_Y} {lf : pj_Z → mj_M} (hT : pj_Lt (fun _ => none) lf) (hd : 1 ≤ d) (hl : mj_lk Y.2.2.2.2 pc = some (.invokestatic ix, 3)) (hg : mj_pG ic_P j ix = some (29001, 2, none)) {lv : List (Nat × Value)} {st : List pj_V} {z : pj_Z} {K : List pj_V → pj_Z → Option A} {a : A} (hK : ∀ st z, K st z = some a → pj_Gd ic_P (mj_R ic_P d) j Y OK lf (pc + 3) lv (pj_es st) z a) (h : ph_J9_floorDiv_f86c9 st z K = some a) : pj_Gd ic_P (mj_R ic_P d) j Y OK lf pc lv (pj_es st) z a := by
  obtain ⟨a2, r2, e2, h⟩ := pj_pl_inv h
  obtain ⟨a0, r0, e0, h⟩ := pj_pl_inv h
  obtain ⟨hs, h⟩ := pj_ps_inv h
  obtain ⟨q, hq, h⟩ := pj_b_inv h
  exact pm_cs hl hg [.long a0, .long a2] rfl (by rw [e2, e0]; rfl) hs (pm_rL q.1) hd (pm_J9_floorDiv_f86c9 hT a0 a2 z.1 z.2.1 z.2.2.1 z.2.2.2 q hq) rfl (hK _ _ h)
abbrev pe_X7_lineValue_36 (f : Int32 → Int32 → Nat → Nat → Int32 → Int32 → pj_F (Int32 × pj_Z)) : pj_K (Int32 × pj_Z) := fun lv st z => pj_xr lv 0 20 0 <| pj_xi lv 1 fun a1 => pj_xi lv 2 fun a2 => pj_xw lv 3 22 fun a3 => pj_xw lv 4 36 fun a4 => pj_xi lv 5 fun a5 => pj_xi lv 6 fun a6 => pj_pe st (f a1 a2 a3 a4 a5 a6 z.1 z.2.1 z.2.2.1 z.2.2.2)
abbrev pe_X7_lineValue_113 (f : Int32 → Int32 → Nat → Nat → Int32 → pj_F (Int32 × pj_Z)) : pj_K (Int32 × pj_Z) := fun lv st z => pj_xr lv 0 20 0 <| pj_xi lv 1 fun a1 => pj_xi lv 2 fun a2 => pj_xw lv 3 22 fun a3 => pj_xw lv 4 36 fun a4 => pj_xi lv 6 fun a6 => pj_pe st (f a1 a2 a3 a4 a6 z.1 z.2.1 z.2.2.1 z.2.2.2)
abbrev px_X7_lineValue : pj_C (Int32 × pj_Z) := ((pj_as [(20, 7, 11, 1, 0, true, 0, [(2, 21), (2, 35), (2, 49), (2, 50), (2, 51), (2, 52), (2, 53), (2, 54), (2, 55), (2, 56), (2, 57)]), (21, 103, 13, 1, 0, true, 22, []), (22, 100, 8, 13, 1, true, 26000, []), (35, 103, 13, 1, 0, true, 36, []), (36, 100, 8, 13, 1, true, 27000, []), (49, 100, 13, 1, 0, true, 28000, [])]), (pj_as [(13, 7, 0, 2, true), (16, 7, 1, 2, true), (19, 7, 2, 2, true)]), (fun _ => none), (fun _ => none), (fun _ => none), ic_X, 9, 1, pj_mI, (pj_as [(107, ph_J9_floorDiv_f86c9)]), fun _ => false)
abbrev pk_X7_lineValue : List (Nat × List (Nat × Instr × Nat)) := [(0, [(0, .aload_n 0, 1), (1, .getfield 13, 3), (4, .iload_n 1, 1), (5, .aaload, 1), (6, .astore_n 3, 1), (7, .aload_n 0, 1), (8, .getfield 16, 3), (11, .iload_n 1, 1), (12, .aaload, 1), (13, .astore 4, 2), (15, .iload_n 2, 1), (16, .aload_n 3, 1), (17, .iconst 0, 1), (18, .iaload, 1), (19, .if_icmp .gt 8, 3)]), (22, [(22, .aload 4, 2), (24, .iconst 0, 1), (25, .iaload, 1), (26, .ireturn, 1)]), (27, [(27, .aload 4, 2), (29, .iconst 0, 1), (30, .iaload, 1), (31, .istore 5, 2), (33, .iconst 1, 1), (34, .istore 6, 2)]), (36, [(36, .iload 6, 2), (38, .aload_n 0, 1), (39, .getfield 19, 3), (42, .iload_n 1, 1), (43, .iaload, 1), (44, .if_icmp .ge 82, 3)]), (47, [(47, .iload 6, 2), (49, .bipush 8, 2), (51, .if_icmp .ge 75, 3)]), (54, [(54, .aload_n 3, 1), (55, .iload 6, 2), (57, .iaload, 1), (58, .aload_n 3, 1), (59, .iload 6, 2), (61, .iconst 1, 1), (62, .isub, 1), (63, .iaload, 1), (64, .isub, 1), (65, .i2l, 1), (66, .lstore 7, 2), (68, .iload_n 2, 1), (69, .aload_n 3, 1), (70, .iload 6, 2), (72, .iaload, 1), (73, .if_icmp .ge 40, 3)]), (76, [(76, .lload 7, 2), (78, .lconst 0, 1), (79, .lcmp, 1), (80, .ifCond .le 33, 3)]), (83, [(83, .iload 5, 2), (85, .aload 4, 2), (87, .iload 6, 2), (89, .iaload, 1), (90, .iload 5, 2), (92, .isub, 1), (93, .i2l, 1), (94, .iload_n 2, 1), (95, .i2l, 1), (96, .aload_n 3, 1), (97, .iload 6, 2), (99, .iconst 1, 1), (100, .isub, 1), (101, .iaload, 1), (102, .i2l, 1), (103, .lsub, 1), (104, .lmul, 1), (105, .lload 7, 2), (107, .invokestatic 73, 3), (110, .l2i, 1), (111, .iadd, 1), (112, .ireturn, 1)]), (113, [(113, .aload 4, 2), (115, .iload 6, 2), (117, .iaload, 1), (118, .istore 5, 2), (120, .iinc 6 1, 3), (123, .goto (-87), 3)]), (126, [(126, .iload 5, 2), (128, .ireturn, 1)])]
set_option maxRecDepth 100000 in
theorem pq_X7_lineValue_113 (fu : Nat)  (k36 : Int32 → Int32 → Nat → Nat → Int32 → Int32 → pj_F (Int32 × pj_Z)) (a1 : Int32) (a2 : Int32) (a3 : Nat) (a4 : Nat) (a6 : Int32) (s : Nat → Int32) (l : Nat → Int64) (x : Nat → Int32) (y : Nat → Int64) : pl_X7_lineValue_113 fu k36 a1 a2 a3 a4 a6 s l x y = pj_bl px_X7_lineValue (pj_rn px_X7_lineValue (pj_as pk_X7_lineValue) (pj_as [(36, pe_X7_lineValue_36 k36)]) 60) [(113, .aload 4, 2), (115, .iload 6, 2), (117, .iaload, 1), (118, .istore 5, 2), (120, .iinc 6 1, 3), (123, .goto (-87), 3)] 113 [(0, pj_O (20, 0)), (1, pj_I a1), (2, pj_I a2), (3, pj_W (22, a3)), (4, pj_W (36, a4)), (6, pj_I a6)] [] (s, l, x, y) := rfl
set_option maxRecDepth 100000 in
theorem pq_X7_lineValue_36 (fu : Nat)  (n : Nat) (a1 : Int32) (a2 : Int32) (a3 : Nat) (a4 : Nat) (a5 : Int32) (a6 : Int32) (s : Nat → Int32) (l : Nat → Int64) (x : Nat → Int32) (y : Nat → Int64) : pl_X7_lineValue_36 fu (n + 1) a1 a2 a3 a4 a5 a6 s l x y = pj_bl px_X7_lineValue (pj_rn px_X7_lineValue (pj_as pk_X7_lineValue) (pj_as [(36, pe_X7_lineValue_36 (pl_X7_lineValue_36 fu n)), (113, pe_X7_lineValue_113 (pl_X7_lineValue_113 fu (pl_X7_lineValue_36 fu n)))]) 60) [(36, .iload 6, 2), (38, .aload_n 0, 1), (39, .getfield 19, 3), (42, .iload_n 1, 1), (43, .iaload, 1), (44, .if_icmp .ge 82, 3)] 36 [(0, pj_O (20, 0)), (1, pj_I a1), (2, pj_I a2), (3, pj_W (22, a3)), (4, pj_W (36, a4)), (5, pj_I a5), (6, pj_I a6)] [] (s, l, x, y) := rfl
set_option maxRecDepth 100000 in
theorem pq_X7_lineValue_m (fu : Nat)  (a1 : Int32) (a2 : Int32) (s : Nat → Int32) (l : Nat → Int64) (x : Nat → Int32) (y : Nat → Int64) : po_X7_lineValue fu a1 a2 s l x y = pj_bl px_X7_lineValue (pj_rn px_X7_lineValue (pj_as pk_X7_lineValue) (pj_as [(36, pe_X7_lineValue_36 (pl_X7_lineValue_36 fu fu))]) 60) [(0, .aload_n 0, 1), (1, .getfield 13, 3), (4, .iload_n 1, 1), (5, .aaload, 1), (6, .astore_n 3, 1), (7, .aload_n 0, 1), (8, .getfield 16, 3), (11, .iload_n 1, 1), (12, .aaload, 1), (13, .astore 4, 2), (15, .iload_n 2, 1), (16, .aload_n 3, 1), (17, .iconst 0, 1), (18, .iaload, 1), (19, .if_icmp .gt 8, 3)] 0 [(0, pj_O (20, 0)), (1, pj_I a1), (2, pj_I a2)] [] (s, l, x, y) := rfl
theorem pu_X7_lineValue_36 {lf : pj_Z → mj_M} {a : Int32 × pj_Z} (f : Int32 → Int32 → Nat → Nat → Int32 → Int32 → pj_F (Int32 × pj_Z)) (hf : ∀ (a1 : Int32) (a2 : Int32) (a3 : Nat) (a4 : Nat) (a5 : Int32) (a6 : Int32) (s : Nat → Int32) (l : Nat → Int64) (x : Nat → Int32) (y : Nat → Int64), f a1 a2 a3 a4 a5 a6 s l x y = some a → pm_Gd 1 7005 ie_X7_lineValue.1 pm_rI lf 36 [(0, .ref 20), (1, .int a1), (2, .int a2), (3, .ref (22 + a3)), (4, .ref (36 + a4)), (5, .int a5), (6, .int a6)] [] (s, l, x, y) a) : pm_Ex 1 7005 ie_X7_lineValue.1 pm_rI lf a 36 (pe_X7_lineValue_36 f) := by
  intro lv st z hd h
  obtain ⟨g0, h⟩ := pj_xr_inv h
  obtain ⟨a1, g1, h⟩ := pj_xi_inv h
  obtain ⟨a2, g2, h⟩ := pj_xi_inv h
  obtain ⟨a3, g3, h⟩ := pj_xw_inv h
  obtain ⟨a4, g4, h⟩ := pj_xw_inv h
  obtain ⟨a5, g5, h⟩ := pj_xi_inv h
  obtain ⟨a6, g6, h⟩ := pj_xi_inv h
  obtain ⟨e9, h⟩ := pj_pe_inv h
  rw [e9]
  exact mj_wp_sub (mj_sub_cons g0 (mj_sub_cons g1 (mj_sub_cons g2 (mj_sub_cons g3 (mj_sub_cons g4 (mj_sub_cons g5 (mj_sub_cons g6 (mj_sub_nil hd)))))))) (hf _ _ _ _ _ _ _ _ _ _ h)
theorem pu_X7_lineValue_113 {lf : pj_Z → mj_M} {a : Int32 × pj_Z} (f : Int32 → Int32 → Nat → Nat → Int32 → pj_F (Int32 × pj_Z)) (hf : ∀ (a1 : Int32) (a2 : Int32) (a3 : Nat) (a4 : Nat) (a6 : Int32) (s : Nat → Int32) (l : Nat → Int64) (x : Nat → Int32) (y : Nat → Int64), f a1 a2 a3 a4 a6 s l x y = some a → pm_Gd 1 7005 ie_X7_lineValue.1 pm_rI lf 113 [(0, .ref 20), (1, .int a1), (2, .int a2), (3, .ref (22 + a3)), (4, .ref (36 + a4)), (6, .int a6)] [] (s, l, x, y) a) : pm_Ex 1 7005 ie_X7_lineValue.1 pm_rI lf a 113 (pe_X7_lineValue_113 f) := by
  intro lv st z hd h
  obtain ⟨g0, h⟩ := pj_xr_inv h
  obtain ⟨a1, g1, h⟩ := pj_xi_inv h
  obtain ⟨a2, g2, h⟩ := pj_xi_inv h
  obtain ⟨a3, g3, h⟩ := pj_xw_inv h
  obtain ⟨a4, g4, h⟩ := pj_xw_inv h
  obtain ⟨a6, g6, h⟩ := pj_xi_inv h
  obtain ⟨e9, h⟩ := pj_pe_inv h
  rw [e9]
  exact mj_wp_sub (mj_sub_cons g0 (mj_sub_cons g1 (mj_sub_cons g2 (mj_sub_cons g3 (mj_sub_cons g4 (mj_sub_cons g6 (mj_sub_nil hd))))))) (hf _ _ _ _ _ _ _ _ _ h)
set_option maxRecDepth 100000 in
theorem pz_X7_lineValue {lf : pj_Z → mj_M} (hT : pj_Lt pj_TC lf) : pj_Cok ic_P (mj_R ic_P 1) 7005 ie_X7_lineValue.1 (pm_OK lf pm_rI) lf px_X7_lineValue := by
  exact pm_cok (c := px_X7_lineValue) (pm_part hT (pj_as_all (p := fun b e => pj_TC b = some e) (List.forall_mem_cons.mpr ⟨rfl, (List.forall_mem_cons.mpr ⟨rfl, (List.forall_mem_cons.mpr ⟨rfl, (List.forall_mem_cons.mpr ⟨rfl, (List.forall_mem_cons.mpr ⟨rfl, (List.forall_mem_cons.mpr ⟨rfl, (fun _ h => by cases h)⟩)⟩)⟩)⟩)⟩)⟩))) (pm_in_ok (L := [(13, 7, 0, 2, true), (16, 7, 1, 2, true), (19, 7, 2, 2, true)]) (f := mj_pF ic_P 7005) (by decide +kernel)) (fun _ _ h => by cases h) (fun _ _ h => by cases h) (fun _ _ h => by cases h) rfl rfl ⟨by decide, rfl⟩ pm_mI (pj_as_all (p := pm_Cl 1 7005 ie_X7_lineValue.1 lf (pm_OK lf pm_rI)) (List.forall_mem_cons.mpr ⟨fun _ _ lv st z K a hK h => pc_J9_floorDiv_f86c9 (pm_none hT) (by decide) (ix := 73) rfl rfl hK h, (fun _ h => by cases h)⟩)) (fun _ h => by cases h)
set_option maxRecDepth 100000 in
theorem pb_X7_lineValue : pm_bks ie_X7_lineValue.1.2.2.2.2 pk_X7_lineValue = true := by decide +kernel
set_option maxRecDepth 100000 in
theorem pg_X7_lineValue_113 {fu : Nat} {lf : pj_Z → mj_M} (hT : pj_Lt pj_TC lf) {k36 : Int32 → Int32 → Nat → Nat → Int32 → Int32 → pj_F (Int32 × pj_Z)} (hk36 : ∀ (a1 : Int32) (a2 : Int32) (a3 : Nat) (a4 : Nat) (a5 : Int32) (a6 : Int32) (s : Nat → Int32) (l : Nat → Int64) (x : Nat → Int32) (y : Nat → Int64) (a : Int32 × pj_Z), k36 a1 a2 a3 a4 a5 a6 s l x y = some a → pm_Gd 1 7005 ie_X7_lineValue.1 pm_rI lf 36 [(0, .ref 20), (1, .int a1), (2, .int a2), (3, .ref (22 + a3)), (4, .ref (36 + a4)), (5, .int a5), (6, .int a6)] [] (s, l, x, y) a) : ∀ (a1 : Int32) (a2 : Int32) (a3 : Nat) (a4 : Nat) (a6 : Int32) (s : Nat → Int32) (l : Nat → Int64) (x : Nat → Int32) (y : Nat → Int64) (a : Int32 × pj_Z), pl_X7_lineValue_113 fu k36 a1 a2 a3 a4 a6 s l x y = some a → pm_Gd 1 7005 ie_X7_lineValue.1 pm_rI lf 113 [(0, .ref 20), (1, .int a1), (2, .int a2), (3, .ref (22 + a3)), (4, .ref (36 + a4)), (6, .int a6)] [] (s, l, x, y) a := by
  intro a1 a2 a3 a4 a6 s l x y a h
  exact pm_run ((pq_X7_lineValue_113 fu k36 a1 a2 a3 a4 a6 s l x y).symm.trans h) (pz_X7_lineValue hT) (pm_bks_ok pb_X7_lineValue) (pm_bks_ok pb_X7_lineValue _ _ rfl) (pm_ndb_ok rfl) (pj_as_all (p := pm_Ex 1 7005 ie_X7_lineValue.1 pm_rI lf a) (List.forall_mem_cons.mpr ⟨pu_X7_lineValue_36 _ (fun c0 c1 c2 c3 c4 c5 s l x y h => hk36 c0 c1 c2 c3 c4 c5 s l x y _ h), (fun _ h => by cases h)⟩))
set_option maxRecDepth 100000 in
theorem pg_X7_lineValue_36 {fu : Nat} {lf : pj_Z → mj_M} (hT : pj_Lt pj_TC lf) : ∀ (n : Nat), ∀ (a1 : Int32) (a2 : Int32) (a3 : Nat) (a4 : Nat) (a5 : Int32) (a6 : Int32) (s : Nat → Int32) (l : Nat → Int64) (x : Nat → Int32) (y : Nat → Int64) (a : Int32 × pj_Z), pl_X7_lineValue_36 fu n a1 a2 a3 a4 a5 a6 s l x y = some a → pm_Gd 1 7005 ie_X7_lineValue.1 pm_rI lf 36 [(0, .ref 20), (1, .int a1), (2, .int a2), (3, .ref (22 + a3)), (4, .ref (36 + a4)), (5, .int a5), (6, .int a6)] [] (s, l, x, y) a := by
  intro n
  induction n with
  | zero => intro a1 a2 a3 a4 a5 a6 s l x y a h; cases (show (none : Option (Int32 × pj_Z)) = some a from h)
  | succ n ih =>
    intro a1 a2 a3 a4 a5 a6 s l x y a h
    exact pm_run ((pq_X7_lineValue_36 fu n a1 a2 a3 a4 a5 a6 s l x y).symm.trans h) (pz_X7_lineValue hT) (pm_bks_ok pb_X7_lineValue) (pm_bks_ok pb_X7_lineValue _ _ rfl) (pm_ndb_ok rfl) (pj_as_all (p := pm_Ex 1 7005 ie_X7_lineValue.1 pm_rI lf a) (List.forall_mem_cons.mpr ⟨pu_X7_lineValue_36 _ (fun c0 c1 c2 c3 c4 c5 s l x y h => ih c0 c1 c2 c3 c4 c5 s l x y _ h), (List.forall_mem_cons.mpr ⟨pu_X7_lineValue_113 _ (fun c0 c1 c2 c3 c4 s l x y h => pg_X7_lineValue_113 hT (fun a1 a2 a3 a4 a5 a6 s l x y a h => ih a1 a2 a3 a4 a5 a6 s l x y a h) c0 c1 c2 c3 c4 s l x y _ h), (fun _ h => by cases h)⟩)⟩))
set_option maxRecDepth 100000 in
theorem pm_X7_lineValue {lf : pj_Z → mj_M} (hT : pj_Lt pj_TC lf) (a1 : Int32) (a2 : Int32) (s : Nat → Int32) (l : Nat → Int64) (x : Nat → Int32) (y : Nat → Int64) (a : Int32 × pj_Z) (h : pf_X7_lineValue a1 a2 s l x y = some a) : mj_R ic_P 2 7005 [.ref 20, .int a1, .int a2] (lf (s, l, x, y)) (pm_rI a.1) (lf a.2) := by
  refine pm_main (Y := ie_X7_lineValue.1) rfl (Nat.le_of_ble_eq_true rfl) ?_
  exact pm_run ((pq_X7_lineValue_m 1000 a1 a2 s l x y).symm.trans h) (pz_X7_lineValue hT) (pm_bks_ok pb_X7_lineValue) (pm_bks_ok pb_X7_lineValue _ _ rfl) (pm_ndb_ok rfl) (pj_as_all (p := pm_Ex 1 7005 ie_X7_lineValue.1 pm_rI lf a) (List.forall_mem_cons.mpr ⟨pu_X7_lineValue_36 _ (fun c0 c1 c2 c3 c4 c5 s l x y h => pg_X7_lineValue_36 hT _ c0 c1 c2 c3 c4 c5 s l x y _ h), (fun _ h => by cases h)⟩))
abbrev ph_X7_lineValue {A : Type} : List pj_V → pj_Z → (List pj_V → pj_Z → Option A) → Option A := fun st z K => pj_pi st fun a2 st => pj_pi st fun a1 st => pj_pr st 20 0 fun st => pj_ps st (pj_b (pf_X7_lineValue a1 a2 z.1 z.2.1 z.2.2.1 z.2.2.2) fun r s l x y => K (pj_I r :: st) (s, l, x, y))
set_option maxRecDepth 100000 in
theorem pc_X7_lineValue {A : Type} {OK : A → Option Value → mj_M → Prop} {d j pc ix : Nat} {Y : mj_Y} {lf : pj_Z → mj_M} (hT : pj_Lt pj_TC lf) (hd : 2 ≤ d) (hl : mj_lk Y.2.2.2.2 pc = some (.invokevirtual ix, 3)) (hg : mj_pG ic_P j ix = some (7005, 2, some 7)) {lv : List (Nat × Value)} {st : List pj_V} {z : pj_Z} {K : List pj_V → pj_Z → Option A} {a : A} (hK : ∀ st z, K st z = some a → pj_Gd ic_P (mj_R ic_P d) j Y OK lf (pc + 3) lv (pj_es st) z a) (h : ph_X7_lineValue st z K = some a) : pj_Gd ic_P (mj_R ic_P d) j Y OK lf pc lv (pj_es st) z a := by
  obtain ⟨a2, r2, e2, h⟩ := pj_pi_inv h
  obtain ⟨a1, r1, e1, h⟩ := pj_pi_inv h
  obtain ⟨r0, e0, h⟩ := pj_pr_inv h
  obtain ⟨hs, h⟩ := pj_ps_inv h
  obtain ⟨q, hq, h⟩ := pj_b_inv h
  exact pm_cv (o := 20) hl hg [.int a1, .int a2] rfl (by rw [e2, e1, e0]; rfl) hs (by decide) ((hT.2 20 _ rfl).1.2 z 0 (by decide)) (pm_rI q.1) hd (pm_X7_lineValue hT a1 a2 z.1 z.2.1 z.2.2.1 z.2.2.2 q hq) rfl (hK _ _ h)
abbrev pe_X7_readAll_2 (f : Int32 → Int32 → pj_F (Unit × pj_Z)) : pj_K (Unit × pj_Z) := fun lv st z => pj_xr lv 0 20 0 <| pj_xi lv 1 fun a1 => pj_xi lv 2 fun a2 => pj_pe st (f a1 a2 z.1 z.2.1 z.2.2.1 z.2.2.2)
abbrev pe_X7_readAll_41 (f : Int32 → Int32 → pj_F (Unit × pj_Z)) : pj_K (Unit × pj_Z) := fun lv st z => pj_xr lv 0 20 0 <| pj_xi lv 1 fun a1 => pj_xi lv 2 fun a2 => pj_pe st (f a1 a2 z.1 z.2.1 z.2.2.1 z.2.2.2)
abbrev pe_X7_readAll_42 (f : Int32 → Int32 → Int32 → pj_F (Unit × pj_Z)) : pj_K (Unit × pj_Z) := fun lv st z => pj_xr lv 0 20 0 <| pj_xi lv 1 fun a1 => pj_xi lv 2 fun a2 => pj_pi st fun b0 st => pj_pe st (f a1 a2 b0 z.1 z.2.1 z.2.2.1 z.2.2.2)
abbrev pe_X7_readAll_77 (f : Int32 → Int32 → pj_F (Unit × pj_Z)) : pj_K (Unit × pj_Z) := fun lv st z => pj_xr lv 0 20 0 <| pj_xi lv 1 fun a1 => pj_xi lv 2 fun a2 => pj_pe st (f a1 a2 z.1 z.2.1 z.2.2.1 z.2.2.2)
abbrev pe_X7_readAll_82 (f : Int32 → Int32 → Int32 → pj_F (Unit × pj_Z)) : pj_K (Unit × pj_Z) := fun lv st z => pj_xr lv 0 20 0 <| pj_xi lv 1 fun a1 => pj_xi lv 2 fun a2 => pj_pi st fun b0 st => pj_pe st (f a1 a2 b0 z.1 z.2.1 z.2.2.1 z.2.2.2)
abbrev pe_X7_readAll_96 (f : Int32 → Int32 → Int32 → pj_F (Unit × pj_Z)) : pj_K (Unit × pj_Z) := fun lv st z => pj_xr lv 0 20 0 <| pj_xi lv 1 fun a1 => pj_xi lv 2 fun a2 => pj_xi lv 4 fun a4 => pj_pe st (f a1 a2 a4 z.1 z.2.1 z.2.2.1 z.2.2.2)
abbrev pe_X7_readAll_128 (f : Int32 → Int32 → Int32 → Int32 → Int64 → pj_F (Unit × pj_Z)) : pj_K (Unit × pj_Z) := fun lv st z => pj_xr lv 0 20 0 <| pj_xi lv 1 fun a1 => pj_xi lv 2 fun a2 => pj_xi lv 4 fun a4 => pj_pl st fun b2 st => pj_pi st fun b1 st => pj_pr st 56 0 fun st => pj_pe st (f a1 a2 a4 b1 b2 z.1 z.2.1 z.2.2.1 z.2.2.2)
abbrev pe_X7_readAll_135 (f : Int32 → Int32 → Int32 → pj_F (Unit × pj_Z)) : pj_K (Unit × pj_Z) := fun lv st z => pj_xr lv 0 20 0 <| pj_xi lv 1 fun a1 => pj_xi lv 2 fun a2 => pj_xi lv 4 fun a4 => pj_pe st (f a1 a2 a4 z.1 z.2.1 z.2.2.1 z.2.2.2)
abbrev pe_X7_readAll_172 (f : Int32 → Int32 → Int32 → pj_F (Unit × pj_Z)) : pj_K (Unit × pj_Z) := fun lv st z => pj_xr lv 0 20 0 <| pj_xi lv 1 fun a1 => pj_xi lv 2 fun a2 => pj_xi lv 4 fun a4 => pj_pe st (f a1 a2 a4 z.1 z.2.1 z.2.2.1 z.2.2.2)
abbrev pe_X7_readAll_217 (f : Int32 → Int32 → pj_F (Unit × pj_Z)) : pj_K (Unit × pj_Z) := fun lv st z => pj_xr lv 0 20 0 <| pj_xi lv 1 fun a1 => pj_xi lv 2 fun a2 => pj_pe st (f a1 a2 z.1 z.2.1 z.2.2.1 z.2.2.2)
abbrev px_X7_readAll : pj_C (Unit × pj_Z) := ((pj_as [(20, 7, 11, 1, 0, true, 0, [(2, 21), (2, 35), (2, 49), (2, 50), (2, 51), (2, 52), (2, 53), (2, 54), (2, 55), (2, 56), (2, 57)]), (50, 100, 10, 1, 0, true, 29000, []), (51, 100, 10, 1, 0, true, 30000, []), (52, 100, 10, 1, 0, true, 31000, []), (53, 100, 10, 1, 0, true, 32000, []), (54, 100, 10, 1, 0, true, 33000, []), (55, 100, 10, 1, 0, true, 34000, []), (56, 100, 10, 1, 0, true, 35000, []), (57, 102, 10, 1, 0, true, 36000, [])]), (pj_as [(23, 7, 3, 2, true), (26, 7, 4, 2, true), (29, 7, 5, 2, true), (32, 7, 6, 2, true), (35, 7, 7, 2, true), (38, 7, 8, 2, true), (41, 7, 9, 2, true), (44, 7, 10, 2, true)]), (fun _ => none), (fun _ => none), (pj_as [(64, 6)]), ic_X, 5, 0, pj_mU, (pj_as [(25, ph_J9_abs_0f7a4), (131, ph_X11_clip), (213, ph_X7_lineValue)]), fun _ => false)
abbrev pk_X7_readAll : List (Nat × List (Nat × Instr × Nat)) := [(0, [(0, .iconst 0, 1), (1, .istore_n 2, 1)]), (2, [(2, .iload_n 2, 1), (3, .bipush 10, 2), (5, .if_icmp .ge 218, 3)]), (8, [(8, .iload_n 1, 1), (9, .ifCond .ne 32, 3)]), (12, [(12, .aload_n 0, 1), (13, .getfield 23, 3), (16, .iload_n 2, 1), (17, .iaload, 1), (18, .aload_n 0, 1), (19, .getfield 26, 3), (22, .iload_n 2, 1), (23, .iaload, 1), (24, .isub, 1), (25, .invokestatic 79, 3), (28, .aload_n 0, 1), (29, .getfield 35, 3), (32, .iload_n 2, 1), (33, .iaload, 1), (34, .if_icmp .le 7, 3)]), (37, [(37, .iconst 1, 1), (38, .goto 4, 3)]), (41, [(41, .iconst 0, 1)]), (42, [(42, .istore_n 3, 1), (43, .aload_n 0, 1), (44, .getfield 23, 3), (47, .iload_n 2, 1), (48, .iaload, 1), (49, .aload_n 0, 1), (50, .getfield 29, 3), (53, .iload_n 2, 1), (54, .iaload, 1), (55, .if_icmp .lt 22, 3)]), (58, [(58, .aload_n 0, 1), (59, .getfield 23, 3), (62, .iload_n 2, 1), (63, .iaload, 1), (64, .aload_n 0, 1), (65, .getfield 32, 3), (68, .iload_n 2, 1), (69, .iaload, 1), (70, .if_icmp .gt 7, 3)]), (73, [(73, .iload_n 3, 1), (74, .ifCond .eq 7, 3)]), (77, [(77, .iconst 1, 1), (78, .goto 4, 3)]), (81, [(81, .iconst 0, 1)]), (82, [(82, .istore 4, 2), (84, .aload_n 0, 1), (85, .getfield 26, 3), (88, .iload_n 2, 1), (89, .aload_n 0, 1), (90, .getfield 23, 3), (93, .iload_n 2, 1), (94, .iaload, 1), (95, .iastore, 1)]), (96, [(96, .aload_n 0, 1), (97, .getfield 41, 3), (100, .iload_n 2, 1), (101, .iload 4, 2), (103, .ifCond .eq 16, 3)]), (106, [(106, .aload_n 0, 1), (107, .getfield 41, 3), (110, .iload_n 2, 1), (111, .iaload, 1), (112, .bipush 10, 2), (114, .iadd, 1), (115, .i2l, 1), (116, .goto 12, 3)]), (119, [(119, .aload_n 0, 1), (120, .getfield 41, 3), (123, .iload_n 2, 1), (124, .iaload, 1), (125, .iconst 1, 1), (126, .isub, 1), (127, .i2l, 1)]), (128, [(128, .iconst 0, 1), (129, .bipush 100, 2), (131, .invokestatic 83, 3), (134, .iastore, 1)]), (135, [(135, .aload_n 0, 1), (136, .getfield 41, 3), (139, .iload_n 2, 1), (140, .iaload, 1), (141, .bipush 100, 2), (143, .if_icmp .ne 13, 3)]), (146, [(146, .aload_n 0, 1), (147, .getfield 44, 3), (150, .iload_n 2, 1), (151, .iconst 1, 1), (152, .bastore, 1), (153, .goto 19, 3)]), (156, [(156, .aload_n 0, 1), (157, .getfield 41, 3), (160, .iload_n 2, 1), (161, .iaload, 1), (162, .ifCond .ne 10, 3)]), (165, [(165, .aload_n 0, 1), (166, .getfield 44, 3), (169, .iload_n 2, 1), (170, .iconst 0, 1), (171, .bastore, 1)]), (172, [(172, .aload_n 0, 1), (173, .getfield 44, 3), (176, .iload_n 2, 1), (177, .baload, 1), (178, .ifCond .eq 17, 3)]), (181, [(181, .aload_n 0, 1), (182, .getfield 38, 3), (185, .iload_n 2, 1), (186, .getstatic 64, 3), (189, .iload_n 2, 1), (190, .iaload, 1), (191, .iastore, 1), (192, .goto 25, 3)]), (195, [(195, .iload 4, 2), (197, .ifCond .ne 20, 3)]), (200, [(200, .aload_n 0, 1), (201, .getfield 38, 3), (204, .iload_n 2, 1), (205, .aload_n 0, 1), (206, .iload_n 2, 1), (207, .aload_n 0, 1), (208, .getfield 23, 3), (211, .iload_n 2, 1), (212, .iaload, 1), (213, .invokevirtual 87, 3), (216, .iastore, 1)]), (217, [(217, .iinc 2 1, 3), (220, .goto (-218), 3)]), (223, [(223, .return_, 1)])]
set_option maxRecDepth 100000 in
theorem pq_X7_readAll_217 (fu : Nat)  (k2 : Int32 → Int32 → pj_F (Unit × pj_Z)) (a1 : Int32) (a2 : Int32) (s : Nat → Int32) (l : Nat → Int64) (x : Nat → Int32) (y : Nat → Int64) : pl_X7_readAll_217 fu k2 a1 a2 s l x y = pj_bl px_X7_readAll (pj_rn px_X7_readAll (pj_as pk_X7_readAll) (pj_as [(2, pe_X7_readAll_2 k2)]) 60) [(217, .iinc 2 1, 3), (220, .goto (-218), 3)] 217 [(0, pj_O (20, 0)), (1, pj_I a1), (2, pj_I a2)] [] (s, l, x, y) := rfl
set_option maxRecDepth 100000 in
theorem pq_X7_readAll_172 (fu : Nat)  (k2 : Int32 → Int32 → pj_F (Unit × pj_Z)) (a1 : Int32) (a2 : Int32) (a4 : Int32) (s : Nat → Int32) (l : Nat → Int64) (x : Nat → Int32) (y : Nat → Int64) : pl_X7_readAll_172 fu k2 a1 a2 a4 s l x y = pj_bl px_X7_readAll (pj_rn px_X7_readAll (pj_as pk_X7_readAll) (pj_as [(2, pe_X7_readAll_2 k2), (217, pe_X7_readAll_217 (pl_X7_readAll_217 fu k2))]) 60) [(172, .aload_n 0, 1), (173, .getfield 44, 3), (176, .iload_n 2, 1), (177, .baload, 1), (178, .ifCond .eq 17, 3)] 172 [(0, pj_O (20, 0)), (1, pj_I a1), (2, pj_I a2), (4, pj_I a4)] [] (s, l, x, y) := rfl
set_option maxRecDepth 100000 in
theorem pq_X7_readAll_135 (fu : Nat)  (k2 : Int32 → Int32 → pj_F (Unit × pj_Z)) (a1 : Int32) (a2 : Int32) (a4 : Int32) (s : Nat → Int32) (l : Nat → Int64) (x : Nat → Int32) (y : Nat → Int64) : pl_X7_readAll_135 fu k2 a1 a2 a4 s l x y = pj_bl px_X7_readAll (pj_rn px_X7_readAll (pj_as pk_X7_readAll) (pj_as [(2, pe_X7_readAll_2 k2), (172, pe_X7_readAll_172 (pl_X7_readAll_172 fu k2))]) 60) [(135, .aload_n 0, 1), (136, .getfield 41, 3), (139, .iload_n 2, 1), (140, .iaload, 1), (141, .bipush 100, 2), (143, .if_icmp .ne 13, 3)] 135 [(0, pj_O (20, 0)), (1, pj_I a1), (2, pj_I a2), (4, pj_I a4)] [] (s, l, x, y) := rfl
set_option maxRecDepth 100000 in
theorem pq_X7_readAll_128 (fu : Nat)  (k2 : Int32 → Int32 → pj_F (Unit × pj_Z)) (a1 : Int32) (a2 : Int32) (a4 : Int32) (b1 : Int32) (b2 : Int64) (s : Nat → Int32) (l : Nat → Int64) (x : Nat → Int32) (y : Nat → Int64) : pl_X7_readAll_128 fu k2 a1 a2 a4 b1 b2 s l x y = pj_bl px_X7_readAll (pj_rn px_X7_readAll (pj_as pk_X7_readAll) (pj_as [(2, pe_X7_readAll_2 k2), (135, pe_X7_readAll_135 (pl_X7_readAll_135 fu k2))]) 60) [(128, .iconst 0, 1), (129, .bipush 100, 2), (131, .invokestatic 83, 3), (134, .iastore, 1)] 128 [(0, pj_O (20, 0)), (1, pj_I a1), (2, pj_I a2), (4, pj_I a4)] [pj_L b2, pj_I b1, pj_O (56, 0)] (s, l, x, y) := rfl
set_option maxRecDepth 100000 in
theorem pq_X7_readAll_96 (fu : Nat)  (k2 : Int32 → Int32 → pj_F (Unit × pj_Z)) (a1 : Int32) (a2 : Int32) (a4 : Int32) (s : Nat → Int32) (l : Nat → Int64) (x : Nat → Int32) (y : Nat → Int64) : pl_X7_readAll_96 fu k2 a1 a2 a4 s l x y = pj_bl px_X7_readAll (pj_rn px_X7_readAll (pj_as pk_X7_readAll) (pj_as [(2, pe_X7_readAll_2 k2), (128, pe_X7_readAll_128 (pl_X7_readAll_128 fu k2))]) 60) [(96, .aload_n 0, 1), (97, .getfield 41, 3), (100, .iload_n 2, 1), (101, .iload 4, 2), (103, .ifCond .eq 16, 3)] 96 [(0, pj_O (20, 0)), (1, pj_I a1), (2, pj_I a2), (4, pj_I a4)] [] (s, l, x, y) := rfl
set_option maxRecDepth 100000 in
theorem pq_X7_readAll_82 (fu : Nat)  (k2 : Int32 → Int32 → pj_F (Unit × pj_Z)) (a1 : Int32) (a2 : Int32) (b0 : Int32) (s : Nat → Int32) (l : Nat → Int64) (x : Nat → Int32) (y : Nat → Int64) : pl_X7_readAll_82 fu k2 a1 a2 b0 s l x y = pj_bl px_X7_readAll (pj_rn px_X7_readAll (pj_as pk_X7_readAll) (pj_as [(2, pe_X7_readAll_2 k2), (96, pe_X7_readAll_96 (pl_X7_readAll_96 fu k2))]) 60) [(82, .istore 4, 2), (84, .aload_n 0, 1), (85, .getfield 26, 3), (88, .iload_n 2, 1), (89, .aload_n 0, 1), (90, .getfield 23, 3), (93, .iload_n 2, 1), (94, .iaload, 1), (95, .iastore, 1)] 82 [(0, pj_O (20, 0)), (1, pj_I a1), (2, pj_I a2)] [pj_I b0] (s, l, x, y) := rfl
set_option maxRecDepth 100000 in
theorem pq_X7_readAll_77 (fu : Nat)  (k2 : Int32 → Int32 → pj_F (Unit × pj_Z)) (a1 : Int32) (a2 : Int32) (s : Nat → Int32) (l : Nat → Int64) (x : Nat → Int32) (y : Nat → Int64) : pl_X7_readAll_77 fu k2 a1 a2 s l x y = pj_bl px_X7_readAll (pj_rn px_X7_readAll (pj_as pk_X7_readAll) (pj_as [(2, pe_X7_readAll_2 k2), (82, pe_X7_readAll_82 (pl_X7_readAll_82 fu k2))]) 60) [(77, .iconst 1, 1), (78, .goto 4, 3)] 77 [(0, pj_O (20, 0)), (1, pj_I a1), (2, pj_I a2)] [] (s, l, x, y) := rfl
set_option maxRecDepth 100000 in
theorem pq_X7_readAll_42 (fu : Nat)  (k2 : Int32 → Int32 → pj_F (Unit × pj_Z)) (a1 : Int32) (a2 : Int32) (b0 : Int32) (s : Nat → Int32) (l : Nat → Int64) (x : Nat → Int32) (y : Nat → Int64) : pl_X7_readAll_42 fu k2 a1 a2 b0 s l x y = pj_bl px_X7_readAll (pj_rn px_X7_readAll (pj_as pk_X7_readAll) (pj_as [(2, pe_X7_readAll_2 k2), (77, pe_X7_readAll_77 (pl_X7_readAll_77 fu k2)), (82, pe_X7_readAll_82 (pl_X7_readAll_82 fu k2))]) 60) [(42, .istore_n 3, 1), (43, .aload_n 0, 1), (44, .getfield 23, 3), (47, .iload_n 2, 1), (48, .iaload, 1), (49, .aload_n 0, 1), (50, .getfield 29, 3), (53, .iload_n 2, 1), (54, .iaload, 1), (55, .if_icmp .lt 22, 3)] 42 [(0, pj_O (20, 0)), (1, pj_I a1), (2, pj_I a2)] [pj_I b0] (s, l, x, y) := rfl
set_option maxRecDepth 100000 in
theorem pq_X7_readAll_41 (fu : Nat)  (k2 : Int32 → Int32 → pj_F (Unit × pj_Z)) (a1 : Int32) (a2 : Int32) (s : Nat → Int32) (l : Nat → Int64) (x : Nat → Int32) (y : Nat → Int64) : pl_X7_readAll_41 fu k2 a1 a2 s l x y = pj_bl px_X7_readAll (pj_rn px_X7_readAll (pj_as pk_X7_readAll) (pj_as [(2, pe_X7_readAll_2 k2), (42, pe_X7_readAll_42 (pl_X7_readAll_42 fu k2))]) 60) [(41, .iconst 0, 1)] 41 [(0, pj_O (20, 0)), (1, pj_I a1), (2, pj_I a2)] [] (s, l, x, y) := rfl
set_option maxRecDepth 100000 in
theorem pq_X7_readAll_2 (fu : Nat)  (n : Nat) (a1 : Int32) (a2 : Int32) (s : Nat → Int32) (l : Nat → Int64) (x : Nat → Int32) (y : Nat → Int64) : pl_X7_readAll_2 fu (n + 1) a1 a2 s l x y = pj_bl px_X7_readAll (pj_rn px_X7_readAll (pj_as pk_X7_readAll) (pj_as [(2, pe_X7_readAll_2 (pl_X7_readAll_2 fu n)), (41, pe_X7_readAll_41 (pl_X7_readAll_41 fu (pl_X7_readAll_2 fu n))), (42, pe_X7_readAll_42 (pl_X7_readAll_42 fu (pl_X7_readAll_2 fu n)))]) 60) [(2, .iload_n 2, 1), (3, .bipush 10, 2), (5, .if_icmp .ge 218, 3)] 2 [(0, pj_O (20, 0)), (1, pj_I a1), (2, pj_I a2)] [] (s, l, x, y) := rfl
set_option maxRecDepth 100000 in
theorem pq_X7_readAll_m (fu : Nat)  (a1 : Int32) (s : Nat → Int32) (l : Nat → Int64) (x : Nat → Int32) (y : Nat → Int64) : po_X7_readAll fu a1 s l x y = pj_bl px_X7_readAll (pj_rn px_X7_readAll (pj_as pk_X7_readAll) (pj_as [(2, pe_X7_readAll_2 (pl_X7_readAll_2 fu fu))]) 60) [(0, .iconst 0, 1), (1, .istore_n 2, 1)] 0 [(0, pj_O (20, 0)), (1, pj_I a1)] [] (s, l, x, y) := rfl
theorem pu_X7_readAll_2 {lf : pj_Z → mj_M} {a : Unit × pj_Z} (f : Int32 → Int32 → pj_F (Unit × pj_Z)) (hf : ∀ (a1 : Int32) (a2 : Int32) (s : Nat → Int32) (l : Nat → Int64) (x : Nat → Int32) (y : Nat → Int64), f a1 a2 s l x y = some a → pm_Gd 2 7006 ie_X7_readAll.1 pm_rU lf 2 [(0, .ref 20), (1, .int a1), (2, .int a2)] [] (s, l, x, y) a) : pm_Ex 2 7006 ie_X7_readAll.1 pm_rU lf a 2 (pe_X7_readAll_2 f) := by
  intro lv st z hd h
  obtain ⟨g0, h⟩ := pj_xr_inv h
  obtain ⟨a1, g1, h⟩ := pj_xi_inv h
  obtain ⟨a2, g2, h⟩ := pj_xi_inv h
  obtain ⟨e9, h⟩ := pj_pe_inv h
  rw [e9]
  exact mj_wp_sub (mj_sub_cons g0 (mj_sub_cons g1 (mj_sub_cons g2 (mj_sub_nil hd)))) (hf _ _ _ _ _ _ h)
theorem pu_X7_readAll_41 {lf : pj_Z → mj_M} {a : Unit × pj_Z} (f : Int32 → Int32 → pj_F (Unit × pj_Z)) (hf : ∀ (a1 : Int32) (a2 : Int32) (s : Nat → Int32) (l : Nat → Int64) (x : Nat → Int32) (y : Nat → Int64), f a1 a2 s l x y = some a → pm_Gd 2 7006 ie_X7_readAll.1 pm_rU lf 41 [(0, .ref 20), (1, .int a1), (2, .int a2)] [] (s, l, x, y) a) : pm_Ex 2 7006 ie_X7_readAll.1 pm_rU lf a 41 (pe_X7_readAll_41 f) := by
  intro lv st z hd h
  obtain ⟨g0, h⟩ := pj_xr_inv h
  obtain ⟨a1, g1, h⟩ := pj_xi_inv h
  obtain ⟨a2, g2, h⟩ := pj_xi_inv h
  obtain ⟨e9, h⟩ := pj_pe_inv h
  rw [e9]
  exact mj_wp_sub (mj_sub_cons g0 (mj_sub_cons g1 (mj_sub_cons g2 (mj_sub_nil hd)))) (hf _ _ _ _ _ _ h)
theorem pu_X7_readAll_42 {lf : pj_Z → mj_M} {a : Unit × pj_Z} (f : Int32 → Int32 → Int32 → pj_F (Unit × pj_Z)) (hf : ∀ (a1 : Int32) (a2 : Int32) (b0 : Int32) (s : Nat → Int32) (l : Nat → Int64) (x : Nat → Int32) (y : Nat → Int64), f a1 a2 b0 s l x y = some a → pm_Gd 2 7006 ie_X7_readAll.1 pm_rU lf 42 [(0, .ref 20), (1, .int a1), (2, .int a2)] [.int b0] (s, l, x, y) a) : pm_Ex 2 7006 ie_X7_readAll.1 pm_rU lf a 42 (pe_X7_readAll_42 f) := by
  intro lv st z hd h
  obtain ⟨g0, h⟩ := pj_xr_inv h
  obtain ⟨a1, g1, h⟩ := pj_xi_inv h
  obtain ⟨a2, g2, h⟩ := pj_xi_inv h
  obtain ⟨b0, r0, e0, h⟩ := pj_pi_inv h
  obtain ⟨e9, h⟩ := pj_pe_inv h
  rw [e0, e9]
  exact mj_wp_sub (mj_sub_cons g0 (mj_sub_cons g1 (mj_sub_cons g2 (mj_sub_nil hd)))) (hf _ _ _ _ _ _ _ h)
theorem pu_X7_readAll_77 {lf : pj_Z → mj_M} {a : Unit × pj_Z} (f : Int32 → Int32 → pj_F (Unit × pj_Z)) (hf : ∀ (a1 : Int32) (a2 : Int32) (s : Nat → Int32) (l : Nat → Int64) (x : Nat → Int32) (y : Nat → Int64), f a1 a2 s l x y = some a → pm_Gd 2 7006 ie_X7_readAll.1 pm_rU lf 77 [(0, .ref 20), (1, .int a1), (2, .int a2)] [] (s, l, x, y) a) : pm_Ex 2 7006 ie_X7_readAll.1 pm_rU lf a 77 (pe_X7_readAll_77 f) := by
  intro lv st z hd h
  obtain ⟨g0, h⟩ := pj_xr_inv h
  obtain ⟨a1, g1, h⟩ := pj_xi_inv h
  obtain ⟨a2, g2, h⟩ := pj_xi_inv h
  obtain ⟨e9, h⟩ := pj_pe_inv h
  rw [e9]
  exact mj_wp_sub (mj_sub_cons g0 (mj_sub_cons g1 (mj_sub_cons g2 (mj_sub_nil hd)))) (hf _ _ _ _ _ _ h)
theorem pu_X7_readAll_82 {lf : pj_Z → mj_M} {a : Unit × pj_Z} (f : Int32 → Int32 → Int32 → pj_F (Unit × pj_Z)) (hf : ∀ (a1 : Int32) (a2 : Int32) (b0 : Int32) (s : Nat → Int32) (l : Nat → Int64) (x : Nat → Int32) (y : Nat → Int64), f a1 a2 b0 s l x y = some a → pm_Gd 2 7006 ie_X7_readAll.1 pm_rU lf 82 [(0, .ref 20), (1, .int a1), (2, .int a2)] [.int b0] (s, l, x, y) a) : pm_Ex 2 7006 ie_X7_readAll.1 pm_rU lf a 82 (pe_X7_readAll_82 f) := by
  intro lv st z hd h
  obtain ⟨g0, h⟩ := pj_xr_inv h
  obtain ⟨a1, g1, h⟩ := pj_xi_inv h
  obtain ⟨a2, g2, h⟩ := pj_xi_inv h
  obtain ⟨b0, r0, e0, h⟩ := pj_pi_inv h
  obtain ⟨e9, h⟩ := pj_pe_inv h
  rw [e0, e9]
  exact mj_wp_sub (mj_sub_cons g0 (mj_sub_cons g1 (mj_sub_cons g2 (mj_sub_nil hd)))) (hf _ _ _ _ _ _ _ h)
theorem pu_X7_readAll_96 {lf : pj_Z → mj_M} {a : Unit × pj_Z} (f : Int32 → Int32 → Int32 → pj_F (Unit × pj_Z)) (hf : ∀ (a1 : Int32) (a2 : Int32) (a4 : Int32) (s : Nat → Int32) (l : Nat → Int64) (x : Nat → Int32) (y : Nat → Int64), f a1 a2 a4 s l x y = some a → pm_Gd 2 7006 ie_X7_readAll.1 pm_rU lf 96 [(0, .ref 20), (1, .int a1), (2, .int a2), (4, .int a4)] [] (s, l, x, y) a) : pm_Ex 2 7006 ie_X7_readAll.1 pm_rU lf a 96 (pe_X7_readAll_96 f) := by
  intro lv st z hd h
  obtain ⟨g0, h⟩ := pj_xr_inv h
  obtain ⟨a1, g1, h⟩ := pj_xi_inv h
  obtain ⟨a2, g2, h⟩ := pj_xi_inv h
  obtain ⟨a4, g4, h⟩ := pj_xi_inv h
  obtain ⟨e9, h⟩ := pj_pe_inv h
  rw [e9]
  exact mj_wp_sub (mj_sub_cons g0 (mj_sub_cons g1 (mj_sub_cons g2 (mj_sub_cons g4 (mj_sub_nil hd))))) (hf _ _ _ _ _ _ _ h)
theorem pu_X7_readAll_128 {lf : pj_Z → mj_M} {a : Unit × pj_Z} (f : Int32 → Int32 → Int32 → Int32 → Int64 → pj_F (Unit × pj_Z)) (hf : ∀ (a1 : Int32) (a2 : Int32) (a4 : Int32) (b1 : Int32) (b2 : Int64) (s : Nat → Int32) (l : Nat → Int64) (x : Nat → Int32) (y : Nat → Int64), f a1 a2 a4 b1 b2 s l x y = some a → pm_Gd 2 7006 ie_X7_readAll.1 pm_rU lf 128 [(0, .ref 20), (1, .int a1), (2, .int a2), (4, .int a4)] [.long b2, .int b1, .ref 56] (s, l, x, y) a) : pm_Ex 2 7006 ie_X7_readAll.1 pm_rU lf a 128 (pe_X7_readAll_128 f) := by
  intro lv st z hd h
  obtain ⟨g0, h⟩ := pj_xr_inv h
  obtain ⟨a1, g1, h⟩ := pj_xi_inv h
  obtain ⟨a2, g2, h⟩ := pj_xi_inv h
  obtain ⟨a4, g4, h⟩ := pj_xi_inv h
  obtain ⟨b2, r2, e2, h⟩ := pj_pl_inv h
  obtain ⟨b1, r1, e1, h⟩ := pj_pi_inv h
  obtain ⟨r0, e0, h⟩ := pj_pr_inv h
  obtain ⟨e9, h⟩ := pj_pe_inv h
  rw [e2, e1, e0, e9]
  exact mj_wp_sub (mj_sub_cons g0 (mj_sub_cons g1 (mj_sub_cons g2 (mj_sub_cons g4 (mj_sub_nil hd))))) (hf _ _ _ _ _ _ _ _ _ h)
theorem pu_X7_readAll_135 {lf : pj_Z → mj_M} {a : Unit × pj_Z} (f : Int32 → Int32 → Int32 → pj_F (Unit × pj_Z)) (hf : ∀ (a1 : Int32) (a2 : Int32) (a4 : Int32) (s : Nat → Int32) (l : Nat → Int64) (x : Nat → Int32) (y : Nat → Int64), f a1 a2 a4 s l x y = some a → pm_Gd 2 7006 ie_X7_readAll.1 pm_rU lf 135 [(0, .ref 20), (1, .int a1), (2, .int a2), (4, .int a4)] [] (s, l, x, y) a) : pm_Ex 2 7006 ie_X7_readAll.1 pm_rU lf a 135 (pe_X7_readAll_135 f) := by
  intro lv st z hd h
  obtain ⟨g0, h⟩ := pj_xr_inv h
  obtain ⟨a1, g1, h⟩ := pj_xi_inv h
  obtain ⟨a2, g2, h⟩ := pj_xi_inv h
  obtain ⟨a4, g4, h⟩ := pj_xi_inv h
  obtain ⟨e9, h⟩ := pj_pe_inv h
  rw [e9]
  exact mj_wp_sub (mj_sub_cons g0 (mj_sub_cons g1 (mj_sub_cons g2 (mj_sub_cons g4 (mj_sub_nil hd))))) (hf _ _ _ _ _ _ _ h)
theorem pu_X7_readAll_172 {lf : pj_Z → mj_M} {a : Unit × pj_Z} (f : Int32 → Int32 → Int32 → pj_F (Unit × pj_Z)) (hf : ∀ (a1 : Int32) (a2 : Int32) (a4 : Int32) (s : Nat → Int32) (l : Nat → Int64) (x : Nat → Int32) (y : Nat → Int64), f a1 a2 a4 s l x y = some a → pm_Gd 2 7006 ie_X7_readAll.1 pm_rU lf 172 [(0, .ref 20), (1, .int a1), (2, .int a2), (4, .int a4)] [] (s, l, x, y) a) : pm_Ex 2 7006 ie_X7_readAll.1 pm_rU lf a 172 (pe_X7_readAll_172 f) := by
  intro lv st z hd h
  obtain ⟨g0, h⟩ := pj_xr_inv h
  obtain ⟨a1, g1, h⟩ := pj_xi_inv h
  obtain ⟨a2, g2, h⟩ := pj_xi_inv h
  obtain ⟨a4, g4, h⟩ := pj_xi_inv h
  obtain ⟨e9, h⟩ := pj_pe_inv h
  rw [e9]
  exact mj_wp_sub (mj_sub_cons g0 (mj_sub_cons g1 (mj_sub_cons g2 (mj_sub_cons g4 (mj_sub_nil hd))))) (hf _ _ _ _ _ _ _ h)
theorem pu_X7_readAll_217 {lf : pj_Z → mj_M} {a : Unit × pj_Z} (f : Int32 → Int32 → pj_F (Unit × pj_Z)) (hf : ∀ (a1 : Int32) (a2 : Int32) (s : Nat → Int32) (l : Nat → Int64) (x : Nat → Int32) (y : Nat → Int64), f a1 a2 s l x y = some a → pm_Gd 2 7006 ie_X7_readAll.1 pm_rU lf 217 [(0, .ref 20), (1, .int a1), (2, .int a2)] [] (s, l, x, y) a) : pm_Ex 2 7006 ie_X7_readAll.1 pm_rU lf a 217 (pe_X7_readAll_217 f) := by
  intro lv st z hd h
  obtain ⟨g0, h⟩ := pj_xr_inv h
  obtain ⟨a1, g1, h⟩ := pj_xi_inv h
  obtain ⟨a2, g2, h⟩ := pj_xi_inv h
  obtain ⟨e9, h⟩ := pj_pe_inv h
  rw [e9]
  exact mj_wp_sub (mj_sub_cons g0 (mj_sub_cons g1 (mj_sub_cons g2 (mj_sub_nil hd)))) (hf _ _ _ _ _ _ h)
set_option maxRecDepth 100000 in
theorem pz_X7_readAll {lf : pj_Z → mj_M} (hT : pj_Lt pj_TC lf) : pj_Cok ic_P (mj_R ic_P 2) 7006 ie_X7_readAll.1 (pm_OK lf pm_rU) lf px_X7_readAll := by
  exact pm_cok (c := px_X7_readAll) (pm_part hT (pj_as_all (p := fun b e => pj_TC b = some e) (List.forall_mem_cons.mpr ⟨rfl, (List.forall_mem_cons.mpr ⟨rfl, (List.forall_mem_cons.mpr ⟨rfl, (List.forall_mem_cons.mpr ⟨rfl, (List.forall_mem_cons.mpr ⟨rfl, (List.forall_mem_cons.mpr ⟨rfl, (List.forall_mem_cons.mpr ⟨rfl, (List.forall_mem_cons.mpr ⟨rfl, (List.forall_mem_cons.mpr ⟨rfl, (fun _ h => by cases h)⟩)⟩)⟩)⟩)⟩)⟩)⟩)⟩)⟩))) (pm_in_ok (L := [(23, 7, 3, 2, true), (26, 7, 4, 2, true), (29, 7, 5, 2, true), (32, 7, 6, 2, true), (35, 7, 7, 2, true), (38, 7, 8, 2, true), (41, 7, 9, 2, true), (44, 7, 10, 2, true)]) (f := mj_pF ic_P 7006) (by decide +kernel)) (fun _ _ h => by cases h) (fun _ _ h => by cases h) (pm_in_ok (L := [(64, 6)]) (f := mj_pS ic_P 7006) (by decide +kernel)) rfl rfl ⟨by decide, rfl⟩ pm_mU (pj_as_all (p := pm_Cl 2 7006 ie_X7_readAll.1 lf (pm_OK lf pm_rU)) (List.forall_mem_cons.mpr ⟨fun _ _ lv st z K a hK h => pc_J9_abs_0f7a4 (pm_none hT) (by decide) (ix := 79) rfl rfl hK h, (List.forall_mem_cons.mpr ⟨fun _ _ lv st z K a hK h => pc_X11_clip hT (by decide) (ix := 83) rfl rfl hK h, (List.forall_mem_cons.mpr ⟨fun _ _ lv st z K a hK h => pc_X7_lineValue hT (by decide) (ix := 87) rfl rfl hK h, (fun _ h => by cases h)⟩)⟩)⟩)) (fun _ h => by cases h)
set_option maxRecDepth 100000 in
theorem pb_X7_readAll : pm_bks ie_X7_readAll.1.2.2.2.2 pk_X7_readAll = true := by decide +kernel
set_option maxRecDepth 100000 in
theorem pg_X7_readAll_217 {fu : Nat} {lf : pj_Z → mj_M} (hT : pj_Lt pj_TC lf) {k2 : Int32 → Int32 → pj_F (Unit × pj_Z)} (hk2 : ∀ (a1 : Int32) (a2 : Int32) (s : Nat → Int32) (l : Nat → Int64) (x : Nat → Int32) (y : Nat → Int64) (a : Unit × pj_Z), k2 a1 a2 s l x y = some a → pm_Gd 2 7006 ie_X7_readAll.1 pm_rU lf 2 [(0, .ref 20), (1, .int a1), (2, .int a2)] [] (s, l, x, y) a) : ∀ (a1 : Int32) (a2 : Int32) (s : Nat → Int32) (l : Nat → Int64) (x : Nat → Int32) (y : Nat → Int64) (a : Unit × pj_Z), pl_X7_readAll_217 fu k2 a1 a2 s l x y = some a → pm_Gd 2 7006 ie_X7_readAll.1 pm_rU lf 217 [(0, .ref 20), (1, .int a1), (2, .int a2)] [] (s, l, x, y) a := by
  intro a1 a2 s l x y a h
  exact pm_run ((pq_X7_readAll_217 fu k2 a1 a2 s l x y).symm.trans h) (pz_X7_readAll hT) (pm_bks_ok pb_X7_readAll) (pm_bks_ok pb_X7_readAll _ _ rfl) (pm_ndb_ok rfl) (pj_as_all (p := pm_Ex 2 7006 ie_X7_readAll.1 pm_rU lf a) (List.forall_mem_cons.mpr ⟨pu_X7_readAll_2 _ (fun c0 c1 s l x y h => hk2 c0 c1 s l x y _ h), (fun _ h => by cases h)⟩))
set_option maxRecDepth 100000 in
theorem pg_X7_readAll_172 {fu : Nat} {lf : pj_Z → mj_M} (hT : pj_Lt pj_TC lf) {k2 : Int32 → Int32 → pj_F (Unit × pj_Z)} (hk2 : ∀ (a1 : Int32) (a2 : Int32) (s : Nat → Int32) (l : Nat → Int64) (x : Nat → Int32) (y : Nat → Int64) (a : Unit × pj_Z), k2 a1 a2 s l x y = some a → pm_Gd 2 7006 ie_X7_readAll.1 pm_rU lf 2 [(0, .ref 20), (1, .int a1), (2, .int a2)] [] (s, l, x, y) a) : ∀ (a1 : Int32) (a2 : Int32) (a4 : Int32) (s : Nat → Int32) (l : Nat → Int64) (x : Nat → Int32) (y : Nat → Int64) (a : Unit × pj_Z), pl_X7_readAll_172 fu k2 a1 a2 a4 s l x y = some a → pm_Gd 2 7006 ie_X7_readAll.1 pm_rU lf 172 [(0, .ref 20), (1, .int a1), (2, .int a2), (4, .int a4)] [] (s, l, x, y) a := by
  intro a1 a2 a4 s l x y a h
  exact pm_run ((pq_X7_readAll_172 fu k2 a1 a2 a4 s l x y).symm.trans h) (pz_X7_readAll hT) (pm_bks_ok pb_X7_readAll) (pm_bks_ok pb_X7_readAll _ _ rfl) (pm_ndb_ok rfl) (pj_as_all (p := pm_Ex 2 7006 ie_X7_readAll.1 pm_rU lf a) (List.forall_mem_cons.mpr ⟨pu_X7_readAll_2 _ (fun c0 c1 s l x y h => hk2 c0 c1 s l x y _ h), (List.forall_mem_cons.mpr ⟨pu_X7_readAll_217 _ (fun c0 c1 s l x y h => pg_X7_readAll_217 hT hk2 c0 c1 s l x y _ h), (fun _ h => by cases h)⟩)⟩))
set_option maxRecDepth 100000 in
theorem pg_X7_readAll_135 {fu : Nat} {lf : pj_Z → mj_M} (hT : pj_Lt pj_TC lf) {k2 : Int32 → Int32 → pj_F (Unit × pj_Z)} (hk2 : ∀ (a1 : Int32) (a2 : Int32) (s : Nat → Int32) (l : Nat → Int64) (x : Nat → Int32) (y : Nat → Int64) (a : Unit × pj_Z), k2 a1 a2 s l x y = some a → pm_Gd 2 7006 ie_X7_readAll.1 pm_rU lf 2 [(0, .ref 20), (1, .int a1), (2, .int a2)] [] (s, l, x, y) a) : ∀ (a1 : Int32) (a2 : Int32) (a4 : Int32) (s : Nat → Int32) (l : Nat → Int64) (x : Nat → Int32) (y : Nat → Int64) (a : Unit × pj_Z), pl_X7_readAll_135 fu k2 a1 a2 a4 s l x y = some a → pm_Gd 2 7006 ie_X7_readAll.1 pm_rU lf 135 [(0, .ref 20), (1, .int a1), (2, .int a2), (4, .int a4)] [] (s, l, x, y) a := by
  intro a1 a2 a4 s l x y a h
  exact pm_run ((pq_X7_readAll_135 fu k2 a1 a2 a4 s l x y).symm.trans h) (pz_X7_readAll hT) (pm_bks_ok pb_X7_readAll) (pm_bks_ok pb_X7_readAll _ _ rfl) (pm_ndb_ok rfl) (pj_as_all (p := pm_Ex 2 7006 ie_X7_readAll.1 pm_rU lf a) (List.forall_mem_cons.mpr ⟨pu_X7_readAll_2 _ (fun c0 c1 s l x y h => hk2 c0 c1 s l x y _ h), (List.forall_mem_cons.mpr ⟨pu_X7_readAll_172 _ (fun c0 c1 c2 s l x y h => pg_X7_readAll_172 hT hk2 c0 c1 c2 s l x y _ h), (fun _ h => by cases h)⟩)⟩))
set_option maxRecDepth 100000 in
theorem pg_X7_readAll_128 {fu : Nat} {lf : pj_Z → mj_M} (hT : pj_Lt pj_TC lf) {k2 : Int32 → Int32 → pj_F (Unit × pj_Z)} (hk2 : ∀ (a1 : Int32) (a2 : Int32) (s : Nat → Int32) (l : Nat → Int64) (x : Nat → Int32) (y : Nat → Int64) (a : Unit × pj_Z), k2 a1 a2 s l x y = some a → pm_Gd 2 7006 ie_X7_readAll.1 pm_rU lf 2 [(0, .ref 20), (1, .int a1), (2, .int a2)] [] (s, l, x, y) a) : ∀ (a1 : Int32) (a2 : Int32) (a4 : Int32) (b1 : Int32) (b2 : Int64) (s : Nat → Int32) (l : Nat → Int64) (x : Nat → Int32) (y : Nat → Int64) (a : Unit × pj_Z), pl_X7_readAll_128 fu k2 a1 a2 a4 b1 b2 s l x y = some a → pm_Gd 2 7006 ie_X7_readAll.1 pm_rU lf 128 [(0, .ref 20), (1, .int a1), (2, .int a2), (4, .int a4)] [.long b2, .int b1, .ref 56] (s, l, x, y) a := by
  intro a1 a2 a4 b1 b2 s l x y a h
  exact pm_run ((pq_X7_readAll_128 fu k2 a1 a2 a4 b1 b2 s l x y).symm.trans h) (pz_X7_readAll hT) (pm_bks_ok pb_X7_readAll) (pm_bks_ok pb_X7_readAll _ _ rfl) (pm_ndb_ok rfl) (pj_as_all (p := pm_Ex 2 7006 ie_X7_readAll.1 pm_rU lf a) (List.forall_mem_cons.mpr ⟨pu_X7_readAll_2 _ (fun c0 c1 s l x y h => hk2 c0 c1 s l x y _ h), (List.forall_mem_cons.mpr ⟨pu_X7_readAll_135 _ (fun c0 c1 c2 s l x y h => pg_X7_readAll_135 hT hk2 c0 c1 c2 s l x y _ h), (fun _ h => by cases h)⟩)⟩))
set_option maxRecDepth 100000 in
theorem pg_X7_readAll_96 {fu : Nat} {lf : pj_Z → mj_M} (hT : pj_Lt pj_TC lf) {k2 : Int32 → Int32 → pj_F (Unit × pj_Z)} (hk2 : ∀ (a1 : Int32) (a2 : Int32) (s : Nat → Int32) (l : Nat → Int64) (x : Nat → Int32) (y : Nat → Int64) (a : Unit × pj_Z), k2 a1 a2 s l x y = some a → pm_Gd 2 7006 ie_X7_readAll.1 pm_rU lf 2 [(0, .ref 20), (1, .int a1), (2, .int a2)] [] (s, l, x, y) a) : ∀ (a1 : Int32) (a2 : Int32) (a4 : Int32) (s : Nat → Int32) (l : Nat → Int64) (x : Nat → Int32) (y : Nat → Int64) (a : Unit × pj_Z), pl_X7_readAll_96 fu k2 a1 a2 a4 s l x y = some a → pm_Gd 2 7006 ie_X7_readAll.1 pm_rU lf 96 [(0, .ref 20), (1, .int a1), (2, .int a2), (4, .int a4)] [] (s, l, x, y) a := by
  intro a1 a2 a4 s l x y a h
  exact pm_run ((pq_X7_readAll_96 fu k2 a1 a2 a4 s l x y).symm.trans h) (pz_X7_readAll hT) (pm_bks_ok pb_X7_readAll) (pm_bks_ok pb_X7_readAll _ _ rfl) (pm_ndb_ok rfl) (pj_as_all (p := pm_Ex 2 7006 ie_X7_readAll.1 pm_rU lf a) (List.forall_mem_cons.mpr ⟨pu_X7_readAll_2 _ (fun c0 c1 s l x y h => hk2 c0 c1 s l x y _ h), (List.forall_mem_cons.mpr ⟨pu_X7_readAll_128 _ (fun c0 c1 c2 c3 c4 s l x y h => pg_X7_readAll_128 hT hk2 c0 c1 c2 c3 c4 s l x y _ h), (fun _ h => by cases h)⟩)⟩))
set_option maxRecDepth 100000 in
theorem pg_X7_readAll_82 {fu : Nat} {lf : pj_Z → mj_M} (hT : pj_Lt pj_TC lf) {k2 : Int32 → Int32 → pj_F (Unit × pj_Z)} (hk2 : ∀ (a1 : Int32) (a2 : Int32) (s : Nat → Int32) (l : Nat → Int64) (x : Nat → Int32) (y : Nat → Int64) (a : Unit × pj_Z), k2 a1 a2 s l x y = some a → pm_Gd 2 7006 ie_X7_readAll.1 pm_rU lf 2 [(0, .ref 20), (1, .int a1), (2, .int a2)] [] (s, l, x, y) a) : ∀ (a1 : Int32) (a2 : Int32) (b0 : Int32) (s : Nat → Int32) (l : Nat → Int64) (x : Nat → Int32) (y : Nat → Int64) (a : Unit × pj_Z), pl_X7_readAll_82 fu k2 a1 a2 b0 s l x y = some a → pm_Gd 2 7006 ie_X7_readAll.1 pm_rU lf 82 [(0, .ref 20), (1, .int a1), (2, .int a2)] [.int b0] (s, l, x, y) a := by
  intro a1 a2 b0 s l x y a h
  exact pm_run ((pq_X7_readAll_82 fu k2 a1 a2 b0 s l x y).symm.trans h) (pz_X7_readAll hT) (pm_bks_ok pb_X7_readAll) (pm_bks_ok pb_X7_readAll _ _ rfl) (pm_ndb_ok rfl) (pj_as_all (p := pm_Ex 2 7006 ie_X7_readAll.1 pm_rU lf a) (List.forall_mem_cons.mpr ⟨pu_X7_readAll_2 _ (fun c0 c1 s l x y h => hk2 c0 c1 s l x y _ h), (List.forall_mem_cons.mpr ⟨pu_X7_readAll_96 _ (fun c0 c1 c2 s l x y h => pg_X7_readAll_96 hT hk2 c0 c1 c2 s l x y _ h), (fun _ h => by cases h)⟩)⟩))
set_option maxRecDepth 100000 in
theorem pg_X7_readAll_77 {fu : Nat} {lf : pj_Z → mj_M} (hT : pj_Lt pj_TC lf) {k2 : Int32 → Int32 → pj_F (Unit × pj_Z)} (hk2 : ∀ (a1 : Int32) (a2 : Int32) (s : Nat → Int32) (l : Nat → Int64) (x : Nat → Int32) (y : Nat → Int64) (a : Unit × pj_Z), k2 a1 a2 s l x y = some a → pm_Gd 2 7006 ie_X7_readAll.1 pm_rU lf 2 [(0, .ref 20), (1, .int a1), (2, .int a2)] [] (s, l, x, y) a) : ∀ (a1 : Int32) (a2 : Int32) (s : Nat → Int32) (l : Nat → Int64) (x : Nat → Int32) (y : Nat → Int64) (a : Unit × pj_Z), pl_X7_readAll_77 fu k2 a1 a2 s l x y = some a → pm_Gd 2 7006 ie_X7_readAll.1 pm_rU lf 77 [(0, .ref 20), (1, .int a1), (2, .int a2)] [] (s, l, x, y) a := by
  intro a1 a2 s l x y a h
  exact pm_run ((pq_X7_readAll_77 fu k2 a1 a2 s l x y).symm.trans h) (pz_X7_readAll hT) (pm_bks_ok pb_X7_readAll) (pm_bks_ok pb_X7_readAll _ _ rfl) (pm_ndb_ok rfl) (pj_as_all (p := pm_Ex 2 7006 ie_X7_readAll.1 pm_rU lf a) (List.forall_mem_cons.mpr ⟨pu_X7_readAll_2 _ (fun c0 c1 s l x y h => hk2 c0 c1 s l x y _ h), (List.forall_mem_cons.mpr ⟨pu_X7_readAll_82 _ (fun c0 c1 c2 s l x y h => pg_X7_readAll_82 hT hk2 c0 c1 c2 s l x y _ h), (fun _ h => by cases h)⟩)⟩))
set_option maxRecDepth 100000 in
theorem pg_X7_readAll_42 {fu : Nat} {lf : pj_Z → mj_M} (hT : pj_Lt pj_TC lf) {k2 : Int32 → Int32 → pj_F (Unit × pj_Z)} (hk2 : ∀ (a1 : Int32) (a2 : Int32) (s : Nat → Int32) (l : Nat → Int64) (x : Nat → Int32) (y : Nat → Int64) (a : Unit × pj_Z), k2 a1 a2 s l x y = some a → pm_Gd 2 7006 ie_X7_readAll.1 pm_rU lf 2 [(0, .ref 20), (1, .int a1), (2, .int a2)] [] (s, l, x, y) a) : ∀ (a1 : Int32) (a2 : Int32) (b0 : Int32) (s : Nat → Int32) (l : Nat → Int64) (x : Nat → Int32) (y : Nat → Int64) (a : Unit × pj_Z), pl_X7_readAll_42 fu k2 a1 a2 b0 s l x y = some a → pm_Gd 2 7006 ie_X7_readAll.1 pm_rU lf 42 [(0, .ref 20), (1, .int a1), (2, .int a2)] [.int b0] (s, l, x, y) a := by
  intro a1 a2 b0 s l x y a h
  exact pm_run ((pq_X7_readAll_42 fu k2 a1 a2 b0 s l x y).symm.trans h) (pz_X7_readAll hT) (pm_bks_ok pb_X7_readAll) (pm_bks_ok pb_X7_readAll _ _ rfl) (pm_ndb_ok rfl) (pj_as_all (p := pm_Ex 2 7006 ie_X7_readAll.1 pm_rU lf a) (List.forall_mem_cons.mpr ⟨pu_X7_readAll_2 _ (fun c0 c1 s l x y h => hk2 c0 c1 s l x y _ h), (List.forall_mem_cons.mpr ⟨pu_X7_readAll_77 _ (fun c0 c1 s l x y h => pg_X7_readAll_77 hT hk2 c0 c1 s l x y _ h), (List.forall_mem_cons.mpr ⟨pu_X7_readAll_82 _ (fun c0 c1 c2 s l x y h => pg_X7_readAll_82 hT hk2 c0 c1 c2 s l x y _ h), (fun _ h => by cases h)⟩)⟩)⟩))
set_option maxRecDepth 100000 in
theorem pg_X7_readAll_41 {fu : Nat} {lf : pj_Z → mj_M} (hT : pj_Lt pj_TC lf) {k2 : Int32 → Int32 → pj_F (Unit × pj_Z)} (hk2 : ∀ (a1 : Int32) (a2 : Int32) (s : Nat → Int32) (l : Nat → Int64) (x : Nat → Int32) (y : Nat → Int64) (a : Unit × pj_Z), k2 a1 a2 s l x y = some a → pm_Gd 2 7006 ie_X7_readAll.1 pm_rU lf 2 [(0, .ref 20), (1, .int a1), (2, .int a2)] [] (s, l, x, y) a) : ∀ (a1 : Int32) (a2 : Int32) (s : Nat → Int32) (l : Nat → Int64) (x : Nat → Int32) (y : Nat → Int64) (a : Unit × pj_Z), pl_X7_readAll_41 fu k2 a1 a2 s l x y = some a → pm_Gd 2 7006 ie_X7_readAll.1 pm_rU lf 41 [(0, .ref 20), (1, .int a1), (2, .int a2)] [] (s, l, x, y) a := by
  intro a1 a2 s l x y a h
  exact pm_run ((pq_X7_readAll_41 fu k2 a1 a2 s l x y).symm.trans h) (pz_X7_readAll hT) (pm_bks_ok pb_X7_readAll) (pm_bks_ok pb_X7_readAll _ _ rfl) (pm_ndb_ok rfl) (pj_as_all (p := pm_Ex 2 7006 ie_X7_readAll.1 pm_rU lf a) (List.forall_mem_cons.mpr ⟨pu_X7_readAll_2 _ (fun c0 c1 s l x y h => hk2 c0 c1 s l x y _ h), (List.forall_mem_cons.mpr ⟨pu_X7_readAll_42 _ (fun c0 c1 c2 s l x y h => pg_X7_readAll_42 hT hk2 c0 c1 c2 s l x y _ h), (fun _ h => by cases h)⟩)⟩))
set_option maxRecDepth 100000 in
theorem pg_X7_readAll_2 {fu : Nat} {lf : pj_Z → mj_M} (hT : pj_Lt pj_TC lf) : ∀ (n : Nat), ∀ (a1 : Int32) (a2 : Int32) (s : Nat → Int32) (l : Nat → Int64) (x : Nat → Int32) (y : Nat → Int64) (a : Unit × pj_Z), pl_X7_readAll_2 fu n a1 a2 s l x y = some a → pm_Gd 2 7006 ie_X7_readAll.1 pm_rU lf 2 [(0, .ref 20), (1, .int a1), (2, .int a2)] [] (s, l, x, y) a := by
  intro n
  induction n with
  | zero => intro a1 a2 s l x y a h; cases (show (none : Option (Unit × pj_Z)) = some a from h)
  | succ n ih =>
    intro a1 a2 s l x y a h
    exact pm_run ((pq_X7_readAll_2 fu n a1 a2 s l x y).symm.trans h) (pz_X7_readAll hT) (pm_bks_ok pb_X7_readAll) (pm_bks_ok pb_X7_readAll _ _ rfl) (pm_ndb_ok rfl) (pj_as_all (p := pm_Ex 2 7006 ie_X7_readAll.1 pm_rU lf a) (List.forall_mem_cons.mpr ⟨pu_X7_readAll_2 _ (fun c0 c1 s l x y h => ih c0 c1 s l x y _ h), (List.forall_mem_cons.mpr ⟨pu_X7_readAll_41 _ (fun c0 c1 s l x y h => pg_X7_readAll_41 hT (fun a1 a2 s l x y a h => ih a1 a2 s l x y a h) c0 c1 s l x y _ h), (List.forall_mem_cons.mpr ⟨pu_X7_readAll_42 _ (fun c0 c1 c2 s l x y h => pg_X7_readAll_42 hT (fun a1 a2 s l x y a h => ih a1 a2 s l x y a h) c0 c1 c2 s l x y _ h), (fun _ h => by cases h)⟩)⟩)⟩))
set_option maxRecDepth 100000 in
theorem pm_X7_readAll {lf : pj_Z → mj_M} (hT : pj_Lt pj_TC lf) (a1 : Int32) (s : Nat → Int32) (l : Nat → Int64) (x : Nat → Int32) (y : Nat → Int64) (a : Unit × pj_Z) (h : pf_X7_readAll a1 s l x y = some a) : mj_R ic_P 3 7006 [.ref 20, .int a1] (lf (s, l, x, y)) (pm_rU a.1) (lf a.2) := by
  refine pm_main (Y := ie_X7_readAll.1) rfl (Nat.le_of_ble_eq_true rfl) ?_
  exact pm_run ((pq_X7_readAll_m 1000 a1 s l x y).symm.trans h) (pz_X7_readAll hT) (pm_bks_ok pb_X7_readAll) (pm_bks_ok pb_X7_readAll _ _ rfl) (pm_ndb_ok rfl) (pj_as_all (p := pm_Ex 2 7006 ie_X7_readAll.1 pm_rU lf a) (List.forall_mem_cons.mpr ⟨pu_X7_readAll_2 _ (fun c0 c1 s l x y h => pg_X7_readAll_2 hT _ c0 c1 s l x y _ h), (fun _ h => by cases h)⟩))
abbrev ph_X7_readAll {A : Type} : List pj_V → pj_Z → (List pj_V → pj_Z → Option A) → Option A := fun st z K => pj_pi st fun a1 st => pj_pr st 20 0 fun st => pj_ps st (pj_b (pf_X7_readAll a1 z.1 z.2.1 z.2.2.1 z.2.2.2) fun r s l x y => K st (s, l, x, y))
set_option maxRecDepth 100000 in
theorem pc_X7_readAll {A : Type} {OK : A → Option Value → mj_M → Prop} {d j pc ix : Nat} {Y : mj_Y} {lf : pj_Z → mj_M} (hT : pj_Lt pj_TC lf) (hd : 3 ≤ d) (hl : mj_lk Y.2.2.2.2 pc = some (.invokevirtual ix, 3)) (hg : mj_pG ic_P j ix = some (7006, 1, some 7)) {lv : List (Nat × Value)} {st : List pj_V} {z : pj_Z} {K : List pj_V → pj_Z → Option A} {a : A} (hK : ∀ st z, K st z = some a → pj_Gd ic_P (mj_R ic_P d) j Y OK lf (pc + 3) lv (pj_es st) z a) (h : ph_X7_readAll st z K = some a) : pj_Gd ic_P (mj_R ic_P d) j Y OK lf pc lv (pj_es st) z a := by
  obtain ⟨a1, r1, e1, h⟩ := pj_pi_inv h
  obtain ⟨r0, e0, h⟩ := pj_pr_inv h
  obtain ⟨hs, h⟩ := pj_ps_inv h
  obtain ⟨q, hq, h⟩ := pj_b_inv h
  exact pm_cv (o := 20) hl hg [.int a1] rfl (by rw [e1, e0]; rfl) hs (by decide) ((hT.2 20 _ rfl).1.2 z 0 (by decide)) (pm_rU q.1) hd (pm_X7_readAll hT a1 z.1 z.2.1 z.2.2.1 z.2.2.2 q hq) rfl (hK _ _ h)
abbrev pe_X2_measure_26 (f : pj_F (Unit × pj_Z)) : pj_K (Unit × pj_Z) := fun lv st z => pj_pr st 58 0 fun st => pj_pe st (f  z.1 z.2.1 z.2.2.1 z.2.2.2)
abbrev pe_X2_measure_27 (f : Int32 → pj_F (Unit × pj_Z)) : pj_K (Unit × pj_Z) := fun lv st z => pj_pi st fun b1 st => pj_pr st 58 0 fun st => pj_pe st (f b1 z.1 z.2.1 z.2.2.1 z.2.2.2)
abbrev px_X2_measure : pj_C (Unit × pj_Z) := ((pj_as [(58, 2, 19, 1, 0, true, 0, [(0, 19), (0, 20), (1, 4), (1, 5), (1, 6), (1, 7), (0, 21), (0, 22), (0, 23), (0, 24), (0, 25), (2, 59), (2, 63), (0, 26), (1, 8), (1, 9), (1, 10), (0, 27), (0, 28)])]), (pj_as [(22, 2, 0, 0, false), (30, 2, 2, 0, false), (33, 2, 3, 0, false)]), (pj_as [(90, 1000000)]), (fun _ => none), (fun _ => none), ic_X, 1, 0, pj_mU, (fun _ => none), fun _ => false)
abbrev pk_X2_measure : List (Nat × List (Nat × Instr × Nat)) := [(0, [(0, .aload_n 0, 1), (1, .aload_n 0, 1), (2, .getfield 22, 3), (5, .iconst 2, 1), (6, .if_icmp .lt 20, 3)]), (9, [(9, .aload_n 0, 1), (10, .getfield 30, 3), (13, .ifCond .le 13, 3)]), (16, [(16, .ldc 90, 2), (18, .aload_n 0, 1), (19, .getfield 30, 3), (22, .idiv, 1), (23, .goto 4, 3)]), (26, [(26, .iconst 0, 1)]), (27, [(27, .putfield 33, 3), (30, .return_, 1)])]
set_option maxRecDepth 100000 in
theorem pq_X2_measure_27  (b1 : Int32) (s : Nat → Int32) (l : Nat → Int64) (x : Nat → Int32) (y : Nat → Int64) : pl_X2_measure_27 b1 s l x y = pj_bl px_X2_measure (pj_rn px_X2_measure (pj_as pk_X2_measure) (fun _ => none) 60) [(27, .putfield 33, 3), (30, .return_, 1)] 27 [] [pj_I b1, pj_O (58, 0)] (s, l, x, y) := rfl
set_option maxRecDepth 100000 in
theorem pq_X2_measure_26   (s : Nat → Int32) (l : Nat → Int64) (x : Nat → Int32) (y : Nat → Int64) : pl_X2_measure_26 s l x y = pj_bl px_X2_measure (pj_rn px_X2_measure (pj_as pk_X2_measure) (pj_as [(27, pe_X2_measure_27 (pl_X2_measure_27))]) 60) [(26, .iconst 0, 1)] 26 [] [pj_O (58, 0)] (s, l, x, y) := rfl
set_option maxRecDepth 100000 in
theorem pq_X2_measure_m   (s : Nat → Int32) (l : Nat → Int64) (x : Nat → Int32) (y : Nat → Int64) : pf_X2_measure  s l x y = pj_bl px_X2_measure (pj_rn px_X2_measure (pj_as pk_X2_measure) (pj_as [(26, pe_X2_measure_26 (pl_X2_measure_26)), (27, pe_X2_measure_27 (pl_X2_measure_27))]) 60) [(0, .aload_n 0, 1), (1, .aload_n 0, 1), (2, .getfield 22, 3), (5, .iconst 2, 1), (6, .if_icmp .lt 20, 3)] 0 [(0, pj_O (58, 0))] [] (s, l, x, y) := rfl
theorem pu_X2_measure_26 {lf : pj_Z → mj_M} {a : Unit × pj_Z} (f : pj_F (Unit × pj_Z)) (hf : ∀  (s : Nat → Int32) (l : Nat → Int64) (x : Nat → Int32) (y : Nat → Int64), f  s l x y = some a → pm_Gd 0 2004 ie_X2_measure.1 pm_rU lf 26 [] [.ref 58] (s, l, x, y) a) : pm_Ex 0 2004 ie_X2_measure.1 pm_rU lf a 26 (pe_X2_measure_26 f) := by
  intro lv st z hd h
  obtain ⟨r0, e0, h⟩ := pj_pr_inv h
  obtain ⟨e9, h⟩ := pj_pe_inv h
  rw [e0, e9]
  exact mj_wp_sub (mj_sub_nil hd) (hf  _ _ _ _ h)
theorem pu_X2_measure_27 {lf : pj_Z → mj_M} {a : Unit × pj_Z} (f : Int32 → pj_F (Unit × pj_Z)) (hf : ∀ (b1 : Int32) (s : Nat → Int32) (l : Nat → Int64) (x : Nat → Int32) (y : Nat → Int64), f b1 s l x y = some a → pm_Gd 0 2004 ie_X2_measure.1 pm_rU lf 27 [] [.int b1, .ref 58] (s, l, x, y) a) : pm_Ex 0 2004 ie_X2_measure.1 pm_rU lf a 27 (pe_X2_measure_27 f) := by
  intro lv st z hd h
  obtain ⟨b1, r1, e1, h⟩ := pj_pi_inv h
  obtain ⟨r0, e0, h⟩ := pj_pr_inv h
  obtain ⟨e9, h⟩ := pj_pe_inv h
  rw [e1, e0, e9]
  exact mj_wp_sub (mj_sub_nil hd) (hf _ _ _ _ _ h)
set_option maxRecDepth 100000 in
theorem pz_X2_measure {lf : pj_Z → mj_M} (hT : pj_Lt pj_TC lf) : pj_Cok ic_P (mj_R ic_P 0) 2004 ie_X2_measure.1 (pm_OK lf pm_rU) lf px_X2_measure := by
  exact pm_cok (c := px_X2_measure) (pm_part hT (pj_as_all (p := fun b e => pj_TC b = some e) (List.forall_mem_cons.mpr ⟨rfl, (fun _ h => by cases h)⟩))) (pm_in_ok (L := [(22, 2, 0, 0, false), (30, 2, 2, 0, false), (33, 2, 3, 0, false)]) (f := mj_pF ic_P 2004) (by decide +kernel)) (pm_inI_ok (L := [(90, 1000000)]) (f := mj_pK ic_P 2004) (by decide +kernel)) (fun _ _ h => by cases h) (fun _ _ h => by cases h) rfl rfl ⟨by decide, rfl⟩ pm_mU (fun _ _ h => by cases h) (fun _ h => by cases h)
set_option maxRecDepth 100000 in
theorem pb_X2_measure : pm_bks ie_X2_measure.1.2.2.2.2 pk_X2_measure = true := by decide +kernel
set_option maxRecDepth 100000 in
theorem pg_X2_measure_27 {lf : pj_Z → mj_M} (hT : pj_Lt pj_TC lf) : ∀ (b1 : Int32) (s : Nat → Int32) (l : Nat → Int64) (x : Nat → Int32) (y : Nat → Int64) (a : Unit × pj_Z), pl_X2_measure_27 b1 s l x y = some a → pm_Gd 0 2004 ie_X2_measure.1 pm_rU lf 27 [] [.int b1, .ref 58] (s, l, x, y) a := by
  intro b1 s l x y a h
  exact pm_run ((pq_X2_measure_27  b1 s l x y).symm.trans h) (pz_X2_measure hT) (pm_bks_ok pb_X2_measure) (pm_bks_ok pb_X2_measure _ _ rfl) (pm_ndb_ok rfl) (fun _ _ h => by cases h)
set_option maxRecDepth 100000 in
theorem pg_X2_measure_26 {lf : pj_Z → mj_M} (hT : pj_Lt pj_TC lf) : ∀  (s : Nat → Int32) (l : Nat → Int64) (x : Nat → Int32) (y : Nat → Int64) (a : Unit × pj_Z), pl_X2_measure_26 s l x y = some a → pm_Gd 0 2004 ie_X2_measure.1 pm_rU lf 26 [] [.ref 58] (s, l, x, y) a := by
  intro  s l x y a h
  exact pm_run ((pq_X2_measure_26   s l x y).symm.trans h) (pz_X2_measure hT) (pm_bks_ok pb_X2_measure) (pm_bks_ok pb_X2_measure _ _ rfl) (pm_ndb_ok rfl) (pj_as_all (p := pm_Ex 0 2004 ie_X2_measure.1 pm_rU lf a) (List.forall_mem_cons.mpr ⟨pu_X2_measure_27 _ (fun c0 s l x y h => pg_X2_measure_27 hT c0 s l x y _ h), (fun _ h => by cases h)⟩))
set_option maxRecDepth 100000 in
theorem pm_X2_measure {lf : pj_Z → mj_M} (hT : pj_Lt pj_TC lf)  (s : Nat → Int32) (l : Nat → Int64) (x : Nat → Int32) (y : Nat → Int64) (a : Unit × pj_Z) (h : pf_X2_measure  s l x y = some a) : mj_R ic_P 1 2004 [.ref 58] (lf (s, l, x, y)) (pm_rU a.1) (lf a.2) := by
  refine pm_main (Y := ie_X2_measure.1) rfl (Nat.le_of_ble_eq_true rfl) ?_
  exact pm_run ((pq_X2_measure_m  s l x y).symm.trans h) (pz_X2_measure hT) (pm_bks_ok pb_X2_measure) (pm_bks_ok pb_X2_measure _ _ rfl) (pm_ndb_ok rfl) (pj_as_all (p := pm_Ex 0 2004 ie_X2_measure.1 pm_rU lf a) (List.forall_mem_cons.mpr ⟨pu_X2_measure_26 _ (fun  s l x y h => pg_X2_measure_26 hT  s l x y _ h), (List.forall_mem_cons.mpr ⟨pu_X2_measure_27 _ (fun c0 s l x y h => pg_X2_measure_27 hT c0 s l x y _ h), (fun _ h => by cases h)⟩)⟩))
abbrev ph_X2_measure {A : Type} : List pj_V → pj_Z → (List pj_V → pj_Z → Option A) → Option A := fun st z K => pj_pr st 58 0 fun st => pj_ps st (pj_b (pf_X2_measure  z.1 z.2.1 z.2.2.1 z.2.2.2) fun r s l x y => K st (s, l, x, y))
set_option maxRecDepth 100000 in
theorem pc_X2_measure {A : Type} {OK : A → Option Value → mj_M → Prop} {d j pc ix : Nat} {Y : mj_Y} {lf : pj_Z → mj_M} (hT : pj_Lt pj_TC lf) (hd : 1 ≤ d) (hl : mj_lk Y.2.2.2.2 pc = some (.invokevirtual ix, 3)) (hg : mj_pG ic_P j ix = some (2004, 0, some 2)) {lv : List (Nat × Value)} {st : List pj_V} {z : pj_Z} {K : List pj_V → pj_Z → Option A} {a : A} (hK : ∀ st z, K st z = some a → pj_Gd ic_P (mj_R ic_P d) j Y OK lf (pc + 3) lv (pj_es st) z a) (h : ph_X2_measure st z K = some a) : pj_Gd ic_P (mj_R ic_P d) j Y OK lf pc lv (pj_es st) z a := by
  obtain ⟨r0, e0, h⟩ := pj_pr_inv h
  obtain ⟨hs, h⟩ := pj_ps_inv h
  obtain ⟨q, hq, h⟩ := pj_b_inv h
  exact pm_cv (o := 58) hl hg [] rfl (by rw [e0]; rfl) hs (by decide) ((hT.2 58 _ rfl).1.2 z 0 (by decide)) (pm_rU q.1) hd (pm_X2_measure hT  z.1 z.2.1 z.2.2.1 z.2.2.2 q hq) rfl (hK _ _ h)

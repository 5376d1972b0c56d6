/-! METHODS 16, printed by gen_meth.py -/
abbrev pe_X12_forget_97 (f : Int32 → pj_F (Unit × pj_Z)) : pj_K (Unit × pj_Z) := fun lv st z => pj_xr lv 0 124 0 <| pj_xi lv 1 fun a1 => pj_pe st (f a1 z.1 z.2.1 z.2.2.1 z.2.2.2)
abbrev pe_X12_forget_160 (f : Int32 → pj_F (Unit × pj_Z)) : pj_K (Unit × pj_Z) := fun lv st z => pj_xr lv 0 124 0 <| pj_xi lv 1 fun a1 => pj_pe st (f a1 z.1 z.2.1 z.2.2.1 z.2.2.2)
abbrev px_X12_forget : pj_C (Unit × pj_Z) := (pj_TR, (pj_as [(85, 12, 52, 2, true), (88, 12, 53, 2, true), (91, 12, 54, 2, true), (94, 12, 55, 2, true), (97, 12, 56, 2, true), (109, 12, 60, 2, true), (112, 12, 61, 2, true), (130, 12, 71, 2, true), (133, 12, 72, 2, true), (136, 12, 73, 2, true), (139, 12, 74, 2, true), (262, 12, 34, 0, false), (265, 12, 35, 0, false), (268, 12, 36, 0, false), (271, 12, 37, 1, false), (275, 12, 38, 1, false), (278, 12, 39, 0, false), (281, 12, 40, 0, false), (284, 12, 41, 0, false), (287, 12, 42, 0, false), (290, 12, 43, 3, false), (293, 12, 44, 0, false), (296, 12, 45, 3, false), (299, 12, 46, 3, false), (302, 12, 49, 3, false), (305, 12, 51, 0, false), (308, 12, 67, 0, false), (311, 12, 68, 0, false), (314, 12, 69, 0, false), (317, 12, 70, 0, false), (330, 12, 122, 0, false), (333, 12, 124, 0, false), (336, 12, 126, 0, false), (339, 12, 127, 3, false), (342, 12, 128, 3, false), (345, 12, 129, 0, false), (348, 12, 130, 3, false), (351, 12, 132, 0, false)]), (fun _ => none), (fun _ => none), (fun _ => none), ic_X, 2, 0, pj_mU, (pj_as [(180, ph_X12_substitute), (205, ph_X12_forgetLoop), (209, ph_X12_forgetTrouble), (253, ph_X12_forgetRoad)]), fun _ => false)
abbrev pk_X12_forget : List (Nat × List (Nat × Instr × Nat)) := [(0, [(0, .aload_n 0, 1), (1, .iconst 0, 1), (2, .putfield 262, 3), (5, .aload_n 0, 1), (6, .iconst 0, 1), (7, .putfield 265, 3), (10, .aload_n 0, 1), (11, .iconst 0, 1), (12, .putfield 268, 3), (15, .aload_n 0, 1), (16, .lconst 0, 1), (17, .putfield 271, 3), (20, .aload_n 0, 1), (21, .lconst 0, 1), (22, .putfield 275, 3), (25, .aload_n 0, 1), (26, .iconst 0, 1), (27, .putfield 278, 3), (30, .aload_n 0, 1), (31, .iconst 0, 1), (32, .putfield 281, 3), (35, .aload_n 0, 1), (36, .iconst 0, 1), (37, .putfield 284, 3), (40, .aload_n 0, 1), (41, .iconst 0, 1), (42, .putfield 287, 3), (45, .aload_n 0, 1), (46, .iconst 0, 1), (47, .putfield 290, 3), (50, .aload_n 0, 1), (51, .iconst 0, 1), (52, .putfield 293, 3), (55, .aload_n 0, 1), (56, .iconst 0, 1), (57, .putfield 296, 3), (60, .aload_n 0, 1), (61, .iconst 0, 1), (62, .putfield 299, 3), (65, .aload_n 0, 1), (66, .iconst 0, 1), (67, .putfield 302, 3), (70, .aload_n 0, 1), (71, .iconst 0, 1), (72, .putfield 305, 3), (75, .aload_n 0, 1), (76, .iconst 0, 1), (77, .putfield 308, 3), (80, .aload_n 0, 1), (81, .iconst 0, 1), (82, .putfield 311, 3), (85, .aload_n 0, 1), (86, .iconst 0, 1), (87, .putfield 314, 3), (90, .aload_n 0, 1), (91, .iconst 0, 1), (92, .putfield 317, 3), (95, .iconst 0, 1), (96, .istore_n 1, 1)]), (97, [(97, .iload_n 1, 1), (98, .bipush 8, 2), (100, .if_icmp .ge 58, 3)]), (103, [(103, .aload_n 0, 1), (104, .getfield 85, 3), (107, .iload_n 1, 1), (108, .iconst 0, 1), (109, .iastore, 1), (110, .aload_n 0, 1), (111, .getfield 88, 3), (114, .iload_n 1, 1), (115, .iconst 0, 1), (116, .iastore, 1), (117, .aload_n 0, 1), (118, .getfield 91, 3), (121, .iload_n 1, 1), (122, .iconst 0, 1), (123, .iastore, 1), (124, .aload_n 0, 1), (125, .getfield 94, 3), (128, .iload_n 1, 1), (129, .iconst 0, 1), (130, .iastore, 1), (131, .aload_n 0, 1), (132, .getfield 97, 3), (135, .iload_n 1, 1), (136, .iconst 0, 1), (137, .iastore, 1), (138, .aload_n 0, 1), (139, .getfield 109, 3), (142, .iload_n 1, 1), (143, .iconst 0, 1), (144, .bastore, 1), (145, .aload_n 0, 1), (146, .getfield 112, 3), (149, .iload_n 1, 1), (150, .iconst 0, 1), (151, .bastore, 1), (152, .iinc 1 1, 3), (155, .goto (-58), 3)]), (158, [(158, .iconst 0, 1), (159, .istore_n 1, 1)]), (160, [(160, .iload_n 1, 1), (161, .bipush 10, 2), (163, .if_icmp .ge 41, 3)]), (166, [(166, .aload_n 0, 1), (167, .getfield 130, 3), (170, .iload_n 1, 1), (171, .iconst 0, 1), (172, .iastore, 1), (173, .aload_n 0, 1), (174, .getfield 133, 3), (177, .iload_n 1, 1), (178, .aload_n 0, 1), (179, .iload_n 1, 1), (180, .invokevirtual 320, 3), (183, .iastore, 1), (184, .aload_n 0, 1), (185, .getfield 136, 3), (188, .iload_n 1, 1), (189, .iconst 0, 1), (190, .iastore, 1), (191, .aload_n 0, 1), (192, .getfield 139, 3), (195, .iload_n 1, 1), (196, .iconst 0, 1), (197, .bastore, 1), (198, .iinc 1 1, 3), (201, .goto (-41), 3)]), (204, [(204, .aload_n 0, 1), (205, .invokevirtual 324, 3), (208, .aload_n 0, 1), (209, .invokevirtual 327, 3), (212, .aload_n 0, 1), (213, .iconst 0, 1), (214, .putfield 330, 3), (217, .aload_n 0, 1), (218, .iconst 0, 1), (219, .putfield 333, 3), (222, .aload_n 0, 1), (223, .iconst 0, 1), (224, .putfield 336, 3), (227, .aload_n 0, 1), (228, .iconst 0, 1), (229, .putfield 339, 3), (232, .aload_n 0, 1), (233, .iconst 0, 1), (234, .putfield 342, 3), (237, .aload_n 0, 1), (238, .iconst 0, 1), (239, .putfield 345, 3), (242, .aload_n 0, 1), (243, .iconst 0, 1), (244, .putfield 348, 3), (247, .aload_n 0, 1), (248, .iconst 0, 1), (249, .putfield 351, 3), (252, .aload_n 0, 1), (253, .invokevirtual 354, 3), (256, .return_, 1)])]
set_option maxRecDepth 100000 in
theorem pq_X12_forget_160 (n : Nat) (a1 : Int32) (s : Nat → Int32) (l : Nat → Int64) (x : Nat → Int32) (y : Nat → Int64) : pl_X12_forget_160 (n + 1) a1 s l x y = pj_bl px_X12_forget (pj_rn px_X12_forget (pj_as pk_X12_forget) (pj_as [(160, pe_X12_forget_160 (pl_X12_forget_160 n))]) 60) [(160, .iload_n 1, 1), (161, .bipush 10, 2), (163, .if_icmp .ge 41, 3)] 160 [(0, pj_O (124, 0)), (1, pj_I a1)] [] (s, l, x, y) := rfl
set_option maxRecDepth 100000 in
theorem pq_X12_forget_97 (n : Nat) (a1 : Int32) (s : Nat → Int32) (l : Nat → Int64) (x : Nat → Int32) (y : Nat → Int64) : pl_X12_forget_97 (n + 1) a1 s l x y = pj_bl px_X12_forget (pj_rn px_X12_forget (pj_as pk_X12_forget) (pj_as [(97, pe_X12_forget_97 (pl_X12_forget_97 n)), (160, pe_X12_forget_160 (pl_X12_forget_160 (pj_fu 0)))]) 60) [(97, .iload_n 1, 1), (98, .bipush 8, 2), (100, .if_icmp .ge 58, 3)] 97 [(0, pj_O (124, 0)), (1, pj_I a1)] [] (s, l, x, y) := rfl
set_option maxRecDepth 100000 in
theorem pq_X12_forget_m  (s : Nat → Int32) (l : Nat → Int64) (x : Nat → Int32) (y : Nat → Int64) : pf_X12_forget  s l x y = pj_bl px_X12_forget (pj_rn px_X12_forget (pj_as pk_X12_forget) (pj_as [(97, pe_X12_forget_97 (pl_X12_forget_97 (pj_fu 0)))]) 60) [(0, .aload_n 0, 1), (1, .iconst 0, 1), (2, .putfield 262, 3), (5, .aload_n 0, 1), (6, .iconst 0, 1), (7, .putfield 265, 3), (10, .aload_n 0, 1), (11, .iconst 0, 1), (12, .putfield 268, 3), (15, .aload_n 0, 1), (16, .lconst 0, 1), (17, .putfield 271, 3), (20, .aload_n 0, 1), (21, .lconst 0, 1), (22, .putfield 275, 3), (25, .aload_n 0, 1), (26, .iconst 0, 1), (27, .putfield 278, 3), (30, .aload_n 0, 1), (31, .iconst 0, 1), (32, .putfield 281, 3), (35, .aload_n 0, 1), (36, .iconst 0, 1), (37, .putfield 284, 3), (40, .aload_n 0, 1), (41, .iconst 0, 1), (42, .putfield 287, 3), (45, .aload_n 0, 1), (46, .iconst 0, 1), (47, .putfield 290, 3), (50, .aload_n 0, 1), (51, .iconst 0, 1), (52, .putfield 293, 3), (55, .aload_n 0, 1), (56, .iconst 0, 1), (57, .putfield 296, 3), (60, .aload_n 0, 1), (61, .iconst 0, 1), (62, .putfield 299, 3), (65, .aload_n 0, 1), (66, .iconst 0, 1), (67, .putfield 302, 3), (70, .aload_n 0, 1), (71, .iconst 0, 1), (72, .putfield 305, 3), (75, .aload_n 0, 1), (76, .iconst 0, 1), (77, .putfield 308, 3), (80, .aload_n 0, 1), (81, .iconst 0, 1), (82, .putfield 311, 3), (85, .aload_n 0, 1), (86, .iconst 0, 1), (87, .putfield 314, 3), (90, .aload_n 0, 1), (91, .iconst 0, 1), (92, .putfield 317, 3), (95, .iconst 0, 1), (96, .istore_n 1, 1)] 0 [(0, pj_O (124, 0))] [] (s, l, x, y) := rfl
theorem pu_X12_forget_97 {lf : pj_Z → mj_M} {a : Unit × pj_Z} (f : Int32 → pj_F (Unit × pj_Z)) (hf : ∀ (a1 : Int32) (s : Nat → Int32) (l : Nat → Int64) (x : Nat → Int32) (y : Nat → Int64), f a1 s l x y = some a → pm_Gd 1 12009 ie_X12_forget.1 pm_rU lf 97 [(0, .ref 124), (1, .int a1)] [] (s, l, x, y) a) : pm_Ex 1 12009 ie_X12_forget.1 pm_rU lf a 97 (pe_X12_forget_97 f) := by
  intro lv st z hd h
  obtain ⟨g0, h⟩ := pj_xr_inv h
  obtain ⟨a1, g1, h⟩ := pj_xi_inv h
  obtain ⟨e9, h⟩ := pj_pe_inv h
  rw [e9]
  exact mj_wp_sub (mj_sub_cons g0 (mj_sub_cons g1 (mj_sub_nil hd))) (hf _ _ _ _ _ h)
theorem pu_X12_forget_160 {lf : pj_Z → mj_M} {a : Unit × pj_Z} (f : Int32 → pj_F (Unit × pj_Z)) (hf : ∀ (a1 : Int32) (s : Nat → Int32) (l : Nat → Int64) (x : Nat → Int32) (y : Nat → Int64), f a1 s l x y = some a → pm_Gd 1 12009 ie_X12_forget.1 pm_rU lf 160 [(0, .ref 124), (1, .int a1)] [] (s, l, x, y) a) : pm_Ex 1 12009 ie_X12_forget.1 pm_rU lf a 160 (pe_X12_forget_160 f) := by
  intro lv st z hd h
  obtain ⟨g0, h⟩ := pj_xr_inv h
  obtain ⟨a1, g1, h⟩ := pj_xi_inv h
  obtain ⟨e9, h⟩ := pj_pe_inv h
  rw [e9]
  exact mj_wp_sub (mj_sub_cons g0 (mj_sub_cons g1 (mj_sub_nil hd))) (hf _ _ _ _ _ h)
set_option maxRecDepth 100000 in
theorem pz_X12_forget {lf : pj_Z → mj_M} (hT : pj_Lt pj_TR lf) : pj_Cok ic_P (mj_R ic_P 1) 12009 ie_X12_forget.1 (pm_OK lf pm_rU) lf px_X12_forget := by
  exact pm_cok (c := px_X12_forget) hT (pm_in_ok (L := [(85, 12, 52, 2, true), (88, 12, 53, 2, true), (91, 12, 54, 2, true), (94, 12, 55, 2, true), (97, 12, 56, 2, true), (109, 12, 60, 2, true), (112, 12, 61, 2, true), (130, 12, 71, 2, true), (133, 12, 72, 2, true), (136, 12, 73, 2, true), (139, 12, 74, 2, true), (262, 12, 34, 0, false), (265, 12, 35, 0, false), (268, 12, 36, 0, false), (271, 12, 37, 1, false), (275, 12, 38, 1, false), (278, 12, 39, 0, false), (281, 12, 40, 0, false), (284, 12, 41, 0, false), (287, 12, 42, 0, false), (290, 12, 43, 3, false), (293, 12, 44, 0, false), (296, 12, 45, 3, false), (299, 12, 46, 3, false), (302, 12, 49, 3, false), (305, 12, 51, 0, false), (308, 12, 67, 0, false), (311, 12, 68, 0, false), (314, 12, 69, 0, false), (317, 12, 70, 0, false), (330, 12, 122, 0, false), (333, 12, 124, 0, false), (336, 12, 126, 0, false), (339, 12, 127, 3, false), (342, 12, 128, 3, false), (345, 12, 129, 0, false), (348, 12, 130, 3, false), (351, 12, 132, 0, false)]) (f := mj_pF ic_P 12009) (by decide +kernel)) (fun _ _ h => by cases h) (fun _ _ h => by cases h) (fun _ _ h => by cases h) rfl rfl ⟨by decide, rfl⟩ pm_mU (pj_as_all (p := pm_Cl 1 12009 ie_X12_forget.1 lf (pm_OK lf pm_rU)) (List.forall_mem_cons.mpr ⟨fun _ _ lv st z K a hK h => pc_X12_substitute hT (by decide) (ix := 320) rfl rfl hK h, (List.forall_mem_cons.mpr ⟨fun _ _ lv st z K a hK h => pc_X12_forgetLoop hT (by decide) (ix := 324) rfl rfl hK h, (List.forall_mem_cons.mpr ⟨fun _ _ lv st z K a hK h => pc_X12_forgetTrouble hT (by decide) (ix := 327) rfl rfl hK h, (List.forall_mem_cons.mpr ⟨fun _ _ lv st z K a hK h => pc_X12_forgetRoad hT (by decide) (ix := 354) rfl rfl hK h, (fun _ h => by cases h)⟩)⟩)⟩)⟩)) (fun _ h => by cases h)
set_option maxRecDepth 100000 in
theorem pb_X12_forget : pm_bks ie_X12_forget.1.2.2.2.2 pk_X12_forget = true := by decide +kernel
set_option maxRecDepth 100000 in
theorem pg_X12_forget_160 {lf : pj_Z → mj_M} (hT : pj_Lt pj_TR lf) : ∀ (n : Nat), ∀ (a1 : Int32) (s : Nat → Int32) (l : Nat → Int64) (x : Nat → Int32) (y : Nat → Int64) (a : Unit × pj_Z), pl_X12_forget_160 n a1 s l x y = some a → pm_Gd 1 12009 ie_X12_forget.1 pm_rU lf 160 [(0, .ref 124), (1, .int a1)] [] (s, l, x, y) a := by
  intro n
  induction n with
  | zero => intro a1 s l x y a h; cases (show (none : Option (Unit × pj_Z)) = some a from h)
  | succ n ih =>
    intro a1 s l x y a h
    exact pj_bl_ok (pz_X12_forget hT) (fun t lv st z hd h => pj_rn_ok (pz_X12_forget hT) (pm_bks_ok pb_X12_forget) (pj_as_all (p := pm_Ex 1 12009 ie_X12_forget.1 pm_rU lf a) (List.forall_mem_cons.mpr ⟨pu_X12_forget_160 _ (fun c0 s l x y h => ih c0 s l x y _ h), (fun _ h => by cases h)⟩)) 60 t lv st z hd h) [(160, .iload_n 1, 1), (161, .bipush 10, 2), (163, .if_icmp .ge 41, 3)] 160 [(0, pj_O (124, 0)), (1, pj_I a1)] [] (s, l, x, y) (pm_bks_ok pb_X12_forget _ _ rfl) (pm_ndb_ok rfl) ((pq_X12_forget_160 n a1 s l x y).symm.trans h)
set_option maxRecDepth 100000 in
theorem pg_X12_forget_97 {lf : pj_Z → mj_M} (hT : pj_Lt pj_TR lf) : ∀ (n : Nat), ∀ (a1 : Int32) (s : Nat → Int32) (l : Nat → Int64) (x : Nat → Int32) (y : Nat → Int64) (a : Unit × pj_Z), pl_X12_forget_97 n a1 s l x y = some a → pm_Gd 1 12009 ie_X12_forget.1 pm_rU lf 97 [(0, .ref 124), (1, .int a1)] [] (s, l, x, y) a := by
  intro n
  induction n with
  | zero => intro a1 s l x y a h; cases (show (none : Option (Unit × pj_Z)) = some a from h)
  | succ n ih =>
    intro a1 s l x y a h
    exact pj_bl_ok (pz_X12_forget hT) (fun t lv st z hd h => pj_rn_ok (pz_X12_forget hT) (pm_bks_ok pb_X12_forget) (pj_as_all (p := pm_Ex 1 12009 ie_X12_forget.1 pm_rU lf a) (List.forall_mem_cons.mpr ⟨pu_X12_forget_97 _ (fun c0 s l x y h => ih c0 s l x y _ h), (List.forall_mem_cons.mpr ⟨pu_X12_forget_160 _ (fun c0 s l x y h => pg_X12_forget_160 hT (pj_fu 0) c0 s l x y _ h), (fun _ h => by cases h)⟩)⟩)) 60 t lv st z hd h) [(97, .iload_n 1, 1), (98, .bipush 8, 2), (100, .if_icmp .ge 58, 3)] 97 [(0, pj_O (124, 0)), (1, pj_I a1)] [] (s, l, x, y) (pm_bks_ok pb_X12_forget _ _ rfl) (pm_ndb_ok rfl) ((pq_X12_forget_97 n a1 s l x y).symm.trans h)
set_option maxRecDepth 100000 in
theorem pm_X12_forget {lf : pj_Z → mj_M} (hT : pj_Lt pj_TR lf)  (s : Nat → Int32) (l : Nat → Int64) (x : Nat → Int32) (y : Nat → Int64) (a : Unit × pj_Z) (h : pf_X12_forget  s l x y = some a) : mj_R ic_P 2 12009 [.ref 124] (lf (s, l, x, y)) (pm_rU a.1) (lf a.2) := by
  refine pm_main (Y := ie_X12_forget.1) rfl (Nat.le_of_ble_eq_true rfl) ?_
  exact pj_bl_ok (pz_X12_forget hT) (fun t lv st z hd h => pj_rn_ok (pz_X12_forget hT) (pm_bks_ok pb_X12_forget) (pj_as_all (p := pm_Ex 1 12009 ie_X12_forget.1 pm_rU lf a) (List.forall_mem_cons.mpr ⟨pu_X12_forget_97 _ (fun c0 s l x y h => pg_X12_forget_97 hT (pj_fu 0) c0 s l x y _ h), (fun _ h => by cases h)⟩)) 60 t lv st z hd h) [(0, .aload_n 0, 1), (1, .iconst 0, 1), (2, .putfield 262, 3), (5, .aload_n 0, 1), (6, .iconst 0, 1), (7, .putfield 265, 3), (10, .aload_n 0, 1), (11, .iconst 0, 1), (12, .putfield 268, 3), (15, .aload_n 0, 1), (16, .lconst 0, 1), (17, .putfield 271, 3), (20, .aload_n 0, 1), (21, .lconst 0, 1), (22, .putfield 275, 3), (25, .aload_n 0, 1), (26, .iconst 0, 1), (27, .putfield 278, 3), (30, .aload_n 0, 1), (31, .iconst 0, 1), (32, .putfield 281, 3), (35, .aload_n 0, 1), (36, .iconst 0, 1), (37, .putfield 284, 3), (40, .aload_n 0, 1), (41, .iconst 0, 1), (42, .putfield 287, 3), (45, .aload_n 0, 1), (46, .iconst 0, 1), (47, .putfield 290, 3), (50, .aload_n 0, 1), (51, .iconst 0, 1), (52, .putfield 293, 3), (55, .aload_n 0, 1), (56, .iconst 0, 1), (57, .putfield 296, 3), (60, .aload_n 0, 1), (61, .iconst 0, 1), (62, .putfield 299, 3), (65, .aload_n 0, 1), (66, .iconst 0, 1), (67, .putfield 302, 3), (70, .aload_n 0, 1), (71, .iconst 0, 1), (72, .putfield 305, 3), (75, .aload_n 0, 1), (76, .iconst 0, 1), (77, .putfield 308, 3), (80, .aload_n 0, 1), (81, .iconst 0, 1), (82, .putfield 311, 3), (85, .aload_n 0, 1), (86, .iconst 0, 1), (87, .putfield 314, 3), (90, .aload_n 0, 1), (91, .iconst 0, 1), (92, .putfield 317, 3), (95, .iconst 0, 1), (96, .istore_n 1, 1)] 0 [(0, pj_O (124, 0))] [] (s, l, x, y) (pm_bks_ok pb_X12_forget _ _ rfl) (pm_ndb_ok rfl) ((pq_X12_forget_m  s l x y).symm.trans h)
abbrev ph_X12_forget {A : Type} : List pj_V → pj_Z → (List pj_V → pj_Z → Option A) → Option A := fun st z K => pj_pr st 124 0 fun st => pj_ps st (pj_b (pf_X12_forget  z.1 z.2.1 z.2.2.1 z.2.2.2) fun r s l x y => K st (s, l, x, y))
set_option maxRecDepth 100000 in
theorem pc_X12_forget {A : Type} {OK : A → Option Value → mj_M → Prop} {d j pc ix : Nat} {Y : mj_Y} {lf : pj_Z → mj_M} (hT : pj_Lt pj_TR lf) (hd : 2 ≤ d) (hl : mj_lk Y.2.2.2.2 pc = some (.invokevirtual ix, 3)) (hg : mj_pG ic_P j ix = some (12009, 0, some 12)) {lv : List (Nat × Value)} {st : List pj_V} {z : pj_Z} {K : List pj_V → pj_Z → Option A} {a : A} (hK : ∀ st z, K st z = some a → pj_Gd ic_P (mj_R ic_P d) j Y OK lf (pc + 3) lv (pj_es st) z a) (h : ph_X12_forget st z K = some a) : pj_Gd ic_P (mj_R ic_P d) j Y OK lf pc lv (pj_es st) z a := by
  obtain ⟨r0, e0, h⟩ := pj_pr_inv h
  obtain ⟨hs, h⟩ := pj_ps_inv h
  obtain ⟨q, hq, h⟩ := pj_b_inv h
  exact pm_cv (o := 124) hl hg [] rfl (by rw [e0]; rfl) hs (by decide) ((hT.2 124 _ rfl).1.2 z 0 (by decide)) (pm_rU q.1) hd (pm_X12_forget hT  z.1 z.2.1 z.2.2.1 z.2.2.2 q hq) rfl (hK _ _ h)
abbrev px_X12_cutNow : pj_C (Unit × pj_Z) := (pj_TR, (pj_as [(40, 12, 11, 0, false), (519, 12, 23, 0, false)]), (fun _ => none), (fun _ => none), (fun _ => none), ic_X, 1, 0, pj_mU, (pj_as [(18, ph_X12_forget)]), fun _ => false)
abbrev pk_X12_cutNow : List (Nat × List (Nat × Instr × Nat)) := [(0, [(0, .aload_n 0, 1), (1, .iconst (-1), 1), (2, .putfield 40, 3), (5, .aload_n 0, 1), (6, .getfield 519, 3), (9, .ifCond .eq 12, 3)]), (12, [(12, .aload_n 0, 1), (13, .iconst 0, 1), (14, .putfield 519, 3), (17, .aload_n 0, 1), (18, .invokevirtual 256, 3)]), (21, [(21, .return_, 1)])]
set_option maxRecDepth 100000 in
theorem pq_X12_cutNow_m  (s : Nat → Int32) (l : Nat → Int64) (x : Nat → Int32) (y : Nat → Int64) : pf_X12_cutNow  s l x y = pj_bl px_X12_cutNow (pj_rn px_X12_cutNow (pj_as pk_X12_cutNow) (fun _ => none) 60) [(0, .aload_n 0, 1), (1, .iconst (-1), 1), (2, .putfield 40, 3), (5, .aload_n 0, 1), (6, .getfield 519, 3), (9, .ifCond .eq 12, 3)] 0 [(0, pj_O (124, 0))] [] (s, l, x, y) := rfl
set_option maxRecDepth 100000 in
theorem pz_X12_cutNow {lf : pj_Z → mj_M} (hT : pj_Lt pj_TR lf) : pj_Cok ic_P (mj_R ic_P 2) 12013 ie_X12_cutNow.1 (pm_OK lf pm_rU) lf px_X12_cutNow := by
  exact pm_cok (c := px_X12_cutNow) hT (pm_in_ok (L := [(40, 12, 11, 0, false), (519, 12, 23, 0, false)]) (f := mj_pF ic_P 12013) (by decide +kernel)) (fun _ _ h => by cases h) (fun _ _ h => by cases h) (fun _ _ h => by cases h) rfl rfl ⟨by decide, rfl⟩ pm_mU (pj_as_all (p := pm_Cl 2 12013 ie_X12_cutNow.1 lf (pm_OK lf pm_rU)) (List.forall_mem_cons.mpr ⟨fun _ _ lv st z K a hK h => pc_X12_forget hT (by decide) (ix := 256) rfl rfl hK h, (fun _ h => by cases h)⟩)) (fun _ h => by cases h)
set_option maxRecDepth 100000 in
theorem pb_X12_cutNow : pm_bks ie_X12_cutNow.1.2.2.2.2 pk_X12_cutNow = true := by decide +kernel
set_option maxRecDepth 100000 in
theorem pm_X12_cutNow {lf : pj_Z → mj_M} (hT : pj_Lt pj_TR lf)  (s : Nat → Int32) (l : Nat → Int64) (x : Nat → Int32) (y : Nat → Int64) (a : Unit × pj_Z) (h : pf_X12_cutNow  s l x y = some a) : mj_R ic_P 3 12013 [.ref 124] (lf (s, l, x, y)) (pm_rU a.1) (lf a.2) := by
  refine pm_main (Y := ie_X12_cutNow.1) rfl (Nat.le_of_ble_eq_true rfl) ?_
  exact pj_bl_ok (pz_X12_cutNow hT) (fun t lv st z hd h => pj_rn_ok (pz_X12_cutNow hT) (pm_bks_ok pb_X12_cutNow) (fun _ _ h => by cases h) 60 t lv st z hd h) [(0, .aload_n 0, 1), (1, .iconst (-1), 1), (2, .putfield 40, 3), (5, .aload_n 0, 1), (6, .getfield 519, 3), (9, .ifCond .eq 12, 3)] 0 [(0, pj_O (124, 0))] [] (s, l, x, y) (pm_bks_ok pb_X12_cutNow _ _ rfl) (pm_ndb_ok rfl) ((pq_X12_cutNow_m  s l x y).symm.trans h)
abbrev ph_X12_cutNow {A : Type} : List pj_V → pj_Z → (List pj_V → pj_Z → Option A) → Option A := fun st z K => pj_pr st 124 0 fun st => pj_ps st (pj_b (pf_X12_cutNow  z.1 z.2.1 z.2.2.1 z.2.2.2) fun r s l x y => K st (s, l, x, y))
set_option maxRecDepth 100000 in
theorem pc_X12_cutNow {A : Type} {OK : A → Option Value → mj_M → Prop} {d j pc ix : Nat} {Y : mj_Y} {lf : pj_Z → mj_M} (hT : pj_Lt pj_TR lf) (hd : 3 ≤ d) (hl : mj_lk Y.2.2.2.2 pc = some (.invokevirtual ix, 3)) (hg : mj_pG ic_P j ix = some (12013, 0, some 12)) {lv : List (Nat × Value)} {st : List pj_V} {z : pj_Z} {K : List pj_V → pj_Z → Option A} {a : A} (hK : ∀ st z, K st z = some a → pj_Gd ic_P (mj_R ic_P d) j Y OK lf (pc + 3) lv (pj_es st) z a) (h : ph_X12_cutNow st z K = some a) : pj_Gd ic_P (mj_R ic_P d) j Y OK lf pc lv (pj_es st) z a := by
  obtain ⟨r0, e0, h⟩ := pj_pr_inv h
  obtain ⟨hs, h⟩ := pj_ps_inv h
  obtain ⟨q, hq, h⟩ := pj_b_inv h
  exact pm_cv (o := 124) hl hg [] rfl (by rw [e0]; rfl) hs (by decide) ((hT.2 124 _ rfl).1.2 z 0 (by decide)) (pm_rU q.1) hd (pm_X12_cutNow hT  z.1 z.2.1 z.2.2.1 z.2.2.2 q hq) rfl (hK _ _ h)
abbrev px_X12_log : pj_C (Unit × pj_Z) := (pj_TR, (pj_as [(59, 12, 18, 2, true), (63, 12, 19, 2, true), (66, 12, 20, 2, true), (594, 12, 22, 1, false), (609, 12, 21, 1, false)]), (fun _ => none), (pj_as [(612, 200)]), (fun _ => none), ic_X, 4, 0, pj_mU, (fun _ => none), fun _ => false)
abbrev pk_X12_log : List (Nat × List (Nat × Instr × Nat)) := [(0, [(0, .aload_n 0, 1), (1, .getfield 609, 3), (4, .ldc2_w 612, 3), (7, .lrem, 1), (8, .l2i, 1), (9, .istore_n 3, 1), (10, .aload_n 0, 1), (11, .getfield 59, 3), (14, .iload_n 3, 1), (15, .aload_n 0, 1), (16, .getfield 594, 3), (19, .lastore, 1), (20, .aload_n 0, 1), (21, .getfield 63, 3), (24, .iload_n 3, 1), (25, .iload_n 1, 1), (26, .iastore, 1), (27, .aload_n 0, 1), (28, .getfield 66, 3), (31, .iload_n 3, 1), (32, .iload_n 2, 1), (33, .iastore, 1), (34, .aload_n 0, 1), (35, .dup, 1), (36, .getfield 609, 3), (39, .lconst 1, 1), (40, .ladd, 1), (41, .putfield 609, 3), (44, .return_, 1)])]
set_option maxRecDepth 100000 in
theorem pq_X12_log_m (a1 : Int32) (a2 : Int32) (s : Nat → Int32) (l : Nat → Int64) (x : Nat → Int32) (y : Nat → Int64) : pf_X12_log a1 a2 s l x y = pj_bl px_X12_log (pj_rn px_X12_log (pj_as pk_X12_log) (fun _ => none) 60) [(0, .aload_n 0, 1), (1, .getfield 609, 3), (4, .ldc2_w 612, 3), (7, .lrem, 1), (8, .l2i, 1), (9, .istore_n 3, 1), (10, .aload_n 0, 1), (11, .getfield 59, 3), (14, .iload_n 3, 1), (15, .aload_n 0, 1), (16, .getfield 594, 3), (19, .lastore, 1), (20, .aload_n 0, 1), (21, .getfield 63, 3), (24, .iload_n 3, 1), (25, .iload_n 1, 1), (26, .iastore, 1), (27, .aload_n 0, 1), (28, .getfield 66, 3), (31, .iload_n 3, 1), (32, .iload_n 2, 1), (33, .iastore, 1), (34, .aload_n 0, 1), (35, .dup, 1), (36, .getfield 609, 3), (39, .lconst 1, 1), (40, .ladd, 1), (41, .putfield 609, 3), (44, .return_, 1)] 0 [(0, pj_O (124, 0)), (1, pj_I a1), (2, pj_I a2)] [] (s, l, x, y) := rfl
set_option maxRecDepth 100000 in
theorem pz_X12_log {lf : pj_Z → mj_M} (hT : pj_Lt pj_TR lf) : pj_Cok ic_P (mj_R ic_P 0) 12032 ie_X12_log.1 (pm_OK lf pm_rU) lf px_X12_log := by
  exact pm_cok (c := px_X12_log) hT (pm_in_ok (L := [(59, 12, 18, 2, true), (63, 12, 19, 2, true), (66, 12, 20, 2, true), (594, 12, 22, 1, false), (609, 12, 21, 1, false)]) (f := mj_pF ic_P 12032) (by decide +kernel)) (fun _ _ h => by cases h) (pm_inL_ok (L := [(612, 200)]) (f := mj_pL ic_P 12032) (by decide +kernel)) (fun _ _ h => by cases h) rfl rfl ⟨by decide, rfl⟩ pm_mU (fun _ _ h => by cases h) (fun _ h => by cases h)
set_option maxRecDepth 100000 in
theorem pb_X12_log : pm_bks ie_X12_log.1.2.2.2.2 pk_X12_log = true := by decide +kernel
set_option maxRecDepth 100000 in
theorem pm_X12_log {lf : pj_Z → mj_M} (hT : pj_Lt pj_TR lf) (a1 : Int32) (a2 : Int32) (s : Nat → Int32) (l : Nat → Int64) (x : Nat → Int32) (y : Nat → Int64) (a : Unit × pj_Z) (h : pf_X12_log a1 a2 s l x y = some a) : mj_R ic_P 1 12032 [.ref 124, .int a1, .int a2] (lf (s, l, x, y)) (pm_rU a.1) (lf a.2) := by
  refine pm_main (Y := ie_X12_log.1) rfl (Nat.le_of_ble_eq_true rfl) ?_
  exact pj_bl_ok (pz_X12_log hT) (fun t lv st z hd h => pj_rn_ok (pz_X12_log hT) (pm_bks_ok pb_X12_log) (fun _ _ h => by cases h) 60 t lv st z hd h) [(0, .aload_n 0, 1), (1, .getfield 609, 3), (4, .ldc2_w 612, 3), (7, .lrem, 1), (8, .l2i, 1), (9, .istore_n 3, 1), (10, .aload_n 0, 1), (11, .getfield 59, 3), (14, .iload_n 3, 1), (15, .aload_n 0, 1), (16, .getfield 594, 3), (19, .lastore, 1), (20, .aload_n 0, 1), (21, .getfield 63, 3), (24, .iload_n 3, 1), (25, .iload_n 1, 1), (26, .iastore, 1), (27, .aload_n 0, 1), (28, .getfield 66, 3), (31, .iload_n 3, 1), (32, .iload_n 2, 1), (33, .iastore, 1), (34, .aload_n 0, 1), (35, .dup, 1), (36, .getfield 609, 3), (39, .lconst 1, 1), (40, .ladd, 1), (41, .putfield 609, 3), (44, .return_, 1)] 0 [(0, pj_O (124, 0)), (1, pj_I a1), (2, pj_I a2)] [] (s, l, x, y) (pm_bks_ok pb_X12_log _ _ rfl) (pm_ndb_ok rfl) ((pq_X12_log_m a1 a2 s l x y).symm.trans h)
abbrev ph_X12_log {A : Type} : List pj_V → pj_Z → (List pj_V → pj_Z → Option A) → Option A := fun st z K => pj_pi st fun a2 st => pj_pi st fun a1 st => pj_pr st 124 0 fun st => pj_ps st (pj_b (pf_X12_log a1 a2 z.1 z.2.1 z.2.2.1 z.2.2.2) fun r s l x y => K st (s, l, x, y))
set_option maxRecDepth 100000 in
theorem pc_X12_log {A : Type} {OK : A → Option Value → mj_M → Prop} {d j pc ix : Nat} {Y : mj_Y} {lf : pj_Z → mj_M} (hT : pj_Lt pj_TR lf) (hd : 1 ≤ d) (hl : mj_lk Y.2.2.2.2 pc = some (.invokevirtual ix, 3)) (hg : mj_pG ic_P j ix = some (12032, 2, some 12)) {lv : List (Nat × Value)} {st : List pj_V} {z : pj_Z} {K : List pj_V → pj_Z → Option A} {a : A} (hK : ∀ st z, K st z = some a → pj_Gd ic_P (mj_R ic_P d) j Y OK lf (pc + 3) lv (pj_es st) z a) (h : ph_X12_log st z K = some a) : pj_Gd ic_P (mj_R ic_P d) j Y OK lf pc lv (pj_es st) z a := by
  obtain ⟨a2, r2, e2, h⟩ := pj_pi_inv h
  obtain ⟨a1, r1, e1, h⟩ := pj_pi_inv h
  obtain ⟨r0, e0, h⟩ := pj_pr_inv h
  obtain ⟨hs, h⟩ := pj_ps_inv h
  obtain ⟨q, hq, h⟩ := pj_b_inv h
  exact pm_cv (o := 124) hl hg [.int a1, .int a2] rfl (by rw [e2, e1, e0]; rfl) hs (by decide) ((hT.2 124 _ rfl).1.2 z 0 (by decide)) (pm_rU q.1) hd (pm_X12_log hT a1 a2 z.1 z.2.1 z.2.2.1 z.2.2.2 q hq) rfl (hK _ _ h)
abbrev pe_X12_allOff_17 (f : Int32 → pj_F (Unit × pj_Z)) : pj_K (Unit × pj_Z) := fun lv st z => pj_xr lv 0 124 0 <| pj_xi lv 1 fun a1 => pj_pe st (f a1 z.1 z.2.1 z.2.2.1 z.2.2.2)
abbrev pe_X12_allOff_52 (f : Int32 → pj_F (Unit × pj_Z)) : pj_K (Unit × pj_Z) := fun lv st z => pj_xr lv 0 124 0 <| pj_xi lv 1 fun a1 => pj_pe st (f a1 z.1 z.2.1 z.2.2.1 z.2.2.2)
abbrev pe_X12_allOff_60 (f : Int32 → pj_F (Unit × pj_Z)) : pj_K (Unit × pj_Z) := fun lv st z => pj_xr lv 0 124 0 <| pj_xi lv 1 fun a1 => pj_pe st (f a1 z.1 z.2.1 z.2.2.1 z.2.2.2)
abbrev pe_X12_allOff_88 (f : Int32 → pj_F (Unit × pj_Z)) : pj_K (Unit × pj_Z) := fun lv st z => pj_xr lv 0 124 0 <| pj_xi lv 1 fun a1 => pj_pe st (f a1 z.1 z.2.1 z.2.2.1 z.2.2.2)
abbrev px_X12_allOff : pj_C (Unit × pj_Z) := (pj_TR, (pj_as [(97, 12, 56, 2, true), (109, 12, 60, 2, true), (112, 12, 61, 2, true), (299, 12, 46, 3, false), (302, 12, 49, 3, false), (308, 12, 67, 0, false)]), (fun _ => none), (fun _ => none), (fun _ => none), ic_X, 2, 0, pj_mU, (pj_as [(49, ph_X12_log), (85, ph_X12_log)]), fun _ => false)
abbrev pk_X12_allOff : List (Nat × List (Nat × Instr × Nat)) := [(0, [(0, .aload_n 0, 1), (1, .iconst 0, 1), (2, .putfield 308, 3), (5, .aload_n 0, 1), (6, .iconst 0, 1), (7, .putfield 299, 3), (10, .aload_n 0, 1), (11, .iconst 0, 1), (12, .putfield 302, 3), (15, .iconst 0, 1), (16, .istore_n 1, 1)]), (17, [(17, .iload_n 1, 1), (18, .bipush 8, 2), (20, .if_icmp .ge 38, 3)]), (23, [(23, .aload_n 0, 1), (24, .getfield 97, 3), (27, .iload_n 1, 1), (28, .iconst 0, 1), (29, .iastore, 1), (30, .aload_n 0, 1), (31, .getfield 109, 3), (34, .iload_n 1, 1), (35, .baload, 1), (36, .ifCond .eq 16, 3)]), (39, [(39, .aload_n 0, 1), (40, .getfield 109, 3), (43, .iload_n 1, 1), (44, .iconst 0, 1), (45, .bastore, 1), (46, .aload_n 0, 1), (47, .iconst 1, 1), (48, .iload_n 1, 1), (49, .invokevirtual 614, 3)]), (52, [(52, .iinc 1 1, 3), (55, .goto (-38), 3)]), (58, [(58, .iconst 0, 1), (59, .istore_n 1, 1)]), (60, [(60, .iload_n 1, 1), (61, .bipush 8, 2), (63, .if_icmp .ge 31, 3)]), (66, [(66, .aload_n 0, 1), (67, .getfield 112, 3), (70, .iload_n 1, 1), (71, .baload, 1), (72, .ifCond .eq 16, 3)]), (75, [(75, .aload_n 0, 1), (76, .getfield 112, 3), (79, .iload_n 1, 1), (80, .iconst 0, 1), (81, .bastore, 1), (82, .aload_n 0, 1), (83, .iconst 4, 1), (84, .iload_n 1, 1), (85, .invokevirtual 614, 3)]), (88, [(88, .iinc 1 1, 3), (91, .goto (-31), 3)]), (94, [(94, .return_, 1)])]
set_option maxRecDepth 100000 in
theorem pq_X12_allOff_52 (k17 : Int32 → pj_F (Unit × pj_Z)) (a1 : Int32) (s : Nat → Int32) (l : Nat → Int64) (x : Nat → Int32) (y : Nat → Int64) : pl_X12_allOff_52 k17 a1 s l x y = pj_bl px_X12_allOff (pj_rn px_X12_allOff (pj_as pk_X12_allOff) (pj_as [(17, pe_X12_allOff_17 k17)]) 60) [(52, .iinc 1 1, 3), (55, .goto (-38), 3)] 52 [(0, pj_O (124, 0)), (1, pj_I a1)] [] (s, l, x, y) := rfl
set_option maxRecDepth 100000 in
theorem pq_X12_allOff_88 (k60 : Int32 → pj_F (Unit × pj_Z)) (a1 : Int32) (s : Nat → Int32) (l : Nat → Int64) (x : Nat → Int32) (y : Nat → Int64) : pl_X12_allOff_88 k60 a1 s l x y = pj_bl px_X12_allOff (pj_rn px_X12_allOff (pj_as pk_X12_allOff) (pj_as [(60, pe_X12_allOff_60 k60)]) 60) [(88, .iinc 1 1, 3), (91, .goto (-31), 3)] 88 [(0, pj_O (124, 0)), (1, pj_I a1)] [] (s, l, x, y) := rfl
set_option maxRecDepth 100000 in
theorem pq_X12_allOff_60 (n : Nat) (a1 : Int32) (s : Nat → Int32) (l : Nat → Int64) (x : Nat → Int32) (y : Nat → Int64) : pl_X12_allOff_60 (n + 1) a1 s l x y = pj_bl px_X12_allOff (pj_rn px_X12_allOff (pj_as pk_X12_allOff) (pj_as [(60, pe_X12_allOff_60 (pl_X12_allOff_60 n)), (88, pe_X12_allOff_88 (pl_X12_allOff_88 (pl_X12_allOff_60 n)))]) 60) [(60, .iload_n 1, 1), (61, .bipush 8, 2), (63, .if_icmp .ge 31, 3)] 60 [(0, pj_O (124, 0)), (1, pj_I a1)] [] (s, l, x, y) := rfl
set_option maxRecDepth 100000 in
theorem pq_X12_allOff_17 (n : Nat) (a1 : Int32) (s : Nat → Int32) (l : Nat → Int64) (x : Nat → Int32) (y : Nat → Int64) : pl_X12_allOff_17 (n + 1) a1 s l x y = pj_bl px_X12_allOff (pj_rn px_X12_allOff (pj_as pk_X12_allOff) (pj_as [(17, pe_X12_allOff_17 (pl_X12_allOff_17 n)), (52, pe_X12_allOff_52 (pl_X12_allOff_52 (pl_X12_allOff_17 n))), (60, pe_X12_allOff_60 (pl_X12_allOff_60 (pj_fu 0)))]) 60) [(17, .iload_n 1, 1), (18, .bipush 8, 2), (20, .if_icmp .ge 38, 3)] 17 [(0, pj_O (124, 0)), (1, pj_I a1)] [] (s, l, x, y) := rfl
set_option maxRecDepth 100000 in
theorem pq_X12_allOff_m  (s : Nat → Int32) (l : Nat → Int64) (x : Nat → Int32) (y : Nat → Int64) : pf_X12_allOff  s l x y = pj_bl px_X12_allOff (pj_rn px_X12_allOff (pj_as pk_X12_allOff) (pj_as [(17, pe_X12_allOff_17 (pl_X12_allOff_17 (pj_fu 0)))]) 60) [(0, .aload_n 0, 1), (1, .iconst 0, 1), (2, .putfield 308, 3), (5, .aload_n 0, 1), (6, .iconst 0, 1), (7, .putfield 299, 3), (10, .aload_n 0, 1), (11, .iconst 0, 1), (12, .putfield 302, 3), (15, .iconst 0, 1), (16, .istore_n 1, 1)] 0 [(0, pj_O (124, 0))] [] (s, l, x, y) := rfl
theorem pu_X12_allOff_17 {lf : pj_Z → mj_M} {a : Unit × pj_Z} (f : Int32 → pj_F (Unit × pj_Z)) (hf : ∀ (a1 : Int32) (s : Nat → Int32) (l : Nat → Int64) (x : Nat → Int32) (y : Nat → Int64), f a1 s l x y = some a → pm_Gd 1 12034 ie_X12_allOff.1 pm_rU lf 17 [(0, .ref 124), (1, .int a1)] [] (s, l, x, y) a) : pm_Ex 1 12034 ie_X12_allOff.1 pm_rU lf a 17 (pe_X12_allOff_17 f) := by
  intro lv st z hd h
  obtain ⟨g0, h⟩ := pj_xr_inv h
  obtain ⟨a1, g1, h⟩ := pj_xi_inv h
  obtain ⟨e9, h⟩ := pj_pe_inv h
  rw [e9]
  exact mj_wp_sub (mj_sub_cons g0 (mj_sub_cons g1 (mj_sub_nil hd))) (hf _ _ _ _ _ h)
theorem pu_X12_allOff_52 {lf : pj_Z → mj_M} {a : Unit × pj_Z} (f : Int32 → pj_F (Unit × pj_Z)) (hf : ∀ (a1 : Int32) (s : Nat → Int32) (l : Nat → Int64) (x : Nat → Int32) (y : Nat → Int64), f a1 s l x y = some a → pm_Gd 1 12034 ie_X12_allOff.1 pm_rU lf 52 [(0, .ref 124), (1, .int a1)] [] (s, l, x, y) a) : pm_Ex 1 12034 ie_X12_allOff.1 pm_rU lf a 52 (pe_X12_allOff_52 f) := by
  intro lv st z hd h
  obtain ⟨g0, h⟩ := pj_xr_inv h
  obtain ⟨a1, g1, h⟩ := pj_xi_inv h
  obtain ⟨e9, h⟩ := pj_pe_inv h
  rw [e9]
  exact mj_wp_sub (mj_sub_cons g0 (mj_sub_cons g1 (mj_sub_nil hd))) (hf _ _ _ _ _ h)
theorem pu_X12_allOff_60 {lf : pj_Z → mj_M} {a : Unit × pj_Z} (f : Int32 → pj_F (Unit × pj_Z)) (hf : ∀ (a1 : Int32) (s : Nat → Int32) (l : Nat → Int64) (x : Nat → Int32) (y : Nat → Int64), f a1 s l x y = some a → pm_Gd 1 12034 ie_X12_allOff.1 pm_rU lf 60 [(0, .ref 124), (1, .int a1)] [] (s, l, x, y) a) : pm_Ex 1 12034 ie_X12_allOff.1 pm_rU lf a 60 (pe_X12_allOff_60 f) := by
  intro lv st z hd h
  obtain ⟨g0, h⟩ := pj_xr_inv h
  obtain ⟨a1, g1, h⟩ := pj_xi_inv h
  obtain ⟨e9, h⟩ := pj_pe_inv h
  rw [e9]
  exact mj_wp_sub (mj_sub_cons g0 (mj_sub_cons g1 (mj_sub_nil hd))) (hf _ _ _ _ _ h)
theorem pu_X12_allOff_88 {lf : pj_Z → mj_M} {a : Unit × pj_Z} (f : Int32 → pj_F (Unit × pj_Z)) (hf : ∀ (a1 : Int32) (s : Nat → Int32) (l : Nat → Int64) (x : Nat → Int32) (y : Nat → Int64), f a1 s l x y = some a → pm_Gd 1 12034 ie_X12_allOff.1 pm_rU lf 88 [(0, .ref 124), (1, .int a1)] [] (s, l, x, y) a) : pm_Ex 1 12034 ie_X12_allOff.1 pm_rU lf a 88 (pe_X12_allOff_88 f) := by
  intro lv st z hd h
  obtain ⟨g0, h⟩ := pj_xr_inv h
  obtain ⟨a1, g1, h⟩ := pj_xi_inv h
  obtain ⟨e9, h⟩ := pj_pe_inv h
  rw [e9]
  exact mj_wp_sub (mj_sub_cons g0 (mj_sub_cons g1 (mj_sub_nil hd))) (hf _ _ _ _ _ h)
set_option maxRecDepth 100000 in
theorem pz_X12_allOff {lf : pj_Z → mj_M} (hT : pj_Lt pj_TR lf) : pj_Cok ic_P (mj_R ic_P 1) 12034 ie_X12_allOff.1 (pm_OK lf pm_rU) lf px_X12_allOff := by
  exact pm_cok (c := px_X12_allOff) hT (pm_in_ok (L := [(97, 12, 56, 2, true), (109, 12, 60, 2, true), (112, 12, 61, 2, true), (299, 12, 46, 3, false), (302, 12, 49, 3, false), (308, 12, 67, 0, false)]) (f := mj_pF ic_P 12034) (by decide +kernel)) (fun _ _ h => by cases h) (fun _ _ h => by cases h) (fun _ _ h => by cases h) rfl rfl ⟨by decide, rfl⟩ pm_mU (pj_as_all (p := pm_Cl 1 12034 ie_X12_allOff.1 lf (pm_OK lf pm_rU)) (List.forall_mem_cons.mpr ⟨fun _ _ lv st z K a hK h => pc_X12_log hT (by decide) (ix := 614) rfl rfl hK h, (List.forall_mem_cons.mpr ⟨fun _ _ lv st z K a hK h => pc_X12_log hT (by decide) (ix := 614) rfl rfl hK h, (fun _ h => by cases h)⟩)⟩)) (fun _ h => by cases h)
set_option maxRecDepth 100000 in
theorem pb_X12_allOff : pm_bks ie_X12_allOff.1.2.2.2.2 pk_X12_allOff = true := by decide +kernel
set_option maxRecDepth 100000 in
theorem pg_X12_allOff_52 {lf : pj_Z → mj_M} (hT : pj_Lt pj_TR lf) {k17 : Int32 → pj_F (Unit × pj_Z)} (hk17 : ∀ (a1 : Int32) (s : Nat → Int32) (l : Nat → Int64) (x : Nat → Int32) (y : Nat → Int64) (a : Unit × pj_Z), k17 a1 s l x y = some a → pm_Gd 1 12034 ie_X12_allOff.1 pm_rU lf 17 [(0, .ref 124), (1, .int a1)] [] (s, l, x, y) a) : ∀ (a1 : Int32) (s : Nat → Int32) (l : Nat → Int64) (x : Nat → Int32) (y : Nat → Int64) (a : Unit × pj_Z), pl_X12_allOff_52 k17 a1 s l x y = some a → pm_Gd 1 12034 ie_X12_allOff.1 pm_rU lf 52 [(0, .ref 124), (1, .int a1)] [] (s, l, x, y) a := by
  intro a1 s l x y a h
  exact pj_bl_ok (pz_X12_allOff hT) (fun t lv st z hd h => pj_rn_ok (pz_X12_allOff hT) (pm_bks_ok pb_X12_allOff) (pj_as_all (p := pm_Ex 1 12034 ie_X12_allOff.1 pm_rU lf a) (List.forall_mem_cons.mpr ⟨pu_X12_allOff_17 _ (fun c0 s l x y h => hk17 c0 s l x y _ h), (fun _ h => by cases h)⟩)) 60 t lv st z hd h) [(52, .iinc 1 1, 3), (55, .goto (-38), 3)] 52 [(0, pj_O (124, 0)), (1, pj_I a1)] [] (s, l, x, y) (pm_bks_ok pb_X12_allOff _ _ rfl) (pm_ndb_ok rfl) ((pq_X12_allOff_52 k17 a1 s l x y).symm.trans h)
set_option maxRecDepth 100000 in
theorem pg_X12_allOff_88 {lf : pj_Z → mj_M} (hT : pj_Lt pj_TR lf) {k60 : Int32 → pj_F (Unit × pj_Z)} (hk60 : ∀ (a1 : Int32) (s : Nat → Int32) (l : Nat → Int64) (x : Nat → Int32) (y : Nat → Int64) (a : Unit × pj_Z), k60 a1 s l x y = some a → pm_Gd 1 12034 ie_X12_allOff.1 pm_rU lf 60 [(0, .ref 124), (1, .int a1)] [] (s, l, x, y) a) : ∀ (a1 : Int32) (s : Nat → Int32) (l : Nat → Int64) (x : Nat → Int32) (y : Nat → Int64) (a : Unit × pj_Z), pl_X12_allOff_88 k60 a1 s l x y = some a → pm_Gd 1 12034 ie_X12_allOff.1 pm_rU lf 88 [(0, .ref 124), (1, .int a1)] [] (s, l, x, y) a := by
  intro a1 s l x y a h
  exact pj_bl_ok (pz_X12_allOff hT) (fun t lv st z hd h => pj_rn_ok (pz_X12_allOff hT) (pm_bks_ok pb_X12_allOff) (pj_as_all (p := pm_Ex 1 12034 ie_X12_allOff.1 pm_rU lf a) (List.forall_mem_cons.mpr ⟨pu_X12_allOff_60 _ (fun c0 s l x y h => hk60 c0 s l x y _ h), (fun _ h => by cases h)⟩)) 60 t lv st z hd h) [(88, .iinc 1 1, 3), (91, .goto (-31), 3)] 88 [(0, pj_O (124, 0)), (1, pj_I a1)] [] (s, l, x, y) (pm_bks_ok pb_X12_allOff _ _ rfl) (pm_ndb_ok rfl) ((pq_X12_allOff_88 k60 a1 s l x y).symm.trans h)
set_option maxRecDepth 100000 in
theorem pg_X12_allOff_60 {lf : pj_Z → mj_M} (hT : pj_Lt pj_TR lf) : ∀ (n : Nat), ∀ (a1 : Int32) (s : Nat → Int32) (l : Nat → Int64) (x : Nat → Int32) (y : Nat → Int64) (a : Unit × pj_Z), pl_X12_allOff_60 n a1 s l x y = some a → pm_Gd 1 12034 ie_X12_allOff.1 pm_rU lf 60 [(0, .ref 124), (1, .int a1)] [] (s, l, x, y) a := by
  intro n
  induction n with
  | zero => intro a1 s l x y a h; cases (show (none : Option (Unit × pj_Z)) = some a from h)
  | succ n ih =>
    intro a1 s l x y a h
    exact pj_bl_ok (pz_X12_allOff hT) (fun t lv st z hd h => pj_rn_ok (pz_X12_allOff hT) (pm_bks_ok pb_X12_allOff) (pj_as_all (p := pm_Ex 1 12034 ie_X12_allOff.1 pm_rU lf a) (List.forall_mem_cons.mpr ⟨pu_X12_allOff_60 _ (fun c0 s l x y h => ih c0 s l x y _ h), (List.forall_mem_cons.mpr ⟨pu_X12_allOff_88 _ (fun c0 s l x y h => pg_X12_allOff_88 hT (fun a1 s l x y a h => ih a1 s l x y a h) c0 s l x y _ h), (fun _ h => by cases h)⟩)⟩)) 60 t lv st z hd h) [(60, .iload_n 1, 1), (61, .bipush 8, 2), (63, .if_icmp .ge 31, 3)] 60 [(0, pj_O (124, 0)), (1, pj_I a1)] [] (s, l, x, y) (pm_bks_ok pb_X12_allOff _ _ rfl) (pm_ndb_ok rfl) ((pq_X12_allOff_60 n a1 s l x y).symm.trans h)
set_option maxRecDepth 100000 in
theorem pg_X12_allOff_17 {lf : pj_Z → mj_M} (hT : pj_Lt pj_TR lf) : ∀ (n : Nat), ∀ (a1 : Int32) (s : Nat → Int32) (l : Nat → Int64) (x : Nat → Int32) (y : Nat → Int64) (a : Unit × pj_Z), pl_X12_allOff_17 n a1 s l x y = some a → pm_Gd 1 12034 ie_X12_allOff.1 pm_rU lf 17 [(0, .ref 124), (1, .int a1)] [] (s, l, x, y) a := by
  intro n
  induction n with
  | zero => intro a1 s l x y a h; cases (show (none : Option (Unit × pj_Z)) = some a from h)
  | succ n ih =>
    intro a1 s l x y a h
    exact pj_bl_ok (pz_X12_allOff hT) (fun t lv st z hd h => pj_rn_ok (pz_X12_allOff hT) (pm_bks_ok pb_X12_allOff) (pj_as_all (p := pm_Ex 1 12034 ie_X12_allOff.1 pm_rU lf a) (List.forall_mem_cons.mpr ⟨pu_X12_allOff_17 _ (fun c0 s l x y h => ih c0 s l x y _ h), (List.forall_mem_cons.mpr ⟨pu_X12_allOff_52 _ (fun c0 s l x y h => pg_X12_allOff_52 hT (fun a1 s l x y a h => ih a1 s l x y a h) c0 s l x y _ h), (List.forall_mem_cons.mpr ⟨pu_X12_allOff_60 _ (fun c0 s l x y h => pg_X12_allOff_60 hT (pj_fu 0) c0 s l x y _ h), (fun _ h => by cases h)⟩)⟩)⟩)) 60 t lv st z hd h) [(17, .iload_n 1, 1), (18, .bipush 8, 2), (20, .if_icmp .ge 38, 3)] 17 [(0, pj_O (124, 0)), (1, pj_I a1)] [] (s, l, x, y) (pm_bks_ok pb_X12_allOff _ _ rfl) (pm_ndb_ok rfl) ((pq_X12_allOff_17 n a1 s l x y).symm.trans h)
set_option maxRecDepth 100000 in
theorem pm_X12_allOff {lf : pj_Z → mj_M} (hT : pj_Lt pj_TR lf)  (s : Nat → Int32) (l : Nat → Int64) (x : Nat → Int32) (y : Nat → Int64) (a : Unit × pj_Z) (h : pf_X12_allOff  s l x y = some a) : mj_R ic_P 2 12034 [.ref 124] (lf (s, l, x, y)) (pm_rU a.1) (lf a.2) := by
  refine pm_main (Y := ie_X12_allOff.1) rfl (Nat.le_of_ble_eq_true rfl) ?_
  exact pj_bl_ok (pz_X12_allOff hT) (fun t lv st z hd h => pj_rn_ok (pz_X12_allOff hT) (pm_bks_ok pb_X12_allOff) (pj_as_all (p := pm_Ex 1 12034 ie_X12_allOff.1 pm_rU lf a) (List.forall_mem_cons.mpr ⟨pu_X12_allOff_17 _ (fun c0 s l x y h => pg_X12_allOff_17 hT (pj_fu 0) c0 s l x y _ h), (fun _ h => by cases h)⟩)) 60 t lv st z hd h) [(0, .aload_n 0, 1), (1, .iconst 0, 1), (2, .putfield 308, 3), (5, .aload_n 0, 1), (6, .iconst 0, 1), (7, .putfield 299, 3), (10, .aload_n 0, 1), (11, .iconst 0, 1), (12, .putfield 302, 3), (15, .iconst 0, 1), (16, .istore_n 1, 1)] 0 [(0, pj_O (124, 0))] [] (s, l, x, y) (pm_bks_ok pb_X12_allOff _ _ rfl) (pm_ndb_ok rfl) ((pq_X12_allOff_m  s l x y).symm.trans h)
abbrev ph_X12_allOff {A : Type} : List pj_V → pj_Z → (List pj_V → pj_Z → Option A) → Option A := fun st z K => pj_pr st 124 0 fun st => pj_ps st (pj_b (pf_X12_allOff  z.1 z.2.1 z.2.2.1 z.2.2.2) fun r s l x y => K st (s, l, x, y))
set_option maxRecDepth 100000 in
theorem pc_X12_allOff {A : Type} {OK : A → Option Value → mj_M → Prop} {d j pc ix : Nat} {Y : mj_Y} {lf : pj_Z → mj_M} (hT : pj_Lt pj_TR lf) (hd : 2 ≤ d) (hl : mj_lk Y.2.2.2.2 pc = some (.invokevirtual ix, 3)) (hg : mj_pG ic_P j ix = some (12034, 0, some 12)) {lv : List (Nat × Value)} {st : List pj_V} {z : pj_Z} {K : List pj_V → pj_Z → Option A} {a : A} (hK : ∀ st z, K st z = some a → pj_Gd ic_P (mj_R ic_P d) j Y OK lf (pc + 3) lv (pj_es st) z a) (h : ph_X12_allOff st z K = some a) : pj_Gd ic_P (mj_R ic_P d) j Y OK lf pc lv (pj_es st) z a := by
  obtain ⟨r0, e0, h⟩ := pj_pr_inv h
  obtain ⟨hs, h⟩ := pj_ps_inv h
  obtain ⟨q, hq, h⟩ := pj_b_inv h
  exact pm_cv (o := 124) hl hg [] rfl (by rw [e0]; rfl) hs (by decide) ((hT.2 124 _ rfl).1.2 z 0 (by decide)) (pm_rU q.1) hd (pm_X12_allOff hT  z.1 z.2.1 z.2.2.1 z.2.2.2 q hq) rfl (hK _ _ h)
abbrev px_X12_isCell : pj_C (Int32 × pj_Z) := (pj_TR, (fun _ => none), (fun _ => none), (pj_as [(572, (-100)), (580, 20000), (582, 450)]), (fun _ => none), ic_X, 2, 2, pj_mI, (pj_as [(10, ph_X12_isIn), (24, ph_X12_isIn)]), fun _ => false)
abbrev pk_X12_isCell : List (Nat × List (Nat × Instr × Nat)) := [(0, [(0, .iload_n 0, 1), (1, .ifCond .ne 15, 3)]), (4, [(4, .iload_n 1, 1), (5, .i2l, 1), (6, .lconst 0, 1), (7, .ldc2_w 580, 3), (10, .invokestatic 568, 3), (13, .goto 14, 3)]), (16, [(16, .iload_n 1, 1), (17, .i2l, 1), (18, .ldc2_w 572, 3), (21, .ldc2_w 582, 3), (24, .invokestatic 568, 3)]), (27, [(27, .ireturn, 1)])]
set_option maxRecDepth 100000 in
theorem pq_X12_isCell_m (a0 : Int32) (a1 : Int32) (s : Nat → Int32) (l : Nat → Int64) (x : Nat → Int32) (y : Nat → Int64) : pf_X12_isCell a0 a1 s l x y = pj_bl px_X12_isCell (pj_rn px_X12_isCell (pj_as pk_X12_isCell) (fun _ => none) 60) [(0, .iload_n 0, 1), (1, .ifCond .ne 15, 3)] 0 [(0, pj_I a0), (1, pj_I a1)] [] (s, l, x, y) := rfl
set_option maxRecDepth 100000 in
theorem pz_X12_isCell {lf : pj_Z → mj_M} (hT : pj_Lt pj_TR lf) : pj_Cok ic_P (mj_R ic_P 1) 12023 ie_X12_isCell.1 (pm_OK lf pm_rI) lf px_X12_isCell := by
  exact pm_cok (c := px_X12_isCell) hT (fun _ _ h => by cases h) (fun _ _ h => by cases h) (pm_inL_ok (L := [(572, (-100)), (580, 20000), (582, 450)]) (f := mj_pL ic_P 12023) (by decide +kernel)) (fun _ _ h => by cases h) rfl rfl ⟨by decide, rfl⟩ pm_mI (pj_as_all (p := pm_Cl 1 12023 ie_X12_isCell.1 lf (pm_OK lf pm_rI)) (List.forall_mem_cons.mpr ⟨fun _ _ lv st z K a hK h => pc_X12_isIn hT (by decide) (ix := 568) rfl rfl hK h, (List.forall_mem_cons.mpr ⟨fun _ _ lv st z K a hK h => pc_X12_isIn hT (by decide) (ix := 568) rfl rfl hK h, (fun _ h => by cases h)⟩)⟩)) (fun _ h => by cases h)
set_option maxRecDepth 100000 in
theorem pb_X12_isCell : pm_bks ie_X12_isCell.1.2.2.2.2 pk_X12_isCell = true := by decide +kernel
set_option maxRecDepth 100000 in
theorem pm_X12_isCell {lf : pj_Z → mj_M} (hT : pj_Lt pj_TR lf) (a0 : Int32) (a1 : Int32) (s : Nat → Int32) (l : Nat → Int64) (x : Nat → Int32) (y : Nat → Int64) (a : Int32 × pj_Z) (h : pf_X12_isCell a0 a1 s l x y = some a) : mj_R ic_P 2 12023 [.int a0, .int a1] (lf (s, l, x, y)) (pm_rI a.1) (lf a.2) := by
  refine pm_main (Y := ie_X12_isCell.1) rfl (Nat.le_of_ble_eq_true rfl) ?_
  exact pj_bl_ok (pz_X12_isCell hT) (fun t lv st z hd h => pj_rn_ok (pz_X12_isCell hT) (pm_bks_ok pb_X12_isCell) (fun _ _ h => by cases h) 60 t lv st z hd h) [(0, .iload_n 0, 1), (1, .ifCond .ne 15, 3)] 0 [(0, pj_I a0), (1, pj_I a1)] [] (s, l, x, y) (pm_bks_ok pb_X12_isCell _ _ rfl) (pm_ndb_ok rfl) ((pq_X12_isCell_m a0 a1 s l x y).symm.trans h)
abbrev ph_X12_isCell {A : Type} : List pj_V → pj_Z → (List pj_V → pj_Z → Option A) → Option A := fun st z K => pj_pi st fun a1 st => pj_pi st fun a0 st => pj_ps st (pj_b (pf_X12_isCell a0 a1 z.1 z.2.1 z.2.2.1 z.2.2.2) fun r s l x y => K (pj_I r :: st) (s, l, x, y))
set_option maxRecDepth 100000 in
theorem pc_X12_isCell {A : Type} {OK : A → Option Value → mj_M → Prop} {d j pc ix : Nat} {Y : mj_Y} {lf : pj_Z → mj_M} (hT : pj_Lt pj_TR lf) (hd : 2 ≤ d) (hl : mj_lk Y.2.2.2.2 pc = some (.invokestatic ix, 3)) (hg : mj_pG ic_P j ix = some (12023, 2, none)) {lv : List (Nat × Value)} {st : List pj_V} {z : pj_Z} {K : List pj_V → pj_Z → Option A} {a : A} (hK : ∀ st z, K st z = some a → pj_Gd ic_P (mj_R ic_P d) j Y OK lf (pc + 3) lv (pj_es st) z a) (h : ph_X12_isCell st z K = some a) : pj_Gd ic_P (mj_R ic_P d) j Y OK lf pc lv (pj_es st) z a := by
  obtain ⟨a1, r1, e1, h⟩ := pj_pi_inv h
  obtain ⟨a0, r0, e0, h⟩ := pj_pi_inv h
  obtain ⟨hs, h⟩ := pj_ps_inv h
  obtain ⟨q, hq, h⟩ := pj_b_inv h
  exact pm_cs hl hg [.int a0, .int a1] rfl (by rw [e1, e0]; rfl) hs (pm_rI q.1) hd (pm_X12_isCell hT a0 a1 z.1 z.2.1 z.2.2.1 z.2.2.2 q hq) rfl (hK _ _ h)
abbrev pe_X12_isBook_19 (f : Int32 → Int32 → Int32 → pj_F (Int32 × pj_Z)) : pj_K (Int32 × pj_Z) := fun lv st z => pj_xr lv 0 124 0 <| pj_xi lv 1 fun a1 => pj_xi lv 2 fun a2 => pj_pi st fun b0 st => pj_pe st (f a1 a2 b0 z.1 z.2.1 z.2.2.1 z.2.2.2)
abbrev pe_X12_isBook_23 (f : Int32 → Int32 → Int32 → Int32 → pj_F (Int32 × pj_Z)) : pj_K (Int32 × pj_Z) := fun lv st z => pj_xr lv 0 124 0 <| pj_xi lv 1 fun a1 => pj_xi lv 2 fun a2 => pj_xi lv 3 fun a3 => pj_xi lv 4 fun a4 => pj_pe st (f a1 a2 a3 a4 z.1 z.2.1 z.2.2.1 z.2.2.2)
abbrev pe_X12_isBook_66 (f : Int32 → Int32 → Int32 → Int32 → pj_F (Int32 × pj_Z)) : pj_K (Int32 × pj_Z) := fun lv st z => pj_xr lv 0 124 0 <| pj_xi lv 1 fun a1 => pj_xi lv 2 fun a2 => pj_xi lv 4 fun a4 => pj_pi st fun b0 st => pj_pe st (f a1 a2 a4 b0 z.1 z.2.1 z.2.2.1 z.2.2.2)
abbrev pe_X12_isBook_88 (f : Int32 → Int32 → Int32 → pj_F (Int32 × pj_Z)) : pj_K (Int32 × pj_Z) := fun lv st z => pj_xr lv 0 124 0 <| pj_xi lv 1 fun a1 => pj_xi lv 2 fun a2 => pj_xi lv 4 fun a4 => pj_pe st (f a1 a2 a4 z.1 z.2.1 z.2.2.1 z.2.2.2)
abbrev pe_X12_isBook_89 (f : Int32 → Int32 → Int32 → Int32 → pj_F (Int32 × pj_Z)) : pj_K (Int32 × pj_Z) := fun lv st z => pj_xr lv 0 124 0 <| pj_xi lv 1 fun a1 => pj_xi lv 2 fun a2 => pj_xi lv 4 fun a4 => pj_pi st fun b0 st => pj_pe st (f a1 a2 a4 b0 z.1 z.2.1 z.2.2.1 z.2.2.2)
abbrev px_X12_isBook : pj_C (Int32 × pj_Z) := (pj_TR, (pj_as [(203, 12, 168, 2, true)]), (fun _ => none), (fun _ => none), (fun _ => none), ic_X, 5, 2, pj_mI, (pj_as [(78, ph_X12_isCell)]), fun _ => false)
abbrev pk_X12_isBook : List (Nat × List (Nat × Instr × Nat)) := [(0, [(0, .aload_n 0, 1), (1, .getfield 203, 3), (4, .bipush 34, 2), (6, .iload_n 1, 1), (7, .imul, 1), (8, .iaload, 1), (9, .istore_n 2, 1), (10, .iload_n 2, 1), (11, .ifCond .le 7, 3)]), (14, [(14, .iconst 1, 1), (15, .goto 4, 3)]), (18, [(18, .iconst 0, 1)]), (19, [(19, .istore_n 3, 1), (20, .iconst 1, 1), (21, .istore 4, 2)]), (23, [(23, .iload 4, 2), (25, .bipush 32, 2), (27, .if_icmp .gt 69, 3)]), (30, [(30, .iload_n 2, 1), (31, .iload 4, 2), (33, .iconst 1, 1), (34, .iadd, 1), (35, .aload_n 0, 1), (36, .getfield 203, 3), (39, .bipush 34, 2), (41, .iload_n 1, 1), (42, .imul, 1), (43, .iload 4, 2), (45, .iadd, 1), (46, .iaload, 1), (47, .imul, 1), (48, .iadd, 1), (49, .istore_n 2, 1), (50, .iload_n 3, 1), (51, .ifCond .eq 37, 3)]), (54, [(54, .iload 4, 2), (56, .bipush 16, 2), (58, .if_icmp .gt 7, 3)]), (61, [(61, .iconst 0, 1), (62, .goto 4, 3)]), (65, [(65, .iconst 1, 1)]), (66, [(66, .aload_n 0, 1), (67, .getfield 203, 3), (70, .bipush 34, 2), (72, .iload_n 1, 1), (73, .imul, 1), (74, .iload 4, 2), (76, .iadd, 1), (77, .iaload, 1), (78, .invokestatic 584, 3), (81, .ifCond .eq 7, 3)]), (84, [(84, .iconst 1, 1), (85, .goto 4, 3)]), (88, [(88, .iconst 0, 1)]), (89, [(89, .istore_n 3, 1), (90, .iinc 4 1, 3), (93, .goto (-70), 3)]), (96, [(96, .iload_n 3, 1), (97, .ifCond .eq 23, 3)]), (100, [(100, .iload_n 2, 1), (101, .aload_n 0, 1), (102, .getfield 203, 3), (105, .bipush 34, 2), (107, .iload_n 1, 1), (108, .imul, 1), (109, .bipush 33, 2), (111, .iadd, 1), (112, .iaload, 1), (113, .if_icmp .ne 7, 3)]), (116, [(116, .iconst 1, 1), (117, .goto 4, 3)]), (120, [(120, .iconst 0, 1)]), (121, [(121, .ireturn, 1)])]
set_option maxRecDepth 100000 in
theorem pq_X12_isBook_89 (k23 : Int32 → Int32 → Int32 → Int32 → pj_F (Int32 × pj_Z)) (a1 : Int32) (a2 : Int32) (a4 : Int32) (b0 : Int32) (s : Nat → Int32) (l : Nat → Int64) (x : Nat → Int32) (y : Nat → Int64) : pl_X12_isBook_89 k23 a1 a2 a4 b0 s l x y = pj_bl px_X12_isBook (pj_rn px_X12_isBook (pj_as pk_X12_isBook) (pj_as [(23, pe_X12_isBook_23 k23)]) 60) [(89, .istore_n 3, 1), (90, .iinc 4 1, 3), (93, .goto (-70), 3)] 89 [(0, pj_O (124, 0)), (1, pj_I a1), (2, pj_I a2), (4, pj_I a4)] [pj_I b0] (s, l, x, y) := rfl
set_option maxRecDepth 100000 in
theorem pq_X12_isBook_88 (k23 : Int32 → Int32 → Int32 → Int32 → pj_F (Int32 × pj_Z)) (a1 : Int32) (a2 : Int32) (a4 : Int32) (s : Nat → Int32) (l : Nat → Int64) (x : Nat → Int32) (y : Nat → Int64) : pl_X12_isBook_88 k23 a1 a2 a4 s l x y = pj_bl px_X12_isBook (pj_rn px_X12_isBook (pj_as pk_X12_isBook) (pj_as [(23, pe_X12_isBook_23 k23), (89, pe_X12_isBook_89 (pl_X12_isBook_89 k23))]) 60) [(88, .iconst 0, 1)] 88 [(0, pj_O (124, 0)), (1, pj_I a1), (2, pj_I a2), (4, pj_I a4)] [] (s, l, x, y) := rfl
set_option maxRecDepth 100000 in
theorem pq_X12_isBook_66 (k23 : Int32 → Int32 → Int32 → Int32 → pj_F (Int32 × pj_Z)) (a1 : Int32) (a2 : Int32) (a4 : Int32) (b0 : Int32) (s : Nat → Int32) (l : Nat → Int64) (x : Nat → Int32) (y : Nat → Int64) : pl_X12_isBook_66 k23 a1 a2 a4 b0 s l x y = pj_bl px_X12_isBook (pj_rn px_X12_isBook (pj_as pk_X12_isBook) (pj_as [(23, pe_X12_isBook_23 k23), (88, pe_X12_isBook_88 (pl_X12_isBook_88 k23)), (89, pe_X12_isBook_89 (pl_X12_isBook_89 k23))]) 60) [(66, .aload_n 0, 1), (67, .getfield 203, 3), (70, .bipush 34, 2), (72, .iload_n 1, 1), (73, .imul, 1), (74, .iload 4, 2), (76, .iadd, 1), (77, .iaload, 1), (78, .invokestatic 584, 3), (81, .ifCond .eq 7, 3)] 66 [(0, pj_O (124, 0)), (1, pj_I a1), (2, pj_I a2), (4, pj_I a4)] [pj_I b0] (s, l, x, y) := rfl
set_option maxRecDepth 100000 in
theorem pq_X12_isBook_23 (n : Nat) (a1 : Int32) (a2 : Int32) (a3 : Int32) (a4 : Int32) (s : Nat → Int32) (l : Nat → Int64) (x : Nat → Int32) (y : Nat → Int64) : pl_X12_isBook_23 (n + 1) a1 a2 a3 a4 s l x y = pj_bl px_X12_isBook (pj_rn px_X12_isBook (pj_as pk_X12_isBook) (pj_as [(23, pe_X12_isBook_23 (pl_X12_isBook_23 n)), (66, pe_X12_isBook_66 (pl_X12_isBook_66 (pl_X12_isBook_23 n))), (88, pe_X12_isBook_88 (pl_X12_isBook_88 (pl_X12_isBook_23 n)))]) 60) [(23, .iload 4, 2), (25, .bipush 32, 2), (27, .if_icmp .gt 69, 3)] 23 [(0, pj_O (124, 0)), (1, pj_I a1), (2, pj_I a2), (3, pj_I a3), (4, pj_I a4)] [] (s, l, x, y) := rfl
set_option maxRecDepth 100000 in
theorem pq_X12_isBook_19 (a1 : Int32) (a2 : Int32) (b0 : Int32) (s : Nat → Int32) (l : Nat → Int64) (x : Nat → Int32) (y : Nat → Int64) : pl_X12_isBook_19 a1 a2 b0 s l x y = pj_bl px_X12_isBook (pj_rn px_X12_isBook (pj_as pk_X12_isBook) (pj_as [(23, pe_X12_isBook_23 (pl_X12_isBook_23 (pj_fu 0)))]) 60) [(19, .istore_n 3, 1), (20, .iconst 1, 1), (21, .istore 4, 2)] 19 [(0, pj_O (124, 0)), (1, pj_I a1), (2, pj_I a2)] [pj_I b0] (s, l, x, y) := rfl
set_option maxRecDepth 100000 in
theorem pq_X12_isBook_m (a1 : Int32) (s : Nat → Int32) (l : Nat → Int64) (x : Nat → Int32) (y : Nat → Int64) : pf_X12_isBook a1 s l x y = pj_bl px_X12_isBook (pj_rn px_X12_isBook (pj_as pk_X12_isBook) (pj_as [(19, pe_X12_isBook_19 (pl_X12_isBook_19))]) 60) [(0, .aload_n 0, 1), (1, .getfield 203, 3), (4, .bipush 34, 2), (6, .iload_n 1, 1), (7, .imul, 1), (8, .iaload, 1), (9, .istore_n 2, 1), (10, .iload_n 2, 1), (11, .ifCond .le 7, 3)] 0 [(0, pj_O (124, 0)), (1, pj_I a1)] [] (s, l, x, y) := rfl
theorem pu_X12_isBook_19 {lf : pj_Z → mj_M} {a : Int32 × pj_Z} (f : Int32 → Int32 → Int32 → pj_F (Int32 × pj_Z)) (hf : ∀ (a1 : Int32) (a2 : Int32) (b0 : Int32) (s : Nat → Int32) (l : Nat → Int64) (x : Nat → Int32) (y : Nat → Int64), f a1 a2 b0 s l x y = some a → pm_Gd 2 12024 ie_X12_isBook.1 pm_rI lf 19 [(0, .ref 124), (1, .int a1), (2, .int a2)] [.int b0] (s, l, x, y) a) : pm_Ex 2 12024 ie_X12_isBook.1 pm_rI lf a 19 (pe_X12_isBook_19 f) := by
  intro lv st z hd h
  obtain ⟨g0, h⟩ := pj_xr_inv h
  obtain ⟨a1, g1, h⟩ := pj_xi_inv h
  obtain ⟨a2, g2, h⟩ := pj_xi_inv h
  obtain ⟨b0, r0, e0, h⟩ := pj_pi_inv h
  obtain ⟨e9, h⟩ := pj_pe_inv h
  rw [e0, e9]
  exact mj_wp_sub (mj_sub_cons g0 (mj_sub_cons g1 (mj_sub_cons g2 (mj_sub_nil hd)))) (hf _ _ _ _ _ _ _ h)
theorem pu_X12_isBook_23 {lf : pj_Z → mj_M} {a : Int32 × pj_Z} (f : Int32 → Int32 → Int32 → Int32 → pj_F (Int32 × pj_Z)) (hf : ∀ (a1 : Int32) (a2 : Int32) (a3 : Int32) (a4 : Int32) (s : Nat → Int32) (l : Nat → Int64) (x : Nat → Int32) (y : Nat → Int64), f a1 a2 a3 a4 s l x y = some a → pm_Gd 2 12024 ie_X12_isBook.1 pm_rI lf 23 [(0, .ref 124), (1, .int a1), (2, .int a2), (3, .int a3), (4, .int a4)] [] (s, l, x, y) a) : pm_Ex 2 12024 ie_X12_isBook.1 pm_rI lf a 23 (pe_X12_isBook_23 f) := by
  intro lv st z hd h
  obtain ⟨g0, h⟩ := pj_xr_inv h
  obtain ⟨a1, g1, h⟩ := pj_xi_inv h
  obtain ⟨a2, g2, h⟩ := pj_xi_inv h
  obtain ⟨a3, g3, h⟩ := pj_xi_inv h
  obtain ⟨a4, g4, h⟩ := pj_xi_inv h
  obtain ⟨e9, h⟩ := pj_pe_inv h
  rw [e9]
  exact mj_wp_sub (mj_sub_cons g0 (mj_sub_cons g1 (mj_sub_cons g2 (mj_sub_cons g3 (mj_sub_cons g4 (mj_sub_nil hd)))))) (hf _ _ _ _ _ _ _ _ h)
theorem pu_X12_isBook_66 {lf : pj_Z → mj_M} {a : Int32 × pj_Z} (f : Int32 → Int32 → Int32 → Int32 → pj_F (Int32 × pj_Z)) (hf : ∀ (a1 : Int32) (a2 : Int32) (a4 : Int32) (b0 : Int32) (s : Nat → Int32) (l : Nat → Int64) (x : Nat → Int32) (y : Nat → Int64), f a1 a2 a4 b0 s l x y = some a → pm_Gd 2 12024 ie_X12_isBook.1 pm_rI lf 66 [(0, .ref 124), (1, .int a1), (2, .int a2), (4, .int a4)] [.int b0] (s, l, x, y) a) : pm_Ex 2 12024 ie_X12_isBook.1 pm_rI lf a 66 (pe_X12_isBook_66 f) := by
  intro lv st z hd h
  obtain ⟨g0, h⟩ := pj_xr_inv h
  obtain ⟨a1, g1, h⟩ := pj_xi_inv h
  obtain ⟨a2, g2, h⟩ := pj_xi_inv h
  obtain ⟨a4, g4, h⟩ := pj_xi_inv h
  obtain ⟨b0, r0, e0, h⟩ := pj_pi_inv h
  obtain ⟨e9, h⟩ := pj_pe_inv h
  rw [e0, e9]
  exact mj_wp_sub (mj_sub_cons g0 (mj_sub_cons g1 (mj_sub_cons g2 (mj_sub_cons g4 (mj_sub_nil hd))))) (hf _ _ _ _ _ _ _ _ h)
theorem pu_X12_isBook_88 {lf : pj_Z → mj_M} {a : Int32 × pj_Z} (f : Int32 → Int32 → Int32 → pj_F (Int32 × pj_Z)) (hf : ∀ (a1 : Int32) (a2 : Int32) (a4 : Int32) (s : Nat → Int32) (l : Nat → Int64) (x : Nat → Int32) (y : Nat → Int64), f a1 a2 a4 s l x y = some a → pm_Gd 2 12024 ie_X12_isBook.1 pm_rI lf 88 [(0, .ref 124), (1, .int a1), (2, .int a2), (4, .int a4)] [] (s, l, x, y) a) : pm_Ex 2 12024 ie_X12_isBook.1 pm_rI lf a 88 (pe_X12_isBook_88 f) := by
  intro lv st z hd h
  obtain ⟨g0, h⟩ := pj_xr_inv h
  obtain ⟨a1, g1, h⟩ := pj_xi_inv h
  obtain ⟨a2, g2, h⟩ := pj_xi_inv h
  obtain ⟨a4, g4, h⟩ := pj_xi_inv h
  obtain ⟨e9, h⟩ := pj_pe_inv h
  rw [e9]
  exact mj_wp_sub (mj_sub_cons g0 (mj_sub_cons g1 (mj_sub_cons g2 (mj_sub_cons g4 (mj_sub_nil hd))))) (hf _ _ _ _ _ _ _ h)
theorem pu_X12_isBook_89 {lf : pj_Z → mj_M} {a : Int32 × pj_Z} (f : Int32 → Int32 → Int32 → Int32 → pj_F (Int32 × pj_Z)) (hf : ∀ (a1 : Int32) (a2 : Int32) (a4 : Int32) (b0 : Int32) (s : Nat → Int32) (l : Nat → Int64) (x : Nat → Int32) (y : Nat → Int64), f a1 a2 a4 b0 s l x y = some a → pm_Gd 2 12024 ie_X12_isBook.1 pm_rI lf 89 [(0, .ref 124), (1, .int a1), (2, .int a2), (4, .int a4)] [.int b0] (s, l, x, y) a) : pm_Ex 2 12024 ie_X12_isBook.1 pm_rI lf a 89 (pe_X12_isBook_89 f) := by
  intro lv st z hd h
  obtain ⟨g0, h⟩ := pj_xr_inv h
  obtain ⟨a1, g1, h⟩ := pj_xi_inv h
  obtain ⟨a2, g2, h⟩ := pj_xi_inv h
  obtain ⟨a4, g4, h⟩ := pj_xi_inv h
  obtain ⟨b0, r0, e0, h⟩ := pj_pi_inv h
  obtain ⟨e9, h⟩ := pj_pe_inv h
  rw [e0, e9]
  exact mj_wp_sub (mj_sub_cons g0 (mj_sub_cons g1 (mj_sub_cons g2 (mj_sub_cons g4 (mj_sub_nil hd))))) (hf _ _ _ _ _ _ _ _ h)
set_option maxRecDepth 100000 in
theorem pz_X12_isBook {lf : pj_Z → mj_M} (hT : pj_Lt pj_TR lf) : pj_Cok ic_P (mj_R ic_P 2) 12024 ie_X12_isBook.1 (pm_OK lf pm_rI) lf px_X12_isBook := by
  exact pm_cok (c := px_X12_isBook) hT (pm_in_ok (L := [(203, 12, 168, 2, true)]) (f := mj_pF ic_P 12024) (by decide +kernel)) (fun _ _ h => by cases h) (fun _ _ h => by cases h) (fun _ _ h => by cases h) rfl rfl ⟨by decide, rfl⟩ pm_mI (pj_as_all (p := pm_Cl 2 12024 ie_X12_isBook.1 lf (pm_OK lf pm_rI)) (List.forall_mem_cons.mpr ⟨fun _ _ lv st z K a hK h => pc_X12_isCell hT (by decide) (ix := 584) rfl rfl hK h, (fun _ h => by cases h)⟩)) (fun _ h => by cases h)
set_option maxRecDepth 100000 in
theorem pb_X12_isBook : pm_bks ie_X12_isBook.1.2.2.2.2 pk_X12_isBook = true := by decide +kernel
set_option maxRecDepth 100000 in
theorem pg_X12_isBook_89 {lf : pj_Z → mj_M} (hT : pj_Lt pj_TR lf) {k23 : Int32 → Int32 → Int32 → Int32 → pj_F (Int32 × pj_Z)} (hk23 : ∀ (a1 : Int32) (a2 : Int32) (a3 : Int32) (a4 : Int32) (s : Nat → Int32) (l : Nat → Int64) (x : Nat → Int32) (y : Nat → Int64) (a : Int32 × pj_Z), k23 a1 a2 a3 a4 s l x y = some a → pm_Gd 2 12024 ie_X12_isBook.1 pm_rI lf 23 [(0, .ref 124), (1, .int a1), (2, .int a2), (3, .int a3), (4, .int a4)] [] (s, l, x, y) a) : ∀ (a1 : Int32) (a2 : Int32) (a4 : Int32) (b0 : Int32) (s : Nat → Int32) (l : Nat → Int64) (x : Nat → Int32) (y : Nat → Int64) (a : Int32 × pj_Z), pl_X12_isBook_89 k23 a1 a2 a4 b0 s l x y = some a → pm_Gd 2 12024 ie_X12_isBook.1 pm_rI lf 89 [(0, .ref 124), (1, .int a1), (2, .int a2), (4, .int a4)] [.int b0] (s, l, x, y) a := by
  intro a1 a2 a4 b0 s l x y a h
  exact pj_bl_ok (pz_X12_isBook hT) (fun t lv st z hd h => pj_rn_ok (pz_X12_isBook hT) (pm_bks_ok pb_X12_isBook) (pj_as_all (p := pm_Ex 2 12024 ie_X12_isBook.1 pm_rI lf a) (List.forall_mem_cons.mpr ⟨pu_X12_isBook_23 _ (fun c0 c1 c2 c3 s l x y h => hk23 c0 c1 c2 c3 s l x y _ h), (fun _ h => by cases h)⟩)) 60 t lv st z hd h) [(89, .istore_n 3, 1), (90, .iinc 4 1, 3), (93, .goto (-70), 3)] 89 [(0, pj_O (124, 0)), (1, pj_I a1), (2, pj_I a2), (4, pj_I a4)] [pj_I b0] (s, l, x, y) (pm_bks_ok pb_X12_isBook _ _ rfl) (pm_ndb_ok rfl) ((pq_X12_isBook_89 k23 a1 a2 a4 b0 s l x y).symm.trans h)
set_option maxRecDepth 100000 in
theorem pg_X12_isBook_88 {lf : pj_Z → mj_M} (hT : pj_Lt pj_TR lf) {k23 : Int32 → Int32 → Int32 → Int32 → pj_F (Int32 × pj_Z)} (hk23 : ∀ (a1 : Int32) (a2 : Int32) (a3 : Int32) (a4 : Int32) (s : Nat → Int32) (l : Nat → Int64) (x : Nat → Int32) (y : Nat → Int64) (a : Int32 × pj_Z), k23 a1 a2 a3 a4 s l x y = some a → pm_Gd 2 12024 ie_X12_isBook.1 pm_rI lf 23 [(0, .ref 124), (1, .int a1), (2, .int a2), (3, .int a3), (4, .int a4)] [] (s, l, x, y) a) : ∀ (a1 : Int32) (a2 : Int32) (a4 : Int32) (s : Nat → Int32) (l : Nat → Int64) (x : Nat → Int32) (y : Nat → Int64) (a : Int32 × pj_Z), pl_X12_isBook_88 k23 a1 a2 a4 s l x y = some a → pm_Gd 2 12024 ie_X12_isBook.1 pm_rI lf 88 [(0, .ref 124), (1, .int a1), (2, .int a2), (4, .int a4)] [] (s, l, x, y) a := by
  intro a1 a2 a4 s l x y a h
  exact pj_bl_ok (pz_X12_isBook hT) (fun t lv st z hd h => pj_rn_ok (pz_X12_isBook hT) (pm_bks_ok pb_X12_isBook) (pj_as_all (p := pm_Ex 2 12024 ie_X12_isBook.1 pm_rI lf a) (List.forall_mem_cons.mpr ⟨pu_X12_isBook_23 _ (fun c0 c1 c2 c3 s l x y h => hk23 c0 c1 c2 c3 s l x y _ h), (List.forall_mem_cons.mpr ⟨pu_X12_isBook_89 _ (fun c0 c1 c2 c3 s l x y h => pg_X12_isBook_89 hT hk23 c0 c1 c2 c3 s l x y _ h), (fun _ h => by cases h)⟩)⟩)) 60 t lv st z hd h) [(88, .iconst 0, 1)] 88 [(0, pj_O (124, 0)), (1, pj_I a1), (2, pj_I a2), (4, pj_I a4)] [] (s, l, x, y) (pm_bks_ok pb_X12_isBook _ _ rfl) (pm_ndb_ok rfl) ((pq_X12_isBook_88 k23 a1 a2 a4 s l x y).symm.trans h)
set_option maxRecDepth 100000 in
theorem pg_X12_isBook_66 {lf : pj_Z → mj_M} (hT : pj_Lt pj_TR lf) {k23 : Int32 → Int32 → Int32 → Int32 → pj_F (Int32 × pj_Z)} (hk23 : ∀ (a1 : Int32) (a2 : Int32) (a3 : Int32) (a4 : Int32) (s : Nat → Int32) (l : Nat → Int64) (x : Nat → Int32) (y : Nat → Int64) (a : Int32 × pj_Z), k23 a1 a2 a3 a4 s l x y = some a → pm_Gd 2 12024 ie_X12_isBook.1 pm_rI lf 23 [(0, .ref 124), (1, .int a1), (2, .int a2), (3, .int a3), (4, .int a4)] [] (s, l, x, y) a) : ∀ (a1 : Int32) (a2 : Int32) (a4 : Int32) (b0 : Int32) (s : Nat → Int32) (l : Nat → Int64) (x : Nat → Int32) (y : Nat → Int64) (a : Int32 × pj_Z), pl_X12_isBook_66 k23 a1 a2 a4 b0 s l x y = some a → pm_Gd 2 12024 ie_X12_isBook.1 pm_rI lf 66 [(0, .ref 124), (1, .int a1), (2, .int a2), (4, .int a4)] [.int b0] (s, l, x, y) a := by
  intro a1 a2 a4 b0 s l x y a h
  exact pj_bl_ok (pz_X12_isBook hT) (fun t lv st z hd h => pj_rn_ok (pz_X12_isBook hT) (pm_bks_ok pb_X12_isBook) (pj_as_all (p := pm_Ex 2 12024 ie_X12_isBook.1 pm_rI lf a) (List.forall_mem_cons.mpr ⟨pu_X12_isBook_23 _ (fun c0 c1 c2 c3 s l x y h => hk23 c0 c1 c2 c3 s l x y _ h), (List.forall_mem_cons.mpr ⟨pu_X12_isBook_88 _ (fun c0 c1 c2 s l x y h => pg_X12_isBook_88 hT hk23 c0 c1 c2 s l x y _ h), (List.forall_mem_cons.mpr ⟨pu_X12_isBook_89 _ (fun c0 c1 c2 c3 s l x y h => pg_X12_isBook_89 hT hk23 c0 c1 c2 c3 s l x y _ h), (fun _ h => by cases h)⟩)⟩)⟩)) 60 t lv st z hd h) [(66, .aload_n 0, 1), (67, .getfield 203, 3), (70, .bipush 34, 2), (72, .iload_n 1, 1), (73, .imul, 1), (74, .iload 4, 2), (76, .iadd, 1), (77, .iaload, 1), (78, .invokestatic 584, 3), (81, .ifCond .eq 7, 3)] 66 [(0, pj_O (124, 0)), (1, pj_I a1), (2, pj_I a2), (4, pj_I a4)] [pj_I b0] (s, l, x, y) (pm_bks_ok pb_X12_isBook _ _ rfl) (pm_ndb_ok rfl) ((pq_X12_isBook_66 k23 a1 a2 a4 b0 s l x y).symm.trans h)
set_option maxRecDepth 100000 in
theorem pg_X12_isBook_23 {lf : pj_Z → mj_M} (hT : pj_Lt pj_TR lf) : ∀ (n : Nat), ∀ (a1 : Int32) (a2 : Int32) (a3 : Int32) (a4 : Int32) (s : Nat → Int32) (l : Nat → Int64) (x : Nat → Int32) (y : Nat → Int64) (a : Int32 × pj_Z), pl_X12_isBook_23 n a1 a2 a3 a4 s l x y = some a → pm_Gd 2 12024 ie_X12_isBook.1 pm_rI lf 23 [(0, .ref 124), (1, .int a1), (2, .int a2), (3, .int a3), (4, .int a4)] [] (s, l, x, y) a := by
  intro n
  induction n with
  | zero => intro a1 a2 a3 a4 s l x y a h; cases (show (none : Option (Int32 × pj_Z)) = some a from h)
  | succ n ih =>
    intro a1 a2 a3 a4 s l x y a h
    exact pj_bl_ok (pz_X12_isBook hT) (fun t lv st z hd h => pj_rn_ok (pz_X12_isBook hT) (pm_bks_ok pb_X12_isBook) (pj_as_all (p := pm_Ex 2 12024 ie_X12_isBook.1 pm_rI lf a) (List.forall_mem_cons.mpr ⟨pu_X12_isBook_23 _ (fun c0 c1 c2 c3 s l x y h => ih c0 c1 c2 c3 s l x y _ h), (List.forall_mem_cons.mpr ⟨pu_X12_isBook_66 _ (fun c0 c1 c2 c3 s l x y h => pg_X12_isBook_66 hT (fun a1 a2 a3 a4 s l x y a h => ih a1 a2 a3 a4 s l x y a h) c0 c1 c2 c3 s l x y _ h), (List.forall_mem_cons.mpr ⟨pu_X12_isBook_88 _ (fun c0 c1 c2 s l x y h => pg_X12_isBook_88 hT (fun a1 a2 a3 a4 s l x y a h => ih a1 a2 a3 a4 s l x y a h) c0 c1 c2 s l x y _ h), (fun _ h => by cases h)⟩)⟩)⟩)) 60 t lv st z hd h) [(23, .iload 4, 2), (25, .bipush 32, 2), (27, .if_icmp .gt 69, 3)] 23 [(0, pj_O (124, 0)), (1, pj_I a1), (2, pj_I a2), (3, pj_I a3), (4, pj_I a4)] [] (s, l, x, y) (pm_bks_ok pb_X12_isBook _ _ rfl) (pm_ndb_ok rfl) ((pq_X12_isBook_23 n a1 a2 a3 a4 s l x y).symm.trans h)
set_option maxRecDepth 100000 in
theorem pg_X12_isBook_19 {lf : pj_Z → mj_M} (hT : pj_Lt pj_TR lf) : ∀ (a1 : Int32) (a2 : Int32) (b0 : Int32) (s : Nat → Int32) (l : Nat → Int64) (x : Nat → Int32) (y : Nat → Int64) (a : Int32 × pj_Z), pl_X12_isBook_19 a1 a2 b0 s l x y = some a → pm_Gd 2 12024 ie_X12_isBook.1 pm_rI lf 19 [(0, .ref 124), (1, .int a1), (2, .int a2)] [.int b0] (s, l, x, y) a := by
  intro a1 a2 b0 s l x y a h
  exact pj_bl_ok (pz_X12_isBook hT) (fun t lv st z hd h => pj_rn_ok (pz_X12_isBook hT) (pm_bks_ok pb_X12_isBook) (pj_as_all (p := pm_Ex 2 12024 ie_X12_isBook.1 pm_rI lf a) (List.forall_mem_cons.mpr ⟨pu_X12_isBook_23 _ (fun c0 c1 c2 c3 s l x y h => pg_X12_isBook_23 hT (pj_fu 0) c0 c1 c2 c3 s l x y _ h), (fun _ h => by cases h)⟩)) 60 t lv st z hd h) [(19, .istore_n 3, 1), (20, .iconst 1, 1), (21, .istore 4, 2)] 19 [(0, pj_O (124, 0)), (1, pj_I a1), (2, pj_I a2)] [pj_I b0] (s, l, x, y) (pm_bks_ok pb_X12_isBook _ _ rfl) (pm_ndb_ok rfl) ((pq_X12_isBook_19  a1 a2 b0 s l x y).symm.trans h)
set_option maxRecDepth 100000 in
theorem pm_X12_isBook {lf : pj_Z → mj_M} (hT : pj_Lt pj_TR lf) (a1 : Int32) (s : Nat → Int32) (l : Nat → Int64) (x : Nat → Int32) (y : Nat → Int64) (a : Int32 × pj_Z) (h : pf_X12_isBook a1 s l x y = some a) : mj_R ic_P 3 12024 [.ref 124, .int a1] (lf (s, l, x, y)) (pm_rI a.1) (lf a.2) := by
  refine pm_main (Y := ie_X12_isBook.1) rfl (Nat.le_of_ble_eq_true rfl) ?_
  exact pj_bl_ok (pz_X12_isBook hT) (fun t lv st z hd h => pj_rn_ok (pz_X12_isBook hT) (pm_bks_ok pb_X12_isBook) (pj_as_all (p := pm_Ex 2 12024 ie_X12_isBook.1 pm_rI lf a) (List.forall_mem_cons.mpr ⟨pu_X12_isBook_19 _ (fun c0 c1 c2 s l x y h => pg_X12_isBook_19 hT c0 c1 c2 s l x y _ h), (fun _ h => by cases h)⟩)) 60 t lv st z hd h) [(0, .aload_n 0, 1), (1, .getfield 203, 3), (4, .bipush 34, 2), (6, .iload_n 1, 1), (7, .imul, 1), (8, .iaload, 1), (9, .istore_n 2, 1), (10, .iload_n 2, 1), (11, .ifCond .le 7, 3)] 0 [(0, pj_O (124, 0)), (1, pj_I a1)] [] (s, l, x, y) (pm_bks_ok pb_X12_isBook _ _ rfl) (pm_ndb_ok rfl) ((pq_X12_isBook_m a1 s l x y).symm.trans h)
abbrev ph_X12_isBook {A : Type} : List pj_V → pj_Z → (List pj_V → pj_Z → Option A) → Option A := fun st z K => pj_pi st fun a1 st => pj_pr st 124 0 fun st => pj_ps st (pj_b (pf_X12_isBook a1 z.1 z.2.1 z.2.2.1 z.2.2.2) fun r s l x y => K (pj_I r :: st) (s, l, x, y))
set_option maxRecDepth 100000 in
theorem pc_X12_isBook {A : Type} {OK : A → Option Value → mj_M → Prop} {d j pc ix : Nat} {Y : mj_Y} {lf : pj_Z → mj_M} (hT : pj_Lt pj_TR lf) (hd : 3 ≤ d) (hl : mj_lk Y.2.2.2.2 pc = some (.invokevirtual ix, 3)) (hg : mj_pG ic_P j ix = some (12024, 1, some 12)) {lv : List (Nat × Value)} {st : List pj_V} {z : pj_Z} {K : List pj_V → pj_Z → Option A} {a : A} (hK : ∀ st z, K st z = some a → pj_Gd ic_P (mj_R ic_P d) j Y OK lf (pc + 3) lv (pj_es st) z a) (h : ph_X12_isBook st z K = some a) : pj_Gd ic_P (mj_R ic_P d) j Y OK lf pc lv (pj_es st) z a := by
  obtain ⟨a1, r1, e1, h⟩ := pj_pi_inv h
  obtain ⟨r0, e0, h⟩ := pj_pr_inv h
  obtain ⟨hs, h⟩ := pj_ps_inv h
  obtain ⟨q, hq, h⟩ := pj_b_inv h
  exact pm_cv (o := 124) hl hg [.int a1] rfl (by rw [e1, e0]; rfl) hs (by decide) ((hT.2 124 _ rfl).1.2 z 0 (by decide)) (pm_rI q.1) hd (pm_X12_isBook hT a1 z.1 z.2.1 z.2.2.1 z.2.2.2 q hq) rfl (hK _ _ h)
abbrev pe_X12_validBook_42 (f : Int32 → Int32 → pj_F (Int32 × pj_Z)) : pj_K (Int32 × pj_Z) := fun lv st z => pj_xi lv 1 fun a1 => pj_xi lv 2 fun a2 => pj_pe st (f a1 a2 z.1 z.2.1 z.2.2.1 z.2.2.2)
abbrev px_X12_validBook : pj_C (Int32 × pj_Z) := (pj_TR, (pj_as [(203, 12, 168, 2, true)]), (fun _ => none), (fun _ => none), (fun _ => none), ic_X, 3, 1, pj_mI, (pj_as [(2, ph_X12_isBook), (8, ph_X12_isBook)]), fun _ => false)
abbrev pk_X12_validBook : List (Nat × List (Nat × Instr × Nat)) := [(0, [(0, .aload_n 0, 1), (1, .iconst 0, 1), (2, .invokevirtual 588, 3), (5, .istore_n 1, 1), (6, .aload_n 0, 1), (7, .iconst 1, 1), (8, .invokevirtual 588, 3), (11, .istore_n 2, 1), (12, .iload_n 1, 1), (13, .ifCond .eq 29, 3)]), (16, [(16, .iload_n 2, 1), (17, .ifCond .eq 25, 3)]), (20, [(20, .aload_n 0, 1), (21, .getfield 203, 3), (24, .bipush 34, 2), (26, .iaload, 1), (27, .aload_n 0, 1), (28, .getfield 203, 3), (31, .iconst 0, 1), (32, .iaload, 1), (33, .if_icmp .le 7, 3)]), (36, [(36, .iconst 1, 1), (37, .goto 4, 3)]), (40, [(40, .iconst 0, 1)]), (41, [(41, .ireturn, 1)]), (42, [(42, .iload_n 1, 1), (43, .ifCond .eq 7, 3)]), (46, [(46, .iconst 0, 1), (47, .goto 12, 3)]), (50, [(50, .iload_n 2, 1), (51, .ifCond .eq 7, 3)]), (54, [(54, .iconst 1, 1), (55, .goto 4, 3)]), (58, [(58, .iconst (-1), 1)]), (59, [(59, .ireturn, 1)])]
set_option maxRecDepth 100000 in
theorem pq_X12_validBook_42 (a1 : Int32) (a2 : Int32) (s : Nat → Int32) (l : Nat → Int64) (x : Nat → Int32) (y : Nat → Int64) : pl_X12_validBook_42 a1 a2 s l x y = pj_bl px_X12_validBook (pj_rn px_X12_validBook (pj_as pk_X12_validBook) (fun _ => none) 60) [(42, .iload_n 1, 1), (43, .ifCond .eq 7, 3)] 42 [(1, pj_I a1), (2, pj_I a2)] [] (s, l, x, y) := rfl
set_option maxRecDepth 100000 in
theorem pq_X12_validBook_m  (s : Nat → Int32) (l : Nat → Int64) (x : Nat → Int32) (y : Nat → Int64) : pf_X12_validBook  s l x y = pj_bl px_X12_validBook (pj_rn px_X12_validBook (pj_as pk_X12_validBook) (pj_as [(42, pe_X12_validBook_42 (pl_X12_validBook_42))]) 60) [(0, .aload_n 0, 1), (1, .iconst 0, 1), (2, .invokevirtual 588, 3), (5, .istore_n 1, 1), (6, .aload_n 0, 1), (7, .iconst 1, 1), (8, .invokevirtual 588, 3), (11, .istore_n 2, 1), (12, .iload_n 1, 1), (13, .ifCond .eq 29, 3)] 0 [(0, pj_O (124, 0))] [] (s, l, x, y) := rfl
theorem pu_X12_validBook_42 {lf : pj_Z → mj_M} {a : Int32 × pj_Z} (f : Int32 → Int32 → pj_F (Int32 × pj_Z)) (hf : ∀ (a1 : Int32) (a2 : Int32) (s : Nat → Int32) (l : Nat → Int64) (x : Nat → Int32) (y : Nat → Int64), f a1 a2 s l x y = some a → pm_Gd 3 12025 ie_X12_validBook.1 pm_rI lf 42 [(1, .int a1), (2, .int a2)] [] (s, l, x, y) a) : pm_Ex 3 12025 ie_X12_validBook.1 pm_rI lf a 42 (pe_X12_validBook_42 f) := by
  intro lv st z hd h
  obtain ⟨a1, g1, h⟩ := pj_xi_inv h
  obtain ⟨a2, g2, h⟩ := pj_xi_inv h
  obtain ⟨e9, h⟩ := pj_pe_inv h
  rw [e9]
  exact mj_wp_sub (mj_sub_cons g1 (mj_sub_cons g2 (mj_sub_nil hd))) (hf _ _ _ _ _ _ h)
set_option maxRecDepth 100000 in
theorem pz_X12_validBook {lf : pj_Z → mj_M} (hT : pj_Lt pj_TR lf) : pj_Cok ic_P (mj_R ic_P 3) 12025 ie_X12_validBook.1 (pm_OK lf pm_rI) lf px_X12_validBook := by
  exact pm_cok (c := px_X12_validBook) hT (pm_in_ok (L := [(203, 12, 168, 2, true)]) (f := mj_pF ic_P 12025) (by decide +kernel)) (fun _ _ h => by cases h) (fun _ _ h => by cases h) (fun _ _ h => by cases h) rfl rfl ⟨by decide, rfl⟩ pm_mI (pj_as_all (p := pm_Cl 3 12025 ie_X12_validBook.1 lf (pm_OK lf pm_rI)) (List.forall_mem_cons.mpr ⟨fun _ _ lv st z K a hK h => pc_X12_isBook hT (by decide) (ix := 588) rfl rfl hK h, (List.forall_mem_cons.mpr ⟨fun _ _ lv st z K a hK h => pc_X12_isBook hT (by decide) (ix := 588) rfl rfl hK h, (fun _ h => by cases h)⟩)⟩)) (fun _ h => by cases h)
set_option maxRecDepth 100000 in
theorem pb_X12_validBook : pm_bks ie_X12_validBook.1.2.2.2.2 pk_X12_validBook = true := by decide +kernel
set_option maxRecDepth 100000 in
theorem pg_X12_validBook_42 {lf : pj_Z → mj_M} (hT : pj_Lt pj_TR lf) : ∀ (a1 : Int32) (a2 : Int32) (s : Nat → Int32) (l : Nat → Int64) (x : Nat → Int32) (y : Nat → Int64) (a : Int32 × pj_Z), pl_X12_validBook_42 a1 a2 s l x y = some a → pm_Gd 3 12025 ie_X12_validBook.1 pm_rI lf 42 [(1, .int a1), (2, .int a2)] [] (s, l, x, y) a := by
  intro a1 a2 s l x y a h
  exact pj_bl_ok (pz_X12_validBook hT) (fun t lv st z hd h => pj_rn_ok (pz_X12_validBook hT) (pm_bks_ok pb_X12_validBook) (fun _ _ h => by cases h) 60 t lv st z hd h) [(42, .iload_n 1, 1), (43, .ifCond .eq 7, 3)] 42 [(1, pj_I a1), (2, pj_I a2)] [] (s, l, x, y) (pm_bks_ok pb_X12_validBook _ _ rfl) (pm_ndb_ok rfl) ((pq_X12_validBook_42  a1 a2 s l x y).symm.trans h)
set_option maxRecDepth 100000 in
theorem pm_X12_validBook {lf : pj_Z → mj_M} (hT : pj_Lt pj_TR lf)  (s : Nat → Int32) (l : Nat → Int64) (x : Nat → Int32) (y : Nat → Int64) (a : Int32 × pj_Z) (h : pf_X12_validBook  s l x y = some a) : mj_R ic_P 4 12025 [.ref 124] (lf (s, l, x, y)) (pm_rI a.1) (lf a.2) := by
  refine pm_main (Y := ie_X12_validBook.1) rfl (Nat.le_of_ble_eq_true rfl) ?_
  exact pj_bl_ok (pz_X12_validBook hT) (fun t lv st z hd h => pj_rn_ok (pz_X12_validBook hT) (pm_bks_ok pb_X12_validBook) (pj_as_all (p := pm_Ex 3 12025 ie_X12_validBook.1 pm_rI lf a) (List.forall_mem_cons.mpr ⟨pu_X12_validBook_42 _ (fun c0 c1 s l x y h => pg_X12_validBook_42 hT c0 c1 s l x y _ h), (fun _ h => by cases h)⟩)) 60 t lv st z hd h) [(0, .aload_n 0, 1), (1, .iconst 0, 1), (2, .invokevirtual 588, 3), (5, .istore_n 1, 1), (6, .aload_n 0, 1), (7, .iconst 1, 1), (8, .invokevirtual 588, 3), (11, .istore_n 2, 1), (12, .iload_n 1, 1), (13, .ifCond .eq 29, 3)] 0 [(0, pj_O (124, 0))] [] (s, l, x, y) (pm_bks_ok pb_X12_validBook _ _ rfl) (pm_ndb_ok rfl) ((pq_X12_validBook_m  s l x y).symm.trans h)
abbrev ph_X12_validBook {A : Type} : List pj_V → pj_Z → (List pj_V → pj_Z → Option A) → Option A := fun st z K => pj_pr st 124 0 fun st => pj_ps st (pj_b (pf_X12_validBook  z.1 z.2.1 z.2.2.1 z.2.2.2) fun r s l x y => K (pj_I r :: st) (s, l, x, y))
set_option maxRecDepth 100000 in
theorem pc_X12_validBook {A : Type} {OK : A → Option Value → mj_M → Prop} {d j pc ix : Nat} {Y : mj_Y} {lf : pj_Z → mj_M} (hT : pj_Lt pj_TR lf) (hd : 4 ≤ d) (hl : mj_lk Y.2.2.2.2 pc = some (.invokevirtual ix, 3)) (hg : mj_pG ic_P j ix = some (12025, 0, some 12)) {lv : List (Nat × Value)} {st : List pj_V} {z : pj_Z} {K : List pj_V → pj_Z → Option A} {a : A} (hK : ∀ st z, K st z = some a → pj_Gd ic_P (mj_R ic_P d) j Y OK lf (pc + 3) lv (pj_es st) z a) (h : ph_X12_validBook st z K = some a) : pj_Gd ic_P (mj_R ic_P d) j Y OK lf pc lv (pj_es st) z a := by
  obtain ⟨r0, e0, h⟩ := pj_pr_inv h
  obtain ⟨hs, h⟩ := pj_ps_inv h
  obtain ⟨q, hq, h⟩ := pj_b_inv h
  exact pm_cv (o := 124) hl hg [] rfl (by rw [e0]; rfl) hs (by decide) ((hT.2 124 _ rfl).1.2 z 0 (by decide)) (pm_rI q.1) hd (pm_X12_validBook hT  z.1 z.2.1 z.2.2.1 z.2.2.2 q hq) rfl (hK _ _ h)
abbrev pe_X12_sumOf_12 (f : Int32 → Int32 → Int32 → pj_F (Int32 × pj_Z)) : pj_K (Int32 × pj_Z) := fun lv st z => pj_xr lv 0 124 0 <| pj_xi lv 1 fun a1 => pj_xi lv 2 fun a2 => pj_xi lv 3 fun a3 => pj_pe st (f a1 a2 a3 z.1 z.2.1 z.2.2.1 z.2.2.2)
abbrev px_X12_sumOf : pj_C (Int32 × pj_Z) := (pj_TR, (pj_as [(37, 12, 9, 2, true)]), (fun _ => none), (fun _ => none), (fun _ => none), ic_X, 4, 1, pj_mI, (fun _ => none), fun _ => false)
abbrev pk_X12_sumOf : List (Nat × List (Nat × Instr × Nat)) := [(0, [(0, .aload_n 0, 1), (1, .getfield 37, 3), (4, .bipush 55, 2), (6, .iload_n 1, 1), (7, .imul, 1), (8, .iaload, 1), (9, .istore_n 2, 1), (10, .iconst 1, 1), (11, .istore_n 3, 1)]), (12, [(12, .iload_n 3, 1), (13, .bipush 53, 2), (15, .if_icmp .gt 27, 3)]), (18, [(18, .iload_n 2, 1), (19, .iload_n 3, 1), (20, .iconst 1, 1), (21, .iadd, 1), (22, .aload_n 0, 1), (23, .getfield 37, 3), (26, .bipush 55, 2), (28, .iload_n 1, 1), (29, .imul, 1), (30, .iload_n 3, 1), (31, .iadd, 1), (32, .iaload, 1), (33, .imul, 1), (34, .iadd, 1), (35, .istore_n 2, 1), (36, .iinc 3 1, 3), (39, .goto (-27), 3)]), (42, [(42, .iload_n 2, 1), (43, .ireturn, 1)])]
set_option maxRecDepth 100000 in
theorem pq_X12_sumOf_12 (n : Nat) (a1 : Int32) (a2 : Int32) (a3 : Int32) (s : Nat → Int32) (l : Nat → Int64) (x : Nat → Int32) (y : Nat → Int64) : pl_X12_sumOf_12 (n + 1) a1 a2 a3 s l x y = pj_bl px_X12_sumOf (pj_rn px_X12_sumOf (pj_as pk_X12_sumOf) (pj_as [(12, pe_X12_sumOf_12 (pl_X12_sumOf_12 n))]) 60) [(12, .iload_n 3, 1), (13, .bipush 53, 2), (15, .if_icmp .gt 27, 3)] 12 [(0, pj_O (124, 0)), (1, pj_I a1), (2, pj_I a2), (3, pj_I a3)] [] (s, l, x, y) := rfl
set_option maxRecDepth 100000 in
theorem pq_X12_sumOf_m (a1 : Int32) (s : Nat → Int32) (l : Nat → Int64) (x : Nat → Int32) (y : Nat → Int64) : pf_X12_sumOf a1 s l x y = pj_bl px_X12_sumOf (pj_rn px_X12_sumOf (pj_as pk_X12_sumOf) (pj_as [(12, pe_X12_sumOf_12 (pl_X12_sumOf_12 (pj_fu 0)))]) 60) [(0, .aload_n 0, 1), (1, .getfield 37, 3), (4, .bipush 55, 2), (6, .iload_n 1, 1), (7, .imul, 1), (8, .iaload, 1), (9, .istore_n 2, 1), (10, .iconst 1, 1), (11, .istore_n 3, 1)] 0 [(0, pj_O (124, 0)), (1, pj_I a1)] [] (s, l, x, y) := rfl
theorem pu_X12_sumOf_12 {lf : pj_Z → mj_M} {a : Int32 × pj_Z} (f : Int32 → Int32 → Int32 → pj_F (Int32 × pj_Z)) (hf : ∀ (a1 : Int32) (a2 : Int32) (a3 : Int32) (s : Nat → Int32) (l : Nat → Int64) (x : Nat → Int32) (y : Nat → Int64), f a1 a2 a3 s l x y = some a → pm_Gd 0 12015 ie_X12_sumOf.1 pm_rI lf 12 [(0, .ref 124), (1, .int a1), (2, .int a2), (3, .int a3)] [] (s, l, x, y) a) : pm_Ex 0 12015 ie_X12_sumOf.1 pm_rI lf a 12 (pe_X12_sumOf_12 f) := by
  intro lv st z hd h
  obtain ⟨g0, h⟩ := pj_xr_inv h
  obtain ⟨a1, g1, h⟩ := pj_xi_inv h
  obtain ⟨a2, g2, h⟩ := pj_xi_inv h
  obtain ⟨a3, g3, h⟩ := pj_xi_inv h
  obtain ⟨e9, h⟩ := pj_pe_inv h
  rw [e9]
  exact mj_wp_sub (mj_sub_cons g0 (mj_sub_cons g1 (mj_sub_cons g2 (mj_sub_cons g3 (mj_sub_nil hd))))) (hf _ _ _ _ _ _ _ h)
set_option maxRecDepth 100000 in
theorem pz_X12_sumOf {lf : pj_Z → mj_M} (hT : pj_Lt pj_TR lf) : pj_Cok ic_P (mj_R ic_P 0) 12015 ie_X12_sumOf.1 (pm_OK lf pm_rI) lf px_X12_sumOf := by
  exact pm_cok (c := px_X12_sumOf) hT (pm_in_ok (L := [(37, 12, 9, 2, true)]) (f := mj_pF ic_P 12015) (by decide +kernel)) (fun _ _ h => by cases h) (fun _ _ h => by cases h) (fun _ _ h => by cases h) rfl rfl ⟨by decide, rfl⟩ pm_mI (fun _ _ h => by cases h) (fun _ h => by cases h)
set_option maxRecDepth 100000 in
theorem pb_X12_sumOf : pm_bks ie_X12_sumOf.1.2.2.2.2 pk_X12_sumOf = true := by decide +kernel
set_option maxRecDepth 100000 in
theorem pg_X12_sumOf_12 {lf : pj_Z → mj_M} (hT : pj_Lt pj_TR lf) : ∀ (n : Nat), ∀ (a1 : Int32) (a2 : Int32) (a3 : Int32) (s : Nat → Int32) (l : Nat → Int64) (x : Nat → Int32) (y : Nat → Int64) (a : Int32 × pj_Z), pl_X12_sumOf_12 n a1 a2 a3 s l x y = some a → pm_Gd 0 12015 ie_X12_sumOf.1 pm_rI lf 12 [(0, .ref 124), (1, .int a1), (2, .int a2), (3, .int a3)] [] (s, l, x, y) a := by
  intro n
  induction n with
  | zero => intro a1 a2 a3 s l x y a h; cases (show (none : Option (Int32 × pj_Z)) = some a from h)
  | succ n ih =>
    intro a1 a2 a3 s l x y a h
    exact pj_bl_ok (pz_X12_sumOf hT) (fun t lv st z hd h => pj_rn_ok (pz_X12_sumOf hT) (pm_bks_ok pb_X12_sumOf) (pj_as_all (p := pm_Ex 0 12015 ie_X12_sumOf.1 pm_rI lf a) (List.forall_mem_cons.mpr ⟨pu_X12_sumOf_12 _ (fun c0 c1 c2 s l x y h => ih c0 c1 c2 s l x y _ h), (fun _ h => by cases h)⟩)) 60 t lv st z hd h) [(12, .iload_n 3, 1), (13, .bipush 53, 2), (15, .if_icmp .gt 27, 3)] 12 [(0, pj_O (124, 0)), (1, pj_I a1), (2, pj_I a2), (3, pj_I a3)] [] (s, l, x, y) (pm_bks_ok pb_X12_sumOf _ _ rfl) (pm_ndb_ok rfl) ((pq_X12_sumOf_12 n a1 a2 a3 s l x y).symm.trans h)
set_option maxRecDepth 100000 in
theorem pm_X12_sumOf {lf : pj_Z → mj_M} (hT : pj_Lt pj_TR lf) (a1 : Int32) (s : Nat → Int32) (l : Nat → Int64) (x : Nat → Int32) (y : Nat → Int64) (a : Int32 × pj_Z) (h : pf_X12_sumOf a1 s l x y = some a) : mj_R ic_P 1 12015 [.ref 124, .int a1] (lf (s, l, x, y)) (pm_rI a.1) (lf a.2) := by
  refine pm_main (Y := ie_X12_sumOf.1) rfl (Nat.le_of_ble_eq_true rfl) ?_
  exact pj_bl_ok (pz_X12_sumOf hT) (fun t lv st z hd h => pj_rn_ok (pz_X12_sumOf hT) (pm_bks_ok pb_X12_sumOf) (pj_as_all (p := pm_Ex 0 12015 ie_X12_sumOf.1 pm_rI lf a) (List.forall_mem_cons.mpr ⟨pu_X12_sumOf_12 _ (fun c0 c1 c2 s l x y h => pg_X12_sumOf_12 hT (pj_fu 0) c0 c1 c2 s l x y _ h), (fun _ h => by cases h)⟩)) 60 t lv st z hd h) [(0, .aload_n 0, 1), (1, .getfield 37, 3), (4, .bipush 55, 2), (6, .iload_n 1, 1), (7, .imul, 1), (8, .iaload, 1), (9, .istore_n 2, 1), (10, .iconst 1, 1), (11, .istore_n 3, 1)] 0 [(0, pj_O (124, 0)), (1, pj_I a1)] [] (s, l, x, y) (pm_bks_ok pb_X12_sumOf _ _ rfl) (pm_ndb_ok rfl) ((pq_X12_sumOf_m a1 s l x y).symm.trans h)
abbrev ph_X12_sumOf {A : Type} : List pj_V → pj_Z → (List pj_V → pj_Z → Option A) → Option A := fun st z K => pj_pi st fun a1 st => pj_pr st 124 0 fun st => pj_ps st (pj_b (pf_X12_sumOf a1 z.1 z.2.1 z.2.2.1 z.2.2.2) fun r s l x y => K (pj_I r :: st) (s, l, x, y))
set_option maxRecDepth 100000 in
theorem pc_X12_sumOf {A : Type} {OK : A → Option Value → mj_M → Prop} {d j pc ix : Nat} {Y : mj_Y} {lf : pj_Z → mj_M} (hT : pj_Lt pj_TR lf) (hd : 1 ≤ d) (hl : mj_lk Y.2.2.2.2 pc = some (.invokevirtual ix, 3)) (hg : mj_pG ic_P j ix = some (12015, 1, some 12)) {lv : List (Nat × Value)} {st : List pj_V} {z : pj_Z} {K : List pj_V → pj_Z → Option A} {a : A} (hK : ∀ st z, K st z = some a → pj_Gd ic_P (mj_R ic_P d) j Y OK lf (pc + 3) lv (pj_es st) z a) (h : ph_X12_sumOf st z K = some a) : pj_Gd ic_P (mj_R ic_P d) j Y OK lf pc lv (pj_es st) z a := by
  obtain ⟨a1, r1, e1, h⟩ := pj_pi_inv h
  obtain ⟨r0, e0, h⟩ := pj_pr_inv h
  obtain ⟨hs, h⟩ := pj_ps_inv h
  obtain ⟨q, hq, h⟩ := pj_b_inv h
  exact pm_cv (o := 124) hl hg [.int a1] rfl (by rw [e1, e0]; rfl) hs (by decide) ((hT.2 124 _ rfl).1.2 z 0 (by decide)) (pm_rI q.1) hd (pm_X12_sumOf hT a1 z.1 z.2.1 z.2.2.1 z.2.2.2 q hq) rfl (hK _ _ h)
abbrev px_X12_isValid : pj_C (Int32 × pj_Z) := (pj_TR, (pj_as [(37, 12, 9, 2, true)]), (fun _ => none), (fun _ => none), (fun _ => none), ic_X, 2, 2, pj_mI, (pj_as [(26, ph_X12_sumOf)]), fun _ => false)
abbrev pk_X12_isValid : List (Nat × List (Nat × Instr × Nat)) := [(0, [(0, .aload_n 0, 1), (1, .getfield 37, 3), (4, .bipush 55, 2), (6, .iload_n 1, 1), (7, .imul, 1), (8, .iaload, 1), (9, .ifCond .le 27, 3)]), (12, [(12, .aload_n 0, 1), (13, .getfield 37, 3), (16, .bipush 55, 2), (18, .iload_n 1, 1), (19, .imul, 1), (20, .bipush 54, 2), (22, .iadd, 1), (23, .iaload, 1), (24, .aload_n 0, 1), (25, .iload_n 1, 1), (26, .invokevirtual 528, 3), (29, .if_icmp .ne 7, 3)]), (32, [(32, .iconst 1, 1), (33, .goto 4, 3)]), (36, [(36, .iconst 0, 1)]), (37, [(37, .ireturn, 1)])]
set_option maxRecDepth 100000 in
theorem pq_X12_isValid_m (a1 : Int32) (s : Nat → Int32) (l : Nat → Int64) (x : Nat → Int32) (y : Nat → Int64) : pf_X12_isValid a1 s l x y = pj_bl px_X12_isValid (pj_rn px_X12_isValid (pj_as pk_X12_isValid) (fun _ => none) 60) [(0, .aload_n 0, 1), (1, .getfield 37, 3), (4, .bipush 55, 2), (6, .iload_n 1, 1), (7, .imul, 1), (8, .iaload, 1), (9, .ifCond .le 27, 3)] 0 [(0, pj_O (124, 0)), (1, pj_I a1)] [] (s, l, x, y) := rfl
set_option maxRecDepth 100000 in
theorem pz_X12_isValid {lf : pj_Z → mj_M} (hT : pj_Lt pj_TR lf) : pj_Cok ic_P (mj_R ic_P 1) 12016 ie_X12_isValid.1 (pm_OK lf pm_rI) lf px_X12_isValid := by
  exact pm_cok (c := px_X12_isValid) hT (pm_in_ok (L := [(37, 12, 9, 2, true)]) (f := mj_pF ic_P 12016) (by decide +kernel)) (fun _ _ h => by cases h) (fun _ _ h => by cases h) (fun _ _ h => by cases h) rfl rfl ⟨by decide, rfl⟩ pm_mI (pj_as_all (p := pm_Cl 1 12016 ie_X12_isValid.1 lf (pm_OK lf pm_rI)) (List.forall_mem_cons.mpr ⟨fun _ _ lv st z K a hK h => pc_X12_sumOf hT (by decide) (ix := 528) rfl rfl hK h, (fun _ h => by cases h)⟩)) (fun _ h => by cases h)
set_option maxRecDepth 100000 in
theorem pb_X12_isValid : pm_bks ie_X12_isValid.1.2.2.2.2 pk_X12_isValid = true := by decide +kernel
set_option maxRecDepth 100000 in
theorem pm_X12_isValid {lf : pj_Z → mj_M} (hT : pj_Lt pj_TR lf) (a1 : Int32) (s : Nat → Int32) (l : Nat → Int64) (x : Nat → Int32) (y : Nat → Int64) (a : Int32 × pj_Z) (h : pf_X12_isValid a1 s l x y = some a) : mj_R ic_P 2 12016 [.ref 124, .int a1] (lf (s, l, x, y)) (pm_rI a.1) (lf a.2) := by
  refine pm_main (Y := ie_X12_isValid.1) rfl (Nat.le_of_ble_eq_true rfl) ?_
  exact pj_bl_ok (pz_X12_isValid hT) (fun t lv st z hd h => pj_rn_ok (pz_X12_isValid hT) (pm_bks_ok pb_X12_isValid) (fun _ _ h => by cases h) 60 t lv st z hd h) [(0, .aload_n 0, 1), (1, .getfield 37, 3), (4, .bipush 55, 2), (6, .iload_n 1, 1), (7, .imul, 1), (8, .iaload, 1), (9, .ifCond .le 27, 3)] 0 [(0, pj_O (124, 0)), (1, pj_I a1)] [] (s, l, x, y) (pm_bks_ok pb_X12_isValid _ _ rfl) (pm_ndb_ok rfl) ((pq_X12_isValid_m a1 s l x y).symm.trans h)
abbrev ph_X12_isValid {A : Type} : List pj_V → pj_Z → (List pj_V → pj_Z → Option A) → Option A := fun st z K => pj_pi st fun a1 st => pj_pr st 124 0 fun st => pj_ps st (pj_b (pf_X12_isValid a1 z.1 z.2.1 z.2.2.1 z.2.2.2) fun r s l x y => K (pj_I r :: st) (s, l, x, y))
set_option maxRecDepth 100000 in
theorem pc_X12_isValid {A : Type} {OK : A → Option Value → mj_M → Prop} {d j pc ix : Nat} {Y : mj_Y} {lf : pj_Z → mj_M} (hT : pj_Lt pj_TR lf) (hd : 2 ≤ d) (hl : mj_lk Y.2.2.2.2 pc = some (.invokevirtual ix, 3)) (hg : mj_pG ic_P j ix = some (12016, 1, some 12)) {lv : List (Nat × Value)} {st : List pj_V} {z : pj_Z} {K : List pj_V → pj_Z → Option A} {a : A} (hK : ∀ st z, K st z = some a → pj_Gd ic_P (mj_R ic_P d) j Y OK lf (pc + 3) lv (pj_es st) z a) (h : ph_X12_isValid st z K = some a) : pj_Gd ic_P (mj_R ic_P d) j Y OK lf pc lv (pj_es st) z a := by
  obtain ⟨a1, r1, e1, h⟩ := pj_pi_inv h
  obtain ⟨r0, e0, h⟩ := pj_pr_inv h
  obtain ⟨hs, h⟩ := pj_ps_inv h
  obtain ⟨q, hq, h⟩ := pj_b_inv h
  exact pm_cv (o := 124) hl hg [.int a1] rfl (by rw [e1, e0]; rfl) hs (by decide) ((hT.2 124 _ rfl).1.2 z 0 (by decide)) (pm_rI q.1) hd (pm_X12_isValid hT a1 z.1 z.2.1 z.2.2.1 z.2.2.2 q hq) rfl (hK _ _ h)
abbrev pe_X12_validCopy_42 (f : Int32 → Int32 → pj_F (Int32 × pj_Z)) : pj_K (Int32 × pj_Z) := fun lv st z => pj_xi lv 1 fun a1 => pj_xi lv 2 fun a2 => pj_pe st (f a1 a2 z.1 z.2.1 z.2.2.1 z.2.2.2)
abbrev px_X12_validCopy : pj_C (Int32 × pj_Z) := (pj_TR, (pj_as [(37, 12, 9, 2, true)]), (fun _ => none), (fun _ => none), (fun _ => none), ic_X, 3, 1, pj_mI, (pj_as [(2, ph_X12_isValid), (8, ph_X12_isValid)]), fun _ => false)
abbrev pk_X12_validCopy : List (Nat × List (Nat × Instr × Nat)) := [(0, [(0, .aload_n 0, 1), (1, .iconst 0, 1), (2, .invokevirtual 531, 3), (5, .istore_n 1, 1), (6, .aload_n 0, 1), (7, .iconst 1, 1), (8, .invokevirtual 531, 3), (11, .istore_n 2, 1), (12, .iload_n 1, 1), (13, .ifCond .eq 29, 3)]), (16, [(16, .iload_n 2, 1), (17, .ifCond .eq 25, 3)]), (20, [(20, .aload_n 0, 1), (21, .getfield 37, 3), (24, .bipush 55, 2), (26, .iaload, 1), (27, .aload_n 0, 1), (28, .getfield 37, 3), (31, .iconst 0, 1), (32, .iaload, 1), (33, .if_icmp .le 7, 3)]), (36, [(36, .iconst 1, 1), (37, .goto 4, 3)]), (40, [(40, .iconst 0, 1)]), (41, [(41, .ireturn, 1)]), (42, [(42, .iload_n 1, 1), (43, .ifCond .eq 7, 3)]), (46, [(46, .iconst 0, 1), (47, .goto 12, 3)]), (50, [(50, .iload_n 2, 1), (51, .ifCond .eq 7, 3)]), (54, [(54, .iconst 1, 1), (55, .goto 4, 3)]), (58, [(58, .iconst (-1), 1)]), (59, [(59, .ireturn, 1)])]
set_option maxRecDepth 100000 in
theorem pq_X12_validCopy_42 (a1 : Int32) (a2 : Int32) (s : Nat → Int32) (l : Nat → Int64) (x : Nat → Int32) (y : Nat → Int64) : pl_X12_validCopy_42 a1 a2 s l x y = pj_bl px_X12_validCopy (pj_rn px_X12_validCopy (pj_as pk_X12_validCopy) (fun _ => none) 60) [(42, .iload_n 1, 1), (43, .ifCond .eq 7, 3)] 42 [(1, pj_I a1), (2, pj_I a2)] [] (s, l, x, y) := rfl
set_option maxRecDepth 100000 in
theorem pq_X12_validCopy_m  (s : Nat → Int32) (l : Nat → Int64) (x : Nat → Int32) (y : Nat → Int64) : pf_X12_validCopy  s l x y = pj_bl px_X12_validCopy (pj_rn px_X12_validCopy (pj_as pk_X12_validCopy) (pj_as [(42, pe_X12_validCopy_42 (pl_X12_validCopy_42))]) 60) [(0, .aload_n 0, 1), (1, .iconst 0, 1), (2, .invokevirtual 531, 3), (5, .istore_n 1, 1), (6, .aload_n 0, 1), (7, .iconst 1, 1), (8, .invokevirtual 531, 3), (11, .istore_n 2, 1), (12, .iload_n 1, 1), (13, .ifCond .eq 29, 3)] 0 [(0, pj_O (124, 0))] [] (s, l, x, y) := rfl
theorem pu_X12_validCopy_42 {lf : pj_Z → mj_M} {a : Int32 × pj_Z} (f : Int32 → Int32 → pj_F (Int32 × pj_Z)) (hf : ∀ (a1 : Int32) (a2 : Int32) (s : Nat → Int32) (l : Nat → Int64) (x : Nat → Int32) (y : Nat → Int64), f a1 a2 s l x y = some a → pm_Gd 2 12017 ie_X12_validCopy.1 pm_rI lf 42 [(1, .int a1), (2, .int a2)] [] (s, l, x, y) a) : pm_Ex 2 12017 ie_X12_validCopy.1 pm_rI lf a 42 (pe_X12_validCopy_42 f) := by
  intro lv st z hd h
  obtain ⟨a1, g1, h⟩ := pj_xi_inv h
  obtain ⟨a2, g2, h⟩ := pj_xi_inv h
  obtain ⟨e9, h⟩ := pj_pe_inv h
  rw [e9]
  exact mj_wp_sub (mj_sub_cons g1 (mj_sub_cons g2 (mj_sub_nil hd))) (hf _ _ _ _ _ _ h)
set_option maxRecDepth 100000 in
theorem pz_X12_validCopy {lf : pj_Z → mj_M} (hT : pj_Lt pj_TR lf) : pj_Cok ic_P (mj_R ic_P 2) 12017 ie_X12_validCopy.1 (pm_OK lf pm_rI) lf px_X12_validCopy := by
  exact pm_cok (c := px_X12_validCopy) hT (pm_in_ok (L := [(37, 12, 9, 2, true)]) (f := mj_pF ic_P 12017) (by decide +kernel)) (fun _ _ h => by cases h) (fun _ _ h => by cases h) (fun _ _ h => by cases h) rfl rfl ⟨by decide, rfl⟩ pm_mI (pj_as_all (p := pm_Cl 2 12017 ie_X12_validCopy.1 lf (pm_OK lf pm_rI)) (List.forall_mem_cons.mpr ⟨fun _ _ lv st z K a hK h => pc_X12_isValid hT (by decide) (ix := 531) rfl rfl hK h, (List.forall_mem_cons.mpr ⟨fun _ _ lv st z K a hK h => pc_X12_isValid hT (by decide) (ix := 531) rfl rfl hK h, (fun _ h => by cases h)⟩)⟩)) (fun _ h => by cases h)
set_option maxRecDepth 100000 in
theorem pb_X12_validCopy : pm_bks ie_X12_validCopy.1.2.2.2.2 pk_X12_validCopy = true := by decide +kernel
set_option maxRecDepth 100000 in
theorem pg_X12_validCopy_42 {lf : pj_Z → mj_M} (hT : pj_Lt pj_TR lf) : ∀ (a1 : Int32) (a2 : Int32) (s : Nat → Int32) (l : Nat → Int64) (x : Nat → Int32) (y : Nat → Int64) (a : Int32 × pj_Z), pl_X12_validCopy_42 a1 a2 s l x y = some a → pm_Gd 2 12017 ie_X12_validCopy.1 pm_rI lf 42 [(1, .int a1), (2, .int a2)] [] (s, l, x, y) a := by
  intro a1 a2 s l x y a h
  exact pj_bl_ok (pz_X12_validCopy hT) (fun t lv st z hd h => pj_rn_ok (pz_X12_validCopy hT) (pm_bks_ok pb_X12_validCopy) (fun _ _ h => by cases h) 60 t lv st z hd h) [(42, .iload_n 1, 1), (43, .ifCond .eq 7, 3)] 42 [(1, pj_I a1), (2, pj_I a2)] [] (s, l, x, y) (pm_bks_ok pb_X12_validCopy _ _ rfl) (pm_ndb_ok rfl) ((pq_X12_validCopy_42  a1 a2 s l x y).symm.trans h)
set_option maxRecDepth 100000 in
theorem pm_X12_validCopy {lf : pj_Z → mj_M} (hT : pj_Lt pj_TR lf)  (s : Nat → Int32) (l : Nat → Int64) (x : Nat → Int32) (y : Nat → Int64) (a : Int32 × pj_Z) (h : pf_X12_validCopy  s l x y = some a) : mj_R ic_P 3 12017 [.ref 124] (lf (s, l, x, y)) (pm_rI a.1) (lf a.2) := by
  refine pm_main (Y := ie_X12_validCopy.1) rfl (Nat.le_of_ble_eq_true rfl) ?_
  exact pj_bl_ok (pz_X12_validCopy hT) (fun t lv st z hd h => pj_rn_ok (pz_X12_validCopy hT) (pm_bks_ok pb_X12_validCopy) (pj_as_all (p := pm_Ex 2 12017 ie_X12_validCopy.1 pm_rI lf a) (List.forall_mem_cons.mpr ⟨pu_X12_validCopy_42 _ (fun c0 c1 s l x y h => pg_X12_validCopy_42 hT c0 c1 s l x y _ h), (fun _ h => by cases h)⟩)) 60 t lv st z hd h) [(0, .aload_n 0, 1), (1, .iconst 0, 1), (2, .invokevirtual 531, 3), (5, .istore_n 1, 1), (6, .aload_n 0, 1), (7, .iconst 1, 1), (8, .invokevirtual 531, 3), (11, .istore_n 2, 1), (12, .iload_n 1, 1), (13, .ifCond .eq 29, 3)] 0 [(0, pj_O (124, 0))] [] (s, l, x, y) (pm_bks_ok pb_X12_validCopy _ _ rfl) (pm_ndb_ok rfl) ((pq_X12_validCopy_m  s l x y).symm.trans h)
abbrev ph_X12_validCopy {A : Type} : List pj_V → pj_Z → (List pj_V → pj_Z → Option A) → Option A := fun st z K => pj_pr st 124 0 fun st => pj_ps st (pj_b (pf_X12_validCopy  z.1 z.2.1 z.2.2.1 z.2.2.2) fun r s l x y => K (pj_I r :: st) (s, l, x, y))
set_option maxRecDepth 100000 in
theorem pc_X12_validCopy {A : Type} {OK : A → Option Value → mj_M → Prop} {d j pc ix : Nat} {Y : mj_Y} {lf : pj_Z → mj_M} (hT : pj_Lt pj_TR lf) (hd : 3 ≤ d) (hl : mj_lk Y.2.2.2.2 pc = some (.invokevirtual ix, 3)) (hg : mj_pG ic_P j ix = some (12017, 0, some 12)) {lv : List (Nat × Value)} {st : List pj_V} {z : pj_Z} {K : List pj_V → pj_Z → Option A} {a : A} (hK : ∀ st z, K st z = some a → pj_Gd ic_P (mj_R ic_P d) j Y OK lf (pc + 3) lv (pj_es st) z a) (h : ph_X12_validCopy st z K = some a) : pj_Gd ic_P (mj_R ic_P d) j Y OK lf pc lv (pj_es st) z a := by
  obtain ⟨r0, e0, h⟩ := pj_pr_inv h
  obtain ⟨hs, h⟩ := pj_ps_inv h
  obtain ⟨q, hq, h⟩ := pj_b_inv h
  exact pm_cv (o := 124) hl hg [] rfl (by rw [e0]; rfl) hs (by decide) ((hT.2 124 _ rfl).1.2 z 0 (by decide)) (pm_rI q.1) hd (pm_X12_validCopy hT  z.1 z.2.1 z.2.2.1 z.2.2.2 q hq) rfl (hK _ _ h)
abbrev pe_X12_boot_42 (f : pj_F (Unit × pj_Z)) : pj_K (Unit × pj_Z) := fun lv st z => pj_xr lv 0 124 0 <| pj_pe st (f  z.1 z.2.1 z.2.2.1 z.2.2.2)
abbrev pe_X12_boot_49 (f : Int32 → Int32 → pj_F (Unit × pj_Z)) : pj_K (Unit × pj_Z) := fun lv st z => pj_xr lv 0 124 0 <| pj_xi lv 1 fun a1 => pj_xi lv 2 fun a2 => pj_pe st (f a1 a2 z.1 z.2.1 z.2.2.1 z.2.2.2)
abbrev pe_X12_boot_85 (f : pj_F (Unit × pj_Z)) : pj_K (Unit × pj_Z) := fun lv st z => pj_xr lv 0 124 0 <| pj_pe st (f  z.1 z.2.1 z.2.2.1 z.2.2.2)
abbrev pe_X12_boot_104 (f : Int32 → Int32 → pj_F (Unit × pj_Z)) : pj_K (Unit × pj_Z) := fun lv st z => pj_xr lv 0 124 0 <| pj_xi lv 3 fun a3 => pj_xi lv 4 fun a4 => pj_pe st (f a3 a4 z.1 z.2.1 z.2.2.1 z.2.2.2)
abbrev pe_X12_boot_143 (f : Int32 → Int32 → Int32 → Int32 → Int32 → pj_F (Unit × pj_Z)) : pj_K (Unit × pj_Z) := fun lv st z => pj_xr lv 0 124 0 <| pj_xi lv 3 fun a3 => pj_xi lv 4 fun a4 => pj_xi lv 5 fun a5 => pj_pi st fun b2 st => pj_pi st fun b1 st => pj_pr st 170 0 fun st => pj_pe st (f a3 a4 a5 b1 b2 z.1 z.2.1 z.2.2.1 z.2.2.2)
abbrev pe_X12_boot_163 (f : Int32 → Int32 → Int32 → Int32 → Int32 → pj_F (Unit × pj_Z)) : pj_K (Unit × pj_Z) := fun lv st z => pj_xr lv 0 124 0 <| pj_xi lv 3 fun a3 => pj_xi lv 4 fun a4 => pj_xi lv 5 fun a5 => pj_pi st fun b2 st => pj_pi st fun b1 st => pj_pr st 171 0 fun st => pj_pe st (f a3 a4 a5 b1 b2 z.1 z.2.1 z.2.2.1 z.2.2.2)
abbrev pe_X12_boot_222 (f : Int32 → Int32 → pj_F (Unit × pj_Z)) : pj_K (Unit × pj_Z) := fun lv st z => pj_xr lv 0 124 0 <| pj_xi lv 3 fun a3 => pj_xi lv 4 fun a4 => pj_pe st (f a3 a4 z.1 z.2.1 z.2.2.1 z.2.2.2)
abbrev pe_X12_boot_257 (f : Int32 → Int32 → Int32 → Int32 → Int32 → pj_F (Unit × pj_Z)) : pj_K (Unit × pj_Z) := fun lv st z => pj_xr lv 0 124 0 <| pj_xi lv 3 fun a3 => pj_xi lv 4 fun a4 => pj_pi st fun b3 st => pj_pi st fun b2 st => pj_pi st fun b1 st => pj_pr st 173 0 fun st => pj_pe st (f a3 a4 b1 b2 b3 z.1 z.2.1 z.2.2.1 z.2.2.2)
abbrev pe_X12_boot_268 (f : Int32 → Int32 → pj_F (Unit × pj_Z)) : pj_K (Unit × pj_Z) := fun lv st z => pj_xr lv 0 124 0 <| pj_xi lv 3 fun a3 => pj_xi lv 4 fun a4 => pj_pe st (f a3 a4 z.1 z.2.1 z.2.2.1 z.2.2.2)
abbrev px_X12_boot : pj_C (Unit × pj_Z) := (pj_TR, (pj_as [(34, 12, 8, 2, true), (37, 12, 9, 2, true), (146, 12, 106, 2, true), (161, 12, 116, 2, true), (164, 12, 117, 2, true), (167, 12, 118, 2, true), (170, 12, 119, 2, true), (173, 12, 121, 2, true), (203, 12, 168, 2, true), (330, 12, 122, 0, false), (402, 12, 164, 3, false), (405, 12, 165, 0, false), (513, 12, 120, 3, false), (556, 12, 140, 0, false), (559, 12, 163, 0, false)]), (pj_as [(562, 1103515245)]), (pj_as [(566, 28), (572, (-100)), (574, 100)]), (fun _ => none), ic_X, 6, 0, pj_mU, (pj_as [(1, ph_X12_forget), (43, ph_X12_validBook), (86, ph_X12_validCopy), (213, ph_X12_isIn), (300, ph_X12_cutTo)]), fun _ => false)
abbrev pk_X12_boot : List (Nat × List (Nat × Instr × Nat)) := [(0, [(0, .aload_n 0, 1), (1, .invokevirtual 256, 3), (4, .aload_n 0, 1), (5, .dup, 1), (6, .getfield 556, 3), (9, .iconst 1, 1), (10, .iadd, 1), (11, .putfield 556, 3), (14, .aload_n 0, 1), (15, .getfield 559, 3), (18, .ifCond .eq 24, 3)]), (21, [(21, .aload_n 0, 1), (22, .iconst 1, 1), (23, .putfield 402, 3), (26, .aload_n 0, 1), (27, .aload_n 0, 1), (28, .getfield 556, 3), (31, .ldc_w 562, 3), (34, .imul, 1), (35, .sipush 12345, 3), (38, .iadd, 1), (39, .putfield 405, 3)]), (42, [(42, .aload_n 0, 1), (43, .invokevirtual 563, 3), (46, .istore_n 1, 1), (47, .iconst 0, 1), (48, .istore_n 2, 1)]), (49, [(49, .iload_n 2, 1), (50, .bipush 32, 2), (52, .if_icmp .ge 33, 3)]), (55, [(55, .iload_n 1, 1), (56, .iconst (-1), 1), (57, .if_icmp .eq 28, 3)]), (60, [(60, .aload_n 0, 1), (61, .getfield 34, 3), (64, .iload_n 2, 1), (65, .aload_n 0, 1), (66, .getfield 203, 3), (69, .bipush 34, 2), (71, .iload_n 1, 1), (72, .imul, 1), (73, .iconst 1, 1), (74, .iadd, 1), (75, .iload_n 2, 1), (76, .iadd, 1), (77, .iaload, 1), (78, .iastore, 1), (79, .iinc 2 1, 3), (82, .goto (-33), 3)]), (85, [(85, .aload_n 0, 1), (86, .invokevirtual 545, 3), (89, .istore_n 2, 1), (90, .iload_n 2, 1), (91, .iconst (-1), 1), (92, .if_icmp .ne 4, 3)]), (95, [(95, .return_, 1)]), (96, [(96, .bipush 55, 2), (98, .iload_n 2, 1), (99, .imul, 1), (100, .istore_n 3, 1), (101, .iconst 0, 1), (102, .istore 4, 2)]), (104, [(104, .iload 4, 2), (106, .bipush 28, 2), (108, .if_icmp .ge 90, 3)]), (111, [(111, .aload_n 0, 1), (112, .getfield 37, 3), (115, .iload_n 3, 1), (116, .iconst 1, 1), (117, .iadd, 1), (118, .iload 4, 2), (120, .iadd, 1), (121, .iaload, 1), (122, .istore 5, 2), (124, .aload_n 0, 1), (125, .getfield 164, 3), (128, .iload 4, 2), (130, .iload 5, 2), (132, .iconst 1, 1), (133, .iand, 1), (134, .iconst 1, 1), (135, .if_icmp .ne 7, 3)]), (138, [(138, .iconst 1, 1), (139, .goto 4, 3)]), (142, [(142, .iconst 0, 1)]), (143, [(143, .bastore, 1), (144, .aload_n 0, 1), (145, .getfield 167, 3), (148, .iload 4, 2), (150, .iload 5, 2), (152, .iconst 2, 1), (153, .iand, 1), (154, .iconst 2, 1), (155, .if_icmp .ne 7, 3)]), (158, [(158, .iconst 1, 1), (159, .goto 4, 3)]), (162, [(162, .iconst 0, 1)]), (163, [(163, .bastore, 1), (164, .aload_n 0, 1), (165, .getfield 170, 3), (168, .iload 4, 2), (170, .iload 5, 2), (172, .iconst 2, 1), (173, .iushr, 1), (174, .bipush 40, 2), (176, .irem, 1), (177, .iastore, 1), (178, .aload_n 0, 1), (179, .getfield 161, 3), (182, .iload 4, 2), (184, .aload_n 0, 1), (185, .getfield 164, 3), (188, .iload 4, 2), (190, .baload, 1), (191, .bastore, 1), (192, .iinc 4 1, 3), (195, .goto (-91), 3)]), (198, [(198, .aload_n 0, 1), (199, .aload_n 0, 1), (200, .getfield 37, 3), (203, .iload_n 3, 1), (204, .bipush 29, 2), (206, .iadd, 1), (207, .iaload, 1), (208, .i2l, 1), (209, .lconst 1, 1), (210, .ldc2_w 566, 3), (213, .invokestatic 568, 3), (216, .putfield 513, 3), (219, .iconst 0, 1), (220, .istore 4, 2)]), (222, [(222, .iload 4, 2), (224, .bipush 8, 2), (226, .if_icmp .ge 39, 3)]), (229, [(229, .aload_n 0, 1), (230, .getfield 173, 3), (233, .iload 4, 2), (235, .aload_n 0, 1), (236, .getfield 37, 3), (239, .iload_n 3, 1), (240, .bipush 29, 2), (242, .iadd, 1), (243, .iload 4, 2), (245, .iadd, 1), (246, .iaload, 1), (247, .iload 4, 2), (249, .ifCond .ne 7, 3)]), (252, [(252, .iconst 1, 1), (253, .goto 4, 3)]), (256, [(256, .iconst 0, 1)]), (257, [(257, .isub, 1), (258, .iastore, 1), (259, .iinc 4 1, 3), (262, .goto (-40), 3)]), (265, [(265, .iconst 0, 1), (266, .istore 4, 2)]), (268, [(268, .iload 4, 2), (270, .bipush 16, 2), (272, .if_icmp .ge 39, 3)]), (275, [(275, .aload_n 0, 1), (276, .getfield 146, 3), (279, .iload 4, 2), (281, .aload_n 0, 1), (282, .getfield 37, 3), (285, .iload_n 3, 1), (286, .bipush 37, 2), (288, .iadd, 1), (289, .iload 4, 2), (291, .iadd, 1), (292, .iaload, 1), (293, .i2l, 1), (294, .ldc2_w 572, 3), (297, .ldc2_w 574, 3), (300, .invokestatic 576, 3), (303, .l2i, 1), (304, .iastore, 1), (305, .iinc 4 1, 3), (308, .goto (-40), 3)]), (311, [(311, .aload_n 0, 1), (312, .aload_n 0, 1), (313, .getfield 37, 3), (316, .iload_n 3, 1), (317, .bipush 53, 2), (319, .iadd, 1), (320, .iaload, 1), (321, .putfield 330, 3), (324, .return_, 1)])]
set_option maxRecDepth 100000 in
theorem pq_X12_boot_163 (k104 : Int32 → Int32 → pj_F (Unit × pj_Z)) (a3 : Int32) (a4 : Int32) (a5 : Int32) (b1 : Int32) (b2 : Int32) (s : Nat → Int32) (l : Nat → Int64) (x : Nat → Int32) (y : Nat → Int64) : pl_X12_boot_163 k104 a3 a4 a5 b1 b2 s l x y = pj_bl px_X12_boot (pj_rn px_X12_boot (pj_as pk_X12_boot) (pj_as [(104, pe_X12_boot_104 k104)]) 60) [(163, .bastore, 1), (164, .aload_n 0, 1), (165, .getfield 170, 3), (168, .iload 4, 2), (170, .iload 5, 2), (172, .iconst 2, 1), (173, .iushr, 1), (174, .bipush 40, 2), (176, .irem, 1), (177, .iastore, 1), (178, .aload_n 0, 1), (179, .getfield 161, 3), (182, .iload 4, 2), (184, .aload_n 0, 1), (185, .getfield 164, 3), (188, .iload 4, 2), (190, .baload, 1), (191, .bastore, 1), (192, .iinc 4 1, 3), (195, .goto (-91), 3)] 163 [(0, pj_O (124, 0)), (3, pj_I a3), (4, pj_I a4), (5, pj_I a5)] [pj_I b2, pj_I b1, pj_O (171, 0)] (s, l, x, y) := rfl
set_option maxRecDepth 100000 in
theorem pq_X12_boot_143 (k104 : Int32 → Int32 → pj_F (Unit × pj_Z)) (a3 : Int32) (a4 : Int32) (a5 : Int32) (b1 : Int32) (b2 : Int32) (s : Nat → Int32) (l : Nat → Int64) (x : Nat → Int32) (y : Nat → Int64) : pl_X12_boot_143 k104 a3 a4 a5 b1 b2 s l x y = pj_bl px_X12_boot (pj_rn px_X12_boot (pj_as pk_X12_boot) (pj_as [(104, pe_X12_boot_104 k104), (163, pe_X12_boot_163 (pl_X12_boot_163 k104))]) 60) [(143, .bastore, 1), (144, .aload_n 0, 1), (145, .getfield 167, 3), (148, .iload 4, 2), (150, .iload 5, 2), (152, .iconst 2, 1), (153, .iand, 1), (154, .iconst 2, 1), (155, .if_icmp .ne 7, 3)] 143 [(0, pj_O (124, 0)), (3, pj_I a3), (4, pj_I a4), (5, pj_I a5)] [pj_I b2, pj_I b1, pj_O (170, 0)] (s, l, x, y) := rfl
set_option maxRecDepth 100000 in
theorem pq_X12_boot_257 (k222 : Int32 → Int32 → pj_F (Unit × pj_Z)) (a3 : Int32) (a4 : Int32) (b1 : Int32) (b2 : Int32) (b3 : Int32) (s : Nat → Int32) (l : Nat → Int64) (x : Nat → Int32) (y : Nat → Int64) : pl_X12_boot_257 k222 a3 a4 b1 b2 b3 s l x y = pj_bl px_X12_boot (pj_rn px_X12_boot (pj_as pk_X12_boot) (pj_as [(222, pe_X12_boot_222 k222)]) 60) [(257, .isub, 1), (258, .iastore, 1), (259, .iinc 4 1, 3), (262, .goto (-40), 3)] 257 [(0, pj_O (124, 0)), (3, pj_I a3), (4, pj_I a4)] [pj_I b3, pj_I b2, pj_I b1, pj_O (173, 0)] (s, l, x, y) := rfl
set_option maxRecDepth 100000 in
theorem pq_X12_boot_268 (n : Nat) (a3 : Int32) (a4 : Int32) (s : Nat → Int32) (l : Nat → Int64) (x : Nat → Int32) (y : Nat → Int64) : pl_X12_boot_268 (n + 1) a3 a4 s l x y = pj_bl px_X12_boot (pj_rn px_X12_boot (pj_as pk_X12_boot) (pj_as [(268, pe_X12_boot_268 (pl_X12_boot_268 n))]) 60) [(268, .iload 4, 2), (270, .bipush 16, 2), (272, .if_icmp .ge 39, 3)] 268 [(0, pj_O (124, 0)), (3, pj_I a3), (4, pj_I a4)] [] (s, l, x, y) := rfl
set_option maxRecDepth 100000 in
theorem pq_X12_boot_222 (n : Nat) (a3 : Int32) (a4 : Int32) (s : Nat → Int32) (l : Nat → Int64) (x : Nat → Int32) (y : Nat → Int64) : pl_X12_boot_222 (n + 1) a3 a4 s l x y = pj_bl px_X12_boot (pj_rn px_X12_boot (pj_as pk_X12_boot) (pj_as [(222, pe_X12_boot_222 (pl_X12_boot_222 n)), (257, pe_X12_boot_257 (pl_X12_boot_257 (pl_X12_boot_222 n))), (268, pe_X12_boot_268 (pl_X12_boot_268 (pj_fu 0)))]) 60) [(222, .iload 4, 2), (224, .bipush 8, 2), (226, .if_icmp .ge 39, 3)] 222 [(0, pj_O (124, 0)), (3, pj_I a3), (4, pj_I a4)] [] (s, l, x, y) := rfl
set_option maxRecDepth 100000 in
theorem pq_X12_boot_104 (n : Nat) (a3 : Int32) (a4 : Int32) (s : Nat → Int32) (l : Nat → Int64) (x : Nat → Int32) (y : Nat → Int64) : pl_X12_boot_104 (n + 1) a3 a4 s l x y = pj_bl px_X12_boot (pj_rn px_X12_boot (pj_as pk_X12_boot) (pj_as [(104, pe_X12_boot_104 (pl_X12_boot_104 n)), (143, pe_X12_boot_143 (pl_X12_boot_143 (pl_X12_boot_104 n))), (222, pe_X12_boot_222 (pl_X12_boot_222 (pj_fu 0)))]) 60) [(104, .iload 4, 2), (106, .bipush 28, 2), (108, .if_icmp .ge 90, 3)] 104 [(0, pj_O (124, 0)), (3, pj_I a3), (4, pj_I a4)] [] (s, l, x, y) := rfl
set_option maxRecDepth 100000 in
theorem pq_X12_boot_85  (s : Nat → Int32) (l : Nat → Int64) (x : Nat → Int32) (y : Nat → Int64) : pl_X12_boot_85 s l x y = pj_bl px_X12_boot (pj_rn px_X12_boot (pj_as pk_X12_boot) (pj_as [(104, pe_X12_boot_104 (pl_X12_boot_104 (pj_fu 0)))]) 60) [(85, .aload_n 0, 1), (86, .invokevirtual 545, 3), (89, .istore_n 2, 1), (90, .iload_n 2, 1), (91, .iconst (-1), 1), (92, .if_icmp .ne 4, 3)] 85 [(0, pj_O (124, 0))] [] (s, l, x, y) := rfl
set_option maxRecDepth 100000 in
theorem pq_X12_boot_49 (n : Nat) (a1 : Int32) (a2 : Int32) (s : Nat → Int32) (l : Nat → Int64) (x : Nat → Int32) (y : Nat → Int64) : pl_X12_boot_49 (n + 1) a1 a2 s l x y = pj_bl px_X12_boot (pj_rn px_X12_boot (pj_as pk_X12_boot) (pj_as [(49, pe_X12_boot_49 (pl_X12_boot_49 n)), (85, pe_X12_boot_85 (pl_X12_boot_85))]) 60) [(49, .iload_n 2, 1), (50, .bipush 32, 2), (52, .if_icmp .ge 33, 3)] 49 [(0, pj_O (124, 0)), (1, pj_I a1), (2, pj_I a2)] [] (s, l, x, y) := rfl
set_option maxRecDepth 100000 in
theorem pq_X12_boot_42  (s : Nat → Int32) (l : Nat → Int64) (x : Nat → Int32) (y : Nat → Int64) : pl_X12_boot_42 s l x y = pj_bl px_X12_boot (pj_rn px_X12_boot (pj_as pk_X12_boot) (pj_as [(49, pe_X12_boot_49 (pl_X12_boot_49 (pj_fu 0)))]) 60) [(42, .aload_n 0, 1), (43, .invokevirtual 563, 3), (46, .istore_n 1, 1), (47, .iconst 0, 1), (48, .istore_n 2, 1)] 42 [(0, pj_O (124, 0))] [] (s, l, x, y) := rfl
set_option maxRecDepth 100000 in
theorem pq_X12_boot_m  (s : Nat → Int32) (l : Nat → Int64) (x : Nat → Int32) (y : Nat → Int64) : pf_X12_boot  s l x y = pj_bl px_X12_boot (pj_rn px_X12_boot (pj_as pk_X12_boot) (pj_as [(42, pe_X12_boot_42 (pl_X12_boot_42))]) 60) [(0, .aload_n 0, 1), (1, .invokevirtual 256, 3), (4, .aload_n 0, 1), (5, .dup, 1), (6, .getfield 556, 3), (9, .iconst 1, 1), (10, .iadd, 1), (11, .putfield 556, 3), (14, .aload_n 0, 1), (15, .getfield 559, 3), (18, .ifCond .eq 24, 3)] 0 [(0, pj_O (124, 0))] [] (s, l, x, y) := rfl
theorem pu_X12_boot_42 {lf : pj_Z → mj_M} {a : Unit × pj_Z} (f : pj_F (Unit × pj_Z)) (hf : ∀  (s : Nat → Int32) (l : Nat → Int64) (x : Nat → Int32) (y : Nat → Int64), f  s l x y = some a → pm_Gd 4 12022 ie_X12_boot.1 pm_rU lf 42 [(0, .ref 124)] [] (s, l, x, y) a) : pm_Ex 4 12022 ie_X12_boot.1 pm_rU lf a 42 (pe_X12_boot_42 f) := by
  intro lv st z hd h
  obtain ⟨g0, h⟩ := pj_xr_inv h
  obtain ⟨e9, h⟩ := pj_pe_inv h
  rw [e9]
  exact mj_wp_sub (mj_sub_cons g0 (mj_sub_nil hd)) (hf  _ _ _ _ h)
theorem pu_X12_boot_49 {lf : pj_Z → mj_M} {a : Unit × pj_Z} (f : Int32 → Int32 → pj_F (Unit × pj_Z)) (hf : ∀ (a1 : Int32) (a2 : Int32) (s : Nat → Int32) (l : Nat → Int64) (x : Nat → Int32) (y : Nat → Int64), f a1 a2 s l x y = some a → pm_Gd 4 12022 ie_X12_boot.1 pm_rU lf 49 [(0, .ref 124), (1, .int a1), (2, .int a2)] [] (s, l, x, y) a) : pm_Ex 4 12022 ie_X12_boot.1 pm_rU lf a 49 (pe_X12_boot_49 f) := by
  intro lv st z hd h
  obtain ⟨g0, h⟩ := pj_xr_inv h
  obtain ⟨a1, g1, h⟩ := pj_xi_inv h
  obtain ⟨a2, g2, h⟩ := pj_xi_inv h
  obtain ⟨e9, h⟩ := pj_pe_inv h
  rw [e9]
  exact mj_wp_sub (mj_sub_cons g0 (mj_sub_cons g1 (mj_sub_cons g2 (mj_sub_nil hd)))) (hf _ _ _ _ _ _ h)
theorem pu_X12_boot_85 {lf : pj_Z → mj_M} {a : Unit × pj_Z} (f : pj_F (Unit × pj_Z)) (hf : ∀  (s : Nat → Int32) (l : Nat → Int64) (x : Nat → Int32) (y : Nat → Int64), f  s l x y = some a → pm_Gd 4 12022 ie_X12_boot.1 pm_rU lf 85 [(0, .ref 124)] [] (s, l, x, y) a) : pm_Ex 4 12022 ie_X12_boot.1 pm_rU lf a 85 (pe_X12_boot_85 f) := by
  intro lv st z hd h
  obtain ⟨g0, h⟩ := pj_xr_inv h
  obtain ⟨e9, h⟩ := pj_pe_inv h
  rw [e9]
  exact mj_wp_sub (mj_sub_cons g0 (mj_sub_nil hd)) (hf  _ _ _ _ h)
theorem pu_X12_boot_104 {lf : pj_Z → mj_M} {a : Unit × pj_Z} (f : Int32 → Int32 → pj_F (Unit × pj_Z)) (hf : ∀ (a3 : Int32) (a4 : Int32) (s : Nat → Int32) (l : Nat → Int64) (x : Nat → Int32) (y : Nat → Int64), f a3 a4 s l x y = some a → pm_Gd 4 12022 ie_X12_boot.1 pm_rU lf 104 [(0, .ref 124), (3, .int a3), (4, .int a4)] [] (s, l, x, y) a) : pm_Ex 4 12022 ie_X12_boot.1 pm_rU lf a 104 (pe_X12_boot_104 f) := by
  intro lv st z hd h
  obtain ⟨g0, h⟩ := pj_xr_inv h
  obtain ⟨a3, g3, h⟩ := pj_xi_inv h
  obtain ⟨a4, g4, h⟩ := pj_xi_inv h
  obtain ⟨e9, h⟩ := pj_pe_inv h
  rw [e9]
  exact mj_wp_sub (mj_sub_cons g0 (mj_sub_cons g3 (mj_sub_cons g4 (mj_sub_nil hd)))) (hf _ _ _ _ _ _ h)
theorem pu_X12_boot_143 {lf : pj_Z → mj_M} {a : Unit × pj_Z} (f : Int32 → Int32 → Int32 → Int32 → Int32 → pj_F (Unit × pj_Z)) (hf : ∀ (a3 : Int32) (a4 : Int32) (a5 : Int32) (b1 : Int32) (b2 : Int32) (s : Nat → Int32) (l : Nat → Int64) (x : Nat → Int32) (y : Nat → Int64), f a3 a4 a5 b1 b2 s l x y = some a → pm_Gd 4 12022 ie_X12_boot.1 pm_rU lf 143 [(0, .ref 124), (3, .int a3), (4, .int a4), (5, .int a5)] [.int b2, .int b1, .ref 170] (s, l, x, y) a) : pm_Ex 4 12022 ie_X12_boot.1 pm_rU lf a 143 (pe_X12_boot_143 f) := by
  intro lv st z hd h
  obtain ⟨g0, h⟩ := pj_xr_inv h
  obtain ⟨a3, g3, h⟩ := pj_xi_inv h
  obtain ⟨a4, g4, h⟩ := pj_xi_inv h
  obtain ⟨a5, g5, h⟩ := pj_xi_inv h
  obtain ⟨b2, r2, e2, h⟩ := pj_pi_inv h
  obtain ⟨b1, r1, e1, h⟩ := pj_pi_inv h
  obtain ⟨r0, e0, h⟩ := pj_pr_inv h
  obtain ⟨e9, h⟩ := pj_pe_inv h
  rw [e2, e1, e0, e9]
  exact mj_wp_sub (mj_sub_cons g0 (mj_sub_cons g3 (mj_sub_cons g4 (mj_sub_cons g5 (mj_sub_nil hd))))) (hf _ _ _ _ _ _ _ _ _ h)
theorem pu_X12_boot_163 {lf : pj_Z → mj_M} {a : Unit × pj_Z} (f : Int32 → Int32 → Int32 → Int32 → Int32 → pj_F (Unit × pj_Z)) (hf : ∀ (a3 : Int32) (a4 : Int32) (a5 : Int32) (b1 : Int32) (b2 : Int32) (s : Nat → Int32) (l : Nat → Int64) (x : Nat → Int32) (y : Nat → Int64), f a3 a4 a5 b1 b2 s l x y = some a → pm_Gd 4 12022 ie_X12_boot.1 pm_rU lf 163 [(0, .ref 124), (3, .int a3), (4, .int a4), (5, .int a5)] [.int b2, .int b1, .ref 171] (s, l, x, y) a) : pm_Ex 4 12022 ie_X12_boot.1 pm_rU lf a 163 (pe_X12_boot_163 f) := by
  intro lv st z hd h
  obtain ⟨g0, h⟩ := pj_xr_inv h
  obtain ⟨a3, g3, h⟩ := pj_xi_inv h
  obtain ⟨a4, g4, h⟩ := pj_xi_inv h
  obtain ⟨a5, g5, h⟩ := pj_xi_inv h
  obtain ⟨b2, r2, e2, h⟩ := pj_pi_inv h
  obtain ⟨b1, r1, e1, h⟩ := pj_pi_inv h
  obtain ⟨r0, e0, h⟩ := pj_pr_inv h
  obtain ⟨e9, h⟩ := pj_pe_inv h
  rw [e2, e1, e0, e9]
  exact mj_wp_sub (mj_sub_cons g0 (mj_sub_cons g3 (mj_sub_cons g4 (mj_sub_cons g5 (mj_sub_nil hd))))) (hf _ _ _ _ _ _ _ _ _ h)
theorem pu_X12_boot_222 {lf : pj_Z → mj_M} {a : Unit × pj_Z} (f : Int32 → Int32 → pj_F (Unit × pj_Z)) (hf : ∀ (a3 : Int32) (a4 : Int32) (s : Nat → Int32) (l : Nat → Int64) (x : Nat → Int32) (y : Nat → Int64), f a3 a4 s l x y = some a → pm_Gd 4 12022 ie_X12_boot.1 pm_rU lf 222 [(0, .ref 124), (3, .int a3), (4, .int a4)] [] (s, l, x, y) a) : pm_Ex 4 12022 ie_X12_boot.1 pm_rU lf a 222 (pe_X12_boot_222 f) := by
  intro lv st z hd h
  obtain ⟨g0, h⟩ := pj_xr_inv h
  obtain ⟨a3, g3, h⟩ := pj_xi_inv h
  obtain ⟨a4, g4, h⟩ := pj_xi_inv h
  obtain ⟨e9, h⟩ := pj_pe_inv h
  rw [e9]
  exact mj_wp_sub (mj_sub_cons g0 (mj_sub_cons g3 (mj_sub_cons g4 (mj_sub_nil hd)))) (hf _ _ _ _ _ _ h)
theorem pu_X12_boot_257 {lf : pj_Z → mj_M} {a : Unit × pj_Z} (f : Int32 → Int32 → Int32 → Int32 → Int32 → pj_F (Unit × pj_Z)) (hf : ∀ (a3 : Int32) (a4 : Int32) (b1 : Int32) (b2 : Int32) (b3 : Int32) (s : Nat → Int32) (l : Nat → Int64) (x : Nat → Int32) (y : Nat → Int64), f a3 a4 b1 b2 b3 s l x y = some a → pm_Gd 4 12022 ie_X12_boot.1 pm_rU lf 257 [(0, .ref 124), (3, .int a3), (4, .int a4)] [.int b3, .int b2, .int b1, .ref 173] (s, l, x, y) a) : pm_Ex 4 12022 ie_X12_boot.1 pm_rU lf a 257 (pe_X12_boot_257 f) := by
  intro lv st z hd h
  obtain ⟨g0, h⟩ := pj_xr_inv h
  obtain ⟨a3, g3, h⟩ := pj_xi_inv h
  obtain ⟨a4, g4, h⟩ := pj_xi_inv h
  obtain ⟨b3, r3, e3, h⟩ := pj_pi_inv h
  obtain ⟨b2, r2, e2, h⟩ := pj_pi_inv h
  obtain ⟨b1, r1, e1, h⟩ := pj_pi_inv h
  obtain ⟨r0, e0, h⟩ := pj_pr_inv h
  obtain ⟨e9, h⟩ := pj_pe_inv h
  rw [e3, e2, e1, e0, e9]
  exact mj_wp_sub (mj_sub_cons g0 (mj_sub_cons g3 (mj_sub_cons g4 (mj_sub_nil hd)))) (hf _ _ _ _ _ _ _ _ _ h)
theorem pu_X12_boot_268 {lf : pj_Z → mj_M} {a : Unit × pj_Z} (f : Int32 → Int32 → pj_F (Unit × pj_Z)) (hf : ∀ (a3 : Int32) (a4 : Int32) (s : Nat → Int32) (l : Nat → Int64) (x : Nat → Int32) (y : Nat → Int64), f a3 a4 s l x y = some a → pm_Gd 4 12022 ie_X12_boot.1 pm_rU lf 268 [(0, .ref 124), (3, .int a3), (4, .int a4)] [] (s, l, x, y) a) : pm_Ex 4 12022 ie_X12_boot.1 pm_rU lf a 268 (pe_X12_boot_268 f) := by
  intro lv st z hd h
  obtain ⟨g0, h⟩ := pj_xr_inv h
  obtain ⟨a3, g3, h⟩ := pj_xi_inv h
  obtain ⟨a4, g4, h⟩ := pj_xi_inv h
  obtain ⟨e9, h⟩ := pj_pe_inv h
  rw [e9]
  exact mj_wp_sub (mj_sub_cons g0 (mj_sub_cons g3 (mj_sub_cons g4 (mj_sub_nil hd)))) (hf _ _ _ _ _ _ h)
set_option maxRecDepth 100000 in
theorem pz_X12_boot {lf : pj_Z → mj_M} (hT : pj_Lt pj_TR lf) : pj_Cok ic_P (mj_R ic_P 4) 12022 ie_X12_boot.1 (pm_OK lf pm_rU) lf px_X12_boot := by
  exact pm_cok (c := px_X12_boot) hT (pm_in_ok (L := [(34, 12, 8, 2, true), (37, 12, 9, 2, true), (146, 12, 106, 2, true), (161, 12, 116, 2, true), (164, 12, 117, 2, true), (167, 12, 118, 2, true), (170, 12, 119, 2, true), (173, 12, 121, 2, true), (203, 12, 168, 2, true), (330, 12, 122, 0, false), (402, 12, 164, 3, false), (405, 12, 165, 0, false), (513, 12, 120, 3, false), (556, 12, 140, 0, false), (559, 12, 163, 0, false)]) (f := mj_pF ic_P 12022) (by decide +kernel)) (pm_inI_ok (L := [(562, 1103515245)]) (f := mj_pK ic_P 12022) (by decide +kernel)) (pm_inL_ok (L := [(566, 28), (572, (-100)), (574, 100)]) (f := mj_pL ic_P 12022) (by decide +kernel)) (fun _ _ h => by cases h) rfl rfl ⟨by decide, rfl⟩ pm_mU (pj_as_all (p := pm_Cl 4 12022 ie_X12_boot.1 lf (pm_OK lf pm_rU)) (List.forall_mem_cons.mpr ⟨fun _ _ lv st z K a hK h => pc_X12_forget hT (by decide) (ix := 256) rfl rfl hK h, (List.forall_mem_cons.mpr ⟨fun _ _ lv st z K a hK h => pc_X12_validBook hT (by decide) (ix := 563) rfl rfl hK h, (List.forall_mem_cons.mpr ⟨fun _ _ lv st z K a hK h => pc_X12_validCopy hT (by decide) (ix := 545) rfl rfl hK h, (List.forall_mem_cons.mpr ⟨fun _ _ lv st z K a hK h => pc_X12_isIn hT (by decide) (ix := 568) rfl rfl hK h, (List.forall_mem_cons.mpr ⟨fun _ _ lv st z K a hK h => pc_X12_cutTo hT (by decide) (ix := 576) rfl rfl hK h, (fun _ h => by cases h)⟩)⟩)⟩)⟩)⟩)) (fun _ h => by cases h)
set_option maxRecDepth 100000 in
theorem pb_X12_boot : pm_bks ie_X12_boot.1.2.2.2.2 pk_X12_boot = true := by decide +kernel
set_option maxRecDepth 100000 in
theorem pg_X12_boot_163 {lf : pj_Z → mj_M} (hT : pj_Lt pj_TR lf) {k104 : Int32 → Int32 → pj_F (Unit × pj_Z)} (hk104 : ∀ (a3 : Int32) (a4 : Int32) (s : Nat → Int32) (l : Nat → Int64) (x : Nat → Int32) (y : Nat → Int64) (a : Unit × pj_Z), k104 a3 a4 s l x y = some a → pm_Gd 4 12022 ie_X12_boot.1 pm_rU lf 104 [(0, .ref 124), (3, .int a3), (4, .int a4)] [] (s, l, x, y) a) : ∀ (a3 : Int32) (a4 : Int32) (a5 : Int32) (b1 : Int32) (b2 : Int32) (s : Nat → Int32) (l : Nat → Int64) (x : Nat → Int32) (y : Nat → Int64) (a : Unit × pj_Z), pl_X12_boot_163 k104 a3 a4 a5 b1 b2 s l x y = some a → pm_Gd 4 12022 ie_X12_boot.1 pm_rU lf 163 [(0, .ref 124), (3, .int a3), (4, .int a4), (5, .int a5)] [.int b2, .int b1, .ref 171] (s, l, x, y) a := by
  intro a3 a4 a5 b1 b2 s l x y a h
  exact pj_bl_ok (pz_X12_boot hT) (fun t lv st z hd h => pj_rn_ok (pz_X12_boot hT) (pm_bks_ok pb_X12_boot) (pj_as_all (p := pm_Ex 4 12022 ie_X12_boot.1 pm_rU lf a) (List.forall_mem_cons.mpr ⟨pu_X12_boot_104 _ (fun c0 c1 s l x y h => hk104 c0 c1 s l x y _ h), (fun _ h => by cases h)⟩)) 60 t lv st z hd h) [(163, .bastore, 1), (164, .aload_n 0, 1), (165, .getfield 170, 3), (168, .iload 4, 2), (170, .iload 5, 2), (172, .iconst 2, 1), (173, .iushr, 1), (174, .bipush 40, 2), (176, .irem, 1), (177, .iastore, 1), (178, .aload_n 0, 1), (179, .getfield 161, 3), (182, .iload 4, 2), (184, .aload_n 0, 1), (185, .getfield 164, 3), (188, .iload 4, 2), (190, .baload, 1), (191, .bastore, 1), (192, .iinc 4 1, 3), (195, .goto (-91), 3)] 163 [(0, pj_O (124, 0)), (3, pj_I a3), (4, pj_I a4), (5, pj_I a5)] [pj_I b2, pj_I b1, pj_O (171, 0)] (s, l, x, y) (pm_bks_ok pb_X12_boot _ _ rfl) (pm_ndb_ok rfl) ((pq_X12_boot_163 k104 a3 a4 a5 b1 b2 s l x y).symm.trans h)
set_option maxRecDepth 100000 in
theorem pg_X12_boot_143 {lf : pj_Z → mj_M} (hT : pj_Lt pj_TR lf) {k104 : Int32 → Int32 → pj_F (Unit × pj_Z)} (hk104 : ∀ (a3 : Int32) (a4 : Int32) (s : Nat → Int32) (l : Nat → Int64) (x : Nat → Int32) (y : Nat → Int64) (a : Unit × pj_Z), k104 a3 a4 s l x y = some a → pm_Gd 4 12022 ie_X12_boot.1 pm_rU lf 104 [(0, .ref 124), (3, .int a3), (4, .int a4)] [] (s, l, x, y) a) : ∀ (a3 : Int32) (a4 : Int32) (a5 : Int32) (b1 : Int32) (b2 : Int32) (s : Nat → Int32) (l : Nat → Int64) (x : Nat → Int32) (y : Nat → Int64) (a : Unit × pj_Z), pl_X12_boot_143 k104 a3 a4 a5 b1 b2 s l x y = some a → pm_Gd 4 12022 ie_X12_boot.1 pm_rU lf 143 [(0, .ref 124), (3, .int a3), (4, .int a4), (5, .int a5)] [.int b2, .int b1, .ref 170] (s, l, x, y) a := by
  intro a3 a4 a5 b1 b2 s l x y a h
  exact pj_bl_ok (pz_X12_boot hT) (fun t lv st z hd h => pj_rn_ok (pz_X12_boot hT) (pm_bks_ok pb_X12_boot) (pj_as_all (p := pm_Ex 4 12022 ie_X12_boot.1 pm_rU lf a) (List.forall_mem_cons.mpr ⟨pu_X12_boot_104 _ (fun c0 c1 s l x y h => hk104 c0 c1 s l x y _ h), (List.forall_mem_cons.mpr ⟨pu_X12_boot_163 _ (fun c0 c1 c2 c3 c4 s l x y h => pg_X12_boot_163 hT hk104 c0 c1 c2 c3 c4 s l x y _ h), (fun _ h => by cases h)⟩)⟩)) 60 t lv st z hd h) [(143, .bastore, 1), (144, .aload_n 0, 1), (145, .getfield 167, 3), (148, .iload 4, 2), (150, .iload 5, 2), (152, .iconst 2, 1), (153, .iand, 1), (154, .iconst 2, 1), (155, .if_icmp .ne 7, 3)] 143 [(0, pj_O (124, 0)), (3, pj_I a3), (4, pj_I a4), (5, pj_I a5)] [pj_I b2, pj_I b1, pj_O (170, 0)] (s, l, x, y) (pm_bks_ok pb_X12_boot _ _ rfl) (pm_ndb_ok rfl) ((pq_X12_boot_143 k104 a3 a4 a5 b1 b2 s l x y).symm.trans h)
set_option maxRecDepth 100000 in
theorem pg_X12_boot_257 {lf : pj_Z → mj_M} (hT : pj_Lt pj_TR lf) {k222 : Int32 → Int32 → pj_F (Unit × pj_Z)} (hk222 : ∀ (a3 : Int32) (a4 : Int32) (s : Nat → Int32) (l : Nat → Int64) (x : Nat → Int32) (y : Nat → Int64) (a : Unit × pj_Z), k222 a3 a4 s l x y = some a → pm_Gd 4 12022 ie_X12_boot.1 pm_rU lf 222 [(0, .ref 124), (3, .int a3), (4, .int a4)] [] (s, l, x, y) a) : ∀ (a3 : Int32) (a4 : Int32) (b1 : Int32) (b2 : Int32) (b3 : Int32) (s : Nat → Int32) (l : Nat → Int64) (x : Nat → Int32) (y : Nat → Int64) (a : Unit × pj_Z), pl_X12_boot_257 k222 a3 a4 b1 b2 b3 s l x y = some a → pm_Gd 4 12022 ie_X12_boot.1 pm_rU lf 257 [(0, .ref 124), (3, .int a3), (4, .int a4)] [.int b3, .int b2, .int b1, .ref 173] (s, l, x, y) a := by
  intro a3 a4 b1 b2 b3 s l x y a h
  exact pj_bl_ok (pz_X12_boot hT) (fun t lv st z hd h => pj_rn_ok (pz_X12_boot hT) (pm_bks_ok pb_X12_boot) (pj_as_all (p := pm_Ex 4 12022 ie_X12_boot.1 pm_rU lf a) (List.forall_mem_cons.mpr ⟨pu_X12_boot_222 _ (fun c0 c1 s l x y h => hk222 c0 c1 s l x y _ h), (fun _ h => by cases h)⟩)) 60 t lv st z hd h) [(257, .isub, 1), (258, .iastore, 1), (259, .iinc 4 1, 3), (262, .goto (-40), 3)] 257 [(0, pj_O (124, 0)), (3, pj_I a3), (4, pj_I a4)] [pj_I b3, pj_I b2, pj_I b1, pj_O (173, 0)] (s, l, x, y) (pm_bks_ok pb_X12_boot _ _ rfl) (pm_ndb_ok rfl) ((pq_X12_boot_257 k222 a3 a4 b1 b2 b3 s l x y).symm.trans h)
set_option maxRecDepth 100000 in
theorem pg_X12_boot_268 {lf : pj_Z → mj_M} (hT : pj_Lt pj_TR lf) : ∀ (n : Nat), ∀ (a3 : Int32) (a4 : Int32) (s : Nat → Int32) (l : Nat → Int64) (x : Nat → Int32) (y : Nat → Int64) (a : Unit × pj_Z), pl_X12_boot_268 n a3 a4 s l x y = some a → pm_Gd 4 12022 ie_X12_boot.1 pm_rU lf 268 [(0, .ref 124), (3, .int a3), (4, .int a4)] [] (s, l, x, y) a := by
  intro n
  induction n with
  | zero => intro a3 a4 s l x y a h; cases (show (none : Option (Unit × pj_Z)) = some a from h)
  | succ n ih =>
    intro a3 a4 s l x y a h
    exact pj_bl_ok (pz_X12_boot hT) (fun t lv st z hd h => pj_rn_ok (pz_X12_boot hT) (pm_bks_ok pb_X12_boot) (pj_as_all (p := pm_Ex 4 12022 ie_X12_boot.1 pm_rU lf a) (List.forall_mem_cons.mpr ⟨pu_X12_boot_268 _ (fun c0 c1 s l x y h => ih c0 c1 s l x y _ h), (fun _ h => by cases h)⟩)) 60 t lv st z hd h) [(268, .iload 4, 2), (270, .bipush 16, 2), (272, .if_icmp .ge 39, 3)] 268 [(0, pj_O (124, 0)), (3, pj_I a3), (4, pj_I a4)] [] (s, l, x, y) (pm_bks_ok pb_X12_boot _ _ rfl) (pm_ndb_ok rfl) ((pq_X12_boot_268 n a3 a4 s l x y).symm.trans h)
set_option maxRecDepth 100000 in
theorem pg_X12_boot_222 {lf : pj_Z → mj_M} (hT : pj_Lt pj_TR lf) : ∀ (n : Nat), ∀ (a3 : Int32) (a4 : Int32) (s : Nat → Int32) (l : Nat → Int64) (x : Nat → Int32) (y : Nat → Int64) (a : Unit × pj_Z), pl_X12_boot_222 n a3 a4 s l x y = some a → pm_Gd 4 12022 ie_X12_boot.1 pm_rU lf 222 [(0, .ref 124), (3, .int a3), (4, .int a4)] [] (s, l, x, y) a := by
  intro n
  induction n with
  | zero => intro a3 a4 s l x y a h; cases (show (none : Option (Unit × pj_Z)) = some a from h)
  | succ n ih =>
    intro a3 a4 s l x y a h
    exact pj_bl_ok (pz_X12_boot hT) (fun t lv st z hd h => pj_rn_ok (pz_X12_boot hT) (pm_bks_ok pb_X12_boot) (pj_as_all (p := pm_Ex 4 12022 ie_X12_boot.1 pm_rU lf a) (List.forall_mem_cons.mpr ⟨pu_X12_boot_222 _ (fun c0 c1 s l x y h => ih c0 c1 s l x y _ h), (List.forall_mem_cons.mpr ⟨pu_X12_boot_257 _ (fun c0 c1 c2 c3 c4 s l x y h => pg_X12_boot_257 hT (fun a3 a4 s l x y a h => ih a3 a4 s l x y a h) c0 c1 c2 c3 c4 s l x y _ h), (List.forall_mem_cons.mpr ⟨pu_X12_boot_268 _ (fun c0 c1 s l x y h => pg_X12_boot_268 hT (pj_fu 0) c0 c1 s l x y _ h), (fun _ h => by cases h)⟩)⟩)⟩)) 60 t lv st z hd h) [(222, .iload 4, 2), (224, .bipush 8, 2), (226, .if_icmp .ge 39, 3)] 222 [(0, pj_O (124, 0)), (3, pj_I a3), (4, pj_I a4)] [] (s, l, x, y) (pm_bks_ok pb_X12_boot _ _ rfl) (pm_ndb_ok rfl) ((pq_X12_boot_222 n a3 a4 s l x y).symm.trans h)
set_option maxRecDepth 100000 in
theorem pg_X12_boot_104 {lf : pj_Z → mj_M} (hT : pj_Lt pj_TR lf) : ∀ (n : Nat), ∀ (a3 : Int32) (a4 : Int32) (s : Nat → Int32) (l : Nat → Int64) (x : Nat → Int32) (y : Nat → Int64) (a : Unit × pj_Z), pl_X12_boot_104 n a3 a4 s l x y = some a → pm_Gd 4 12022 ie_X12_boot.1 pm_rU lf 104 [(0, .ref 124), (3, .int a3), (4, .int a4)] [] (s, l, x, y) a := by
  intro n
  induction n with
  | zero => intro a3 a4 s l x y a h; cases (show (none : Option (Unit × pj_Z)) = some a from h)
  | succ n ih =>
    intro a3 a4 s l x y a h
    exact pj_bl_ok (pz_X12_boot hT) (fun t lv st z hd h => pj_rn_ok (pz_X12_boot hT) (pm_bks_ok pb_X12_boot) (pj_as_all (p := pm_Ex 4 12022 ie_X12_boot.1 pm_rU lf a) (List.forall_mem_cons.mpr ⟨pu_X12_boot_104 _ (fun c0 c1 s l x y h => ih c0 c1 s l x y _ h), (List.forall_mem_cons.mpr ⟨pu_X12_boot_143 _ (fun c0 c1 c2 c3 c4 s l x y h => pg_X12_boot_143 hT (fun a3 a4 s l x y a h => ih a3 a4 s l x y a h) c0 c1 c2 c3 c4 s l x y _ h), (List.forall_mem_cons.mpr ⟨pu_X12_boot_222 _ (fun c0 c1 s l x y h => pg_X12_boot_222 hT (pj_fu 0) c0 c1 s l x y _ h), (fun _ h => by cases h)⟩)⟩)⟩)) 60 t lv st z hd h) [(104, .iload 4, 2), (106, .bipush 28, 2), (108, .if_icmp .ge 90, 3)] 104 [(0, pj_O (124, 0)), (3, pj_I a3), (4, pj_I a4)] [] (s, l, x, y) (pm_bks_ok pb_X12_boot _ _ rfl) (pm_ndb_ok rfl) ((pq_X12_boot_104 n a3 a4 s l x y).symm.trans h)
set_option maxRecDepth 100000 in
theorem pg_X12_boot_85 {lf : pj_Z → mj_M} (hT : pj_Lt pj_TR lf) : ∀  (s : Nat → Int32) (l : Nat → Int64) (x : Nat → Int32) (y : Nat → Int64) (a : Unit × pj_Z), pl_X12_boot_85 s l x y = some a → pm_Gd 4 12022 ie_X12_boot.1 pm_rU lf 85 [(0, .ref 124)] [] (s, l, x, y) a := by
  intro  s l x y a h
  exact pj_bl_ok (pz_X12_boot hT) (fun t lv st z hd h => pj_rn_ok (pz_X12_boot hT) (pm_bks_ok pb_X12_boot) (pj_as_all (p := pm_Ex 4 12022 ie_X12_boot.1 pm_rU lf a) (List.forall_mem_cons.mpr ⟨pu_X12_boot_104 _ (fun c0 c1 s l x y h => pg_X12_boot_104 hT (pj_fu 0) c0 c1 s l x y _ h), (fun _ h => by cases h)⟩)) 60 t lv st z hd h) [(85, .aload_n 0, 1), (86, .invokevirtual 545, 3), (89, .istore_n 2, 1), (90, .iload_n 2, 1), (91, .iconst (-1), 1), (92, .if_icmp .ne 4, 3)] 85 [(0, pj_O (124, 0))] [] (s, l, x, y) (pm_bks_ok pb_X12_boot _ _ rfl) (pm_ndb_ok rfl) ((pq_X12_boot_85   s l x y).symm.trans h)
set_option maxRecDepth 100000 in
theorem pg_X12_boot_49 {lf : pj_Z → mj_M} (hT : pj_Lt pj_TR lf) : ∀ (n : Nat), ∀ (a1 : Int32) (a2 : Int32) (s : Nat → Int32) (l : Nat → Int64) (x : Nat → Int32) (y : Nat → Int64) (a : Unit × pj_Z), pl_X12_boot_49 n a1 a2 s l x y = some a → pm_Gd 4 12022 ie_X12_boot.1 pm_rU lf 49 [(0, .ref 124), (1, .int a1), (2, .int a2)] [] (s, l, x, y) a := by
  intro n
  induction n with
  | zero => intro a1 a2 s l x y a h; cases (show (none : Option (Unit × pj_Z)) = some a from h)
  | succ n ih =>
    intro a1 a2 s l x y a h
    exact pj_bl_ok (pz_X12_boot hT) (fun t lv st z hd h => pj_rn_ok (pz_X12_boot hT) (pm_bks_ok pb_X12_boot) (pj_as_all (p := pm_Ex 4 12022 ie_X12_boot.1 pm_rU lf a) (List.forall_mem_cons.mpr ⟨pu_X12_boot_49 _ (fun c0 c1 s l x y h => ih c0 c1 s l x y _ h), (List.forall_mem_cons.mpr ⟨pu_X12_boot_85 _ (fun  s l x y h => pg_X12_boot_85 hT  s l x y _ h), (fun _ h => by cases h)⟩)⟩)) 60 t lv st z hd h) [(49, .iload_n 2, 1), (50, .bipush 32, 2), (52, .if_icmp .ge 33, 3)] 49 [(0, pj_O (124, 0)), (1, pj_I a1), (2, pj_I a2)] [] (s, l, x, y) (pm_bks_ok pb_X12_boot _ _ rfl) (pm_ndb_ok rfl) ((pq_X12_boot_49 n a1 a2 s l x y).symm.trans h)
set_option maxRecDepth 100000 in
theorem pg_X12_boot_42 {lf : pj_Z → mj_M} (hT : pj_Lt pj_TR lf) : ∀  (s : Nat → Int32) (l : Nat → Int64) (x : Nat → Int32) (y : Nat → Int64) (a : Unit × pj_Z), pl_X12_boot_42 s l x y = some a → pm_Gd 4 12022 ie_X12_boot.1 pm_rU lf 42 [(0, .ref 124)] [] (s, l, x, y) a := by
  intro  s l x y a h
  exact pj_bl_ok (pz_X12_boot hT) (fun t lv st z hd h => pj_rn_ok (pz_X12_boot hT) (pm_bks_ok pb_X12_boot) (pj_as_all (p := pm_Ex 4 12022 ie_X12_boot.1 pm_rU lf a) (List.forall_mem_cons.mpr ⟨pu_X12_boot_49 _ (fun c0 c1 s l x y h => pg_X12_boot_49 hT (pj_fu 0) c0 c1 s l x y _ h), (fun _ h => by cases h)⟩)) 60 t lv st z hd h) [(42, .aload_n 0, 1), (43, .invokevirtual 563, 3), (46, .istore_n 1, 1), (47, .iconst 0, 1), (48, .istore_n 2, 1)] 42 [(0, pj_O (124, 0))] [] (s, l, x, y) (pm_bks_ok pb_X12_boot _ _ rfl) (pm_ndb_ok rfl) ((pq_X12_boot_42   s l x y).symm.trans h)
set_option maxRecDepth 100000 in
theorem pm_X12_boot {lf : pj_Z → mj_M} (hT : pj_Lt pj_TR lf)  (s : Nat → Int32) (l : Nat → Int64) (x : Nat → Int32) (y : Nat → Int64) (a : Unit × pj_Z) (h : pf_X12_boot  s l x y = some a) : mj_R ic_P 5 12022 [.ref 124] (lf (s, l, x, y)) (pm_rU a.1) (lf a.2) := by
  refine pm_main (Y := ie_X12_boot.1) rfl (Nat.le_of_ble_eq_true rfl) ?_
  exact pj_bl_ok (pz_X12_boot hT) (fun t lv st z hd h => pj_rn_ok (pz_X12_boot hT) (pm_bks_ok pb_X12_boot) (pj_as_all (p := pm_Ex 4 12022 ie_X12_boot.1 pm_rU lf a) (List.forall_mem_cons.mpr ⟨pu_X12_boot_42 _ (fun  s l x y h => pg_X12_boot_42 hT  s l x y _ h), (fun _ h => by cases h)⟩)) 60 t lv st z hd h) [(0, .aload_n 0, 1), (1, .invokevirtual 256, 3), (4, .aload_n 0, 1), (5, .dup, 1), (6, .getfield 556, 3), (9, .iconst 1, 1), (10, .iadd, 1), (11, .putfield 556, 3), (14, .aload_n 0, 1), (15, .getfield 559, 3), (18, .ifCond .eq 24, 3)] 0 [(0, pj_O (124, 0))] [] (s, l, x, y) (pm_bks_ok pb_X12_boot _ _ rfl) (pm_ndb_ok rfl) ((pq_X12_boot_m  s l x y).symm.trans h)
abbrev ph_X12_boot {A : Type} : List pj_V → pj_Z → (List pj_V → pj_Z → Option A) → Option A := fun st z K => pj_pr st 124 0 fun st => pj_ps st (pj_b (pf_X12_boot  z.1 z.2.1 z.2.2.1 z.2.2.2) fun r s l x y => K st (s, l, x, y))
set_option maxRecDepth 100000 in
theorem pc_X12_boot {A : Type} {OK : A → Option Value → mj_M → Prop} {d j pc ix : Nat} {Y : mj_Y} {lf : pj_Z → mj_M} (hT : pj_Lt pj_TR lf) (hd : 5 ≤ d) (hl : mj_lk Y.2.2.2.2 pc = some (.invokevirtual ix, 3)) (hg : mj_pG ic_P j ix = some (12022, 0, some 12)) {lv : List (Nat × Value)} {st : List pj_V} {z : pj_Z} {K : List pj_V → pj_Z → Option A} {a : A} (hK : ∀ st z, K st z = some a → pj_Gd ic_P (mj_R ic_P d) j Y OK lf (pc + 3) lv (pj_es st) z a) (h : ph_X12_boot st z K = some a) : pj_Gd ic_P (mj_R ic_P d) j Y OK lf pc lv (pj_es st) z a := by
  obtain ⟨r0, e0, h⟩ := pj_pr_inv h
  obtain ⟨hs, h⟩ := pj_ps_inv h
  obtain ⟨q, hq, h⟩ := pj_b_inv h
  exact pm_cv (o := 124) hl hg [] rfl (by rw [e0]; rfl) hs (by decide) ((hT.2 124 _ rfl).1.2 z 0 (by decide)) (pm_rU q.1) hd (pm_X12_boot hT  z.1 z.2.1 z.2.2.1 z.2.2.2 q hq) rfl (hK _ _ h)
abbrev pe_X12_key_19 (f : Int32 → Int32 → Int32 → pj_F (Int32 × pj_Z)) : pj_K (Int32 × pj_Z) := fun lv st z => pj_xr lv 0 124 0 <| pj_xi lv 1 fun a1 => pj_pi st fun b1 st => pj_pi st fun b0 st => pj_pe st (f a1 b0 b1 z.1 z.2.1 z.2.2.1 z.2.2.2)
abbrev pe_X12_key_38 (f : Int32 → pj_F (Int32 × pj_Z)) : pj_K (Int32 × pj_Z) := fun lv st z => pj_xr lv 0 124 0 <| pj_xi lv 1 fun a1 => pj_pe st (f a1 z.1 z.2.1 z.2.2.1 z.2.2.2)
abbrev pe_X12_key_69 (f : pj_F (Int32 × pj_Z)) : pj_K (Int32 × pj_Z) := fun lv st z => pj_xr lv 0 124 0 <| pj_pe st (f  z.1 z.2.1 z.2.2.1 z.2.2.2)
abbrev px_X12_key : pj_C (Int32 × pj_Z) := (pj_TR, (pj_as [(259, 12, 0, 0, false), (420, 12, 76, 1, false), (423, 12, 77, 0, false), (519, 12, 23, 0, false)]), (fun _ => none), (fun _ => none), (fun _ => none), ic_X, 2, 2, pj_mI, (pj_as [(43, ph_X12_allOff), (66, ph_X12_boot)]), fun _ => false)
abbrev pk_X12_key : List (Nat × List (Nat × Instr × Nat)) := [(0, [(0, .aload_n 0, 1), (1, .iconst 0, 1), (2, .putfield 259, 3), (5, .iload_n 1, 1), (6, .aload_n 0, 1), (7, .getfield 519, 3), (10, .iconst 1, 1), (11, .if_icmp .ne 7, 3)]), (14, [(14, .iconst 1, 1), (15, .goto 4, 3)]), (18, [(18, .iconst 0, 1)]), (19, [(19, .if_icmp .ne 5, 3)]), (22, [(22, .iconst 0, 1), (23, .ireturn, 1)]), (24, [(24, .iload_n 1, 1), (25, .ifCond .ne 13, 3)]), (28, [(28, .aload_n 0, 1), (29, .getfield 519, 3), (32, .iconst 1, 1), (33, .if_icmp .eq 5, 3)]), (36, [(36, .iconst 0, 1), (37, .ireturn, 1)]), (38, [(38, .iload_n 1, 1), (39, .ifCond .ne 19, 3)]), (42, [(42, .aload_n 0, 1), (43, .invokevirtual 522, 3), (46, .aload_n 0, 1), (47, .iconst 0, 1), (48, .putfield 423, 3), (51, .aload_n 0, 1), (52, .iconst 2, 1), (53, .putfield 519, 3), (56, .iconst 1, 1), (57, .ireturn, 1)]), (58, [(58, .aload_n 0, 1), (59, .getfield 519, 3), (62, .ifCond .ne 7, 3)]), (65, [(65, .aload_n 0, 1), (66, .invokevirtual 525, 3)]), (69, [(69, .aload_n 0, 1), (70, .iconst 1, 1), (71, .putfield 519, 3), (74, .aload_n 0, 1), (75, .lconst 0, 1), (76, .putfield 420, 3), (79, .iconst 1, 1), (80, .ireturn, 1)])]
set_option maxRecDepth 100000 in
theorem pq_X12_key_69  (s : Nat → Int32) (l : Nat → Int64) (x : Nat → Int32) (y : Nat → Int64) : pl_X12_key_69 s l x y = pj_bl px_X12_key (pj_rn px_X12_key (pj_as pk_X12_key) (fun _ => none) 60) [(69, .aload_n 0, 1), (70, .iconst 1, 1), (71, .putfield 519, 3), (74, .aload_n 0, 1), (75, .lconst 0, 1), (76, .putfield 420, 3), (79, .iconst 1, 1), (80, .ireturn, 1)] 69 [(0, pj_O (124, 0))] [] (s, l, x, y) := rfl
set_option maxRecDepth 100000 in
theorem pq_X12_key_38 (a1 : Int32) (s : Nat → Int32) (l : Nat → Int64) (x : Nat → Int32) (y : Nat → Int64) : pl_X12_key_38 a1 s l x y = pj_bl px_X12_key (pj_rn px_X12_key (pj_as pk_X12_key) (pj_as [(69, pe_X12_key_69 (pl_X12_key_69))]) 60) [(38, .iload_n 1, 1), (39, .ifCond .ne 19, 3)] 38 [(0, pj_O (124, 0)), (1, pj_I a1)] [] (s, l, x, y) := rfl
set_option maxRecDepth 100000 in
theorem pq_X12_key_19 (a1 : Int32) (b0 : Int32) (b1 : Int32) (s : Nat → Int32) (l : Nat → Int64) (x : Nat → Int32) (y : Nat → Int64) : pl_X12_key_19 a1 b0 b1 s l x y = pj_bl px_X12_key (pj_rn px_X12_key (pj_as pk_X12_key) (pj_as [(38, pe_X12_key_38 (pl_X12_key_38))]) 60) [(19, .if_icmp .ne 5, 3)] 19 [(0, pj_O (124, 0)), (1, pj_I a1)] [pj_I b1, pj_I b0] (s, l, x, y) := rfl
set_option maxRecDepth 100000 in
theorem pq_X12_key_m (a1 : Int32) (s : Nat → Int32) (l : Nat → Int64) (x : Nat → Int32) (y : Nat → Int64) : pf_X12_key a1 s l x y = pj_bl px_X12_key (pj_rn px_X12_key (pj_as pk_X12_key) (pj_as [(19, pe_X12_key_19 (pl_X12_key_19))]) 60) [(0, .aload_n 0, 1), (1, .iconst 0, 1), (2, .putfield 259, 3), (5, .iload_n 1, 1), (6, .aload_n 0, 1), (7, .getfield 519, 3), (10, .iconst 1, 1), (11, .if_icmp .ne 7, 3)] 0 [(0, pj_O (124, 0)), (1, pj_I a1)] [] (s, l, x, y) := rfl
theorem pu_X12_key_19 {lf : pj_Z → mj_M} {a : Int32 × pj_Z} (f : Int32 → Int32 → Int32 → pj_F (Int32 × pj_Z)) (hf : ∀ (a1 : Int32) (b0 : Int32) (b1 : Int32) (s : Nat → Int32) (l : Nat → Int64) (x : Nat → Int32) (y : Nat → Int64), f a1 b0 b1 s l x y = some a → pm_Gd 5 12014 ie_X12_key.1 pm_rI lf 19 [(0, .ref 124), (1, .int a1)] [.int b1, .int b0] (s, l, x, y) a) : pm_Ex 5 12014 ie_X12_key.1 pm_rI lf a 19 (pe_X12_key_19 f) := by
  intro lv st z hd h
  obtain ⟨g0, h⟩ := pj_xr_inv h
  obtain ⟨a1, g1, h⟩ := pj_xi_inv h
  obtain ⟨b1, r1, e1, h⟩ := pj_pi_inv h
  obtain ⟨b0, r0, e0, h⟩ := pj_pi_inv h
  obtain ⟨e9, h⟩ := pj_pe_inv h
  rw [e1, e0, e9]
  exact mj_wp_sub (mj_sub_cons g0 (mj_sub_cons g1 (mj_sub_nil hd))) (hf _ _ _ _ _ _ _ h)
theorem pu_X12_key_38 {lf : pj_Z → mj_M} {a : Int32 × pj_Z} (f : Int32 → pj_F (Int32 × pj_Z)) (hf : ∀ (a1 : Int32) (s : Nat → Int32) (l : Nat → Int64) (x : Nat → Int32) (y : Nat → Int64), f a1 s l x y = some a → pm_Gd 5 12014 ie_X12_key.1 pm_rI lf 38 [(0, .ref 124), (1, .int a1)] [] (s, l, x, y) a) : pm_Ex 5 12014 ie_X12_key.1 pm_rI lf a 38 (pe_X12_key_38 f) := by
  intro lv st z hd h
  obtain ⟨g0, h⟩ := pj_xr_inv h
  obtain ⟨a1, g1, h⟩ := pj_xi_inv h
  obtain ⟨e9, h⟩ := pj_pe_inv h
  rw [e9]
  exact mj_wp_sub (mj_sub_cons g0 (mj_sub_cons g1 (mj_sub_nil hd))) (hf _ _ _ _ _ h)
theorem pu_X12_key_69 {lf : pj_Z → mj_M} {a : Int32 × pj_Z} (f : pj_F (Int32 × pj_Z)) (hf : ∀  (s : Nat → Int32) (l : Nat → Int64) (x : Nat → Int32) (y : Nat → Int64), f  s l x y = some a → pm_Gd 5 12014 ie_X12_key.1 pm_rI lf 69 [(0, .ref 124)] [] (s, l, x, y) a) : pm_Ex 5 12014 ie_X12_key.1 pm_rI lf a 69 (pe_X12_key_69 f) := by
  intro lv st z hd h
  obtain ⟨g0, h⟩ := pj_xr_inv h
  obtain ⟨e9, h⟩ := pj_pe_inv h
  rw [e9]
  exact mj_wp_sub (mj_sub_cons g0 (mj_sub_nil hd)) (hf  _ _ _ _ h)
set_option maxRecDepth 100000 in
theorem pz_X12_key {lf : pj_Z → mj_M} (hT : pj_Lt pj_TR lf) : pj_Cok ic_P (mj_R ic_P 5) 12014 ie_X12_key.1 (pm_OK lf pm_rI) lf px_X12_key := by
  exact pm_cok (c := px_X12_key) hT (pm_in_ok (L := [(259, 12, 0, 0, false), (420, 12, 76, 1, false), (423, 12, 77, 0, false), (519, 12, 23, 0, false)]) (f := mj_pF ic_P 12014) (by decide +kernel)) (fun _ _ h => by cases h) (fun _ _ h => by cases h) (fun _ _ h => by cases h) rfl rfl ⟨by decide, rfl⟩ pm_mI (pj_as_all (p := pm_Cl 5 12014 ie_X12_key.1 lf (pm_OK lf pm_rI)) (List.forall_mem_cons.mpr ⟨fun _ _ lv st z K a hK h => pc_X12_allOff hT (by decide) (ix := 522) rfl rfl hK h, (List.forall_mem_cons.mpr ⟨fun _ _ lv st z K a hK h => pc_X12_boot hT (by decide) (ix := 525) rfl rfl hK h, (fun _ h => by cases h)⟩)⟩)) (fun _ h => by cases h)
set_option maxRecDepth 100000 in
theorem pb_X12_key : pm_bks ie_X12_key.1.2.2.2.2 pk_X12_key = true := by decide +kernel
set_option maxRecDepth 100000 in
theorem pg_X12_key_69 {lf : pj_Z → mj_M} (hT : pj_Lt pj_TR lf) : ∀  (s : Nat → Int32) (l : Nat → Int64) (x : Nat → Int32) (y : Nat → Int64) (a : Int32 × pj_Z), pl_X12_key_69 s l x y = some a → pm_Gd 5 12014 ie_X12_key.1 pm_rI lf 69 [(0, .ref 124)] [] (s, l, x, y) a := by
  intro  s l x y a h
  exact pj_bl_ok (pz_X12_key hT) (fun t lv st z hd h => pj_rn_ok (pz_X12_key hT) (pm_bks_ok pb_X12_key) (fun _ _ h => by cases h) 60 t lv st z hd h) [(69, .aload_n 0, 1), (70, .iconst 1, 1), (71, .putfield 519, 3), (74, .aload_n 0, 1), (75, .lconst 0, 1), (76, .putfield 420, 3), (79, .iconst 1, 1), (80, .ireturn, 1)] 69 [(0, pj_O (124, 0))] [] (s, l, x, y) (pm_bks_ok pb_X12_key _ _ rfl) (pm_ndb_ok rfl) ((pq_X12_key_69   s l x y).symm.trans h)
set_option maxRecDepth 100000 in
theorem pg_X12_key_38 {lf : pj_Z → mj_M} (hT : pj_Lt pj_TR lf) : ∀ (a1 : Int32) (s : Nat → Int32) (l : Nat → Int64) (x : Nat → Int32) (y : Nat → Int64) (a : Int32 × pj_Z), pl_X12_key_38 a1 s l x y = some a → pm_Gd 5 12014 ie_X12_key.1 pm_rI lf 38 [(0, .ref 124), (1, .int a1)] [] (s, l, x, y) a := by
  intro a1 s l x y a h
  exact pj_bl_ok (pz_X12_key hT) (fun t lv st z hd h => pj_rn_ok (pz_X12_key hT) (pm_bks_ok pb_X12_key) (pj_as_all (p := pm_Ex 5 12014 ie_X12_key.1 pm_rI lf a) (List.forall_mem_cons.mpr ⟨pu_X12_key_69 _ (fun  s l x y h => pg_X12_key_69 hT  s l x y _ h), (fun _ h => by cases h)⟩)) 60 t lv st z hd h) [(38, .iload_n 1, 1), (39, .ifCond .ne 19, 3)] 38 [(0, pj_O (124, 0)), (1, pj_I a1)] [] (s, l, x, y) (pm_bks_ok pb_X12_key _ _ rfl) (pm_ndb_ok rfl) ((pq_X12_key_38  a1 s l x y).symm.trans h)
set_option maxRecDepth 100000 in
theorem pg_X12_key_19 {lf : pj_Z → mj_M} (hT : pj_Lt pj_TR lf) : ∀ (a1 : Int32) (b0 : Int32) (b1 : Int32) (s : Nat → Int32) (l : Nat → Int64) (x : Nat → Int32) (y : Nat → Int64) (a : Int32 × pj_Z), pl_X12_key_19 a1 b0 b1 s l x y = some a → pm_Gd 5 12014 ie_X12_key.1 pm_rI lf 19 [(0, .ref 124), (1, .int a1)] [.int b1, .int b0] (s, l, x, y) a := by
  intro a1 b0 b1 s l x y a h
  exact pj_bl_ok (pz_X12_key hT) (fun t lv st z hd h => pj_rn_ok (pz_X12_key hT) (pm_bks_ok pb_X12_key) (pj_as_all (p := pm_Ex 5 12014 ie_X12_key.1 pm_rI lf a) (List.forall_mem_cons.mpr ⟨pu_X12_key_38 _ (fun c0 s l x y h => pg_X12_key_38 hT c0 s l x y _ h), (fun _ h => by cases h)⟩)) 60 t lv st z hd h) [(19, .if_icmp .ne 5, 3)] 19 [(0, pj_O (124, 0)), (1, pj_I a1)] [pj_I b1, pj_I b0] (s, l, x, y) (pm_bks_ok pb_X12_key _ _ rfl) (pm_ndb_ok rfl) ((pq_X12_key_19  a1 b0 b1 s l x y).symm.trans h)
set_option maxRecDepth 100000 in
theorem pm_X12_key {lf : pj_Z → mj_M} (hT : pj_Lt pj_TR lf) (a1 : Int32) (s : Nat → Int32) (l : Nat → Int64) (x : Nat → Int32) (y : Nat → Int64) (a : Int32 × pj_Z) (h : pf_X12_key a1 s l x y = some a) : mj_R ic_P 6 12014 [.ref 124, .int a1] (lf (s, l, x, y)) (pm_rI a.1) (lf a.2) := by
  refine pm_main (Y := ie_X12_key.1) rfl (Nat.le_of_ble_eq_true rfl) ?_
  exact pj_bl_ok (pz_X12_key hT) (fun t lv st z hd h => pj_rn_ok (pz_X12_key hT) (pm_bks_ok pb_X12_key) (pj_as_all (p := pm_Ex 5 12014 ie_X12_key.1 pm_rI lf a) (List.forall_mem_cons.mpr ⟨pu_X12_key_19 _ (fun c0 c1 c2 s l x y h => pg_X12_key_19 hT c0 c1 c2 s l x y _ h), (fun _ h => by cases h)⟩)) 60 t lv st z hd h) [(0, .aload_n 0, 1), (1, .iconst 0, 1), (2, .putfield 259, 3), (5, .iload_n 1, 1), (6, .aload_n 0, 1), (7, .getfield 519, 3), (10, .iconst 1, 1), (11, .if_icmp .ne 7, 3)] 0 [(0, pj_O (124, 0)), (1, pj_I a1)] [] (s, l, x, y) (pm_bks_ok pb_X12_key _ _ rfl) (pm_ndb_ok rfl) ((pq_X12_key_m a1 s l x y).symm.trans h)
abbrev ph_X12_key {A : Type} : List pj_V → pj_Z → (List pj_V → pj_Z → Option A) → Option A := fun st z K => pj_pi st fun a1 st => pj_pr st 124 0 fun st => pj_ps st (pj_b (pf_X12_key a1 z.1 z.2.1 z.2.2.1 z.2.2.2) fun r s l x y => K (pj_I r :: st) (s, l, x, y))
set_option maxRecDepth 100000 in
theorem pc_X12_key {A : Type} {OK : A → Option Value → mj_M → Prop} {d j pc ix : Nat} {Y : mj_Y} {lf : pj_Z → mj_M} (hT : pj_Lt pj_TR lf) (hd : 6 ≤ d) (hl : mj_lk Y.2.2.2.2 pc = some (.invokevirtual ix, 3)) (hg : mj_pG ic_P j ix = some (12014, 1, some 12)) {lv : List (Nat × Value)} {st : List pj_V} {z : pj_Z} {K : List pj_V → pj_Z → Option A} {a : A} (hK : ∀ st z, K st z = some a → pj_Gd ic_P (mj_R ic_P d) j Y OK lf (pc + 3) lv (pj_es st) z a) (h : ph_X12_key st z K = some a) : pj_Gd ic_P (mj_R ic_P d) j Y OK lf pc lv (pj_es st) z a := by
  obtain ⟨a1, r1, e1, h⟩ := pj_pi_inv h
  obtain ⟨r0, e0, h⟩ := pj_pr_inv h
  obtain ⟨hs, h⟩ := pj_ps_inv h
  obtain ⟨q, hq, h⟩ := pj_b_inv h
  exact pm_cv (o := 124) hl hg [.int a1] rfl (by rw [e1, e0]; rfl) hs (by decide) ((hT.2 124 _ rfl).1.2 z 0 (by decide)) (pm_rI q.1) hd (pm_X12_key hT a1 z.1 z.2.1 z.2.2.1 z.2.2.2 q hq) rfl (hK _ _ h)

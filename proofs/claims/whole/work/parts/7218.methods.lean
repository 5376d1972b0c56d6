/-! METHODS 18, printed by gen_meth.py -/
abbrev pe_X12_modelPins_50 (f : pj_F (Unit × pj_Z)) : pj_K (Unit × pj_Z) := fun lv st z => pj_xr lv 0 124 0 <| pj_pe st (f  z.1 z.2.1 z.2.2.1 z.2.2.2)
abbrev pe_X12_modelPins_121 (f : Int32 → pj_F (Unit × pj_Z)) : pj_K (Unit × pj_Z) := fun lv st z => pj_xr lv 0 124 0 <| pj_pi st fun b2 st => pj_pc st 4 fun st => pj_pr st 134 0 fun st => pj_pe st (f b2 z.1 z.2.1 z.2.2.1 z.2.2.2)
abbrev pe_X12_modelPins_178 (f : Int32 → pj_F (Unit × pj_Z)) : pj_K (Unit × pj_Z) := fun lv st z => pj_xr lv 0 124 0 <| pj_pi st fun b1 st => pj_pr st 124 0 fun st => pj_pe st (f b1 z.1 z.2.1 z.2.2.1 z.2.2.2)
abbrev pe_X12_modelPins_205 (f : Int32 → pj_F (Unit × pj_Z)) : pj_K (Unit × pj_Z) := fun lv st z => pj_xr lv 0 124 0 <| pj_pi st fun b1 st => pj_pr st 124 0 fun st => pj_pe st (f b1 z.1 z.2.1 z.2.2.1 z.2.2.2)
abbrev pe_X12_modelPins_208 (f : pj_F (Unit × pj_Z)) : pj_K (Unit × pj_Z) := fun lv st z => pj_xr lv 0 124 0 <| pj_pe st (f  z.1 z.2.1 z.2.2.1 z.2.2.2)
abbrev pe_X12_modelPins_234 (f : pj_F (Unit × pj_Z)) : pj_K (Unit × pj_Z) := fun lv st z => pj_xr lv 0 124 0 <| pj_pr st 124 0 fun st => pj_pe st (f  z.1 z.2.1 z.2.2.1 z.2.2.2)
abbrev pe_X12_modelPins_238 (f : Int32 → pj_F (Unit × pj_Z)) : pj_K (Unit × pj_Z) := fun lv st z => pj_xr lv 0 124 0 <| pj_pi st fun b1 st => pj_pr st 124 0 fun st => pj_pe st (f b1 z.1 z.2.1 z.2.2.1 z.2.2.2)
abbrev pe_X12_modelPins_241 (f : pj_F (Unit × pj_Z)) : pj_K (Unit × pj_Z) := fun lv st z => pj_xr lv 0 124 0 <| pj_pe st (f  z.1 z.2.1 z.2.2.1 z.2.2.2)
abbrev px_X12_modelPins : pj_C (Unit × pj_Z) := ((pj_as [(124, 12, 195, 1, 0, true, 0, [(1, 1), (2, 125), (2, 126), (2, 127), (2, 128), (2, 129), (2, 130), (2, 131), (2, 132), (2, 133), (1, 2), (0, 44), (2, 134), (2, 135), (2, 136), (2, 137), (2, 138), (0, 69), (2, 139), (2, 140), (2, 141), (1, 3), (0, 93), (0, 94), (0, 45), (0, 46), (0, 48), (0, 49), (0, 47), (0, 50), (0, 51), (2, 142), (2, 143), (2, 144), (0, 19), (1, 4), (1, 5), (1, 6), (0, 20), (0, 21), (0, 22), (0, 23), (0, 24), (0, 25), (0, 27), (0, 28), (1, 7), (1, 8), (1, 9), (1, 10), (1, 11), (0, 26), (2, 145), (2, 146), (2, 147), (2, 148), (2, 149), (2, 150), (2, 151), (2, 152), (2, 153), (2, 154), (2, 155), (2, 156), (2, 157), (2, 158), (2, 159), (0, 57), (0, 58), (0, 59), (0, 60), (2, 160), (2, 161), (2, 162), (2, 163), (1, 12), (1, 13), (0, 95), (0, 73), (0, 74), (0, 71), (0, 72), (0, 75), (0, 76), (0, 77), (0, 80), (0, 78), (0, 79), (1, 14), (0, 29), (0, 30), (0, 31), (0, 34), (0, 35), (0, 32), (0, 33), (0, 36), (0, 37), (0, 38), (0, 39), (0, 40), (1, 15), (1, 16), (0, 43), (0, 41), (0, 42), (2, 164), (0, 96), (0, 89), (0, 90), (0, 91), (0, 92), (2, 165), (2, 166), (2, 167), (2, 168), (2, 169), (2, 170), (2, 171), (2, 172), (0, 87), (2, 173), (0, 88), (2, 174), (0, 62), (1, 17), (0, 66), (0, 63), (0, 64), (0, 65), (0, 67), (1, 18), (0, 68), (2, 175), (1, 19), (0, 52), (0, 53), (0, 54), (0, 55), (2, 176), (0, 56), (0, 85), (0, 86), (0, 81), (0, 82), (0, 83), (0, 84), (2, 177), (2, 178), (2, 179), (1, 20), (2, 180), (0, 6), (0, 7), (0, 8), (0, 16), (0, 17), (0, 61), (0, 9), (0, 10), (1, 21), (1, 22), (0, 11), (0, 12), (0, 13), (0, 18), (0, 14), (0, 15), (2, 181), (0, 70), (1, 23), (2, 182), (2, 183), (0, 1), (1, 24), (2, 184), (2, 185), (1, 25), (0, 2), (2, 186), (2, 187), (1, 26), (2, 188), (2, 189), (1, 27), (1, 28), (2, 190), (2, 191), (1, 29), (0, 3), (2, 192), (0, 4), (0, 5), (1, 30), (2, 193)]), (134, 100, 10, 1, 0, true, 29000, [])]), (pj_as [(44, 12, 12, 2, true), (69, 12, 29, 0, false), (72, 12, 30, 0, false), (142, 12, 88, 3, false), (417, 12, 75, 1, false), (450, 12, 86, 0, false), (483, 12, 98, 3, false), (709, 12, 25, 0, false)]), (fun _ => none), (pj_as [(687, 1000), (712, 50)]), (fun _ => none), ic_X, 2, 0, pj_mU, (pj_as [(16, ph_X12_toward), (43, ph_X12_cutTo)]), fun _ => false)
abbrev pk_X12_modelPins : List (Nat × List (Nat × Instr × Nat)) := [(0, [(0, .aload_n 0, 1), (1, .getfield 142, 3), (4, .ifCond .eq 21, 3)]), (7, [(7, .aload_n 0, 1), (8, .aload_n 0, 1), (9, .getfield 69, 3), (12, .bipush 60, 2), (14, .bipush 10, 2), (16, .invokestatic 706, 3), (19, .putfield 69, 3), (22, .goto 28, 3)]), (25, [(25, .aload_n 0, 1), (26, .aload_n 0, 1), (27, .getfield 69, 3), (30, .aload_n 0, 1), (31, .getfield 450, 3), (34, .bipush 20, 2), (36, .idiv, 1), (37, .iadd, 1), (38, .i2l, 1), (39, .lconst 0, 1), (40, .ldc2_w 687, 3), (43, .invokestatic 576, 3), (46, .l2i, 1), (47, .putfield 69, 3)]), (50, [(50, .aload_n 0, 1), (51, .getfield 44, 3), (54, .iconst 2, 1), (55, .aload_n 0, 1), (56, .getfield 69, 3), (59, .sipush 1023, 3), (62, .imul, 1), (63, .sipush 1000, 3), (66, .idiv, 1), (67, .iastore, 1), (68, .aload_n 0, 1), (69, .getfield 44, 3), (72, .iconst 3, 1), (73, .aload_n 0, 1), (74, .getfield 44, 3), (77, .iconst 2, 1), (78, .iaload, 1), (79, .iastore, 1), (80, .bipush 30, 2), (82, .aload_n 0, 1), (83, .getfield 69, 3), (86, .bipush 70, 2), (88, .imul, 1), (89, .sipush 1000, 3), (92, .idiv, 1), (93, .iadd, 1), (94, .aload_n 0, 1), (95, .getfield 709, 3), (98, .sipush 200, 3), (101, .idiv, 1), (102, .isub, 1), (103, .istore_n 1, 1), (104, .aload_n 0, 1), (105, .getfield 44, 3), (108, .iconst 4, 1), (109, .iload_n 1, 1), (110, .bipush 12, 2), (112, .if_icmp .le 7, 3)]), (115, [(115, .iload_n 1, 1), (116, .goto 5, 3)]), (119, [(119, .bipush 12, 2)]), (121, [(121, .bipush 10, 2), (123, .isub, 1), (124, .sipush 1023, 3), (127, .imul, 1), (128, .bipush 100, 2), (130, .idiv, 1), (131, .iastore, 1), (132, .aload_n 0, 1), (133, .getfield 417, 3), (136, .ldc2_w 712, 3), (139, .lrem, 1), (140, .lconst 0, 1), (141, .lcmp, 1), (142, .ifCond .ne 99, 3)]), (145, [(145, .aload_n 0, 1), (146, .getfield 709, 3), (149, .sipush 400, 3), (152, .if_icmp .lt 32, 3)]), (155, [(155, .aload_n 0, 1), (156, .aload_n 0, 1), (157, .getfield 72, 3), (160, .sipush 130, 3), (163, .if_icmp .ge 12, 3)]), (166, [(166, .aload_n 0, 1), (167, .getfield 72, 3), (170, .iconst 1, 1), (171, .iadd, 1), (172, .goto 6, 3)]), (175, [(175, .sipush 130, 3)]), (178, [(178, .putfield 72, 3), (181, .goto 27, 3)]), (184, [(184, .aload_n 0, 1), (185, .aload_n 0, 1), (186, .getfield 72, 3), (189, .bipush 20, 2), (191, .if_icmp .le 12, 3)]), (194, [(194, .aload_n 0, 1), (195, .getfield 72, 3), (198, .iconst 1, 1), (199, .isub, 1), (200, .goto 5, 3)]), (203, [(203, .bipush 20, 2)]), (205, [(205, .putfield 72, 3)]), (208, [(208, .aload_n 0, 1), (209, .aload_n 0, 1), (210, .getfield 483, 3), (213, .ifCond .eq 21, 3)]), (216, [(216, .aload_n 0, 1), (217, .getfield 72, 3), (220, .bipush 60, 2), (222, .if_icmp .le 12, 3)]), (225, [(225, .aload_n 0, 1), (226, .getfield 72, 3), (229, .iconst 2, 1), (230, .isub, 1), (231, .goto 7, 3)]), (234, [(234, .aload_n 0, 1), (235, .getfield 72, 3)]), (238, [(238, .putfield 72, 3)]), (241, [(241, .aload_n 0, 1), (242, .getfield 44, 3), (245, .iconst 5, 1), (246, .sipush 140, 3), (249, .aload_n 0, 1), (250, .getfield 72, 3), (253, .isub, 1), (254, .sipush 1023, 3), (257, .imul, 1), (258, .sipush 180, 3), (261, .idiv, 1), (262, .iastore, 1), (263, .return_, 1)])]
set_option maxRecDepth 100000 in
theorem pq_X12_modelPins_241   (s : Nat → Int32) (l : Nat → Int64) (x : Nat → Int32) (y : Nat → Int64) : pl_X12_modelPins_241 s l x y = pj_bl px_X12_modelPins (pj_rn px_X12_modelPins (pj_as pk_X12_modelPins) (fun _ => none) 60) [(241, .aload_n 0, 1), (242, .getfield 44, 3), (245, .iconst 5, 1), (246, .sipush 140, 3), (249, .aload_n 0, 1), (250, .getfield 72, 3), (253, .isub, 1), (254, .sipush 1023, 3), (257, .imul, 1), (258, .sipush 180, 3), (261, .idiv, 1), (262, .iastore, 1), (263, .return_, 1)] 241 [(0, pj_O (124, 0))] [] (s, l, x, y) := rfl
set_option maxRecDepth 100000 in
theorem pq_X12_modelPins_238  (b1 : Int32) (s : Nat → Int32) (l : Nat → Int64) (x : Nat → Int32) (y : Nat → Int64) : pl_X12_modelPins_238 b1 s l x y = pj_bl px_X12_modelPins (pj_rn px_X12_modelPins (pj_as pk_X12_modelPins) (pj_as [(241, pe_X12_modelPins_241 (pl_X12_modelPins_241))]) 60) [(238, .putfield 72, 3)] 238 [(0, pj_O (124, 0))] [pj_I b1, pj_O (124, 0)] (s, l, x, y) := rfl
set_option maxRecDepth 100000 in
theorem pq_X12_modelPins_234   (s : Nat → Int32) (l : Nat → Int64) (x : Nat → Int32) (y : Nat → Int64) : pl_X12_modelPins_234 s l x y = pj_bl px_X12_modelPins (pj_rn px_X12_modelPins (pj_as pk_X12_modelPins) (pj_as [(238, pe_X12_modelPins_238 (pl_X12_modelPins_238))]) 60) [(234, .aload_n 0, 1), (235, .getfield 72, 3)] 234 [(0, pj_O (124, 0))] [pj_O (124, 0)] (s, l, x, y) := rfl
set_option maxRecDepth 100000 in
theorem pq_X12_modelPins_208   (s : Nat → Int32) (l : Nat → Int64) (x : Nat → Int32) (y : Nat → Int64) : pl_X12_modelPins_208 s l x y = pj_bl px_X12_modelPins (pj_rn px_X12_modelPins (pj_as pk_X12_modelPins) (pj_as [(234, pe_X12_modelPins_234 (pl_X12_modelPins_234)), (238, pe_X12_modelPins_238 (pl_X12_modelPins_238))]) 60) [(208, .aload_n 0, 1), (209, .aload_n 0, 1), (210, .getfield 483, 3), (213, .ifCond .eq 21, 3)] 208 [(0, pj_O (124, 0))] [] (s, l, x, y) := rfl
set_option maxRecDepth 100000 in
theorem pq_X12_modelPins_178  (b1 : Int32) (s : Nat → Int32) (l : Nat → Int64) (x : Nat → Int32) (y : Nat → Int64) : pl_X12_modelPins_178 b1 s l x y = pj_bl px_X12_modelPins (pj_rn px_X12_modelPins (pj_as pk_X12_modelPins) (pj_as [(208, pe_X12_modelPins_208 (pl_X12_modelPins_208))]) 60) [(178, .putfield 72, 3), (181, .goto 27, 3)] 178 [(0, pj_O (124, 0))] [pj_I b1, pj_O (124, 0)] (s, l, x, y) := rfl
set_option maxRecDepth 100000 in
theorem pq_X12_modelPins_205  (b1 : Int32) (s : Nat → Int32) (l : Nat → Int64) (x : Nat → Int32) (y : Nat → Int64) : pl_X12_modelPins_205 b1 s l x y = pj_bl px_X12_modelPins (pj_rn px_X12_modelPins (pj_as pk_X12_modelPins) (pj_as [(208, pe_X12_modelPins_208 (pl_X12_modelPins_208))]) 60) [(205, .putfield 72, 3)] 205 [(0, pj_O (124, 0))] [pj_I b1, pj_O (124, 0)] (s, l, x, y) := rfl
set_option maxRecDepth 100000 in
theorem pq_X12_modelPins_121  (b2 : Int32) (s : Nat → Int32) (l : Nat → Int64) (x : Nat → Int32) (y : Nat → Int64) : pl_X12_modelPins_121 b2 s l x y = pj_bl px_X12_modelPins (pj_rn px_X12_modelPins (pj_as pk_X12_modelPins) (pj_as [(178, pe_X12_modelPins_178 (pl_X12_modelPins_178)), (205, pe_X12_modelPins_205 (pl_X12_modelPins_205)), (241, pe_X12_modelPins_241 (pl_X12_modelPins_241))]) 60) [(121, .bipush 10, 2), (123, .isub, 1), (124, .sipush 1023, 3), (127, .imul, 1), (128, .bipush 100, 2), (130, .idiv, 1), (131, .iastore, 1), (132, .aload_n 0, 1), (133, .getfield 417, 3), (136, .ldc2_w 712, 3), (139, .lrem, 1), (140, .lconst 0, 1), (141, .lcmp, 1), (142, .ifCond .ne 99, 3)] 121 [(0, pj_O (124, 0))] [pj_I b2, pj_N 4, pj_O (134, 0)] (s, l, x, y) := rfl
set_option maxRecDepth 100000 in
theorem pq_X12_modelPins_50   (s : Nat → Int32) (l : Nat → Int64) (x : Nat → Int32) (y : Nat → Int64) : pl_X12_modelPins_50 s l x y = pj_bl px_X12_modelPins (pj_rn px_X12_modelPins (pj_as pk_X12_modelPins) (pj_as [(121, pe_X12_modelPins_121 (pl_X12_modelPins_121))]) 60) [(50, .aload_n 0, 1), (51, .getfield 44, 3), (54, .iconst 2, 1), (55, .aload_n 0, 1), (56, .getfield 69, 3), (59, .sipush 1023, 3), (62, .imul, 1), (63, .sipush 1000, 3), (66, .idiv, 1), (67, .iastore, 1), (68, .aload_n 0, 1), (69, .getfield 44, 3), (72, .iconst 3, 1), (73, .aload_n 0, 1), (74, .getfield 44, 3), (77, .iconst 2, 1), (78, .iaload, 1), (79, .iastore, 1), (80, .bipush 30, 2), (82, .aload_n 0, 1), (83, .getfield 69, 3), (86, .bipush 70, 2), (88, .imul, 1), (89, .sipush 1000, 3), (92, .idiv, 1), (93, .iadd, 1), (94, .aload_n 0, 1), (95, .getfield 709, 3), (98, .sipush 200, 3), (101, .idiv, 1), (102, .isub, 1), (103, .istore_n 1, 1), (104, .aload_n 0, 1), (105, .getfield 44, 3), (108, .iconst 4, 1), (109, .iload_n 1, 1), (110, .bipush 12, 2), (112, .if_icmp .le 7, 3)] 50 [(0, pj_O (124, 0))] [] (s, l, x, y) := rfl
set_option maxRecDepth 100000 in
theorem pq_X12_modelPins_m   (s : Nat → Int32) (l : Nat → Int64) (x : Nat → Int32) (y : Nat → Int64) : pf_X12_modelPins  s l x y = pj_bl px_X12_modelPins (pj_rn px_X12_modelPins (pj_as pk_X12_modelPins) (pj_as [(50, pe_X12_modelPins_50 (pl_X12_modelPins_50))]) 60) [(0, .aload_n 0, 1), (1, .getfield 142, 3), (4, .ifCond .eq 21, 3)] 0 [(0, pj_O (124, 0))] [] (s, l, x, y) := rfl
theorem pu_X12_modelPins_50 {lf : pj_Z → mj_M} {a : Unit × pj_Z} (f : pj_F (Unit × pj_Z)) (hf : ∀  (s : Nat → Int32) (l : Nat → Int64) (x : Nat → Int32) (y : Nat → Int64), f  s l x y = some a → pm_Gd 1 12051 ie_X12_modelPins.1 pm_rU lf 50 [(0, .ref 124)] [] (s, l, x, y) a) : pm_Ex 1 12051 ie_X12_modelPins.1 pm_rU lf a 50 (pe_X12_modelPins_50 f) := by
  intro lv st z hd h
  obtain ⟨g0, h⟩ := pj_xr_inv h
  obtain ⟨e9, h⟩ := pj_pe_inv h
  rw [e9]
  exact mj_wp_sub (mj_sub_cons g0 (mj_sub_nil hd)) (hf  _ _ _ _ h)
theorem pu_X12_modelPins_121 {lf : pj_Z → mj_M} {a : Unit × pj_Z} (f : Int32 → pj_F (Unit × pj_Z)) (hf : ∀ (b2 : Int32) (s : Nat → Int32) (l : Nat → Int64) (x : Nat → Int32) (y : Nat → Int64), f b2 s l x y = some a → pm_Gd 1 12051 ie_X12_modelPins.1 pm_rU lf 121 [(0, .ref 124)] [.int b2, .int (Int32.ofInt 4), .ref 134] (s, l, x, y) a) : pm_Ex 1 12051 ie_X12_modelPins.1 pm_rU lf a 121 (pe_X12_modelPins_121 f) := by
  intro lv st z hd h
  obtain ⟨g0, h⟩ := pj_xr_inv h
  obtain ⟨b2, r2, e2, h⟩ := pj_pi_inv h
  obtain ⟨r1, e1, h⟩ := pj_pc_inv h
  obtain ⟨r0, e0, h⟩ := pj_pr_inv h
  obtain ⟨e9, h⟩ := pj_pe_inv h
  rw [e2, e1, e0, e9]
  exact mj_wp_sub (mj_sub_cons g0 (mj_sub_nil hd)) (hf _ _ _ _ _ h)
theorem pu_X12_modelPins_178 {lf : pj_Z → mj_M} {a : Unit × pj_Z} (f : Int32 → pj_F (Unit × pj_Z)) (hf : ∀ (b1 : Int32) (s : Nat → Int32) (l : Nat → Int64) (x : Nat → Int32) (y : Nat → Int64), f b1 s l x y = some a → pm_Gd 1 12051 ie_X12_modelPins.1 pm_rU lf 178 [(0, .ref 124)] [.int b1, .ref 124] (s, l, x, y) a) : pm_Ex 1 12051 ie_X12_modelPins.1 pm_rU lf a 178 (pe_X12_modelPins_178 f) := by
  intro lv st z hd h
  obtain ⟨g0, h⟩ := pj_xr_inv h
  obtain ⟨b1, r1, e1, h⟩ := pj_pi_inv h
  obtain ⟨r0, e0, h⟩ := pj_pr_inv h
  obtain ⟨e9, h⟩ := pj_pe_inv h
  rw [e1, e0, e9]
  exact mj_wp_sub (mj_sub_cons g0 (mj_sub_nil hd)) (hf _ _ _ _ _ h)
theorem pu_X12_modelPins_205 {lf : pj_Z → mj_M} {a : Unit × pj_Z} (f : Int32 → pj_F (Unit × pj_Z)) (hf : ∀ (b1 : Int32) (s : Nat → Int32) (l : Nat → Int64) (x : Nat → Int32) (y : Nat → Int64), f b1 s l x y = some a → pm_Gd 1 12051 ie_X12_modelPins.1 pm_rU lf 205 [(0, .ref 124)] [.int b1, .ref 124] (s, l, x, y) a) : pm_Ex 1 12051 ie_X12_modelPins.1 pm_rU lf a 205 (pe_X12_modelPins_205 f) := by
  intro lv st z hd h
  obtain ⟨g0, h⟩ := pj_xr_inv h
  obtain ⟨b1, r1, e1, h⟩ := pj_pi_inv h
  obtain ⟨r0, e0, h⟩ := pj_pr_inv h
  obtain ⟨e9, h⟩ := pj_pe_inv h
  rw [e1, e0, e9]
  exact mj_wp_sub (mj_sub_cons g0 (mj_sub_nil hd)) (hf _ _ _ _ _ h)
theorem pu_X12_modelPins_208 {lf : pj_Z → mj_M} {a : Unit × pj_Z} (f : pj_F (Unit × pj_Z)) (hf : ∀  (s : Nat → Int32) (l : Nat → Int64) (x : Nat → Int32) (y : Nat → Int64), f  s l x y = some a → pm_Gd 1 12051 ie_X12_modelPins.1 pm_rU lf 208 [(0, .ref 124)] [] (s, l, x, y) a) : pm_Ex 1 12051 ie_X12_modelPins.1 pm_rU lf a 208 (pe_X12_modelPins_208 f) := by
  intro lv st z hd h
  obtain ⟨g0, h⟩ := pj_xr_inv h
  obtain ⟨e9, h⟩ := pj_pe_inv h
  rw [e9]
  exact mj_wp_sub (mj_sub_cons g0 (mj_sub_nil hd)) (hf  _ _ _ _ h)
theorem pu_X12_modelPins_234 {lf : pj_Z → mj_M} {a : Unit × pj_Z} (f : pj_F (Unit × pj_Z)) (hf : ∀  (s : Nat → Int32) (l : Nat → Int64) (x : Nat → Int32) (y : Nat → Int64), f  s l x y = some a → pm_Gd 1 12051 ie_X12_modelPins.1 pm_rU lf 234 [(0, .ref 124)] [.ref 124] (s, l, x, y) a) : pm_Ex 1 12051 ie_X12_modelPins.1 pm_rU lf a 234 (pe_X12_modelPins_234 f) := by
  intro lv st z hd h
  obtain ⟨g0, h⟩ := pj_xr_inv h
  obtain ⟨r0, e0, h⟩ := pj_pr_inv h
  obtain ⟨e9, h⟩ := pj_pe_inv h
  rw [e0, e9]
  exact mj_wp_sub (mj_sub_cons g0 (mj_sub_nil hd)) (hf  _ _ _ _ h)
theorem pu_X12_modelPins_238 {lf : pj_Z → mj_M} {a : Unit × pj_Z} (f : Int32 → pj_F (Unit × pj_Z)) (hf : ∀ (b1 : Int32) (s : Nat → Int32) (l : Nat → Int64) (x : Nat → Int32) (y : Nat → Int64), f b1 s l x y = some a → pm_Gd 1 12051 ie_X12_modelPins.1 pm_rU lf 238 [(0, .ref 124)] [.int b1, .ref 124] (s, l, x, y) a) : pm_Ex 1 12051 ie_X12_modelPins.1 pm_rU lf a 238 (pe_X12_modelPins_238 f) := by
  intro lv st z hd h
  obtain ⟨g0, h⟩ := pj_xr_inv h
  obtain ⟨b1, r1, e1, h⟩ := pj_pi_inv h
  obtain ⟨r0, e0, h⟩ := pj_pr_inv h
  obtain ⟨e9, h⟩ := pj_pe_inv h
  rw [e1, e0, e9]
  exact mj_wp_sub (mj_sub_cons g0 (mj_sub_nil hd)) (hf _ _ _ _ _ h)
theorem pu_X12_modelPins_241 {lf : pj_Z → mj_M} {a : Unit × pj_Z} (f : pj_F (Unit × pj_Z)) (hf : ∀  (s : Nat → Int32) (l : Nat → Int64) (x : Nat → Int32) (y : Nat → Int64), f  s l x y = some a → pm_Gd 1 12051 ie_X12_modelPins.1 pm_rU lf 241 [(0, .ref 124)] [] (s, l, x, y) a) : pm_Ex 1 12051 ie_X12_modelPins.1 pm_rU lf a 241 (pe_X12_modelPins_241 f) := by
  intro lv st z hd h
  obtain ⟨g0, h⟩ := pj_xr_inv h
  obtain ⟨e9, h⟩ := pj_pe_inv h
  rw [e9]
  exact mj_wp_sub (mj_sub_cons g0 (mj_sub_nil hd)) (hf  _ _ _ _ h)
set_option maxRecDepth 100000 in
theorem pz_X12_modelPins {lf : pj_Z → mj_M} (hT : pj_Lt pj_TR lf) : pj_Cok ic_P (mj_R ic_P 1) 12051 ie_X12_modelPins.1 (pm_OK lf pm_rU) lf px_X12_modelPins := by
  exact pm_cok (c := px_X12_modelPins) (pm_part hT (pj_as_all (p := fun b e => pj_TR b = some e) (List.forall_mem_cons.mpr ⟨rfl, (List.forall_mem_cons.mpr ⟨rfl, (fun _ h => by cases h)⟩)⟩))) (pm_in_ok (L := [(44, 12, 12, 2, true), (69, 12, 29, 0, false), (72, 12, 30, 0, false), (142, 12, 88, 3, false), (417, 12, 75, 1, false), (450, 12, 86, 0, false), (483, 12, 98, 3, false), (709, 12, 25, 0, false)]) (f := mj_pF ic_P 12051) (by decide +kernel)) (fun _ _ h => by cases h) (pm_inL_ok (L := [(687, 1000), (712, 50)]) (f := mj_pL ic_P 12051) (by decide +kernel)) (fun _ _ h => by cases h) rfl rfl ⟨by decide, rfl⟩ pm_mU (pj_as_all (p := pm_Cl 1 12051 ie_X12_modelPins.1 lf (pm_OK lf pm_rU)) (List.forall_mem_cons.mpr ⟨fun _ _ lv st z K a hK h => pc_X12_toward hT (by decide) (ix := 706) rfl rfl hK h, (List.forall_mem_cons.mpr ⟨fun _ _ lv st z K a hK h => pc_X12_cutTo hT (by decide) (ix := 576) rfl rfl hK h, (fun _ h => by cases h)⟩)⟩)) (fun _ h => by cases h)
set_option maxRecDepth 100000 in
theorem pb_X12_modelPins : pm_bks ie_X12_modelPins.1.2.2.2.2 pk_X12_modelPins = true := by decide +kernel
set_option maxRecDepth 100000 in
theorem pg_X12_modelPins_241 {lf : pj_Z → mj_M} (hT : pj_Lt pj_TR lf) : ∀  (s : Nat → Int32) (l : Nat → Int64) (x : Nat → Int32) (y : Nat → Int64) (a : Unit × pj_Z), pl_X12_modelPins_241 s l x y = some a → pm_Gd 1 12051 ie_X12_modelPins.1 pm_rU lf 241 [(0, .ref 124)] [] (s, l, x, y) a := by
  intro  s l x y a h
  exact pm_run ((pq_X12_modelPins_241   s l x y).symm.trans h) (pz_X12_modelPins hT) (pm_bks_ok pb_X12_modelPins) (pm_bks_ok pb_X12_modelPins _ _ rfl) (pm_ndb_ok rfl) (fun _ _ h => by cases h)
set_option maxRecDepth 100000 in
theorem pg_X12_modelPins_238 {lf : pj_Z → mj_M} (hT : pj_Lt pj_TR lf) : ∀ (b1 : Int32) (s : Nat → Int32) (l : Nat → Int64) (x : Nat → Int32) (y : Nat → Int64) (a : Unit × pj_Z), pl_X12_modelPins_238 b1 s l x y = some a → pm_Gd 1 12051 ie_X12_modelPins.1 pm_rU lf 238 [(0, .ref 124)] [.int b1, .ref 124] (s, l, x, y) a := by
  intro b1 s l x y a h
  exact pm_run ((pq_X12_modelPins_238  b1 s l x y).symm.trans h) (pz_X12_modelPins hT) (pm_bks_ok pb_X12_modelPins) (pm_bks_ok pb_X12_modelPins _ _ rfl) (pm_ndb_ok rfl) (pj_as_all (p := pm_Ex 1 12051 ie_X12_modelPins.1 pm_rU lf a) (List.forall_mem_cons.mpr ⟨pu_X12_modelPins_241 _ (fun  s l x y h => pg_X12_modelPins_241 hT  s l x y _ h), (fun _ h => by cases h)⟩))
set_option maxRecDepth 100000 in
theorem pg_X12_modelPins_234 {lf : pj_Z → mj_M} (hT : pj_Lt pj_TR lf) : ∀  (s : Nat → Int32) (l : Nat → Int64) (x : Nat → Int32) (y : Nat → Int64) (a : Unit × pj_Z), pl_X12_modelPins_234 s l x y = some a → pm_Gd 1 12051 ie_X12_modelPins.1 pm_rU lf 234 [(0, .ref 124)] [.ref 124] (s, l, x, y) a := by
  intro  s l x y a h
  exact pm_run ((pq_X12_modelPins_234   s l x y).symm.trans h) (pz_X12_modelPins hT) (pm_bks_ok pb_X12_modelPins) (pm_bks_ok pb_X12_modelPins _ _ rfl) (pm_ndb_ok rfl) (pj_as_all (p := pm_Ex 1 12051 ie_X12_modelPins.1 pm_rU lf a) (List.forall_mem_cons.mpr ⟨pu_X12_modelPins_238 _ (fun c0 s l x y h => pg_X12_modelPins_238 hT c0 s l x y _ h), (fun _ h => by cases h)⟩))
set_option maxRecDepth 100000 in
theorem pg_X12_modelPins_208 {lf : pj_Z → mj_M} (hT : pj_Lt pj_TR lf) : ∀  (s : Nat → Int32) (l : Nat → Int64) (x : Nat → Int32) (y : Nat → Int64) (a : Unit × pj_Z), pl_X12_modelPins_208 s l x y = some a → pm_Gd 1 12051 ie_X12_modelPins.1 pm_rU lf 208 [(0, .ref 124)] [] (s, l, x, y) a := by
  intro  s l x y a h
  exact pm_run ((pq_X12_modelPins_208   s l x y).symm.trans h) (pz_X12_modelPins hT) (pm_bks_ok pb_X12_modelPins) (pm_bks_ok pb_X12_modelPins _ _ rfl) (pm_ndb_ok rfl) (pj_as_all (p := pm_Ex 1 12051 ie_X12_modelPins.1 pm_rU lf a) (List.forall_mem_cons.mpr ⟨pu_X12_modelPins_234 _ (fun  s l x y h => pg_X12_modelPins_234 hT  s l x y _ h), (List.forall_mem_cons.mpr ⟨pu_X12_modelPins_238 _ (fun c0 s l x y h => pg_X12_modelPins_238 hT c0 s l x y _ h), (fun _ h => by cases h)⟩)⟩))
set_option maxRecDepth 100000 in
theorem pg_X12_modelPins_178 {lf : pj_Z → mj_M} (hT : pj_Lt pj_TR lf) : ∀ (b1 : Int32) (s : Nat → Int32) (l : Nat → Int64) (x : Nat → Int32) (y : Nat → Int64) (a : Unit × pj_Z), pl_X12_modelPins_178 b1 s l x y = some a → pm_Gd 1 12051 ie_X12_modelPins.1 pm_rU lf 178 [(0, .ref 124)] [.int b1, .ref 124] (s, l, x, y) a := by
  intro b1 s l x y a h
  exact pm_run ((pq_X12_modelPins_178  b1 s l x y).symm.trans h) (pz_X12_modelPins hT) (pm_bks_ok pb_X12_modelPins) (pm_bks_ok pb_X12_modelPins _ _ rfl) (pm_ndb_ok rfl) (pj_as_all (p := pm_Ex 1 12051 ie_X12_modelPins.1 pm_rU lf a) (List.forall_mem_cons.mpr ⟨pu_X12_modelPins_208 _ (fun  s l x y h => pg_X12_modelPins_208 hT  s l x y _ h), (fun _ h => by cases h)⟩))
set_option maxRecDepth 100000 in
theorem pg_X12_modelPins_205 {lf : pj_Z → mj_M} (hT : pj_Lt pj_TR lf) : ∀ (b1 : Int32) (s : Nat → Int32) (l : Nat → Int64) (x : Nat → Int32) (y : Nat → Int64) (a : Unit × pj_Z), pl_X12_modelPins_205 b1 s l x y = some a → pm_Gd 1 12051 ie_X12_modelPins.1 pm_rU lf 205 [(0, .ref 124)] [.int b1, .ref 124] (s, l, x, y) a := by
  intro b1 s l x y a h
  exact pm_run ((pq_X12_modelPins_205  b1 s l x y).symm.trans h) (pz_X12_modelPins hT) (pm_bks_ok pb_X12_modelPins) (pm_bks_ok pb_X12_modelPins _ _ rfl) (pm_ndb_ok rfl) (pj_as_all (p := pm_Ex 1 12051 ie_X12_modelPins.1 pm_rU lf a) (List.forall_mem_cons.mpr ⟨pu_X12_modelPins_208 _ (fun  s l x y h => pg_X12_modelPins_208 hT  s l x y _ h), (fun _ h => by cases h)⟩))
set_option maxRecDepth 100000 in
theorem pg_X12_modelPins_121 {lf : pj_Z → mj_M} (hT : pj_Lt pj_TR lf) : ∀ (b2 : Int32) (s : Nat → Int32) (l : Nat → Int64) (x : Nat → Int32) (y : Nat → Int64) (a : Unit × pj_Z), pl_X12_modelPins_121 b2 s l x y = some a → pm_Gd 1 12051 ie_X12_modelPins.1 pm_rU lf 121 [(0, .ref 124)] [.int b2, .int (Int32.ofInt 4), .ref 134] (s, l, x, y) a := by
  intro b2 s l x y a h
  exact pm_run ((pq_X12_modelPins_121  b2 s l x y).symm.trans h) (pz_X12_modelPins hT) (pm_bks_ok pb_X12_modelPins) (pm_bks_ok pb_X12_modelPins _ _ rfl) (pm_ndb_ok rfl) (pj_as_all (p := pm_Ex 1 12051 ie_X12_modelPins.1 pm_rU lf a) (List.forall_mem_cons.mpr ⟨pu_X12_modelPins_178 _ (fun c0 s l x y h => pg_X12_modelPins_178 hT c0 s l x y _ h), (List.forall_mem_cons.mpr ⟨pu_X12_modelPins_205 _ (fun c0 s l x y h => pg_X12_modelPins_205 hT c0 s l x y _ h), (List.forall_mem_cons.mpr ⟨pu_X12_modelPins_241 _ (fun  s l x y h => pg_X12_modelPins_241 hT  s l x y _ h), (fun _ h => by cases h)⟩)⟩)⟩))
set_option maxRecDepth 100000 in
theorem pg_X12_modelPins_50 {lf : pj_Z → mj_M} (hT : pj_Lt pj_TR lf) : ∀  (s : Nat → Int32) (l : Nat → Int64) (x : Nat → Int32) (y : Nat → Int64) (a : Unit × pj_Z), pl_X12_modelPins_50 s l x y = some a → pm_Gd 1 12051 ie_X12_modelPins.1 pm_rU lf 50 [(0, .ref 124)] [] (s, l, x, y) a := by
  intro  s l x y a h
  exact pm_run ((pq_X12_modelPins_50   s l x y).symm.trans h) (pz_X12_modelPins hT) (pm_bks_ok pb_X12_modelPins) (pm_bks_ok pb_X12_modelPins _ _ rfl) (pm_ndb_ok rfl) (pj_as_all (p := pm_Ex 1 12051 ie_X12_modelPins.1 pm_rU lf a) (List.forall_mem_cons.mpr ⟨pu_X12_modelPins_121 _ (fun c0 s l x y h => pg_X12_modelPins_121 hT c0 s l x y _ h), (fun _ h => by cases h)⟩))
set_option maxRecDepth 100000 in
theorem pm_X12_modelPins {lf : pj_Z → mj_M} (hT : pj_Lt pj_TR lf)  (s : Nat → Int32) (l : Nat → Int64) (x : Nat → Int32) (y : Nat → Int64) (a : Unit × pj_Z) (h : pf_X12_modelPins  s l x y = some a) : mj_R ic_P 2 12051 [.ref 124] (lf (s, l, x, y)) (pm_rU a.1) (lf a.2) := by
  refine pm_main (Y := ie_X12_modelPins.1) rfl (Nat.le_of_ble_eq_true rfl) ?_
  exact pm_run ((pq_X12_modelPins_m  s l x y).symm.trans h) (pz_X12_modelPins hT) (pm_bks_ok pb_X12_modelPins) (pm_bks_ok pb_X12_modelPins _ _ rfl) (pm_ndb_ok rfl) (pj_as_all (p := pm_Ex 1 12051 ie_X12_modelPins.1 pm_rU lf a) (List.forall_mem_cons.mpr ⟨pu_X12_modelPins_50 _ (fun  s l x y h => pg_X12_modelPins_50 hT  s l x y _ h), (fun _ h => by cases h)⟩))
abbrev ph_X12_modelPins {A : Type} : List pj_V → pj_Z → (List pj_V → pj_Z → Option A) → Option A := fun st z K => pj_pr st 124 0 fun st => pj_ps st (pj_b (pf_X12_modelPins  z.1 z.2.1 z.2.2.1 z.2.2.2) fun r s l x y => K st (s, l, x, y))
set_option maxRecDepth 100000 in
theorem pc_X12_modelPins {A : Type} {OK : A → Option Value → mj_M → Prop} {d j pc ix : Nat} {Y : mj_Y} {lf : pj_Z → mj_M} (hT : pj_Lt pj_TR lf) (hd : 2 ≤ d) (hl : mj_lk Y.2.2.2.2 pc = some (.invokevirtual ix, 3)) (hg : mj_pG ic_P j ix = some (12051, 0, some 12)) {lv : List (Nat × Value)} {st : List pj_V} {z : pj_Z} {K : List pj_V → pj_Z → Option A} {a : A} (hK : ∀ st z, K st z = some a → pj_Gd ic_P (mj_R ic_P d) j Y OK lf (pc + 3) lv (pj_es st) z a) (h : ph_X12_modelPins st z K = some a) : pj_Gd ic_P (mj_R ic_P d) j Y OK lf pc lv (pj_es st) z a := by
  obtain ⟨r0, e0, h⟩ := pj_pr_inv h
  obtain ⟨hs, h⟩ := pj_ps_inv h
  obtain ⟨q, hq, h⟩ := pj_b_inv h
  exact pm_cv (o := 124) hl hg [] rfl (by rw [e0]; rfl) hs (by decide) ((hT.2 124 _ rfl).1.2 z 0 (by decide)) (pm_rU q.1) hd (pm_X12_modelPins hT  z.1 z.2.1 z.2.2.1 z.2.2.2 q hq) rfl (hK _ _ h)
abbrev pe_X12_lineValue_53 (f : Int32 → Int32 → pj_F (Int32 × pj_Z)) : pj_K (Int32 × pj_Z) := fun lv st z => pj_xr lv 0 124 0 <| pj_xi lv 2 fun a2 => pj_xi lv 3 fun a3 => pj_pe st (f a2 a3 z.1 z.2.1 z.2.2.1 z.2.2.2)
abbrev px_X12_lineValue : pj_C (Int32 × pj_Z) := ((pj_as [(124, 12, 195, 1, 0, true, 0, [(1, 1), (2, 125), (2, 126), (2, 127), (2, 128), (2, 129), (2, 130), (2, 131), (2, 132), (2, 133), (1, 2), (0, 44), (2, 134), (2, 135), (2, 136), (2, 137), (2, 138), (0, 69), (2, 139), (2, 140), (2, 141), (1, 3), (0, 93), (0, 94), (0, 45), (0, 46), (0, 48), (0, 49), (0, 47), (0, 50), (0, 51), (2, 142), (2, 143), (2, 144), (0, 19), (1, 4), (1, 5), (1, 6), (0, 20), (0, 21), (0, 22), (0, 23), (0, 24), (0, 25), (0, 27), (0, 28), (1, 7), (1, 8), (1, 9), (1, 10), (1, 11), (0, 26), (2, 145), (2, 146), (2, 147), (2, 148), (2, 149), (2, 150), (2, 151), (2, 152), (2, 153), (2, 154), (2, 155), (2, 156), (2, 157), (2, 158), (2, 159), (0, 57), (0, 58), (0, 59), (0, 60), (2, 160), (2, 161), (2, 162), (2, 163), (1, 12), (1, 13), (0, 95), (0, 73), (0, 74), (0, 71), (0, 72), (0, 75), (0, 76), (0, 77), (0, 80), (0, 78), (0, 79), (1, 14), (0, 29), (0, 30), (0, 31), (0, 34), (0, 35), (0, 32), (0, 33), (0, 36), (0, 37), (0, 38), (0, 39), (0, 40), (1, 15), (1, 16), (0, 43), (0, 41), (0, 42), (2, 164), (0, 96), (0, 89), (0, 90), (0, 91), (0, 92), (2, 165), (2, 166), (2, 167), (2, 168), (2, 169), (2, 170), (2, 171), (2, 172), (0, 87), (2, 173), (0, 88), (2, 174), (0, 62), (1, 17), (0, 66), (0, 63), (0, 64), (0, 65), (0, 67), (1, 18), (0, 68), (2, 175), (1, 19), (0, 52), (0, 53), (0, 54), (0, 55), (2, 176), (0, 56), (0, 85), (0, 86), (0, 81), (0, 82), (0, 83), (0, 84), (2, 177), (2, 178), (2, 179), (1, 20), (2, 180), (0, 6), (0, 7), (0, 8), (0, 16), (0, 17), (0, 61), (0, 9), (0, 10), (1, 21), (1, 22), (0, 11), (0, 12), (0, 13), (0, 18), (0, 14), (0, 15), (2, 181), (0, 70), (1, 23), (2, 182), (2, 183), (0, 1), (1, 24), (2, 184), (2, 185), (1, 25), (0, 2), (2, 186), (2, 187), (1, 26), (2, 188), (2, 189), (1, 27), (1, 28), (2, 190), (2, 191), (1, 29), (0, 3), (2, 192), (0, 4), (0, 5), (1, 30), (2, 193)]), (128, 100, 13, 1, 0, true, 28000, []), (129, 100, 104, 1, 0, true, 26000, []), (130, 100, 104, 1, 0, true, 27000, [])]), (pj_as [(22, 12, 4, 2, true), (25, 12, 5, 2, true), (28, 12, 6, 2, true)]), (fun _ => none), (fun _ => none), (fun _ => none), ic_X, 5, 1, pj_mI, (pj_as [(119, ph_X12_down)]), fun _ => false)
abbrev pk_X12_lineValue : List (Nat × List (Nat × Instr × Nat)) := [(0, [(0, .bipush 8, 2), (2, .iload_n 1, 1), (3, .imul, 1), (4, .istore_n 3, 1), (5, .iload_n 3, 1), (6, .aload_n 0, 1), (7, .getfield 22, 3), (10, .iload_n 1, 1), (11, .iaload, 1), (12, .iadd, 1), (13, .iconst 1, 1), (14, .isub, 1), (15, .istore 4, 2), (17, .iload_n 2, 1), (18, .aload_n 0, 1), (19, .getfield 25, 3), (22, .iload_n 3, 1), (23, .iaload, 1), (24, .if_icmp .gt 10, 3)]), (27, [(27, .aload_n 0, 1), (28, .getfield 28, 3), (31, .iload_n 3, 1), (32, .iaload, 1), (33, .ireturn, 1)]), (34, [(34, .iload_n 2, 1), (35, .aload_n 0, 1), (36, .getfield 25, 3), (39, .iload 4, 2), (41, .iaload, 1), (42, .if_icmp .lt 11, 3)]), (45, [(45, .aload_n 0, 1), (46, .getfield 28, 3), (49, .iload 4, 2), (51, .iaload, 1), (52, .ireturn, 1)]), (53, [(53, .iload_n 2, 1), (54, .aload_n 0, 1), (55, .getfield 25, 3), (58, .iload_n 3, 1), (59, .iconst 1, 1), (60, .iadd, 1), (61, .iaload, 1), (62, .if_icmp .lt 9, 3)]), (65, [(65, .iinc 3 1, 3), (68, .goto (-15), 3)]), (71, [(71, .aload_n 0, 1), (72, .getfield 28, 3), (75, .iload_n 3, 1), (76, .iaload, 1), (77, .aload_n 0, 1), (78, .getfield 28, 3), (81, .iload_n 3, 1), (82, .iconst 1, 1), (83, .iadd, 1), (84, .iaload, 1), (85, .aload_n 0, 1), (86, .getfield 28, 3), (89, .iload_n 3, 1), (90, .iaload, 1), (91, .isub, 1), (92, .i2l, 1), (93, .iload_n 2, 1), (94, .aload_n 0, 1), (95, .getfield 25, 3), (98, .iload_n 3, 1), (99, .iaload, 1), (100, .isub, 1), (101, .i2l, 1), (102, .lmul, 1), (103, .aload_n 0, 1), (104, .getfield 25, 3), (107, .iload_n 3, 1), (108, .iconst 1, 1), (109, .iadd, 1), (110, .iaload, 1), (111, .aload_n 0, 1), (112, .getfield 25, 3), (115, .iload_n 3, 1), (116, .iaload, 1), (117, .isub, 1), (118, .i2l, 1), (119, .invokestatic 622, 3), (122, .l2i, 1), (123, .iadd, 1), (124, .ireturn, 1)])]
set_option maxRecDepth 100000 in
theorem pq_X12_lineValue_53 (fu : Nat)  (n : Nat) (a2 : Int32) (a3 : Int32) (s : Nat → Int32) (l : Nat → Int64) (x : Nat → Int32) (y : Nat → Int64) : pl_X12_lineValue_53 fu (n + 1) a2 a3 s l x y = pj_bl px_X12_lineValue (pj_rn px_X12_lineValue (pj_as pk_X12_lineValue) (pj_as [(53, pe_X12_lineValue_53 (pl_X12_lineValue_53 fu n))]) 60) [(53, .iload_n 2, 1), (54, .aload_n 0, 1), (55, .getfield 25, 3), (58, .iload_n 3, 1), (59, .iconst 1, 1), (60, .iadd, 1), (61, .iaload, 1), (62, .if_icmp .lt 9, 3)] 53 [(0, pj_O (124, 0)), (2, pj_I a2), (3, pj_I a3)] [] (s, l, x, y) := rfl
set_option maxRecDepth 100000 in
theorem pq_X12_lineValue_m (fu : Nat)  (a1 : Int32) (a2 : Int32) (s : Nat → Int32) (l : Nat → Int64) (x : Nat → Int32) (y : Nat → Int64) : po_X12_lineValue fu a1 a2 s l x y = pj_bl px_X12_lineValue (pj_rn px_X12_lineValue (pj_as pk_X12_lineValue) (pj_as [(53, pe_X12_lineValue_53 (pl_X12_lineValue_53 fu fu))]) 60) [(0, .bipush 8, 2), (2, .iload_n 1, 1), (3, .imul, 1), (4, .istore_n 3, 1), (5, .iload_n 3, 1), (6, .aload_n 0, 1), (7, .getfield 22, 3), (10, .iload_n 1, 1), (11, .iaload, 1), (12, .iadd, 1), (13, .iconst 1, 1), (14, .isub, 1), (15, .istore 4, 2), (17, .iload_n 2, 1), (18, .aload_n 0, 1), (19, .getfield 25, 3), (22, .iload_n 3, 1), (23, .iaload, 1), (24, .if_icmp .gt 10, 3)] 0 [(0, pj_O (124, 0)), (1, pj_I a1), (2, pj_I a2)] [] (s, l, x, y) := rfl
theorem pu_X12_lineValue_53 {lf : pj_Z → mj_M} {a : Int32 × pj_Z} (f : Int32 → Int32 → pj_F (Int32 × pj_Z)) (hf : ∀ (a2 : Int32) (a3 : Int32) (s : Nat → Int32) (l : Nat → Int64) (x : Nat → Int32) (y : Nat → Int64), f a2 a3 s l x y = some a → pm_Gd 1 12035 ie_X12_lineValue.1 pm_rI lf 53 [(0, .ref 124), (2, .int a2), (3, .int a3)] [] (s, l, x, y) a) : pm_Ex 1 12035 ie_X12_lineValue.1 pm_rI lf a 53 (pe_X12_lineValue_53 f) := by
  intro lv st z hd h
  obtain ⟨g0, h⟩ := pj_xr_inv h
  obtain ⟨a2, g2, h⟩ := pj_xi_inv h
  obtain ⟨a3, g3, h⟩ := pj_xi_inv h
  obtain ⟨e9, h⟩ := pj_pe_inv h
  rw [e9]
  exact mj_wp_sub (mj_sub_cons g0 (mj_sub_cons g2 (mj_sub_cons g3 (mj_sub_nil hd)))) (hf _ _ _ _ _ _ h)
set_option maxRecDepth 100000 in
theorem pz_X12_lineValue {lf : pj_Z → mj_M} (hT : pj_Lt pj_TR lf) : pj_Cok ic_P (mj_R ic_P 1) 12035 ie_X12_lineValue.1 (pm_OK lf pm_rI) lf px_X12_lineValue := by
  exact pm_cok (c := px_X12_lineValue) (pm_part hT (pj_as_all (p := fun b e => pj_TR b = some e) (List.forall_mem_cons.mpr ⟨rfl, (List.forall_mem_cons.mpr ⟨rfl, (List.forall_mem_cons.mpr ⟨rfl, (List.forall_mem_cons.mpr ⟨rfl, (fun _ h => by cases h)⟩)⟩)⟩)⟩))) (pm_in_ok (L := [(22, 12, 4, 2, true), (25, 12, 5, 2, true), (28, 12, 6, 2, true)]) (f := mj_pF ic_P 12035) (by decide +kernel)) (fun _ _ h => by cases h) (fun _ _ h => by cases h) (fun _ _ h => by cases h) rfl rfl ⟨by decide, rfl⟩ pm_mI (pj_as_all (p := pm_Cl 1 12035 ie_X12_lineValue.1 lf (pm_OK lf pm_rI)) (List.forall_mem_cons.mpr ⟨fun _ _ lv st z K a hK h => pc_X12_down hT (by decide) (ix := 622) rfl rfl hK h, (fun _ h => by cases h)⟩)) (fun _ h => by cases h)
set_option maxRecDepth 100000 in
theorem pb_X12_lineValue : pm_bks ie_X12_lineValue.1.2.2.2.2 pk_X12_lineValue = true := by decide +kernel
set_option maxRecDepth 100000 in
theorem pg_X12_lineValue_53 {fu : Nat} {lf : pj_Z → mj_M} (hT : pj_Lt pj_TR lf) : ∀ (n : Nat), ∀ (a2 : Int32) (a3 : Int32) (s : Nat → Int32) (l : Nat → Int64) (x : Nat → Int32) (y : Nat → Int64) (a : Int32 × pj_Z), pl_X12_lineValue_53 fu n a2 a3 s l x y = some a → pm_Gd 1 12035 ie_X12_lineValue.1 pm_rI lf 53 [(0, .ref 124), (2, .int a2), (3, .int a3)] [] (s, l, x, y) a := by
  intro n
  induction n with
  | zero => intro a2 a3 s l x y a h; cases (show (none : Option (Int32 × pj_Z)) = some a from h)
  | succ n ih =>
    intro a2 a3 s l x y a h
    exact pm_run ((pq_X12_lineValue_53 fu n a2 a3 s l x y).symm.trans h) (pz_X12_lineValue hT) (pm_bks_ok pb_X12_lineValue) (pm_bks_ok pb_X12_lineValue _ _ rfl) (pm_ndb_ok rfl) (pj_as_all (p := pm_Ex 1 12035 ie_X12_lineValue.1 pm_rI lf a) (List.forall_mem_cons.mpr ⟨pu_X12_lineValue_53 _ (fun c0 c1 s l x y h => ih c0 c1 s l x y _ h), (fun _ h => by cases h)⟩))
set_option maxRecDepth 100000 in
theorem pm_X12_lineValue {lf : pj_Z → mj_M} (hT : pj_Lt pj_TR lf) (a1 : Int32) (a2 : Int32) (s : Nat → Int32) (l : Nat → Int64) (x : Nat → Int32) (y : Nat → Int64) (a : Int32 × pj_Z) (h : pf_X12_lineValue a1 a2 s l x y = some a) : mj_R ic_P 2 12035 [.ref 124, .int a1, .int a2] (lf (s, l, x, y)) (pm_rI a.1) (lf a.2) := by
  refine pm_main (Y := ie_X12_lineValue.1) rfl (Nat.le_of_ble_eq_true rfl) ?_
  exact pm_run ((pq_X12_lineValue_m 1000 a1 a2 s l x y).symm.trans h) (pz_X12_lineValue hT) (pm_bks_ok pb_X12_lineValue) (pm_bks_ok pb_X12_lineValue _ _ rfl) (pm_ndb_ok rfl) (pj_as_all (p := pm_Ex 1 12035 ie_X12_lineValue.1 pm_rI lf a) (List.forall_mem_cons.mpr ⟨pu_X12_lineValue_53 _ (fun c0 c1 s l x y h => pg_X12_lineValue_53 hT _ c0 c1 s l x y _ h), (fun _ h => by cases h)⟩))
abbrev ph_X12_lineValue {A : Type} : List pj_V → pj_Z → (List pj_V → pj_Z → Option A) → Option A := fun st z K => pj_pi st fun a2 st => pj_pi st fun a1 st => pj_pr st 124 0 fun st => pj_ps st (pj_b (pf_X12_lineValue a1 a2 z.1 z.2.1 z.2.2.1 z.2.2.2) fun r s l x y => K (pj_I r :: st) (s, l, x, y))
set_option maxRecDepth 100000 in
theorem pc_X12_lineValue {A : Type} {OK : A → Option Value → mj_M → Prop} {d j pc ix : Nat} {Y : mj_Y} {lf : pj_Z → mj_M} (hT : pj_Lt pj_TR lf) (hd : 2 ≤ d) (hl : mj_lk Y.2.2.2.2 pc = some (.invokevirtual ix, 3)) (hg : mj_pG ic_P j ix = some (12035, 2, some 12)) {lv : List (Nat × Value)} {st : List pj_V} {z : pj_Z} {K : List pj_V → pj_Z → Option A} {a : A} (hK : ∀ st z, K st z = some a → pj_Gd ic_P (mj_R ic_P d) j Y OK lf (pc + 3) lv (pj_es st) z a) (h : ph_X12_lineValue st z K = some a) : pj_Gd ic_P (mj_R ic_P d) j Y OK lf pc lv (pj_es st) z a := by
  obtain ⟨a2, r2, e2, h⟩ := pj_pi_inv h
  obtain ⟨a1, r1, e1, h⟩ := pj_pi_inv h
  obtain ⟨r0, e0, h⟩ := pj_pr_inv h
  obtain ⟨hs, h⟩ := pj_ps_inv h
  obtain ⟨q, hq, h⟩ := pj_b_inv h
  exact pm_cv (o := 124) hl hg [.int a1, .int a2] rfl (by rw [e2, e1, e0]; rfl) hs (by decide) ((hT.2 124 _ rfl).1.2 z 0 (by decide)) (pm_rI q.1) hd (pm_X12_lineValue hT a1 a2 z.1 z.2.1 z.2.2.1 z.2.2.2 q hq) rfl (hK _ _ h)
abbrev pe_X12_readPins_2 (f : Int32 → pj_F (Unit × pj_Z)) : pj_K (Unit × pj_Z) := fun lv st z => pj_xr lv 0 124 0 <| pj_xi lv 1 fun a1 => pj_pe st (f a1 z.1 z.2.1 z.2.2.1 z.2.2.2)
abbrev pe_X12_readPins_52 (f : Int32 → Int32 → pj_F (Unit × pj_Z)) : pj_K (Unit × pj_Z) := fun lv st z => pj_xr lv 0 124 0 <| pj_xi lv 1 fun a1 => pj_pi st fun b0 st => pj_pe st (f a1 b0 z.1 z.2.1 z.2.2.1 z.2.2.2)
abbrev pe_X12_readPins_102 (f : Int32 → pj_F (Unit × pj_Z)) : pj_K (Unit × pj_Z) := fun lv st z => pj_xr lv 0 124 0 <| pj_xi lv 1 fun a1 => pj_pe st (f a1 z.1 z.2.1 z.2.2.1 z.2.2.2)
abbrev pe_X12_readPins_106 (f : Int32 → pj_F (Unit × pj_Z)) : pj_K (Unit × pj_Z) := fun lv st z => pj_xr lv 0 124 0 <| pj_xi lv 1 fun a1 => pj_pe st (f a1 z.1 z.2.1 z.2.2.1 z.2.2.2)
abbrev pe_X12_readPins_107 (f : Int32 → Int32 → pj_F (Unit × pj_Z)) : pj_K (Unit × pj_Z) := fun lv st z => pj_xr lv 0 124 0 <| pj_xi lv 1 fun a1 => pj_pi st fun b0 st => pj_pe st (f a1 b0 z.1 z.2.1 z.2.2.1 z.2.2.2)
abbrev pe_X12_readPins_120 (f : Int32 → Int32 → pj_F (Unit × pj_Z)) : pj_K (Unit × pj_Z) := fun lv st z => pj_xr lv 0 124 0 <| pj_xi lv 1 fun a1 => pj_xi lv 3 fun a3 => pj_pe st (f a1 a3 z.1 z.2.1 z.2.2.1 z.2.2.2)
abbrev pe_X12_readPins_141 (f : Int32 → Int32 → Int32 → Int32 → Int32 → pj_F (Unit × pj_Z)) : pj_K (Unit × pj_Z) := fun lv st z => pj_xr lv 0 124 0 <| pj_xi lv 1 fun a1 => pj_xi lv 3 fun a3 => pj_pi st fun b3 st => pj_pi st fun b2 st => pj_pi st fun b1 st => pj_pr st 162 0 fun st => pj_pe st (f a1 a3 b1 b2 b3 z.1 z.2.1 z.2.2.1 z.2.2.2)
abbrev pe_X12_readPins_152 (f : Int32 → Int32 → pj_F (Unit × pj_Z)) : pj_K (Unit × pj_Z) := fun lv st z => pj_xr lv 0 124 0 <| pj_xi lv 1 fun a1 => pj_xi lv 3 fun a3 => pj_pe st (f a1 a3 z.1 z.2.1 z.2.2.1 z.2.2.2)
abbrev pe_X12_readPins_186 (f : Int32 → Int32 → Int32 → pj_F (Unit × pj_Z)) : pj_K (Unit × pj_Z) := fun lv st z => pj_xr lv 0 124 0 <| pj_xi lv 1 fun a1 => pj_xi lv 3 fun a3 => pj_pi st fun b1 st => pj_pr st 163 0 fun st => pj_pe st (f a1 a3 b1 z.1 z.2.1 z.2.2.1 z.2.2.2)
abbrev pe_X12_readPins_190 (f : Int32 → Int32 → Int32 → pj_F (Unit × pj_Z)) : pj_K (Unit × pj_Z) := fun lv st z => pj_xr lv 0 124 0 <| pj_xi lv 1 fun a1 => pj_xi lv 3 fun a3 => pj_pi st fun b1 st => pj_pr st 163 0 fun st => pj_pe st (f a1 a3 b1 z.1 z.2.1 z.2.2.1 z.2.2.2)
abbrev pe_X12_readPins_191 (f : Int32 → Int32 → Int32 → Int32 → pj_F (Unit × pj_Z)) : pj_K (Unit × pj_Z) := fun lv st z => pj_xr lv 0 124 0 <| pj_xi lv 1 fun a1 => pj_xi lv 3 fun a3 => pj_pi st fun b2 st => pj_pi st fun b1 st => pj_pr st 163 0 fun st => pj_pe st (f a1 a3 b1 b2 z.1 z.2.1 z.2.2.1 z.2.2.2)
abbrev pe_X12_readPins_192 (f : Int32 → Int32 → pj_F (Unit × pj_Z)) : pj_K (Unit × pj_Z) := fun lv st z => pj_xr lv 0 124 0 <| pj_xi lv 1 fun a1 => pj_xi lv 3 fun a3 => pj_pe st (f a1 a3 z.1 z.2.1 z.2.2.1 z.2.2.2)
abbrev pe_X12_readPins_238 (f : Int32 → Int32 → Int32 → pj_F (Unit × pj_Z)) : pj_K (Unit × pj_Z) := fun lv st z => pj_xr lv 0 124 0 <| pj_xi lv 1 fun a1 => pj_pi st fun b2 st => pj_pi st fun b1 st => pj_pr st 161 0 fun st => pj_pe st (f a1 b1 b2 z.1 z.2.1 z.2.2.1 z.2.2.2)
abbrev px_X12_readPins : pj_C (Unit × pj_Z) := ((pj_as [(124, 12, 195, 1, 0, true, 0, [(1, 1), (2, 125), (2, 126), (2, 127), (2, 128), (2, 129), (2, 130), (2, 131), (2, 132), (2, 133), (1, 2), (0, 44), (2, 134), (2, 135), (2, 136), (2, 137), (2, 138), (0, 69), (2, 139), (2, 140), (2, 141), (1, 3), (0, 93), (0, 94), (0, 45), (0, 46), (0, 48), (0, 49), (0, 47), (0, 50), (0, 51), (2, 142), (2, 143), (2, 144), (0, 19), (1, 4), (1, 5), (1, 6), (0, 20), (0, 21), (0, 22), (0, 23), (0, 24), (0, 25), (0, 27), (0, 28), (1, 7), (1, 8), (1, 9), (1, 10), (1, 11), (0, 26), (2, 145), (2, 146), (2, 147), (2, 148), (2, 149), (2, 150), (2, 151), (2, 152), (2, 153), (2, 154), (2, 155), (2, 156), (2, 157), (2, 158), (2, 159), (0, 57), (0, 58), (0, 59), (0, 60), (2, 160), (2, 161), (2, 162), (2, 163), (1, 12), (1, 13), (0, 95), (0, 73), (0, 74), (0, 71), (0, 72), (0, 75), (0, 76), (0, 77), (0, 80), (0, 78), (0, 79), (1, 14), (0, 29), (0, 30), (0, 31), (0, 34), (0, 35), (0, 32), (0, 33), (0, 36), (0, 37), (0, 38), (0, 39), (0, 40), (1, 15), (1, 16), (0, 43), (0, 41), (0, 42), (2, 164), (0, 96), (0, 89), (0, 90), (0, 91), (0, 92), (2, 165), (2, 166), (2, 167), (2, 168), (2, 169), (2, 170), (2, 171), (2, 172), (0, 87), (2, 173), (0, 88), (2, 174), (0, 62), (1, 17), (0, 66), (0, 63), (0, 64), (0, 65), (0, 67), (1, 18), (0, 68), (2, 175), (1, 19), (0, 52), (0, 53), (0, 54), (0, 55), (2, 176), (0, 56), (0, 85), (0, 86), (0, 81), (0, 82), (0, 83), (0, 84), (2, 177), (2, 178), (2, 179), (1, 20), (2, 180), (0, 6), (0, 7), (0, 8), (0, 16), (0, 17), (0, 61), (0, 9), (0, 10), (1, 21), (1, 22), (0, 11), (0, 12), (0, 13), (0, 18), (0, 14), (0, 15), (2, 181), (0, 70), (1, 23), (2, 182), (2, 183), (0, 1), (1, 24), (2, 184), (2, 185), (1, 25), (0, 2), (2, 186), (2, 187), (1, 26), (2, 188), (2, 189), (1, 27), (1, 28), (2, 190), (2, 191), (1, 29), (0, 3), (2, 192), (0, 4), (0, 5), (1, 30), (2, 193)]), (134, 100, 10, 1, 0, true, 29000, []), (135, 100, 10, 1, 0, true, 31000, []), (136, 100, 10, 1, 0, true, 32000, []), (137, 100, 10, 1, 0, true, 33000, []), (160, 100, 10, 1, 0, true, 30000, []), (161, 100, 10, 1, 0, true, 34000, []), (162, 100, 10, 1, 0, true, 35000, []), (163, 102, 10, 1, 0, true, 36000, [])]), (pj_as [(44, 12, 12, 2, true), (47, 12, 13, 2, true), (50, 12, 14, 2, true), (53, 12, 15, 2, true), (130, 12, 71, 2, true), (133, 12, 72, 2, true), (136, 12, 73, 2, true), (139, 12, 74, 2, true), (417, 12, 75, 1, false)]), (fun _ => none), (pj_as [(574, 100)]), (fun _ => none), ic_X, 4, 0, pj_mU, (pj_as [(147, ph_X12_cutTo), (208, ph_X12_substitute), (235, ph_X12_lineValue)]), fun _ => false)
abbrev pk_X12_readPins : List (Nat × List (Nat × Instr × Nat)) := [(0, [(0, .iconst 0, 1), (1, .istore_n 1, 1)]), (2, [(2, .iload_n 1, 1), (3, .bipush 10, 2), (5, .if_icmp .ge 240, 3)]), (8, [(8, .aload_n 0, 1), (9, .getfield 44, 3), (12, .iload_n 1, 1), (13, .iaload, 1), (14, .aload_n 0, 1), (15, .getfield 130, 3), (18, .iload_n 1, 1), (19, .iaload, 1), (20, .if_icmp .le 19, 3)]), (23, [(23, .aload_n 0, 1), (24, .getfield 44, 3), (27, .iload_n 1, 1), (28, .iaload, 1), (29, .aload_n 0, 1), (30, .getfield 130, 3), (33, .iload_n 1, 1), (34, .iaload, 1), (35, .isub, 1), (36, .goto 16, 3)]), (39, [(39, .aload_n 0, 1), (40, .getfield 130, 3), (43, .iload_n 1, 1), (44, .iaload, 1), (45, .aload_n 0, 1), (46, .getfield 44, 3), (49, .iload_n 1, 1), (50, .iaload, 1), (51, .isub, 1)]), (52, [(52, .istore_n 2, 1), (53, .aload_n 0, 1), (54, .getfield 44, 3), (57, .iload_n 1, 1), (58, .iaload, 1), (59, .aload_n 0, 1), (60, .getfield 47, 3), (63, .iload_n 1, 1), (64, .iaload, 1), (65, .if_icmp .lt 37, 3)]), (68, [(68, .aload_n 0, 1), (69, .getfield 44, 3), (72, .iload_n 1, 1), (73, .iaload, 1), (74, .aload_n 0, 1), (75, .getfield 50, 3), (78, .iload_n 1, 1), (79, .iaload, 1), (80, .if_icmp .gt 22, 3)]), (83, [(83, .aload_n 0, 1), (84, .getfield 417, 3), (87, .lconst 1, 1), (88, .lcmp, 1), (89, .ifCond .le 17, 3)]), (92, [(92, .iload_n 2, 1), (93, .aload_n 0, 1), (94, .getfield 53, 3), (97, .iload_n 1, 1), (98, .iaload, 1), (99, .if_icmp .le 7, 3)]), (102, [(102, .iconst 1, 1), (103, .goto 4, 3)]), (106, [(106, .iconst 0, 1)]), (107, [(107, .istore_n 3, 1), (108, .aload_n 0, 1), (109, .getfield 130, 3), (112, .iload_n 1, 1), (113, .aload_n 0, 1), (114, .getfield 44, 3), (117, .iload_n 1, 1), (118, .iaload, 1), (119, .iastore, 1)]), (120, [(120, .aload_n 0, 1), (121, .getfield 136, 3), (124, .iload_n 1, 1), (125, .aload_n 0, 1), (126, .getfield 136, 3), (129, .iload_n 1, 1), (130, .iaload, 1), (131, .iload_n 3, 1), (132, .ifCond .eq 8, 3)]), (135, [(135, .bipush 10, 2), (137, .goto 4, 3)]), (140, [(140, .iconst (-1), 1)]), (141, [(141, .iadd, 1), (142, .i2l, 1), (143, .lconst 0, 1), (144, .ldc2_w 574, 3), (147, .invokestatic 576, 3), (150, .l2i, 1), (151, .iastore, 1)]), (152, [(152, .aload_n 0, 1), (153, .getfield 139, 3), (156, .iload_n 1, 1), (157, .aload_n 0, 1), (158, .getfield 136, 3), (161, .iload_n 1, 1), (162, .iaload, 1), (163, .bipush 100, 2), (165, .if_icmp .eq 21, 3)]), (168, [(168, .aload_n 0, 1), (169, .getfield 139, 3), (172, .iload_n 1, 1), (173, .baload, 1), (174, .ifCond .eq 16, 3)]), (177, [(177, .aload_n 0, 1), (178, .getfield 136, 3), (181, .iload_n 1, 1), (182, .iaload, 1), (183, .ifCond .le 7, 3)]), (186, [(186, .iconst 1, 1), (187, .goto 4, 3)]), (190, [(190, .iconst 0, 1)]), (191, [(191, .bastore, 1)]), (192, [(192, .aload_n 0, 1), (193, .getfield 133, 3), (196, .iload_n 1, 1), (197, .aload_n 0, 1), (198, .getfield 139, 3), (201, .iload_n 1, 1), (202, .baload, 1), (203, .ifCond .eq 11, 3)]), (206, [(206, .aload_n 0, 1), (207, .iload_n 1, 1), (208, .invokevirtual 320, 3), (211, .goto 27, 3)]), (214, [(214, .iload_n 3, 1), (215, .ifCond .eq 12, 3)]), (218, [(218, .aload_n 0, 1), (219, .getfield 133, 3), (222, .iload_n 1, 1), (223, .iaload, 1), (224, .goto 14, 3)]), (227, [(227, .aload_n 0, 1), (228, .iload_n 1, 1), (229, .aload_n 0, 1), (230, .getfield 44, 3), (233, .iload_n 1, 1), (234, .iaload, 1), (235, .invokevirtual 684, 3)]), (238, [(238, .iastore, 1), (239, .iinc 1 1, 3), (242, .goto (-240), 3)]), (245, [(245, .return_, 1)])]
set_option maxRecDepth 100000 in
theorem pq_X12_readPins_238 (fu : Nat)  (k2 : Int32 → pj_F (Unit × pj_Z)) (a1 : Int32) (b1 : Int32) (b2 : Int32) (s : Nat → Int32) (l : Nat → Int64) (x : Nat → Int32) (y : Nat → Int64) : pl_X12_readPins_238 fu k2 a1 b1 b2 s l x y = pj_bl px_X12_readPins (pj_rn px_X12_readPins (pj_as pk_X12_readPins) (pj_as [(2, pe_X12_readPins_2 k2)]) 60) [(238, .iastore, 1), (239, .iinc 1 1, 3), (242, .goto (-240), 3)] 238 [(0, pj_O (124, 0)), (1, pj_I a1)] [pj_I b2, pj_I b1, pj_O (161, 0)] (s, l, x, y) := rfl
set_option maxRecDepth 100000 in
theorem pq_X12_readPins_192 (fu : Nat)  (k2 : Int32 → pj_F (Unit × pj_Z)) (a1 : Int32) (a3 : Int32) (s : Nat → Int32) (l : Nat → Int64) (x : Nat → Int32) (y : Nat → Int64) : pl_X12_readPins_192 fu k2 a1 a3 s l x y = pj_bl px_X12_readPins (pj_rn px_X12_readPins (pj_as pk_X12_readPins) (pj_as [(2, pe_X12_readPins_2 k2), (238, pe_X12_readPins_238 (pl_X12_readPins_238 fu k2))]) 60) [(192, .aload_n 0, 1), (193, .getfield 133, 3), (196, .iload_n 1, 1), (197, .aload_n 0, 1), (198, .getfield 139, 3), (201, .iload_n 1, 1), (202, .baload, 1), (203, .ifCond .eq 11, 3)] 192 [(0, pj_O (124, 0)), (1, pj_I a1), (3, pj_I a3)] [] (s, l, x, y) := rfl
set_option maxRecDepth 100000 in
theorem pq_X12_readPins_191 (fu : Nat)  (k2 : Int32 → pj_F (Unit × pj_Z)) (a1 : Int32) (a3 : Int32) (b1 : Int32) (b2 : Int32) (s : Nat → Int32) (l : Nat → Int64) (x : Nat → Int32) (y : Nat → Int64) : pl_X12_readPins_191 fu k2 a1 a3 b1 b2 s l x y = pj_bl px_X12_readPins (pj_rn px_X12_readPins (pj_as pk_X12_readPins) (pj_as [(2, pe_X12_readPins_2 k2), (192, pe_X12_readPins_192 (pl_X12_readPins_192 fu k2))]) 60) [(191, .bastore, 1)] 191 [(0, pj_O (124, 0)), (1, pj_I a1), (3, pj_I a3)] [pj_I b2, pj_I b1, pj_O (163, 0)] (s, l, x, y) := rfl
set_option maxRecDepth 100000 in
theorem pq_X12_readPins_186 (fu : Nat)  (k2 : Int32 → pj_F (Unit × pj_Z)) (a1 : Int32) (a3 : Int32) (b1 : Int32) (s : Nat → Int32) (l : Nat → Int64) (x : Nat → Int32) (y : Nat → Int64) : pl_X12_readPins_186 fu k2 a1 a3 b1 s l x y = pj_bl px_X12_readPins (pj_rn px_X12_readPins (pj_as pk_X12_readPins) (pj_as [(2, pe_X12_readPins_2 k2), (191, pe_X12_readPins_191 (pl_X12_readPins_191 fu k2))]) 60) [(186, .iconst 1, 1), (187, .goto 4, 3)] 186 [(0, pj_O (124, 0)), (1, pj_I a1), (3, pj_I a3)] [pj_I b1, pj_O (163, 0)] (s, l, x, y) := rfl
set_option maxRecDepth 100000 in
theorem pq_X12_readPins_190 (fu : Nat)  (k2 : Int32 → pj_F (Unit × pj_Z)) (a1 : Int32) (a3 : Int32) (b1 : Int32) (s : Nat → Int32) (l : Nat → Int64) (x : Nat → Int32) (y : Nat → Int64) : pl_X12_readPins_190 fu k2 a1 a3 b1 s l x y = pj_bl px_X12_readPins (pj_rn px_X12_readPins (pj_as pk_X12_readPins) (pj_as [(2, pe_X12_readPins_2 k2), (191, pe_X12_readPins_191 (pl_X12_readPins_191 fu k2))]) 60) [(190, .iconst 0, 1)] 190 [(0, pj_O (124, 0)), (1, pj_I a1), (3, pj_I a3)] [pj_I b1, pj_O (163, 0)] (s, l, x, y) := rfl
set_option maxRecDepth 100000 in
theorem pq_X12_readPins_152 (fu : Nat)  (k2 : Int32 → pj_F (Unit × pj_Z)) (a1 : Int32) (a3 : Int32) (s : Nat → Int32) (l : Nat → Int64) (x : Nat → Int32) (y : Nat → Int64) : pl_X12_readPins_152 fu k2 a1 a3 s l x y = pj_bl px_X12_readPins (pj_rn px_X12_readPins (pj_as pk_X12_readPins) (pj_as [(2, pe_X12_readPins_2 k2), (186, pe_X12_readPins_186 (pl_X12_readPins_186 fu k2)), (190, pe_X12_readPins_190 (pl_X12_readPins_190 fu k2))]) 60) [(152, .aload_n 0, 1), (153, .getfield 139, 3), (156, .iload_n 1, 1), (157, .aload_n 0, 1), (158, .getfield 136, 3), (161, .iload_n 1, 1), (162, .iaload, 1), (163, .bipush 100, 2), (165, .if_icmp .eq 21, 3)] 152 [(0, pj_O (124, 0)), (1, pj_I a1), (3, pj_I a3)] [] (s, l, x, y) := rfl
set_option maxRecDepth 100000 in
theorem pq_X12_readPins_141 (fu : Nat)  (k2 : Int32 → pj_F (Unit × pj_Z)) (a1 : Int32) (a3 : Int32) (b1 : Int32) (b2 : Int32) (b3 : Int32) (s : Nat → Int32) (l : Nat → Int64) (x : Nat → Int32) (y : Nat → Int64) : pl_X12_readPins_141 fu k2 a1 a3 b1 b2 b3 s l x y = pj_bl px_X12_readPins (pj_rn px_X12_readPins (pj_as pk_X12_readPins) (pj_as [(2, pe_X12_readPins_2 k2), (152, pe_X12_readPins_152 (pl_X12_readPins_152 fu k2))]) 60) [(141, .iadd, 1), (142, .i2l, 1), (143, .lconst 0, 1), (144, .ldc2_w 574, 3), (147, .invokestatic 576, 3), (150, .l2i, 1), (151, .iastore, 1)] 141 [(0, pj_O (124, 0)), (1, pj_I a1), (3, pj_I a3)] [pj_I b3, pj_I b2, pj_I b1, pj_O (162, 0)] (s, l, x, y) := rfl
set_option maxRecDepth 100000 in
theorem pq_X12_readPins_120 (fu : Nat)  (k2 : Int32 → pj_F (Unit × pj_Z)) (a1 : Int32) (a3 : Int32) (s : Nat → Int32) (l : Nat → Int64) (x : Nat → Int32) (y : Nat → Int64) : pl_X12_readPins_120 fu k2 a1 a3 s l x y = pj_bl px_X12_readPins (pj_rn px_X12_readPins (pj_as pk_X12_readPins) (pj_as [(2, pe_X12_readPins_2 k2), (141, pe_X12_readPins_141 (pl_X12_readPins_141 fu k2))]) 60) [(120, .aload_n 0, 1), (121, .getfield 136, 3), (124, .iload_n 1, 1), (125, .aload_n 0, 1), (126, .getfield 136, 3), (129, .iload_n 1, 1), (130, .iaload, 1), (131, .iload_n 3, 1), (132, .ifCond .eq 8, 3)] 120 [(0, pj_O (124, 0)), (1, pj_I a1), (3, pj_I a3)] [] (s, l, x, y) := rfl
set_option maxRecDepth 100000 in
theorem pq_X12_readPins_107 (fu : Nat)  (k2 : Int32 → pj_F (Unit × pj_Z)) (a1 : Int32) (b0 : Int32) (s : Nat → Int32) (l : Nat → Int64) (x : Nat → Int32) (y : Nat → Int64) : pl_X12_readPins_107 fu k2 a1 b0 s l x y = pj_bl px_X12_readPins (pj_rn px_X12_readPins (pj_as pk_X12_readPins) (pj_as [(2, pe_X12_readPins_2 k2), (120, pe_X12_readPins_120 (pl_X12_readPins_120 fu k2))]) 60) [(107, .istore_n 3, 1), (108, .aload_n 0, 1), (109, .getfield 130, 3), (112, .iload_n 1, 1), (113, .aload_n 0, 1), (114, .getfield 44, 3), (117, .iload_n 1, 1), (118, .iaload, 1), (119, .iastore, 1)] 107 [(0, pj_O (124, 0)), (1, pj_I a1)] [pj_I b0] (s, l, x, y) := rfl
set_option maxRecDepth 100000 in
theorem pq_X12_readPins_102 (fu : Nat)  (k2 : Int32 → pj_F (Unit × pj_Z)) (a1 : Int32) (s : Nat → Int32) (l : Nat → Int64) (x : Nat → Int32) (y : Nat → Int64) : pl_X12_readPins_102 fu k2 a1 s l x y = pj_bl px_X12_readPins (pj_rn px_X12_readPins (pj_as pk_X12_readPins) (pj_as [(2, pe_X12_readPins_2 k2), (107, pe_X12_readPins_107 (pl_X12_readPins_107 fu k2))]) 60) [(102, .iconst 1, 1), (103, .goto 4, 3)] 102 [(0, pj_O (124, 0)), (1, pj_I a1)] [] (s, l, x, y) := rfl
set_option maxRecDepth 100000 in
theorem pq_X12_readPins_106 (fu : Nat)  (k2 : Int32 → pj_F (Unit × pj_Z)) (a1 : Int32) (s : Nat → Int32) (l : Nat → Int64) (x : Nat → Int32) (y : Nat → Int64) : pl_X12_readPins_106 fu k2 a1 s l x y = pj_bl px_X12_readPins (pj_rn px_X12_readPins (pj_as pk_X12_readPins) (pj_as [(2, pe_X12_readPins_2 k2), (107, pe_X12_readPins_107 (pl_X12_readPins_107 fu k2))]) 60) [(106, .iconst 0, 1)] 106 [(0, pj_O (124, 0)), (1, pj_I a1)] [] (s, l, x, y) := rfl
set_option maxRecDepth 100000 in
theorem pq_X12_readPins_52 (fu : Nat)  (k2 : Int32 → pj_F (Unit × pj_Z)) (a1 : Int32) (b0 : Int32) (s : Nat → Int32) (l : Nat → Int64) (x : Nat → Int32) (y : Nat → Int64) : pl_X12_readPins_52 fu k2 a1 b0 s l x y = pj_bl px_X12_readPins (pj_rn px_X12_readPins (pj_as pk_X12_readPins) (pj_as [(2, pe_X12_readPins_2 k2), (102, pe_X12_readPins_102 (pl_X12_readPins_102 fu k2)), (106, pe_X12_readPins_106 (pl_X12_readPins_106 fu k2))]) 60) [(52, .istore_n 2, 1), (53, .aload_n 0, 1), (54, .getfield 44, 3), (57, .iload_n 1, 1), (58, .iaload, 1), (59, .aload_n 0, 1), (60, .getfield 47, 3), (63, .iload_n 1, 1), (64, .iaload, 1), (65, .if_icmp .lt 37, 3)] 52 [(0, pj_O (124, 0)), (1, pj_I a1)] [pj_I b0] (s, l, x, y) := rfl
set_option maxRecDepth 100000 in
theorem pq_X12_readPins_2 (fu : Nat)  (n : Nat) (a1 : Int32) (s : Nat → Int32) (l : Nat → Int64) (x : Nat → Int32) (y : Nat → Int64) : pl_X12_readPins_2 fu (n + 1) a1 s l x y = pj_bl px_X12_readPins (pj_rn px_X12_readPins (pj_as pk_X12_readPins) (pj_as [(2, pe_X12_readPins_2 (pl_X12_readPins_2 fu n)), (52, pe_X12_readPins_52 (pl_X12_readPins_52 fu (pl_X12_readPins_2 fu n)))]) 60) [(2, .iload_n 1, 1), (3, .bipush 10, 2), (5, .if_icmp .ge 240, 3)] 2 [(0, pj_O (124, 0)), (1, pj_I a1)] [] (s, l, x, y) := rfl
set_option maxRecDepth 100000 in
theorem pq_X12_readPins_m (fu : Nat)   (s : Nat → Int32) (l : Nat → Int64) (x : Nat → Int32) (y : Nat → Int64) : po_X12_readPins fu  s l x y = pj_bl px_X12_readPins (pj_rn px_X12_readPins (pj_as pk_X12_readPins) (pj_as [(2, pe_X12_readPins_2 (pl_X12_readPins_2 fu fu))]) 60) [(0, .iconst 0, 1), (1, .istore_n 1, 1)] 0 [(0, pj_O (124, 0))] [] (s, l, x, y) := rfl
theorem pu_X12_readPins_2 {lf : pj_Z → mj_M} {a : Unit × pj_Z} (f : Int32 → pj_F (Unit × pj_Z)) (hf : ∀ (a1 : Int32) (s : Nat → Int32) (l : Nat → Int64) (x : Nat → Int32) (y : Nat → Int64), f a1 s l x y = some a → pm_Gd 2 12052 ie_X12_readPins.1 pm_rU lf 2 [(0, .ref 124), (1, .int a1)] [] (s, l, x, y) a) : pm_Ex 2 12052 ie_X12_readPins.1 pm_rU lf a 2 (pe_X12_readPins_2 f) := by
  intro lv st z hd h
  obtain ⟨g0, h⟩ := pj_xr_inv h
  obtain ⟨a1, g1, h⟩ := pj_xi_inv h
  obtain ⟨e9, h⟩ := pj_pe_inv h
  rw [e9]
  exact mj_wp_sub (mj_sub_cons g0 (mj_sub_cons g1 (mj_sub_nil hd))) (hf _ _ _ _ _ h)
theorem pu_X12_readPins_52 {lf : pj_Z → mj_M} {a : Unit × pj_Z} (f : Int32 → Int32 → pj_F (Unit × pj_Z)) (hf : ∀ (a1 : Int32) (b0 : Int32) (s : Nat → Int32) (l : Nat → Int64) (x : Nat → Int32) (y : Nat → Int64), f a1 b0 s l x y = some a → pm_Gd 2 12052 ie_X12_readPins.1 pm_rU lf 52 [(0, .ref 124), (1, .int a1)] [.int b0] (s, l, x, y) a) : pm_Ex 2 12052 ie_X12_readPins.1 pm_rU lf a 52 (pe_X12_readPins_52 f) := by
  intro lv st z hd h
  obtain ⟨g0, h⟩ := pj_xr_inv h
  obtain ⟨a1, g1, h⟩ := pj_xi_inv h
  obtain ⟨b0, r0, e0, h⟩ := pj_pi_inv h
  obtain ⟨e9, h⟩ := pj_pe_inv h
  rw [e0, e9]
  exact mj_wp_sub (mj_sub_cons g0 (mj_sub_cons g1 (mj_sub_nil hd))) (hf _ _ _ _ _ _ h)
theorem pu_X12_readPins_102 {lf : pj_Z → mj_M} {a : Unit × pj_Z} (f : Int32 → pj_F (Unit × pj_Z)) (hf : ∀ (a1 : Int32) (s : Nat → Int32) (l : Nat → Int64) (x : Nat → Int32) (y : Nat → Int64), f a1 s l x y = some a → pm_Gd 2 12052 ie_X12_readPins.1 pm_rU lf 102 [(0, .ref 124), (1, .int a1)] [] (s, l, x, y) a) : pm_Ex 2 12052 ie_X12_readPins.1 pm_rU lf a 102 (pe_X12_readPins_102 f) := by
  intro lv st z hd h
  obtain ⟨g0, h⟩ := pj_xr_inv h
  obtain ⟨a1, g1, h⟩ := pj_xi_inv h
  obtain ⟨e9, h⟩ := pj_pe_inv h
  rw [e9]
  exact mj_wp_sub (mj_sub_cons g0 (mj_sub_cons g1 (mj_sub_nil hd))) (hf _ _ _ _ _ h)
theorem pu_X12_readPins_106 {lf : pj_Z → mj_M} {a : Unit × pj_Z} (f : Int32 → pj_F (Unit × pj_Z)) (hf : ∀ (a1 : Int32) (s : Nat → Int32) (l : Nat → Int64) (x : Nat → Int32) (y : Nat → Int64), f a1 s l x y = some a → pm_Gd 2 12052 ie_X12_readPins.1 pm_rU lf 106 [(0, .ref 124), (1, .int a1)] [] (s, l, x, y) a) : pm_Ex 2 12052 ie_X12_readPins.1 pm_rU lf a 106 (pe_X12_readPins_106 f) := by
  intro lv st z hd h
  obtain ⟨g0, h⟩ := pj_xr_inv h
  obtain ⟨a1, g1, h⟩ := pj_xi_inv h
  obtain ⟨e9, h⟩ := pj_pe_inv h
  rw [e9]
  exact mj_wp_sub (mj_sub_cons g0 (mj_sub_cons g1 (mj_sub_nil hd))) (hf _ _ _ _ _ h)
theorem pu_X12_readPins_107 {lf : pj_Z → mj_M} {a : Unit × pj_Z} (f : Int32 → Int32 → pj_F (Unit × pj_Z)) (hf : ∀ (a1 : Int32) (b0 : Int32) (s : Nat → Int32) (l : Nat → Int64) (x : Nat → Int32) (y : Nat → Int64), f a1 b0 s l x y = some a → pm_Gd 2 12052 ie_X12_readPins.1 pm_rU lf 107 [(0, .ref 124), (1, .int a1)] [.int b0] (s, l, x, y) a) : pm_Ex 2 12052 ie_X12_readPins.1 pm_rU lf a 107 (pe_X12_readPins_107 f) := by
  intro lv st z hd h
  obtain ⟨g0, h⟩ := pj_xr_inv h
  obtain ⟨a1, g1, h⟩ := pj_xi_inv h
  obtain ⟨b0, r0, e0, h⟩ := pj_pi_inv h
  obtain ⟨e9, h⟩ := pj_pe_inv h
  rw [e0, e9]
  exact mj_wp_sub (mj_sub_cons g0 (mj_sub_cons g1 (mj_sub_nil hd))) (hf _ _ _ _ _ _ h)
theorem pu_X12_readPins_120 {lf : pj_Z → mj_M} {a : Unit × pj_Z} (f : Int32 → Int32 → pj_F (Unit × pj_Z)) (hf : ∀ (a1 : Int32) (a3 : Int32) (s : Nat → Int32) (l : Nat → Int64) (x : Nat → Int32) (y : Nat → Int64), f a1 a3 s l x y = some a → pm_Gd 2 12052 ie_X12_readPins.1 pm_rU lf 120 [(0, .ref 124), (1, .int a1), (3, .int a3)] [] (s, l, x, y) a) : pm_Ex 2 12052 ie_X12_readPins.1 pm_rU lf a 120 (pe_X12_readPins_120 f) := by
  intro lv st z hd h
  obtain ⟨g0, h⟩ := pj_xr_inv h
  obtain ⟨a1, g1, h⟩ := pj_xi_inv h
  obtain ⟨a3, g3, h⟩ := pj_xi_inv h
  obtain ⟨e9, h⟩ := pj_pe_inv h
  rw [e9]
  exact mj_wp_sub (mj_sub_cons g0 (mj_sub_cons g1 (mj_sub_cons g3 (mj_sub_nil hd)))) (hf _ _ _ _ _ _ h)
theorem pu_X12_readPins_141 {lf : pj_Z → mj_M} {a : Unit × pj_Z} (f : Int32 → Int32 → Int32 → Int32 → Int32 → pj_F (Unit × pj_Z)) (hf : ∀ (a1 : Int32) (a3 : Int32) (b1 : Int32) (b2 : Int32) (b3 : Int32) (s : Nat → Int32) (l : Nat → Int64) (x : Nat → Int32) (y : Nat → Int64), f a1 a3 b1 b2 b3 s l x y = some a → pm_Gd 2 12052 ie_X12_readPins.1 pm_rU lf 141 [(0, .ref 124), (1, .int a1), (3, .int a3)] [.int b3, .int b2, .int b1, .ref 162] (s, l, x, y) a) : pm_Ex 2 12052 ie_X12_readPins.1 pm_rU lf a 141 (pe_X12_readPins_141 f) := by
  intro lv st z hd h
  obtain ⟨g0, h⟩ := pj_xr_inv h
  obtain ⟨a1, g1, h⟩ := pj_xi_inv h
  obtain ⟨a3, g3, h⟩ := pj_xi_inv h
  obtain ⟨b3, r3, e3, h⟩ := pj_pi_inv h
  obtain ⟨b2, r2, e2, h⟩ := pj_pi_inv h
  obtain ⟨b1, r1, e1, h⟩ := pj_pi_inv h
  obtain ⟨r0, e0, h⟩ := pj_pr_inv h
  obtain ⟨e9, h⟩ := pj_pe_inv h
  rw [e3, e2, e1, e0, e9]
  exact mj_wp_sub (mj_sub_cons g0 (mj_sub_cons g1 (mj_sub_cons g3 (mj_sub_nil hd)))) (hf _ _ _ _ _ _ _ _ _ h)
theorem pu_X12_readPins_152 {lf : pj_Z → mj_M} {a : Unit × pj_Z} (f : Int32 → Int32 → pj_F (Unit × pj_Z)) (hf : ∀ (a1 : Int32) (a3 : Int32) (s : Nat → Int32) (l : Nat → Int64) (x : Nat → Int32) (y : Nat → Int64), f a1 a3 s l x y = some a → pm_Gd 2 12052 ie_X12_readPins.1 pm_rU lf 152 [(0, .ref 124), (1, .int a1), (3, .int a3)] [] (s, l, x, y) a) : pm_Ex 2 12052 ie_X12_readPins.1 pm_rU lf a 152 (pe_X12_readPins_152 f) := by
  intro lv st z hd h
  obtain ⟨g0, h⟩ := pj_xr_inv h
  obtain ⟨a1, g1, h⟩ := pj_xi_inv h
  obtain ⟨a3, g3, h⟩ := pj_xi_inv h
  obtain ⟨e9, h⟩ := pj_pe_inv h
  rw [e9]
  exact mj_wp_sub (mj_sub_cons g0 (mj_sub_cons g1 (mj_sub_cons g3 (mj_sub_nil hd)))) (hf _ _ _ _ _ _ h)
theorem pu_X12_readPins_186 {lf : pj_Z → mj_M} {a : Unit × pj_Z} (f : Int32 → Int32 → Int32 → pj_F (Unit × pj_Z)) (hf : ∀ (a1 : Int32) (a3 : Int32) (b1 : Int32) (s : Nat → Int32) (l : Nat → Int64) (x : Nat → Int32) (y : Nat → Int64), f a1 a3 b1 s l x y = some a → pm_Gd 2 12052 ie_X12_readPins.1 pm_rU lf 186 [(0, .ref 124), (1, .int a1), (3, .int a3)] [.int b1, .ref 163] (s, l, x, y) a) : pm_Ex 2 12052 ie_X12_readPins.1 pm_rU lf a 186 (pe_X12_readPins_186 f) := by
  intro lv st z hd h
  obtain ⟨g0, h⟩ := pj_xr_inv h
  obtain ⟨a1, g1, h⟩ := pj_xi_inv h
  obtain ⟨a3, g3, h⟩ := pj_xi_inv h
  obtain ⟨b1, r1, e1, h⟩ := pj_pi_inv h
  obtain ⟨r0, e0, h⟩ := pj_pr_inv h
  obtain ⟨e9, h⟩ := pj_pe_inv h
  rw [e1, e0, e9]
  exact mj_wp_sub (mj_sub_cons g0 (mj_sub_cons g1 (mj_sub_cons g3 (mj_sub_nil hd)))) (hf _ _ _ _ _ _ _ h)
theorem pu_X12_readPins_190 {lf : pj_Z → mj_M} {a : Unit × pj_Z} (f : Int32 → Int32 → Int32 → pj_F (Unit × pj_Z)) (hf : ∀ (a1 : Int32) (a3 : Int32) (b1 : Int32) (s : Nat → Int32) (l : Nat → Int64) (x : Nat → Int32) (y : Nat → Int64), f a1 a3 b1 s l x y = some a → pm_Gd 2 12052 ie_X12_readPins.1 pm_rU lf 190 [(0, .ref 124), (1, .int a1), (3, .int a3)] [.int b1, .ref 163] (s, l, x, y) a) : pm_Ex 2 12052 ie_X12_readPins.1 pm_rU lf a 190 (pe_X12_readPins_190 f) := by
  intro lv st z hd h
  obtain ⟨g0, h⟩ := pj_xr_inv h
  obtain ⟨a1, g1, h⟩ := pj_xi_inv h
  obtain ⟨a3, g3, h⟩ := pj_xi_inv h
  obtain ⟨b1, r1, e1, h⟩ := pj_pi_inv h
  obtain ⟨r0, e0, h⟩ := pj_pr_inv h
  obtain ⟨e9, h⟩ := pj_pe_inv h
  rw [e1, e0, e9]
  exact mj_wp_sub (mj_sub_cons g0 (mj_sub_cons g1 (mj_sub_cons g3 (mj_sub_nil hd)))) (hf _ _ _ _ _ _ _ h)
theorem pu_X12_readPins_191 {lf : pj_Z → mj_M} {a : Unit × pj_Z} (f : Int32 → Int32 → Int32 → Int32 → pj_F (Unit × pj_Z)) (hf : ∀ (a1 : Int32) (a3 : Int32) (b1 : Int32) (b2 : Int32) (s : Nat → Int32) (l : Nat → Int64) (x : Nat → Int32) (y : Nat → Int64), f a1 a3 b1 b2 s l x y = some a → pm_Gd 2 12052 ie_X12_readPins.1 pm_rU lf 191 [(0, .ref 124), (1, .int a1), (3, .int a3)] [.int b2, .int b1, .ref 163] (s, l, x, y) a) : pm_Ex 2 12052 ie_X12_readPins.1 pm_rU lf a 191 (pe_X12_readPins_191 f) := by
  intro lv st z hd h
  obtain ⟨g0, h⟩ := pj_xr_inv h
  obtain ⟨a1, g1, h⟩ := pj_xi_inv h
  obtain ⟨a3, g3, h⟩ := pj_xi_inv h
  obtain ⟨b2, r2, e2, h⟩ := pj_pi_inv h
  obtain ⟨b1, r1, e1, h⟩ := pj_pi_inv h
  obtain ⟨r0, e0, h⟩ := pj_pr_inv h
  obtain ⟨e9, h⟩ := pj_pe_inv h
  rw [e2, e1, e0, e9]
  exact mj_wp_sub (mj_sub_cons g0 (mj_sub_cons g1 (mj_sub_cons g3 (mj_sub_nil hd)))) (hf _ _ _ _ _ _ _ _ h)
theorem pu_X12_readPins_192 {lf : pj_Z → mj_M} {a : Unit × pj_Z} (f : Int32 → Int32 → pj_F (Unit × pj_Z)) (hf : ∀ (a1 : Int32) (a3 : Int32) (s : Nat → Int32) (l : Nat → Int64) (x : Nat → Int32) (y : Nat → Int64), f a1 a3 s l x y = some a → pm_Gd 2 12052 ie_X12_readPins.1 pm_rU lf 192 [(0, .ref 124), (1, .int a1), (3, .int a3)] [] (s, l, x, y) a) : pm_Ex 2 12052 ie_X12_readPins.1 pm_rU lf a 192 (pe_X12_readPins_192 f) := by
  intro lv st z hd h
  obtain ⟨g0, h⟩ := pj_xr_inv h
  obtain ⟨a1, g1, h⟩ := pj_xi_inv h
  obtain ⟨a3, g3, h⟩ := pj_xi_inv h
  obtain ⟨e9, h⟩ := pj_pe_inv h
  rw [e9]
  exact mj_wp_sub (mj_sub_cons g0 (mj_sub_cons g1 (mj_sub_cons g3 (mj_sub_nil hd)))) (hf _ _ _ _ _ _ h)
theorem pu_X12_readPins_238 {lf : pj_Z → mj_M} {a : Unit × pj_Z} (f : Int32 → Int32 → Int32 → pj_F (Unit × pj_Z)) (hf : ∀ (a1 : Int32) (b1 : Int32) (b2 : Int32) (s : Nat → Int32) (l : Nat → Int64) (x : Nat → Int32) (y : Nat → Int64), f a1 b1 b2 s l x y = some a → pm_Gd 2 12052 ie_X12_readPins.1 pm_rU lf 238 [(0, .ref 124), (1, .int a1)] [.int b2, .int b1, .ref 161] (s, l, x, y) a) : pm_Ex 2 12052 ie_X12_readPins.1 pm_rU lf a 238 (pe_X12_readPins_238 f) := by
  intro lv st z hd h
  obtain ⟨g0, h⟩ := pj_xr_inv h
  obtain ⟨a1, g1, h⟩ := pj_xi_inv h
  obtain ⟨b2, r2, e2, h⟩ := pj_pi_inv h
  obtain ⟨b1, r1, e1, h⟩ := pj_pi_inv h
  obtain ⟨r0, e0, h⟩ := pj_pr_inv h
  obtain ⟨e9, h⟩ := pj_pe_inv h
  rw [e2, e1, e0, e9]
  exact mj_wp_sub (mj_sub_cons g0 (mj_sub_cons g1 (mj_sub_nil hd))) (hf _ _ _ _ _ _ _ h)
set_option maxRecDepth 100000 in
theorem pz_X12_readPins {lf : pj_Z → mj_M} (hT : pj_Lt pj_TR lf) : pj_Cok ic_P (mj_R ic_P 2) 12052 ie_X12_readPins.1 (pm_OK lf pm_rU) lf px_X12_readPins := by
  exact pm_cok (c := px_X12_readPins) (pm_part hT (pj_as_all (p := fun b e => pj_TR b = some e) (List.forall_mem_cons.mpr ⟨rfl, (List.forall_mem_cons.mpr ⟨rfl, (List.forall_mem_cons.mpr ⟨rfl, (List.forall_mem_cons.mpr ⟨rfl, (List.forall_mem_cons.mpr ⟨rfl, (List.forall_mem_cons.mpr ⟨rfl, (List.forall_mem_cons.mpr ⟨rfl, (List.forall_mem_cons.mpr ⟨rfl, (List.forall_mem_cons.mpr ⟨rfl, (fun _ h => by cases h)⟩)⟩)⟩)⟩)⟩)⟩)⟩)⟩)⟩))) (pm_in_ok (L := [(44, 12, 12, 2, true), (47, 12, 13, 2, true), (50, 12, 14, 2, true), (53, 12, 15, 2, true), (130, 12, 71, 2, true), (133, 12, 72, 2, true), (136, 12, 73, 2, true), (139, 12, 74, 2, true), (417, 12, 75, 1, false)]) (f := mj_pF ic_P 12052) (by decide +kernel)) (fun _ _ h => by cases h) (pm_inL_ok (L := [(574, 100)]) (f := mj_pL ic_P 12052) (by decide +kernel)) (fun _ _ h => by cases h) rfl rfl ⟨by decide, rfl⟩ pm_mU (pj_as_all (p := pm_Cl 2 12052 ie_X12_readPins.1 lf (pm_OK lf pm_rU)) (List.forall_mem_cons.mpr ⟨fun _ _ lv st z K a hK h => pc_X12_cutTo hT (by decide) (ix := 576) rfl rfl hK h, (List.forall_mem_cons.mpr ⟨fun _ _ lv st z K a hK h => pc_X12_substitute hT (by decide) (ix := 320) rfl rfl hK h, (List.forall_mem_cons.mpr ⟨fun _ _ lv st z K a hK h => pc_X12_lineValue hT (by decide) (ix := 684) rfl rfl hK h, (fun _ h => by cases h)⟩)⟩)⟩)) (fun _ h => by cases h)
set_option maxRecDepth 100000 in
theorem pb_X12_readPins : pm_bks ie_X12_readPins.1.2.2.2.2 pk_X12_readPins = true := by decide +kernel
set_option maxRecDepth 100000 in
theorem pg_X12_readPins_238 {fu : Nat} {lf : pj_Z → mj_M} (hT : pj_Lt pj_TR lf) {k2 : Int32 → pj_F (Unit × pj_Z)} (hk2 : ∀ (a1 : Int32) (s : Nat → Int32) (l : Nat → Int64) (x : Nat → Int32) (y : Nat → Int64) (a : Unit × pj_Z), k2 a1 s l x y = some a → pm_Gd 2 12052 ie_X12_readPins.1 pm_rU lf 2 [(0, .ref 124), (1, .int a1)] [] (s, l, x, y) a) : ∀ (a1 : Int32) (b1 : Int32) (b2 : Int32) (s : Nat → Int32) (l : Nat → Int64) (x : Nat → Int32) (y : Nat → Int64) (a : Unit × pj_Z), pl_X12_readPins_238 fu k2 a1 b1 b2 s l x y = some a → pm_Gd 2 12052 ie_X12_readPins.1 pm_rU lf 238 [(0, .ref 124), (1, .int a1)] [.int b2, .int b1, .ref 161] (s, l, x, y) a := by
  intro a1 b1 b2 s l x y a h
  exact pm_run ((pq_X12_readPins_238 fu k2 a1 b1 b2 s l x y).symm.trans h) (pz_X12_readPins hT) (pm_bks_ok pb_X12_readPins) (pm_bks_ok pb_X12_readPins _ _ rfl) (pm_ndb_ok rfl) (pj_as_all (p := pm_Ex 2 12052 ie_X12_readPins.1 pm_rU lf a) (List.forall_mem_cons.mpr ⟨pu_X12_readPins_2 _ (fun c0 s l x y h => hk2 c0 s l x y _ h), (fun _ h => by cases h)⟩))
set_option maxRecDepth 100000 in
theorem pg_X12_readPins_192 {fu : Nat} {lf : pj_Z → mj_M} (hT : pj_Lt pj_TR lf) {k2 : Int32 → pj_F (Unit × pj_Z)} (hk2 : ∀ (a1 : Int32) (s : Nat → Int32) (l : Nat → Int64) (x : Nat → Int32) (y : Nat → Int64) (a : Unit × pj_Z), k2 a1 s l x y = some a → pm_Gd 2 12052 ie_X12_readPins.1 pm_rU lf 2 [(0, .ref 124), (1, .int a1)] [] (s, l, x, y) a) : ∀ (a1 : Int32) (a3 : Int32) (s : Nat → Int32) (l : Nat → Int64) (x : Nat → Int32) (y : Nat → Int64) (a : Unit × pj_Z), pl_X12_readPins_192 fu k2 a1 a3 s l x y = some a → pm_Gd 2 12052 ie_X12_readPins.1 pm_rU lf 192 [(0, .ref 124), (1, .int a1), (3, .int a3)] [] (s, l, x, y) a := by
  intro a1 a3 s l x y a h
  exact pm_run ((pq_X12_readPins_192 fu k2 a1 a3 s l x y).symm.trans h) (pz_X12_readPins hT) (pm_bks_ok pb_X12_readPins) (pm_bks_ok pb_X12_readPins _ _ rfl) (pm_ndb_ok rfl) (pj_as_all (p := pm_Ex 2 12052 ie_X12_readPins.1 pm_rU lf a) (List.forall_mem_cons.mpr ⟨pu_X12_readPins_2 _ (fun c0 s l x y h => hk2 c0 s l x y _ h), (List.forall_mem_cons.mpr ⟨pu_X12_readPins_238 _ (fun c0 c1 c2 s l x y h => pg_X12_readPins_238 hT hk2 c0 c1 c2 s l x y _ h), (fun _ h => by cases h)⟩)⟩))
set_option maxRecDepth 100000 in
theorem pg_X12_readPins_191 {fu : Nat} {lf : pj_Z → mj_M} (hT : pj_Lt pj_TR lf) {k2 : Int32 → pj_F (Unit × pj_Z)} (hk2 : ∀ (a1 : Int32) (s : Nat → Int32) (l : Nat → Int64) (x : Nat → Int32) (y : Nat → Int64) (a : Unit × pj_Z), k2 a1 s l x y = some a → pm_Gd 2 12052 ie_X12_readPins.1 pm_rU lf 2 [(0, .ref 124), (1, .int a1)] [] (s, l, x, y) a) : ∀ (a1 : Int32) (a3 : Int32) (b1 : Int32) (b2 : Int32) (s : Nat → Int32) (l : Nat → Int64) (x : Nat → Int32) (y : Nat → Int64) (a : Unit × pj_Z), pl_X12_readPins_191 fu k2 a1 a3 b1 b2 s l x y = some a → pm_Gd 2 12052 ie_X12_readPins.1 pm_rU lf 191 [(0, .ref 124), (1, .int a1), (3, .int a3)] [.int b2, .int b1, .ref 163] (s, l, x, y) a := by
  intro a1 a3 b1 b2 s l x y a h
  exact pm_run ((pq_X12_readPins_191 fu k2 a1 a3 b1 b2 s l x y).symm.trans h) (pz_X12_readPins hT) (pm_bks_ok pb_X12_readPins) (pm_bks_ok pb_X12_readPins _ _ rfl) (pm_ndb_ok rfl) (pj_as_all (p := pm_Ex 2 12052 ie_X12_readPins.1 pm_rU lf a) (List.forall_mem_cons.mpr ⟨pu_X12_readPins_2 _ (fun c0 s l x y h => hk2 c0 s l x y _ h), (List.forall_mem_cons.mpr ⟨pu_X12_readPins_192 _ (fun c0 c1 s l x y h => pg_X12_readPins_192 hT hk2 c0 c1 s l x y _ h), (fun _ h => by cases h)⟩)⟩))
set_option maxRecDepth 100000 in
theorem pg_X12_readPins_186 {fu : Nat} {lf : pj_Z → mj_M} (hT : pj_Lt pj_TR lf) {k2 : Int32 → pj_F (Unit × pj_Z)} (hk2 : ∀ (a1 : Int32) (s : Nat → Int32) (l : Nat → Int64) (x : Nat → Int32) (y : Nat → Int64) (a : Unit × pj_Z), k2 a1 s l x y = some a → pm_Gd 2 12052 ie_X12_readPins.1 pm_rU lf 2 [(0, .ref 124), (1, .int a1)] [] (s, l, x, y) a) : ∀ (a1 : Int32) (a3 : Int32) (b1 : Int32) (s : Nat → Int32) (l : Nat → Int64) (x : Nat → Int32) (y : Nat → Int64) (a : Unit × pj_Z), pl_X12_readPins_186 fu k2 a1 a3 b1 s l x y = some a → pm_Gd 2 12052 ie_X12_readPins.1 pm_rU lf 186 [(0, .ref 124), (1, .int a1), (3, .int a3)] [.int b1, .ref 163] (s, l, x, y) a := by
  intro a1 a3 b1 s l x y a h
  exact pm_run ((pq_X12_readPins_186 fu k2 a1 a3 b1 s l x y).symm.trans h) (pz_X12_readPins hT) (pm_bks_ok pb_X12_readPins) (pm_bks_ok pb_X12_readPins _ _ rfl) (pm_ndb_ok rfl) (pj_as_all (p := pm_Ex 2 12052 ie_X12_readPins.1 pm_rU lf a) (List.forall_mem_cons.mpr ⟨pu_X12_readPins_2 _ (fun c0 s l x y h => hk2 c0 s l x y _ h), (List.forall_mem_cons.mpr ⟨pu_X12_readPins_191 _ (fun c0 c1 c2 c3 s l x y h => pg_X12_readPins_191 hT hk2 c0 c1 c2 c3 s l x y _ h), (fun _ h => by cases h)⟩)⟩))
set_option maxRecDepth 100000 in
theorem pg_X12_readPins_190 {fu : Nat} {lf : pj_Z → mj_M} (hT : pj_Lt pj_TR lf) {k2 : Int32 → pj_F (Unit × pj_Z)} (hk2 : ∀ (a1 : Int32) (s : Nat → Int32) (l : Nat → Int64) (x : Nat → Int32) (y : Nat → Int64) (a : Unit × pj_Z), k2 a1 s l x y = some a → pm_Gd 2 12052 ie_X12_readPins.1 pm_rU lf 2 [(0, .ref 124), (1, .int a1)] [] (s, l, x, y) a) : ∀ (a1 : Int32) (a3 : Int32) (b1 : Int32) (s : Nat → Int32) (l : Nat → Int64) (x : Nat → Int32) (y : Nat → Int64) (a : Unit × pj_Z), pl_X12_readPins_190 fu k2 a1 a3 b1 s l x y = some a → pm_Gd 2 12052 ie_X12_readPins.1 pm_rU lf 190 [(0, .ref 124), (1, .int a1), (3, .int a3)] [.int b1, .ref 163] (s, l, x, y) a := by
  intro a1 a3 b1 s l x y a h
  exact pm_run ((pq_X12_readPins_190 fu k2 a1 a3 b1 s l x y).symm.trans h) (pz_X12_readPins hT) (pm_bks_ok pb_X12_readPins) (pm_bks_ok pb_X12_readPins _ _ rfl) (pm_ndb_ok rfl) (pj_as_all (p := pm_Ex 2 12052 ie_X12_readPins.1 pm_rU lf a) (List.forall_mem_cons.mpr ⟨pu_X12_readPins_2 _ (fun c0 s l x y h => hk2 c0 s l x y _ h), (List.forall_mem_cons.mpr ⟨pu_X12_readPins_191 _ (fun c0 c1 c2 c3 s l x y h => pg_X12_readPins_191 hT hk2 c0 c1 c2 c3 s l x y _ h), (fun _ h => by cases h)⟩)⟩))
set_option maxRecDepth 100000 in
theorem pg_X12_readPins_152 {fu : Nat} {lf : pj_Z → mj_M} (hT : pj_Lt pj_TR lf) {k2 : Int32 → pj_F (Unit × pj_Z)} (hk2 : ∀ (a1 : Int32) (s : Nat → Int32) (l : Nat → Int64) (x : Nat → Int32) (y : Nat → Int64) (a : Unit × pj_Z), k2 a1 s l x y = some a → pm_Gd 2 12052 ie_X12_readPins.1 pm_rU lf 2 [(0, .ref 124), (1, .int a1)] [] (s, l, x, y) a) : ∀ (a1 : Int32) (a3 : Int32) (s : Nat → Int32) (l : Nat → Int64) (x : Nat → Int32) (y : Nat → Int64) (a : Unit × pj_Z), pl_X12_readPins_152 fu k2 a1 a3 s l x y = some a → pm_Gd 2 12052 ie_X12_readPins.1 pm_rU lf 152 [(0, .ref 124), (1, .int a1), (3, .int a3)] [] (s, l, x, y) a := by
  intro a1 a3 s l x y a h
  exact pm_run ((pq_X12_readPins_152 fu k2 a1 a3 s l x y).symm.trans h) (pz_X12_readPins hT) (pm_bks_ok pb_X12_readPins) (pm_bks_ok pb_X12_readPins _ _ rfl) (pm_ndb_ok rfl) (pj_as_all (p := pm_Ex 2 12052 ie_X12_readPins.1 pm_rU lf a) (List.forall_mem_cons.mpr ⟨pu_X12_readPins_2 _ (fun c0 s l x y h => hk2 c0 s l x y _ h), (List.forall_mem_cons.mpr ⟨pu_X12_readPins_186 _ (fun c0 c1 c2 s l x y h => pg_X12_readPins_186 hT hk2 c0 c1 c2 s l x y _ h), (List.forall_mem_cons.mpr ⟨pu_X12_readPins_190 _ (fun c0 c1 c2 s l x y h => pg_X12_readPins_190 hT hk2 c0 c1 c2 s l x y _ h), (fun _ h => by cases h)⟩)⟩)⟩))
set_option maxRecDepth 100000 in
theorem pg_X12_readPins_141 {fu : Nat} {lf : pj_Z → mj_M} (hT : pj_Lt pj_TR lf) {k2 : Int32 → pj_F (Unit × pj_Z)} (hk2 : ∀ (a1 : Int32) (s : Nat → Int32) (l : Nat → Int64) (x : Nat → Int32) (y : Nat → Int64) (a : Unit × pj_Z), k2 a1 s l x y = some a → pm_Gd 2 12052 ie_X12_readPins.1 pm_rU lf 2 [(0, .ref 124), (1, .int a1)] [] (s, l, x, y) a) : ∀ (a1 : Int32) (a3 : Int32) (b1 : Int32) (b2 : Int32) (b3 : Int32) (s : Nat → Int32) (l : Nat → Int64) (x : Nat → Int32) (y : Nat → Int64) (a : Unit × pj_Z), pl_X12_readPins_141 fu k2 a1 a3 b1 b2 b3 s l x y = some a → pm_Gd 2 12052 ie_X12_readPins.1 pm_rU lf 141 [(0, .ref 124), (1, .int a1), (3, .int a3)] [.int b3, .int b2, .int b1, .ref 162] (s, l, x, y) a := by
  intro a1 a3 b1 b2 b3 s l x y a h
  exact pm_run ((pq_X12_readPins_141 fu k2 a1 a3 b1 b2 b3 s l x y).symm.trans h) (pz_X12_readPins hT) (pm_bks_ok pb_X12_readPins) (pm_bks_ok pb_X12_readPins _ _ rfl) (pm_ndb_ok rfl) (pj_as_all (p := pm_Ex 2 12052 ie_X12_readPins.1 pm_rU lf a) (List.forall_mem_cons.mpr ⟨pu_X12_readPins_2 _ (fun c0 s l x y h => hk2 c0 s l x y _ h), (List.forall_mem_cons.mpr ⟨pu_X12_readPins_152 _ (fun c0 c1 s l x y h => pg_X12_readPins_152 hT hk2 c0 c1 s l x y _ h), (fun _ h => by cases h)⟩)⟩))
set_option maxRecDepth 100000 in
theorem pg_X12_readPins_120 {fu : Nat} {lf : pj_Z → mj_M} (hT : pj_Lt pj_TR lf) {k2 : Int32 → pj_F (Unit × pj_Z)} (hk2 : ∀ (a1 : Int32) (s : Nat → Int32) (l : Nat → Int64) (x : Nat → Int32) (y : Nat → Int64) (a : Unit × pj_Z), k2 a1 s l x y = some a → pm_Gd 2 12052 ie_X12_readPins.1 pm_rU lf 2 [(0, .ref 124), (1, .int a1)] [] (s, l, x, y) a) : ∀ (a1 : Int32) (a3 : Int32) (s : Nat → Int32) (l : Nat → Int64) (x : Nat → Int32) (y : Nat → Int64) (a : Unit × pj_Z), pl_X12_readPins_120 fu k2 a1 a3 s l x y = some a → pm_Gd 2 12052 ie_X12_readPins.1 pm_rU lf 120 [(0, .ref 124), (1, .int a1), (3, .int a3)] [] (s, l, x, y) a := by
  intro a1 a3 s l x y a h
  exact pm_run ((pq_X12_readPins_120 fu k2 a1 a3 s l x y).symm.trans h) (pz_X12_readPins hT) (pm_bks_ok pb_X12_readPins) (pm_bks_ok pb_X12_readPins _ _ rfl) (pm_ndb_ok rfl) (pj_as_all (p := pm_Ex 2 12052 ie_X12_readPins.1 pm_rU lf a) (List.forall_mem_cons.mpr ⟨pu_X12_readPins_2 _ (fun c0 s l x y h => hk2 c0 s l x y _ h), (List.forall_mem_cons.mpr ⟨pu_X12_readPins_141 _ (fun c0 c1 c2 c3 c4 s l x y h => pg_X12_readPins_141 hT hk2 c0 c1 c2 c3 c4 s l x y _ h), (fun _ h => by cases h)⟩)⟩))
set_option maxRecDepth 100000 in
theorem pg_X12_readPins_107 {fu : Nat} {lf : pj_Z → mj_M} (hT : pj_Lt pj_TR lf) {k2 : Int32 → pj_F (Unit × pj_Z)} (hk2 : ∀ (a1 : Int32) (s : Nat → Int32) (l : Nat → Int64) (x : Nat → Int32) (y : Nat → Int64) (a : Unit × pj_Z), k2 a1 s l x y = some a → pm_Gd 2 12052 ie_X12_readPins.1 pm_rU lf 2 [(0, .ref 124), (1, .int a1)] [] (s, l, x, y) a) : ∀ (a1 : Int32) (b0 : Int32) (s : Nat → Int32) (l : Nat → Int64) (x : Nat → Int32) (y : Nat → Int64) (a : Unit × pj_Z), pl_X12_readPins_107 fu k2 a1 b0 s l x y = some a → pm_Gd 2 12052 ie_X12_readPins.1 pm_rU lf 107 [(0, .ref 124), (1, .int a1)] [.int b0] (s, l, x, y) a := by
  intro a1 b0 s l x y a h
  exact pm_run ((pq_X12_readPins_107 fu k2 a1 b0 s l x y).symm.trans h) (pz_X12_readPins hT) (pm_bks_ok pb_X12_readPins) (pm_bks_ok pb_X12_readPins _ _ rfl) (pm_ndb_ok rfl) (pj_as_all (p := pm_Ex 2 12052 ie_X12_readPins.1 pm_rU lf a) (List.forall_mem_cons.mpr ⟨pu_X12_readPins_2 _ (fun c0 s l x y h => hk2 c0 s l x y _ h), (List.forall_mem_cons.mpr ⟨pu_X12_readPins_120 _ (fun c0 c1 s l x y h => pg_X12_readPins_120 hT hk2 c0 c1 s l x y _ h), (fun _ h => by cases h)⟩)⟩))
set_option maxRecDepth 100000 in
theorem pg_X12_readPins_102 {fu : Nat} {lf : pj_Z → mj_M} (hT : pj_Lt pj_TR lf) {k2 : Int32 → pj_F (Unit × pj_Z)} (hk2 : ∀ (a1 : Int32) (s : Nat → Int32) (l : Nat → Int64) (x : Nat → Int32) (y : Nat → Int64) (a : Unit × pj_Z), k2 a1 s l x y = some a → pm_Gd 2 12052 ie_X12_readPins.1 pm_rU lf 2 [(0, .ref 124), (1, .int a1)] [] (s, l, x, y) a) : ∀ (a1 : Int32) (s : Nat → Int32) (l : Nat → Int64) (x : Nat → Int32) (y : Nat → Int64) (a : Unit × pj_Z), pl_X12_readPins_102 fu k2 a1 s l x y = some a → pm_Gd 2 12052 ie_X12_readPins.1 pm_rU lf 102 [(0, .ref 124), (1, .int a1)] [] (s, l, x, y) a := by
  intro a1 s l x y a h
  exact pm_run ((pq_X12_readPins_102 fu k2 a1 s l x y).symm.trans h) (pz_X12_readPins hT) (pm_bks_ok pb_X12_readPins) (pm_bks_ok pb_X12_readPins _ _ rfl) (pm_ndb_ok rfl) (pj_as_all (p := pm_Ex 2 12052 ie_X12_readPins.1 pm_rU lf a) (List.forall_mem_cons.mpr ⟨pu_X12_readPins_2 _ (fun c0 s l x y h => hk2 c0 s l x y _ h), (List.forall_mem_cons.mpr ⟨pu_X12_readPins_107 _ (fun c0 c1 s l x y h => pg_X12_readPins_107 hT hk2 c0 c1 s l x y _ h), (fun _ h => by cases h)⟩)⟩))
set_option maxRecDepth 100000 in
theorem pg_X12_readPins_106 {fu : Nat} {lf : pj_Z → mj_M} (hT : pj_Lt pj_TR lf) {k2 : Int32 → pj_F (Unit × pj_Z)} (hk2 : ∀ (a1 : Int32) (s : Nat → Int32) (l : Nat → Int64) (x : Nat → Int32) (y : Nat → Int64) (a : Unit × pj_Z), k2 a1 s l x y = some a → pm_Gd 2 12052 ie_X12_readPins.1 pm_rU lf 2 [(0, .ref 124), (1, .int a1)] [] (s, l, x, y) a) : ∀ (a1 : Int32) (s : Nat → Int32) (l : Nat → Int64) (x : Nat → Int32) (y : Nat → Int64) (a : Unit × pj_Z), pl_X12_readPins_106 fu k2 a1 s l x y = some a → pm_Gd 2 12052 ie_X12_readPins.1 pm_rU lf 106 [(0, .ref 124), (1, .int a1)] [] (s, l, x, y) a := by
  intro a1 s l x y a h
  exact pm_run ((pq_X12_readPins_106 fu k2 a1 s l x y).symm.trans h) (pz_X12_readPins hT) (pm_bks_ok pb_X12_readPins) (pm_bks_ok pb_X12_readPins _ _ rfl) (pm_ndb_ok rfl) (pj_as_all (p := pm_Ex 2 12052 ie_X12_readPins.1 pm_rU lf a) (List.forall_mem_cons.mpr ⟨pu_X12_readPins_2 _ (fun c0 s l x y h => hk2 c0 s l x y _ h), (List.forall_mem_cons.mpr ⟨pu_X12_readPins_107 _ (fun c0 c1 s l x y h => pg_X12_readPins_107 hT hk2 c0 c1 s l x y _ h), (fun _ h => by cases h)⟩)⟩))
set_option maxRecDepth 100000 in
theorem pg_X12_readPins_52 {fu : Nat} {lf : pj_Z → mj_M} (hT : pj_Lt pj_TR lf) {k2 : Int32 → pj_F (Unit × pj_Z)} (hk2 : ∀ (a1 : Int32) (s : Nat → Int32) (l : Nat → Int64) (x : Nat → Int32) (y : Nat → Int64) (a : Unit × pj_Z), k2 a1 s l x y = some a → pm_Gd 2 12052 ie_X12_readPins.1 pm_rU lf 2 [(0, .ref 124), (1, .int a1)] [] (s, l, x, y) a) : ∀ (a1 : Int32) (b0 : Int32) (s : Nat → Int32) (l : Nat → Int64) (x : Nat → Int32) (y : Nat → Int64) (a : Unit × pj_Z), pl_X12_readPins_52 fu k2 a1 b0 s l x y = some a → pm_Gd 2 12052 ie_X12_readPins.1 pm_rU lf 52 [(0, .ref 124), (1, .int a1)] [.int b0] (s, l, x, y) a := by
  intro a1 b0 s l x y a h
  exact pm_run ((pq_X12_readPins_52 fu k2 a1 b0 s l x y).symm.trans h) (pz_X12_readPins hT) (pm_bks_ok pb_X12_readPins) (pm_bks_ok pb_X12_readPins _ _ rfl) (pm_ndb_ok rfl) (pj_as_all (p := pm_Ex 2 12052 ie_X12_readPins.1 pm_rU lf a) (List.forall_mem_cons.mpr ⟨pu_X12_readPins_2 _ (fun c0 s l x y h => hk2 c0 s l x y _ h), (List.forall_mem_cons.mpr ⟨pu_X12_readPins_102 _ (fun c0 s l x y h => pg_X12_readPins_102 hT hk2 c0 s l x y _ h), (List.forall_mem_cons.mpr ⟨pu_X12_readPins_106 _ (fun c0 s l x y h => pg_X12_readPins_106 hT hk2 c0 s l x y _ h), (fun _ h => by cases h)⟩)⟩)⟩))
set_option maxRecDepth 100000 in
theorem pg_X12_readPins_2 {fu : Nat} {lf : pj_Z → mj_M} (hT : pj_Lt pj_TR lf) : ∀ (n : Nat), ∀ (a1 : Int32) (s : Nat → Int32) (l : Nat → Int64) (x : Nat → Int32) (y : Nat → Int64) (a : Unit × pj_Z), pl_X12_readPins_2 fu n a1 s l x y = some a → pm_Gd 2 12052 ie_X12_readPins.1 pm_rU lf 2 [(0, .ref 124), (1, .int a1)] [] (s, l, x, y) a := by
  intro n
  induction n with
  | zero => intro a1 s l x y a h; cases (show (none : Option (Unit × pj_Z)) = some a from h)
  | succ n ih =>
    intro a1 s l x y a h
    exact pm_run ((pq_X12_readPins_2 fu n a1 s l x y).symm.trans h) (pz_X12_readPins hT) (pm_bks_ok pb_X12_readPins) (pm_bks_ok pb_X12_readPins _ _ rfl) (pm_ndb_ok rfl) (pj_as_all (p := pm_Ex 2 12052 ie_X12_readPins.1 pm_rU lf a) (List.forall_mem_cons.mpr ⟨pu_X12_readPins_2 _ (fun c0 s l x y h => ih c0 s l x y _ h), (List.forall_mem_cons.mpr ⟨pu_X12_readPins_52 _ (fun c0 c1 s l x y h => pg_X12_readPins_52 hT (fun a1 s l x y a h => ih a1 s l x y a h) c0 c1 s l x y _ h), (fun _ h => by cases h)⟩)⟩))
set_option maxRecDepth 100000 in
theorem pm_X12_readPins {lf : pj_Z → mj_M} (hT : pj_Lt pj_TR lf)  (s : Nat → Int32) (l : Nat → Int64) (x : Nat → Int32) (y : Nat → Int64) (a : Unit × pj_Z) (h : pf_X12_readPins  s l x y = some a) : mj_R ic_P 3 12052 [.ref 124] (lf (s, l, x, y)) (pm_rU a.1) (lf a.2) := by
  refine pm_main (Y := ie_X12_readPins.1) rfl (Nat.le_of_ble_eq_true rfl) ?_
  exact pm_run ((pq_X12_readPins_m 1000  s l x y).symm.trans h) (pz_X12_readPins hT) (pm_bks_ok pb_X12_readPins) (pm_bks_ok pb_X12_readPins _ _ rfl) (pm_ndb_ok rfl) (pj_as_all (p := pm_Ex 2 12052 ie_X12_readPins.1 pm_rU lf a) (List.forall_mem_cons.mpr ⟨pu_X12_readPins_2 _ (fun c0 s l x y h => pg_X12_readPins_2 hT _ c0 s l x y _ h), (fun _ h => by cases h)⟩))
abbrev ph_X12_readPins {A : Type} : List pj_V → pj_Z → (List pj_V → pj_Z → Option A) → Option A := fun st z K => pj_pr st 124 0 fun st => pj_ps st (pj_b (pf_X12_readPins  z.1 z.2.1 z.2.2.1 z.2.2.2) fun r s l x y => K st (s, l, x, y))
set_option maxRecDepth 100000 in
theorem pc_X12_readPins {A : Type} {OK : A → Option Value → mj_M → Prop} {d j pc ix : Nat} {Y : mj_Y} {lf : pj_Z → mj_M} (hT : pj_Lt pj_TR lf) (hd : 3 ≤ d) (hl : mj_lk Y.2.2.2.2 pc = some (.invokevirtual ix, 3)) (hg : mj_pG ic_P j ix = some (12052, 0, some 12)) {lv : List (Nat × Value)} {st : List pj_V} {z : pj_Z} {K : List pj_V → pj_Z → Option A} {a : A} (hK : ∀ st z, K st z = some a → pj_Gd ic_P (mj_R ic_P d) j Y OK lf (pc + 3) lv (pj_es st) z a) (h : ph_X12_readPins st z K = some a) : pj_Gd ic_P (mj_R ic_P d) j Y OK lf pc lv (pj_es st) z a := by
  obtain ⟨r0, e0, h⟩ := pj_pr_inv h
  obtain ⟨hs, h⟩ := pj_ps_inv h
  obtain ⟨q, hq, h⟩ := pj_b_inv h
  exact pm_cv (o := 124) hl hg [] rfl (by rw [e0]; rfl) hs (by decide) ((hT.2 124 _ rfl).1.2 z 0 (by decide)) (pm_rU q.1) hd (pm_X12_readPins hT  z.1 z.2.1 z.2.2.1 z.2.2.2 q hq) rfl (hK _ _ h)
abbrev px_X12_apart : pj_C (Int32 × pj_Z) := ((fun _ => none), (fun _ => none), (fun _ => none), (fun _ => none), (fun _ => none), ic_X, 2, 1, pj_mI, (fun _ => none), fun _ => false)
abbrev pk_X12_apart : List (Nat × List (Nat × Instr × Nat)) := [(0, [(0, .iload_n 0, 1), (1, .iload_n 1, 1), (2, .if_icmp .le 9, 3)]), (5, [(5, .iload_n 0, 1), (6, .iload_n 1, 1), (7, .isub, 1), (8, .goto 6, 3)]), (11, [(11, .iload_n 1, 1), (12, .iload_n 0, 1), (13, .isub, 1)]), (14, [(14, .ireturn, 1)])]
set_option maxRecDepth 100000 in
theorem pq_X12_apart_m  (a0 : Int32) (a1 : Int32) (s : Nat → Int32) (l : Nat → Int64) (x : Nat → Int32) (y : Nat → Int64) : pf_X12_apart a0 a1 s l x y = pj_bl px_X12_apart (pj_rn px_X12_apart (pj_as pk_X12_apart) (fun _ => none) 60) [(0, .iload_n 0, 1), (1, .iload_n 1, 1), (2, .if_icmp .le 9, 3)] 0 [(0, pj_I a0), (1, pj_I a1)] [] (s, l, x, y) := rfl
set_option maxRecDepth 100000 in
theorem pz_X12_apart {lf : pj_Z → mj_M} (hT : pj_Lt pj_TR lf) : pj_Cok ic_P (mj_R ic_P 0) 12053 ie_X12_apart.1 (pm_OK lf pm_rI) lf px_X12_apart := by
  exact pm_cok (c := px_X12_apart) (pm_none hT) (fun _ _ h => by cases h) (fun _ _ h => by cases h) (fun _ _ h => by cases h) (fun _ _ h => by cases h) rfl rfl ⟨by decide, rfl⟩ pm_mI (fun _ _ h => by cases h) (fun _ h => by cases h)
set_option maxRecDepth 100000 in
theorem pb_X12_apart : pm_bks ie_X12_apart.1.2.2.2.2 pk_X12_apart = true := by decide +kernel
set_option maxRecDepth 100000 in
theorem pm_X12_apart {lf : pj_Z → mj_M} (hT : pj_Lt pj_TR lf) (a0 : Int32) (a1 : Int32) (s : Nat → Int32) (l : Nat → Int64) (x : Nat → Int32) (y : Nat → Int64) (a : Int32 × pj_Z) (h : pf_X12_apart a0 a1 s l x y = some a) : mj_R ic_P 1 12053 [.int a0, .int a1] (lf (s, l, x, y)) (pm_rI a.1) (lf a.2) := by
  refine pm_main (Y := ie_X12_apart.1) rfl (Nat.le_of_ble_eq_true rfl) ?_
  exact pm_run ((pq_X12_apart_m a0 a1 s l x y).symm.trans h) (pz_X12_apart hT) (pm_bks_ok pb_X12_apart) (pm_bks_ok pb_X12_apart _ _ rfl) (pm_ndb_ok rfl) (fun _ _ h => by cases h)
abbrev ph_X12_apart {A : Type} : List pj_V → pj_Z → (List pj_V → pj_Z → Option A) → Option A := fun st z K => pj_pi st fun a1 st => pj_pi st fun a0 st => pj_ps st (pj_b (pf_X12_apart a0 a1 z.1 z.2.1 z.2.2.1 z.2.2.2) fun r s l x y => K (pj_I r :: st) (s, l, x, y))
set_option maxRecDepth 100000 in
theorem pc_X12_apart {A : Type} {OK : A → Option Value → mj_M → Prop} {d j pc ix : Nat} {Y : mj_Y} {lf : pj_Z → mj_M} (hT : pj_Lt pj_TR lf) (hd : 1 ≤ d) (hl : mj_lk Y.2.2.2.2 pc = some (.invokestatic ix, 3)) (hg : mj_pG ic_P j ix = some (12053, 2, none)) {lv : List (Nat × Value)} {st : List pj_V} {z : pj_Z} {K : List pj_V → pj_Z → Option A} {a : A} (hK : ∀ st z, K st z = some a → pj_Gd ic_P (mj_R ic_P d) j Y OK lf (pc + 3) lv (pj_es st) z a) (h : ph_X12_apart st z K = some a) : pj_Gd ic_P (mj_R ic_P d) j Y OK lf pc lv (pj_es st) z a := by
  obtain ⟨a1, r1, e1, h⟩ := pj_pi_inv h
  obtain ⟨a0, r0, e0, h⟩ := pj_pi_inv h
  obtain ⟨hs, h⟩ := pj_ps_inv h
  obtain ⟨q, hq, h⟩ := pj_b_inv h
  exact pm_cs hl hg [.int a0, .int a1] rfl (by rw [e1, e0]; rfl) hs (pm_rI q.1) hd (pm_X12_apart hT a0 a1 z.1 z.2.1 z.2.2.1 z.2.2.2 q hq) rfl (hK _ _ h)
abbrev pe_X12_readPedal_48 (f : Int32 → Int32 → pj_F (Unit × pj_Z)) : pj_K (Unit × pj_Z) := fun lv st z => pj_xr lv 0 124 0 <| pj_pi st fun b2 st => pj_pi st fun b1 st => pj_pr st 124 0 fun st => pj_pe st (f b1 b2 z.1 z.2.1 z.2.2.1 z.2.2.2)
abbrev pe_X12_readPedal_92 (f : Int32 → pj_F (Unit × pj_Z)) : pj_K (Unit × pj_Z) := fun lv st z => pj_xr lv 0 124 0 <| pj_pi st fun b1 st => pj_pr st 124 0 fun st => pj_pe st (f b1 z.1 z.2.1 z.2.2.1 z.2.2.2)
abbrev pe_X12_readPedal_98 (f : pj_F (Unit × pj_Z)) : pj_K (Unit × pj_Z) := fun lv st z => pj_xr lv 0 124 0 <| pj_pe st (f  z.1 z.2.1 z.2.2.1 z.2.2.2)
abbrev pe_X12_readPedal_121 (f : pj_F (Unit × pj_Z)) : pj_K (Unit × pj_Z) := fun lv st z => pj_xr lv 0 124 0 <| pj_pr st 124 0 fun st => pj_pe st (f  z.1 z.2.1 z.2.2.1 z.2.2.2)
abbrev pe_X12_readPedal_145 (f : Int32 → pj_F (Unit × pj_Z)) : pj_K (Unit × pj_Z) := fun lv st z => pj_xr lv 0 124 0 <| pj_pi st fun b1 st => pj_pr st 124 0 fun st => pj_pe st (f b1 z.1 z.2.1 z.2.2.1 z.2.2.2)
abbrev pe_X12_readPedal_148 (f : pj_F (Unit × pj_Z)) : pj_K (Unit × pj_Z) := fun lv st z => pj_xr lv 0 124 0 <| pj_pe st (f  z.1 z.2.1 z.2.2.1 z.2.2.2)
abbrev pe_X12_readPedal_196 (f : Int32 → Int32 → pj_F (Unit × pj_Z)) : pj_K (Unit × pj_Z) := fun lv st z => pj_xr lv 0 124 0 <| pj_pi st fun b2 st => pj_pi st fun b1 st => pj_pr st 124 0 fun st => pj_pe st (f b1 b2 z.1 z.2.1 z.2.2.1 z.2.2.2)
abbrev pe_X12_readPedal_209 (f : pj_F (Unit × pj_Z)) : pj_K (Unit × pj_Z) := fun lv st z => pj_xr lv 0 124 0 <| pj_pe st (f  z.1 z.2.1 z.2.2.1 z.2.2.2)
abbrev pe_X12_readPedal_253 (f : Int32 → Int32 → pj_F (Unit × pj_Z)) : pj_K (Unit × pj_Z) := fun lv st z => pj_xr lv 0 124 0 <| pj_xi lv 1 fun a1 => pj_pi st fun b1 st => pj_pr st 124 0 fun st => pj_pe st (f a1 b1 z.1 z.2.1 z.2.2.1 z.2.2.2)
abbrev pe_X12_readPedal_291 (f : Int32 → pj_F (Unit × pj_Z)) : pj_K (Unit × pj_Z) := fun lv st z => pj_xr lv 0 124 0 <| pj_xi lv 1 fun a1 => pj_pr st 124 0 fun st => pj_pe st (f a1 z.1 z.2.1 z.2.2.1 z.2.2.2)
abbrev pe_X12_readPedal_295 (f : Int32 → pj_F (Unit × pj_Z)) : pj_K (Unit × pj_Z) := fun lv st z => pj_xr lv 0 124 0 <| pj_xi lv 1 fun a1 => pj_pr st 124 0 fun st => pj_pe st (f a1 z.1 z.2.1 z.2.2.1 z.2.2.2)
abbrev pe_X12_readPedal_296 (f : Int32 → Int32 → pj_F (Unit × pj_Z)) : pj_K (Unit × pj_Z) := fun lv st z => pj_xr lv 0 124 0 <| pj_xi lv 1 fun a1 => pj_pi st fun b1 st => pj_pr st 124 0 fun st => pj_pe st (f a1 b1 z.1 z.2.1 z.2.2.1 z.2.2.2)
abbrev pe_X12_readPedal_356 (f : Int32 → pj_F (Unit × pj_Z)) : pj_K (Unit × pj_Z) := fun lv st z => pj_xr lv 0 124 0 <| pj_pi st fun b0 st => pj_pe st (f b0 z.1 z.2.1 z.2.2.1 z.2.2.2)
abbrev pe_X12_readPedal_374 (f : Int32 → pj_F (Unit × pj_Z)) : pj_K (Unit × pj_Z) := fun lv st z => pj_pi st fun b1 st => pj_pr st 124 0 fun st => pj_pe st (f b1 z.1 z.2.1 z.2.2.1 z.2.2.2)
abbrev pe_X12_readPedal_380 (f : pj_F (Unit × pj_Z)) : pj_K (Unit × pj_Z) := fun lv st z => pj_xr lv 0 124 0 <| pj_pe st (f  z.1 z.2.1 z.2.2.1 z.2.2.2)
abbrev pe_X12_readPedal_406 (f : Int32 → pj_F (Unit × pj_Z)) : pj_K (Unit × pj_Z) := fun lv st z => pj_pi st fun b1 st => pj_pr st 124 0 fun st => pj_pe st (f b1 z.1 z.2.1 z.2.2.1 z.2.2.2)
abbrev px_X12_readPedal : pj_C (Unit × pj_Z) := ((pj_as [(124, 12, 195, 1, 0, true, 0, [(1, 1), (2, 125), (2, 126), (2, 127), (2, 128), (2, 129), (2, 130), (2, 131), (2, 132), (2, 133), (1, 2), (0, 44), (2, 134), (2, 135), (2, 136), (2, 137), (2, 138), (0, 69), (2, 139), (2, 140), (2, 141), (1, 3), (0, 93), (0, 94), (0, 45), (0, 46), (0, 48), (0, 49), (0, 47), (0, 50), (0, 51), (2, 142), (2, 143), (2, 144), (0, 19), (1, 4), (1, 5), (1, 6), (0, 20), (0, 21), (0, 22), (0, 23), (0, 24), (0, 25), (0, 27), (0, 28), (1, 7), (1, 8), (1, 9), (1, 10), (1, 11), (0, 26), (2, 145), (2, 146), (2, 147), (2, 148), (2, 149), (2, 150), (2, 151), (2, 152), (2, 153), (2, 154), (2, 155), (2, 156), (2, 157), (2, 158), (2, 159), (0, 57), (0, 58), (0, 59), (0, 60), (2, 160), (2, 161), (2, 162), (2, 163), (1, 12), (1, 13), (0, 95), (0, 73), (0, 74), (0, 71), (0, 72), (0, 75), (0, 76), (0, 77), (0, 80), (0, 78), (0, 79), (1, 14), (0, 29), (0, 30), (0, 31), (0, 34), (0, 35), (0, 32), (0, 33), (0, 36), (0, 37), (0, 38), (0, 39), (0, 40), (1, 15), (1, 16), (0, 43), (0, 41), (0, 42), (2, 164), (0, 96), (0, 89), (0, 90), (0, 91), (0, 92), (2, 165), (2, 166), (2, 167), (2, 168), (2, 169), (2, 170), (2, 171), (2, 172), (0, 87), (2, 173), (0, 88), (2, 174), (0, 62), (1, 17), (0, 66), (0, 63), (0, 64), (0, 65), (0, 67), (1, 18), (0, 68), (2, 175), (1, 19), (0, 52), (0, 53), (0, 54), (0, 55), (2, 176), (0, 56), (0, 85), (0, 86), (0, 81), (0, 82), (0, 83), (0, 84), (2, 177), (2, 178), (2, 179), (1, 20), (2, 180), (0, 6), (0, 7), (0, 8), (0, 16), (0, 17), (0, 61), (0, 9), (0, 10), (1, 21), (1, 22), (0, 11), (0, 12), (0, 13), (0, 18), (0, 14), (0, 15), (2, 181), (0, 70), (1, 23), (2, 182), (2, 183), (0, 1), (1, 24), (2, 184), (2, 185), (1, 25), (0, 2), (2, 186), (2, 187), (1, 26), (2, 188), (2, 189), (1, 27), (1, 28), (2, 190), (2, 191), (1, 29), (0, 3), (2, 192), (0, 4), (0, 5), (1, 30), (2, 193)]), (127, 100, 24, 1, 0, true, 10000, []), (161, 100, 10, 1, 0, true, 34000, []), (163, 102, 10, 1, 0, true, 36000, [])]), (pj_as [(19, 12, 3, 2, true), (133, 12, 72, 2, true), (139, 12, 74, 2, true), (417, 12, 75, 1, false), (426, 12, 78, 0, false), (429, 12, 79, 0, false), (432, 12, 80, 0, false), (435, 12, 81, 0, false), (438, 12, 82, 0, false), (456, 12, 89, 3, false)]), (fun _ => none), (pj_as [(717, 20)]), (fun _ => none), ic_X, 4, 0, pj_mU, (pj_as [(35, ph_X12_apart), (54, ph_X12_cutTo), (183, ph_X12_apart), (202, ph_X12_cutTo)]), fun _ => false)
abbrev pk_X12_readPedal : List (Nat × List (Nat × Instr × Nat)) := [(0, [(0, .aload_n 0, 1), (1, .getfield 139, 3), (4, .iconst 0, 1), (5, .baload, 1), (6, .ifCond .ne 92, 3)]), (9, [(9, .aload_n 0, 1), (10, .getfield 139, 3), (13, .iconst 1, 1), (14, .baload, 1), (15, .ifCond .ne 83, 3)]), (18, [(18, .aload_n 0, 1), (19, .aload_n 0, 1), (20, .getfield 426, 3), (23, .aload_n 0, 1), (24, .getfield 133, 3), (27, .iconst 0, 1), (28, .iaload, 1), (29, .aload_n 0, 1), (30, .getfield 133, 3), (33, .iconst 1, 1), (34, .iaload, 1), (35, .invokestatic 714, 3), (38, .bipush 60, 2), (40, .if_icmp .le 7, 3)]), (43, [(43, .iconst 1, 1), (44, .goto 4, 3)]), (47, [(47, .iconst (-1), 1)]), (48, [(48, .iadd, 1), (49, .i2l, 1), (50, .lconst 0, 1), (51, .ldc2_w 717, 3), (54, .invokestatic 576, 3), (57, .l2i, 1), (58, .putfield 426, 3), (61, .aload_n 0, 1), (62, .aload_n 0, 1), (63, .getfield 133, 3), (66, .iconst 0, 1), (67, .iaload, 1), (68, .aload_n 0, 1), (69, .getfield 133, 3), (72, .iconst 1, 1), (73, .iaload, 1), (74, .if_icmp .ge 12, 3)]), (77, [(77, .aload_n 0, 1), (78, .getfield 133, 3), (81, .iconst 0, 1), (82, .iaload, 1), (83, .goto 9, 3)]), (86, [(86, .aload_n 0, 1), (87, .getfield 133, 3), (90, .iconst 1, 1), (91, .iaload, 1)]), (92, [(92, .putfield 432, 3), (95, .goto 53, 3)]), (98, [(98, .aload_n 0, 1), (99, .aload_n 0, 1), (100, .getfield 139, 3), (103, .iconst 0, 1), (104, .baload, 1), (105, .ifCond .eq 16, 3)]), (108, [(108, .aload_n 0, 1), (109, .getfield 139, 3), (112, .iconst 1, 1), (113, .baload, 1), (114, .ifCond .eq 7, 3)]), (117, [(117, .iconst 0, 1), (118, .goto 27, 3)]), (121, [(121, .aload_n 0, 1), (122, .getfield 139, 3), (125, .iconst 0, 1), (126, .baload, 1), (127, .ifCond .eq 12, 3)]), (130, [(130, .aload_n 0, 1), (131, .getfield 133, 3), (134, .iconst 1, 1), (135, .iaload, 1), (136, .goto 9, 3)]), (139, [(139, .aload_n 0, 1), (140, .getfield 133, 3), (143, .iconst 0, 1), (144, .iaload, 1)]), (145, [(145, .putfield 432, 3)]), (148, [(148, .aload_n 0, 1), (149, .getfield 139, 3), (152, .iconst 2, 1), (153, .baload, 1), (154, .ifCond .ne 55, 3)]), (157, [(157, .aload_n 0, 1), (158, .getfield 139, 3), (161, .iconst 3, 1), (162, .baload, 1), (163, .ifCond .ne 46, 3)]), (166, [(166, .aload_n 0, 1), (167, .aload_n 0, 1), (168, .getfield 429, 3), (171, .aload_n 0, 1), (172, .getfield 133, 3), (175, .iconst 2, 1), (176, .iaload, 1), (177, .aload_n 0, 1), (178, .getfield 133, 3), (181, .iconst 3, 1), (182, .iaload, 1), (183, .invokestatic 714, 3), (186, .bipush 60, 2), (188, .if_icmp .le 7, 3)]), (191, [(191, .iconst 1, 1), (192, .goto 4, 3)]), (195, [(195, .iconst (-1), 1)]), (196, [(196, .iadd, 1), (197, .i2l, 1), (198, .lconst 0, 1), (199, .ldc2_w 717, 3), (202, .invokestatic 576, 3), (205, .l2i, 1), (206, .putfield 429, 3)]), (209, [(209, .aload_n 0, 1), (210, .getfield 435, 3), (213, .istore_n 1, 1), (214, .aload_n 0, 1), (215, .aload_n 0, 1), (216, .getfield 139, 3), (219, .iconst 2, 1), (220, .baload, 1), (221, .ifCond .ne 12, 3)]), (224, [(224, .aload_n 0, 1), (225, .getfield 133, 3), (228, .iconst 2, 1), (229, .iaload, 1), (230, .goto 23, 3)]), (233, [(233, .aload_n 0, 1), (234, .getfield 139, 3), (237, .iconst 3, 1), (238, .baload, 1), (239, .ifCond .ne 12, 3)]), (242, [(242, .aload_n 0, 1), (243, .getfield 133, 3), (246, .iconst 3, 1), (247, .iaload, 1), (248, .goto 5, 3)]), (251, [(251, .bipush 60, 2)]), (253, [(253, .putfield 435, 3), (256, .aload_n 0, 1), (257, .aload_n 0, 1), (258, .getfield 456, 3), (261, .ifCond .ne 30, 3)]), (264, [(264, .aload_n 0, 1), (265, .getfield 429, 3), (268, .bipush 10, 2), (270, .if_icmp .ge 21, 3)]), (273, [(273, .aload_n 0, 1), (274, .getfield 139, 3), (277, .iconst 2, 1), (278, .baload, 1), (279, .ifCond .eq 16, 3)]), (282, [(282, .aload_n 0, 1), (283, .getfield 139, 3), (286, .iconst 3, 1), (287, .baload, 1), (288, .ifCond .eq 7, 3)]), (291, [(291, .iconst 1, 1), (292, .goto 4, 3)]), (295, [(295, .iconst 0, 1)]), (296, [(296, .putfield 456, 3), (299, .aload_n 0, 1), (300, .getfield 435, 3), (303, .iload_n 1, 1), (304, .isub, 1), (305, .istore_n 2, 1), (306, .aload_n 0, 1), (307, .getfield 417, 3), (310, .lconst 1, 1), (311, .lcmp, 1), (312, .ifCond .le 68, 3)]), (315, [(315, .iload_n 2, 1), (316, .aload_n 0, 1), (317, .getfield 19, 3), (320, .bipush 10, 2), (322, .iaload, 1), (323, .if_icmp .le 57, 3)]), (326, [(326, .iload_n 2, 1), (327, .aload_n 0, 1), (328, .getfield 19, 3), (331, .bipush 11, 2), (333, .iaload, 1), (334, .imul, 1), (335, .sipush 500, 3), (338, .if_icmp .le 9, 3)]), (341, [(341, .sipush 500, 3), (344, .goto 12, 3)]), (347, [(347, .iload_n 2, 1), (348, .aload_n 0, 1), (349, .getfield 19, 3), (352, .bipush 11, 2), (354, .iaload, 1), (355, .imul, 1)]), (356, [(356, .istore_n 3, 1), (357, .aload_n 0, 1), (358, .iload_n 3, 1), (359, .aload_n 0, 1), (360, .getfield 438, 3), (363, .if_icmp .le 7, 3)]), (366, [(366, .iload_n 3, 1), (367, .goto 7, 3)]), (370, [(370, .aload_n 0, 1), (371, .getfield 438, 3)]), (374, [(374, .putfield 438, 3), (377, .goto 32, 3)]), (380, [(380, .aload_n 0, 1), (381, .aload_n 0, 1), (382, .getfield 438, 3), (385, .ifCond .le 20, 3)]), (388, [(388, .aload_n 0, 1), (389, .getfield 438, 3), (392, .aload_n 0, 1), (393, .getfield 438, 3), (396, .bipush 8, 2), (398, .idiv, 1), (399, .isub, 1), (400, .iconst 1, 1), (401, .isub, 1), (402, .goto 4, 3)]), (405, [(405, .iconst 0, 1)]), (406, [(406, .putfield 438, 3)]), (409, [(409, .return_, 1)])]
set_option maxRecDepth 100000 in
theorem pq_X12_readPedal_374  (b1 : Int32) (s : Nat → Int32) (l : Nat → Int64) (x : Nat → Int32) (y : Nat → Int64) : pl_X12_readPedal_374 b1 s l x y = pj_bl px_X12_readPedal (pj_rn px_X12_readPedal (pj_as pk_X12_readPedal) (fun _ => none) 60) [(374, .putfield 438, 3), (377, .goto 32, 3)] 374 [] [pj_I b1, pj_O (124, 0)] (s, l, x, y) := rfl
set_option maxRecDepth 100000 in
theorem pq_X12_readPedal_356  (b0 : Int32) (s : Nat → Int32) (l : Nat → Int64) (x : Nat → Int32) (y : Nat → Int64) : pl_X12_readPedal_356 b0 s l x y = pj_bl px_X12_readPedal (pj_rn px_X12_readPedal (pj_as pk_X12_readPedal) (pj_as [(374, pe_X12_readPedal_374 (pl_X12_readPedal_374))]) 60) [(356, .istore_n 3, 1), (357, .aload_n 0, 1), (358, .iload_n 3, 1), (359, .aload_n 0, 1), (360, .getfield 438, 3), (363, .if_icmp .le 7, 3)] 356 [(0, pj_O (124, 0))] [pj_I b0] (s, l, x, y) := rfl
set_option maxRecDepth 100000 in
theorem pq_X12_readPedal_406  (b1 : Int32) (s : Nat → Int32) (l : Nat → Int64) (x : Nat → Int32) (y : Nat → Int64) : pl_X12_readPedal_406 b1 s l x y = pj_bl px_X12_readPedal (pj_rn px_X12_readPedal (pj_as pk_X12_readPedal) (fun _ => none) 60) [(406, .putfield 438, 3)] 406 [] [pj_I b1, pj_O (124, 0)] (s, l, x, y) := rfl
set_option maxRecDepth 100000 in
theorem pq_X12_readPedal_380   (s : Nat → Int32) (l : Nat → Int64) (x : Nat → Int32) (y : Nat → Int64) : pl_X12_readPedal_380 s l x y = pj_bl px_X12_readPedal (pj_rn px_X12_readPedal (pj_as pk_X12_readPedal) (pj_as [(406, pe_X12_readPedal_406 (pl_X12_readPedal_406))]) 60) [(380, .aload_n 0, 1), (381, .aload_n 0, 1), (382, .getfield 438, 3), (385, .ifCond .le 20, 3)] 380 [(0, pj_O (124, 0))] [] (s, l, x, y) := rfl
set_option maxRecDepth 100000 in
theorem pq_X12_readPedal_296  (a1 : Int32) (b1 : Int32) (s : Nat → Int32) (l : Nat → Int64) (x : Nat → Int32) (y : Nat → Int64) : pl_X12_readPedal_296 a1 b1 s l x y = pj_bl px_X12_readPedal (pj_rn px_X12_readPedal (pj_as pk_X12_readPedal) (pj_as [(356, pe_X12_readPedal_356 (pl_X12_readPedal_356)), (380, pe_X12_readPedal_380 (pl_X12_readPedal_380))]) 60) [(296, .putfield 456, 3), (299, .aload_n 0, 1), (300, .getfield 435, 3), (303, .iload_n 1, 1), (304, .isub, 1), (305, .istore_n 2, 1), (306, .aload_n 0, 1), (307, .getfield 417, 3), (310, .lconst 1, 1), (311, .lcmp, 1), (312, .ifCond .le 68, 3)] 296 [(0, pj_O (124, 0)), (1, pj_I a1)] [pj_I b1, pj_O (124, 0)] (s, l, x, y) := rfl
set_option maxRecDepth 100000 in
theorem pq_X12_readPedal_291  (a1 : Int32) (s : Nat → Int32) (l : Nat → Int64) (x : Nat → Int32) (y : Nat → Int64) : pl_X12_readPedal_291 a1 s l x y = pj_bl px_X12_readPedal (pj_rn px_X12_readPedal (pj_as pk_X12_readPedal) (pj_as [(296, pe_X12_readPedal_296 (pl_X12_readPedal_296))]) 60) [(291, .iconst 1, 1), (292, .goto 4, 3)] 291 [(0, pj_O (124, 0)), (1, pj_I a1)] [pj_O (124, 0)] (s, l, x, y) := rfl
set_option maxRecDepth 100000 in
theorem pq_X12_readPedal_295  (a1 : Int32) (s : Nat → Int32) (l : Nat → Int64) (x : Nat → Int32) (y : Nat → Int64) : pl_X12_readPedal_295 a1 s l x y = pj_bl px_X12_readPedal (pj_rn px_X12_readPedal (pj_as pk_X12_readPedal) (pj_as [(296, pe_X12_readPedal_296 (pl_X12_readPedal_296))]) 60) [(295, .iconst 0, 1)] 295 [(0, pj_O (124, 0)), (1, pj_I a1)] [pj_O (124, 0)] (s, l, x, y) := rfl
set_option maxRecDepth 100000 in
theorem pq_X12_readPedal_253  (a1 : Int32) (b1 : Int32) (s : Nat → Int32) (l : Nat → Int64) (x : Nat → Int32) (y : Nat → Int64) : pl_X12_readPedal_253 a1 b1 s l x y = pj_bl px_X12_readPedal (pj_rn px_X12_readPedal (pj_as pk_X12_readPedal) (pj_as [(291, pe_X12_readPedal_291 (pl_X12_readPedal_291)), (295, pe_X12_readPedal_295 (pl_X12_readPedal_295))]) 60) [(253, .putfield 435, 3), (256, .aload_n 0, 1), (257, .aload_n 0, 1), (258, .getfield 456, 3), (261, .ifCond .ne 30, 3)] 253 [(0, pj_O (124, 0)), (1, pj_I a1)] [pj_I b1, pj_O (124, 0)] (s, l, x, y) := rfl
set_option maxRecDepth 100000 in
theorem pq_X12_readPedal_209   (s : Nat → Int32) (l : Nat → Int64) (x : Nat → Int32) (y : Nat → Int64) : pl_X12_readPedal_209 s l x y = pj_bl px_X12_readPedal (pj_rn px_X12_readPedal (pj_as pk_X12_readPedal) (pj_as [(253, pe_X12_readPedal_253 (pl_X12_readPedal_253))]) 60) [(209, .aload_n 0, 1), (210, .getfield 435, 3), (213, .istore_n 1, 1), (214, .aload_n 0, 1), (215, .aload_n 0, 1), (216, .getfield 139, 3), (219, .iconst 2, 1), (220, .baload, 1), (221, .ifCond .ne 12, 3)] 209 [(0, pj_O (124, 0))] [] (s, l, x, y) := rfl
set_option maxRecDepth 100000 in
theorem pq_X12_readPedal_196  (b1 : Int32) (b2 : Int32) (s : Nat → Int32) (l : Nat → Int64) (x : Nat → Int32) (y : Nat → Int64) : pl_X12_readPedal_196 b1 b2 s l x y = pj_bl px_X12_readPedal (pj_rn px_X12_readPedal (pj_as pk_X12_readPedal) (pj_as [(209, pe_X12_readPedal_209 (pl_X12_readPedal_209))]) 60) [(196, .iadd, 1), (197, .i2l, 1), (198, .lconst 0, 1), (199, .ldc2_w 717, 3), (202, .invokestatic 576, 3), (205, .l2i, 1), (206, .putfield 429, 3)] 196 [(0, pj_O (124, 0))] [pj_I b2, pj_I b1, pj_O (124, 0)] (s, l, x, y) := rfl
set_option maxRecDepth 100000 in
theorem pq_X12_readPedal_148   (s : Nat → Int32) (l : Nat → Int64) (x : Nat → Int32) (y : Nat → Int64) : pl_X12_readPedal_148 s l x y = pj_bl px_X12_readPedal (pj_rn px_X12_readPedal (pj_as pk_X12_readPedal) (pj_as [(196, pe_X12_readPedal_196 (pl_X12_readPedal_196)), (209, pe_X12_readPedal_209 (pl_X12_readPedal_209))]) 60) [(148, .aload_n 0, 1), (149, .getfield 139, 3), (152, .iconst 2, 1), (153, .baload, 1), (154, .ifCond .ne 55, 3)] 148 [(0, pj_O (124, 0))] [] (s, l, x, y) := rfl
set_option maxRecDepth 100000 in
theorem pq_X12_readPedal_92  (b1 : Int32) (s : Nat → Int32) (l : Nat → Int64) (x : Nat → Int32) (y : Nat → Int64) : pl_X12_readPedal_92 b1 s l x y = pj_bl px_X12_readPedal (pj_rn px_X12_readPedal (pj_as pk_X12_readPedal) (pj_as [(148, pe_X12_readPedal_148 (pl_X12_readPedal_148))]) 60) [(92, .putfield 432, 3), (95, .goto 53, 3)] 92 [(0, pj_O (124, 0))] [pj_I b1, pj_O (124, 0)] (s, l, x, y) := rfl
set_option maxRecDepth 100000 in
theorem pq_X12_readPedal_48  (b1 : Int32) (b2 : Int32) (s : Nat → Int32) (l : Nat → Int64) (x : Nat → Int32) (y : Nat → Int64) : pl_X12_readPedal_48 b1 b2 s l x y = pj_bl px_X12_readPedal (pj_rn px_X12_readPedal (pj_as pk_X12_readPedal) (pj_as [(92, pe_X12_readPedal_92 (pl_X12_readPedal_92))]) 60) [(48, .iadd, 1), (49, .i2l, 1), (50, .lconst 0, 1), (51, .ldc2_w 717, 3), (54, .invokestatic 576, 3), (57, .l2i, 1), (58, .putfield 426, 3), (61, .aload_n 0, 1), (62, .aload_n 0, 1), (63, .getfield 133, 3), (66, .iconst 0, 1), (67, .iaload, 1), (68, .aload_n 0, 1), (69, .getfield 133, 3), (72, .iconst 1, 1), (73, .iaload, 1), (74, .if_icmp .ge 12, 3)] 48 [(0, pj_O (124, 0))] [pj_I b2, pj_I b1, pj_O (124, 0)] (s, l, x, y) := rfl
set_option maxRecDepth 100000 in
theorem pq_X12_readPedal_145  (b1 : Int32) (s : Nat → Int32) (l : Nat → Int64) (x : Nat → Int32) (y : Nat → Int64) : pl_X12_readPedal_145 b1 s l x y = pj_bl px_X12_readPedal (pj_rn px_X12_readPedal (pj_as pk_X12_readPedal) (pj_as [(148, pe_X12_readPedal_148 (pl_X12_readPedal_148))]) 60) [(145, .putfield 432, 3)] 145 [(0, pj_O (124, 0))] [pj_I b1, pj_O (124, 0)] (s, l, x, y) := rfl
set_option maxRecDepth 100000 in
theorem pq_X12_readPedal_121   (s : Nat → Int32) (l : Nat → Int64) (x : Nat → Int32) (y : Nat → Int64) : pl_X12_readPedal_121 s l x y = pj_bl px_X12_readPedal (pj_rn px_X12_readPedal (pj_as pk_X12_readPedal) (pj_as [(145, pe_X12_readPedal_145 (pl_X12_readPedal_145))]) 60) [(121, .aload_n 0, 1), (122, .getfield 139, 3), (125, .iconst 0, 1), (126, .baload, 1), (127, .ifCond .eq 12, 3)] 121 [(0, pj_O (124, 0))] [pj_O (124, 0)] (s, l, x, y) := rfl
set_option maxRecDepth 100000 in
theorem pq_X12_readPedal_98   (s : Nat → Int32) (l : Nat → Int64) (x : Nat → Int32) (y : Nat → Int64) : pl_X12_readPedal_98 s l x y = pj_bl px_X12_readPedal (pj_rn px_X12_readPedal (pj_as pk_X12_readPedal) (pj_as [(121, pe_X12_readPedal_121 (pl_X12_readPedal_121)), (145, pe_X12_readPedal_145 (pl_X12_readPedal_145))]) 60) [(98, .aload_n 0, 1), (99, .aload_n 0, 1), (100, .getfield 139, 3), (103, .iconst 0, 1), (104, .baload, 1), (105, .ifCond .eq 16, 3)] 98 [(0, pj_O (124, 0))] [] (s, l, x, y) := rfl
set_option maxRecDepth 100000 in
theorem pq_X12_readPedal_m   (s : Nat → Int32) (l : Nat → Int64) (x : Nat → Int32) (y : Nat → Int64) : pf_X12_readPedal  s l x y = pj_bl px_X12_readPedal (pj_rn px_X12_readPedal (pj_as pk_X12_readPedal) (pj_as [(48, pe_X12_readPedal_48 (pl_X12_readPedal_48)), (98, pe_X12_readPedal_98 (pl_X12_readPedal_98))]) 60) [(0, .aload_n 0, 1), (1, .getfield 139, 3), (4, .iconst 0, 1), (5, .baload, 1), (6, .ifCond .ne 92, 3)] 0 [(0, pj_O (124, 0))] [] (s, l, x, y) := rfl
theorem pu_X12_readPedal_48 {lf : pj_Z → mj_M} {a : Unit × pj_Z} (f : Int32 → Int32 → pj_F (Unit × pj_Z)) (hf : ∀ (b1 : Int32) (b2 : Int32) (s : Nat → Int32) (l : Nat → Int64) (x : Nat → Int32) (y : Nat → Int64), f b1 b2 s l x y = some a → pm_Gd 1 12054 ie_X12_readPedal.1 pm_rU lf 48 [(0, .ref 124)] [.int b2, .int b1, .ref 124] (s, l, x, y) a) : pm_Ex 1 12054 ie_X12_readPedal.1 pm_rU lf a 48 (pe_X12_readPedal_48 f) := by
  intro lv st z hd h
  obtain ⟨g0, h⟩ := pj_xr_inv h
  obtain ⟨b2, r2, e2, h⟩ := pj_pi_inv h
  obtain ⟨b1, r1, e1, h⟩ := pj_pi_inv h
  obtain ⟨r0, e0, h⟩ := pj_pr_inv h
  obtain ⟨e9, h⟩ := pj_pe_inv h
  rw [e2, e1, e0, e9]
  exact mj_wp_sub (mj_sub_cons g0 (mj_sub_nil hd)) (hf _ _ _ _ _ _ h)
theorem pu_X12_readPedal_92 {lf : pj_Z → mj_M} {a : Unit × pj_Z} (f : Int32 → pj_F (Unit × pj_Z)) (hf : ∀ (b1 : Int32) (s : Nat → Int32) (l : Nat → Int64) (x : Nat → Int32) (y : Nat → Int64), f b1 s l x y = some a → pm_Gd 1 12054 ie_X12_readPedal.1 pm_rU lf 92 [(0, .ref 124)] [.int b1, .ref 124] (s, l, x, y) a) : pm_Ex 1 12054 ie_X12_readPedal.1 pm_rU lf a 92 (pe_X12_readPedal_92 f) := by
  intro lv st z hd h
  obtain ⟨g0, h⟩ := pj_xr_inv h
  obtain ⟨b1, r1, e1, h⟩ := pj_pi_inv h
  obtain ⟨r0, e0, h⟩ := pj_pr_inv h
  obtain ⟨e9, h⟩ := pj_pe_inv h
  rw [e1, e0, e9]
  exact mj_wp_sub (mj_sub_cons g0 (mj_sub_nil hd)) (hf _ _ _ _ _ h)
theorem pu_X12_readPedal_98 {lf : pj_Z → mj_M} {a : Unit × pj_Z} (f : pj_F (Unit × pj_Z)) (hf : ∀  (s : Nat → Int32) (l : Nat → Int64) (x : Nat → Int32) (y : Nat → Int64), f  s l x y = some a → pm_Gd 1 12054 ie_X12_readPedal.1 pm_rU lf 98 [(0, .ref 124)] [] (s, l, x, y) a) : pm_Ex 1 12054 ie_X12_readPedal.1 pm_rU lf a 98 (pe_X12_readPedal_98 f) := by
  intro lv st z hd h
  obtain ⟨g0, h⟩ := pj_xr_inv h
  obtain ⟨e9, h⟩ := pj_pe_inv h
  rw [e9]
  exact mj_wp_sub (mj_sub_cons g0 (mj_sub_nil hd)) (hf  _ _ _ _ h)
theorem pu_X12_readPedal_121 {lf : pj_Z → mj_M} {a : Unit × pj_Z} (f : pj_F (Unit × pj_Z)) (hf : ∀  (s : Nat → Int32) (l : Nat → Int64) (x : Nat → Int32) (y : Nat → Int64), f  s l x y = some a → pm_Gd 1 12054 ie_X12_readPedal.1 pm_rU lf 121 [(0, .ref 124)] [.ref 124] (s, l, x, y) a) : pm_Ex 1 12054 ie_X12_readPedal.1 pm_rU lf a 121 (pe_X12_readPedal_121 f) := by
  intro lv st z hd h
  obtain ⟨g0, h⟩ := pj_xr_inv h
  obtain ⟨r0, e0, h⟩ := pj_pr_inv h
  obtain ⟨e9, h⟩ := pj_pe_inv h
  rw [e0, e9]
  exact mj_wp_sub (mj_sub_cons g0 (mj_sub_nil hd)) (hf  _ _ _ _ h)
theorem pu_X12_readPedal_145 {lf : pj_Z → mj_M} {a : Unit × pj_Z} (f : Int32 → pj_F (Unit × pj_Z)) (hf : ∀ (b1 : Int32) (s : Nat → Int32) (l : Nat → Int64) (x : Nat → Int32) (y : Nat → Int64), f b1 s l x y = some a → pm_Gd 1 12054 ie_X12_readPedal.1 pm_rU lf 145 [(0, .ref 124)] [.int b1, .ref 124] (s, l, x, y) a) : pm_Ex 1 12054 ie_X12_readPedal.1 pm_rU lf a 145 (pe_X12_readPedal_145 f) := by
  intro lv st z hd h
  obtain ⟨g0, h⟩ := pj_xr_inv h
  obtain ⟨b1, r1, e1, h⟩ := pj_pi_inv h
  obtain ⟨r0, e0, h⟩ := pj_pr_inv h
  obtain ⟨e9, h⟩ := pj_pe_inv h
  rw [e1, e0, e9]
  exact mj_wp_sub (mj_sub_cons g0 (mj_sub_nil hd)) (hf _ _ _ _ _ h)
theorem pu_X12_readPedal_148 {lf : pj_Z → mj_M} {a : Unit × pj_Z} (f : pj_F (Unit × pj_Z)) (hf : ∀  (s : Nat → Int32) (l : Nat → Int64) (x : Nat → Int32) (y : Nat → Int64), f  s l x y = some a → pm_Gd 1 12054 ie_X12_readPedal.1 pm_rU lf 148 [(0, .ref 124)] [] (s, l, x, y) a) : pm_Ex 1 12054 ie_X12_readPedal.1 pm_rU lf a 148 (pe_X12_readPedal_148 f) := by
  intro lv st z hd h
  obtain ⟨g0, h⟩ := pj_xr_inv h
  obtain ⟨e9, h⟩ := pj_pe_inv h
  rw [e9]
  exact mj_wp_sub (mj_sub_cons g0 (mj_sub_nil hd)) (hf  _ _ _ _ h)
theorem pu_X12_readPedal_196 {lf : pj_Z → mj_M} {a : Unit × pj_Z} (f : Int32 → Int32 → pj_F (Unit × pj_Z)) (hf : ∀ (b1 : Int32) (b2 : Int32) (s : Nat → Int32) (l : Nat → Int64) (x : Nat → Int32) (y : Nat → Int64), f b1 b2 s l x y = some a → pm_Gd 1 12054 ie_X12_readPedal.1 pm_rU lf 196 [(0, .ref 124)] [.int b2, .int b1, .ref 124] (s, l, x, y) a) : pm_Ex 1 12054 ie_X12_readPedal.1 pm_rU lf a 196 (pe_X12_readPedal_196 f) := by
  intro lv st z hd h
  obtain ⟨g0, h⟩ := pj_xr_inv h
  obtain ⟨b2, r2, e2, h⟩ := pj_pi_inv h
  obtain ⟨b1, r1, e1, h⟩ := pj_pi_inv h
  obtain ⟨r0, e0, h⟩ := pj_pr_inv h
  obtain ⟨e9, h⟩ := pj_pe_inv h
  rw [e2, e1, e0, e9]
  exact mj_wp_sub (mj_sub_cons g0 (mj_sub_nil hd)) (hf _ _ _ _ _ _ h)
theorem pu_X12_readPedal_209 {lf : pj_Z → mj_M} {a : Unit × pj_Z} (f : pj_F (Unit × pj_Z)) (hf : ∀  (s : Nat → Int32) (l : Nat → Int64) (x : Nat → Int32) (y : Nat → Int64), f  s l x y = some a → pm_Gd 1 12054 ie_X12_readPedal.1 pm_rU lf 209 [(0, .ref 124)] [] (s, l, x, y) a) : pm_Ex 1 12054 ie_X12_readPedal.1 pm_rU lf a 209 (pe_X12_readPedal_209 f) := by
  intro lv st z hd h
  obtain ⟨g0, h⟩ := pj_xr_inv h
  obtain ⟨e9, h⟩ := pj_pe_inv h
  rw [e9]
  exact mj_wp_sub (mj_sub_cons g0 (mj_sub_nil hd)) (hf  _ _ _ _ h)
theorem pu_X12_readPedal_253 {lf : pj_Z → mj_M} {a : Unit × pj_Z} (f : Int32 → Int32 → pj_F (Unit × pj_Z)) (hf : ∀ (a1 : Int32) (b1 : Int32) (s : Nat → Int32) (l : Nat → Int64) (x : Nat → Int32) (y : Nat → Int64), f a1 b1 s l x y = some a → pm_Gd 1 12054 ie_X12_readPedal.1 pm_rU lf 253 [(0, .ref 124), (1, .int a1)] [.int b1, .ref 124] (s, l, x, y) a) : pm_Ex 1 12054 ie_X12_readPedal.1 pm_rU lf a 253 (pe_X12_readPedal_253 f) := by
  intro lv st z hd h
  obtain ⟨g0, h⟩ := pj_xr_inv h
  obtain ⟨a1, g1, h⟩ := pj_xi_inv h
  obtain ⟨b1, r1, e1, h⟩ := pj_pi_inv h
  obtain ⟨r0, e0, h⟩ := pj_pr_inv h
  obtain ⟨e9, h⟩ := pj_pe_inv h
  rw [e1, e0, e9]
  exact mj_wp_sub (mj_sub_cons g0 (mj_sub_cons g1 (mj_sub_nil hd))) (hf _ _ _ _ _ _ h)
theorem pu_X12_readPedal_291 {lf : pj_Z → mj_M} {a : Unit × pj_Z} (f : Int32 → pj_F (Unit × pj_Z)) (hf : ∀ (a1 : Int32) (s : Nat → Int32) (l : Nat → Int64) (x : Nat → Int32) (y : Nat → Int64), f a1 s l x y = some a → pm_Gd 1 12054 ie_X12_readPedal.1 pm_rU lf 291 [(0, .ref 124), (1, .int a1)] [.ref 124] (s, l, x, y) a) : pm_Ex 1 12054 ie_X12_readPedal.1 pm_rU lf a 291 (pe_X12_readPedal_291 f) := by
  intro lv st z hd h
  obtain ⟨g0, h⟩ := pj_xr_inv h
  obtain ⟨a1, g1, h⟩ := pj_xi_inv h
  obtain ⟨r0, e0, h⟩ := pj_pr_inv h
  obtain ⟨e9, h⟩ := pj_pe_inv h
  rw [e0, e9]
  exact mj_wp_sub (mj_sub_cons g0 (mj_sub_cons g1 (mj_sub_nil hd))) (hf _ _ _ _ _ h)
theorem pu_X12_readPedal_295 {lf : pj_Z → mj_M} {a : Unit × pj_Z} (f : Int32 → pj_F (Unit × pj_Z)) (hf : ∀ (a1 : Int32) (s : Nat → Int32) (l : Nat → Int64) (x : Nat → Int32) (y : Nat → Int64), f a1 s l x y = some a → pm_Gd 1 12054 ie_X12_readPedal.1 pm_rU lf 295 [(0, .ref 124), (1, .int a1)] [.ref 124] (s, l, x, y) a) : pm_Ex 1 12054 ie_X12_readPedal.1 pm_rU lf a 295 (pe_X12_readPedal_295 f) := by
  intro lv st z hd h
  obtain ⟨g0, h⟩ := pj_xr_inv h
  obtain ⟨a1, g1, h⟩ := pj_xi_inv h
  obtain ⟨r0, e0, h⟩ := pj_pr_inv h
  obtain ⟨e9, h⟩ := pj_pe_inv h
  rw [e0, e9]
  exact mj_wp_sub (mj_sub_cons g0 (mj_sub_cons g1 (mj_sub_nil hd))) (hf _ _ _ _ _ h)
theorem pu_X12_readPedal_296 {lf : pj_Z → mj_M} {a : Unit × pj_Z} (f : Int32 → Int32 → pj_F (Unit × pj_Z)) (hf : ∀ (a1 : Int32) (b1 : Int32) (s : Nat → Int32) (l : Nat → Int64) (x : Nat → Int32) (y : Nat → Int64), f a1 b1 s l x y = some a → pm_Gd 1 12054 ie_X12_readPedal.1 pm_rU lf 296 [(0, .ref 124), (1, .int a1)] [.int b1, .ref 124] (s, l, x, y) a) : pm_Ex 1 12054 ie_X12_readPedal.1 pm_rU lf a 296 (pe_X12_readPedal_296 f) := by
  intro lv st z hd h
  obtain ⟨g0, h⟩ := pj_xr_inv h
  obtain ⟨a1, g1, h⟩ := pj_xi_inv h
  obtain ⟨b1, r1, e1, h⟩ := pj_pi_inv h
  obtain ⟨r0, e0, h⟩ := pj_pr_inv h
  obtain ⟨e9, h⟩ := pj_pe_inv h
  rw [e1, e0, e9]
  exact mj_wp_sub (mj_sub_cons g0 (mj_sub_cons g1 (mj_sub_nil hd))) (hf _ _ _ _ _ _ h)
theorem pu_X12_readPedal_356 {lf : pj_Z → mj_M} {a : Unit × pj_Z} (f : Int32 → pj_F (Unit × pj_Z)) (hf : ∀ (b0 : Int32) (s : Nat → Int32) (l : Nat → Int64) (x : Nat → Int32) (y : Nat → Int64), f b0 s l x y = some a → pm_Gd 1 12054 ie_X12_readPedal.1 pm_rU lf 356 [(0, .ref 124)] [.int b0] (s, l, x, y) a) : pm_Ex 1 12054 ie_X12_readPedal.1 pm_rU lf a 356 (pe_X12_readPedal_356 f) := by
  intro lv st z hd h
  obtain ⟨g0, h⟩ := pj_xr_inv h
  obtain ⟨b0, r0, e0, h⟩ := pj_pi_inv h
  obtain ⟨e9, h⟩ := pj_pe_inv h
  rw [e0, e9]
  exact mj_wp_sub (mj_sub_cons g0 (mj_sub_nil hd)) (hf _ _ _ _ _ h)
theorem pu_X12_readPedal_374 {lf : pj_Z → mj_M} {a : Unit × pj_Z} (f : Int32 → pj_F (Unit × pj_Z)) (hf : ∀ (b1 : Int32) (s : Nat → Int32) (l : Nat → Int64) (x : Nat → Int32) (y : Nat → Int64), f b1 s l x y = some a → pm_Gd 1 12054 ie_X12_readPedal.1 pm_rU lf 374 [] [.int b1, .ref 124] (s, l, x, y) a) : pm_Ex 1 12054 ie_X12_readPedal.1 pm_rU lf a 374 (pe_X12_readPedal_374 f) := by
  intro lv st z hd h
  obtain ⟨b1, r1, e1, h⟩ := pj_pi_inv h
  obtain ⟨r0, e0, h⟩ := pj_pr_inv h
  obtain ⟨e9, h⟩ := pj_pe_inv h
  rw [e1, e0, e9]
  exact mj_wp_sub (mj_sub_nil hd) (hf _ _ _ _ _ h)
theorem pu_X12_readPedal_380 {lf : pj_Z → mj_M} {a : Unit × pj_Z} (f : pj_F (Unit × pj_Z)) (hf : ∀  (s : Nat → Int32) (l : Nat → Int64) (x : Nat → Int32) (y : Nat → Int64), f  s l x y = some a → pm_Gd 1 12054 ie_X12_readPedal.1 pm_rU lf 380 [(0, .ref 124)] [] (s, l, x, y) a) : pm_Ex 1 12054 ie_X12_readPedal.1 pm_rU lf a 380 (pe_X12_readPedal_380 f) := by
  intro lv st z hd h
  obtain ⟨g0, h⟩ := pj_xr_inv h
  obtain ⟨e9, h⟩ := pj_pe_inv h
  rw [e9]
  exact mj_wp_sub (mj_sub_cons g0 (mj_sub_nil hd)) (hf  _ _ _ _ h)
theorem pu_X12_readPedal_406 {lf : pj_Z → mj_M} {a : Unit × pj_Z} (f : Int32 → pj_F (Unit × pj_Z)) (hf : ∀ (b1 : Int32) (s : Nat → Int32) (l : Nat → Int64) (x : Nat → Int32) (y : Nat → Int64), f b1 s l x y = some a → pm_Gd 1 12054 ie_X12_readPedal.1 pm_rU lf 406 [] [.int b1, .ref 124] (s, l, x, y) a) : pm_Ex 1 12054 ie_X12_readPedal.1 pm_rU lf a 406 (pe_X12_readPedal_406 f) := by
  intro lv st z hd h
  obtain ⟨b1, r1, e1, h⟩ := pj_pi_inv h
  obtain ⟨r0, e0, h⟩ := pj_pr_inv h
  obtain ⟨e9, h⟩ := pj_pe_inv h
  rw [e1, e0, e9]
  exact mj_wp_sub (mj_sub_nil hd) (hf _ _ _ _ _ h)
set_option maxRecDepth 100000 in
theorem pz_X12_readPedal {lf : pj_Z → mj_M} (hT : pj_Lt pj_TR lf) : pj_Cok ic_P (mj_R ic_P 1) 12054 ie_X12_readPedal.1 (pm_OK lf pm_rU) lf px_X12_readPedal := by
  exact pm_cok (c := px_X12_readPedal) (pm_part hT (pj_as_all (p := fun b e => pj_TR b = some e) (List.forall_mem_cons.mpr ⟨rfl, (List.forall_mem_cons.mpr ⟨rfl, (List.forall_mem_cons.mpr ⟨rfl, (List.forall_mem_cons.mpr ⟨rfl, (fun _ h => by cases h)⟩)⟩)⟩)⟩))) (pm_in_ok (L := [(19, 12, 3, 2, true), (133, 12, 72, 2, true), (139, 12, 74, 2, true), (417, 12, 75, 1, false), (426, 12, 78, 0, false), (429, 12, 79, 0, false), (432, 12, 80, 0, false), (435, 12, 81, 0, false), (438, 12, 82, 0, false), (456, 12, 89, 3, false)]) (f := mj_pF ic_P 12054) (by decide +kernel)) (fun _ _ h => by cases h) (pm_inL_ok (L := [(717, 20)]) (f := mj_pL ic_P 12054) (by decide +kernel)) (fun _ _ h => by cases h) rfl rfl ⟨by decide, rfl⟩ pm_mU (pj_as_all (p := pm_Cl 1 12054 ie_X12_readPedal.1 lf (pm_OK lf pm_rU)) (List.forall_mem_cons.mpr ⟨fun _ _ lv st z K a hK h => pc_X12_apart hT (by decide) (ix := 714) rfl rfl hK h, (List.forall_mem_cons.mpr ⟨fun _ _ lv st z K a hK h => pc_X12_cutTo hT (by decide) (ix := 576) rfl rfl hK h, (List.forall_mem_cons.mpr ⟨fun _ _ lv st z K a hK h => pc_X12_apart hT (by decide) (ix := 714) rfl rfl hK h, (List.forall_mem_cons.mpr ⟨fun _ _ lv st z K a hK h => pc_X12_cutTo hT (by decide) (ix := 576) rfl rfl hK h, (fun _ h => by cases h)⟩)⟩)⟩)⟩)) (fun _ h => by cases h)
set_option maxRecDepth 100000 in
theorem pb_X12_readPedal : pm_bks ie_X12_readPedal.1.2.2.2.2 pk_X12_readPedal = true := by decide +kernel
set_option maxRecDepth 100000 in
theorem pg_X12_readPedal_374 {lf : pj_Z → mj_M} (hT : pj_Lt pj_TR lf) : ∀ (b1 : Int32) (s : Nat → Int32) (l : Nat → Int64) (x : Nat → Int32) (y : Nat → Int64) (a : Unit × pj_Z), pl_X12_readPedal_374 b1 s l x y = some a → pm_Gd 1 12054 ie_X12_readPedal.1 pm_rU lf 374 [] [.int b1, .ref 124] (s, l, x, y) a := by
  intro b1 s l x y a h
  exact pm_run ((pq_X12_readPedal_374  b1 s l x y).symm.trans h) (pz_X12_readPedal hT) (pm_bks_ok pb_X12_readPedal) (pm_bks_ok pb_X12_readPedal _ _ rfl) (pm_ndb_ok rfl) (fun _ _ h => by cases h)
set_option maxRecDepth 100000 in
theorem pg_X12_readPedal_356 {lf : pj_Z → mj_M} (hT : pj_Lt pj_TR lf) : ∀ (b0 : Int32) (s : Nat → Int32) (l : Nat → Int64) (x : Nat → Int32) (y : Nat → Int64) (a : Unit × pj_Z), pl_X12_readPedal_356 b0 s l x y = some a → pm_Gd 1 12054 ie_X12_readPedal.1 pm_rU lf 356 [(0, .ref 124)] [.int b0] (s, l, x, y) a := by
  intro b0 s l x y a h
  exact pm_run ((pq_X12_readPedal_356  b0 s l x y).symm.trans h) (pz_X12_readPedal hT) (pm_bks_ok pb_X12_readPedal) (pm_bks_ok pb_X12_readPedal _ _ rfl) (pm_ndb_ok rfl) (pj_as_all (p := pm_Ex 1 12054 ie_X12_readPedal.1 pm_rU lf a) (List.forall_mem_cons.mpr ⟨pu_X12_readPedal_374 _ (fun c0 s l x y h => pg_X12_readPedal_374 hT c0 s l x y _ h), (fun _ h => by cases h)⟩))
set_option maxRecDepth 100000 in
theorem pg_X12_readPedal_406 {lf : pj_Z → mj_M} (hT : pj_Lt pj_TR lf) : ∀ (b1 : Int32) (s : Nat → Int32) (l : Nat → Int64) (x : Nat → Int32) (y : Nat → Int64) (a : Unit × pj_Z), pl_X12_readPedal_406 b1 s l x y = some a → pm_Gd 1 12054 ie_X12_readPedal.1 pm_rU lf 406 [] [.int b1, .ref 124] (s, l, x, y) a := by
  intro b1 s l x y a h
  exact pm_run ((pq_X12_readPedal_406  b1 s l x y).symm.trans h) (pz_X12_readPedal hT) (pm_bks_ok pb_X12_readPedal) (pm_bks_ok pb_X12_readPedal _ _ rfl) (pm_ndb_ok rfl) (fun _ _ h => by cases h)
set_option maxRecDepth 100000 in
theorem pg_X12_readPedal_380 {lf : pj_Z → mj_M} (hT : pj_Lt pj_TR lf) : ∀  (s : Nat → Int32) (l : Nat → Int64) (x : Nat → Int32) (y : Nat → Int64) (a : Unit × pj_Z), pl_X12_readPedal_380 s l x y = some a → pm_Gd 1 12054 ie_X12_readPedal.1 pm_rU lf 380 [(0, .ref 124)] [] (s, l, x, y) a := by
  intro  s l x y a h
  exact pm_run ((pq_X12_readPedal_380   s l x y).symm.trans h) (pz_X12_readPedal hT) (pm_bks_ok pb_X12_readPedal) (pm_bks_ok pb_X12_readPedal _ _ rfl) (pm_ndb_ok rfl) (pj_as_all (p := pm_Ex 1 12054 ie_X12_readPedal.1 pm_rU lf a) (List.forall_mem_cons.mpr ⟨pu_X12_readPedal_406 _ (fun c0 s l x y h => pg_X12_readPedal_406 hT c0 s l x y _ h), (fun _ h => by cases h)⟩))
set_option maxRecDepth 100000 in
theorem pg_X12_readPedal_296 {lf : pj_Z → mj_M} (hT : pj_Lt pj_TR lf) : ∀ (a1 : Int32) (b1 : Int32) (s : Nat → Int32) (l : Nat → Int64) (x : Nat → Int32) (y : Nat → Int64) (a : Unit × pj_Z), pl_X12_readPedal_296 a1 b1 s l x y = some a → pm_Gd 1 12054 ie_X12_readPedal.1 pm_rU lf 296 [(0, .ref 124), (1, .int a1)] [.int b1, .ref 124] (s, l, x, y) a := by
  intro a1 b1 s l x y a h
  exact pm_run ((pq_X12_readPedal_296  a1 b1 s l x y).symm.trans h) (pz_X12_readPedal hT) (pm_bks_ok pb_X12_readPedal) (pm_bks_ok pb_X12_readPedal _ _ rfl) (pm_ndb_ok rfl) (pj_as_all (p := pm_Ex 1 12054 ie_X12_readPedal.1 pm_rU lf a) (List.forall_mem_cons.mpr ⟨pu_X12_readPedal_356 _ (fun c0 s l x y h => pg_X12_readPedal_356 hT c0 s l x y _ h), (List.forall_mem_cons.mpr ⟨pu_X12_readPedal_380 _ (fun  s l x y h => pg_X12_readPedal_380 hT  s l x y _ h), (fun _ h => by cases h)⟩)⟩))
set_option maxRecDepth 100000 in
theorem pg_X12_readPedal_291 {lf : pj_Z → mj_M} (hT : pj_Lt pj_TR lf) : ∀ (a1 : Int32) (s : Nat → Int32) (l : Nat → Int64) (x : Nat → Int32) (y : Nat → Int64) (a : Unit × pj_Z), pl_X12_readPedal_291 a1 s l x y = some a → pm_Gd 1 12054 ie_X12_readPedal.1 pm_rU lf 291 [(0, .ref 124), (1, .int a1)] [.ref 124] (s, l, x, y) a := by
  intro a1 s l x y a h
  exact pm_run ((pq_X12_readPedal_291  a1 s l x y).symm.trans h) (pz_X12_readPedal hT) (pm_bks_ok pb_X12_readPedal) (pm_bks_ok pb_X12_readPedal _ _ rfl) (pm_ndb_ok rfl) (pj_as_all (p := pm_Ex 1 12054 ie_X12_readPedal.1 pm_rU lf a) (List.forall_mem_cons.mpr ⟨pu_X12_readPedal_296 _ (fun c0 c1 s l x y h => pg_X12_readPedal_296 hT c0 c1 s l x y _ h), (fun _ h => by cases h)⟩))
set_option maxRecDepth 100000 in
theorem pg_X12_readPedal_295 {lf : pj_Z → mj_M} (hT : pj_Lt pj_TR lf) : ∀ (a1 : Int32) (s : Nat → Int32) (l : Nat → Int64) (x : Nat → Int32) (y : Nat → Int64) (a : Unit × pj_Z), pl_X12_readPedal_295 a1 s l x y = some a → pm_Gd 1 12054 ie_X12_readPedal.1 pm_rU lf 295 [(0, .ref 124), (1, .int a1)] [.ref 124] (s, l, x, y) a := by
  intro a1 s l x y a h
  exact pm_run ((pq_X12_readPedal_295  a1 s l x y).symm.trans h) (pz_X12_readPedal hT) (pm_bks_ok pb_X12_readPedal) (pm_bks_ok pb_X12_readPedal _ _ rfl) (pm_ndb_ok rfl) (pj_as_all (p := pm_Ex 1 12054 ie_X12_readPedal.1 pm_rU lf a) (List.forall_mem_cons.mpr ⟨pu_X12_readPedal_296 _ (fun c0 c1 s l x y h => pg_X12_readPedal_296 hT c0 c1 s l x y _ h), (fun _ h => by cases h)⟩))
set_option maxRecDepth 100000 in
theorem pg_X12_readPedal_253 {lf : pj_Z → mj_M} (hT : pj_Lt pj_TR lf) : ∀ (a1 : Int32) (b1 : Int32) (s : Nat → Int32) (l : Nat → Int64) (x : Nat → Int32) (y : Nat → Int64) (a : Unit × pj_Z), pl_X12_readPedal_253 a1 b1 s l x y = some a → pm_Gd 1 12054 ie_X12_readPedal.1 pm_rU lf 253 [(0, .ref 124), (1, .int a1)] [.int b1, .ref 124] (s, l, x, y) a := by
  intro a1 b1 s l x y a h
  exact pm_run ((pq_X12_readPedal_253  a1 b1 s l x y).symm.trans h) (pz_X12_readPedal hT) (pm_bks_ok pb_X12_readPedal) (pm_bks_ok pb_X12_readPedal _ _ rfl) (pm_ndb_ok rfl) (pj_as_all (p := pm_Ex 1 12054 ie_X12_readPedal.1 pm_rU lf a) (List.forall_mem_cons.mpr ⟨pu_X12_readPedal_291 _ (fun c0 s l x y h => pg_X12_readPedal_291 hT c0 s l x y _ h), (List.forall_mem_cons.mpr ⟨pu_X12_readPedal_295 _ (fun c0 s l x y h => pg_X12_readPedal_295 hT c0 s l x y _ h), (fun _ h => by cases h)⟩)⟩))
set_option maxRecDepth 100000 in
theorem pg_X12_readPedal_209 {lf : pj_Z → mj_M} (hT : pj_Lt pj_TR lf) : ∀  (s : Nat → Int32) (l : Nat → Int64) (x : Nat → Int32) (y : Nat → Int64) (a : Unit × pj_Z), pl_X12_readPedal_209 s l x y = some a → pm_Gd 1 12054 ie_X12_readPedal.1 pm_rU lf 209 [(0, .ref 124)] [] (s, l, x, y) a := by
  intro  s l x y a h
  exact pm_run ((pq_X12_readPedal_209   s l x y).symm.trans h) (pz_X12_readPedal hT) (pm_bks_ok pb_X12_readPedal) (pm_bks_ok pb_X12_readPedal _ _ rfl) (pm_ndb_ok rfl) (pj_as_all (p := pm_Ex 1 12054 ie_X12_readPedal.1 pm_rU lf a) (List.forall_mem_cons.mpr ⟨pu_X12_readPedal_253 _ (fun c0 c1 s l x y h => pg_X12_readPedal_253 hT c0 c1 s l x y _ h), (fun _ h => by cases h)⟩))
set_option maxRecDepth 100000 in
theorem pg_X12_readPedal_196 {lf : pj_Z → mj_M} (hT : pj_Lt pj_TR lf) : ∀ (b1 : Int32) (b2 : Int32) (s : Nat → Int32) (l : Nat → Int64) (x : Nat → Int32) (y : Nat → Int64) (a : Unit × pj_Z), pl_X12_readPedal_196 b1 b2 s l x y = some a → pm_Gd 1 12054 ie_X12_readPedal.1 pm_rU lf 196 [(0, .ref 124)] [.int b2, .int b1, .ref 124] (s, l, x, y) a := by
  intro b1 b2 s l x y a h
  exact pm_run ((pq_X12_readPedal_196  b1 b2 s l x y).symm.trans h) (pz_X12_readPedal hT) (pm_bks_ok pb_X12_readPedal) (pm_bks_ok pb_X12_readPedal _ _ rfl) (pm_ndb_ok rfl) (pj_as_all (p := pm_Ex 1 12054 ie_X12_readPedal.1 pm_rU lf a) (List.forall_mem_cons.mpr ⟨pu_X12_readPedal_209 _ (fun  s l x y h => pg_X12_readPedal_209 hT  s l x y _ h), (fun _ h => by cases h)⟩))
set_option maxRecDepth 100000 in
theorem pg_X12_readPedal_148 {lf : pj_Z → mj_M} (hT : pj_Lt pj_TR lf) : ∀  (s : Nat → Int32) (l : Nat → Int64) (x : Nat → Int32) (y : Nat → Int64) (a : Unit × pj_Z), pl_X12_readPedal_148 s l x y = some a → pm_Gd 1 12054 ie_X12_readPedal.1 pm_rU lf 148 [(0, .ref 124)] [] (s, l, x, y) a := by
  intro  s l x y a h
  exact pm_run ((pq_X12_readPedal_148   s l x y).symm.trans h) (pz_X12_readPedal hT) (pm_bks_ok pb_X12_readPedal) (pm_bks_ok pb_X12_readPedal _ _ rfl) (pm_ndb_ok rfl) (pj_as_all (p := pm_Ex 1 12054 ie_X12_readPedal.1 pm_rU lf a) (List.forall_mem_cons.mpr ⟨pu_X12_readPedal_196 _ (fun c0 c1 s l x y h => pg_X12_readPedal_196 hT c0 c1 s l x y _ h), (List.forall_mem_cons.mpr ⟨pu_X12_readPedal_209 _ (fun  s l x y h => pg_X12_readPedal_209 hT  s l x y _ h), (fun _ h => by cases h)⟩)⟩))
set_option maxRecDepth 100000 in
theorem pg_X12_readPedal_92 {lf : pj_Z → mj_M} (hT : pj_Lt pj_TR lf) : ∀ (b1 : Int32) (s : Nat → Int32) (l : Nat → Int64) (x : Nat → Int32) (y : Nat → Int64) (a : Unit × pj_Z), pl_X12_readPedal_92 b1 s l x y = some a → pm_Gd 1 12054 ie_X12_readPedal.1 pm_rU lf 92 [(0, .ref 124)] [.int b1, .ref 124] (s, l, x, y) a := by
  intro b1 s l x y a h
  exact pm_run ((pq_X12_readPedal_92  b1 s l x y).symm.trans h) (pz_X12_readPedal hT) (pm_bks_ok pb_X12_readPedal) (pm_bks_ok pb_X12_readPedal _ _ rfl) (pm_ndb_ok rfl) (pj_as_all (p := pm_Ex 1 12054 ie_X12_readPedal.1 pm_rU lf a) (List.forall_mem_cons.mpr ⟨pu_X12_readPedal_148 _ (fun  s l x y h => pg_X12_readPedal_148 hT  s l x y _ h), (fun _ h => by cases h)⟩))
set_option maxRecDepth 100000 in
theorem pg_X12_readPedal_48 {lf : pj_Z → mj_M} (hT : pj_Lt pj_TR lf) : ∀ (b1 : Int32) (b2 : Int32) (s : Nat → Int32) (l : Nat → Int64) (x : Nat → Int32) (y : Nat → Int64) (a : Unit × pj_Z), pl_X12_readPedal_48 b1 b2 s l x y = some a → pm_Gd 1 12054 ie_X12_readPedal.1 pm_rU lf 48 [(0, .ref 124)] [.int b2, .int b1, .ref 124] (s, l, x, y) a := by
  intro b1 b2 s l x y a h
  exact pm_run ((pq_X12_readPedal_48  b1 b2 s l x y).symm.trans h) (pz_X12_readPedal hT) (pm_bks_ok pb_X12_readPedal) (pm_bks_ok pb_X12_readPedal _ _ rfl) (pm_ndb_ok rfl) (pj_as_all (p := pm_Ex 1 12054 ie_X12_readPedal.1 pm_rU lf a) (List.forall_mem_cons.mpr ⟨pu_X12_readPedal_92 _ (fun c0 s l x y h => pg_X12_readPedal_92 hT c0 s l x y _ h), (fun _ h => by cases h)⟩))
set_option maxRecDepth 100000 in
theorem pg_X12_readPedal_145 {lf : pj_Z → mj_M} (hT : pj_Lt pj_TR lf) : ∀ (b1 : Int32) (s : Nat → Int32) (l : Nat → Int64) (x : Nat → Int32) (y : Nat → Int64) (a : Unit × pj_Z), pl_X12_readPedal_145 b1 s l x y = some a → pm_Gd 1 12054 ie_X12_readPedal.1 pm_rU lf 145 [(0, .ref 124)] [.int b1, .ref 124] (s, l, x, y) a := by
  intro b1 s l x y a h
  exact pm_run ((pq_X12_readPedal_145  b1 s l x y).symm.trans h) (pz_X12_readPedal hT) (pm_bks_ok pb_X12_readPedal) (pm_bks_ok pb_X12_readPedal _ _ rfl) (pm_ndb_ok rfl) (pj_as_all (p := pm_Ex 1 12054 ie_X12_readPedal.1 pm_rU lf a) (List.forall_mem_cons.mpr ⟨pu_X12_readPedal_148 _ (fun  s l x y h => pg_X12_readPedal_148 hT  s l x y _ h), (fun _ h => by cases h)⟩))
set_option maxRecDepth 100000 in
theorem pg_X12_readPedal_121 {lf : pj_Z → mj_M} (hT : pj_Lt pj_TR lf) : ∀  (s : Nat → Int32) (l : Nat → Int64) (x : Nat → Int32) (y : Nat → Int64) (a : Unit × pj_Z), pl_X12_readPedal_121 s l x y = some a → pm_Gd 1 12054 ie_X12_readPedal.1 pm_rU lf 121 [(0, .ref 124)] [.ref 124] (s, l, x, y) a := by
  intro  s l x y a h
  exact pm_run ((pq_X12_readPedal_121   s l x y).symm.trans h) (pz_X12_readPedal hT) (pm_bks_ok pb_X12_readPedal) (pm_bks_ok pb_X12_readPedal _ _ rfl) (pm_ndb_ok rfl) (pj_as_all (p := pm_Ex 1 12054 ie_X12_readPedal.1 pm_rU lf a) (List.forall_mem_cons.mpr ⟨pu_X12_readPedal_145 _ (fun c0 s l x y h => pg_X12_readPedal_145 hT c0 s l x y _ h), (fun _ h => by cases h)⟩))
set_option maxRecDepth 100000 in
theorem pg_X12_readPedal_98 {lf : pj_Z → mj_M} (hT : pj_Lt pj_TR lf) : ∀  (s : Nat → Int32) (l : Nat → Int64) (x : Nat → Int32) (y : Nat → Int64) (a : Unit × pj_Z), pl_X12_readPedal_98 s l x y = some a → pm_Gd 1 12054 ie_X12_readPedal.1 pm_rU lf 98 [(0, .ref 124)] [] (s, l, x, y) a := by
  intro  s l x y a h
  exact pm_run ((pq_X12_readPedal_98   s l x y).symm.trans h) (pz_X12_readPedal hT) (pm_bks_ok pb_X12_readPedal) (pm_bks_ok pb_X12_readPedal _ _ rfl) (pm_ndb_ok rfl) (pj_as_all (p := pm_Ex 1 12054 ie_X12_readPedal.1 pm_rU lf a) (List.forall_mem_cons.mpr ⟨pu_X12_readPedal_121 _ (fun  s l x y h => pg_X12_readPedal_121 hT  s l x y _ h), (List.forall_mem_cons.mpr ⟨pu_X12_readPedal_145 _ (fun c0 s l x y h => pg_X12_readPedal_145 hT c0 s l x y _ h), (fun _ h => by cases h)⟩)⟩))
set_option maxRecDepth 100000 in
theorem pm_X12_readPedal {lf : pj_Z → mj_M} (hT : pj_Lt pj_TR lf)  (s : Nat → Int32) (l : Nat → Int64) (x : Nat → Int32) (y : Nat → Int64) (a : Unit × pj_Z) (h : pf_X12_readPedal  s l x y = some a) : mj_R ic_P 2 12054 [.ref 124] (lf (s, l, x, y)) (pm_rU a.1) (lf a.2) := by
  refine pm_main (Y := ie_X12_readPedal.1) rfl (Nat.le_of_ble_eq_true rfl) ?_
  exact pm_run ((pq_X12_readPedal_m  s l x y).symm.trans h) (pz_X12_readPedal hT) (pm_bks_ok pb_X12_readPedal) (pm_bks_ok pb_X12_readPedal _ _ rfl) (pm_ndb_ok rfl) (pj_as_all (p := pm_Ex 1 12054 ie_X12_readPedal.1 pm_rU lf a) (List.forall_mem_cons.mpr ⟨pu_X12_readPedal_48 _ (fun c0 c1 s l x y h => pg_X12_readPedal_48 hT c0 c1 s l x y _ h), (List.forall_mem_cons.mpr ⟨pu_X12_readPedal_98 _ (fun  s l x y h => pg_X12_readPedal_98 hT  s l x y _ h), (fun _ h => by cases h)⟩)⟩))
abbrev ph_X12_readPedal {A : Type} : List pj_V → pj_Z → (List pj_V → pj_Z → Option A) → Option A := fun st z K => pj_pr st 124 0 fun st => pj_ps st (pj_b (pf_X12_readPedal  z.1 z.2.1 z.2.2.1 z.2.2.2) fun r s l x y => K st (s, l, x, y))
set_option maxRecDepth 100000 in
theorem pc_X12_readPedal {A : Type} {OK : A → Option Value → mj_M → Prop} {d j pc ix : Nat} {Y : mj_Y} {lf : pj_Z → mj_M} (hT : pj_Lt pj_TR lf) (hd : 2 ≤ d) (hl : mj_lk Y.2.2.2.2 pc = some (.invokevirtual ix, 3)) (hg : mj_pG ic_P j ix = some (12054, 0, some 12)) {lv : List (Nat × Value)} {st : List pj_V} {z : pj_Z} {K : List pj_V → pj_Z → Option A} {a : A} (hK : ∀ st z, K st z = some a → pj_Gd ic_P (mj_R ic_P d) j Y OK lf (pc + 3) lv (pj_es st) z a) (h : ph_X12_readPedal st z K = some a) : pj_Gd ic_P (mj_R ic_P d) j Y OK lf pc lv (pj_es st) z a := by
  obtain ⟨r0, e0, h⟩ := pj_pr_inv h
  obtain ⟨hs, h⟩ := pj_ps_inv h
  obtain ⟨q, hq, h⟩ := pj_b_inv h
  exact pm_cv (o := 124) hl hg [] rfl (by rw [e0]; rfl) hs (by decide) ((hT.2 124 _ rfl).1.2 z 0 (by decide)) (pm_rU q.1) hd (pm_X12_readPedal hT  z.1 z.2.1 z.2.2.1 z.2.2.2 q hq) rfl (hK _ _ h)
abbrev px_X12_speed : pj_C (Int32 × pj_Z) := ((pj_as [(124, 12, 195, 1, 0, true, 0, [(1, 1), (2, 125), (2, 126), (2, 127), (2, 128), (2, 129), (2, 130), (2, 131), (2, 132), (2, 133), (1, 2), (0, 44), (2, 134), (2, 135), (2, 136), (2, 137), (2, 138), (0, 69), (2, 139), (2, 140), (2, 141), (1, 3), (0, 93), (0, 94), (0, 45), (0, 46), (0, 48), (0, 49), (0, 47), (0, 50), (0, 51), (2, 142), (2, 143), (2, 144), (0, 19), (1, 4), (1, 5), (1, 6), (0, 20), (0, 21), (0, 22), (0, 23), (0, 24), (0, 25), (0, 27), (0, 28), (1, 7), (1, 8), (1, 9), (1, 10), (1, 11), (0, 26), (2, 145), (2, 146), (2, 147), (2, 148), (2, 149), (2, 150), (2, 151), (2, 152), (2, 153), (2, 154), (2, 155), (2, 156), (2, 157), (2, 158), (2, 159), (0, 57), (0, 58), (0, 59), (0, 60), (2, 160), (2, 161), (2, 162), (2, 163), (1, 12), (1, 13), (0, 95), (0, 73), (0, 74), (0, 71), (0, 72), (0, 75), (0, 76), (0, 77), (0, 80), (0, 78), (0, 79), (1, 14), (0, 29), (0, 30), (0, 31), (0, 34), (0, 35), (0, 32), (0, 33), (0, 36), (0, 37), (0, 38), (0, 39), (0, 40), (1, 15), (1, 16), (0, 43), (0, 41), (0, 42), (2, 164), (0, 96), (0, 89), (0, 90), (0, 91), (0, 92), (2, 165), (2, 166), (2, 167), (2, 168), (2, 169), (2, 170), (2, 171), (2, 172), (0, 87), (2, 173), (0, 88), (2, 174), (0, 62), (1, 17), (0, 66), (0, 63), (0, 64), (0, 65), (0, 67), (1, 18), (0, 68), (2, 175), (1, 19), (0, 52), (0, 53), (0, 54), (0, 55), (2, 176), (0, 56), (0, 85), (0, 86), (0, 81), (0, 82), (0, 83), (0, 84), (2, 177), (2, 178), (2, 179), (1, 20), (2, 180), (0, 6), (0, 7), (0, 8), (0, 16), (0, 17), (0, 61), (0, 9), (0, 10), (1, 21), (1, 22), (0, 11), (0, 12), (0, 13), (0, 18), (0, 14), (0, 15), (2, 181), (0, 70), (1, 23), (2, 182), (2, 183), (0, 1), (1, 24), (2, 184), (2, 185), (1, 25), (0, 2), (2, 186), (2, 187), (1, 26), (2, 188), (2, 189), (1, 27), (1, 28), (2, 190), (2, 191), (1, 29), (0, 3), (2, 192), (0, 4), (0, 5), (1, 30), (2, 193)])]), (pj_as [(262, 12, 34, 0, false), (271, 12, 37, 1, false)]), (fun _ => none), (pj_as [(630, 1000000)]), (fun _ => none), ic_X, 1, 1, pj_mI, (fun _ => none), fun _ => false)
abbrev pk_X12_speed : List (Nat × List (Nat × Instr × Nat)) := [(0, [(0, .aload_n 0, 1), (1, .getfield 262, 3), (4, .iconst 2, 1), (5, .if_icmp .lt 15, 3)]), (8, [(8, .ldc2_w 630, 3), (11, .aload_n 0, 1), (12, .getfield 271, 3), (15, .ldiv, 1), (16, .l2i, 1), (17, .goto 4, 3)]), (20, [(20, .iconst 0, 1)]), (21, [(21, .ireturn, 1)])]
set_option maxRecDepth 100000 in
theorem pq_X12_speed_m   (s : Nat → Int32) (l : Nat → Int64) (x : Nat → Int32) (y : Nat → Int64) : pf_X12_speed  s l x y = pj_bl px_X12_speed (pj_rn px_X12_speed (pj_as pk_X12_speed) (fun _ => none) 60) [(0, .aload_n 0, 1), (1, .getfield 262, 3), (4, .iconst 2, 1), (5, .if_icmp .lt 15, 3)] 0 [(0, pj_O (124, 0))] [] (s, l, x, y) := rfl
set_option maxRecDepth 100000 in
theorem pz_X12_speed {lf : pj_Z → mj_M} (hT : pj_Lt pj_TR lf) : pj_Cok ic_P (mj_R ic_P 0) 12038 ie_X12_speed.1 (pm_OK lf pm_rI) lf px_X12_speed := by
  exact pm_cok (c := px_X12_speed) (pm_part hT (pj_as_all (p := fun b e => pj_TR b = some e) (List.forall_mem_cons.mpr ⟨rfl, (fun _ h => by cases h)⟩))) (pm_in_ok (L := [(262, 12, 34, 0, false), (271, 12, 37, 1, false)]) (f := mj_pF ic_P 12038) (by decide +kernel)) (fun _ _ h => by cases h) (pm_inL_ok (L := [(630, 1000000)]) (f := mj_pL ic_P 12038) (by decide +kernel)) (fun _ _ h => by cases h) rfl rfl ⟨by decide, rfl⟩ pm_mI (fun _ _ h => by cases h) (fun _ h => by cases h)
set_option maxRecDepth 100000 in
theorem pb_X12_speed : pm_bks ie_X12_speed.1.2.2.2.2 pk_X12_speed = true := by decide +kernel
set_option maxRecDepth 100000 in
theorem pm_X12_speed {lf : pj_Z → mj_M} (hT : pj_Lt pj_TR lf)  (s : Nat → Int32) (l : Nat → Int64) (x : Nat → Int32) (y : Nat → Int64) (a : Int32 × pj_Z) (h : pf_X12_speed  s l x y = some a) : mj_R ic_P 1 12038 [.ref 124] (lf (s, l, x, y)) (pm_rI a.1) (lf a.2) := by
  refine pm_main (Y := ie_X12_speed.1) rfl (Nat.le_of_ble_eq_true rfl) ?_
  exact pm_run ((pq_X12_speed_m  s l x y).symm.trans h) (pz_X12_speed hT) (pm_bks_ok pb_X12_speed) (pm_bks_ok pb_X12_speed _ _ rfl) (pm_ndb_ok rfl) (fun _ _ h => by cases h)
abbrev ph_X12_speed {A : Type} : List pj_V → pj_Z → (List pj_V → pj_Z → Option A) → Option A := fun st z K => pj_pr st 124 0 fun st => pj_ps st (pj_b (pf_X12_speed  z.1 z.2.1 z.2.2.1 z.2.2.2) fun r s l x y => K (pj_I r :: st) (s, l, x, y))
set_option maxRecDepth 100000 in
theorem pc_X12_speed {A : Type} {OK : A → Option Value → mj_M → Prop} {d j pc ix : Nat} {Y : mj_Y} {lf : pj_Z → mj_M} (hT : pj_Lt pj_TR lf) (hd : 1 ≤ d) (hl : mj_lk Y.2.2.2.2 pc = some (.invokevirtual ix, 3)) (hg : mj_pG ic_P j ix = some (12038, 0, some 12)) {lv : List (Nat × Value)} {st : List pj_V} {z : pj_Z} {K : List pj_V → pj_Z → Option A} {a : A} (hK : ∀ st z, K st z = some a → pj_Gd ic_P (mj_R ic_P d) j Y OK lf (pc + 3) lv (pj_es st) z a) (h : ph_X12_speed st z K = some a) : pj_Gd ic_P (mj_R ic_P d) j Y OK lf pc lv (pj_es st) z a := by
  obtain ⟨r0, e0, h⟩ := pj_pr_inv h
  obtain ⟨hs, h⟩ := pj_ps_inv h
  obtain ⟨q, hq, h⟩ := pj_b_inv h
  exact pm_cv (o := 124) hl hg [] rfl (by rw [e0]; rfl) hs (by decide) ((hT.2 124 _ rfl).1.2 z 0 (by decide)) (pm_rI q.1) hd (pm_X12_speed hT  z.1 z.2.1 z.2.2.1 z.2.2.2 q hq) rfl (hK _ _ h)

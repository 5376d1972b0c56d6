/-! METHODS 25, printed by gen_meth.py -/
abbrev pe_X12_plan_46 (f : Int32 → Int32 → pj_F (Unit × pj_Z)) : pj_K (Unit × pj_Z) := fun lv st z => pj_xr lv 0 124 0 <| pj_xi lv 1 fun a1 => pj_pi st fun b1 st => pj_pr st 124 0 fun st => pj_pe st (f a1 b1 z.1 z.2.1 z.2.2.1 z.2.2.2)
abbrev pe_X12_plan_77 (f : Int32 → pj_F (Unit × pj_Z)) : pj_K (Unit × pj_Z) := fun lv st z => pj_xr lv 0 124 0 <| pj_xi lv 1 fun a1 => pj_pr st 124 0 fun st => pj_pe st (f a1 z.1 z.2.1 z.2.2.1 z.2.2.2)
abbrev pe_X12_plan_81 (f : Int32 → pj_F (Unit × pj_Z)) : pj_K (Unit × pj_Z) := fun lv st z => pj_xr lv 0 124 0 <| pj_xi lv 1 fun a1 => pj_pr st 124 0 fun st => pj_pe st (f a1 z.1 z.2.1 z.2.2.1 z.2.2.2)
abbrev pe_X12_plan_82 (f : Int32 → Int32 → pj_F (Unit × pj_Z)) : pj_K (Unit × pj_Z) := fun lv st z => pj_xr lv 0 124 0 <| pj_xi lv 1 fun a1 => pj_pi st fun b1 st => pj_pr st 124 0 fun st => pj_pe st (f a1 b1 z.1 z.2.1 z.2.2.1 z.2.2.2)
abbrev pe_X12_plan_87 (f : Int32 → Int32 → pj_F (Unit × pj_Z)) : pj_K (Unit × pj_Z) := fun lv st z => pj_xr lv 0 124 0 <| pj_xi lv 1 fun a1 => pj_xi lv 2 fun a2 => pj_pe st (f a1 a2 z.1 z.2.1 z.2.2.1 z.2.2.2)
abbrev pe_X12_plan_122 (f : Int32 → Int32 → pj_F (Unit × pj_Z)) : pj_K (Unit × pj_Z) := fun lv st z => pj_xr lv 0 124 0 <| pj_xi lv 1 fun a1 => pj_xi lv 2 fun a2 => pj_pe st (f a1 a2 z.1 z.2.1 z.2.2.1 z.2.2.2)
abbrev pe_X12_plan_130 (f : Int32 → pj_F (Unit × pj_Z)) : pj_K (Unit × pj_Z) := fun lv st z => pj_xr lv 0 124 0 <| pj_xi lv 2 fun a2 => pj_pe st (f a2 z.1 z.2.1 z.2.2.1 z.2.2.2)
abbrev pe_X12_plan_174 (f : Int32 → pj_F (Unit × pj_Z)) : pj_K (Unit × pj_Z) := fun lv st z => pj_xr lv 0 124 0 <| pj_xi lv 2 fun a2 => pj_pe st (f a2 z.1 z.2.1 z.2.2.1 z.2.2.2)
abbrev pe_X12_plan_196 (f : Int32 → pj_F (Unit × pj_Z)) : pj_K (Unit × pj_Z) := fun lv st z => pj_xr lv 0 124 0 <| pj_xi lv 2 fun a2 => pj_pe st (f a2 z.1 z.2.1 z.2.2.1 z.2.2.2)
abbrev pe_X12_plan_234 (f : Int32 → pj_F (Unit × pj_Z)) : pj_K (Unit × pj_Z) := fun lv st z => pj_xr lv 0 124 0 <| pj_xi lv 2 fun a2 => pj_pe st (f a2 z.1 z.2.1 z.2.2.1 z.2.2.2)
abbrev pe_X12_plan_251 (f : Int32 → pj_F (Unit × pj_Z)) : pj_K (Unit × pj_Z) := fun lv st z => pj_xr lv 0 124 0 <| pj_xi lv 2 fun a2 => pj_pe st (f a2 z.1 z.2.1 z.2.2.1 z.2.2.2)
abbrev pe_X12_plan_289 (f : Int32 → pj_F (Unit × pj_Z)) : pj_K (Unit × pj_Z) := fun lv st z => pj_xr lv 0 124 0 <| pj_xi lv 2 fun a2 => pj_pe st (f a2 z.1 z.2.1 z.2.2.1 z.2.2.2)
abbrev pe_X12_plan_306 (f : Int32 → pj_F (Unit × pj_Z)) : pj_K (Unit × pj_Z) := fun lv st z => pj_xr lv 0 124 0 <| pj_xi lv 2 fun a2 => pj_pe st (f a2 z.1 z.2.1 z.2.2.1 z.2.2.2)
abbrev px_X12_plan : pj_C (Unit × pj_Z) := ((pj_as [(124, 12, 195, 1, 0, true, 0, [(1, 1), (2, 125), (2, 126), (2, 127), (2, 128), (2, 129), (2, 130), (2, 131), (2, 132), (2, 133), (1, 2), (0, 44), (2, 134), (2, 135), (2, 136), (2, 137), (2, 138), (0, 69), (2, 139), (2, 140), (2, 141), (1, 3), (0, 93), (0, 94), (0, 45), (0, 46), (0, 48), (0, 49), (0, 47), (0, 50), (0, 51), (2, 142), (2, 143), (2, 144), (0, 19), (1, 4), (1, 5), (1, 6), (0, 20), (0, 21), (0, 22), (0, 23), (0, 24), (0, 25), (0, 27), (0, 28), (1, 7), (1, 8), (1, 9), (1, 10), (1, 11), (0, 26), (2, 145), (2, 146), (2, 147), (2, 148), (2, 149), (2, 150), (2, 151), (2, 152), (2, 153), (2, 154), (2, 155), (2, 156), (2, 157), (2, 158), (2, 159), (0, 57), (0, 58), (0, 59), (0, 60), (2, 160), (2, 161), (2, 162), (2, 163), (1, 12), (1, 13), (0, 95), (0, 73), (0, 74), (0, 71), (0, 72), (0, 75), (0, 76), (0, 77), (0, 80), (0, 78), (0, 79), (1, 14), (0, 29), (0, 30), (0, 31), (0, 34), (0, 35), (0, 32), (0, 33), (0, 36), (0, 37), (0, 38), (0, 39), (0, 40), (1, 15), (1, 16), (0, 43), (0, 41), (0, 42), (2, 164), (0, 96), (0, 89), (0, 90), (0, 91), (0, 92), (2, 165), (2, 166), (2, 167), (2, 168), (2, 169), (2, 170), (2, 171), (2, 172), (0, 87), (2, 173), (0, 88), (2, 174), (0, 62), (1, 17), (0, 66), (0, 63), (0, 64), (0, 65), (0, 67), (1, 18), (0, 68), (2, 175), (1, 19), (0, 52), (0, 53), (0, 54), (0, 55), (2, 176), (0, 56), (0, 85), (0, 86), (0, 81), (0, 82), (0, 83), (0, 84), (2, 177), (2, 178), (2, 179), (1, 20), (2, 180), (0, 6), (0, 7), (0, 8), (0, 16), (0, 17), (0, 61), (0, 9), (0, 10), (1, 21), (1, 22), (0, 11), (0, 12), (0, 13), (0, 18), (0, 14), (0, 15), (2, 181), (0, 70), (1, 23), (2, 182), (2, 183), (0, 1), (1, 24), (2, 184), (2, 185), (1, 25), (0, 2), (2, 186), (2, 187), (1, 26), (2, 188), (2, 189), (1, 27), (1, 28), (2, 190), (2, 191), (1, 29), (0, 3), (2, 192), (0, 4), (0, 5), (1, 30), (2, 193)]), (127, 100, 24, 1, 0, true, 10000, []), (147, 100, 8, 1, 0, true, 8016, []), (149, 100, 8, 1, 0, false, 3000, []), (150, 100, 8, 1, 0, false, 4000, []), (151, 100, 8, 1, 0, false, 5000, []), (152, 100, 8, 1, 0, false, 6000, [])]), (pj_as [(19, 12, 3, 2, true), (91, 12, 54, 2, true), (97, 12, 56, 2, true), (100, 12, 57, 2, true), (103, 12, 58, 2, true), (106, 12, 59, 2, true), (293, 12, 44, 0, false), (296, 12, 45, 3, false), (456, 12, 89, 3, false), (480, 12, 97, 3, false)]), (fun _ => none), (fun _ => none), (fun _ => none), ic_X, 3, 0, pj_mU, (pj_as [(1, ph_X12_speed), (100, ph_X12_topOf), (107, ph_X12_modulo), (110, ph_X12_standsFor), (119, ph_X12_planOne), (154, ph_X12_standsFor), (182, ph_X12_comesAt), (193, ph_X12_put), (214, ph_X12_standsFor), (242, ph_X12_comesAt), (248, ph_X12_put), (269, ph_X12_standsFor), (297, ph_X12_comesAt), (303, ph_X12_put)]), fun _ => false)
abbrev pk_X12_plan : List (Nat × List (Nat × Instr × Nat)) := [(0, [(0, .aload_n 0, 1), (1, .invokevirtual 632, 3), (4, .istore_n 1, 1), (5, .aload_n 0, 1), (6, .aload_n 0, 1), (7, .getfield 456, 3), (10, .ifCond .eq 13, 3)]), (13, [(13, .aload_n 0, 1), (14, .getfield 19, 3), (17, .bipush 7, 2), (19, .iaload, 1), (20, .goto 26, 3)]), (23, [(23, .aload_n 0, 1), (24, .getfield 480, 3), (27, .ifCond .eq 13, 3)]), (30, [(30, .aload_n 0, 1), (31, .getfield 19, 3), (34, .bipush 6, 2), (36, .iaload, 1), (37, .goto 9, 3)]), (40, [(40, .aload_n 0, 1), (41, .getfield 19, 3), (44, .iconst 5, 1), (45, .iaload, 1)]), (46, [(46, .putfield 293, 3), (49, .aload_n 0, 1), (50, .iload_n 1, 1), (51, .aload_n 0, 1), (52, .getfield 293, 3), (55, .if_icmp .ge 22, 3)]), (58, [(58, .aload_n 0, 1), (59, .getfield 296, 3), (62, .ifCond .eq 19, 3)]), (65, [(65, .iload_n 1, 1), (66, .aload_n 0, 1), (67, .getfield 293, 3), (70, .sipush 200, 3), (73, .isub, 1), (74, .if_icmp .lt 7, 3)]), (77, [(77, .iconst 1, 1), (78, .goto 4, 3)]), (81, [(81, .iconst 0, 1)]), (82, [(82, .putfield 296, 3), (85, .iconst 0, 1), (86, .istore_n 2, 1)]), (87, [(87, .iload_n 2, 1), (88, .aload_n 0, 1), (89, .getfield 19, 3), (92, .iconst 0, 1), (93, .iaload, 1), (94, .if_icmp .ge 34, 3)]), (97, [(97, .aload_n 0, 1), (98, .aload_n 0, 1), (99, .iload_n 2, 1), (100, .invokevirtual 652, 3), (103, .sipush 1800, 3), (106, .isub, 1), (107, .invokestatic 638, 3), (110, .invokevirtual 655, 3), (113, .ifCond .eq 9, 3)]), (116, [(116, .aload_n 0, 1), (117, .iload_n 2, 1), (118, .iload_n 1, 1), (119, .invokevirtual 658, 3)]), (122, [(122, .iinc 2 1, 3), (125, .goto (-38), 3)]), (128, [(128, .iconst 0, 1), (129, .istore_n 2, 1)]), (130, [(130, .iload_n 2, 1), (131, .bipush 8, 2), (133, .if_icmp .ge 179, 3)]), (136, [(136, .aload_n 0, 1), (137, .getfield 97, 3), (140, .iload_n 2, 1), (141, .iaload, 1), (142, .iconst 1, 1), (143, .iand, 1), (144, .ifCond .eq 52, 3)]), (147, [(147, .aload_n 0, 1), (148, .aload_n 0, 1), (149, .getfield 100, 3), (152, .iload_n 2, 1), (153, .iaload, 1), (154, .invokevirtual 655, 3), (157, .ifCond .eq 39, 3)]), (160, [(160, .aload_n 0, 1), (161, .getfield 97, 3), (164, .iload_n 2, 1), (165, .aload_n 0, 1), (166, .getfield 97, 3), (169, .iload_n 2, 1), (170, .iaload, 1), (171, .iconst 1, 1), (172, .isub, 1), (173, .iastore, 1)]), (174, [(174, .aload_n 0, 1), (175, .aload_n 0, 1), (176, .aload_n 0, 1), (177, .getfield 100, 3), (180, .iload_n 2, 1), (181, .iaload, 1), (182, .invokevirtual 661, 3), (185, .iconst 0, 1), (186, .iload_n 2, 1), (187, .aload_n 0, 1), (188, .getfield 91, 3), (191, .iload_n 2, 1), (192, .iaload, 1), (193, .invokevirtual 618, 3)]), (196, [(196, .aload_n 0, 1), (197, .getfield 97, 3), (200, .iload_n 2, 1), (201, .iaload, 1), (202, .iconst 2, 1), (203, .iand, 1), (204, .ifCond .eq 47, 3)]), (207, [(207, .aload_n 0, 1), (208, .aload_n 0, 1), (209, .getfield 103, 3), (212, .iload_n 2, 1), (213, .iaload, 1), (214, .invokevirtual 655, 3), (217, .ifCond .eq 34, 3)]), (220, [(220, .aload_n 0, 1), (221, .getfield 97, 3), (224, .iload_n 2, 1), (225, .aload_n 0, 1), (226, .getfield 97, 3), (229, .iload_n 2, 1), (230, .iaload, 1), (231, .iconst 2, 1), (232, .isub, 1), (233, .iastore, 1)]), (234, [(234, .aload_n 0, 1), (235, .aload_n 0, 1), (236, .aload_n 0, 1), (237, .getfield 103, 3), (240, .iload_n 2, 1), (241, .iaload, 1), (242, .invokevirtual 661, 3), (245, .iconst 2, 1), (246, .iload_n 2, 1), (247, .iconst 0, 1), (248, .invokevirtual 618, 3)]), (251, [(251, .aload_n 0, 1), (252, .getfield 97, 3), (255, .iload_n 2, 1), (256, .iaload, 1), (257, .iconst 4, 1), (258, .iand, 1), (259, .ifCond .eq 47, 3)]), (262, [(262, .aload_n 0, 1), (263, .aload_n 0, 1), (264, .getfield 106, 3), (267, .iload_n 2, 1), (268, .iaload, 1), (269, .invokevirtual 655, 3), (272, .ifCond .eq 34, 3)]), (275, [(275, .aload_n 0, 1), (276, .getfield 97, 3), (279, .iload_n 2, 1), (280, .aload_n 0, 1), (281, .getfield 97, 3), (284, .iload_n 2, 1), (285, .iaload, 1), (286, .iconst 4, 1), (287, .isub, 1), (288, .iastore, 1)]), (289, [(289, .aload_n 0, 1), (290, .aload_n 0, 1), (291, .aload_n 0, 1), (292, .getfield 106, 3), (295, .iload_n 2, 1), (296, .iaload, 1), (297, .invokevirtual 661, 3), (300, .iconst 4, 1), (301, .iload_n 2, 1), (302, .iconst 0, 1), (303, .invokevirtual 618, 3)]), (306, [(306, .iinc 2 1, 3), (309, .goto (-179), 3)]), (312, [(312, .return_, 1)])]
set_option maxRecDepth 100000 in
theorem pq_X12_plan_122 (fu : Nat)  (k87 : Int32 → Int32 → pj_F (Unit × pj_Z)) (a1 : Int32) (a2 : Int32) (s : Nat → Int32) (l : Nat → Int64) (x : Nat → Int32) (y : Nat → Int64) : pl_X12_plan_122 fu k87 a1 a2 s l x y = pj_bl px_X12_plan (pj_rn px_X12_plan (pj_as pk_X12_plan) (pj_as [(87, pe_X12_plan_87 k87)]) 60) [(122, .iinc 2 1, 3), (125, .goto (-38), 3)] 122 [(0, pj_O (124, 0)), (1, pj_I a1), (2, pj_I a2)] [] (s, l, x, y) := rfl
set_option maxRecDepth 100000 in
theorem pq_X12_plan_306 (fu : Nat)  (k130 : Int32 → pj_F (Unit × pj_Z)) (a2 : Int32) (s : Nat → Int32) (l : Nat → Int64) (x : Nat → Int32) (y : Nat → Int64) : pl_X12_plan_306 fu k130 a2 s l x y = pj_bl px_X12_plan (pj_rn px_X12_plan (pj_as pk_X12_plan) (pj_as [(130, pe_X12_plan_130 k130)]) 60) [(306, .iinc 2 1, 3), (309, .goto (-179), 3)] 306 [(0, pj_O (124, 0)), (2, pj_I a2)] [] (s, l, x, y) := rfl
set_option maxRecDepth 100000 in
theorem pq_X12_plan_289 (fu : Nat)  (k130 : Int32 → pj_F (Unit × pj_Z)) (a2 : Int32) (s : Nat → Int32) (l : Nat → Int64) (x : Nat → Int32) (y : Nat → Int64) : pl_X12_plan_289 fu k130 a2 s l x y = pj_bl px_X12_plan (pj_rn px_X12_plan (pj_as pk_X12_plan) (pj_as [(130, pe_X12_plan_130 k130), (306, pe_X12_plan_306 (pl_X12_plan_306 fu k130))]) 60) [(289, .aload_n 0, 1), (290, .aload_n 0, 1), (291, .aload_n 0, 1), (292, .getfield 106, 3), (295, .iload_n 2, 1), (296, .iaload, 1), (297, .invokevirtual 661, 3), (300, .iconst 4, 1), (301, .iload_n 2, 1), (302, .iconst 0, 1), (303, .invokevirtual 618, 3)] 289 [(0, pj_O (124, 0)), (2, pj_I a2)] [] (s, l, x, y) := rfl
set_option maxRecDepth 100000 in
theorem pq_X12_plan_251 (fu : Nat)  (k130 : Int32 → pj_F (Unit × pj_Z)) (a2 : Int32) (s : Nat → Int32) (l : Nat → Int64) (x : Nat → Int32) (y : Nat → Int64) : pl_X12_plan_251 fu k130 a2 s l x y = pj_bl px_X12_plan (pj_rn px_X12_plan (pj_as pk_X12_plan) (pj_as [(130, pe_X12_plan_130 k130), (289, pe_X12_plan_289 (pl_X12_plan_289 fu k130)), (306, pe_X12_plan_306 (pl_X12_plan_306 fu k130))]) 60) [(251, .aload_n 0, 1), (252, .getfield 97, 3), (255, .iload_n 2, 1), (256, .iaload, 1), (257, .iconst 4, 1), (258, .iand, 1), (259, .ifCond .eq 47, 3)] 251 [(0, pj_O (124, 0)), (2, pj_I a2)] [] (s, l, x, y) := rfl
set_option maxRecDepth 100000 in
theorem pq_X12_plan_234 (fu : Nat)  (k130 : Int32 → pj_F (Unit × pj_Z)) (a2 : Int32) (s : Nat → Int32) (l : Nat → Int64) (x : Nat → Int32) (y : Nat → Int64) : pl_X12_plan_234 fu k130 a2 s l x y = pj_bl px_X12_plan (pj_rn px_X12_plan (pj_as pk_X12_plan) (pj_as [(130, pe_X12_plan_130 k130), (251, pe_X12_plan_251 (pl_X12_plan_251 fu k130))]) 60) [(234, .aload_n 0, 1), (235, .aload_n 0, 1), (236, .aload_n 0, 1), (237, .getfield 103, 3), (240, .iload_n 2, 1), (241, .iaload, 1), (242, .invokevirtual 661, 3), (245, .iconst 2, 1), (246, .iload_n 2, 1), (247, .iconst 0, 1), (248, .invokevirtual 618, 3)] 234 [(0, pj_O (124, 0)), (2, pj_I a2)] [] (s, l, x, y) := rfl
set_option maxRecDepth 100000 in
theorem pq_X12_plan_196 (fu : Nat)  (k130 : Int32 → pj_F (Unit × pj_Z)) (a2 : Int32) (s : Nat → Int32) (l : Nat → Int64) (x : Nat → Int32) (y : Nat → Int64) : pl_X12_plan_196 fu k130 a2 s l x y = pj_bl px_X12_plan (pj_rn px_X12_plan (pj_as pk_X12_plan) (pj_as [(130, pe_X12_plan_130 k130), (234, pe_X12_plan_234 (pl_X12_plan_234 fu k130)), (251, pe_X12_plan_251 (pl_X12_plan_251 fu k130))]) 60) [(196, .aload_n 0, 1), (197, .getfield 97, 3), (200, .iload_n 2, 1), (201, .iaload, 1), (202, .iconst 2, 1), (203, .iand, 1), (204, .ifCond .eq 47, 3)] 196 [(0, pj_O (124, 0)), (2, pj_I a2)] [] (s, l, x, y) := rfl
set_option maxRecDepth 100000 in
theorem pq_X12_plan_174 (fu : Nat)  (k130 : Int32 → pj_F (Unit × pj_Z)) (a2 : Int32) (s : Nat → Int32) (l : Nat → Int64) (x : Nat → Int32) (y : Nat → Int64) : pl_X12_plan_174 fu k130 a2 s l x y = pj_bl px_X12_plan (pj_rn px_X12_plan (pj_as pk_X12_plan) (pj_as [(130, pe_X12_plan_130 k130), (196, pe_X12_plan_196 (pl_X12_plan_196 fu k130))]) 60) [(174, .aload_n 0, 1), (175, .aload_n 0, 1), (176, .aload_n 0, 1), (177, .getfield 100, 3), (180, .iload_n 2, 1), (181, .iaload, 1), (182, .invokevirtual 661, 3), (185, .iconst 0, 1), (186, .iload_n 2, 1), (187, .aload_n 0, 1), (188, .getfield 91, 3), (191, .iload_n 2, 1), (192, .iaload, 1), (193, .invokevirtual 618, 3)] 174 [(0, pj_O (124, 0)), (2, pj_I a2)] [] (s, l, x, y) := rfl
set_option maxRecDepth 100000 in
theorem pq_X12_plan_130 (fu : Nat)  (n : Nat) (a2 : Int32) (s : Nat → Int32) (l : Nat → Int64) (x : Nat → Int32) (y : Nat → Int64) : pl_X12_plan_130 fu (n + 1) a2 s l x y = pj_bl px_X12_plan (pj_rn px_X12_plan (pj_as pk_X12_plan) (pj_as [(130, pe_X12_plan_130 (pl_X12_plan_130 fu n)), (174, pe_X12_plan_174 (pl_X12_plan_174 fu (pl_X12_plan_130 fu n))), (196, pe_X12_plan_196 (pl_X12_plan_196 fu (pl_X12_plan_130 fu n)))]) 60) [(130, .iload_n 2, 1), (131, .bipush 8, 2), (133, .if_icmp .ge 179, 3)] 130 [(0, pj_O (124, 0)), (2, pj_I a2)] [] (s, l, x, y) := rfl
set_option maxRecDepth 100000 in
theorem pq_X12_plan_87 (fu : Nat)  (n : Nat) (a1 : Int32) (a2 : Int32) (s : Nat → Int32) (l : Nat → Int64) (x : Nat → Int32) (y : Nat → Int64) : pl_X12_plan_87 fu (n + 1) a1 a2 s l x y = pj_bl px_X12_plan (pj_rn px_X12_plan (pj_as pk_X12_plan) (pj_as [(87, pe_X12_plan_87 (pl_X12_plan_87 fu n)), (122, pe_X12_plan_122 (pl_X12_plan_122 fu (pl_X12_plan_87 fu n))), (130, pe_X12_plan_130 (pl_X12_plan_130 fu fu))]) 60) [(87, .iload_n 2, 1), (88, .aload_n 0, 1), (89, .getfield 19, 3), (92, .iconst 0, 1), (93, .iaload, 1), (94, .if_icmp .ge 34, 3)] 87 [(0, pj_O (124, 0)), (1, pj_I a1), (2, pj_I a2)] [] (s, l, x, y) := rfl
set_option maxRecDepth 100000 in
theorem pq_X12_plan_82 (fu : Nat)  (a1 : Int32) (b1 : Int32) (s : Nat → Int32) (l : Nat → Int64) (x : Nat → Int32) (y : Nat → Int64) : pl_X12_plan_82 fu a1 b1 s l x y = pj_bl px_X12_plan (pj_rn px_X12_plan (pj_as pk_X12_plan) (pj_as [(87, pe_X12_plan_87 (pl_X12_plan_87 fu fu))]) 60) [(82, .putfield 296, 3), (85, .iconst 0, 1), (86, .istore_n 2, 1)] 82 [(0, pj_O (124, 0)), (1, pj_I a1)] [pj_I b1, pj_O (124, 0)] (s, l, x, y) := rfl
set_option maxRecDepth 100000 in
theorem pq_X12_plan_77 (fu : Nat)  (a1 : Int32) (s : Nat → Int32) (l : Nat → Int64) (x : Nat → Int32) (y : Nat → Int64) : pl_X12_plan_77 fu a1 s l x y = pj_bl px_X12_plan (pj_rn px_X12_plan (pj_as pk_X12_plan) (pj_as [(82, pe_X12_plan_82 (pl_X12_plan_82 fu))]) 60) [(77, .iconst 1, 1), (78, .goto 4, 3)] 77 [(0, pj_O (124, 0)), (1, pj_I a1)] [pj_O (124, 0)] (s, l, x, y) := rfl
set_option maxRecDepth 100000 in
theorem pq_X12_plan_81 (fu : Nat)  (a1 : Int32) (s : Nat → Int32) (l : Nat → Int64) (x : Nat → Int32) (y : Nat → Int64) : pl_X12_plan_81 fu a1 s l x y = pj_bl px_X12_plan (pj_rn px_X12_plan (pj_as pk_X12_plan) (pj_as [(82, pe_X12_plan_82 (pl_X12_plan_82 fu))]) 60) [(81, .iconst 0, 1)] 81 [(0, pj_O (124, 0)), (1, pj_I a1)] [pj_O (124, 0)] (s, l, x, y) := rfl
set_option maxRecDepth 100000 in
theorem pq_X12_plan_46 (fu : Nat)  (a1 : Int32) (b1 : Int32) (s : Nat → Int32) (l : Nat → Int64) (x : Nat → Int32) (y : Nat → Int64) : pl_X12_plan_46 fu a1 b1 s l x y = pj_bl px_X12_plan (pj_rn px_X12_plan (pj_as pk_X12_plan) (pj_as [(77, pe_X12_plan_77 (pl_X12_plan_77 fu)), (81, pe_X12_plan_81 (pl_X12_plan_81 fu))]) 60) [(46, .putfield 293, 3), (49, .aload_n 0, 1), (50, .iload_n 1, 1), (51, .aload_n 0, 1), (52, .getfield 293, 3), (55, .if_icmp .ge 22, 3)] 46 [(0, pj_O (124, 0)), (1, pj_I a1)] [pj_I b1, pj_O (124, 0)] (s, l, x, y) := rfl
set_option maxRecDepth 100000 in
theorem pq_X12_plan_m (fu : Nat)   (s : Nat → Int32) (l : Nat → Int64) (x : Nat → Int32) (y : Nat → Int64) : po_X12_plan fu  s l x y = pj_bl px_X12_plan (pj_rn px_X12_plan (pj_as pk_X12_plan) (pj_as [(46, pe_X12_plan_46 (pl_X12_plan_46 fu))]) 60) [(0, .aload_n 0, 1), (1, .invokevirtual 632, 3), (4, .istore_n 1, 1), (5, .aload_n 0, 1), (6, .aload_n 0, 1), (7, .getfield 456, 3), (10, .ifCond .eq 13, 3)] 0 [(0, pj_O (124, 0))] [] (s, l, x, y) := rfl
theorem pu_X12_plan_46 {lf : pj_Z → mj_M} {a : Unit × pj_Z} (f : Int32 → Int32 → pj_F (Unit × pj_Z)) (hf : ∀ (a1 : Int32) (b1 : Int32) (s : Nat → Int32) (l : Nat → Int64) (x : Nat → Int32) (y : Nat → Int64), f a1 b1 s l x y = some a → pm_Gd 6 12046 ie_X12_plan.1 pm_rU lf 46 [(0, .ref 124), (1, .int a1)] [.int b1, .ref 124] (s, l, x, y) a) : pm_Ex 6 12046 ie_X12_plan.1 pm_rU lf a 46 (pe_X12_plan_46 f) := by
  intro lv st z hd h
  obtain ⟨g0, h⟩ := pj_xr_inv h
  obtain ⟨a1, g1, h⟩ := pj_xi_inv h
  obtain ⟨b1, r1, e1, h⟩ := pj_pi_inv h
  obtain ⟨r0, e0, h⟩ := pj_pr_inv h
  obtain ⟨e9, h⟩ := pj_pe_inv h
  rw [e1, e0, e9]
  exact mj_wp_sub (mj_sub_cons g0 (mj_sub_cons g1 (mj_sub_nil hd))) (hf _ _ _ _ _ _ h)
theorem pu_X12_plan_77 {lf : pj_Z → mj_M} {a : Unit × pj_Z} (f : Int32 → pj_F (Unit × pj_Z)) (hf : ∀ (a1 : Int32) (s : Nat → Int32) (l : Nat → Int64) (x : Nat → Int32) (y : Nat → Int64), f a1 s l x y = some a → pm_Gd 6 12046 ie_X12_plan.1 pm_rU lf 77 [(0, .ref 124), (1, .int a1)] [.ref 124] (s, l, x, y) a) : pm_Ex 6 12046 ie_X12_plan.1 pm_rU lf a 77 (pe_X12_plan_77 f) := by
  intro lv st z hd h
  obtain ⟨g0, h⟩ := pj_xr_inv h
  obtain ⟨a1, g1, h⟩ := pj_xi_inv h
  obtain ⟨r0, e0, h⟩ := pj_pr_inv h
  obtain ⟨e9, h⟩ := pj_pe_inv h
  rw [e0, e9]
  exact mj_wp_sub (mj_sub_cons g0 (mj_sub_cons g1 (mj_sub_nil hd))) (hf _ _ _ _ _ h)
theorem pu_X12_plan_81 {lf : pj_Z → mj_M} {a : Unit × pj_Z} (f : Int32 → pj_F (Unit × pj_Z)) (hf : ∀ (a1 : Int32) (s : Nat → Int32) (l : Nat → Int64) (x : Nat → Int32) (y : Nat → Int64), f a1 s l x y = some a → pm_Gd 6 12046 ie_X12_plan.1 pm_rU lf 81 [(0, .ref 124), (1, .int a1)] [.ref 124] (s, l, x, y) a) : pm_Ex 6 12046 ie_X12_plan.1 pm_rU lf a 81 (pe_X12_plan_81 f) := by
  intro lv st z hd h
  obtain ⟨g0, h⟩ := pj_xr_inv h
  obtain ⟨a1, g1, h⟩ := pj_xi_inv h
  obtain ⟨r0, e0, h⟩ := pj_pr_inv h
  obtain ⟨e9, h⟩ := pj_pe_inv h
  rw [e0, e9]
  exact mj_wp_sub (mj_sub_cons g0 (mj_sub_cons g1 (mj_sub_nil hd))) (hf _ _ _ _ _ h)
theorem pu_X12_plan_82 {lf : pj_Z → mj_M} {a : Unit × pj_Z} (f : Int32 → Int32 → pj_F (Unit × pj_Z)) (hf : ∀ (a1 : Int32) (b1 : Int32) (s : Nat → Int32) (l : Nat → Int64) (x : Nat → Int32) (y : Nat → Int64), f a1 b1 s l x y = some a → pm_Gd 6 12046 ie_X12_plan.1 pm_rU lf 82 [(0, .ref 124), (1, .int a1)] [.int b1, .ref 124] (s, l, x, y) a) : pm_Ex 6 12046 ie_X12_plan.1 pm_rU lf a 82 (pe_X12_plan_82 f) := by
  intro lv st z hd h
  obtain ⟨g0, h⟩ := pj_xr_inv h
  obtain ⟨a1, g1, h⟩ := pj_xi_inv h
  obtain ⟨b1, r1, e1, h⟩ := pj_pi_inv h
  obtain ⟨r0, e0, h⟩ := pj_pr_inv h
  obtain ⟨e9, h⟩ := pj_pe_inv h
  rw [e1, e0, e9]
  exact mj_wp_sub (mj_sub_cons g0 (mj_sub_cons g1 (mj_sub_nil hd))) (hf _ _ _ _ _ _ h)
theorem pu_X12_plan_87 {lf : pj_Z → mj_M} {a : Unit × pj_Z} (f : Int32 → Int32 → pj_F (Unit × pj_Z)) (hf : ∀ (a1 : Int32) (a2 : Int32) (s : Nat → Int32) (l : Nat → Int64) (x : Nat → Int32) (y : Nat → Int64), f a1 a2 s l x y = some a → pm_Gd 6 12046 ie_X12_plan.1 pm_rU lf 87 [(0, .ref 124), (1, .int a1), (2, .int a2)] [] (s, l, x, y) a) : pm_Ex 6 12046 ie_X12_plan.1 pm_rU lf a 87 (pe_X12_plan_87 f) := by
  intro lv st z hd h
  obtain ⟨g0, h⟩ := pj_xr_inv h
  obtain ⟨a1, g1, h⟩ := pj_xi_inv h
  obtain ⟨a2, g2, h⟩ := pj_xi_inv h
  obtain ⟨e9, h⟩ := pj_pe_inv h
  rw [e9]
  exact mj_wp_sub (mj_sub_cons g0 (mj_sub_cons g1 (mj_sub_cons g2 (mj_sub_nil hd)))) (hf _ _ _ _ _ _ h)
theorem pu_X12_plan_122 {lf : pj_Z → mj_M} {a : Unit × pj_Z} (f : Int32 → Int32 → pj_F (Unit × pj_Z)) (hf : ∀ (a1 : Int32) (a2 : Int32) (s : Nat → Int32) (l : Nat → Int64) (x : Nat → Int32) (y : Nat → Int64), f a1 a2 s l x y = some a → pm_Gd 6 12046 ie_X12_plan.1 pm_rU lf 122 [(0, .ref 124), (1, .int a1), (2, .int a2)] [] (s, l, x, y) a) : pm_Ex 6 12046 ie_X12_plan.1 pm_rU lf a 122 (pe_X12_plan_122 f) := by
  intro lv st z hd h
  obtain ⟨g0, h⟩ := pj_xr_inv h
  obtain ⟨a1, g1, h⟩ := pj_xi_inv h
  obtain ⟨a2, g2, h⟩ := pj_xi_inv h
  obtain ⟨e9, h⟩ := pj_pe_inv h
  rw [e9]
  exact mj_wp_sub (mj_sub_cons g0 (mj_sub_cons g1 (mj_sub_cons g2 (mj_sub_nil hd)))) (hf _ _ _ _ _ _ h)
theorem pu_X12_plan_130 {lf : pj_Z → mj_M} {a : Unit × pj_Z} (f : Int32 → pj_F (Unit × pj_Z)) (hf : ∀ (a2 : Int32) (s : Nat → Int32) (l : Nat → Int64) (x : Nat → Int32) (y : Nat → Int64), f a2 s l x y = some a → pm_Gd 6 12046 ie_X12_plan.1 pm_rU lf 130 [(0, .ref 124), (2, .int a2)] [] (s, l, x, y) a) : pm_Ex 6 12046 ie_X12_plan.1 pm_rU lf a 130 (pe_X12_plan_130 f) := by
  intro lv st z hd h
  obtain ⟨g0, h⟩ := pj_xr_inv h
  obtain ⟨a2, g2, h⟩ := pj_xi_inv h
  obtain ⟨e9, h⟩ := pj_pe_inv h
  rw [e9]
  exact mj_wp_sub (mj_sub_cons g0 (mj_sub_cons g2 (mj_sub_nil hd))) (hf _ _ _ _ _ h)
theorem pu_X12_plan_174 {lf : pj_Z → mj_M} {a : Unit × pj_Z} (f : Int32 → pj_F (Unit × pj_Z)) (hf : ∀ (a2 : Int32) (s : Nat → Int32) (l : Nat → Int64) (x : Nat → Int32) (y : Nat → Int64), f a2 s l x y = some a → pm_Gd 6 12046 ie_X12_plan.1 pm_rU lf 174 [(0, .ref 124), (2, .int a2)] [] (s, l, x, y) a) : pm_Ex 6 12046 ie_X12_plan.1 pm_rU lf a 174 (pe_X12_plan_174 f) := by
  intro lv st z hd h
  obtain ⟨g0, h⟩ := pj_xr_inv h
  obtain ⟨a2, g2, h⟩ := pj_xi_inv h
  obtain ⟨e9, h⟩ := pj_pe_inv h
  rw [e9]
  exact mj_wp_sub (mj_sub_cons g0 (mj_sub_cons g2 (mj_sub_nil hd))) (hf _ _ _ _ _ h)
theorem pu_X12_plan_196 {lf : pj_Z → mj_M} {a : Unit × pj_Z} (f : Int32 → pj_F (Unit × pj_Z)) (hf : ∀ (a2 : Int32) (s : Nat → Int32) (l : Nat → Int64) (x : Nat → Int32) (y : Nat → Int64), f a2 s l x y = some a → pm_Gd 6 12046 ie_X12_plan.1 pm_rU lf 196 [(0, .ref 124), (2, .int a2)] [] (s, l, x, y) a) : pm_Ex 6 12046 ie_X12_plan.1 pm_rU lf a 196 (pe_X12_plan_196 f) := by
  intro lv st z hd h
  obtain ⟨g0, h⟩ := pj_xr_inv h
  obtain ⟨a2, g2, h⟩ := pj_xi_inv h
  obtain ⟨e9, h⟩ := pj_pe_inv h
  rw [e9]
  exact mj_wp_sub (mj_sub_cons g0 (mj_sub_cons g2 (mj_sub_nil hd))) (hf _ _ _ _ _ h)
theorem pu_X12_plan_234 {lf : pj_Z → mj_M} {a : Unit × pj_Z} (f : Int32 → pj_F (Unit × pj_Z)) (hf : ∀ (a2 : Int32) (s : Nat → Int32) (l : Nat → Int64) (x : Nat → Int32) (y : Nat → Int64), f a2 s l x y = some a → pm_Gd 6 12046 ie_X12_plan.1 pm_rU lf 234 [(0, .ref 124), (2, .int a2)] [] (s, l, x, y) a) : pm_Ex 6 12046 ie_X12_plan.1 pm_rU lf a 234 (pe_X12_plan_234 f) := by
  intro lv st z hd h
  obtain ⟨g0, h⟩ := pj_xr_inv h
  obtain ⟨a2, g2, h⟩ := pj_xi_inv h
  obtain ⟨e9, h⟩ := pj_pe_inv h
  rw [e9]
  exact mj_wp_sub (mj_sub_cons g0 (mj_sub_cons g2 (mj_sub_nil hd))) (hf _ _ _ _ _ h)
theorem pu_X12_plan_251 {lf : pj_Z → mj_M} {a : Unit × pj_Z} (f : Int32 → pj_F (Unit × pj_Z)) (hf : ∀ (a2 : Int32) (s : Nat → Int32) (l : Nat → Int64) (x : Nat → Int32) (y : Nat → Int64), f a2 s l x y = some a → pm_Gd 6 12046 ie_X12_plan.1 pm_rU lf 251 [(0, .ref 124), (2, .int a2)] [] (s, l, x, y) a) : pm_Ex 6 12046 ie_X12_plan.1 pm_rU lf a 251 (pe_X12_plan_251 f) := by
  intro lv st z hd h
  obtain ⟨g0, h⟩ := pj_xr_inv h
  obtain ⟨a2, g2, h⟩ := pj_xi_inv h
  obtain ⟨e9, h⟩ := pj_pe_inv h
  rw [e9]
  exact mj_wp_sub (mj_sub_cons g0 (mj_sub_cons g2 (mj_sub_nil hd))) (hf _ _ _ _ _ h)
theorem pu_X12_plan_289 {lf : pj_Z → mj_M} {a : Unit × pj_Z} (f : Int32 → pj_F (Unit × pj_Z)) (hf : ∀ (a2 : Int32) (s : Nat → Int32) (l : Nat → Int64) (x : Nat → Int32) (y : Nat → Int64), f a2 s l x y = some a → pm_Gd 6 12046 ie_X12_plan.1 pm_rU lf 289 [(0, .ref 124), (2, .int a2)] [] (s, l, x, y) a) : pm_Ex 6 12046 ie_X12_plan.1 pm_rU lf a 289 (pe_X12_plan_289 f) := by
  intro lv st z hd h
  obtain ⟨g0, h⟩ := pj_xr_inv h
  obtain ⟨a2, g2, h⟩ := pj_xi_inv h
  obtain ⟨e9, h⟩ := pj_pe_inv h
  rw [e9]
  exact mj_wp_sub (mj_sub_cons g0 (mj_sub_cons g2 (mj_sub_nil hd))) (hf _ _ _ _ _ h)
theorem pu_X12_plan_306 {lf : pj_Z → mj_M} {a : Unit × pj_Z} (f : Int32 → pj_F (Unit × pj_Z)) (hf : ∀ (a2 : Int32) (s : Nat → Int32) (l : Nat → Int64) (x : Nat → Int32) (y : Nat → Int64), f a2 s l x y = some a → pm_Gd 6 12046 ie_X12_plan.1 pm_rU lf 306 [(0, .ref 124), (2, .int a2)] [] (s, l, x, y) a) : pm_Ex 6 12046 ie_X12_plan.1 pm_rU lf a 306 (pe_X12_plan_306 f) := by
  intro lv st z hd h
  obtain ⟨g0, h⟩ := pj_xr_inv h
  obtain ⟨a2, g2, h⟩ := pj_xi_inv h
  obtain ⟨e9, h⟩ := pj_pe_inv h
  rw [e9]
  exact mj_wp_sub (mj_sub_cons g0 (mj_sub_cons g2 (mj_sub_nil hd))) (hf _ _ _ _ _ h)
set_option maxRecDepth 100000 in
theorem pz_X12_plan {lf : pj_Z → mj_M} (hT : pj_Lt pj_TR lf) : pj_Cok ic_P (mj_R ic_P 6) 12046 ie_X12_plan.1 (pm_OK lf pm_rU) lf px_X12_plan := by
  exact pm_cok (c := px_X12_plan) (pm_part hT (pj_as_all (p := fun b e => pj_TR b = some e) (List.forall_mem_cons.mpr ⟨rfl, (List.forall_mem_cons.mpr ⟨rfl, (List.forall_mem_cons.mpr ⟨rfl, (List.forall_mem_cons.mpr ⟨rfl, (List.forall_mem_cons.mpr ⟨rfl, (List.forall_mem_cons.mpr ⟨rfl, (List.forall_mem_cons.mpr ⟨rfl, (fun _ h => by cases h)⟩)⟩)⟩)⟩)⟩)⟩)⟩))) (pm_in_ok (L := [(19, 12, 3, 2, true), (91, 12, 54, 2, true), (97, 12, 56, 2, true), (100, 12, 57, 2, true), (103, 12, 58, 2, true), (106, 12, 59, 2, true), (293, 12, 44, 0, false), (296, 12, 45, 3, false), (456, 12, 89, 3, false), (480, 12, 97, 3, false)]) (f := mj_pF ic_P 12046) (by decide +kernel)) (fun _ _ h => by cases h) (fun _ _ h => by cases h) (fun _ _ h => by cases h) rfl rfl ⟨by decide, rfl⟩ pm_mU (pj_as_all (p := pm_Cl 6 12046 ie_X12_plan.1 lf (pm_OK lf pm_rU)) (List.forall_mem_cons.mpr ⟨fun _ _ lv st z K a hK h => pc_X12_speed hT (by decide) (ix := 632) rfl rfl hK h, (List.forall_mem_cons.mpr ⟨fun _ _ lv st z K a hK h => pc_X12_topOf hT (by decide) (ix := 652) rfl rfl hK h, (List.forall_mem_cons.mpr ⟨fun _ _ lv st z K a hK h => pc_X12_modulo hT (by decide) (ix := 638) rfl rfl hK h, (List.forall_mem_cons.mpr ⟨fun _ _ lv st z K a hK h => pc_X12_standsFor hT (by decide) (ix := 655) rfl rfl hK h, (List.forall_mem_cons.mpr ⟨fun _ _ lv st z K a hK h => pc_X12_planOne hT (by decide) (ix := 658) rfl rfl hK h, (List.forall_mem_cons.mpr ⟨fun _ _ lv st z K a hK h => pc_X12_standsFor hT (by decide) (ix := 655) rfl rfl hK h, (List.forall_mem_cons.mpr ⟨fun _ _ lv st z K a hK h => pc_X12_comesAt hT (by decide) (ix := 661) rfl rfl hK h, (List.forall_mem_cons.mpr ⟨fun _ _ lv st z K a hK h => pc_X12_put hT (by decide) (ix := 618) rfl rfl hK h, (List.forall_mem_cons.mpr ⟨fun _ _ lv st z K a hK h => pc_X12_standsFor hT (by decide) (ix := 655) rfl rfl hK h, (List.forall_mem_cons.mpr ⟨fun _ _ lv st z K a hK h => pc_X12_comesAt hT (by decide) (ix := 661) rfl rfl hK h, (List.forall_mem_cons.mpr ⟨fun _ _ lv st z K a hK h => pc_X12_put hT (by decide) (ix := 618) rfl rfl hK h, (List.forall_mem_cons.mpr ⟨fun _ _ lv st z K a hK h => pc_X12_standsFor hT (by decide) (ix := 655) rfl rfl hK h, (List.forall_mem_cons.mpr ⟨fun _ _ lv st z K a hK h => pc_X12_comesAt hT (by decide) (ix := 661) rfl rfl hK h, (List.forall_mem_cons.mpr ⟨fun _ _ lv st z K a hK h => pc_X12_put hT (by decide) (ix := 618) rfl rfl hK h, (fun _ h => by cases h)⟩)⟩)⟩)⟩)⟩)⟩)⟩)⟩)⟩)⟩)⟩)⟩)⟩)⟩)) (fun _ h => by cases h)
set_option maxRecDepth 100000 in
theorem pb_X12_plan : pm_bks ie_X12_plan.1.2.2.2.2 pk_X12_plan = true := by decide +kernel
set_option maxRecDepth 100000 in
theorem pg_X12_plan_122 {fu : Nat} {lf : pj_Z → mj_M} (hT : pj_Lt pj_TR lf) {k87 : Int32 → Int32 → pj_F (Unit × pj_Z)} (hk87 : ∀ (a1 : Int32) (a2 : Int32) (s : Nat → Int32) (l : Nat → Int64) (x : Nat → Int32) (y : Nat → Int64) (a : Unit × pj_Z), k87 a1 a2 s l x y = some a → pm_Gd 6 12046 ie_X12_plan.1 pm_rU lf 87 [(0, .ref 124), (1, .int a1), (2, .int a2)] [] (s, l, x, y) a) : ∀ (a1 : Int32) (a2 : Int32) (s : Nat → Int32) (l : Nat → Int64) (x : Nat → Int32) (y : Nat → Int64) (a : Unit × pj_Z), pl_X12_plan_122 fu k87 a1 a2 s l x y = some a → pm_Gd 6 12046 ie_X12_plan.1 pm_rU lf 122 [(0, .ref 124), (1, .int a1), (2, .int a2)] [] (s, l, x, y) a := by
  intro a1 a2 s l x y a h
  exact pm_run ((pq_X12_plan_122 fu k87 a1 a2 s l x y).symm.trans h) (pz_X12_plan hT) (pm_bks_ok pb_X12_plan) (pm_bks_ok pb_X12_plan _ _ rfl) (pm_ndb_ok rfl) (pj_as_all (p := pm_Ex 6 12046 ie_X12_plan.1 pm_rU lf a) (List.forall_mem_cons.mpr ⟨pu_X12_plan_87 _ (fun c0 c1 s l x y h => hk87 c0 c1 s l x y _ h), (fun _ h => by cases h)⟩))
set_option maxRecDepth 100000 in
theorem pg_X12_plan_306 {fu : Nat} {lf : pj_Z → mj_M} (hT : pj_Lt pj_TR lf) {k130 : Int32 → pj_F (Unit × pj_Z)} (hk130 : ∀ (a2 : Int32) (s : Nat → Int32) (l : Nat → Int64) (x : Nat → Int32) (y : Nat → Int64) (a : Unit × pj_Z), k130 a2 s l x y = some a → pm_Gd 6 12046 ie_X12_plan.1 pm_rU lf 130 [(0, .ref 124), (2, .int a2)] [] (s, l, x, y) a) : ∀ (a2 : Int32) (s : Nat → Int32) (l : Nat → Int64) (x : Nat → Int32) (y : Nat → Int64) (a : Unit × pj_Z), pl_X12_plan_306 fu k130 a2 s l x y = some a → pm_Gd 6 12046 ie_X12_plan.1 pm_rU lf 306 [(0, .ref 124), (2, .int a2)] [] (s, l, x, y) a := by
  intro a2 s l x y a h
  exact pm_run ((pq_X12_plan_306 fu k130 a2 s l x y).symm.trans h) (pz_X12_plan hT) (pm_bks_ok pb_X12_plan) (pm_bks_ok pb_X12_plan _ _ rfl) (pm_ndb_ok rfl) (pj_as_all (p := pm_Ex 6 12046 ie_X12_plan.1 pm_rU lf a) (List.forall_mem_cons.mpr ⟨pu_X12_plan_130 _ (fun c0 s l x y h => hk130 c0 s l x y _ h), (fun _ h => by cases h)⟩))
set_option maxRecDepth 100000 in
theorem pg_X12_plan_289 {fu : Nat} {lf : pj_Z → mj_M} (hT : pj_Lt pj_TR lf) {k130 : Int32 → pj_F (Unit × pj_Z)} (hk130 : ∀ (a2 : Int32) (s : Nat → Int32) (l : Nat → Int64) (x : Nat → Int32) (y : Nat → Int64) (a : Unit × pj_Z), k130 a2 s l x y = some a → pm_Gd 6 12046 ie_X12_plan.1 pm_rU lf 130 [(0, .ref 124), (2, .int a2)] [] (s, l, x, y) a) : ∀ (a2 : Int32) (s : Nat → Int32) (l : Nat → Int64) (x : Nat → Int32) (y : Nat → Int64) (a : Unit × pj_Z), pl_X12_plan_289 fu k130 a2 s l x y = some a → pm_Gd 6 12046 ie_X12_plan.1 pm_rU lf 289 [(0, .ref 124), (2, .int a2)] [] (s, l, x, y) a := by
  intro a2 s l x y a h
  exact pm_run ((pq_X12_plan_289 fu k130 a2 s l x y).symm.trans h) (pz_X12_plan hT) (pm_bks_ok pb_X12_plan) (pm_bks_ok pb_X12_plan _ _ rfl) (pm_ndb_ok rfl) (pj_as_all (p := pm_Ex 6 12046 ie_X12_plan.1 pm_rU lf a) (List.forall_mem_cons.mpr ⟨pu_X12_plan_130 _ (fun c0 s l x y h => hk130 c0 s l x y _ h), (List.forall_mem_cons.mpr ⟨pu_X12_plan_306 _ (fun c0 s l x y h => pg_X12_plan_306 hT hk130 c0 s l x y _ h), (fun _ h => by cases h)⟩)⟩))
set_option maxRecDepth 100000 in
theorem pg_X12_plan_251 {fu : Nat} {lf : pj_Z → mj_M} (hT : pj_Lt pj_TR lf) {k130 : Int32 → pj_F (Unit × pj_Z)} (hk130 : ∀ (a2 : Int32) (s : Nat → Int32) (l : Nat → Int64) (x : Nat → Int32) (y : Nat → Int64) (a : Unit × pj_Z), k130 a2 s l x y = some a → pm_Gd 6 12046 ie_X12_plan.1 pm_rU lf 130 [(0, .ref 124), (2, .int a2)] [] (s, l, x, y) a) : ∀ (a2 : Int32) (s : Nat → Int32) (l : Nat → Int64) (x : Nat → Int32) (y : Nat → Int64) (a : Unit × pj_Z), pl_X12_plan_251 fu k130 a2 s l x y = some a → pm_Gd 6 12046 ie_X12_plan.1 pm_rU lf 251 [(0, .ref 124), (2, .int a2)] [] (s, l, x, y) a := by
  intro a2 s l x y a h
  exact pm_run ((pq_X12_plan_251 fu k130 a2 s l x y).symm.trans h) (pz_X12_plan hT) (pm_bks_ok pb_X12_plan) (pm_bks_ok pb_X12_plan _ _ rfl) (pm_ndb_ok rfl) (pj_as_all (p := pm_Ex 6 12046 ie_X12_plan.1 pm_rU lf a) (List.forall_mem_cons.mpr ⟨pu_X12_plan_130 _ (fun c0 s l x y h => hk130 c0 s l x y _ h), (List.forall_mem_cons.mpr ⟨pu_X12_plan_289 _ (fun c0 s l x y h => pg_X12_plan_289 hT hk130 c0 s l x y _ h), (List.forall_mem_cons.mpr ⟨pu_X12_plan_306 _ (fun c0 s l x y h => pg_X12_plan_306 hT hk130 c0 s l x y _ h), (fun _ h => by cases h)⟩)⟩)⟩))
set_option maxRecDepth 100000 in
theorem pg_X12_plan_234 {fu : Nat} {lf : pj_Z → mj_M} (hT : pj_Lt pj_TR lf) {k130 : Int32 → pj_F (Unit × pj_Z)} (hk130 : ∀ (a2 : Int32) (s : Nat → Int32) (l : Nat → Int64) (x : Nat → Int32) (y : Nat → Int64) (a : Unit × pj_Z), k130 a2 s l x y = some a → pm_Gd 6 12046 ie_X12_plan.1 pm_rU lf 130 [(0, .ref 124), (2, .int a2)] [] (s, l, x, y) a) : ∀ (a2 : Int32) (s : Nat → Int32) (l : Nat → Int64) (x : Nat → Int32) (y : Nat → Int64) (a : Unit × pj_Z), pl_X12_plan_234 fu k130 a2 s l x y = some a → pm_Gd 6 12046 ie_X12_plan.1 pm_rU lf 234 [(0, .ref 124), (2, .int a2)] [] (s, l, x, y) a := by
  intro a2 s l x y a h
  exact pm_run ((pq_X12_plan_234 fu k130 a2 s l x y).symm.trans h) (pz_X12_plan hT) (pm_bks_ok pb_X12_plan) (pm_bks_ok pb_X12_plan _ _ rfl) (pm_ndb_ok rfl) (pj_as_all (p := pm_Ex 6 12046 ie_X12_plan.1 pm_rU lf a) (List.forall_mem_cons.mpr ⟨pu_X12_plan_130 _ (fun c0 s l x y h => hk130 c0 s l x y _ h), (List.forall_mem_cons.mpr ⟨pu_X12_plan_251 _ (fun c0 s l x y h => pg_X12_plan_251 hT hk130 c0 s l x y _ h), (fun _ h => by cases h)⟩)⟩))
set_option maxRecDepth 100000 in
theorem pg_X12_plan_196 {fu : Nat} {lf : pj_Z → mj_M} (hT : pj_Lt pj_TR lf) {k130 : Int32 → pj_F (Unit × pj_Z)} (hk130 : ∀ (a2 : Int32) (s : Nat → Int32) (l : Nat → Int64) (x : Nat → Int32) (y : Nat → Int64) (a : Unit × pj_Z), k130 a2 s l x y = some a → pm_Gd 6 12046 ie_X12_plan.1 pm_rU lf 130 [(0, .ref 124), (2, .int a2)] [] (s, l, x, y) a) : ∀ (a2 : Int32) (s : Nat → Int32) (l : Nat → Int64) (x : Nat → Int32) (y : Nat → Int64) (a : Unit × pj_Z), pl_X12_plan_196 fu k130 a2 s l x y = some a → pm_Gd 6 12046 ie_X12_plan.1 pm_rU lf 196 [(0, .ref 124), (2, .int a2)] [] (s, l, x, y) a := by
  intro a2 s l x y a h
  exact pm_run ((pq_X12_plan_196 fu k130 a2 s l x y).symm.trans h) (pz_X12_plan hT) (pm_bks_ok pb_X12_plan) (pm_bks_ok pb_X12_plan _ _ rfl) (pm_ndb_ok rfl) (pj_as_all (p := pm_Ex 6 12046 ie_X12_plan.1 pm_rU lf a) (List.forall_mem_cons.mpr ⟨pu_X12_plan_130 _ (fun c0 s l x y h => hk130 c0 s l x y _ h), (List.forall_mem_cons.mpr ⟨pu_X12_plan_234 _ (fun c0 s l x y h => pg_X12_plan_234 hT hk130 c0 s l x y _ h), (List.forall_mem_cons.mpr ⟨pu_X12_plan_251 _ (fun c0 s l x y h => pg_X12_plan_251 hT hk130 c0 s l x y _ h), (fun _ h => by cases h)⟩)⟩)⟩))
set_option maxRecDepth 100000 in
theorem pg_X12_plan_174 {fu : Nat} {lf : pj_Z → mj_M} (hT : pj_Lt pj_TR lf) {k130 : Int32 → pj_F (Unit × pj_Z)} (hk130 : ∀ (a2 : Int32) (s : Nat → Int32) (l : Nat → Int64) (x : Nat → Int32) (y : Nat → Int64) (a : Unit × pj_Z), k130 a2 s l x y = some a → pm_Gd 6 12046 ie_X12_plan.1 pm_rU lf 130 [(0, .ref 124), (2, .int a2)] [] (s, l, x, y) a) : ∀ (a2 : Int32) (s : Nat → Int32) (l : Nat → Int64) (x : Nat → Int32) (y : Nat → Int64) (a : Unit × pj_Z), pl_X12_plan_174 fu k130 a2 s l x y = some a → pm_Gd 6 12046 ie_X12_plan.1 pm_rU lf 174 [(0, .ref 124), (2, .int a2)] [] (s, l, x, y) a := by
  intro a2 s l x y a h
  exact pm_run ((pq_X12_plan_174 fu k130 a2 s l x y).symm.trans h) (pz_X12_plan hT) (pm_bks_ok pb_X12_plan) (pm_bks_ok pb_X12_plan _ _ rfl) (pm_ndb_ok rfl) (pj_as_all (p := pm_Ex 6 12046 ie_X12_plan.1 pm_rU lf a) (List.forall_mem_cons.mpr ⟨pu_X12_plan_130 _ (fun c0 s l x y h => hk130 c0 s l x y _ h), (List.forall_mem_cons.mpr ⟨pu_X12_plan_196 _ (fun c0 s l x y h => pg_X12_plan_196 hT hk130 c0 s l x y _ h), (fun _ h => by cases h)⟩)⟩))
set_option maxRecDepth 100000 in
theorem pg_X12_plan_130 {fu : Nat} {lf : pj_Z → mj_M} (hT : pj_Lt pj_TR lf) : ∀ (n : Nat), ∀ (a2 : Int32) (s : Nat → Int32) (l : Nat → Int64) (x : Nat → Int32) (y : Nat → Int64) (a : Unit × pj_Z), pl_X12_plan_130 fu n a2 s l x y = some a → pm_Gd 6 12046 ie_X12_plan.1 pm_rU lf 130 [(0, .ref 124), (2, .int a2)] [] (s, l, x, y) a := by
  intro n
  induction n with
  | zero => intro a2 s l x y a h; cases (show (none : Option (Unit × pj_Z)) = some a from h)
  | succ n ih =>
    intro a2 s l x y a h
    exact pm_run ((pq_X12_plan_130 fu n a2 s l x y).symm.trans h) (pz_X12_plan hT) (pm_bks_ok pb_X12_plan) (pm_bks_ok pb_X12_plan _ _ rfl) (pm_ndb_ok rfl) (pj_as_all (p := pm_Ex 6 12046 ie_X12_plan.1 pm_rU lf a) (List.forall_mem_cons.mpr ⟨pu_X12_plan_130 _ (fun c0 s l x y h => ih c0 s l x y _ h), (List.forall_mem_cons.mpr ⟨pu_X12_plan_174 _ (fun c0 s l x y h => pg_X12_plan_174 hT (fun a2 s l x y a h => ih a2 s l x y a h) c0 s l x y _ h), (List.forall_mem_cons.mpr ⟨pu_X12_plan_196 _ (fun c0 s l x y h => pg_X12_plan_196 hT (fun a2 s l x y a h => ih a2 s l x y a h) c0 s l x y _ h), (fun _ h => by cases h)⟩)⟩)⟩))
set_option maxRecDepth 100000 in
theorem pg_X12_plan_87 {fu : Nat} {lf : pj_Z → mj_M} (hT : pj_Lt pj_TR lf) : ∀ (n : Nat), ∀ (a1 : Int32) (a2 : Int32) (s : Nat → Int32) (l : Nat → Int64) (x : Nat → Int32) (y : Nat → Int64) (a : Unit × pj_Z), pl_X12_plan_87 fu n a1 a2 s l x y = some a → pm_Gd 6 12046 ie_X12_plan.1 pm_rU lf 87 [(0, .ref 124), (1, .int a1), (2, .int a2)] [] (s, l, x, y) a := by
  intro n
  induction n with
  | zero => intro a1 a2 s l x y a h; cases (show (none : Option (Unit × pj_Z)) = some a from h)
  | succ n ih =>
    intro a1 a2 s l x y a h
    exact pm_run ((pq_X12_plan_87 fu n a1 a2 s l x y).symm.trans h) (pz_X12_plan hT) (pm_bks_ok pb_X12_plan) (pm_bks_ok pb_X12_plan _ _ rfl) (pm_ndb_ok rfl) (pj_as_all (p := pm_Ex 6 12046 ie_X12_plan.1 pm_rU lf a) (List.forall_mem_cons.mpr ⟨pu_X12_plan_87 _ (fun c0 c1 s l x y h => ih c0 c1 s l x y _ h), (List.forall_mem_cons.mpr ⟨pu_X12_plan_122 _ (fun c0 c1 s l x y h => pg_X12_plan_122 hT (fun a1 a2 s l x y a h => ih a1 a2 s l x y a h) c0 c1 s l x y _ h), (List.forall_mem_cons.mpr ⟨pu_X12_plan_130 _ (fun c0 s l x y h => pg_X12_plan_130 hT _ c0 s l x y _ h), (fun _ h => by cases h)⟩)⟩)⟩))
set_option maxRecDepth 100000 in
theorem pg_X12_plan_82 {fu : Nat} {lf : pj_Z → mj_M} (hT : pj_Lt pj_TR lf) : ∀ (a1 : Int32) (b1 : Int32) (s : Nat → Int32) (l : Nat → Int64) (x : Nat → Int32) (y : Nat → Int64) (a : Unit × pj_Z), pl_X12_plan_82 fu a1 b1 s l x y = some a → pm_Gd 6 12046 ie_X12_plan.1 pm_rU lf 82 [(0, .ref 124), (1, .int a1)] [.int b1, .ref 124] (s, l, x, y) a := by
  intro a1 b1 s l x y a h
  exact pm_run ((pq_X12_plan_82 fu a1 b1 s l x y).symm.trans h) (pz_X12_plan hT) (pm_bks_ok pb_X12_plan) (pm_bks_ok pb_X12_plan _ _ rfl) (pm_ndb_ok rfl) (pj_as_all (p := pm_Ex 6 12046 ie_X12_plan.1 pm_rU lf a) (List.forall_mem_cons.mpr ⟨pu_X12_plan_87 _ (fun c0 c1 s l x y h => pg_X12_plan_87 hT _ c0 c1 s l x y _ h), (fun _ h => by cases h)⟩))
set_option maxRecDepth 100000 in
theorem pg_X12_plan_77 {fu : Nat} {lf : pj_Z → mj_M} (hT : pj_Lt pj_TR lf) : ∀ (a1 : Int32) (s : Nat → Int32) (l : Nat → Int64) (x : Nat → Int32) (y : Nat → Int64) (a : Unit × pj_Z), pl_X12_plan_77 fu a1 s l x y = some a → pm_Gd 6 12046 ie_X12_plan.1 pm_rU lf 77 [(0, .ref 124), (1, .int a1)] [.ref 124] (s, l, x, y) a := by
  intro a1 s l x y a h
  exact pm_run ((pq_X12_plan_77 fu a1 s l x y).symm.trans h) (pz_X12_plan hT) (pm_bks_ok pb_X12_plan) (pm_bks_ok pb_X12_plan _ _ rfl) (pm_ndb_ok rfl) (pj_as_all (p := pm_Ex 6 12046 ie_X12_plan.1 pm_rU lf a) (List.forall_mem_cons.mpr ⟨pu_X12_plan_82 _ (fun c0 c1 s l x y h => pg_X12_plan_82 hT c0 c1 s l x y _ h), (fun _ h => by cases h)⟩))
set_option maxRecDepth 100000 in
theorem pg_X12_plan_81 {fu : Nat} {lf : pj_Z → mj_M} (hT : pj_Lt pj_TR lf) : ∀ (a1 : Int32) (s : Nat → Int32) (l : Nat → Int64) (x : Nat → Int32) (y : Nat → Int64) (a : Unit × pj_Z), pl_X12_plan_81 fu a1 s l x y = some a → pm_Gd 6 12046 ie_X12_plan.1 pm_rU lf 81 [(0, .ref 124), (1, .int a1)] [.ref 124] (s, l, x, y) a := by
  intro a1 s l x y a h
  exact pm_run ((pq_X12_plan_81 fu a1 s l x y).symm.trans h) (pz_X12_plan hT) (pm_bks_ok pb_X12_plan) (pm_bks_ok pb_X12_plan _ _ rfl) (pm_ndb_ok rfl) (pj_as_all (p := pm_Ex 6 12046 ie_X12_plan.1 pm_rU lf a) (List.forall_mem_cons.mpr ⟨pu_X12_plan_82 _ (fun c0 c1 s l x y h => pg_X12_plan_82 hT c0 c1 s l x y _ h), (fun _ h => by cases h)⟩))
set_option maxRecDepth 100000 in
theorem pg_X12_plan_46 {fu : Nat} {lf : pj_Z → mj_M} (hT : pj_Lt pj_TR lf) : ∀ (a1 : Int32) (b1 : Int32) (s : Nat → Int32) (l : Nat → Int64) (x : Nat → Int32) (y : Nat → Int64) (a : Unit × pj_Z), pl_X12_plan_46 fu a1 b1 s l x y = some a → pm_Gd 6 12046 ie_X12_plan.1 pm_rU lf 46 [(0, .ref 124), (1, .int a1)] [.int b1, .ref 124] (s, l, x, y) a := by
  intro a1 b1 s l x y a h
  exact pm_run ((pq_X12_plan_46 fu a1 b1 s l x y).symm.trans h) (pz_X12_plan hT) (pm_bks_ok pb_X12_plan) (pm_bks_ok pb_X12_plan _ _ rfl) (pm_ndb_ok rfl) (pj_as_all (p := pm_Ex 6 12046 ie_X12_plan.1 pm_rU lf a) (List.forall_mem_cons.mpr ⟨pu_X12_plan_77 _ (fun c0 s l x y h => pg_X12_plan_77 hT c0 s l x y _ h), (List.forall_mem_cons.mpr ⟨pu_X12_plan_81 _ (fun c0 s l x y h => pg_X12_plan_81 hT c0 s l x y _ h), (fun _ h => by cases h)⟩)⟩))
set_option maxRecDepth 100000 in
theorem pm_X12_plan {lf : pj_Z → mj_M} (hT : pj_Lt pj_TR lf)  (s : Nat → Int32) (l : Nat → Int64) (x : Nat → Int32) (y : Nat → Int64) (a : Unit × pj_Z) (h : pf_X12_plan  s l x y = some a) : mj_R ic_P 7 12046 [.ref 124] (lf (s, l, x, y)) (pm_rU a.1) (lf a.2) := by
  refine pm_main (Y := ie_X12_plan.1) rfl (Nat.le_of_ble_eq_true rfl) ?_
  exact pm_run ((pq_X12_plan_m 1000  s l x y).symm.trans h) (pz_X12_plan hT) (pm_bks_ok pb_X12_plan) (pm_bks_ok pb_X12_plan _ _ rfl) (pm_ndb_ok rfl) (pj_as_all (p := pm_Ex 6 12046 ie_X12_plan.1 pm_rU lf a) (List.forall_mem_cons.mpr ⟨pu_X12_plan_46 _ (fun c0 c1 s l x y h => pg_X12_plan_46 hT c0 c1 s l x y _ h), (fun _ h => by cases h)⟩))
abbrev ph_X12_plan {A : Type} : List pj_V → pj_Z → (List pj_V → pj_Z → Option A) → Option A := fun st z K => pj_pr st 124 0 fun st => pj_ps st (pj_b (pf_X12_plan  z.1 z.2.1 z.2.2.1 z.2.2.2) fun r s l x y => K st (s, l, x, y))
set_option maxRecDepth 100000 in
theorem pc_X12_plan {A : Type} {OK : A → Option Value → mj_M → Prop} {d j pc ix : Nat} {Y : mj_Y} {lf : pj_Z → mj_M} (hT : pj_Lt pj_TR lf) (hd : 7 ≤ d) (hl : mj_lk Y.2.2.2.2 pc = some (.invokevirtual ix, 3)) (hg : mj_pG ic_P j ix = some (12046, 0, some 12)) {lv : List (Nat × Value)} {st : List pj_V} {z : pj_Z} {K : List pj_V → pj_Z → Option A} {a : A} (hK : ∀ st z, K st z = some a → pj_Gd ic_P (mj_R ic_P d) j Y OK lf (pc + 3) lv (pj_es st) z a) (h : ph_X12_plan st z K = some a) : pj_Gd ic_P (mj_R ic_P d) j Y OK lf pc lv (pj_es st) z a := by
  obtain ⟨r0, e0, h⟩ := pj_pr_inv h
  obtain ⟨hs, h⟩ := pj_ps_inv h
  obtain ⟨q, hq, h⟩ := pj_b_inv h
  exact pm_cv (o := 124) hl hg [] rfl (by rw [e0]; rfl) hs (by decide) ((hT.2 124 _ rfl).1.2 z 0 (by decide)) (pm_rU q.1) hd (pm_X12_plan hT  z.1 z.2.1 z.2.2.1 z.2.2.2 q hq) rfl (hK _ _ h)
abbrev pe_X12_crank_35 (f : Int64 → pj_F (Unit × pj_Z)) : pj_K (Unit × pj_Z) := fun lv st z => pj_xr lv 0 124 0 <| pj_pl st fun b0 st => pj_pe st (f b0 z.1 z.2.1 z.2.2.1 z.2.2.2)
abbrev pe_X12_crank_59 (f : Int64 → Int64 → pj_F (Unit × pj_Z)) : pj_K (Unit × pj_Z) := fun lv st z => pj_xr lv 0 124 0 <| pj_xl lv 1 fun a1 => pj_pl st fun b0 st => pj_pe st (f a1 b0 z.1 z.2.1 z.2.2.1 z.2.2.2)
abbrev pe_X12_crank_99 (f : Int64 → Int64 → pj_F (Unit × pj_Z)) : pj_K (Unit × pj_Z) := fun lv st z => pj_xr lv 0 124 0 <| pj_xl lv 1 fun a1 => pj_xl lv 3 fun a3 => pj_pe st (f a1 a3 z.1 z.2.1 z.2.2.1 z.2.2.2)
abbrev pe_X12_crank_100 (f : Int64 → Int64 → Int32 → pj_F (Unit × pj_Z)) : pj_K (Unit × pj_Z) := fun lv st z => pj_xr lv 0 124 0 <| pj_xl lv 1 fun a1 => pj_xl lv 3 fun a3 => pj_pi st fun b0 st => pj_pe st (f a1 a3 b0 z.1 z.2.1 z.2.2.1 z.2.2.2)
abbrev pe_X12_crank_121 (f : Int64 → Int64 → Int32 → Int64 → pj_F (Unit × pj_Z)) : pj_K (Unit × pj_Z) := fun lv st z => pj_xr lv 0 124 0 <| pj_xl lv 1 fun a1 => pj_xl lv 3 fun a3 => pj_xi lv 5 fun a5 => pj_pl st fun b0 st => pj_pe st (f a1 a3 a5 b0 z.1 z.2.1 z.2.2.1 z.2.2.2)
abbrev pe_X12_crank_188 (f : Int64 → Int64 → Int32 → Int64 → pj_F (Unit × pj_Z)) : pj_K (Unit × pj_Z) := fun lv st z => pj_xr lv 0 124 0 <| pj_xl lv 1 fun a1 => pj_xl lv 3 fun a3 => pj_xi lv 5 fun a5 => pj_xl lv 6 fun a6 => pj_xc lv 8 0 <| pj_pe st (f a1 a3 a5 a6 z.1 z.2.1 z.2.2.1 z.2.2.2)
abbrev pe_X12_crank_260 (f : Int64 → Int64 → pj_F (Unit × pj_Z)) : pj_K (Unit × pj_Z) := fun lv st z => pj_xr lv 0 124 0 <| pj_xl lv 1 fun a1 => pj_xl lv 3 fun a3 => pj_xc lv 8 0 <| pj_pe st (f a1 a3 z.1 z.2.1 z.2.2.1 z.2.2.2)
abbrev pe_X12_crank_316 (f : Int64 → pj_F (Unit × pj_Z)) : pj_K (Unit × pj_Z) := fun lv st z => pj_xr lv 0 124 0 <| pj_xl lv 3 fun a3 => pj_xc lv 8 0 <| pj_pe st (f a3 z.1 z.2.1 z.2.2.1 z.2.2.2)
abbrev pe_X12_crank_340 (f : Int32 → pj_F (Unit × pj_Z)) : pj_K (Unit × pj_Z) := fun lv st z => pj_xr lv 0 124 0 <| pj_xi lv 8 fun a8 => pj_pe st (f a8 z.1 z.2.1 z.2.2.1 z.2.2.2)
abbrev pe_X12_crank_397 (f : Int32 → pj_F (Unit × pj_Z)) : pj_K (Unit × pj_Z) := fun lv st z => pj_xr lv 0 124 0 <| pj_pi st fun b1 st => pj_pr st 124 0 fun st => pj_pe st (f b1 z.1 z.2.1 z.2.2.1 z.2.2.2)
abbrev pe_X12_crank_400 (f : pj_F (Unit × pj_Z)) : pj_K (Unit × pj_Z) := fun lv st z => pj_xr lv 0 124 0 <| pj_pe st (f  z.1 z.2.1 z.2.2.1 z.2.2.2)
abbrev px_X12_crank : pj_C (Unit × pj_Z) := ((pj_as [(124, 12, 195, 1, 0, true, 0, [(1, 1), (2, 125), (2, 126), (2, 127), (2, 128), (2, 129), (2, 130), (2, 131), (2, 132), (2, 133), (1, 2), (0, 44), (2, 134), (2, 135), (2, 136), (2, 137), (2, 138), (0, 69), (2, 139), (2, 140), (2, 141), (1, 3), (0, 93), (0, 94), (0, 45), (0, 46), (0, 48), (0, 49), (0, 47), (0, 50), (0, 51), (2, 142), (2, 143), (2, 144), (0, 19), (1, 4), (1, 5), (1, 6), (0, 20), (0, 21), (0, 22), (0, 23), (0, 24), (0, 25), (0, 27), (0, 28), (1, 7), (1, 8), (1, 9), (1, 10), (1, 11), (0, 26), (2, 145), (2, 146), (2, 147), (2, 148), (2, 149), (2, 150), (2, 151), (2, 152), (2, 153), (2, 154), (2, 155), (2, 156), (2, 157), (2, 158), (2, 159), (0, 57), (0, 58), (0, 59), (0, 60), (2, 160), (2, 161), (2, 162), (2, 163), (1, 12), (1, 13), (0, 95), (0, 73), (0, 74), (0, 71), (0, 72), (0, 75), (0, 76), (0, 77), (0, 80), (0, 78), (0, 79), (1, 14), (0, 29), (0, 30), (0, 31), (0, 34), (0, 35), (0, 32), (0, 33), (0, 36), (0, 37), (0, 38), (0, 39), (0, 40), (1, 15), (1, 16), (0, 43), (0, 41), (0, 42), (2, 164), (0, 96), (0, 89), (0, 90), (0, 91), (0, 92), (2, 165), (2, 166), (2, 167), (2, 168), (2, 169), (2, 170), (2, 171), (2, 172), (0, 87), (2, 173), (0, 88), (2, 174), (0, 62), (1, 17), (0, 66), (0, 63), (0, 64), (0, 65), (0, 67), (1, 18), (0, 68), (2, 175), (1, 19), (0, 52), (0, 53), (0, 54), (0, 55), (2, 176), (0, 56), (0, 85), (0, 86), (0, 81), (0, 82), (0, 83), (0, 84), (2, 177), (2, 178), (2, 179), (1, 20), (2, 180), (0, 6), (0, 7), (0, 8), (0, 16), (0, 17), (0, 61), (0, 9), (0, 10), (1, 21), (1, 22), (0, 11), (0, 12), (0, 13), (0, 18), (0, 14), (0, 15), (2, 181), (0, 70), (1, 23), (2, 182), (2, 183), (0, 1), (1, 24), (2, 184), (2, 185), (1, 25), (0, 2), (2, 186), (2, 187), (1, 26), (2, 188), (2, 189), (1, 27), (1, 28), (2, 190), (2, 191), (1, 29), (0, 3), (2, 192), (0, 4), (0, 5), (1, 30), (2, 193)])]), (pj_as [(262, 12, 34, 0, false), (265, 12, 35, 0, false), (268, 12, 36, 0, false), (271, 12, 37, 1, false), (275, 12, 38, 1, false), (278, 12, 39, 0, false), (281, 12, 40, 0, false), (287, 12, 42, 0, false), (290, 12, 43, 3, false), (519, 12, 23, 0, false), (594, 12, 22, 1, false)]), (fun _ => none), (pj_as [(630, 1000000), (643, 2), (645, 5), (647, 3)]), (fun _ => none), ic_X, 9, 0, pj_mU, (pj_as [(327, ph_X12_allOff), (409, ph_X12_plan)]), fun _ => false)
abbrev pk_X12_crank : List (Nat × List (Nat × Instr × Nat)) := [(0, [(0, .aload_n 0, 1), (1, .getfield 519, 3), (4, .ifCond .ne 4, 3)]), (7, [(7, .return_, 1)]), (8, [(8, .aload_n 0, 1), (9, .getfield 594, 3), (12, .aload_n 0, 1), (13, .getfield 275, 3), (16, .lsub, 1), (17, .lconst 1, 1), (18, .lcmp, 1), (19, .ifCond .ge 7, 3)]), (22, [(22, .lconst 1, 1), (23, .goto 12, 3)]), (26, [(26, .aload_n 0, 1), (27, .getfield 594, 3), (30, .aload_n 0, 1), (31, .getfield 275, 3), (34, .lsub, 1)]), (35, [(35, .lstore_n 1, 1), (36, .aload_n 0, 1), (37, .aload_n 0, 1), (38, .getfield 594, 3), (41, .putfield 275, 3), (44, .lload_n 1, 1), (45, .ldc2_w 630, 3), (48, .lcmp, 1), (49, .ifCond .le 9, 3)]), (52, [(52, .ldc2_w 630, 3), (55, .goto 4, 3)]), (58, [(58, .lload_n 1, 1)]), (59, [(59, .lstore_n 3, 1), (60, .aload_n 0, 1), (61, .getfield 271, 3), (64, .lconst 0, 1), (65, .lcmp, 1), (66, .ifCond .le 33, 3)]), (69, [(69, .lload_n 1, 1), (70, .ldc2_w 643, 3), (73, .aload_n 0, 1), (74, .getfield 271, 3), (77, .lmul, 1), (78, .lcmp, 1), (79, .ifCond .le 20, 3)]), (82, [(82, .lload_n 1, 1), (83, .ldc2_w 645, 3), (86, .aload_n 0, 1), (87, .getfield 271, 3), (90, .lmul, 1), (91, .lcmp, 1), (92, .ifCond .gt 7, 3)]), (95, [(95, .iconst 1, 1), (96, .goto 4, 3)]), (99, [(99, .iconst 0, 1)]), (100, [(100, .istore 5, 2), (102, .lload_n 1, 1), (103, .ldc2_w 647, 3), (106, .ldiv, 1), (107, .lconst 1, 1), (108, .lcmp, 1), (109, .ifCond .ge 7, 3)]), (112, [(112, .lconst 1, 1), (113, .goto 8, 3)]), (116, [(116, .lload_n 1, 1), (117, .ldc2_w 647, 3), (120, .ldiv, 1)]), (121, [(121, .lstore 6, 2), (123, .iconst 0, 1), (124, .istore 8, 2), (126, .aload_n 0, 1), (127, .getfield 262, 3), (130, .ifCond .ne 16, 3)]), (133, [(133, .aload_n 0, 1), (134, .iconst 1, 1), (135, .putfield 262, 3), (138, .aload_n 0, 1), (139, .lconst 0, 1), (140, .putfield 271, 3), (143, .goto 197, 3)]), (146, [(146, .aload_n 0, 1), (147, .getfield 262, 3), (150, .iconst 1, 1), (151, .if_icmp .ne 37, 3)]), (154, [(154, .iload 5, 2), (156, .ifCond .eq 32, 3)]), (159, [(159, .aload_n 0, 1), (160, .iconst 0, 1), (161, .putfield 265, 3), (164, .aload_n 0, 1), (165, .iconst 0, 1), (166, .putfield 268, 3), (169, .aload_n 0, 1), (170, .iconst 2, 1), (171, .putfield 262, 3), (174, .aload_n 0, 1), (175, .lload 6, 2), (177, .putfield 271, 3), (180, .aload_n 0, 1), (181, .iconst 0, 1), (182, .putfield 290, 3), (185, .goto 155, 3)]), (188, [(188, .aload_n 0, 1), (189, .getfield 262, 3), (192, .iconst 1, 1), (193, .if_icmp .ne 11, 3)]), (196, [(196, .aload_n 0, 1), (197, .lload_n 3, 1), (198, .putfield 271, 3), (201, .goto 139, 3)]), (204, [(204, .aload_n 0, 1), (205, .getfield 265, 3), (208, .bipush 57, 2), (210, .if_icmp .ne 50, 3)]), (213, [(213, .iload 5, 2), (215, .ifCond .eq 45, 3)]), (218, [(218, .aload_n 0, 1), (219, .iconst 0, 1), (220, .putfield 265, 3), (223, .aload_n 0, 1), (224, .iconst 1, 1), (225, .aload_n 0, 1), (226, .getfield 268, 3), (229, .isub, 1), (230, .putfield 268, 3), (233, .aload_n 0, 1), (234, .lload 6, 2), (236, .putfield 271, 3), (239, .aload_n 0, 1), (240, .dup, 1), (241, .getfield 287, 3), (244, .iconst 1, 1), (245, .iadd, 1), (246, .putfield 287, 3), (249, .aload_n 0, 1), (250, .iconst 0, 1), (251, .putfield 290, 3), (254, .iconst 1, 1), (255, .istore 8, 2), (257, .goto 83, 3)]), (260, [(260, .aload_n 0, 1), (261, .getfield 265, 3), (264, .bipush 57, 2), (266, .if_icmp .eq 50, 3)]), (269, [(269, .ldc2_w 643, 3), (272, .lload_n 1, 1), (273, .lmul, 1), (274, .aload_n 0, 1), (275, .getfield 271, 3), (278, .lcmp, 1), (279, .ifCond .le 37, 3)]), (282, [(282, .lload_n 1, 1), (283, .ldc2_w 643, 3), (286, .aload_n 0, 1), (287, .getfield 271, 3), (290, .lmul, 1), (291, .lcmp, 1), (292, .ifCond .gt 24, 3)]), (295, [(295, .aload_n 0, 1), (296, .dup, 1), (297, .getfield 265, 3), (300, .iconst 1, 1), (301, .iadd, 1), (302, .putfield 265, 3), (305, .aload_n 0, 1), (306, .lload_n 1, 1), (307, .putfield 271, 3), (310, .iconst 1, 1), (311, .istore 8, 2), (313, .goto 27, 3)]), (316, [(316, .aload_n 0, 1), (317, .dup, 1), (318, .getfield 278, 3), (321, .iconst 1, 1), (322, .iadd, 1), (323, .putfield 278, 3), (326, .aload_n 0, 1), (327, .invokevirtual 522, 3), (330, .aload_n 0, 1), (331, .iconst 1, 1), (332, .putfield 262, 3), (335, .aload_n 0, 1), (336, .lload_n 3, 1), (337, .putfield 271, 3)]), (340, [(340, .iload 8, 2), (342, .ifCond .eq 70, 3)]), (345, [(345, .aload_n 0, 1), (346, .getfield 262, 3), (349, .iconst 3, 1), (350, .if_icmp .ne 62, 3)]), (353, [(353, .aload_n 0, 1), (354, .getfield 265, 3), (357, .bipush 21, 2), (359, .if_icmp .ne 41, 3)]), (362, [(362, .aload_n 0, 1), (363, .getfield 268, 3), (366, .ifCond .ne 34, 3)]), (369, [(369, .aload_n 0, 1), (370, .getfield 290, 3), (373, .ifCond .ne 27, 3)]), (376, [(376, .aload_n 0, 1), (377, .aload_n 0, 1), (378, .getfield 281, 3), (381, .bipush 100, 2), (383, .if_icmp .ge 12, 3)]), (386, [(386, .aload_n 0, 1), (387, .getfield 281, 3), (390, .iconst 1, 1), (391, .iadd, 1), (392, .goto 5, 3)]), (395, [(395, .bipush 100, 2)]), (397, [(397, .putfield 281, 3)]), (400, [(400, .aload_n 0, 1), (401, .getfield 519, 3), (404, .iconst 1, 1), (405, .if_icmp .ne 7, 3)]), (408, [(408, .aload_n 0, 1), (409, .invokevirtual 649, 3)]), (412, [(412, .return_, 1)])]
set_option maxRecDepth 100000 in
theorem pq_X12_crank_400   (s : Nat → Int32) (l : Nat → Int64) (x : Nat → Int32) (y : Nat → Int64) : pl_X12_crank_400 s l x y = pj_bl px_X12_crank (pj_rn px_X12_crank (pj_as pk_X12_crank) (fun _ => none) 60) [(400, .aload_n 0, 1), (401, .getfield 519, 3), (404, .iconst 1, 1), (405, .if_icmp .ne 7, 3)] 400 [(0, pj_O (124, 0))] [] (s, l, x, y) := rfl
set_option maxRecDepth 100000 in
theorem pq_X12_crank_397  (b1 : Int32) (s : Nat → Int32) (l : Nat → Int64) (x : Nat → Int32) (y : Nat → Int64) : pl_X12_crank_397 b1 s l x y = pj_bl px_X12_crank (pj_rn px_X12_crank (pj_as pk_X12_crank) (pj_as [(400, pe_X12_crank_400 (pl_X12_crank_400))]) 60) [(397, .putfield 281, 3)] 397 [(0, pj_O (124, 0))] [pj_I b1, pj_O (124, 0)] (s, l, x, y) := rfl
set_option maxRecDepth 100000 in
theorem pq_X12_crank_340  (a8 : Int32) (s : Nat → Int32) (l : Nat → Int64) (x : Nat → Int32) (y : Nat → Int64) : pl_X12_crank_340 a8 s l x y = pj_bl px_X12_crank (pj_rn px_X12_crank (pj_as pk_X12_crank) (pj_as [(397, pe_X12_crank_397 (pl_X12_crank_397)), (400, pe_X12_crank_400 (pl_X12_crank_400))]) 60) [(340, .iload 8, 2), (342, .ifCond .eq 70, 3)] 340 [(0, pj_O (124, 0)), (8, pj_I a8)] [] (s, l, x, y) := rfl
set_option maxRecDepth 100000 in
theorem pq_X12_crank_316  (a3 : Int64) (s : Nat → Int32) (l : Nat → Int64) (x : Nat → Int32) (y : Nat → Int64) : pl_X12_crank_316 a3 s l x y = pj_bl px_X12_crank (pj_rn px_X12_crank (pj_as pk_X12_crank) (pj_as [(340, pe_X12_crank_340 (pl_X12_crank_340))]) 60) [(316, .aload_n 0, 1), (317, .dup, 1), (318, .getfield 278, 3), (321, .iconst 1, 1), (322, .iadd, 1), (323, .putfield 278, 3), (326, .aload_n 0, 1), (327, .invokevirtual 522, 3), (330, .aload_n 0, 1), (331, .iconst 1, 1), (332, .putfield 262, 3), (335, .aload_n 0, 1), (336, .lload_n 3, 1), (337, .putfield 271, 3)] 316 [(0, pj_O (124, 0)), (3, pj_L a3), (8, pj_N 0)] [] (s, l, x, y) := rfl
set_option maxRecDepth 100000 in
theorem pq_X12_crank_260  (a1 : Int64) (a3 : Int64) (s : Nat → Int32) (l : Nat → Int64) (x : Nat → Int32) (y : Nat → Int64) : pl_X12_crank_260 a1 a3 s l x y = pj_bl px_X12_crank (pj_rn px_X12_crank (pj_as pk_X12_crank) (pj_as [(316, pe_X12_crank_316 (pl_X12_crank_316)), (340, pe_X12_crank_340 (pl_X12_crank_340))]) 60) [(260, .aload_n 0, 1), (261, .getfield 265, 3), (264, .bipush 57, 2), (266, .if_icmp .eq 50, 3)] 260 [(0, pj_O (124, 0)), (1, pj_L a1), (3, pj_L a3), (8, pj_N 0)] [] (s, l, x, y) := rfl
set_option maxRecDepth 100000 in
theorem pq_X12_crank_188  (a1 : Int64) (a3 : Int64) (a5 : Int32) (a6 : Int64) (s : Nat → Int32) (l : Nat → Int64) (x : Nat → Int32) (y : Nat → Int64) : pl_X12_crank_188 a1 a3 a5 a6 s l x y = pj_bl px_X12_crank (pj_rn px_X12_crank (pj_as pk_X12_crank) (pj_as [(260, pe_X12_crank_260 (pl_X12_crank_260)), (340, pe_X12_crank_340 (pl_X12_crank_340))]) 60) [(188, .aload_n 0, 1), (189, .getfield 262, 3), (192, .iconst 1, 1), (193, .if_icmp .ne 11, 3)] 188 [(0, pj_O (124, 0)), (1, pj_L a1), (3, pj_L a3), (5, pj_I a5), (6, pj_L a6), (8, pj_N 0)] [] (s, l, x, y) := rfl
set_option maxRecDepth 100000 in
theorem pq_X12_crank_121  (a1 : Int64) (a3 : Int64) (a5 : Int32) (b0 : Int64) (s : Nat → Int32) (l : Nat → Int64) (x : Nat → Int32) (y : Nat → Int64) : pl_X12_crank_121 a1 a3 a5 b0 s l x y = pj_bl px_X12_crank (pj_rn px_X12_crank (pj_as pk_X12_crank) (pj_as [(188, pe_X12_crank_188 (pl_X12_crank_188)), (340, pe_X12_crank_340 (pl_X12_crank_340))]) 60) [(121, .lstore 6, 2), (123, .iconst 0, 1), (124, .istore 8, 2), (126, .aload_n 0, 1), (127, .getfield 262, 3), (130, .ifCond .ne 16, 3)] 121 [(0, pj_O (124, 0)), (1, pj_L a1), (3, pj_L a3), (5, pj_I a5)] [pj_L b0] (s, l, x, y) := rfl
set_option maxRecDepth 100000 in
theorem pq_X12_crank_100  (a1 : Int64) (a3 : Int64) (b0 : Int32) (s : Nat → Int32) (l : Nat → Int64) (x : Nat → Int32) (y : Nat → Int64) : pl_X12_crank_100 a1 a3 b0 s l x y = pj_bl px_X12_crank (pj_rn px_X12_crank (pj_as pk_X12_crank) (pj_as [(121, pe_X12_crank_121 (pl_X12_crank_121))]) 60) [(100, .istore 5, 2), (102, .lload_n 1, 1), (103, .ldc2_w 647, 3), (106, .ldiv, 1), (107, .lconst 1, 1), (108, .lcmp, 1), (109, .ifCond .ge 7, 3)] 100 [(0, pj_O (124, 0)), (1, pj_L a1), (3, pj_L a3)] [pj_I b0] (s, l, x, y) := rfl
set_option maxRecDepth 100000 in
theorem pq_X12_crank_99  (a1 : Int64) (a3 : Int64) (s : Nat → Int32) (l : Nat → Int64) (x : Nat → Int32) (y : Nat → Int64) : pl_X12_crank_99 a1 a3 s l x y = pj_bl px_X12_crank (pj_rn px_X12_crank (pj_as pk_X12_crank) (pj_as [(100, pe_X12_crank_100 (pl_X12_crank_100))]) 60) [(99, .iconst 0, 1)] 99 [(0, pj_O (124, 0)), (1, pj_L a1), (3, pj_L a3)] [] (s, l, x, y) := rfl
set_option maxRecDepth 100000 in
theorem pq_X12_crank_59  (a1 : Int64) (b0 : Int64) (s : Nat → Int32) (l : Nat → Int64) (x : Nat → Int32) (y : Nat → Int64) : pl_X12_crank_59 a1 b0 s l x y = pj_bl px_X12_crank (pj_rn px_X12_crank (pj_as pk_X12_crank) (pj_as [(99, pe_X12_crank_99 (pl_X12_crank_99)), (100, pe_X12_crank_100 (pl_X12_crank_100))]) 60) [(59, .lstore_n 3, 1), (60, .aload_n 0, 1), (61, .getfield 271, 3), (64, .lconst 0, 1), (65, .lcmp, 1), (66, .ifCond .le 33, 3)] 59 [(0, pj_O (124, 0)), (1, pj_L a1)] [pj_L b0] (s, l, x, y) := rfl
set_option maxRecDepth 100000 in
theorem pq_X12_crank_35  (b0 : Int64) (s : Nat → Int32) (l : Nat → Int64) (x : Nat → Int32) (y : Nat → Int64) : pl_X12_crank_35 b0 s l x y = pj_bl px_X12_crank (pj_rn px_X12_crank (pj_as pk_X12_crank) (pj_as [(59, pe_X12_crank_59 (pl_X12_crank_59))]) 60) [(35, .lstore_n 1, 1), (36, .aload_n 0, 1), (37, .aload_n 0, 1), (38, .getfield 594, 3), (41, .putfield 275, 3), (44, .lload_n 1, 1), (45, .ldc2_w 630, 3), (48, .lcmp, 1), (49, .ifCond .le 9, 3)] 35 [(0, pj_O (124, 0))] [pj_L b0] (s, l, x, y) := rfl
set_option maxRecDepth 100000 in
theorem pq_X12_crank_m   (s : Nat → Int32) (l : Nat → Int64) (x : Nat → Int32) (y : Nat → Int64) : pf_X12_crank  s l x y = pj_bl px_X12_crank (pj_rn px_X12_crank (pj_as pk_X12_crank) (pj_as [(35, pe_X12_crank_35 (pl_X12_crank_35))]) 60) [(0, .aload_n 0, 1), (1, .getfield 519, 3), (4, .ifCond .ne 4, 3)] 0 [(0, pj_O (124, 0))] [] (s, l, x, y) := rfl
theorem pu_X12_crank_35 {lf : pj_Z → mj_M} {a : Unit × pj_Z} (f : Int64 → pj_F (Unit × pj_Z)) (hf : ∀ (b0 : Int64) (s : Nat → Int32) (l : Nat → Int64) (x : Nat → Int32) (y : Nat → Int64), f b0 s l x y = some a → pm_Gd 7 12042 ie_X12_crank.1 pm_rU lf 35 [(0, .ref 124)] [.long b0] (s, l, x, y) a) : pm_Ex 7 12042 ie_X12_crank.1 pm_rU lf a 35 (pe_X12_crank_35 f) := by
  intro lv st z hd h
  obtain ⟨g0, h⟩ := pj_xr_inv h
  obtain ⟨b0, r0, e0, h⟩ := pj_pl_inv h
  obtain ⟨e9, h⟩ := pj_pe_inv h
  rw [e0, e9]
  exact mj_wp_sub (mj_sub_cons g0 (mj_sub_nil hd)) (hf _ _ _ _ _ h)
theorem pu_X12_crank_59 {lf : pj_Z → mj_M} {a : Unit × pj_Z} (f : Int64 → Int64 → pj_F (Unit × pj_Z)) (hf : ∀ (a1 : Int64) (b0 : Int64) (s : Nat → Int32) (l : Nat → Int64) (x : Nat → Int32) (y : Nat → Int64), f a1 b0 s l x y = some a → pm_Gd 7 12042 ie_X12_crank.1 pm_rU lf 59 [(0, .ref 124), (1, .long a1)] [.long b0] (s, l, x, y) a) : pm_Ex 7 12042 ie_X12_crank.1 pm_rU lf a 59 (pe_X12_crank_59 f) := by
  intro lv st z hd h
  obtain ⟨g0, h⟩ := pj_xr_inv h
  obtain ⟨a1, g1, h⟩ := pj_xl_inv h
  obtain ⟨b0, r0, e0, h⟩ := pj_pl_inv h
  obtain ⟨e9, h⟩ := pj_pe_inv h
  rw [e0, e9]
  exact mj_wp_sub (mj_sub_cons g0 (mj_sub_cons g1 (mj_sub_nil hd))) (hf _ _ _ _ _ _ h)
theorem pu_X12_crank_99 {lf : pj_Z → mj_M} {a : Unit × pj_Z} (f : Int64 → Int64 → pj_F (Unit × pj_Z)) (hf : ∀ (a1 : Int64) (a3 : Int64) (s : Nat → Int32) (l : Nat → Int64) (x : Nat → Int32) (y : Nat → Int64), f a1 a3 s l x y = some a → pm_Gd 7 12042 ie_X12_crank.1 pm_rU lf 99 [(0, .ref 124), (1, .long a1), (3, .long a3)] [] (s, l, x, y) a) : pm_Ex 7 12042 ie_X12_crank.1 pm_rU lf a 99 (pe_X12_crank_99 f) := by
  intro lv st z hd h
  obtain ⟨g0, h⟩ := pj_xr_inv h
  obtain ⟨a1, g1, h⟩ := pj_xl_inv h
  obtain ⟨a3, g3, h⟩ := pj_xl_inv h
  obtain ⟨e9, h⟩ := pj_pe_inv h
  rw [e9]
  exact mj_wp_sub (mj_sub_cons g0 (mj_sub_cons g1 (mj_sub_cons g3 (mj_sub_nil hd)))) (hf _ _ _ _ _ _ h)
theorem pu_X12_crank_100 {lf : pj_Z → mj_M} {a : Unit × pj_Z} (f : Int64 → Int64 → Int32 → pj_F (Unit × pj_Z)) (hf : ∀ (a1 : Int64) (a3 : Int64) (b0 : Int32) (s : Nat → Int32) (l : Nat → Int64) (x : Nat → Int32) (y : Nat → Int64), f a1 a3 b0 s l x y = some a → pm_Gd 7 12042 ie_X12_crank.1 pm_rU lf 100 [(0, .ref 124), (1, .long a1), (3, .long a3)] [.int b0] (s, l, x, y) a) : pm_Ex 7 12042 ie_X12_crank.1 pm_rU lf a 100 (pe_X12_crank_100 f) := by
  intro lv st z hd h
  obtain ⟨g0, h⟩ := pj_xr_inv h
  obtain ⟨a1, g1, h⟩ := pj_xl_inv h
  obtain ⟨a3, g3, h⟩ := pj_xl_inv h
  obtain ⟨b0, r0, e0, h⟩ := pj_pi_inv h
  obtain ⟨e9, h⟩ := pj_pe_inv h
  rw [e0, e9]
  exact mj_wp_sub (mj_sub_cons g0 (mj_sub_cons g1 (mj_sub_cons g3 (mj_sub_nil hd)))) (hf _ _ _ _ _ _ _ h)
theorem pu_X12_crank_121 {lf : pj_Z → mj_M} {a : Unit × pj_Z} (f : Int64 → Int64 → Int32 → Int64 → pj_F (Unit × pj_Z)) (hf : ∀ (a1 : Int64) (a3 : Int64) (a5 : Int32) (b0 : Int64) (s : Nat → Int32) (l : Nat → Int64) (x : Nat → Int32) (y : Nat → Int64), f a1 a3 a5 b0 s l x y = some a → pm_Gd 7 12042 ie_X12_crank.1 pm_rU lf 121 [(0, .ref 124), (1, .long a1), (3, .long a3), (5, .int a5)] [.long b0] (s, l, x, y) a) : pm_Ex 7 12042 ie_X12_crank.1 pm_rU lf a 121 (pe_X12_crank_121 f) := by
  intro lv st z hd h
  obtain ⟨g0, h⟩ := pj_xr_inv h
  obtain ⟨a1, g1, h⟩ := pj_xl_inv h
  obtain ⟨a3, g3, h⟩ := pj_xl_inv h
  obtain ⟨a5, g5, h⟩ := pj_xi_inv h
  obtain ⟨b0, r0, e0, h⟩ := pj_pl_inv h
  obtain ⟨e9, h⟩ := pj_pe_inv h
  rw [e0, e9]
  exact mj_wp_sub (mj_sub_cons g0 (mj_sub_cons g1 (mj_sub_cons g3 (mj_sub_cons g5 (mj_sub_nil hd))))) (hf _ _ _ _ _ _ _ _ h)
theorem pu_X12_crank_188 {lf : pj_Z → mj_M} {a : Unit × pj_Z} (f : Int64 → Int64 → Int32 → Int64 → pj_F (Unit × pj_Z)) (hf : ∀ (a1 : Int64) (a3 : Int64) (a5 : Int32) (a6 : Int64) (s : Nat → Int32) (l : Nat → Int64) (x : Nat → Int32) (y : Nat → Int64), f a1 a3 a5 a6 s l x y = some a → pm_Gd 7 12042 ie_X12_crank.1 pm_rU lf 188 [(0, .ref 124), (1, .long a1), (3, .long a3), (5, .int a5), (6, .long a6), (8, .int (Int32.ofInt 0))] [] (s, l, x, y) a) : pm_Ex 7 12042 ie_X12_crank.1 pm_rU lf a 188 (pe_X12_crank_188 f) := by
  intro lv st z hd h
  obtain ⟨g0, h⟩ := pj_xr_inv h
  obtain ⟨a1, g1, h⟩ := pj_xl_inv h
  obtain ⟨a3, g3, h⟩ := pj_xl_inv h
  obtain ⟨a5, g5, h⟩ := pj_xi_inv h
  obtain ⟨a6, g6, h⟩ := pj_xl_inv h
  obtain ⟨g8, h⟩ := pj_xc_inv h
  obtain ⟨e9, h⟩ := pj_pe_inv h
  rw [e9]
  exact mj_wp_sub (mj_sub_cons g0 (mj_sub_cons g1 (mj_sub_cons g3 (mj_sub_cons g5 (mj_sub_cons g6 (mj_sub_cons g8 (mj_sub_nil hd))))))) (hf _ _ _ _ _ _ _ _ h)
theorem pu_X12_crank_260 {lf : pj_Z → mj_M} {a : Unit × pj_Z} (f : Int64 → Int64 → pj_F (Unit × pj_Z)) (hf : ∀ (a1 : Int64) (a3 : Int64) (s : Nat → Int32) (l : Nat → Int64) (x : Nat → Int32) (y : Nat → Int64), f a1 a3 s l x y = some a → pm_Gd 7 12042 ie_X12_crank.1 pm_rU lf 260 [(0, .ref 124), (1, .long a1), (3, .long a3), (8, .int (Int32.ofInt 0))] [] (s, l, x, y) a) : pm_Ex 7 12042 ie_X12_crank.1 pm_rU lf a 260 (pe_X12_crank_260 f) := by
  intro lv st z hd h
  obtain ⟨g0, h⟩ := pj_xr_inv h
  obtain ⟨a1, g1, h⟩ := pj_xl_inv h
  obtain ⟨a3, g3, h⟩ := pj_xl_inv h
  obtain ⟨g8, h⟩ := pj_xc_inv h
  obtain ⟨e9, h⟩ := pj_pe_inv h
  rw [e9]
  exact mj_wp_sub (mj_sub_cons g0 (mj_sub_cons g1 (mj_sub_cons g3 (mj_sub_cons g8 (mj_sub_nil hd))))) (hf _ _ _ _ _ _ h)
theorem pu_X12_crank_316 {lf : pj_Z → mj_M} {a : Unit × pj_Z} (f : Int64 → pj_F (Unit × pj_Z)) (hf : ∀ (a3 : Int64) (s : Nat → Int32) (l : Nat → Int64) (x : Nat → Int32) (y : Nat → Int64), f a3 s l x y = some a → pm_Gd 7 12042 ie_X12_crank.1 pm_rU lf 316 [(0, .ref 124), (3, .long a3), (8, .int (Int32.ofInt 0))] [] (s, l, x, y) a) : pm_Ex 7 12042 ie_X12_crank.1 pm_rU lf a 316 (pe_X12_crank_316 f) := by
  intro lv st z hd h
  obtain ⟨g0, h⟩ := pj_xr_inv h
  obtain ⟨a3, g3, h⟩ := pj_xl_inv h
  obtain ⟨g8, h⟩ := pj_xc_inv h
  obtain ⟨e9, h⟩ := pj_pe_inv h
  rw [e9]
  exact mj_wp_sub (mj_sub_cons g0 (mj_sub_cons g3 (mj_sub_cons g8 (mj_sub_nil hd)))) (hf _ _ _ _ _ h)
theorem pu_X12_crank_340 {lf : pj_Z → mj_M} {a : Unit × pj_Z} (f : Int32 → pj_F (Unit × pj_Z)) (hf : ∀ (a8 : Int32) (s : Nat → Int32) (l : Nat → Int64) (x : Nat → Int32) (y : Nat → Int64), f a8 s l x y = some a → pm_Gd 7 12042 ie_X12_crank.1 pm_rU lf 340 [(0, .ref 124), (8, .int a8)] [] (s, l, x, y) a) : pm_Ex 7 12042 ie_X12_crank.1 pm_rU lf a 340 (pe_X12_crank_340 f) := by
  intro lv st z hd h
  obtain ⟨g0, h⟩ := pj_xr_inv h
  obtain ⟨a8, g8, h⟩ := pj_xi_inv h
  obtain ⟨e9, h⟩ := pj_pe_inv h
  rw [e9]
  exact mj_wp_sub (mj_sub_cons g0 (mj_sub_cons g8 (mj_sub_nil hd))) (hf _ _ _ _ _ h)
theorem pu_X12_crank_397 {lf : pj_Z → mj_M} {a : Unit × pj_Z} (f : Int32 → pj_F (Unit × pj_Z)) (hf : ∀ (b1 : Int32) (s : Nat → Int32) (l : Nat → Int64) (x : Nat → Int32) (y : Nat → Int64), f b1 s l x y = some a → pm_Gd 7 12042 ie_X12_crank.1 pm_rU lf 397 [(0, .ref 124)] [.int b1, .ref 124] (s, l, x, y) a) : pm_Ex 7 12042 ie_X12_crank.1 pm_rU lf a 397 (pe_X12_crank_397 f) := by
  intro lv st z hd h
  obtain ⟨g0, h⟩ := pj_xr_inv h
  obtain ⟨b1, r1, e1, h⟩ := pj_pi_inv h
  obtain ⟨r0, e0, h⟩ := pj_pr_inv h
  obtain ⟨e9, h⟩ := pj_pe_inv h
  rw [e1, e0, e9]
  exact mj_wp_sub (mj_sub_cons g0 (mj_sub_nil hd)) (hf _ _ _ _ _ h)
theorem pu_X12_crank_400 {lf : pj_Z → mj_M} {a : Unit × pj_Z} (f : pj_F (Unit × pj_Z)) (hf : ∀  (s : Nat → Int32) (l : Nat → Int64) (x : Nat → Int32) (y : Nat → Int64), f  s l x y = some a → pm_Gd 7 12042 ie_X12_crank.1 pm_rU lf 400 [(0, .ref 124)] [] (s, l, x, y) a) : pm_Ex 7 12042 ie_X12_crank.1 pm_rU lf a 400 (pe_X12_crank_400 f) := by
  intro lv st z hd h
  obtain ⟨g0, h⟩ := pj_xr_inv h
  obtain ⟨e9, h⟩ := pj_pe_inv h
  rw [e9]
  exact mj_wp_sub (mj_sub_cons g0 (mj_sub_nil hd)) (hf  _ _ _ _ h)
set_option maxRecDepth 100000 in
theorem pz_X12_crank {lf : pj_Z → mj_M} (hT : pj_Lt pj_TR lf) : pj_Cok ic_P (mj_R ic_P 7) 12042 ie_X12_crank.1 (pm_OK lf pm_rU) lf px_X12_crank := by
  exact pm_cok (c := px_X12_crank) (pm_part hT (pj_as_all (p := fun b e => pj_TR b = some e) (List.forall_mem_cons.mpr ⟨rfl, (fun _ h => by cases h)⟩))) (pm_in_ok (L := [(262, 12, 34, 0, false), (265, 12, 35, 0, false), (268, 12, 36, 0, false), (271, 12, 37, 1, false), (275, 12, 38, 1, false), (278, 12, 39, 0, false), (281, 12, 40, 0, false), (287, 12, 42, 0, false), (290, 12, 43, 3, false), (519, 12, 23, 0, false), (594, 12, 22, 1, false)]) (f := mj_pF ic_P 12042) (by decide +kernel)) (fun _ _ h => by cases h) (pm_inL_ok (L := [(630, 1000000), (643, 2), (645, 5), (647, 3)]) (f := mj_pL ic_P 12042) (by decide +kernel)) (fun _ _ h => by cases h) rfl rfl ⟨by decide, rfl⟩ pm_mU (pj_as_all (p := pm_Cl 7 12042 ie_X12_crank.1 lf (pm_OK lf pm_rU)) (List.forall_mem_cons.mpr ⟨fun _ _ lv st z K a hK h => pc_X12_allOff hT (by decide) (ix := 522) rfl rfl hK h, (List.forall_mem_cons.mpr ⟨fun _ _ lv st z K a hK h => pc_X12_plan hT (by decide) (ix := 649) rfl rfl hK h, (fun _ h => by cases h)⟩)⟩)) (fun _ h => by cases h)
set_option maxRecDepth 100000 in
theorem pb_X12_crank : pm_bks ie_X12_crank.1.2.2.2.2 pk_X12_crank = true := by decide +kernel
set_option maxRecDepth 100000 in
theorem pg_X12_crank_400 {lf : pj_Z → mj_M} (hT : pj_Lt pj_TR lf) : ∀  (s : Nat → Int32) (l : Nat → Int64) (x : Nat → Int32) (y : Nat → Int64) (a : Unit × pj_Z), pl_X12_crank_400 s l x y = some a → pm_Gd 7 12042 ie_X12_crank.1 pm_rU lf 400 [(0, .ref 124)] [] (s, l, x, y) a := by
  intro  s l x y a h
  exact pm_run ((pq_X12_crank_400   s l x y).symm.trans h) (pz_X12_crank hT) (pm_bks_ok pb_X12_crank) (pm_bks_ok pb_X12_crank _ _ rfl) (pm_ndb_ok rfl) (fun _ _ h => by cases h)
set_option maxRecDepth 100000 in
theorem pg_X12_crank_397 {lf : pj_Z → mj_M} (hT : pj_Lt pj_TR lf) : ∀ (b1 : Int32) (s : Nat → Int32) (l : Nat → Int64) (x : Nat → Int32) (y : Nat → Int64) (a : Unit × pj_Z), pl_X12_crank_397 b1 s l x y = some a → pm_Gd 7 12042 ie_X12_crank.1 pm_rU lf 397 [(0, .ref 124)] [.int b1, .ref 124] (s, l, x, y) a := by
  intro b1 s l x y a h
  exact pm_run ((pq_X12_crank_397  b1 s l x y).symm.trans h) (pz_X12_crank hT) (pm_bks_ok pb_X12_crank) (pm_bks_ok pb_X12_crank _ _ rfl) (pm_ndb_ok rfl) (pj_as_all (p := pm_Ex 7 12042 ie_X12_crank.1 pm_rU lf a) (List.forall_mem_cons.mpr ⟨pu_X12_crank_400 _ (fun  s l x y h => pg_X12_crank_400 hT  s l x y _ h), (fun _ h => by cases h)⟩))
set_option maxRecDepth 100000 in
theorem pg_X12_crank_340 {lf : pj_Z → mj_M} (hT : pj_Lt pj_TR lf) : ∀ (a8 : Int32) (s : Nat → Int32) (l : Nat → Int64) (x : Nat → Int32) (y : Nat → Int64) (a : Unit × pj_Z), pl_X12_crank_340 a8 s l x y = some a → pm_Gd 7 12042 ie_X12_crank.1 pm_rU lf 340 [(0, .ref 124), (8, .int a8)] [] (s, l, x, y) a := by
  intro a8 s l x y a h
  exact pm_run ((pq_X12_crank_340  a8 s l x y).symm.trans h) (pz_X12_crank hT) (pm_bks_ok pb_X12_crank) (pm_bks_ok pb_X12_crank _ _ rfl) (pm_ndb_ok rfl) (pj_as_all (p := pm_Ex 7 12042 ie_X12_crank.1 pm_rU lf a) (List.forall_mem_cons.mpr ⟨pu_X12_crank_397 _ (fun c0 s l x y h => pg_X12_crank_397 hT c0 s l x y _ h), (List.forall_mem_cons.mpr ⟨pu_X12_crank_400 _ (fun  s l x y h => pg_X12_crank_400 hT  s l x y _ h), (fun _ h => by cases h)⟩)⟩))
set_option maxRecDepth 100000 in
theorem pg_X12_crank_316 {lf : pj_Z → mj_M} (hT : pj_Lt pj_TR lf) : ∀ (a3 : Int64) (s : Nat → Int32) (l : Nat → Int64) (x : Nat → Int32) (y : Nat → Int64) (a : Unit × pj_Z), pl_X12_crank_316 a3 s l x y = some a → pm_Gd 7 12042 ie_X12_crank.1 pm_rU lf 316 [(0, .ref 124), (3, .long a3), (8, .int (Int32.ofInt 0))] [] (s, l, x, y) a := by
  intro a3 s l x y a h
  exact pm_run ((pq_X12_crank_316  a3 s l x y).symm.trans h) (pz_X12_crank hT) (pm_bks_ok pb_X12_crank) (pm_bks_ok pb_X12_crank _ _ rfl) (pm_ndb_ok rfl) (pj_as_all (p := pm_Ex 7 12042 ie_X12_crank.1 pm_rU lf a) (List.forall_mem_cons.mpr ⟨pu_X12_crank_340 _ (fun c0 s l x y h => pg_X12_crank_340 hT c0 s l x y _ h), (fun _ h => by cases h)⟩))
set_option maxRecDepth 100000 in
theorem pg_X12_crank_260 {lf : pj_Z → mj_M} (hT : pj_Lt pj_TR lf) : ∀ (a1 : Int64) (a3 : Int64) (s : Nat → Int32) (l : Nat → Int64) (x : Nat → Int32) (y : Nat → Int64) (a : Unit × pj_Z), pl_X12_crank_260 a1 a3 s l x y = some a → pm_Gd 7 12042 ie_X12_crank.1 pm_rU lf 260 [(0, .ref 124), (1, .long a1), (3, .long a3), (8, .int (Int32.ofInt 0))] [] (s, l, x, y) a := by
  intro a1 a3 s l x y a h
  exact pm_run ((pq_X12_crank_260  a1 a3 s l x y).symm.trans h) (pz_X12_crank hT) (pm_bks_ok pb_X12_crank) (pm_bks_ok pb_X12_crank _ _ rfl) (pm_ndb_ok rfl) (pj_as_all (p := pm_Ex 7 12042 ie_X12_crank.1 pm_rU lf a) (List.forall_mem_cons.mpr ⟨pu_X12_crank_316 _ (fun c0 s l x y h => pg_X12_crank_316 hT c0 s l x y _ h), (List.forall_mem_cons.mpr ⟨pu_X12_crank_340 _ (fun c0 s l x y h => pg_X12_crank_340 hT c0 s l x y _ h), (fun _ h => by cases h)⟩)⟩))
set_option maxRecDepth 100000 in
theorem pg_X12_crank_188 {lf : pj_Z → mj_M} (hT : pj_Lt pj_TR lf) : ∀ (a1 : Int64) (a3 : Int64) (a5 : Int32) (a6 : Int64) (s : Nat → Int32) (l : Nat → Int64) (x : Nat → Int32) (y : Nat → Int64) (a : Unit × pj_Z), pl_X12_crank_188 a1 a3 a5 a6 s l x y = some a → pm_Gd 7 12042 ie_X12_crank.1 pm_rU lf 188 [(0, .ref 124), (1, .long a1), (3, .long a3), (5, .int a5), (6, .long a6), (8, .int (Int32.ofInt 0))] [] (s, l, x, y) a := by
  intro a1 a3 a5 a6 s l x y a h
  exact pm_run ((pq_X12_crank_188  a1 a3 a5 a6 s l x y).symm.trans h) (pz_X12_crank hT) (pm_bks_ok pb_X12_crank) (pm_bks_ok pb_X12_crank _ _ rfl) (pm_ndb_ok rfl) (pj_as_all (p := pm_Ex 7 12042 ie_X12_crank.1 pm_rU lf a) (List.forall_mem_cons.mpr ⟨pu_X12_crank_260 _ (fun c0 c1 s l x y h => pg_X12_crank_260 hT c0 c1 s l x y _ h), (List.forall_mem_cons.mpr ⟨pu_X12_crank_340 _ (fun c0 s l x y h => pg_X12_crank_340 hT c0 s l x y _ h), (fun _ h => by cases h)⟩)⟩))
set_option maxRecDepth 100000 in
theorem pg_X12_crank_121 {lf : pj_Z → mj_M} (hT : pj_Lt pj_TR lf) : ∀ (a1 : Int64) (a3 : Int64) (a5 : Int32) (b0 : Int64) (s : Nat → Int32) (l : Nat → Int64) (x : Nat → Int32) (y : Nat → Int64) (a : Unit × pj_Z), pl_X12_crank_121 a1 a3 a5 b0 s l x y = some a → pm_Gd 7 12042 ie_X12_crank.1 pm_rU lf 121 [(0, .ref 124), (1, .long a1), (3, .long a3), (5, .int a5)] [.long b0] (s, l, x, y) a := by
  intro a1 a3 a5 b0 s l x y a h
  exact pm_run ((pq_X12_crank_121  a1 a3 a5 b0 s l x y).symm.trans h) (pz_X12_crank hT) (pm_bks_ok pb_X12_crank) (pm_bks_ok pb_X12_crank _ _ rfl) (pm_ndb_ok rfl) (pj_as_all (p := pm_Ex 7 12042 ie_X12_crank.1 pm_rU lf a) (List.forall_mem_cons.mpr ⟨pu_X12_crank_188 _ (fun c0 c1 c2 c3 s l x y h => pg_X12_crank_188 hT c0 c1 c2 c3 s l x y _ h), (List.forall_mem_cons.mpr ⟨pu_X12_crank_340 _ (fun c0 s l x y h => pg_X12_crank_340 hT c0 s l x y _ h), (fun _ h => by cases h)⟩)⟩))
set_option maxRecDepth 100000 in
theorem pg_X12_crank_100 {lf : pj_Z → mj_M} (hT : pj_Lt pj_TR lf) : ∀ (a1 : Int64) (a3 : Int64) (b0 : Int32) (s : Nat → Int32) (l : Nat → Int64) (x : Nat → Int32) (y : Nat → Int64) (a : Unit × pj_Z), pl_X12_crank_100 a1 a3 b0 s l x y = some a → pm_Gd 7 12042 ie_X12_crank.1 pm_rU lf 100 [(0, .ref 124), (1, .long a1), (3, .long a3)] [.int b0] (s, l, x, y) a := by
  intro a1 a3 b0 s l x y a h
  exact pm_run ((pq_X12_crank_100  a1 a3 b0 s l x y).symm.trans h) (pz_X12_crank hT) (pm_bks_ok pb_X12_crank) (pm_bks_ok pb_X12_crank _ _ rfl) (pm_ndb_ok rfl) (pj_as_all (p := pm_Ex 7 12042 ie_X12_crank.1 pm_rU lf a) (List.forall_mem_cons.mpr ⟨pu_X12_crank_121 _ (fun c0 c1 c2 c3 s l x y h => pg_X12_crank_121 hT c0 c1 c2 c3 s l x y _ h), (fun _ h => by cases h)⟩))
set_option maxRecDepth 100000 in
theorem pg_X12_crank_99 {lf : pj_Z → mj_M} (hT : pj_Lt pj_TR lf) : ∀ (a1 : Int64) (a3 : Int64) (s : Nat → Int32) (l : Nat → Int64) (x : Nat → Int32) (y : Nat → Int64) (a : Unit × pj_Z), pl_X12_crank_99 a1 a3 s l x y = some a → pm_Gd 7 12042 ie_X12_crank.1 pm_rU lf 99 [(0, .ref 124), (1, .long a1), (3, .long a3)] [] (s, l, x, y) a := by
  intro a1 a3 s l x y a h
  exact pm_run ((pq_X12_crank_99  a1 a3 s l x y).symm.trans h) (pz_X12_crank hT) (pm_bks_ok pb_X12_crank) (pm_bks_ok pb_X12_crank _ _ rfl) (pm_ndb_ok rfl) (pj_as_all (p := pm_Ex 7 12042 ie_X12_crank.1 pm_rU lf a) (List.forall_mem_cons.mpr ⟨pu_X12_crank_100 _ (fun c0 c1 c2 s l x y h => pg_X12_crank_100 hT c0 c1 c2 s l x y _ h), (fun _ h => by cases h)⟩))
set_option maxRecDepth 100000 in
theorem pg_X12_crank_59 {lf : pj_Z → mj_M} (hT : pj_Lt pj_TR lf) : ∀ (a1 : Int64) (b0 : Int64) (s : Nat → Int32) (l : Nat → Int64) (x : Nat → Int32) (y : Nat → Int64) (a : Unit × pj_Z), pl_X12_crank_59 a1 b0 s l x y = some a → pm_Gd 7 12042 ie_X12_crank.1 pm_rU lf 59 [(0, .ref 124), (1, .long a1)] [.long b0] (s, l, x, y) a := by
  intro a1 b0 s l x y a h
  exact pm_run ((pq_X12_crank_59  a1 b0 s l x y).symm.trans h) (pz_X12_crank hT) (pm_bks_ok pb_X12_crank) (pm_bks_ok pb_X12_crank _ _ rfl) (pm_ndb_ok rfl) (pj_as_all (p := pm_Ex 7 12042 ie_X12_crank.1 pm_rU lf a) (List.forall_mem_cons.mpr ⟨pu_X12_crank_99 _ (fun c0 c1 s l x y h => pg_X12_crank_99 hT c0 c1 s l x y _ h), (List.forall_mem_cons.mpr ⟨pu_X12_crank_100 _ (fun c0 c1 c2 s l x y h => pg_X12_crank_100 hT c0 c1 c2 s l x y _ h), (fun _ h => by cases h)⟩)⟩))
set_option maxRecDepth 100000 in
theorem pg_X12_crank_35 {lf : pj_Z → mj_M} (hT : pj_Lt pj_TR lf) : ∀ (b0 : Int64) (s : Nat → Int32) (l : Nat → Int64) (x : Nat → Int32) (y : Nat → Int64) (a : Unit × pj_Z), pl_X12_crank_35 b0 s l x y = some a → pm_Gd 7 12042 ie_X12_crank.1 pm_rU lf 35 [(0, .ref 124)] [.long b0] (s, l, x, y) a := by
  intro b0 s l x y a h
  exact pm_run ((pq_X12_crank_35  b0 s l x y).symm.trans h) (pz_X12_crank hT) (pm_bks_ok pb_X12_crank) (pm_bks_ok pb_X12_crank _ _ rfl) (pm_ndb_ok rfl) (pj_as_all (p := pm_Ex 7 12042 ie_X12_crank.1 pm_rU lf a) (List.forall_mem_cons.mpr ⟨pu_X12_crank_59 _ (fun c0 c1 s l x y h => pg_X12_crank_59 hT c0 c1 s l x y _ h), (fun _ h => by cases h)⟩))
set_option maxRecDepth 100000 in
theorem pm_X12_crank {lf : pj_Z → mj_M} (hT : pj_Lt pj_TR lf)  (s : Nat → Int32) (l : Nat → Int64) (x : Nat → Int32) (y : Nat → Int64) (a : Unit × pj_Z) (h : pf_X12_crank  s l x y = some a) : mj_R ic_P 8 12042 [.ref 124] (lf (s, l, x, y)) (pm_rU a.1) (lf a.2) := by
  refine pm_main (Y := ie_X12_crank.1) rfl (Nat.le_of_ble_eq_true rfl) ?_
  exact pm_run ((pq_X12_crank_m  s l x y).symm.trans h) (pz_X12_crank hT) (pm_bks_ok pb_X12_crank) (pm_bks_ok pb_X12_crank _ _ rfl) (pm_ndb_ok rfl) (pj_as_all (p := pm_Ex 7 12042 ie_X12_crank.1 pm_rU lf a) (List.forall_mem_cons.mpr ⟨pu_X12_crank_35 _ (fun c0 s l x y h => pg_X12_crank_35 hT c0 s l x y _ h), (fun _ h => by cases h)⟩))
abbrev ph_X12_crank {A : Type} : List pj_V → pj_Z → (List pj_V → pj_Z → Option A) → Option A := fun st z K => pj_pr st 124 0 fun st => pj_ps st (pj_b (pf_X12_crank  z.1 z.2.1 z.2.2.1 z.2.2.2) fun r s l x y => K st (s, l, x, y))
set_option maxRecDepth 100000 in
theorem pc_X12_crank {A : Type} {OK : A → Option Value → mj_M → Prop} {d j pc ix : Nat} {Y : mj_Y} {lf : pj_Z → mj_M} (hT : pj_Lt pj_TR lf) (hd : 8 ≤ d) (hl : mj_lk Y.2.2.2.2 pc = some (.invokevirtual ix, 3)) (hg : mj_pG ic_P j ix = some (12042, 0, some 12)) {lv : List (Nat × Value)} {st : List pj_V} {z : pj_Z} {K : List pj_V → pj_Z → Option A} {a : A} (hK : ∀ st z, K st z = some a → pj_Gd ic_P (mj_R ic_P d) j Y OK lf (pc + 3) lv (pj_es st) z a) (h : ph_X12_crank st z K = some a) : pj_Gd ic_P (mj_R ic_P d) j Y OK lf pc lv (pj_es st) z a := by
  obtain ⟨r0, e0, h⟩ := pj_pr_inv h
  obtain ⟨hs, h⟩ := pj_ps_inv h
  obtain ⟨q, hq, h⟩ := pj_b_inv h
  exact pm_cv (o := 124) hl hg [] rfl (by rw [e0]; rfl) hs (by decide) ((hT.2 124 _ rfl).1.2 z 0 (by decide)) (pm_rU q.1) hd (pm_X12_crank hT  z.1 z.2.1 z.2.2.1 z.2.2.2 q hq) rfl (hK _ _ h)
abbrev pe_X12_camEdge_30 (f : pj_F (Unit × pj_Z)) : pj_K (Unit × pj_Z) := fun lv st z => pj_xr lv 0 124 0 <| pj_pe st (f  z.1 z.2.1 z.2.2.1 z.2.2.2)
abbrev pe_X12_camEdge_31 (f : Int32 → pj_F (Unit × pj_Z)) : pj_K (Unit × pj_Z) := fun lv st z => pj_xr lv 0 124 0 <| pj_pi st fun b0 st => pj_pe st (f b0 z.1 z.2.1 z.2.2.1 z.2.2.2)
abbrev pe_X12_camEdge_67 (f : Int32 → pj_F (Unit × pj_Z)) : pj_K (Unit × pj_Z) := fun lv st z => pj_xr lv 0 124 0 <| pj_xi lv 1 fun a1 => pj_pe st (f a1 z.1 z.2.1 z.2.2.1 z.2.2.2)
abbrev pe_X12_camEdge_99 (f : pj_F (Unit × pj_Z)) : pj_K (Unit × pj_Z) := fun lv st z => pj_xr lv 0 124 0 <| pj_pe st (f  z.1 z.2.1 z.2.2.1 z.2.2.2)
abbrev px_X12_camEdge : pj_C (Unit × pj_Z) := ((pj_as [(124, 12, 195, 1, 0, true, 0, [(1, 1), (2, 125), (2, 126), (2, 127), (2, 128), (2, 129), (2, 130), (2, 131), (2, 132), (2, 133), (1, 2), (0, 44), (2, 134), (2, 135), (2, 136), (2, 137), (2, 138), (0, 69), (2, 139), (2, 140), (2, 141), (1, 3), (0, 93), (0, 94), (0, 45), (0, 46), (0, 48), (0, 49), (0, 47), (0, 50), (0, 51), (2, 142), (2, 143), (2, 144), (0, 19), (1, 4), (1, 5), (1, 6), (0, 20), (0, 21), (0, 22), (0, 23), (0, 24), (0, 25), (0, 27), (0, 28), (1, 7), (1, 8), (1, 9), (1, 10), (1, 11), (0, 26), (2, 145), (2, 146), (2, 147), (2, 148), (2, 149), (2, 150), (2, 151), (2, 152), (2, 153), (2, 154), (2, 155), (2, 156), (2, 157), (2, 158), (2, 159), (0, 57), (0, 58), (0, 59), (0, 60), (2, 160), (2, 161), (2, 162), (2, 163), (1, 12), (1, 13), (0, 95), (0, 73), (0, 74), (0, 71), (0, 72), (0, 75), (0, 76), (0, 77), (0, 80), (0, 78), (0, 79), (1, 14), (0, 29), (0, 30), (0, 31), (0, 34), (0, 35), (0, 32), (0, 33), (0, 36), (0, 37), (0, 38), (0, 39), (0, 40), (1, 15), (1, 16), (0, 43), (0, 41), (0, 42), (2, 164), (0, 96), (0, 89), (0, 90), (0, 91), (0, 92), (2, 165), (2, 166), (2, 167), (2, 168), (2, 169), (2, 170), (2, 171), (2, 172), (0, 87), (2, 173), (0, 88), (2, 174), (0, 62), (1, 17), (0, 66), (0, 63), (0, 64), (0, 65), (0, 67), (1, 18), (0, 68), (2, 175), (1, 19), (0, 52), (0, 53), (0, 54), (0, 55), (2, 176), (0, 56), (0, 85), (0, 86), (0, 81), (0, 82), (0, 83), (0, 84), (2, 177), (2, 178), (2, 179), (1, 20), (2, 180), (0, 6), (0, 7), (0, 8), (0, 16), (0, 17), (0, 61), (0, 9), (0, 10), (1, 21), (1, 22), (0, 11), (0, 12), (0, 13), (0, 18), (0, 14), (0, 15), (2, 181), (0, 70), (1, 23), (2, 182), (2, 183), (0, 1), (1, 24), (2, 184), (2, 185), (1, 25), (0, 2), (2, 186), (2, 187), (1, 26), (2, 188), (2, 189), (1, 27), (1, 28), (2, 190), (2, 191), (1, 29), (0, 3), (2, 192), (0, 4), (0, 5), (1, 30), (2, 193)])]), (pj_as [(262, 12, 34, 0, false), (265, 12, 35, 0, false), (268, 12, 36, 0, false), (281, 12, 40, 0, false), (284, 12, 41, 0, false), (290, 12, 43, 3, false), (519, 12, 23, 0, false)]), (fun _ => none), (fun _ => none), (fun _ => none), ic_X, 2, 0, pj_mU, (pj_as [(118, ph_X12_allOff)]), fun _ => false)
abbrev pk_X12_camEdge : List (Nat × List (Nat × Instr × Nat)) := [(0, [(0, .aload_n 0, 1), (1, .getfield 519, 3), (4, .ifCond .ne 4, 3)]), (7, [(7, .return_, 1)]), (8, [(8, .aload_n 0, 1), (9, .getfield 265, 3), (12, .bipush 10, 2), (14, .if_icmp .lt 16, 3)]), (17, [(17, .aload_n 0, 1), (18, .getfield 265, 3), (21, .bipush 20, 2), (23, .if_icmp .gt 7, 3)]), (26, [(26, .iconst 1, 1), (27, .goto 4, 3)]), (30, [(30, .iconst 0, 1)]), (31, [(31, .istore_n 1, 1), (32, .aload_n 0, 1), (33, .getfield 262, 3), (36, .iconst 2, 1), (37, .if_icmp .ne 30, 3)]), (40, [(40, .iload_n 1, 1), (41, .ifCond .eq 26, 3)]), (44, [(44, .aload_n 0, 1), (45, .iconst 0, 1), (46, .putfield 268, 3), (49, .aload_n 0, 1), (50, .iconst 3, 1), (51, .putfield 262, 3), (54, .aload_n 0, 1), (55, .iconst 0, 1), (56, .putfield 281, 3), (59, .aload_n 0, 1), (60, .iconst 1, 1), (61, .putfield 290, 3), (64, .goto 62, 3)]), (67, [(67, .aload_n 0, 1), (68, .getfield 262, 3), (71, .iconst 3, 1), (72, .if_icmp .ne 27, 3)]), (75, [(75, .iload_n 1, 1), (76, .ifCond .eq 23, 3)]), (79, [(79, .aload_n 0, 1), (80, .getfield 268, 3), (83, .ifCond .ne 16, 3)]), (86, [(86, .aload_n 0, 1), (87, .iconst 0, 1), (88, .putfield 281, 3), (91, .aload_n 0, 1), (92, .iconst 1, 1), (93, .putfield 290, 3), (96, .goto 30, 3)]), (99, [(99, .aload_n 0, 1), (100, .getfield 262, 3), (103, .iconst 3, 1), (104, .if_icmp .ne 22, 3)]), (107, [(107, .aload_n 0, 1), (108, .dup, 1), (109, .getfield 284, 3), (112, .iconst 1, 1), (113, .iadd, 1), (114, .putfield 284, 3), (117, .aload_n 0, 1), (118, .invokevirtual 522, 3), (121, .aload_n 0, 1), (122, .iconst 2, 1), (123, .putfield 262, 3)]), (126, [(126, .return_, 1)])]
set_option maxRecDepth 100000 in
theorem pq_X12_camEdge_99   (s : Nat → Int32) (l : Nat → Int64) (x : Nat → Int32) (y : Nat → Int64) : pl_X12_camEdge_99 s l x y = pj_bl px_X12_camEdge (pj_rn px_X12_camEdge (pj_as pk_X12_camEdge) (fun _ => none) 60) [(99, .aload_n 0, 1), (100, .getfield 262, 3), (103, .iconst 3, 1), (104, .if_icmp .ne 22, 3)] 99 [(0, pj_O (124, 0))] [] (s, l, x, y) := rfl
set_option maxRecDepth 100000 in
theorem pq_X12_camEdge_67  (a1 : Int32) (s : Nat → Int32) (l : Nat → Int64) (x : Nat → Int32) (y : Nat → Int64) : pl_X12_camEdge_67 a1 s l x y = pj_bl px_X12_camEdge (pj_rn px_X12_camEdge (pj_as pk_X12_camEdge) (pj_as [(99, pe_X12_camEdge_99 (pl_X12_camEdge_99))]) 60) [(67, .aload_n 0, 1), (68, .getfield 262, 3), (71, .iconst 3, 1), (72, .if_icmp .ne 27, 3)] 67 [(0, pj_O (124, 0)), (1, pj_I a1)] [] (s, l, x, y) := rfl
set_option maxRecDepth 100000 in
theorem pq_X12_camEdge_31  (b0 : Int32) (s : Nat → Int32) (l : Nat → Int64) (x : Nat → Int32) (y : Nat → Int64) : pl_X12_camEdge_31 b0 s l x y = pj_bl px_X12_camEdge (pj_rn px_X12_camEdge (pj_as pk_X12_camEdge) (pj_as [(67, pe_X12_camEdge_67 (pl_X12_camEdge_67))]) 60) [(31, .istore_n 1, 1), (32, .aload_n 0, 1), (33, .getfield 262, 3), (36, .iconst 2, 1), (37, .if_icmp .ne 30, 3)] 31 [(0, pj_O (124, 0))] [pj_I b0] (s, l, x, y) := rfl
set_option maxRecDepth 100000 in
theorem pq_X12_camEdge_30   (s : Nat → Int32) (l : Nat → Int64) (x : Nat → Int32) (y : Nat → Int64) : pl_X12_camEdge_30 s l x y = pj_bl px_X12_camEdge (pj_rn px_X12_camEdge (pj_as pk_X12_camEdge) (pj_as [(31, pe_X12_camEdge_31 (pl_X12_camEdge_31))]) 60) [(30, .iconst 0, 1)] 30 [(0, pj_O (124, 0))] [] (s, l, x, y) := rfl
set_option maxRecDepth 100000 in
theorem pq_X12_camEdge_m   (s : Nat → Int32) (l : Nat → Int64) (x : Nat → Int32) (y : Nat → Int64) : pf_X12_camEdge  s l x y = pj_bl px_X12_camEdge (pj_rn px_X12_camEdge (pj_as pk_X12_camEdge) (pj_as [(30, pe_X12_camEdge_30 (pl_X12_camEdge_30)), (31, pe_X12_camEdge_31 (pl_X12_camEdge_31))]) 60) [(0, .aload_n 0, 1), (1, .getfield 519, 3), (4, .ifCond .ne 4, 3)] 0 [(0, pj_O (124, 0))] [] (s, l, x, y) := rfl
theorem pu_X12_camEdge_30 {lf : pj_Z → mj_M} {a : Unit × pj_Z} (f : pj_F (Unit × pj_Z)) (hf : ∀  (s : Nat → Int32) (l : Nat → Int64) (x : Nat → Int32) (y : Nat → Int64), f  s l x y = some a → pm_Gd 2 12043 ie_X12_camEdge.1 pm_rU lf 30 [(0, .ref 124)] [] (s, l, x, y) a) : pm_Ex 2 12043 ie_X12_camEdge.1 pm_rU lf a 30 (pe_X12_camEdge_30 f) := by
  intro lv st z hd h
  obtain ⟨g0, h⟩ := pj_xr_inv h
  obtain ⟨e9, h⟩ := pj_pe_inv h
  rw [e9]
  exact mj_wp_sub (mj_sub_cons g0 (mj_sub_nil hd)) (hf  _ _ _ _ h)
theorem pu_X12_camEdge_31 {lf : pj_Z → mj_M} {a : Unit × pj_Z} (f : Int32 → pj_F (Unit × pj_Z)) (hf : ∀ (b0 : Int32) (s : Nat → Int32) (l : Nat → Int64) (x : Nat → Int32) (y : Nat → Int64), f b0 s l x y = some a → pm_Gd 2 12043 ie_X12_camEdge.1 pm_rU lf 31 [(0, .ref 124)] [.int b0] (s, l, x, y) a) : pm_Ex 2 12043 ie_X12_camEdge.1 pm_rU lf a 31 (pe_X12_camEdge_31 f) := by
  intro lv st z hd h
  obtain ⟨g0, h⟩ := pj_xr_inv h
  obtain ⟨b0, r0, e0, h⟩ := pj_pi_inv h
  obtain ⟨e9, h⟩ := pj_pe_inv h
  rw [e0, e9]
  exact mj_wp_sub (mj_sub_cons g0 (mj_sub_nil hd)) (hf _ _ _ _ _ h)
theorem pu_X12_camEdge_67 {lf : pj_Z → mj_M} {a : Unit × pj_Z} (f : Int32 → pj_F (Unit × pj_Z)) (hf : ∀ (a1 : Int32) (s : Nat → Int32) (l : Nat → Int64) (x : Nat → Int32) (y : Nat → Int64), f a1 s l x y = some a → pm_Gd 2 12043 ie_X12_camEdge.1 pm_rU lf 67 [(0, .ref 124), (1, .int a1)] [] (s, l, x, y) a) : pm_Ex 2 12043 ie_X12_camEdge.1 pm_rU lf a 67 (pe_X12_camEdge_67 f) := by
  intro lv st z hd h
  obtain ⟨g0, h⟩ := pj_xr_inv h
  obtain ⟨a1, g1, h⟩ := pj_xi_inv h
  obtain ⟨e9, h⟩ := pj_pe_inv h
  rw [e9]
  exact mj_wp_sub (mj_sub_cons g0 (mj_sub_cons g1 (mj_sub_nil hd))) (hf _ _ _ _ _ h)
theorem pu_X12_camEdge_99 {lf : pj_Z → mj_M} {a : Unit × pj_Z} (f : pj_F (Unit × pj_Z)) (hf : ∀  (s : Nat → Int32) (l : Nat → Int64) (x : Nat → Int32) (y : Nat → Int64), f  s l x y = some a → pm_Gd 2 12043 ie_X12_camEdge.1 pm_rU lf 99 [(0, .ref 124)] [] (s, l, x, y) a) : pm_Ex 2 12043 ie_X12_camEdge.1 pm_rU lf a 99 (pe_X12_camEdge_99 f) := by
  intro lv st z hd h
  obtain ⟨g0, h⟩ := pj_xr_inv h
  obtain ⟨e9, h⟩ := pj_pe_inv h
  rw [e9]
  exact mj_wp_sub (mj_sub_cons g0 (mj_sub_nil hd)) (hf  _ _ _ _ h)
set_option maxRecDepth 100000 in
theorem pz_X12_camEdge {lf : pj_Z → mj_M} (hT : pj_Lt pj_TR lf) : pj_Cok ic_P (mj_R ic_P 2) 12043 ie_X12_camEdge.1 (pm_OK lf pm_rU) lf px_X12_camEdge := by
  exact pm_cok (c := px_X12_camEdge) (pm_part hT (pj_as_all (p := fun b e => pj_TR b = some e) (List.forall_mem_cons.mpr ⟨rfl, (fun _ h => by cases h)⟩))) (pm_in_ok (L := [(262, 12, 34, 0, false), (265, 12, 35, 0, false), (268, 12, 36, 0, false), (281, 12, 40, 0, false), (284, 12, 41, 0, false), (290, 12, 43, 3, false), (519, 12, 23, 0, false)]) (f := mj_pF ic_P 12043) (by decide +kernel)) (fun _ _ h => by cases h) (fun _ _ h => by cases h) (fun _ _ h => by cases h) rfl rfl ⟨by decide, rfl⟩ pm_mU (pj_as_all (p := pm_Cl 2 12043 ie_X12_camEdge.1 lf (pm_OK lf pm_rU)) (List.forall_mem_cons.mpr ⟨fun _ _ lv st z K a hK h => pc_X12_allOff hT (by decide) (ix := 522) rfl rfl hK h, (fun _ h => by cases h)⟩)) (fun _ h => by cases h)
set_option maxRecDepth 100000 in
theorem pb_X12_camEdge : pm_bks ie_X12_camEdge.1.2.2.2.2 pk_X12_camEdge = true := by decide +kernel
set_option maxRecDepth 100000 in
theorem pg_X12_camEdge_99 {lf : pj_Z → mj_M} (hT : pj_Lt pj_TR lf) : ∀  (s : Nat → Int32) (l : Nat → Int64) (x : Nat → Int32) (y : Nat → Int64) (a : Unit × pj_Z), pl_X12_camEdge_99 s l x y = some a → pm_Gd 2 12043 ie_X12_camEdge.1 pm_rU lf 99 [(0, .ref 124)] [] (s, l, x, y) a := by
  intro  s l x y a h
  exact pm_run ((pq_X12_camEdge_99   s l x y).symm.trans h) (pz_X12_camEdge hT) (pm_bks_ok pb_X12_camEdge) (pm_bks_ok pb_X12_camEdge _ _ rfl) (pm_ndb_ok rfl) (fun _ _ h => by cases h)
set_option maxRecDepth 100000 in
theorem pg_X12_camEdge_67 {lf : pj_Z → mj_M} (hT : pj_Lt pj_TR lf) : ∀ (a1 : Int32) (s : Nat → Int32) (l : Nat → Int64) (x : Nat → Int32) (y : Nat → Int64) (a : Unit × pj_Z), pl_X12_camEdge_67 a1 s l x y = some a → pm_Gd 2 12043 ie_X12_camEdge.1 pm_rU lf 67 [(0, .ref 124), (1, .int a1)] [] (s, l, x, y) a := by
  intro a1 s l x y a h
  exact pm_run ((pq_X12_camEdge_67  a1 s l x y).symm.trans h) (pz_X12_camEdge hT) (pm_bks_ok pb_X12_camEdge) (pm_bks_ok pb_X12_camEdge _ _ rfl) (pm_ndb_ok rfl) (pj_as_all (p := pm_Ex 2 12043 ie_X12_camEdge.1 pm_rU lf a) (List.forall_mem_cons.mpr ⟨pu_X12_camEdge_99 _ (fun  s l x y h => pg_X12_camEdge_99 hT  s l x y _ h), (fun _ h => by cases h)⟩))
set_option maxRecDepth 100000 in
theorem pg_X12_camEdge_31 {lf : pj_Z → mj_M} (hT : pj_Lt pj_TR lf) : ∀ (b0 : Int32) (s : Nat → Int32) (l : Nat → Int64) (x : Nat → Int32) (y : Nat → Int64) (a : Unit × pj_Z), pl_X12_camEdge_31 b0 s l x y = some a → pm_Gd 2 12043 ie_X12_camEdge.1 pm_rU lf 31 [(0, .ref 124)] [.int b0] (s, l, x, y) a := by
  intro b0 s l x y a h
  exact pm_run ((pq_X12_camEdge_31  b0 s l x y).symm.trans h) (pz_X12_camEdge hT) (pm_bks_ok pb_X12_camEdge) (pm_bks_ok pb_X12_camEdge _ _ rfl) (pm_ndb_ok rfl) (pj_as_all (p := pm_Ex 2 12043 ie_X12_camEdge.1 pm_rU lf a) (List.forall_mem_cons.mpr ⟨pu_X12_camEdge_67 _ (fun c0 s l x y h => pg_X12_camEdge_67 hT c0 s l x y _ h), (fun _ h => by cases h)⟩))
set_option maxRecDepth 100000 in
theorem pg_X12_camEdge_30 {lf : pj_Z → mj_M} (hT : pj_Lt pj_TR lf) : ∀  (s : Nat → Int32) (l : Nat → Int64) (x : Nat → Int32) (y : Nat → Int64) (a : Unit × pj_Z), pl_X12_camEdge_30 s l x y = some a → pm_Gd 2 12043 ie_X12_camEdge.1 pm_rU lf 30 [(0, .ref 124)] [] (s, l, x, y) a := by
  intro  s l x y a h
  exact pm_run ((pq_X12_camEdge_30   s l x y).symm.trans h) (pz_X12_camEdge hT) (pm_bks_ok pb_X12_camEdge) (pm_bks_ok pb_X12_camEdge _ _ rfl) (pm_ndb_ok rfl) (pj_as_all (p := pm_Ex 2 12043 ie_X12_camEdge.1 pm_rU lf a) (List.forall_mem_cons.mpr ⟨pu_X12_camEdge_31 _ (fun c0 s l x y h => pg_X12_camEdge_31 hT c0 s l x y _ h), (fun _ h => by cases h)⟩))
set_option maxRecDepth 100000 in
theorem pm_X12_camEdge {lf : pj_Z → mj_M} (hT : pj_Lt pj_TR lf)  (s : Nat → Int32) (l : Nat → Int64) (x : Nat → Int32) (y : Nat → Int64) (a : Unit × pj_Z) (h : pf_X12_camEdge  s l x y = some a) : mj_R ic_P 3 12043 [.ref 124] (lf (s, l, x, y)) (pm_rU a.1) (lf a.2) := by
  refine pm_main (Y := ie_X12_camEdge.1) rfl (Nat.le_of_ble_eq_true rfl) ?_
  exact pm_run ((pq_X12_camEdge_m  s l x y).symm.trans h) (pz_X12_camEdge hT) (pm_bks_ok pb_X12_camEdge) (pm_bks_ok pb_X12_camEdge _ _ rfl) (pm_ndb_ok rfl) (pj_as_all (p := pm_Ex 2 12043 ie_X12_camEdge.1 pm_rU lf a) (List.forall_mem_cons.mpr ⟨pu_X12_camEdge_30 _ (fun  s l x y h => pg_X12_camEdge_30 hT  s l x y _ h), (List.forall_mem_cons.mpr ⟨pu_X12_camEdge_31 _ (fun c0 s l x y h => pg_X12_camEdge_31 hT c0 s l x y _ h), (fun _ h => by cases h)⟩)⟩))
abbrev ph_X12_camEdge {A : Type} : List pj_V → pj_Z → (List pj_V → pj_Z → Option A) → Option A := fun st z K => pj_pr st 124 0 fun st => pj_ps st (pj_b (pf_X12_camEdge  z.1 z.2.1 z.2.2.1 z.2.2.2) fun r s l x y => K st (s, l, x, y))
set_option maxRecDepth 100000 in
theorem pc_X12_camEdge {A : Type} {OK : A → Option Value → mj_M → Prop} {d j pc ix : Nat} {Y : mj_Y} {lf : pj_Z → mj_M} (hT : pj_Lt pj_TR lf) (hd : 3 ≤ d) (hl : mj_lk Y.2.2.2.2 pc = some (.invokevirtual ix, 3)) (hg : mj_pG ic_P j ix = some (12043, 0, some 12)) {lv : List (Nat × Value)} {st : List pj_V} {z : pj_Z} {K : List pj_V → pj_Z → Option A} {a : A} (hK : ∀ st z, K st z = some a → pj_Gd ic_P (mj_R ic_P d) j Y OK lf (pc + 3) lv (pj_es st) z a) (h : ph_X12_camEdge st z K = some a) : pj_Gd ic_P (mj_R ic_P d) j Y OK lf pc lv (pj_es st) z a := by
  obtain ⟨r0, e0, h⟩ := pj_pr_inv h
  obtain ⟨hs, h⟩ := pj_ps_inv h
  obtain ⟨q, hq, h⟩ := pj_b_inv h
  exact pm_cv (o := 124) hl hg [] rfl (by rw [e0]; rfl) hs (by decide) ((hT.2 124 _ rfl).1.2 z 0 (by decide)) (pm_rU q.1) hd (pm_X12_camEdge hT  z.1 z.2.1 z.2.2.1 z.2.2.2 q hq) rfl (hK _ _ h)
abbrev px_X12_say : pj_C (Unit × pj_Z) := ((pj_as [(124, 12, 195, 1, 0, true, 0, [(1, 1), (2, 125), (2, 126), (2, 127), (2, 128), (2, 129), (2, 130), (2, 131), (2, 132), (2, 133), (1, 2), (0, 44), (2, 134), (2, 135), (2, 136), (2, 137), (2, 138), (0, 69), (2, 139), (2, 140), (2, 141), (1, 3), (0, 93), (0, 94), (0, 45), (0, 46), (0, 48), (0, 49), (0, 47), (0, 50), (0, 51), (2, 142), (2, 143), (2, 144), (0, 19), (1, 4), (1, 5), (1, 6), (0, 20), (0, 21), (0, 22), (0, 23), (0, 24), (0, 25), (0, 27), (0, 28), (1, 7), (1, 8), (1, 9), (1, 10), (1, 11), (0, 26), (2, 145), (2, 146), (2, 147), (2, 148), (2, 149), (2, 150), (2, 151), (2, 152), (2, 153), (2, 154), (2, 155), (2, 156), (2, 157), (2, 158), (2, 159), (0, 57), (0, 58), (0, 59), (0, 60), (2, 160), (2, 161), (2, 162), (2, 163), (1, 12), (1, 13), (0, 95), (0, 73), (0, 74), (0, 71), (0, 72), (0, 75), (0, 76), (0, 77), (0, 80), (0, 78), (0, 79), (1, 14), (0, 29), (0, 30), (0, 31), (0, 34), (0, 35), (0, 32), (0, 33), (0, 36), (0, 37), (0, 38), (0, 39), (0, 40), (1, 15), (1, 16), (0, 43), (0, 41), (0, 42), (2, 164), (0, 96), (0, 89), (0, 90), (0, 91), (0, 92), (2, 165), (2, 166), (2, 167), (2, 168), (2, 169), (2, 170), (2, 171), (2, 172), (0, 87), (2, 173), (0, 88), (2, 174), (0, 62), (1, 17), (0, 66), (0, 63), (0, 64), (0, 65), (0, 67), (1, 18), (0, 68), (2, 175), (1, 19), (0, 52), (0, 53), (0, 54), (0, 55), (2, 176), (0, 56), (0, 85), (0, 86), (0, 81), (0, 82), (0, 83), (0, 84), (2, 177), (2, 178), (2, 179), (1, 20), (2, 180), (0, 6), (0, 7), (0, 8), (0, 16), (0, 17), (0, 61), (0, 9), (0, 10), (1, 21), (1, 22), (0, 11), (0, 12), (0, 13), (0, 18), (0, 14), (0, 15), (2, 181), (0, 70), (1, 23), (2, 182), (2, 183), (0, 1), (1, 24), (2, 184), (2, 185), (1, 25), (0, 2), (2, 186), (2, 187), (1, 26), (2, 188), (2, 189), (1, 27), (1, 28), (2, 190), (2, 191), (1, 29), (0, 3), (2, 192), (0, 4), (0, 5), (1, 30), (2, 193)]), (175, 100, 64, 1, 0, false, 11000, [])]), (pj_as [(179, 12, 133, 2, true), (807, 12, 134, 0, false)]), (fun _ => none), (fun _ => none), (fun _ => none), ic_X, 2, 0, pj_mU, (fun _ => none), fun _ => false)
abbrev pk_X12_say : List (Nat × List (Nat × Instr × Nat)) := [(0, [(0, .aload_n 0, 1), (1, .getfield 179, 3), (4, .aload_n 0, 1), (5, .getfield 807, 3), (8, .iload_n 1, 1), (9, .sipush 255, 3), (12, .iand, 1), (13, .iastore, 1), (14, .aload_n 0, 1), (15, .dup, 1), (16, .getfield 807, 3), (19, .iconst 1, 1), (20, .iadd, 1), (21, .putfield 807, 3), (24, .return_, 1)])]
set_option maxRecDepth 100000 in
theorem pq_X12_say_m  (a1 : Int32) (s : Nat → Int32) (l : Nat → Int64) (x : Nat → Int32) (y : Nat → Int64) : pf_X12_say a1 s l x y = pj_bl px_X12_say (pj_rn px_X12_say (pj_as pk_X12_say) (fun _ => none) 60) [(0, .aload_n 0, 1), (1, .getfield 179, 3), (4, .aload_n 0, 1), (5, .getfield 807, 3), (8, .iload_n 1, 1), (9, .sipush 255, 3), (12, .iand, 1), (13, .iastore, 1), (14, .aload_n 0, 1), (15, .dup, 1), (16, .getfield 807, 3), (19, .iconst 1, 1), (20, .iadd, 1), (21, .putfield 807, 3), (24, .return_, 1)] 0 [(0, pj_O (124, 0)), (1, pj_I a1)] [] (s, l, x, y) := rfl
set_option maxRecDepth 100000 in
theorem pz_X12_say {lf : pj_Z → mj_M} (hT : pj_Lt pj_TR lf) : pj_Cok ic_P (mj_R ic_P 0) 12066 ie_X12_say.1 (pm_OK lf pm_rU) lf px_X12_say := by
  exact pm_cok (c := px_X12_say) (pm_part hT (pj_as_all (p := fun b e => pj_TR b = some e) (List.forall_mem_cons.mpr ⟨rfl, (List.forall_mem_cons.mpr ⟨rfl, (fun _ h => by cases h)⟩)⟩))) (pm_in_ok (L := [(179, 12, 133, 2, true), (807, 12, 134, 0, false)]) (f := mj_pF ic_P 12066) (by decide +kernel)) (fun _ _ h => by cases h) (fun _ _ h => by cases h) (fun _ _ h => by cases h) rfl rfl ⟨by decide, rfl⟩ pm_mU (fun _ _ h => by cases h) (fun _ h => by cases h)
set_option maxRecDepth 100000 in
theorem pb_X12_say : pm_bks ie_X12_say.1.2.2.2.2 pk_X12_say = true := by decide +kernel
set_option maxRecDepth 100000 in
theorem pm_X12_say {lf : pj_Z → mj_M} (hT : pj_Lt pj_TR lf) (a1 : Int32) (s : Nat → Int32) (l : Nat → Int64) (x : Nat → Int32) (y : Nat → Int64) (a : Unit × pj_Z) (h : pf_X12_say a1 s l x y = some a) : mj_R ic_P 1 12066 [.ref 124, .int a1] (lf (s, l, x, y)) (pm_rU a.1) (lf a.2) := by
  refine pm_main (Y := ie_X12_say.1) rfl (Nat.le_of_ble_eq_true rfl) ?_
  exact pm_run ((pq_X12_say_m a1 s l x y).symm.trans h) (pz_X12_say hT) (pm_bks_ok pb_X12_say) (pm_bks_ok pb_X12_say _ _ rfl) (pm_ndb_ok rfl) (fun _ _ h => by cases h)
abbrev ph_X12_say {A : Type} : List pj_V → pj_Z → (List pj_V → pj_Z → Option A) → Option A := fun st z K => pj_pi st fun a1 st => pj_pr st 124 0 fun st => pj_ps st (pj_b (pf_X12_say a1 z.1 z.2.1 z.2.2.1 z.2.2.2) fun r s l x y => K st (s, l, x, y))
set_option maxRecDepth 100000 in
theorem pc_X12_say {A : Type} {OK : A → Option Value → mj_M → Prop} {d j pc ix : Nat} {Y : mj_Y} {lf : pj_Z → mj_M} (hT : pj_Lt pj_TR lf) (hd : 1 ≤ d) (hl : mj_lk Y.2.2.2.2 pc = some (.invokevirtual ix, 3)) (hg : mj_pG ic_P j ix = some (12066, 1, some 12)) {lv : List (Nat × Value)} {st : List pj_V} {z : pj_Z} {K : List pj_V → pj_Z → Option A} {a : A} (hK : ∀ st z, K st z = some a → pj_Gd ic_P (mj_R ic_P d) j Y OK lf (pc + 3) lv (pj_es st) z a) (h : ph_X12_say st z K = some a) : pj_Gd ic_P (mj_R ic_P d) j Y OK lf pc lv (pj_es st) z a := by
  obtain ⟨a1, r1, e1, h⟩ := pj_pi_inv h
  obtain ⟨r0, e0, h⟩ := pj_pr_inv h
  obtain ⟨hs, h⟩ := pj_ps_inv h
  obtain ⟨q, hq, h⟩ := pj_b_inv h
  exact pm_cv (o := 124) hl hg [.int a1] rfl (by rw [e1, e0]; rfl) hs (by decide) ((hT.2 124 _ rfl).1.2 z 0 (by decide)) (pm_rU q.1) hd (pm_X12_say hT a1 z.1 z.2.1 z.2.2.1 z.2.2.2 q hq) rfl (hK _ _ h)
abbrev px_X12_refuse : pj_C (Unit × pj_Z) := ((pj_as [(124, 12, 195, 1, 0, true, 0, [(1, 1), (2, 125), (2, 126), (2, 127), (2, 128), (2, 129), (2, 130), (2, 131), (2, 132), (2, 133), (1, 2), (0, 44), (2, 134), (2, 135), (2, 136), (2, 137), (2, 138), (0, 69), (2, 139), (2, 140), (2, 141), (1, 3), (0, 93), (0, 94), (0, 45), (0, 46), (0, 48), (0, 49), (0, 47), (0, 50), (0, 51), (2, 142), (2, 143), (2, 144), (0, 19), (1, 4), (1, 5), (1, 6), (0, 20), (0, 21), (0, 22), (0, 23), (0, 24), (0, 25), (0, 27), (0, 28), (1, 7), (1, 8), (1, 9), (1, 10), (1, 11), (0, 26), (2, 145), (2, 146), (2, 147), (2, 148), (2, 149), (2, 150), (2, 151), (2, 152), (2, 153), (2, 154), (2, 155), (2, 156), (2, 157), (2, 158), (2, 159), (0, 57), (0, 58), (0, 59), (0, 60), (2, 160), (2, 161), (2, 162), (2, 163), (1, 12), (1, 13), (0, 95), (0, 73), (0, 74), (0, 71), (0, 72), (0, 75), (0, 76), (0, 77), (0, 80), (0, 78), (0, 79), (1, 14), (0, 29), (0, 30), (0, 31), (0, 34), (0, 35), (0, 32), (0, 33), (0, 36), (0, 37), (0, 38), (0, 39), (0, 40), (1, 15), (1, 16), (0, 43), (0, 41), (0, 42), (2, 164), (0, 96), (0, 89), (0, 90), (0, 91), (0, 92), (2, 165), (2, 166), (2, 167), (2, 168), (2, 169), (2, 170), (2, 171), (2, 172), (0, 87), (2, 173), (0, 88), (2, 174), (0, 62), (1, 17), (0, 66), (0, 63), (0, 64), (0, 65), (0, 67), (1, 18), (0, 68), (2, 175), (1, 19), (0, 52), (0, 53), (0, 54), (0, 55), (2, 176), (0, 56), (0, 85), (0, 86), (0, 81), (0, 82), (0, 83), (0, 84), (2, 177), (2, 178), (2, 179), (1, 20), (2, 180), (0, 6), (0, 7), (0, 8), (0, 16), (0, 17), (0, 61), (0, 9), (0, 10), (1, 21), (1, 22), (0, 11), (0, 12), (0, 13), (0, 18), (0, 14), (0, 15), (2, 181), (0, 70), (1, 23), (2, 182), (2, 183), (0, 1), (1, 24), (2, 184), (2, 185), (1, 25), (0, 2), (2, 186), (2, 187), (1, 26), (2, 188), (2, 189), (1, 27), (1, 28), (2, 190), (2, 191), (1, 29), (0, 3), (2, 192), (0, 4), (0, 5), (1, 30), (2, 193)])]), (pj_as [(807, 12, 134, 0, false)]), (fun _ => none), (fun _ => none), (fun _ => none), ic_X, 3, 0, pj_mU, (pj_as [(8, ph_X12_say), (13, ph_X12_say), (18, ph_X12_say)]), fun _ => false)
abbrev pk_X12_refuse : List (Nat × List (Nat × Instr × Nat)) := [(0, [(0, .aload_n 0, 1), (1, .iconst 0, 1), (2, .putfield 807, 3), (5, .aload_n 0, 1), (6, .bipush 127, 2), (8, .invokevirtual 810, 3), (11, .aload_n 0, 1), (12, .iload_n 1, 1), (13, .invokevirtual 810, 3), (16, .aload_n 0, 1), (17, .iload_n 2, 1), (18, .invokevirtual 810, 3), (21, .return_, 1)])]
set_option maxRecDepth 100000 in
theorem pq_X12_refuse_m  (a1 : Int32) (a2 : Int32) (s : Nat → Int32) (l : Nat → Int64) (x : Nat → Int32) (y : Nat → Int64) : pf_X12_refuse a1 a2 s l x y = pj_bl px_X12_refuse (pj_rn px_X12_refuse (pj_as pk_X12_refuse) (fun _ => none) 60) [(0, .aload_n 0, 1), (1, .iconst 0, 1), (2, .putfield 807, 3), (5, .aload_n 0, 1), (6, .bipush 127, 2), (8, .invokevirtual 810, 3), (11, .aload_n 0, 1), (12, .iload_n 1, 1), (13, .invokevirtual 810, 3), (16, .aload_n 0, 1), (17, .iload_n 2, 1), (18, .invokevirtual 810, 3), (21, .return_, 1)] 0 [(0, pj_O (124, 0)), (1, pj_I a1), (2, pj_I a2)] [] (s, l, x, y) := rfl
set_option maxRecDepth 100000 in
theorem pz_X12_refuse {lf : pj_Z → mj_M} (hT : pj_Lt pj_TR lf) : pj_Cok ic_P (mj_R ic_P 1) 12070 ie_X12_refuse.1 (pm_OK lf pm_rU) lf px_X12_refuse := by
  exact pm_cok (c := px_X12_refuse) (pm_part hT (pj_as_all (p := fun b e => pj_TR b = some e) (List.forall_mem_cons.mpr ⟨rfl, (fun _ h => by cases h)⟩))) (pm_in_ok (L := [(807, 12, 134, 0, false)]) (f := mj_pF ic_P 12070) (by decide +kernel)) (fun _ _ h => by cases h) (fun _ _ h => by cases h) (fun _ _ h => by cases h) rfl rfl ⟨by decide, rfl⟩ pm_mU (pj_as_all (p := pm_Cl 1 12070 ie_X12_refuse.1 lf (pm_OK lf pm_rU)) (List.forall_mem_cons.mpr ⟨fun _ _ lv st z K a hK h => pc_X12_say hT (by decide) (ix := 810) rfl rfl hK h, (List.forall_mem_cons.mpr ⟨fun _ _ lv st z K a hK h => pc_X12_say hT (by decide) (ix := 810) rfl rfl hK h, (List.forall_mem_cons.mpr ⟨fun _ _ lv st z K a hK h => pc_X12_say hT (by decide) (ix := 810) rfl rfl hK h, (fun _ h => by cases h)⟩)⟩)⟩)) (fun _ h => by cases h)
set_option maxRecDepth 100000 in
theorem pb_X12_refuse : pm_bks ie_X12_refuse.1.2.2.2.2 pk_X12_refuse = true := by decide +kernel
set_option maxRecDepth 100000 in
theorem pm_X12_refuse {lf : pj_Z → mj_M} (hT : pj_Lt pj_TR lf) (a1 : Int32) (a2 : Int32) (s : Nat → Int32) (l : Nat → Int64) (x : Nat → Int32) (y : Nat → Int64) (a : Unit × pj_Z) (h : pf_X12_refuse a1 a2 s l x y = some a) : mj_R ic_P 2 12070 [.ref 124, .int a1, .int a2] (lf (s, l, x, y)) (pm_rU a.1) (lf a.2) := by
  refine pm_main (Y := ie_X12_refuse.1) rfl (Nat.le_of_ble_eq_true rfl) ?_
  exact pm_run ((pq_X12_refuse_m a1 a2 s l x y).symm.trans h) (pz_X12_refuse hT) (pm_bks_ok pb_X12_refuse) (pm_bks_ok pb_X12_refuse _ _ rfl) (pm_ndb_ok rfl) (fun _ _ h => by cases h)
abbrev ph_X12_refuse {A : Type} : List pj_V → pj_Z → (List pj_V → pj_Z → Option A) → Option A := fun st z K => pj_pi st fun a2 st => pj_pi st fun a1 st => pj_pr st 124 0 fun st => pj_ps st (pj_b (pf_X12_refuse a1 a2 z.1 z.2.1 z.2.2.1 z.2.2.2) fun r s l x y => K st (s, l, x, y))
set_option maxRecDepth 100000 in
theorem pc_X12_refuse {A : Type} {OK : A → Option Value → mj_M → Prop} {d j pc ix : Nat} {Y : mj_Y} {lf : pj_Z → mj_M} (hT : pj_Lt pj_TR lf) (hd : 2 ≤ d) (hl : mj_lk Y.2.2.2.2 pc = some (.invokevirtual ix, 3)) (hg : mj_pG ic_P j ix = some (12070, 2, some 12)) {lv : List (Nat × Value)} {st : List pj_V} {z : pj_Z} {K : List pj_V → pj_Z → Option A} {a : A} (hK : ∀ st z, K st z = some a → pj_Gd ic_P (mj_R ic_P d) j Y OK lf (pc + 3) lv (pj_es st) z a) (h : ph_X12_refuse st z K = some a) : pj_Gd ic_P (mj_R ic_P d) j Y OK lf pc lv (pj_es st) z a := by
  obtain ⟨a2, r2, e2, h⟩ := pj_pi_inv h
  obtain ⟨a1, r1, e1, h⟩ := pj_pi_inv h
  obtain ⟨r0, e0, h⟩ := pj_pr_inv h
  obtain ⟨hs, h⟩ := pj_ps_inv h
  obtain ⟨q, hq, h⟩ := pj_b_inv h
  exact pm_cv (o := 124) hl hg [.int a1, .int a2] rfl (by rw [e2, e1, e0]; rfl) hs (by decide) ((hT.2 124 _ rfl).1.2 z 0 (by decide)) (pm_rU q.1) hd (pm_X12_refuse hT a1 a2 z.1 z.2.1 z.2.2.1 z.2.2.2 q hq) rfl (hK _ _ h)
abbrev pe_X12_send_47 (f : Int32 → pj_F (Unit × pj_Z)) : pj_K (Unit × pj_Z) := fun lv st z => pj_xr lv 0 124 0 <| pj_xi lv 1 fun a1 => pj_pe st (f a1 z.1 z.2.1 z.2.2.1 z.2.2.2)
abbrev pe_X12_send_64 (f : Int32 → pj_F (Unit × pj_Z)) : pj_K (Unit × pj_Z) := fun lv st z => pj_xr lv 0 124 0 <| pj_xi lv 1 fun a1 => pj_pe st (f a1 z.1 z.2.1 z.2.2.1 z.2.2.2)
abbrev pe_X12_send_77 (f : Int32 → pj_F (Unit × pj_Z)) : pj_K (Unit × pj_Z) := fun lv st z => pj_xr lv 0 124 0 <| pj_xi lv 1 fun a1 => pj_pe st (f a1 z.1 z.2.1 z.2.2.1 z.2.2.2)
abbrev pe_X12_send_79 (f : Int32 → Int32 → pj_F (Unit × pj_Z)) : pj_K (Unit × pj_Z) := fun lv st z => pj_xr lv 0 124 0 <| pj_xi lv 1 fun a1 => pj_xi lv 2 fun a2 => pj_pe st (f a1 a2 z.1 z.2.1 z.2.2.1 z.2.2.2)
abbrev pe_X12_send_131 (f : Int32 → Int32 → pj_F (Unit × pj_Z)) : pj_K (Unit × pj_Z) := fun lv st z => pj_xr lv 0 124 0 <| pj_xi lv 2 fun a2 => pj_xi lv 3 fun a3 => pj_pe st (f a2 a3 z.1 z.2.1 z.2.2.1 z.2.2.2)
abbrev px_X12_send : pj_C (Unit × pj_Z) := ((pj_as [(124, 12, 195, 1, 0, true, 0, [(1, 1), (2, 125), (2, 126), (2, 127), (2, 128), (2, 129), (2, 130), (2, 131), (2, 132), (2, 133), (1, 2), (0, 44), (2, 134), (2, 135), (2, 136), (2, 137), (2, 138), (0, 69), (2, 139), (2, 140), (2, 141), (1, 3), (0, 93), (0, 94), (0, 45), (0, 46), (0, 48), (0, 49), (0, 47), (0, 50), (0, 51), (2, 142), (2, 143), (2, 144), (0, 19), (1, 4), (1, 5), (1, 6), (0, 20), (0, 21), (0, 22), (0, 23), (0, 24), (0, 25), (0, 27), (0, 28), (1, 7), (1, 8), (1, 9), (1, 10), (1, 11), (0, 26), (2, 145), (2, 146), (2, 147), (2, 148), (2, 149), (2, 150), (2, 151), (2, 152), (2, 153), (2, 154), (2, 155), (2, 156), (2, 157), (2, 158), (2, 159), (0, 57), (0, 58), (0, 59), (0, 60), (2, 160), (2, 161), (2, 162), (2, 163), (1, 12), (1, 13), (0, 95), (0, 73), (0, 74), (0, 71), (0, 72), (0, 75), (0, 76), (0, 77), (0, 80), (0, 78), (0, 79), (1, 14), (0, 29), (0, 30), (0, 31), (0, 34), (0, 35), (0, 32), (0, 33), (0, 36), (0, 37), (0, 38), (0, 39), (0, 40), (1, 15), (1, 16), (0, 43), (0, 41), (0, 42), (2, 164), (0, 96), (0, 89), (0, 90), (0, 91), (0, 92), (2, 165), (2, 166), (2, 167), (2, 168), (2, 169), (2, 170), (2, 171), (2, 172), (0, 87), (2, 173), (0, 88), (2, 174), (0, 62), (1, 17), (0, 66), (0, 63), (0, 64), (0, 65), (0, 67), (1, 18), (0, 68), (2, 175), (1, 19), (0, 52), (0, 53), (0, 54), (0, 55), (2, 176), (0, 56), (0, 85), (0, 86), (0, 81), (0, 82), (0, 83), (0, 84), (2, 177), (2, 178), (2, 179), (1, 20), (2, 180), (0, 6), (0, 7), (0, 8), (0, 16), (0, 17), (0, 61), (0, 9), (0, 10), (1, 21), (1, 22), (0, 11), (0, 12), (0, 13), (0, 18), (0, 14), (0, 15), (2, 181), (0, 70), (1, 23), (2, 182), (2, 183), (0, 1), (1, 24), (2, 184), (2, 185), (1, 25), (0, 2), (2, 186), (2, 187), (1, 26), (2, 188), (2, 189), (1, 27), (1, 28), (2, 190), (2, 191), (1, 29), (0, 3), (2, 192), (0, 4), (0, 5), (1, 30), (2, 193)]), (138, 100, 600, 1, 0, true, 38000, []), (174, 100, 68, 1, 0, true, 37000, []), (175, 100, 64, 1, 0, false, 11000, [])]), (pj_as [(56, 12, 16, 2, true), (176, 12, 123, 2, true), (179, 12, 133, 2, true), (807, 12, 134, 0, false), (820, 12, 17, 0, false)]), (fun _ => none), (fun _ => none), (fun _ => none), ic_X, 4, 0, pj_mU, (fun _ => none), fun _ => false)
abbrev pk_X12_send : List (Nat × List (Nat × Instr × Nat)) := [(0, [(0, .aload_n 0, 1), (1, .getfield 807, 3), (4, .ifCond .eq 20, 3)]), (7, [(7, .aload_n 0, 1), (8, .getfield 820, 3), (11, .aload_n 0, 1), (12, .getfield 807, 3), (15, .iadd, 1), (16, .iconst 4, 1), (17, .iadd, 1), (18, .sipush 600, 3), (21, .if_icmp .le 4, 3)]), (24, [(24, .return_, 1)]), (25, [(25, .aload_n 0, 1), (26, .getfield 820, 3), (29, .istore_n 1, 1), (30, .aload_n 0, 1), (31, .getfield 56, 3), (34, .aload_n 0, 1), (35, .getfield 820, 3), (38, .sipush 128, 3), (41, .aload_n 0, 1), (42, .getfield 807, 3), (45, .iadd, 1), (46, .iastore, 1)]), (47, [(47, .aload_n 0, 1), (48, .getfield 56, 3), (51, .aload_n 0, 1), (52, .getfield 820, 3), (55, .iconst 1, 1), (56, .iadd, 1), (57, .aload_n 0, 1), (58, .getfield 176, 3), (61, .iconst 2, 1), (62, .iaload, 1), (63, .iastore, 1)]), (64, [(64, .aload_n 0, 1), (65, .getfield 56, 3), (68, .aload_n 0, 1), (69, .getfield 820, 3), (72, .iconst 2, 1), (73, .iadd, 1), (74, .bipush 17, 2), (76, .iastore, 1)]), (77, [(77, .iconst 0, 1), (78, .istore_n 2, 1)]), (79, [(79, .iload_n 2, 1), (80, .aload_n 0, 1), (81, .getfield 807, 3), (84, .if_icmp .ge 28, 3)]), (87, [(87, .aload_n 0, 1), (88, .getfield 56, 3), (91, .aload_n 0, 1), (92, .getfield 820, 3), (95, .iconst 3, 1), (96, .iadd, 1), (97, .iload_n 2, 1), (98, .iadd, 1), (99, .aload_n 0, 1), (100, .getfield 179, 3), (103, .iload_n 2, 1), (104, .iaload, 1), (105, .iastore, 1), (106, .iinc 2 1, 3), (109, .goto (-30), 3)]), (112, [(112, .aload_n 0, 1), (113, .aload_n 0, 1), (114, .getfield 820, 3), (117, .aload_n 0, 1), (118, .getfield 807, 3), (121, .iadd, 1), (122, .iconst 3, 1), (123, .iadd, 1), (124, .putfield 820, 3), (127, .iconst 0, 1), (128, .istore_n 2, 1), (129, .iload_n 1, 1), (130, .istore_n 3, 1)]), (131, [(131, .iload_n 3, 1), (132, .aload_n 0, 1), (133, .getfield 820, 3), (136, .if_icmp .ge 18, 3)]), (139, [(139, .iload_n 2, 1), (140, .aload_n 0, 1), (141, .getfield 56, 3), (144, .iload_n 3, 1), (145, .iaload, 1), (146, .iadd, 1), (147, .istore_n 2, 1), (148, .iinc 3 1, 3), (151, .goto (-20), 3)]), (154, [(154, .aload_n 0, 1), (155, .getfield 56, 3), (158, .aload_n 0, 1), (159, .getfield 820, 3), (162, .iload_n 2, 1), (163, .sipush 255, 3), (166, .iand, 1), (167, .iastore, 1), (168, .aload_n 0, 1), (169, .dup, 1), (170, .getfield 820, 3), (173, .iconst 1, 1), (174, .iadd, 1), (175, .putfield 820, 3), (178, .return_, 1)])]
set_option maxRecDepth 100000 in
theorem pq_X12_send_131 (fu : Nat)  (n : Nat) (a2 : Int32) (a3 : Int32) (s : Nat → Int32) (l : Nat → Int64) (x : Nat → Int32) (y : Nat → Int64) : pl_X12_send_131 fu (n + 1) a2 a3 s l x y = pj_bl px_X12_send (pj_rn px_X12_send (pj_as pk_X12_send) (pj_as [(131, pe_X12_send_131 (pl_X12_send_131 fu n))]) 60) [(131, .iload_n 3, 1), (132, .aload_n 0, 1), (133, .getfield 820, 3), (136, .if_icmp .ge 18, 3)] 131 [(0, pj_O (124, 0)), (2, pj_I a2), (3, pj_I a3)] [] (s, l, x, y) := rfl
set_option maxRecDepth 100000 in
theorem pq_X12_send_79 (fu : Nat)  (n : Nat) (a1 : Int32) (a2 : Int32) (s : Nat → Int32) (l : Nat → Int64) (x : Nat → Int32) (y : Nat → Int64) : pl_X12_send_79 fu (n + 1) a1 a2 s l x y = pj_bl px_X12_send (pj_rn px_X12_send (pj_as pk_X12_send) (pj_as [(79, pe_X12_send_79 (pl_X12_send_79 fu n)), (131, pe_X12_send_131 (pl_X12_send_131 fu fu))]) 60) [(79, .iload_n 2, 1), (80, .aload_n 0, 1), (81, .getfield 807, 3), (84, .if_icmp .ge 28, 3)] 79 [(0, pj_O (124, 0)), (1, pj_I a1), (2, pj_I a2)] [] (s, l, x, y) := rfl
set_option maxRecDepth 100000 in
theorem pq_X12_send_77 (fu : Nat)  (a1 : Int32) (s : Nat → Int32) (l : Nat → Int64) (x : Nat → Int32) (y : Nat → Int64) : pl_X12_send_77 fu a1 s l x y = pj_bl px_X12_send (pj_rn px_X12_send (pj_as pk_X12_send) (pj_as [(79, pe_X12_send_79 (pl_X12_send_79 fu fu))]) 60) [(77, .iconst 0, 1), (78, .istore_n 2, 1)] 77 [(0, pj_O (124, 0)), (1, pj_I a1)] [] (s, l, x, y) := rfl
set_option maxRecDepth 100000 in
theorem pq_X12_send_64 (fu : Nat)  (a1 : Int32) (s : Nat → Int32) (l : Nat → Int64) (x : Nat → Int32) (y : Nat → Int64) : pl_X12_send_64 fu a1 s l x y = pj_bl px_X12_send (pj_rn px_X12_send (pj_as pk_X12_send) (pj_as [(77, pe_X12_send_77 (pl_X12_send_77 fu))]) 60) [(64, .aload_n 0, 1), (65, .getfield 56, 3), (68, .aload_n 0, 1), (69, .getfield 820, 3), (72, .iconst 2, 1), (73, .iadd, 1), (74, .bipush 17, 2), (76, .iastore, 1)] 64 [(0, pj_O (124, 0)), (1, pj_I a1)] [] (s, l, x, y) := rfl
set_option maxRecDepth 100000 in
theorem pq_X12_send_47 (fu : Nat)  (a1 : Int32) (s : Nat → Int32) (l : Nat → Int64) (x : Nat → Int32) (y : Nat → Int64) : pl_X12_send_47 fu a1 s l x y = pj_bl px_X12_send (pj_rn px_X12_send (pj_as pk_X12_send) (pj_as [(64, pe_X12_send_64 (pl_X12_send_64 fu))]) 60) [(47, .aload_n 0, 1), (48, .getfield 56, 3), (51, .aload_n 0, 1), (52, .getfield 820, 3), (55, .iconst 1, 1), (56, .iadd, 1), (57, .aload_n 0, 1), (58, .getfield 176, 3), (61, .iconst 2, 1), (62, .iaload, 1), (63, .iastore, 1)] 47 [(0, pj_O (124, 0)), (1, pj_I a1)] [] (s, l, x, y) := rfl
set_option maxRecDepth 100000 in
theorem pq_X12_send_m (fu : Nat)   (s : Nat → Int32) (l : Nat → Int64) (x : Nat → Int32) (y : Nat → Int64) : po_X12_send fu  s l x y = pj_bl px_X12_send (pj_rn px_X12_send (pj_as pk_X12_send) (pj_as [(47, pe_X12_send_47 (pl_X12_send_47 fu))]) 60) [(0, .aload_n 0, 1), (1, .getfield 807, 3), (4, .ifCond .eq 20, 3)] 0 [(0, pj_O (124, 0))] [] (s, l, x, y) := rfl
theorem pu_X12_send_47 {lf : pj_Z → mj_M} {a : Unit × pj_Z} (f : Int32 → pj_F (Unit × pj_Z)) (hf : ∀ (a1 : Int32) (s : Nat → Int32) (l : Nat → Int64) (x : Nat → Int32) (y : Nat → Int64), f a1 s l x y = some a → pm_Gd 0 12071 ie_X12_send.1 pm_rU lf 47 [(0, .ref 124), (1, .int a1)] [] (s, l, x, y) a) : pm_Ex 0 12071 ie_X12_send.1 pm_rU lf a 47 (pe_X12_send_47 f) := by
  intro lv st z hd h
  obtain ⟨g0, h⟩ := pj_xr_inv h
  obtain ⟨a1, g1, h⟩ := pj_xi_inv h
  obtain ⟨e9, h⟩ := pj_pe_inv h
  rw [e9]
  exact mj_wp_sub (mj_sub_cons g0 (mj_sub_cons g1 (mj_sub_nil hd))) (hf _ _ _ _ _ h)
theorem pu_X12_send_64 {lf : pj_Z → mj_M} {a : Unit × pj_Z} (f : Int32 → pj_F (Unit × pj_Z)) (hf : ∀ (a1 : Int32) (s : Nat → Int32) (l : Nat → Int64) (x : Nat → Int32) (y : Nat → Int64), f a1 s l x y = some a → pm_Gd 0 12071 ie_X12_send.1 pm_rU lf 64 [(0, .ref 124), (1, .int a1)] [] (s, l, x, y) a) : pm_Ex 0 12071 ie_X12_send.1 pm_rU lf a 64 (pe_X12_send_64 f) := by
  intro lv st z hd h
  obtain ⟨g0, h⟩ := pj_xr_inv h
  obtain ⟨a1, g1, h⟩ := pj_xi_inv h
  obtain ⟨e9, h⟩ := pj_pe_inv h
  rw [e9]
  exact mj_wp_sub (mj_sub_cons g0 (mj_sub_cons g1 (mj_sub_nil hd))) (hf _ _ _ _ _ h)
theorem pu_X12_send_77 {lf : pj_Z → mj_M} {a : Unit × pj_Z} (f : Int32 → pj_F (Unit × pj_Z)) (hf : ∀ (a1 : Int32) (s : Nat → Int32) (l : Nat → Int64) (x : Nat → Int32) (y : Nat → Int64), f a1 s l x y = some a → pm_Gd 0 12071 ie_X12_send.1 pm_rU lf 77 [(0, .ref 124), (1, .int a1)] [] (s, l, x, y) a) : pm_Ex 0 12071 ie_X12_send.1 pm_rU lf a 77 (pe_X12_send_77 f) := by
  intro lv st z hd h
  obtain ⟨g0, h⟩ := pj_xr_inv h
  obtain ⟨a1, g1, h⟩ := pj_xi_inv h
  obtain ⟨e9, h⟩ := pj_pe_inv h
  rw [e9]
  exact mj_wp_sub (mj_sub_cons g0 (mj_sub_cons g1 (mj_sub_nil hd))) (hf _ _ _ _ _ h)
theorem pu_X12_send_79 {lf : pj_Z → mj_M} {a : Unit × pj_Z} (f : Int32 → Int32 → pj_F (Unit × pj_Z)) (hf : ∀ (a1 : Int32) (a2 : Int32) (s : Nat → Int32) (l : Nat → Int64) (x : Nat → Int32) (y : Nat → Int64), f a1 a2 s l x y = some a → pm_Gd 0 12071 ie_X12_send.1 pm_rU lf 79 [(0, .ref 124), (1, .int a1), (2, .int a2)] [] (s, l, x, y) a) : pm_Ex 0 12071 ie_X12_send.1 pm_rU lf a 79 (pe_X12_send_79 f) := by
  intro lv st z hd h
  obtain ⟨g0, h⟩ := pj_xr_inv h
  obtain ⟨a1, g1, h⟩ := pj_xi_inv h
  obtain ⟨a2, g2, h⟩ := pj_xi_inv h
  obtain ⟨e9, h⟩ := pj_pe_inv h
  rw [e9]
  exact mj_wp_sub (mj_sub_cons g0 (mj_sub_cons g1 (mj_sub_cons g2 (mj_sub_nil hd)))) (hf _ _ _ _ _ _ h)
theorem pu_X12_send_131 {lf : pj_Z → mj_M} {a : Unit × pj_Z} (f : Int32 → Int32 → pj_F (Unit × pj_Z)) (hf : ∀ (a2 : Int32) (a3 : Int32) (s : Nat → Int32) (l : Nat → Int64) (x : Nat → Int32) (y : Nat → Int64), f a2 a3 s l x y = some a → pm_Gd 0 12071 ie_X12_send.1 pm_rU lf 131 [(0, .ref 124), (2, .int a2), (3, .int a3)] [] (s, l, x, y) a) : pm_Ex 0 12071 ie_X12_send.1 pm_rU lf a 131 (pe_X12_send_131 f) := by
  intro lv st z hd h
  obtain ⟨g0, h⟩ := pj_xr_inv h
  obtain ⟨a2, g2, h⟩ := pj_xi_inv h
  obtain ⟨a3, g3, h⟩ := pj_xi_inv h
  obtain ⟨e9, h⟩ := pj_pe_inv h
  rw [e9]
  exact mj_wp_sub (mj_sub_cons g0 (mj_sub_cons g2 (mj_sub_cons g3 (mj_sub_nil hd)))) (hf _ _ _ _ _ _ h)
set_option maxRecDepth 100000 in
theorem pz_X12_send {lf : pj_Z → mj_M} (hT : pj_Lt pj_TR lf) : pj_Cok ic_P (mj_R ic_P 0) 12071 ie_X12_send.1 (pm_OK lf pm_rU) lf px_X12_send := by
  exact pm_cok (c := px_X12_send) (pm_part hT (pj_as_all (p := fun b e => pj_TR b = some e) (List.forall_mem_cons.mpr ⟨rfl, (List.forall_mem_cons.mpr ⟨rfl, (List.forall_mem_cons.mpr ⟨rfl, (List.forall_mem_cons.mpr ⟨rfl, (fun _ h => by cases h)⟩)⟩)⟩)⟩))) (pm_in_ok (L := [(56, 12, 16, 2, true), (176, 12, 123, 2, true), (179, 12, 133, 2, true), (807, 12, 134, 0, false), (820, 12, 17, 0, false)]) (f := mj_pF ic_P 12071) (by decide +kernel)) (fun _ _ h => by cases h) (fun _ _ h => by cases h) (fun _ _ h => by cases h) rfl rfl ⟨by decide, rfl⟩ pm_mU (fun _ _ h => by cases h) (fun _ h => by cases h)
set_option maxRecDepth 100000 in
theorem pb_X12_send : pm_bks ie_X12_send.1.2.2.2.2 pk_X12_send = true := by decide +kernel
set_option maxRecDepth 100000 in
theorem pg_X12_send_131 {fu : Nat} {lf : pj_Z → mj_M} (hT : pj_Lt pj_TR lf) : ∀ (n : Nat), ∀ (a2 : Int32) (a3 : Int32) (s : Nat → Int32) (l : Nat → Int64) (x : Nat → Int32) (y : Nat → Int64) (a : Unit × pj_Z), pl_X12_send_131 fu n a2 a3 s l x y = some a → pm_Gd 0 12071 ie_X12_send.1 pm_rU lf 131 [(0, .ref 124), (2, .int a2), (3, .int a3)] [] (s, l, x, y) a := by
  intro n
  induction n with
  | zero => intro a2 a3 s l x y a h; cases (show (none : Option (Unit × pj_Z)) = some a from h)
  | succ n ih =>
    intro a2 a3 s l x y a h
    exact pm_run ((pq_X12_send_131 fu n a2 a3 s l x y).symm.trans h) (pz_X12_send hT) (pm_bks_ok pb_X12_send) (pm_bks_ok pb_X12_send _ _ rfl) (pm_ndb_ok rfl) (pj_as_all (p := pm_Ex 0 12071 ie_X12_send.1 pm_rU lf a) (List.forall_mem_cons.mpr ⟨pu_X12_send_131 _ (fun c0 c1 s l x y h => ih c0 c1 s l x y _ h), (fun _ h => by cases h)⟩))
set_option maxRecDepth 100000 in
theorem pg_X12_send_79 {fu : Nat} {lf : pj_Z → mj_M} (hT : pj_Lt pj_TR lf) : ∀ (n : Nat), ∀ (a1 : Int32) (a2 : Int32) (s : Nat → Int32) (l : Nat → Int64) (x : Nat → Int32) (y : Nat → Int64) (a : Unit × pj_Z), pl_X12_send_79 fu n a1 a2 s l x y = some a → pm_Gd 0 12071 ie_X12_send.1 pm_rU lf 79 [(0, .ref 124), (1, .int a1), (2, .int a2)] [] (s, l, x, y) a := by
  intro n
  induction n with
  | zero => intro a1 a2 s l x y a h; cases (show (none : Option (Unit × pj_Z)) = some a from h)
  | succ n ih =>
    intro a1 a2 s l x y a h
    exact pm_run ((pq_X12_send_79 fu n a1 a2 s l x y).symm.trans h) (pz_X12_send hT) (pm_bks_ok pb_X12_send) (pm_bks_ok pb_X12_send _ _ rfl) (pm_ndb_ok rfl) (pj_as_all (p := pm_Ex 0 12071 ie_X12_send.1 pm_rU lf a) (List.forall_mem_cons.mpr ⟨pu_X12_send_79 _ (fun c0 c1 s l x y h => ih c0 c1 s l x y _ h), (List.forall_mem_cons.mpr ⟨pu_X12_send_131 _ (fun c0 c1 s l x y h => pg_X12_send_131 hT _ c0 c1 s l x y _ h), (fun _ h => by cases h)⟩)⟩))
set_option maxRecDepth 100000 in
theorem pg_X12_send_77 {fu : Nat} {lf : pj_Z → mj_M} (hT : pj_Lt pj_TR lf) : ∀ (a1 : Int32) (s : Nat → Int32) (l : Nat → Int64) (x : Nat → Int32) (y : Nat → Int64) (a : Unit × pj_Z), pl_X12_send_77 fu a1 s l x y = some a → pm_Gd 0 12071 ie_X12_send.1 pm_rU lf 77 [(0, .ref 124), (1, .int a1)] [] (s, l, x, y) a := by
  intro a1 s l x y a h
  exact pm_run ((pq_X12_send_77 fu a1 s l x y).symm.trans h) (pz_X12_send hT) (pm_bks_ok pb_X12_send) (pm_bks_ok pb_X12_send _ _ rfl) (pm_ndb_ok rfl) (pj_as_all (p := pm_Ex 0 12071 ie_X12_send.1 pm_rU lf a) (List.forall_mem_cons.mpr ⟨pu_X12_send_79 _ (fun c0 c1 s l x y h => pg_X12_send_79 hT _ c0 c1 s l x y _ h), (fun _ h => by cases h)⟩))
set_option maxRecDepth 100000 in
theorem pg_X12_send_64 {fu : Nat} {lf : pj_Z → mj_M} (hT : pj_Lt pj_TR lf) : ∀ (a1 : Int32) (s : Nat → Int32) (l : Nat → Int64) (x : Nat → Int32) (y : Nat → Int64) (a : Unit × pj_Z), pl_X12_send_64 fu a1 s l x y = some a → pm_Gd 0 12071 ie_X12_send.1 pm_rU lf 64 [(0, .ref 124), (1, .int a1)] [] (s, l, x, y) a := by
  intro a1 s l x y a h
  exact pm_run ((pq_X12_send_64 fu a1 s l x y).symm.trans h) (pz_X12_send hT) (pm_bks_ok pb_X12_send) (pm_bks_ok pb_X12_send _ _ rfl) (pm_ndb_ok rfl) (pj_as_all (p := pm_Ex 0 12071 ie_X12_send.1 pm_rU lf a) (List.forall_mem_cons.mpr ⟨pu_X12_send_77 _ (fun c0 s l x y h => pg_X12_send_77 hT c0 s l x y _ h), (fun _ h => by cases h)⟩))
set_option maxRecDepth 100000 in
theorem pg_X12_send_47 {fu : Nat} {lf : pj_Z → mj_M} (hT : pj_Lt pj_TR lf) : ∀ (a1 : Int32) (s : Nat → Int32) (l : Nat → Int64) (x : Nat → Int32) (y : Nat → Int64) (a : Unit × pj_Z), pl_X12_send_47 fu a1 s l x y = some a → pm_Gd 0 12071 ie_X12_send.1 pm_rU lf 47 [(0, .ref 124), (1, .int a1)] [] (s, l, x, y) a := by
  intro a1 s l x y a h
  exact pm_run ((pq_X12_send_47 fu a1 s l x y).symm.trans h) (pz_X12_send hT) (pm_bks_ok pb_X12_send) (pm_bks_ok pb_X12_send _ _ rfl) (pm_ndb_ok rfl) (pj_as_all (p := pm_Ex 0 12071 ie_X12_send.1 pm_rU lf a) (List.forall_mem_cons.mpr ⟨pu_X12_send_64 _ (fun c0 s l x y h => pg_X12_send_64 hT c0 s l x y _ h), (fun _ h => by cases h)⟩))
set_option maxRecDepth 100000 in
theorem pm_X12_send {lf : pj_Z → mj_M} (hT : pj_Lt pj_TR lf)  (s : Nat → Int32) (l : Nat → Int64) (x : Nat → Int32) (y : Nat → Int64) (a : Unit × pj_Z) (h : pf_X12_send  s l x y = some a) : mj_R ic_P 1 12071 [.ref 124] (lf (s, l, x, y)) (pm_rU a.1) (lf a.2) := by
  refine pm_main (Y := ie_X12_send.1) rfl (Nat.le_of_ble_eq_true rfl) ?_
  exact pm_run ((pq_X12_send_m 1000  s l x y).symm.trans h) (pz_X12_send hT) (pm_bks_ok pb_X12_send) (pm_bks_ok pb_X12_send _ _ rfl) (pm_ndb_ok rfl) (pj_as_all (p := pm_Ex 0 12071 ie_X12_send.1 pm_rU lf a) (List.forall_mem_cons.mpr ⟨pu_X12_send_47 _ (fun c0 s l x y h => pg_X12_send_47 hT c0 s l x y _ h), (fun _ h => by cases h)⟩))
abbrev ph_X12_send {A : Type} : List pj_V → pj_Z → (List pj_V → pj_Z → Option A) → Option A := fun st z K => pj_pr st 124 0 fun st => pj_ps st (pj_b (pf_X12_send  z.1 z.2.1 z.2.2.1 z.2.2.2) fun r s l x y => K st (s, l, x, y))
set_option maxRecDepth 100000 in
theorem pc_X12_send {A : Type} {OK : A → Option Value → mj_M → Prop} {d j pc ix : Nat} {Y : mj_Y} {lf : pj_Z → mj_M} (hT : pj_Lt pj_TR lf) (hd : 1 ≤ d) (hl : mj_lk Y.2.2.2.2 pc = some (.invokevirtual ix, 3)) (hg : mj_pG ic_P j ix = some (12071, 0, some 12)) {lv : List (Nat × Value)} {st : List pj_V} {z : pj_Z} {K : List pj_V → pj_Z → Option A} {a : A} (hK : ∀ st z, K st z = some a → pj_Gd ic_P (mj_R ic_P d) j Y OK lf (pc + 3) lv (pj_es st) z a) (h : ph_X12_send st z K = some a) : pj_Gd ic_P (mj_R ic_P d) j Y OK lf pc lv (pj_es st) z a := by
  obtain ⟨r0, e0, h⟩ := pj_pr_inv h
  obtain ⟨hs, h⟩ := pj_ps_inv h
  obtain ⟨q, hq, h⟩ := pj_b_inv h
  exact pm_cv (o := 124) hl hg [] rfl (by rw [e0]; rfl) hs (by decide) ((hT.2 124 _ rfl).1.2 z 0 (by decide)) (pm_rU q.1) hd (pm_X12_send hT  z.1 z.2.1 z.2.2.1 z.2.2.2 q hq) rfl (hK _ _ h)
abbrev pe_X12_loaded_31 (f : pj_F (Unit × pj_Z)) : pj_K (Unit × pj_Z) := fun lv st z => pj_xr lv 0 124 0 <| pj_pe st (f  z.1 z.2.1 z.2.2.1 z.2.2.2)
abbrev pe_X12_loaded_44 (f : Int32 → Int32 → pj_F (Unit × pj_Z)) : pj_K (Unit × pj_Z) := fun lv st z => pj_xr lv 0 124 0 <| pj_xi lv 2 fun a2 => pj_xi lv 3 fun a3 => pj_pe st (f a2 a3 z.1 z.2.1 z.2.2.1 z.2.2.2)
abbrev pe_X12_loaded_112 (f : Int32 → Int32 → pj_F (Unit × pj_Z)) : pj_K (Unit × pj_Z) := fun lv st z => pj_xr lv 0 124 0 <| pj_xi lv 3 fun a3 => pj_xi lv 4 fun a4 => pj_pe st (f a3 a4 z.1 z.2.1 z.2.2.1 z.2.2.2)
abbrev px_X12_loaded : pj_C (Unit × pj_Z) := ((pj_as [(124, 12, 195, 1, 0, true, 0, [(1, 1), (2, 125), (2, 126), (2, 127), (2, 128), (2, 129), (2, 130), (2, 131), (2, 132), (2, 133), (1, 2), (0, 44), (2, 134), (2, 135), (2, 136), (2, 137), (2, 138), (0, 69), (2, 139), (2, 140), (2, 141), (1, 3), (0, 93), (0, 94), (0, 45), (0, 46), (0, 48), (0, 49), (0, 47), (0, 50), (0, 51), (2, 142), (2, 143), (2, 144), (0, 19), (1, 4), (1, 5), (1, 6), (0, 20), (0, 21), (0, 22), (0, 23), (0, 24), (0, 25), (0, 27), (0, 28), (1, 7), (1, 8), (1, 9), (1, 10), (1, 11), (0, 26), (2, 145), (2, 146), (2, 147), (2, 148), (2, 149), (2, 150), (2, 151), (2, 152), (2, 153), (2, 154), (2, 155), (2, 156), (2, 157), (2, 158), (2, 159), (0, 57), (0, 58), (0, 59), (0, 60), (2, 160), (2, 161), (2, 162), (2, 163), (1, 12), (1, 13), (0, 95), (0, 73), (0, 74), (0, 71), (0, 72), (0, 75), (0, 76), (0, 77), (0, 80), (0, 78), (0, 79), (1, 14), (0, 29), (0, 30), (0, 31), (0, 34), (0, 35), (0, 32), (0, 33), (0, 36), (0, 37), (0, 38), (0, 39), (0, 40), (1, 15), (1, 16), (0, 43), (0, 41), (0, 42), (2, 164), (0, 96), (0, 89), (0, 90), (0, 91), (0, 92), (2, 165), (2, 166), (2, 167), (2, 168), (2, 169), (2, 170), (2, 171), (2, 172), (0, 87), (2, 173), (0, 88), (2, 174), (0, 62), (1, 17), (0, 66), (0, 63), (0, 64), (0, 65), (0, 67), (1, 18), (0, 68), (2, 175), (1, 19), (0, 52), (0, 53), (0, 54), (0, 55), (2, 176), (0, 56), (0, 85), (0, 86), (0, 81), (0, 82), (0, 83), (0, 84), (2, 177), (2, 178), (2, 179), (1, 20), (2, 180), (0, 6), (0, 7), (0, 8), (0, 16), (0, 17), (0, 61), (0, 9), (0, 10), (1, 21), (1, 22), (0, 11), (0, 12), (0, 13), (0, 18), (0, 14), (0, 15), (2, 181), (0, 70), (1, 23), (2, 182), (2, 183), (0, 1), (1, 24), (2, 184), (2, 185), (1, 25), (0, 2), (2, 186), (2, 187), (1, 26), (2, 188), (2, 189), (1, 27), (1, 28), (2, 190), (2, 191), (1, 29), (0, 3), (2, 192), (0, 4), (0, 5), (1, 30), (2, 193)]), (132, 100, 32, 1, 0, true, 12000, []), (174, 100, 68, 1, 0, true, 37000, []), (182, 100, 16, 1, 0, true, 39000, [])]), (pj_as [(34, 12, 8, 2, true), (176, 12, 123, 2, true), (206, 12, 169, 0, false), (209, 12, 171, 2, true), (1050, 12, 170, 0, false)]), (pj_as [(1053, 65535)]), (fun _ => none), (fun _ => none), ic_X, 5, 0, pj_mU, (pj_as [(10, ph_X12_refuse), (36, ph_X12_refuse), (105, ph_X12_refuse), (145, ph_X12_writeBook), (154, ph_X12_say)]), fun _ => false)
abbrev pk_X12_loaded : List (Nat × List (Nat × Instr × Nat)) := [(0, [(0, .iload_n 1, 1), (1, .iconst 3, 1), (2, .if_icmp .eq 12, 3)]), (5, [(5, .aload_n 0, 1), (6, .bipush 55, 2), (8, .bipush 18, 2), (10, .invokevirtual 823, 3), (13, .return_, 1)]), (14, [(14, .aload_n 0, 1), (15, .getfield 206, 3), (18, .iconst (-1), 1), (19, .if_icmp .eq 12, 3)]), (22, [(22, .aload_n 0, 1), (23, .getfield 1050, 3), (26, .bipush 16, 2), (28, .if_icmp .ge 12, 3)]), (31, [(31, .aload_n 0, 1), (32, .bipush 55, 2), (34, .bipush 36, 2), (36, .invokevirtual 823, 3), (39, .return_, 1)]), (40, [(40, .iconst 0, 1), (41, .istore_n 2, 1), (42, .iconst 0, 1), (43, .istore_n 3, 1)]), (44, [(44, .iload_n 3, 1), (45, .bipush 16, 2), (47, .if_icmp .ge 18, 3)]), (50, [(50, .iload_n 2, 1), (51, .aload_n 0, 1), (52, .getfield 209, 3), (55, .iload_n 3, 1), (56, .iaload, 1), (57, .iadd, 1), (58, .istore_n 2, 1), (59, .iinc 3 1, 3), (62, .goto (-18), 3)]), (65, [(65, .aload_n 0, 1), (66, .getfield 206, 3), (69, .istore_n 3, 1), (70, .aload_n 0, 1), (71, .iconst (-1), 1), (72, .putfield 206, 3), (75, .iload_n 2, 1), (76, .ldc_w 1053, 3), (79, .iand, 1), (80, .sipush 256, 3), (83, .aload_n 0, 1), (84, .getfield 176, 3), (87, .iconst 4, 1), (88, .iaload, 1), (89, .imul, 1), (90, .aload_n 0, 1), (91, .getfield 176, 3), (94, .iconst 5, 1), (95, .iaload, 1), (96, .iadd, 1), (97, .if_icmp .eq 12, 3)]), (100, [(100, .aload_n 0, 1), (101, .bipush 55, 2), (103, .bipush 114, 2), (105, .invokevirtual 823, 3), (108, .return_, 1)]), (109, [(109, .iconst 0, 1), (110, .istore 4, 2)]), (112, [(112, .iload 4, 2), (114, .bipush 16, 2), (116, .if_icmp .ge 28, 3)]), (119, [(119, .aload_n 0, 1), (120, .getfield 34, 3), (123, .bipush 16, 2), (125, .iload_n 3, 1), (126, .imul, 1), (127, .iload 4, 2), (129, .iadd, 1), (130, .aload_n 0, 1), (131, .getfield 209, 3), (134, .iload 4, 2), (136, .iaload, 1), (137, .iastore, 1), (138, .iinc 4 1, 3), (141, .goto (-29), 3)]), (144, [(144, .aload_n 0, 1), (145, .invokevirtual 1054, 3), (148, .ifCond .eq 9, 3)]), (151, [(151, .aload_n 0, 1), (152, .bipush 119, 2), (154, .invokevirtual 810, 3)]), (157, [(157, .return_, 1)])]
set_option maxRecDepth 100000 in
theorem pq_X12_loaded_31 (fu : Nat)   (s : Nat → Int32) (l : Nat → Int64) (x : Nat → Int32) (y : Nat → Int64) : pl_X12_loaded_31 fu s l x y = pj_bl px_X12_loaded (pj_rn px_X12_loaded (pj_as pk_X12_loaded) (fun _ => none) 60) [(31, .aload_n 0, 1), (32, .bipush 55, 2), (34, .bipush 36, 2), (36, .invokevirtual 823, 3), (39, .return_, 1)] 31 [(0, pj_O (124, 0))] [] (s, l, x, y) := rfl
set_option maxRecDepth 100000 in
theorem pq_X12_loaded_112 (fu : Nat)  (n : Nat) (a3 : Int32) (a4 : Int32) (s : Nat → Int32) (l : Nat → Int64) (x : Nat → Int32) (y : Nat → Int64) : pl_X12_loaded_112 fu (n + 1) a3 a4 s l x y = pj_bl px_X12_loaded (pj_rn px_X12_loaded (pj_as pk_X12_loaded) (pj_as [(112, pe_X12_loaded_112 (pl_X12_loaded_112 fu n))]) 60) [(112, .iload 4, 2), (114, .bipush 16, 2), (116, .if_icmp .ge 28, 3)] 112 [(0, pj_O (124, 0)), (3, pj_I a3), (4, pj_I a4)] [] (s, l, x, y) := rfl
set_option maxRecDepth 100000 in
theorem pq_X12_loaded_44 (fu : Nat)  (n : Nat) (a2 : Int32) (a3 : Int32) (s : Nat → Int32) (l : Nat → Int64) (x : Nat → Int32) (y : Nat → Int64) : pl_X12_loaded_44 fu (n + 1) a2 a3 s l x y = pj_bl px_X12_loaded (pj_rn px_X12_loaded (pj_as pk_X12_loaded) (pj_as [(44, pe_X12_loaded_44 (pl_X12_loaded_44 fu n)), (112, pe_X12_loaded_112 (pl_X12_loaded_112 fu fu))]) 60) [(44, .iload_n 3, 1), (45, .bipush 16, 2), (47, .if_icmp .ge 18, 3)] 44 [(0, pj_O (124, 0)), (2, pj_I a2), (3, pj_I a3)] [] (s, l, x, y) := rfl
set_option maxRecDepth 100000 in
theorem pq_X12_loaded_m (fu : Nat)  (a1 : Int32) (s : Nat → Int32) (l : Nat → Int64) (x : Nat → Int32) (y : Nat → Int64) : po_X12_loaded fu a1 s l x y = pj_bl px_X12_loaded (pj_rn px_X12_loaded (pj_as pk_X12_loaded) (pj_as [(31, pe_X12_loaded_31 (pl_X12_loaded_31 fu)), (44, pe_X12_loaded_44 (pl_X12_loaded_44 fu fu))]) 60) [(0, .iload_n 1, 1), (1, .iconst 3, 1), (2, .if_icmp .eq 12, 3)] 0 [(0, pj_O (124, 0)), (1, pj_I a1)] [] (s, l, x, y) := rfl
theorem pu_X12_loaded_31 {lf : pj_Z → mj_M} {a : Unit × pj_Z} (f : pj_F (Unit × pj_Z)) (hf : ∀  (s : Nat → Int32) (l : Nat → Int64) (x : Nat → Int32) (y : Nat → Int64), f  s l x y = some a → pm_Gd 6 12150 ie_X12_loaded.1 pm_rU lf 31 [(0, .ref 124)] [] (s, l, x, y) a) : pm_Ex 6 12150 ie_X12_loaded.1 pm_rU lf a 31 (pe_X12_loaded_31 f) := by
  intro lv st z hd h
  obtain ⟨g0, h⟩ := pj_xr_inv h
  obtain ⟨e9, h⟩ := pj_pe_inv h
  rw [e9]
  exact mj_wp_sub (mj_sub_cons g0 (mj_sub_nil hd)) (hf  _ _ _ _ h)
theorem pu_X12_loaded_44 {lf : pj_Z → mj_M} {a : Unit × pj_Z} (f : Int32 → Int32 → pj_F (Unit × pj_Z)) (hf : ∀ (a2 : Int32) (a3 : Int32) (s : Nat → Int32) (l : Nat → Int64) (x : Nat → Int32) (y : Nat → Int64), f a2 a3 s l x y = some a → pm_Gd 6 12150 ie_X12_loaded.1 pm_rU lf 44 [(0, .ref 124), (2, .int a2), (3, .int a3)] [] (s, l, x, y) a) : pm_Ex 6 12150 ie_X12_loaded.1 pm_rU lf a 44 (pe_X12_loaded_44 f) := by
  intro lv st z hd h
  obtain ⟨g0, h⟩ := pj_xr_inv h
  obtain ⟨a2, g2, h⟩ := pj_xi_inv h
  obtain ⟨a3, g3, h⟩ := pj_xi_inv h
  obtain ⟨e9, h⟩ := pj_pe_inv h
  rw [e9]
  exact mj_wp_sub (mj_sub_cons g0 (mj_sub_cons g2 (mj_sub_cons g3 (mj_sub_nil hd)))) (hf _ _ _ _ _ _ h)
theorem pu_X12_loaded_112 {lf : pj_Z → mj_M} {a : Unit × pj_Z} (f : Int32 → Int32 → pj_F (Unit × pj_Z)) (hf : ∀ (a3 : Int32) (a4 : Int32) (s : Nat → Int32) (l : Nat → Int64) (x : Nat → Int32) (y : Nat → Int64), f a3 a4 s l x y = some a → pm_Gd 6 12150 ie_X12_loaded.1 pm_rU lf 112 [(0, .ref 124), (3, .int a3), (4, .int a4)] [] (s, l, x, y) a) : pm_Ex 6 12150 ie_X12_loaded.1 pm_rU lf a 112 (pe_X12_loaded_112 f) := by
  intro lv st z hd h
  obtain ⟨g0, h⟩ := pj_xr_inv h
  obtain ⟨a3, g3, h⟩ := pj_xi_inv h
  obtain ⟨a4, g4, h⟩ := pj_xi_inv h
  obtain ⟨e9, h⟩ := pj_pe_inv h
  rw [e9]
  exact mj_wp_sub (mj_sub_cons g0 (mj_sub_cons g3 (mj_sub_cons g4 (mj_sub_nil hd)))) (hf _ _ _ _ _ _ h)
set_option maxRecDepth 100000 in
theorem pz_X12_loaded {lf : pj_Z → mj_M} (hT : pj_Lt pj_TR lf) : pj_Cok ic_P (mj_R ic_P 6) 12150 ie_X12_loaded.1 (pm_OK lf pm_rU) lf px_X12_loaded := by
  exact pm_cok (c := px_X12_loaded) (pm_part hT (pj_as_all (p := fun b e => pj_TR b = some e) (List.forall_mem_cons.mpr ⟨rfl, (List.forall_mem_cons.mpr ⟨rfl, (List.forall_mem_cons.mpr ⟨rfl, (List.forall_mem_cons.mpr ⟨rfl, (fun _ h => by cases h)⟩)⟩)⟩)⟩))) (pm_in_ok (L := [(34, 12, 8, 2, true), (176, 12, 123, 2, true), (206, 12, 169, 0, false), (209, 12, 171, 2, true), (1050, 12, 170, 0, false)]) (f := mj_pF ic_P 12150) (by decide +kernel)) (pm_inI_ok (L := [(1053, 65535)]) (f := mj_pK ic_P 12150) (by decide +kernel)) (fun _ _ h => by cases h) (fun _ _ h => by cases h) rfl rfl ⟨by decide, rfl⟩ pm_mU (pj_as_all (p := pm_Cl 6 12150 ie_X12_loaded.1 lf (pm_OK lf pm_rU)) (List.forall_mem_cons.mpr ⟨fun _ _ lv st z K a hK h => pc_X12_refuse hT (by decide) (ix := 823) rfl rfl hK h, (List.forall_mem_cons.mpr ⟨fun _ _ lv st z K a hK h => pc_X12_refuse hT (by decide) (ix := 823) rfl rfl hK h, (List.forall_mem_cons.mpr ⟨fun _ _ lv st z K a hK h => pc_X12_refuse hT (by decide) (ix := 823) rfl rfl hK h, (List.forall_mem_cons.mpr ⟨fun _ _ lv st z K a hK h => pc_X12_writeBook hT (by decide) (ix := 1054) rfl rfl hK h, (List.forall_mem_cons.mpr ⟨fun _ _ lv st z K a hK h => pc_X12_say hT (by decide) (ix := 810) rfl rfl hK h, (fun _ h => by cases h)⟩)⟩)⟩)⟩)⟩)) (fun _ h => by cases h)
set_option maxRecDepth 100000 in
theorem pb_X12_loaded : pm_bks ie_X12_loaded.1.2.2.2.2 pk_X12_loaded = true := by decide +kernel
set_option maxRecDepth 100000 in
theorem pg_X12_loaded_31 {fu : Nat} {lf : pj_Z → mj_M} (hT : pj_Lt pj_TR lf) : ∀  (s : Nat → Int32) (l : Nat → Int64) (x : Nat → Int32) (y : Nat → Int64) (a : Unit × pj_Z), pl_X12_loaded_31 fu s l x y = some a → pm_Gd 6 12150 ie_X12_loaded.1 pm_rU lf 31 [(0, .ref 124)] [] (s, l, x, y) a := by
  intro  s l x y a h
  exact pm_run ((pq_X12_loaded_31 fu  s l x y).symm.trans h) (pz_X12_loaded hT) (pm_bks_ok pb_X12_loaded) (pm_bks_ok pb_X12_loaded _ _ rfl) (pm_ndb_ok rfl) (fun _ _ h => by cases h)
set_option maxRecDepth 100000 in
theorem pg_X12_loaded_112 {fu : Nat} {lf : pj_Z → mj_M} (hT : pj_Lt pj_TR lf) : ∀ (n : Nat), ∀ (a3 : Int32) (a4 : Int32) (s : Nat → Int32) (l : Nat → Int64) (x : Nat → Int32) (y : Nat → Int64) (a : Unit × pj_Z), pl_X12_loaded_112 fu n a3 a4 s l x y = some a → pm_Gd 6 12150 ie_X12_loaded.1 pm_rU lf 112 [(0, .ref 124), (3, .int a3), (4, .int a4)] [] (s, l, x, y) a := by
  intro n
  induction n with
  | zero => intro a3 a4 s l x y a h; cases (show (none : Option (Unit × pj_Z)) = some a from h)
  | succ n ih =>
    intro a3 a4 s l x y a h
    exact pm_run ((pq_X12_loaded_112 fu n a3 a4 s l x y).symm.trans h) (pz_X12_loaded hT) (pm_bks_ok pb_X12_loaded) (pm_bks_ok pb_X12_loaded _ _ rfl) (pm_ndb_ok rfl) (pj_as_all (p := pm_Ex 6 12150 ie_X12_loaded.1 pm_rU lf a) (List.forall_mem_cons.mpr ⟨pu_X12_loaded_112 _ (fun c0 c1 s l x y h => ih c0 c1 s l x y _ h), (fun _ h => by cases h)⟩))
set_option maxRecDepth 100000 in
theorem pg_X12_loaded_44 {fu : Nat} {lf : pj_Z → mj_M} (hT : pj_Lt pj_TR lf) : ∀ (n : Nat), ∀ (a2 : Int32) (a3 : Int32) (s : Nat → Int32) (l : Nat → Int64) (x : Nat → Int32) (y : Nat → Int64) (a : Unit × pj_Z), pl_X12_loaded_44 fu n a2 a3 s l x y = some a → pm_Gd 6 12150 ie_X12_loaded.1 pm_rU lf 44 [(0, .ref 124), (2, .int a2), (3, .int a3)] [] (s, l, x, y) a := by
  intro n
  induction n with
  | zero => intro a2 a3 s l x y a h; cases (show (none : Option (Unit × pj_Z)) = some a from h)
  | succ n ih =>
    intro a2 a3 s l x y a h
    exact pm_run ((pq_X12_loaded_44 fu n a2 a3 s l x y).symm.trans h) (pz_X12_loaded hT) (pm_bks_ok pb_X12_loaded) (pm_bks_ok pb_X12_loaded _ _ rfl) (pm_ndb_ok rfl) (pj_as_all (p := pm_Ex 6 12150 ie_X12_loaded.1 pm_rU lf a) (List.forall_mem_cons.mpr ⟨pu_X12_loaded_44 _ (fun c0 c1 s l x y h => ih c0 c1 s l x y _ h), (List.forall_mem_cons.mpr ⟨pu_X12_loaded_112 _ (fun c0 c1 s l x y h => pg_X12_loaded_112 hT _ c0 c1 s l x y _ h), (fun _ h => by cases h)⟩)⟩))
set_option maxRecDepth 100000 in
theorem pm_X12_loaded {lf : pj_Z → mj_M} (hT : pj_Lt pj_TR lf) (a1 : Int32) (s : Nat → Int32) (l : Nat → Int64) (x : Nat → Int32) (y : Nat → Int64) (a : Unit × pj_Z) (h : pf_X12_loaded a1 s l x y = some a) : mj_R ic_P 7 12150 [.ref 124, .int a1] (lf (s, l, x, y)) (pm_rU a.1) (lf a.2) := by
  refine pm_main (Y := ie_X12_loaded.1) rfl (Nat.le_of_ble_eq_true rfl) ?_
  exact pm_run ((pq_X12_loaded_m 1000 a1 s l x y).symm.trans h) (pz_X12_loaded hT) (pm_bks_ok pb_X12_loaded) (pm_bks_ok pb_X12_loaded _ _ rfl) (pm_ndb_ok rfl) (pj_as_all (p := pm_Ex 6 12150 ie_X12_loaded.1 pm_rU lf a) (List.forall_mem_cons.mpr ⟨pu_X12_loaded_31 _ (fun  s l x y h => pg_X12_loaded_31 hT  s l x y _ h), (List.forall_mem_cons.mpr ⟨pu_X12_loaded_44 _ (fun c0 c1 s l x y h => pg_X12_loaded_44 hT _ c0 c1 s l x y _ h), (fun _ h => by cases h)⟩)⟩))
abbrev ph_X12_loaded {A : Type} : List pj_V → pj_Z → (List pj_V → pj_Z → Option A) → Option A := fun st z K => pj_pi st fun a1 st => pj_pr st 124 0 fun st => pj_ps st (pj_b (pf_X12_loaded a1 z.1 z.2.1 z.2.2.1 z.2.2.2) fun r s l x y => K st (s, l, x, y))
set_option maxRecDepth 100000 in
theorem pc_X12_loaded {A : Type} {OK : A → Option Value → mj_M → Prop} {d j pc ix : Nat} {Y : mj_Y} {lf : pj_Z → mj_M} (hT : pj_Lt pj_TR lf) (hd : 7 ≤ d) (hl : mj_lk Y.2.2.2.2 pc = some (.invokevirtual ix, 3)) (hg : mj_pG ic_P j ix = some (12150, 1, some 12)) {lv : List (Nat × Value)} {st : List pj_V} {z : pj_Z} {K : List pj_V → pj_Z → Option A} {a : A} (hK : ∀ st z, K st z = some a → pj_Gd ic_P (mj_R ic_P d) j Y OK lf (pc + 3) lv (pj_es st) z a) (h : ph_X12_loaded st z K = some a) : pj_Gd ic_P (mj_R ic_P d) j Y OK lf pc lv (pj_es st) z a := by
  obtain ⟨a1, r1, e1, h⟩ := pj_pi_inv h
  obtain ⟨r0, e0, h⟩ := pj_pr_inv h
  obtain ⟨hs, h⟩ := pj_ps_inv h
  obtain ⟨q, hq, h⟩ := pj_b_inv h
  exact pm_cv (o := 124) hl hg [.int a1] rfl (by rw [e1, e0]; rfl) hs (by decide) ((hT.2 124 _ rfl).1.2 z 0 (by decide)) (pm_rU q.1) hd (pm_X12_loaded hT a1 z.1 z.2.1 z.2.2.1 z.2.2.2 q hq) rfl (hK _ _ h)

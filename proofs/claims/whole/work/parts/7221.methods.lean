/-! METHODS 21, printed by gen_meth.py -/
abbrev pe_X12_tests_2 (f : Int32 → Int32 → Int32 → pj_F (Unit × pj_Z)) : pj_K (Unit × pj_Z) := fun lv st z => pj_xr lv 0 124 0 <| pj_xi lv 1 fun a1 => pj_xi lv 2 fun a2 => pj_xi lv 3 fun a3 => pj_pe st (f a1 a2 a3 z.1 z.2.1 z.2.2.1 z.2.2.2)
abbrev pe_X12_tests_30 (f : Int32 → Int32 → Int32 → Int32 → Int32 → Int32 → pj_F (Unit × pj_Z)) : pj_K (Unit × pj_Z) := fun lv st z => pj_xr lv 0 124 0 <| pj_xi lv 1 fun a1 => pj_xi lv 2 fun a2 => pj_xi lv 3 fun a3 => pj_pi st fun b3 st => pj_pi st fun b2 st => pj_pi st fun b1 st => pj_pr st 124 0 fun st => pj_pe st (f a1 a2 a3 b1 b2 b3 z.1 z.2.1 z.2.2.1 z.2.2.2)
abbrev pe_X12_tests_56 (f : Int32 → Int32 → Int32 → pj_F (Unit × pj_Z)) : pj_K (Unit × pj_Z) := fun lv st z => pj_xr lv 0 124 0 <| pj_xi lv 1 fun a1 => pj_xi lv 2 fun a2 => pj_pi st fun b2 st => pj_pc st 10 fun st => pj_pr st 124 0 fun st => pj_pe st (f a1 a2 b2 z.1 z.2.1 z.2.2.1 z.2.2.2)
abbrev pe_X12_tests_85 (f : Int32 → Int32 → Int32 → pj_F (Unit × pj_Z)) : pj_K (Unit × pj_Z) := fun lv st z => pj_xr lv 0 124 0 <| pj_xi lv 1 fun a1 => pj_xi lv 2 fun a2 => pj_pi st fun b2 st => pj_pc st 10 fun st => pj_pr st 124 0 fun st => pj_pe st (f a1 a2 b2 z.1 z.2.1 z.2.2.1 z.2.2.2)
abbrev pe_X12_tests_86 (f : Int32 → Int32 → Int32 → Int32 → pj_F (Unit × pj_Z)) : pj_K (Unit × pj_Z) := fun lv st z => pj_xr lv 0 124 0 <| pj_xi lv 1 fun a1 => pj_xi lv 2 fun a2 => pj_pi st fun b3 st => pj_pi st fun b2 st => pj_pc st 10 fun st => pj_pr st 124 0 fun st => pj_pe st (f a1 a2 b2 b3 z.1 z.2.1 z.2.2.1 z.2.2.2)
abbrev pe_X12_tests_106 (f : Int32 → Int32 → Int32 → pj_F (Unit × pj_Z)) : pj_K (Unit × pj_Z) := fun lv st z => pj_xr lv 0 124 0 <| pj_xi lv 1 fun a1 => pj_xi lv 2 fun a2 => pj_pi st fun b2 st => pj_pc st 11 fun st => pj_pr st 124 0 fun st => pj_pe st (f a1 a2 b2 z.1 z.2.1 z.2.2.1 z.2.2.2)
abbrev pe_X12_tests_135 (f : Int32 → Int32 → Int32 → pj_F (Unit × pj_Z)) : pj_K (Unit × pj_Z) := fun lv st z => pj_xr lv 0 124 0 <| pj_xi lv 1 fun a1 => pj_xi lv 2 fun a2 => pj_pi st fun b2 st => pj_pc st 11 fun st => pj_pr st 124 0 fun st => pj_pe st (f a1 a2 b2 z.1 z.2.1 z.2.2.1 z.2.2.2)
abbrev pe_X12_tests_136 (f : Int32 → Int32 → Int32 → Int32 → pj_F (Unit × pj_Z)) : pj_K (Unit × pj_Z) := fun lv st z => pj_xr lv 0 124 0 <| pj_xi lv 1 fun a1 => pj_xi lv 2 fun a2 => pj_pi st fun b3 st => pj_pi st fun b2 st => pj_pc st 11 fun st => pj_pr st 124 0 fun st => pj_pe st (f a1 a2 b2 b3 z.1 z.2.1 z.2.2.1 z.2.2.2)
abbrev pe_X12_tests_158 (f : Int32 → pj_F (Unit × pj_Z)) : pj_K (Unit × pj_Z) := fun lv st z => pj_xr lv 0 124 0 <| pj_pi st fun b2 st => pj_pc st 12 fun st => pj_pr st 124 0 fun st => pj_pe st (f b2 z.1 z.2.1 z.2.2.1 z.2.2.2)
abbrev pe_X12_tests_159 (f : Int32 → Int32 → pj_F (Unit × pj_Z)) : pj_K (Unit × pj_Z) := fun lv st z => pj_xr lv 0 124 0 <| pj_pi st fun b3 st => pj_pi st fun b2 st => pj_pc st 12 fun st => pj_pr st 124 0 fun st => pj_pe st (f b2 b3 z.1 z.2.1 z.2.2.1 z.2.2.2)
abbrev pe_X12_tests_187 (f : Int32 → pj_F (Unit × pj_Z)) : pj_K (Unit × pj_Z) := fun lv st z => pj_xr lv 0 124 0 <| pj_pi st fun b2 st => pj_pc st 13 fun st => pj_pr st 124 0 fun st => pj_pe st (f b2 z.1 z.2.1 z.2.2.1 z.2.2.2)
abbrev pe_X12_tests_188 (f : Int32 → Int32 → pj_F (Unit × pj_Z)) : pj_K (Unit × pj_Z) := fun lv st z => pj_xr lv 0 124 0 <| pj_pi st fun b3 st => pj_pi st fun b2 st => pj_pc st 13 fun st => pj_pr st 124 0 fun st => pj_pe st (f b2 b3 z.1 z.2.1 z.2.2.1 z.2.2.2)
abbrev pe_X12_tests_221 (f : Int32 → pj_F (Unit × pj_Z)) : pj_K (Unit × pj_Z) := fun lv st z => pj_xr lv 0 124 0 <| pj_pi st fun b2 st => pj_pc st 15 fun st => pj_pr st 124 0 fun st => pj_pe st (f b2 z.1 z.2.1 z.2.2.1 z.2.2.2)
abbrev pe_X12_tests_234 (f : Int32 → Int32 → pj_F (Unit × pj_Z)) : pj_K (Unit × pj_Z) := fun lv st z => pj_xr lv 0 124 0 <| pj_pi st fun b3 st => pj_pi st fun b2 st => pj_pc st 15 fun st => pj_pr st 124 0 fun st => pj_pe st (f b2 b3 z.1 z.2.1 z.2.2.1 z.2.2.2)
abbrev pe_X12_tests_259 (f : pj_F (Unit × pj_Z)) : pj_K (Unit × pj_Z) := fun lv st z => pj_xr lv 0 124 0 <| pj_pc st 16 fun st => pj_pr st 124 0 fun st => pj_pe st (f  z.1 z.2.1 z.2.2.1 z.2.2.2)
abbrev pe_X12_tests_264 (f : Int32 → pj_F (Unit × pj_Z)) : pj_K (Unit × pj_Z) := fun lv st z => pj_xr lv 0 124 0 <| pj_pi st fun b2 st => pj_pc st 16 fun st => pj_pr st 124 0 fun st => pj_pe st (f b2 z.1 z.2.1 z.2.2.1 z.2.2.2)
abbrev pe_X12_tests_283 (f : Int32 → pj_F (Unit × pj_Z)) : pj_K (Unit × pj_Z) := fun lv st z => pj_xr lv 0 124 0 <| pj_pi st fun b2 st => pj_pc st 16 fun st => pj_pr st 124 0 fun st => pj_pe st (f b2 z.1 z.2.1 z.2.2.1 z.2.2.2)
abbrev pe_X12_tests_284 (f : Int32 → Int32 → pj_F (Unit × pj_Z)) : pj_K (Unit × pj_Z) := fun lv st z => pj_xr lv 0 124 0 <| pj_pi st fun b3 st => pj_pi st fun b2 st => pj_pc st 16 fun st => pj_pr st 124 0 fun st => pj_pe st (f b2 b3 z.1 z.2.1 z.2.2.1 z.2.2.2)
abbrev pe_X12_tests_305 (f : Int32 → pj_F (Unit × pj_Z)) : pj_K (Unit × pj_Z) := fun lv st z => pj_xr lv 0 124 0 <| pj_pi st fun b2 st => pj_pc st 17 fun st => pj_pr st 124 0 fun st => pj_pe st (f b2 z.1 z.2.1 z.2.2.1 z.2.2.2)
abbrev pe_X12_tests_323 (f : Int32 → pj_F (Unit × pj_Z)) : pj_K (Unit × pj_Z) := fun lv st z => pj_xr lv 0 124 0 <| pj_pi st fun b2 st => pj_pc st 17 fun st => pj_pr st 124 0 fun st => pj_pe st (f b2 z.1 z.2.1 z.2.2.1 z.2.2.2)
abbrev pe_X12_tests_324 (f : Int32 → Int32 → pj_F (Unit × pj_Z)) : pj_K (Unit × pj_Z) := fun lv st z => pj_xr lv 0 124 0 <| pj_pi st fun b3 st => pj_pi st fun b2 st => pj_pc st 17 fun st => pj_pr st 124 0 fun st => pj_pe st (f b2 b3 z.1 z.2.1 z.2.2.1 z.2.2.2)
abbrev pe_X12_tests_366 (f : pj_F (Unit × pj_Z)) : pj_K (Unit × pj_Z) := fun lv st z => pj_xr lv 0 124 0 <| pj_pc st 18 fun st => pj_pr st 124 0 fun st => pj_pe st (f  z.1 z.2.1 z.2.2.1 z.2.2.2)
abbrev pe_X12_tests_370 (f : pj_F (Unit × pj_Z)) : pj_K (Unit × pj_Z) := fun lv st z => pj_xr lv 0 124 0 <| pj_pc st 18 fun st => pj_pr st 124 0 fun st => pj_pe st (f  z.1 z.2.1 z.2.2.1 z.2.2.2)
abbrev pe_X12_tests_371 (f : Int32 → pj_F (Unit × pj_Z)) : pj_K (Unit × pj_Z) := fun lv st z => pj_xr lv 0 124 0 <| pj_pi st fun b2 st => pj_pc st 18 fun st => pj_pr st 124 0 fun st => pj_pe st (f b2 z.1 z.2.1 z.2.2.1 z.2.2.2)
abbrev pe_X12_tests_397 (f : Int32 → pj_F (Unit × pj_Z)) : pj_K (Unit × pj_Z) := fun lv st z => pj_xr lv 0 124 0 <| pj_pi st fun b2 st => pj_pc st 19 fun st => pj_pr st 124 0 fun st => pj_pe st (f b2 z.1 z.2.1 z.2.2.1 z.2.2.2)
abbrev pe_X12_tests_413 (f : Int32 → Int32 → pj_F (Unit × pj_Z)) : pj_K (Unit × pj_Z) := fun lv st z => pj_xr lv 0 124 0 <| pj_pi st fun b3 st => pj_pi st fun b2 st => pj_pc st 19 fun st => pj_pr st 124 0 fun st => pj_pe st (f b2 b3 z.1 z.2.1 z.2.2.1 z.2.2.2)
abbrev px_X12_tests : pj_C (Unit × pj_Z) := ((pj_as [(124, 12, 195, 1, 0, true, 0, [(1, 1), (2, 125), (2, 126), (2, 127), (2, 128), (2, 129), (2, 130), (2, 131), (2, 132), (2, 133), (1, 2), (0, 44), (2, 134), (2, 135), (2, 136), (2, 137), (2, 138), (0, 69), (2, 139), (2, 140), (2, 141), (1, 3), (0, 93), (0, 94), (0, 45), (0, 46), (0, 48), (0, 49), (0, 47), (0, 50), (0, 51), (2, 142), (2, 143), (2, 144), (0, 19), (1, 4), (1, 5), (1, 6), (0, 20), (0, 21), (0, 22), (0, 23), (0, 24), (0, 25), (0, 27), (0, 28), (1, 7), (1, 8), (1, 9), (1, 10), (1, 11), (0, 26), (2, 145), (2, 146), (2, 147), (2, 148), (2, 149), (2, 150), (2, 151), (2, 152), (2, 153), (2, 154), (2, 155), (2, 156), (2, 157), (2, 158), (2, 159), (0, 57), (0, 58), (0, 59), (0, 60), (2, 160), (2, 161), (2, 162), (2, 163), (1, 12), (1, 13), (0, 95), (0, 73), (0, 74), (0, 71), (0, 72), (0, 75), (0, 76), (0, 77), (0, 80), (0, 78), (0, 79), (1, 14), (0, 29), (0, 30), (0, 31), (0, 34), (0, 35), (0, 32), (0, 33), (0, 36), (0, 37), (0, 38), (0, 39), (0, 40), (1, 15), (1, 16), (0, 43), (0, 41), (0, 42), (2, 164), (0, 96), (0, 89), (0, 90), (0, 91), (0, 92), (2, 165), (2, 166), (2, 167), (2, 168), (2, 169), (2, 170), (2, 171), (2, 172), (0, 87), (2, 173), (0, 88), (2, 174), (0, 62), (1, 17), (0, 66), (0, 63), (0, 64), (0, 65), (0, 67), (1, 18), (0, 68), (2, 175), (1, 19), (0, 52), (0, 53), (0, 54), (0, 55), (2, 176), (0, 56), (0, 85), (0, 86), (0, 81), (0, 82), (0, 83), (0, 84), (2, 177), (2, 178), (2, 179), (1, 20), (2, 180), (0, 6), (0, 7), (0, 8), (0, 16), (0, 17), (0, 61), (0, 9), (0, 10), (1, 21), (1, 22), (0, 11), (0, 12), (0, 13), (0, 18), (0, 14), (0, 15), (2, 181), (0, 70), (1, 23), (2, 182), (2, 183), (0, 1), (1, 24), (2, 184), (2, 185), (1, 25), (0, 2), (2, 186), (2, 187), (1, 26), (2, 188), (2, 189), (1, 27), (1, 28), (2, 190), (2, 191), (1, 29), (0, 3), (2, 192), (0, 4), (0, 5), (1, 30), (2, 193)]), (162, 100, 10, 1, 0, true, 35000, []), (163, 102, 10, 1, 0, true, 36000, []), (164, 100, 16, 1, 0, true, 9000, [])]), (pj_as [(136, 12, 73, 2, true), (139, 12, 74, 2, true), (146, 12, 106, 2, true), (262, 12, 34, 0, false), (278, 12, 39, 0, false), (281, 12, 40, 0, false), (284, 12, 41, 0, false), (314, 12, 69, 0, false), (317, 12, 70, 0, false), (426, 12, 78, 0, false), (429, 12, 79, 0, false), (459, 12, 90, 0, false), (462, 12, 91, 3, false), (468, 12, 93, 0, false), (477, 12, 96, 3, false), (480, 12, 97, 3, false), (489, 12, 100, 3, false), (492, 12, 104, 0, false), (501, 12, 108, 0, false), (504, 12, 109, 0, false), (507, 12, 110, 0, false), (510, 12, 111, 0, false), (516, 12, 103, 0, false)]), (fun _ => none), (fun _ => none), (fun _ => none), ic_X, 4, 0, pj_mU, (pj_as [(30, ph_X12_test), (86, ph_X12_test), (136, ph_X12_test), (159, ph_X12_test), (188, ph_X12_test), (199, ph_X12_test), (234, ph_X12_test), (284, ph_X12_test), (324, ph_X12_test), (336, ph_X12_cellNow), (375, ph_X12_test), (413, ph_X12_test)]), fun _ => false)
abbrev pk_X12_tests : List (Nat × List (Nat × Instr × Nat)) := [(0, [(0, .iconst 0, 1), (1, .istore_n 3, 1)]), (2, [(2, .iload_n 3, 1), (3, .bipush 10, 2), (5, .if_icmp .ge 34, 3)]), (8, [(8, .aload_n 0, 1), (9, .iload_n 3, 1), (10, .aload_n 0, 1), (11, .getfield 139, 3), (14, .iload_n 3, 1), (15, .baload, 1), (16, .aload_n 0, 1), (17, .getfield 136, 3), (20, .iload_n 3, 1), (21, .iaload, 1), (22, .ifCond .ne 7, 3)]), (25, [(25, .iconst 1, 1), (26, .goto 4, 3)]), (29, [(29, .iconst 0, 1)]), (30, [(30, .invokevirtual 676, 3), (33, .iinc 3 1, 3), (36, .goto (-34), 3)]), (39, [(39, .aload_n 0, 1), (40, .bipush 10, 2), (42, .aload_n 0, 1), (43, .getfield 426, 3), (46, .bipush 10, 2), (48, .if_icmp .lt 7, 3)]), (51, [(51, .iconst 1, 1), (52, .goto 4, 3)]), (55, [(55, .iconst 0, 1)]), (56, [(56, .aload_n 0, 1), (57, .getfield 426, 3), (60, .ifCond .ne 25, 3)]), (63, [(63, .aload_n 0, 1), (64, .getfield 139, 3), (67, .iconst 0, 1), (68, .baload, 1), (69, .ifCond .ne 16, 3)]), (72, [(72, .aload_n 0, 1), (73, .getfield 139, 3), (76, .iconst 1, 1), (77, .baload, 1), (78, .ifCond .ne 7, 3)]), (81, [(81, .iconst 1, 1), (82, .goto 4, 3)]), (85, [(85, .iconst 0, 1)]), (86, [(86, .invokevirtual 676, 3), (89, .aload_n 0, 1), (90, .bipush 11, 2), (92, .aload_n 0, 1), (93, .getfield 429, 3), (96, .bipush 10, 2), (98, .if_icmp .lt 7, 3)]), (101, [(101, .iconst 1, 1), (102, .goto 4, 3)]), (105, [(105, .iconst 0, 1)]), (106, [(106, .aload_n 0, 1), (107, .getfield 429, 3), (110, .ifCond .ne 25, 3)]), (113, [(113, .aload_n 0, 1), (114, .getfield 139, 3), (117, .iconst 2, 1), (118, .baload, 1), (119, .ifCond .ne 16, 3)]), (122, [(122, .aload_n 0, 1), (123, .getfield 139, 3), (126, .iconst 3, 1), (127, .baload, 1), (128, .ifCond .ne 7, 3)]), (131, [(131, .iconst 1, 1), (132, .goto 4, 3)]), (135, [(135, .iconst 0, 1)]), (136, [(136, .invokevirtual 676, 3), (139, .aload_n 0, 1), (140, .bipush 12, 2), (142, .iload_n 2, 1), (143, .aload_n 0, 1), (144, .getfield 459, 3), (147, .ifCond .ne 11, 3)]), (150, [(150, .iload_n 1, 1), (151, .ifCond .eq 7, 3)]), (154, [(154, .iconst 1, 1), (155, .goto 4, 3)]), (158, [(158, .iconst 0, 1)]), (159, [(159, .invokevirtual 676, 3), (162, .aload_n 0, 1), (163, .bipush 13, 2), (165, .aload_n 0, 1), (166, .getfield 477, 3), (169, .aload_n 0, 1), (170, .getfield 462, 3), (173, .ifCond .eq 14, 3)]), (176, [(176, .aload_n 0, 1), (177, .getfield 468, 3), (180, .ifCond .ne 7, 3)]), (183, [(183, .iconst 1, 1), (184, .goto 4, 3)]), (187, [(187, .iconst 0, 1)]), (188, [(188, .invokevirtual 676, 3), (191, .aload_n 0, 1), (192, .bipush 14, 2), (194, .aload_n 0, 1), (195, .getfield 480, 3), (198, .iconst 1, 1), (199, .invokevirtual 676, 3), (202, .aload_n 0, 1), (203, .bipush 15, 2), (205, .aload_n 0, 1), (206, .getfield 278, 3), (209, .aload_n 0, 1), (210, .getfield 501, 3), (213, .if_icmp .le 7, 3)]), (216, [(216, .iconst 1, 1), (217, .goto 4, 3)]), (220, [(220, .iconst 0, 1)]), (221, [(221, .aload_n 0, 1), (222, .getfield 262, 3), (225, .iconst 3, 1), (226, .if_icmp .ne 7, 3)]), (229, [(229, .iconst 1, 1), (230, .goto 4, 3)]), (233, [(233, .iconst 0, 1)]), (234, [(234, .invokevirtual 676, 3), (237, .aload_n 0, 1), (238, .bipush 16, 2), (240, .aload_n 0, 1), (241, .getfield 281, 3), (244, .iconst 3, 1), (245, .if_icmp .ge 14, 3)]), (248, [(248, .aload_n 0, 1), (249, .getfield 284, 3), (252, .aload_n 0, 1), (253, .getfield 504, 3), (256, .if_icmp .le 7, 3)]), (259, [(259, .iconst 1, 1), (260, .goto 4, 3)]), (263, [(263, .iconst 0, 1)]), (264, [(264, .aload_n 0, 1), (265, .getfield 262, 3), (268, .iconst 3, 1), (269, .if_icmp .ne 14, 3)]), (272, [(272, .aload_n 0, 1), (273, .getfield 281, 3), (276, .ifCond .ne 7, 3)]), (279, [(279, .iconst 1, 1), (280, .goto 4, 3)]), (283, [(283, .iconst 0, 1)]), (284, [(284, .invokevirtual 676, 3), (287, .aload_n 0, 1), (288, .bipush 17, 2), (290, .aload_n 0, 1), (291, .getfield 492, 3), (294, .sipush 1000, 3), (297, .if_icmp .ne 7, 3)]), (300, [(300, .iconst 1, 1), (301, .goto 4, 3)]), (304, [(304, .iconst 0, 1)]), (305, [(305, .aload_n 0, 1), (306, .getfield 489, 3), (309, .ifCond .eq 14, 3)]), (312, [(312, .aload_n 0, 1), (313, .getfield 492, 3), (316, .ifCond .ne 7, 3)]), (319, [(319, .iconst 1, 1), (320, .goto 4, 3)]), (323, [(323, .iconst 0, 1)]), (324, [(324, .invokevirtual 676, 3), (327, .aload_n 0, 1), (328, .getfield 516, 3), (331, .aload_n 0, 1), (332, .getfield 146, 3), (335, .aload_n 0, 1), (336, .invokevirtual 689, 3), (339, .iaload, 1), (340, .iadd, 1), (341, .istore_n 3, 1), (342, .aload_n 0, 1), (343, .bipush 18, 2), (345, .aload_n 0, 1), (346, .getfield 489, 3), (349, .ifCond .eq 21, 3)]), (352, [(352, .iload_n 3, 1), (353, .sipush 240, 3), (356, .if_icmp .ge 10, 3)]), (359, [(359, .iload_n 3, 1), (360, .sipush (-240), 3), (363, .if_icmp .gt 7, 3)]), (366, [(366, .iconst 1, 1), (367, .goto 4, 3)]), (370, [(370, .iconst 0, 1)]), (371, [(371, .aload_n 0, 1), (372, .getfield 489, 3), (375, .invokevirtual 676, 3), (378, .aload_n 0, 1), (379, .bipush 19, 2), (381, .aload_n 0, 1), (382, .getfield 317, 3), (385, .aload_n 0, 1), (386, .getfield 507, 3), (389, .if_icmp .le 7, 3)]), (392, [(392, .iconst 1, 1), (393, .goto 4, 3)]), (396, [(396, .iconst 0, 1)]), (397, [(397, .aload_n 0, 1), (398, .getfield 314, 3), (401, .aload_n 0, 1), (402, .getfield 510, 3), (405, .if_icmp .le 7, 3)]), (408, [(408, .iconst 1, 1), (409, .goto 4, 3)]), (412, [(412, .iconst 0, 1)]), (413, [(413, .invokevirtual 676, 3), (416, .aload_n 0, 1), (417, .aload_n 0, 1), (418, .getfield 278, 3), (421, .putfield 501, 3), (424, .aload_n 0, 1), (425, .aload_n 0, 1), (426, .getfield 284, 3), (429, .putfield 504, 3), (432, .aload_n 0, 1), (433, .aload_n 0, 1), (434, .getfield 317, 3), (437, .putfield 507, 3), (440, .aload_n 0, 1), (441, .aload_n 0, 1), (442, .getfield 314, 3), (445, .putfield 510, 3), (448, .return_, 1)])]
set_option maxRecDepth 100000 in
theorem pq_X12_tests_30 (fu : Nat)  (k2 : Int32 → Int32 → Int32 → pj_F (Unit × pj_Z)) (a1 : Int32) (a2 : Int32) (a3 : Int32) (b1 : Int32) (b2 : Int32) (b3 : Int32) (s : Nat → Int32) (l : Nat → Int64) (x : Nat → Int32) (y : Nat → Int64) : pl_X12_tests_30 fu k2 a1 a2 a3 b1 b2 b3 s l x y = pj_bl px_X12_tests (pj_rn px_X12_tests (pj_as pk_X12_tests) (pj_as [(2, pe_X12_tests_2 k2)]) 60) [(30, .invokevirtual 676, 3), (33, .iinc 3 1, 3), (36, .goto (-34), 3)] 30 [(0, pj_O (124, 0)), (1, pj_I a1), (2, pj_I a2), (3, pj_I a3)] [pj_I b3, pj_I b2, pj_I b1, pj_O (124, 0)] (s, l, x, y) := rfl
set_option maxRecDepth 100000 in
theorem pq_X12_tests_413 (fu : Nat)  (b2 : Int32) (b3 : Int32) (s : Nat → Int32) (l : Nat → Int64) (x : Nat → Int32) (y : Nat → Int64) : pl_X12_tests_413 fu b2 b3 s l x y = pj_bl px_X12_tests (pj_rn px_X12_tests (pj_as pk_X12_tests) (fun _ => none) 60) [(413, .invokevirtual 676, 3), (416, .aload_n 0, 1), (417, .aload_n 0, 1), (418, .getfield 278, 3), (421, .putfield 501, 3), (424, .aload_n 0, 1), (425, .aload_n 0, 1), (426, .getfield 284, 3), (429, .putfield 504, 3), (432, .aload_n 0, 1), (433, .aload_n 0, 1), (434, .getfield 317, 3), (437, .putfield 507, 3), (440, .aload_n 0, 1), (441, .aload_n 0, 1), (442, .getfield 314, 3), (445, .putfield 510, 3), (448, .return_, 1)] 413 [(0, pj_O (124, 0))] [pj_I b3, pj_I b2, pj_N 19, pj_O (124, 0)] (s, l, x, y) := rfl
set_option maxRecDepth 100000 in
theorem pq_X12_tests_397 (fu : Nat)  (b2 : Int32) (s : Nat → Int32) (l : Nat → Int64) (x : Nat → Int32) (y : Nat → Int64) : pl_X12_tests_397 fu b2 s l x y = pj_bl px_X12_tests (pj_rn px_X12_tests (pj_as pk_X12_tests) (pj_as [(413, pe_X12_tests_413 (pl_X12_tests_413 fu))]) 60) [(397, .aload_n 0, 1), (398, .getfield 314, 3), (401, .aload_n 0, 1), (402, .getfield 510, 3), (405, .if_icmp .le 7, 3)] 397 [(0, pj_O (124, 0))] [pj_I b2, pj_N 19, pj_O (124, 0)] (s, l, x, y) := rfl
set_option maxRecDepth 100000 in
theorem pq_X12_tests_371 (fu : Nat)  (b2 : Int32) (s : Nat → Int32) (l : Nat → Int64) (x : Nat → Int32) (y : Nat → Int64) : pl_X12_tests_371 fu b2 s l x y = pj_bl px_X12_tests (pj_rn px_X12_tests (pj_as pk_X12_tests) (pj_as [(397, pe_X12_tests_397 (pl_X12_tests_397 fu))]) 60) [(371, .aload_n 0, 1), (372, .getfield 489, 3), (375, .invokevirtual 676, 3), (378, .aload_n 0, 1), (379, .bipush 19, 2), (381, .aload_n 0, 1), (382, .getfield 317, 3), (385, .aload_n 0, 1), (386, .getfield 507, 3), (389, .if_icmp .le 7, 3)] 371 [(0, pj_O (124, 0))] [pj_I b2, pj_N 18, pj_O (124, 0)] (s, l, x, y) := rfl
set_option maxRecDepth 100000 in
theorem pq_X12_tests_366 (fu : Nat)   (s : Nat → Int32) (l : Nat → Int64) (x : Nat → Int32) (y : Nat → Int64) : pl_X12_tests_366 fu s l x y = pj_bl px_X12_tests (pj_rn px_X12_tests (pj_as pk_X12_tests) (pj_as [(371, pe_X12_tests_371 (pl_X12_tests_371 fu))]) 60) [(366, .iconst 1, 1), (367, .goto 4, 3)] 366 [(0, pj_O (124, 0))] [pj_N 18, pj_O (124, 0)] (s, l, x, y) := rfl
set_option maxRecDepth 100000 in
theorem pq_X12_tests_370 (fu : Nat)   (s : Nat → Int32) (l : Nat → Int64) (x : Nat → Int32) (y : Nat → Int64) : pl_X12_tests_370 fu s l x y = pj_bl px_X12_tests (pj_rn px_X12_tests (pj_as pk_X12_tests) (pj_as [(371, pe_X12_tests_371 (pl_X12_tests_371 fu))]) 60) [(370, .iconst 0, 1)] 370 [(0, pj_O (124, 0))] [pj_N 18, pj_O (124, 0)] (s, l, x, y) := rfl
set_option maxRecDepth 100000 in
theorem pq_X12_tests_324 (fu : Nat)  (b2 : Int32) (b3 : Int32) (s : Nat → Int32) (l : Nat → Int64) (x : Nat → Int32) (y : Nat → Int64) : pl_X12_tests_324 fu b2 b3 s l x y = pj_bl px_X12_tests (pj_rn px_X12_tests (pj_as pk_X12_tests) (pj_as [(366, pe_X12_tests_366 (pl_X12_tests_366 fu)), (370, pe_X12_tests_370 (pl_X12_tests_370 fu))]) 60) [(324, .invokevirtual 676, 3), (327, .aload_n 0, 1), (328, .getfield 516, 3), (331, .aload_n 0, 1), (332, .getfield 146, 3), (335, .aload_n 0, 1), (336, .invokevirtual 689, 3), (339, .iaload, 1), (340, .iadd, 1), (341, .istore_n 3, 1), (342, .aload_n 0, 1), (343, .bipush 18, 2), (345, .aload_n 0, 1), (346, .getfield 489, 3), (349, .ifCond .eq 21, 3)] 324 [(0, pj_O (124, 0))] [pj_I b3, pj_I b2, pj_N 17, pj_O (124, 0)] (s, l, x, y) := rfl
set_option maxRecDepth 100000 in
theorem pq_X12_tests_323 (fu : Nat)  (b2 : Int32) (s : Nat → Int32) (l : Nat → Int64) (x : Nat → Int32) (y : Nat → Int64) : pl_X12_tests_323 fu b2 s l x y = pj_bl px_X12_tests (pj_rn px_X12_tests (pj_as pk_X12_tests) (pj_as [(324, pe_X12_tests_324 (pl_X12_tests_324 fu))]) 60) [(323, .iconst 0, 1)] 323 [(0, pj_O (124, 0))] [pj_I b2, pj_N 17, pj_O (124, 0)] (s, l, x, y) := rfl
set_option maxRecDepth 100000 in
theorem pq_X12_tests_305 (fu : Nat)  (b2 : Int32) (s : Nat → Int32) (l : Nat → Int64) (x : Nat → Int32) (y : Nat → Int64) : pl_X12_tests_305 fu b2 s l x y = pj_bl px_X12_tests (pj_rn px_X12_tests (pj_as pk_X12_tests) (pj_as [(323, pe_X12_tests_323 (pl_X12_tests_323 fu)), (324, pe_X12_tests_324 (pl_X12_tests_324 fu))]) 60) [(305, .aload_n 0, 1), (306, .getfield 489, 3), (309, .ifCond .eq 14, 3)] 305 [(0, pj_O (124, 0))] [pj_I b2, pj_N 17, pj_O (124, 0)] (s, l, x, y) := rfl
set_option maxRecDepth 100000 in
theorem pq_X12_tests_284 (fu : Nat)  (b2 : Int32) (b3 : Int32) (s : Nat → Int32) (l : Nat → Int64) (x : Nat → Int32) (y : Nat → Int64) : pl_X12_tests_284 fu b2 b3 s l x y = pj_bl px_X12_tests (pj_rn px_X12_tests (pj_as pk_X12_tests) (pj_as [(305, pe_X12_tests_305 (pl_X12_tests_305 fu))]) 60) [(284, .invokevirtual 676, 3), (287, .aload_n 0, 1), (288, .bipush 17, 2), (290, .aload_n 0, 1), (291, .getfield 492, 3), (294, .sipush 1000, 3), (297, .if_icmp .ne 7, 3)] 284 [(0, pj_O (124, 0))] [pj_I b3, pj_I b2, pj_N 16, pj_O (124, 0)] (s, l, x, y) := rfl
set_option maxRecDepth 100000 in
theorem pq_X12_tests_283 (fu : Nat)  (b2 : Int32) (s : Nat → Int32) (l : Nat → Int64) (x : Nat → Int32) (y : Nat → Int64) : pl_X12_tests_283 fu b2 s l x y = pj_bl px_X12_tests (pj_rn px_X12_tests (pj_as pk_X12_tests) (pj_as [(284, pe_X12_tests_284 (pl_X12_tests_284 fu))]) 60) [(283, .iconst 0, 1)] 283 [(0, pj_O (124, 0))] [pj_I b2, pj_N 16, pj_O (124, 0)] (s, l, x, y) := rfl
set_option maxRecDepth 100000 in
theorem pq_X12_tests_264 (fu : Nat)  (b2 : Int32) (s : Nat → Int32) (l : Nat → Int64) (x : Nat → Int32) (y : Nat → Int64) : pl_X12_tests_264 fu b2 s l x y = pj_bl px_X12_tests (pj_rn px_X12_tests (pj_as pk_X12_tests) (pj_as [(283, pe_X12_tests_283 (pl_X12_tests_283 fu)), (284, pe_X12_tests_284 (pl_X12_tests_284 fu))]) 60) [(264, .aload_n 0, 1), (265, .getfield 262, 3), (268, .iconst 3, 1), (269, .if_icmp .ne 14, 3)] 264 [(0, pj_O (124, 0))] [pj_I b2, pj_N 16, pj_O (124, 0)] (s, l, x, y) := rfl
set_option maxRecDepth 100000 in
theorem pq_X12_tests_259 (fu : Nat)   (s : Nat → Int32) (l : Nat → Int64) (x : Nat → Int32) (y : Nat → Int64) : pl_X12_tests_259 fu s l x y = pj_bl px_X12_tests (pj_rn px_X12_tests (pj_as pk_X12_tests) (pj_as [(264, pe_X12_tests_264 (pl_X12_tests_264 fu))]) 60) [(259, .iconst 1, 1), (260, .goto 4, 3)] 259 [(0, pj_O (124, 0))] [pj_N 16, pj_O (124, 0)] (s, l, x, y) := rfl
set_option maxRecDepth 100000 in
theorem pq_X12_tests_234 (fu : Nat)  (b2 : Int32) (b3 : Int32) (s : Nat → Int32) (l : Nat → Int64) (x : Nat → Int32) (y : Nat → Int64) : pl_X12_tests_234 fu b2 b3 s l x y = pj_bl px_X12_tests (pj_rn px_X12_tests (pj_as pk_X12_tests) (pj_as [(259, pe_X12_tests_259 (pl_X12_tests_259 fu)), (264, pe_X12_tests_264 (pl_X12_tests_264 fu))]) 60) [(234, .invokevirtual 676, 3), (237, .aload_n 0, 1), (238, .bipush 16, 2), (240, .aload_n 0, 1), (241, .getfield 281, 3), (244, .iconst 3, 1), (245, .if_icmp .ge 14, 3)] 234 [(0, pj_O (124, 0))] [pj_I b3, pj_I b2, pj_N 15, pj_O (124, 0)] (s, l, x, y) := rfl
set_option maxRecDepth 100000 in
theorem pq_X12_tests_221 (fu : Nat)  (b2 : Int32) (s : Nat → Int32) (l : Nat → Int64) (x : Nat → Int32) (y : Nat → Int64) : pl_X12_tests_221 fu b2 s l x y = pj_bl px_X12_tests (pj_rn px_X12_tests (pj_as pk_X12_tests) (pj_as [(234, pe_X12_tests_234 (pl_X12_tests_234 fu))]) 60) [(221, .aload_n 0, 1), (222, .getfield 262, 3), (225, .iconst 3, 1), (226, .if_icmp .ne 7, 3)] 221 [(0, pj_O (124, 0))] [pj_I b2, pj_N 15, pj_O (124, 0)] (s, l, x, y) := rfl
set_option maxRecDepth 100000 in
theorem pq_X12_tests_188 (fu : Nat)  (b2 : Int32) (b3 : Int32) (s : Nat → Int32) (l : Nat → Int64) (x : Nat → Int32) (y : Nat → Int64) : pl_X12_tests_188 fu b2 b3 s l x y = pj_bl px_X12_tests (pj_rn px_X12_tests (pj_as pk_X12_tests) (pj_as [(221, pe_X12_tests_221 (pl_X12_tests_221 fu))]) 60) [(188, .invokevirtual 676, 3), (191, .aload_n 0, 1), (192, .bipush 14, 2), (194, .aload_n 0, 1), (195, .getfield 480, 3), (198, .iconst 1, 1), (199, .invokevirtual 676, 3), (202, .aload_n 0, 1), (203, .bipush 15, 2), (205, .aload_n 0, 1), (206, .getfield 278, 3), (209, .aload_n 0, 1), (210, .getfield 501, 3), (213, .if_icmp .le 7, 3)] 188 [(0, pj_O (124, 0))] [pj_I b3, pj_I b2, pj_N 13, pj_O (124, 0)] (s, l, x, y) := rfl
set_option maxRecDepth 100000 in
theorem pq_X12_tests_187 (fu : Nat)  (b2 : Int32) (s : Nat → Int32) (l : Nat → Int64) (x : Nat → Int32) (y : Nat → Int64) : pl_X12_tests_187 fu b2 s l x y = pj_bl px_X12_tests (pj_rn px_X12_tests (pj_as pk_X12_tests) (pj_as [(188, pe_X12_tests_188 (pl_X12_tests_188 fu))]) 60) [(187, .iconst 0, 1)] 187 [(0, pj_O (124, 0))] [pj_I b2, pj_N 13, pj_O (124, 0)] (s, l, x, y) := rfl
set_option maxRecDepth 100000 in
theorem pq_X12_tests_159 (fu : Nat)  (b2 : Int32) (b3 : Int32) (s : Nat → Int32) (l : Nat → Int64) (x : Nat → Int32) (y : Nat → Int64) : pl_X12_tests_159 fu b2 b3 s l x y = pj_bl px_X12_tests (pj_rn px_X12_tests (pj_as pk_X12_tests) (pj_as [(187, pe_X12_tests_187 (pl_X12_tests_187 fu)), (188, pe_X12_tests_188 (pl_X12_tests_188 fu))]) 60) [(159, .invokevirtual 676, 3), (162, .aload_n 0, 1), (163, .bipush 13, 2), (165, .aload_n 0, 1), (166, .getfield 477, 3), (169, .aload_n 0, 1), (170, .getfield 462, 3), (173, .ifCond .eq 14, 3)] 159 [(0, pj_O (124, 0))] [pj_I b3, pj_I b2, pj_N 12, pj_O (124, 0)] (s, l, x, y) := rfl
set_option maxRecDepth 100000 in
theorem pq_X12_tests_158 (fu : Nat)  (b2 : Int32) (s : Nat → Int32) (l : Nat → Int64) (x : Nat → Int32) (y : Nat → Int64) : pl_X12_tests_158 fu b2 s l x y = pj_bl px_X12_tests (pj_rn px_X12_tests (pj_as pk_X12_tests) (pj_as [(159, pe_X12_tests_159 (pl_X12_tests_159 fu))]) 60) [(158, .iconst 0, 1)] 158 [(0, pj_O (124, 0))] [pj_I b2, pj_N 12, pj_O (124, 0)] (s, l, x, y) := rfl
set_option maxRecDepth 100000 in
theorem pq_X12_tests_136 (fu : Nat)  (a1 : Int32) (a2 : Int32) (b2 : Int32) (b3 : Int32) (s : Nat → Int32) (l : Nat → Int64) (x : Nat → Int32) (y : Nat → Int64) : pl_X12_tests_136 fu a1 a2 b2 b3 s l x y = pj_bl px_X12_tests (pj_rn px_X12_tests (pj_as pk_X12_tests) (pj_as [(158, pe_X12_tests_158 (pl_X12_tests_158 fu)), (159, pe_X12_tests_159 (pl_X12_tests_159 fu))]) 60) [(136, .invokevirtual 676, 3), (139, .aload_n 0, 1), (140, .bipush 12, 2), (142, .iload_n 2, 1), (143, .aload_n 0, 1), (144, .getfield 459, 3), (147, .ifCond .ne 11, 3)] 136 [(0, pj_O (124, 0)), (1, pj_I a1), (2, pj_I a2)] [pj_I b3, pj_I b2, pj_N 11, pj_O (124, 0)] (s, l, x, y) := rfl
set_option maxRecDepth 100000 in
theorem pq_X12_tests_135 (fu : Nat)  (a1 : Int32) (a2 : Int32) (b2 : Int32) (s : Nat → Int32) (l : Nat → Int64) (x : Nat → Int32) (y : Nat → Int64) : pl_X12_tests_135 fu a1 a2 b2 s l x y = pj_bl px_X12_tests (pj_rn px_X12_tests (pj_as pk_X12_tests) (pj_as [(136, pe_X12_tests_136 (pl_X12_tests_136 fu))]) 60) [(135, .iconst 0, 1)] 135 [(0, pj_O (124, 0)), (1, pj_I a1), (2, pj_I a2)] [pj_I b2, pj_N 11, pj_O (124, 0)] (s, l, x, y) := rfl
set_option maxRecDepth 100000 in
theorem pq_X12_tests_106 (fu : Nat)  (a1 : Int32) (a2 : Int32) (b2 : Int32) (s : Nat → Int32) (l : Nat → Int64) (x : Nat → Int32) (y : Nat → Int64) : pl_X12_tests_106 fu a1 a2 b2 s l x y = pj_bl px_X12_tests (pj_rn px_X12_tests (pj_as pk_X12_tests) (pj_as [(135, pe_X12_tests_135 (pl_X12_tests_135 fu)), (136, pe_X12_tests_136 (pl_X12_tests_136 fu))]) 60) [(106, .aload_n 0, 1), (107, .getfield 429, 3), (110, .ifCond .ne 25, 3)] 106 [(0, pj_O (124, 0)), (1, pj_I a1), (2, pj_I a2)] [pj_I b2, pj_N 11, pj_O (124, 0)] (s, l, x, y) := rfl
set_option maxRecDepth 100000 in
theorem pq_X12_tests_86 (fu : Nat)  (a1 : Int32) (a2 : Int32) (b2 : Int32) (b3 : Int32) (s : Nat → Int32) (l : Nat → Int64) (x : Nat → Int32) (y : Nat → Int64) : pl_X12_tests_86 fu a1 a2 b2 b3 s l x y = pj_bl px_X12_tests (pj_rn px_X12_tests (pj_as pk_X12_tests) (pj_as [(106, pe_X12_tests_106 (pl_X12_tests_106 fu))]) 60) [(86, .invokevirtual 676, 3), (89, .aload_n 0, 1), (90, .bipush 11, 2), (92, .aload_n 0, 1), (93, .getfield 429, 3), (96, .bipush 10, 2), (98, .if_icmp .lt 7, 3)] 86 [(0, pj_O (124, 0)), (1, pj_I a1), (2, pj_I a2)] [pj_I b3, pj_I b2, pj_N 10, pj_O (124, 0)] (s, l, x, y) := rfl
set_option maxRecDepth 100000 in
theorem pq_X12_tests_85 (fu : Nat)  (a1 : Int32) (a2 : Int32) (b2 : Int32) (s : Nat → Int32) (l : Nat → Int64) (x : Nat → Int32) (y : Nat → Int64) : pl_X12_tests_85 fu a1 a2 b2 s l x y = pj_bl px_X12_tests (pj_rn px_X12_tests (pj_as pk_X12_tests) (pj_as [(86, pe_X12_tests_86 (pl_X12_tests_86 fu))]) 60) [(85, .iconst 0, 1)] 85 [(0, pj_O (124, 0)), (1, pj_I a1), (2, pj_I a2)] [pj_I b2, pj_N 10, pj_O (124, 0)] (s, l, x, y) := rfl
set_option maxRecDepth 100000 in
theorem pq_X12_tests_56 (fu : Nat)  (a1 : Int32) (a2 : Int32) (b2 : Int32) (s : Nat → Int32) (l : Nat → Int64) (x : Nat → Int32) (y : Nat → Int64) : pl_X12_tests_56 fu a1 a2 b2 s l x y = pj_bl px_X12_tests (pj_rn px_X12_tests (pj_as pk_X12_tests) (pj_as [(85, pe_X12_tests_85 (pl_X12_tests_85 fu)), (86, pe_X12_tests_86 (pl_X12_tests_86 fu))]) 60) [(56, .aload_n 0, 1), (57, .getfield 426, 3), (60, .ifCond .ne 25, 3)] 56 [(0, pj_O (124, 0)), (1, pj_I a1), (2, pj_I a2)] [pj_I b2, pj_N 10, pj_O (124, 0)] (s, l, x, y) := rfl
set_option maxRecDepth 100000 in
theorem pq_X12_tests_2 (fu : Nat)  (n : Nat) (a1 : Int32) (a2 : Int32) (a3 : Int32) (s : Nat → Int32) (l : Nat → Int64) (x : Nat → Int32) (y : Nat → Int64) : pl_X12_tests_2 fu (n + 1) a1 a2 a3 s l x y = pj_bl px_X12_tests (pj_rn px_X12_tests (pj_as pk_X12_tests) (pj_as [(2, pe_X12_tests_2 (pl_X12_tests_2 fu n)), (30, pe_X12_tests_30 (pl_X12_tests_30 fu (pl_X12_tests_2 fu n))), (56, pe_X12_tests_56 (pl_X12_tests_56 fu))]) 60) [(2, .iload_n 3, 1), (3, .bipush 10, 2), (5, .if_icmp .ge 34, 3)] 2 [(0, pj_O (124, 0)), (1, pj_I a1), (2, pj_I a2), (3, pj_I a3)] [] (s, l, x, y) := rfl
set_option maxRecDepth 100000 in
theorem pq_X12_tests_m (fu : Nat)  (a1 : Int32) (a2 : Int32) (s : Nat → Int32) (l : Nat → Int64) (x : Nat → Int32) (y : Nat → Int64) : po_X12_tests fu a1 a2 s l x y = pj_bl px_X12_tests (pj_rn px_X12_tests (pj_as pk_X12_tests) (pj_as [(2, pe_X12_tests_2 (pl_X12_tests_2 fu fu))]) 60) [(0, .iconst 0, 1), (1, .istore_n 3, 1)] 0 [(0, pj_O (124, 0)), (1, pj_I a1), (2, pj_I a2)] [] (s, l, x, y) := rfl
theorem pu_X12_tests_2 {lf : pj_Z → mj_M} {a : Unit × pj_Z} (f : Int32 → Int32 → Int32 → pj_F (Unit × pj_Z)) (hf : ∀ (a1 : Int32) (a2 : Int32) (a3 : Int32) (s : Nat → Int32) (l : Nat → Int64) (x : Nat → Int32) (y : Nat → Int64), f a1 a2 a3 s l x y = some a → pm_Gd 4 12060 ie_X12_tests.1 pm_rU lf 2 [(0, .ref 124), (1, .int a1), (2, .int a2), (3, .int a3)] [] (s, l, x, y) a) : pm_Ex 4 12060 ie_X12_tests.1 pm_rU lf a 2 (pe_X12_tests_2 f) := by
  intro lv st z hd h
  obtain ⟨g0, h⟩ := pj_xr_inv h
  obtain ⟨a1, g1, h⟩ := pj_xi_inv h
  obtain ⟨a2, g2, h⟩ := pj_xi_inv h
  obtain ⟨a3, g3, h⟩ := pj_xi_inv h
  obtain ⟨e9, h⟩ := pj_pe_inv h
  rw [e9]
  exact mj_wp_sub (mj_sub_cons g0 (mj_sub_cons g1 (mj_sub_cons g2 (mj_sub_cons g3 (mj_sub_nil hd))))) (hf _ _ _ _ _ _ _ h)
theorem pu_X12_tests_30 {lf : pj_Z → mj_M} {a : Unit × pj_Z} (f : Int32 → Int32 → Int32 → Int32 → Int32 → Int32 → pj_F (Unit × pj_Z)) (hf : ∀ (a1 : Int32) (a2 : Int32) (a3 : Int32) (b1 : Int32) (b2 : Int32) (b3 : Int32) (s : Nat → Int32) (l : Nat → Int64) (x : Nat → Int32) (y : Nat → Int64), f a1 a2 a3 b1 b2 b3 s l x y = some a → pm_Gd 4 12060 ie_X12_tests.1 pm_rU lf 30 [(0, .ref 124), (1, .int a1), (2, .int a2), (3, .int a3)] [.int b3, .int b2, .int b1, .ref 124] (s, l, x, y) a) : pm_Ex 4 12060 ie_X12_tests.1 pm_rU lf a 30 (pe_X12_tests_30 f) := by
  intro lv st z hd h
  obtain ⟨g0, h⟩ := pj_xr_inv h
  obtain ⟨a1, g1, h⟩ := pj_xi_inv h
  obtain ⟨a2, g2, h⟩ := pj_xi_inv h
  obtain ⟨a3, g3, h⟩ := pj_xi_inv h
  obtain ⟨b3, r3, e3, h⟩ := pj_pi_inv h
  obtain ⟨b2, r2, e2, h⟩ := pj_pi_inv h
  obtain ⟨b1, r1, e1, h⟩ := pj_pi_inv h
  obtain ⟨r0, e0, h⟩ := pj_pr_inv h
  obtain ⟨e9, h⟩ := pj_pe_inv h
  rw [e3, e2, e1, e0, e9]
  exact mj_wp_sub (mj_sub_cons g0 (mj_sub_cons g1 (mj_sub_cons g2 (mj_sub_cons g3 (mj_sub_nil hd))))) (hf _ _ _ _ _ _ _ _ _ _ h)
theorem pu_X12_tests_56 {lf : pj_Z → mj_M} {a : Unit × pj_Z} (f : Int32 → Int32 → Int32 → pj_F (Unit × pj_Z)) (hf : ∀ (a1 : Int32) (a2 : Int32) (b2 : Int32) (s : Nat → Int32) (l : Nat → Int64) (x : Nat → Int32) (y : Nat → Int64), f a1 a2 b2 s l x y = some a → pm_Gd 4 12060 ie_X12_tests.1 pm_rU lf 56 [(0, .ref 124), (1, .int a1), (2, .int a2)] [.int b2, .int (Int32.ofInt 10), .ref 124] (s, l, x, y) a) : pm_Ex 4 12060 ie_X12_tests.1 pm_rU lf a 56 (pe_X12_tests_56 f) := by
  intro lv st z hd h
  obtain ⟨g0, h⟩ := pj_xr_inv h
  obtain ⟨a1, g1, h⟩ := pj_xi_inv h
  obtain ⟨a2, g2, h⟩ := pj_xi_inv h
  obtain ⟨b2, r2, e2, h⟩ := pj_pi_inv h
  obtain ⟨r1, e1, h⟩ := pj_pc_inv h
  obtain ⟨r0, e0, h⟩ := pj_pr_inv h
  obtain ⟨e9, h⟩ := pj_pe_inv h
  rw [e2, e1, e0, e9]
  exact mj_wp_sub (mj_sub_cons g0 (mj_sub_cons g1 (mj_sub_cons g2 (mj_sub_nil hd)))) (hf _ _ _ _ _ _ _ h)
theorem pu_X12_tests_85 {lf : pj_Z → mj_M} {a : Unit × pj_Z} (f : Int32 → Int32 → Int32 → pj_F (Unit × pj_Z)) (hf : ∀ (a1 : Int32) (a2 : Int32) (b2 : Int32) (s : Nat → Int32) (l : Nat → Int64) (x : Nat → Int32) (y : Nat → Int64), f a1 a2 b2 s l x y = some a → pm_Gd 4 12060 ie_X12_tests.1 pm_rU lf 85 [(0, .ref 124), (1, .int a1), (2, .int a2)] [.int b2, .int (Int32.ofInt 10), .ref 124] (s, l, x, y) a) : pm_Ex 4 12060 ie_X12_tests.1 pm_rU lf a 85 (pe_X12_tests_85 f) := by
  intro lv st z hd h
  obtain ⟨g0, h⟩ := pj_xr_inv h
  obtain ⟨a1, g1, h⟩ := pj_xi_inv h
  obtain ⟨a2, g2, h⟩ := pj_xi_inv h
  obtain ⟨b2, r2, e2, h⟩ := pj_pi_inv h
  obtain ⟨r1, e1, h⟩ := pj_pc_inv h
  obtain ⟨r0, e0, h⟩ := pj_pr_inv h
  obtain ⟨e9, h⟩ := pj_pe_inv h
  rw [e2, e1, e0, e9]
  exact mj_wp_sub (mj_sub_cons g0 (mj_sub_cons g1 (mj_sub_cons g2 (mj_sub_nil hd)))) (hf _ _ _ _ _ _ _ h)
theorem pu_X12_tests_86 {lf : pj_Z → mj_M} {a : Unit × pj_Z} (f : Int32 → Int32 → Int32 → Int32 → pj_F (Unit × pj_Z)) (hf : ∀ (a1 : Int32) (a2 : Int32) (b2 : Int32) (b3 : Int32) (s : Nat → Int32) (l : Nat → Int64) (x : Nat → Int32) (y : Nat → Int64), f a1 a2 b2 b3 s l x y = some a → pm_Gd 4 12060 ie_X12_tests.1 pm_rU lf 86 [(0, .ref 124), (1, .int a1), (2, .int a2)] [.int b3, .int b2, .int (Int32.ofInt 10), .ref 124] (s, l, x, y) a) : pm_Ex 4 12060 ie_X12_tests.1 pm_rU lf a 86 (pe_X12_tests_86 f) := by
  intro lv st z hd h
  obtain ⟨g0, h⟩ := pj_xr_inv h
  obtain ⟨a1, g1, h⟩ := pj_xi_inv h
  obtain ⟨a2, g2, h⟩ := pj_xi_inv h
  obtain ⟨b3, r3, e3, h⟩ := pj_pi_inv h
  obtain ⟨b2, r2, e2, h⟩ := pj_pi_inv h
  obtain ⟨r1, e1, h⟩ := pj_pc_inv h
  obtain ⟨r0, e0, h⟩ := pj_pr_inv h
  obtain ⟨e9, h⟩ := pj_pe_inv h
  rw [e3, e2, e1, e0, e9]
  exact mj_wp_sub (mj_sub_cons g0 (mj_sub_cons g1 (mj_sub_cons g2 (mj_sub_nil hd)))) (hf _ _ _ _ _ _ _ _ h)
theorem pu_X12_tests_106 {lf : pj_Z → mj_M} {a : Unit × pj_Z} (f : Int32 → Int32 → Int32 → pj_F (Unit × pj_Z)) (hf : ∀ (a1 : Int32) (a2 : Int32) (b2 : Int32) (s : Nat → Int32) (l : Nat → Int64) (x : Nat → Int32) (y : Nat → Int64), f a1 a2 b2 s l x y = some a → pm_Gd 4 12060 ie_X12_tests.1 pm_rU lf 106 [(0, .ref 124), (1, .int a1), (2, .int a2)] [.int b2, .int (Int32.ofInt 11), .ref 124] (s, l, x, y) a) : pm_Ex 4 12060 ie_X12_tests.1 pm_rU lf a 106 (pe_X12_tests_106 f) := by
  intro lv st z hd h
  obtain ⟨g0, h⟩ := pj_xr_inv h
  obtain ⟨a1, g1, h⟩ := pj_xi_inv h
  obtain ⟨a2, g2, h⟩ := pj_xi_inv h
  obtain ⟨b2, r2, e2, h⟩ := pj_pi_inv h
  obtain ⟨r1, e1, h⟩ := pj_pc_inv h
  obtain ⟨r0, e0, h⟩ := pj_pr_inv h
  obtain ⟨e9, h⟩ := pj_pe_inv h
  rw [e2, e1, e0, e9]
  exact mj_wp_sub (mj_sub_cons g0 (mj_sub_cons g1 (mj_sub_cons g2 (mj_sub_nil hd)))) (hf _ _ _ _ _ _ _ h)
theorem pu_X12_tests_135 {lf : pj_Z → mj_M} {a : Unit × pj_Z} (f : Int32 → Int32 → Int32 → pj_F (Unit × pj_Z)) (hf : ∀ (a1 : Int32) (a2 : Int32) (b2 : Int32) (s : Nat → Int32) (l : Nat → Int64) (x : Nat → Int32) (y : Nat → Int64), f a1 a2 b2 s l x y = some a → pm_Gd 4 12060 ie_X12_tests.1 pm_rU lf 135 [(0, .ref 124), (1, .int a1), (2, .int a2)] [.int b2, .int (Int32.ofInt 11), .ref 124] (s, l, x, y) a) : pm_Ex 4 12060 ie_X12_tests.1 pm_rU lf a 135 (pe_X12_tests_135 f) := by
  intro lv st z hd h
  obtain ⟨g0, h⟩ := pj_xr_inv h
  obtain ⟨a1, g1, h⟩ := pj_xi_inv h
  obtain ⟨a2, g2, h⟩ := pj_xi_inv h
  obtain ⟨b2, r2, e2, h⟩ := pj_pi_inv h
  obtain ⟨r1, e1, h⟩ := pj_pc_inv h
  obtain ⟨r0, e0, h⟩ := pj_pr_inv h
  obtain ⟨e9, h⟩ := pj_pe_inv h
  rw [e2, e1, e0, e9]
  exact mj_wp_sub (mj_sub_cons g0 (mj_sub_cons g1 (mj_sub_cons g2 (mj_sub_nil hd)))) (hf _ _ _ _ _ _ _ h)
theorem pu_X12_tests_136 {lf : pj_Z → mj_M} {a : Unit × pj_Z} (f : Int32 → Int32 → Int32 → Int32 → pj_F (Unit × pj_Z)) (hf : ∀ (a1 : Int32) (a2 : Int32) (b2 : Int32) (b3 : Int32) (s : Nat → Int32) (l : Nat → Int64) (x : Nat → Int32) (y : Nat → Int64), f a1 a2 b2 b3 s l x y = some a → pm_Gd 4 12060 ie_X12_tests.1 pm_rU lf 136 [(0, .ref 124), (1, .int a1), (2, .int a2)] [.int b3, .int b2, .int (Int32.ofInt 11), .ref 124] (s, l, x, y) a) : pm_Ex 4 12060 ie_X12_tests.1 pm_rU lf a 136 (pe_X12_tests_136 f) := by
  intro lv st z hd h
  obtain ⟨g0, h⟩ := pj_xr_inv h
  obtain ⟨a1, g1, h⟩ := pj_xi_inv h
  obtain ⟨a2, g2, h⟩ := pj_xi_inv h
  obtain ⟨b3, r3, e3, h⟩ := pj_pi_inv h
  obtain ⟨b2, r2, e2, h⟩ := pj_pi_inv h
  obtain ⟨r1, e1, h⟩ := pj_pc_inv h
  obtain ⟨r0, e0, h⟩ := pj_pr_inv h
  obtain ⟨e9, h⟩ := pj_pe_inv h
  rw [e3, e2, e1, e0, e9]
  exact mj_wp_sub (mj_sub_cons g0 (mj_sub_cons g1 (mj_sub_cons g2 (mj_sub_nil hd)))) (hf _ _ _ _ _ _ _ _ h)
theorem pu_X12_tests_158 {lf : pj_Z → mj_M} {a : Unit × pj_Z} (f : Int32 → pj_F (Unit × pj_Z)) (hf : ∀ (b2 : Int32) (s : Nat → Int32) (l : Nat → Int64) (x : Nat → Int32) (y : Nat → Int64), f b2 s l x y = some a → pm_Gd 4 12060 ie_X12_tests.1 pm_rU lf 158 [(0, .ref 124)] [.int b2, .int (Int32.ofInt 12), .ref 124] (s, l, x, y) a) : pm_Ex 4 12060 ie_X12_tests.1 pm_rU lf a 158 (pe_X12_tests_158 f) := by
  intro lv st z hd h
  obtain ⟨g0, h⟩ := pj_xr_inv h
  obtain ⟨b2, r2, e2, h⟩ := pj_pi_inv h
  obtain ⟨r1, e1, h⟩ := pj_pc_inv h
  obtain ⟨r0, e0, h⟩ := pj_pr_inv h
  obtain ⟨e9, h⟩ := pj_pe_inv h
  rw [e2, e1, e0, e9]
  exact mj_wp_sub (mj_sub_cons g0 (mj_sub_nil hd)) (hf _ _ _ _ _ h)
theorem pu_X12_tests_159 {lf : pj_Z → mj_M} {a : Unit × pj_Z} (f : Int32 → Int32 → pj_F (Unit × pj_Z)) (hf : ∀ (b2 : Int32) (b3 : Int32) (s : Nat → Int32) (l : Nat → Int64) (x : Nat → Int32) (y : Nat → Int64), f b2 b3 s l x y = some a → pm_Gd 4 12060 ie_X12_tests.1 pm_rU lf 159 [(0, .ref 124)] [.int b3, .int b2, .int (Int32.ofInt 12), .ref 124] (s, l, x, y) a) : pm_Ex 4 12060 ie_X12_tests.1 pm_rU lf a 159 (pe_X12_tests_159 f) := by
  intro lv st z hd h
  obtain ⟨g0, h⟩ := pj_xr_inv h
  obtain ⟨b3, r3, e3, h⟩ := pj_pi_inv h
  obtain ⟨b2, r2, e2, h⟩ := pj_pi_inv h
  obtain ⟨r1, e1, h⟩ := pj_pc_inv h
  obtain ⟨r0, e0, h⟩ := pj_pr_inv h
  obtain ⟨e9, h⟩ := pj_pe_inv h
  rw [e3, e2, e1, e0, e9]
  exact mj_wp_sub (mj_sub_cons g0 (mj_sub_nil hd)) (hf _ _ _ _ _ _ h)
theorem pu_X12_tests_187 {lf : pj_Z → mj_M} {a : Unit × pj_Z} (f : Int32 → pj_F (Unit × pj_Z)) (hf : ∀ (b2 : Int32) (s : Nat → Int32) (l : Nat → Int64) (x : Nat → Int32) (y : Nat → Int64), f b2 s l x y = some a → pm_Gd 4 12060 ie_X12_tests.1 pm_rU lf 187 [(0, .ref 124)] [.int b2, .int (Int32.ofInt 13), .ref 124] (s, l, x, y) a) : pm_Ex 4 12060 ie_X12_tests.1 pm_rU lf a 187 (pe_X12_tests_187 f) := by
  intro lv st z hd h
  obtain ⟨g0, h⟩ := pj_xr_inv h
  obtain ⟨b2, r2, e2, h⟩ := pj_pi_inv h
  obtain ⟨r1, e1, h⟩ := pj_pc_inv h
  obtain ⟨r0, e0, h⟩ := pj_pr_inv h
  obtain ⟨e9, h⟩ := pj_pe_inv h
  rw [e2, e1, e0, e9]
  exact mj_wp_sub (mj_sub_cons g0 (mj_sub_nil hd)) (hf _ _ _ _ _ h)
theorem pu_X12_tests_188 {lf : pj_Z → mj_M} {a : Unit × pj_Z} (f : Int32 → Int32 → pj_F (Unit × pj_Z)) (hf : ∀ (b2 : Int32) (b3 : Int32) (s : Nat → Int32) (l : Nat → Int64) (x : Nat → Int32) (y : Nat → Int64), f b2 b3 s l x y = some a → pm_Gd 4 12060 ie_X12_tests.1 pm_rU lf 188 [(0, .ref 124)] [.int b3, .int b2, .int (Int32.ofInt 13), .ref 124] (s, l, x, y) a) : pm_Ex 4 12060 ie_X12_tests.1 pm_rU lf a 188 (pe_X12_tests_188 f) := by
  intro lv st z hd h
  obtain ⟨g0, h⟩ := pj_xr_inv h
  obtain ⟨b3, r3, e3, h⟩ := pj_pi_inv h
  obtain ⟨b2, r2, e2, h⟩ := pj_pi_inv h
  obtain ⟨r1, e1, h⟩ := pj_pc_inv h
  obtain ⟨r0, e0, h⟩ := pj_pr_inv h
  obtain ⟨e9, h⟩ := pj_pe_inv h
  rw [e3, e2, e1, e0, e9]
  exact mj_wp_sub (mj_sub_cons g0 (mj_sub_nil hd)) (hf _ _ _ _ _ _ h)
theorem pu_X12_tests_221 {lf : pj_Z → mj_M} {a : Unit × pj_Z} (f : Int32 → pj_F (Unit × pj_Z)) (hf : ∀ (b2 : Int32) (s : Nat → Int32) (l : Nat → Int64) (x : Nat → Int32) (y : Nat → Int64), f b2 s l x y = some a → pm_Gd 4 12060 ie_X12_tests.1 pm_rU lf 221 [(0, .ref 124)] [.int b2, .int (Int32.ofInt 15), .ref 124] (s, l, x, y) a) : pm_Ex 4 12060 ie_X12_tests.1 pm_rU lf a 221 (pe_X12_tests_221 f) := by
  intro lv st z hd h
  obtain ⟨g0, h⟩ := pj_xr_inv h
  obtain ⟨b2, r2, e2, h⟩ := pj_pi_inv h
  obtain ⟨r1, e1, h⟩ := pj_pc_inv h
  obtain ⟨r0, e0, h⟩ := pj_pr_inv h
  obtain ⟨e9, h⟩ := pj_pe_inv h
  rw [e2, e1, e0, e9]
  exact mj_wp_sub (mj_sub_cons g0 (mj_sub_nil hd)) (hf _ _ _ _ _ h)
theorem pu_X12_tests_234 {lf : pj_Z → mj_M} {a : Unit × pj_Z} (f : Int32 → Int32 → pj_F (Unit × pj_Z)) (hf : ∀ (b2 : Int32) (b3 : Int32) (s : Nat → Int32) (l : Nat → Int64) (x : Nat → Int32) (y : Nat → Int64), f b2 b3 s l x y = some a → pm_Gd 4 12060 ie_X12_tests.1 pm_rU lf 234 [(0, .ref 124)] [.int b3, .int b2, .int (Int32.ofInt 15), .ref 124] (s, l, x, y) a) : pm_Ex 4 12060 ie_X12_tests.1 pm_rU lf a 234 (pe_X12_tests_234 f) := by
  intro lv st z hd h
  obtain ⟨g0, h⟩ := pj_xr_inv h
  obtain ⟨b3, r3, e3, h⟩ := pj_pi_inv h
  obtain ⟨b2, r2, e2, h⟩ := pj_pi_inv h
  obtain ⟨r1, e1, h⟩ := pj_pc_inv h
  obtain ⟨r0, e0, h⟩ := pj_pr_inv h
  obtain ⟨e9, h⟩ := pj_pe_inv h
  rw [e3, e2, e1, e0, e9]
  exact mj_wp_sub (mj_sub_cons g0 (mj_sub_nil hd)) (hf _ _ _ _ _ _ h)
theorem pu_X12_tests_259 {lf : pj_Z → mj_M} {a : Unit × pj_Z} (f : pj_F (Unit × pj_Z)) (hf : ∀  (s : Nat → Int32) (l : Nat → Int64) (x : Nat → Int32) (y : Nat → Int64), f  s l x y = some a → pm_Gd 4 12060 ie_X12_tests.1 pm_rU lf 259 [(0, .ref 124)] [.int (Int32.ofInt 16), .ref 124] (s, l, x, y) a) : pm_Ex 4 12060 ie_X12_tests.1 pm_rU lf a 259 (pe_X12_tests_259 f) := by
  intro lv st z hd h
  obtain ⟨g0, h⟩ := pj_xr_inv h
  obtain ⟨r1, e1, h⟩ := pj_pc_inv h
  obtain ⟨r0, e0, h⟩ := pj_pr_inv h
  obtain ⟨e9, h⟩ := pj_pe_inv h
  rw [e1, e0, e9]
  exact mj_wp_sub (mj_sub_cons g0 (mj_sub_nil hd)) (hf  _ _ _ _ h)
theorem pu_X12_tests_264 {lf : pj_Z → mj_M} {a : Unit × pj_Z} (f : Int32 → pj_F (Unit × pj_Z)) (hf : ∀ (b2 : Int32) (s : Nat → Int32) (l : Nat → Int64) (x : Nat → Int32) (y : Nat → Int64), f b2 s l x y = some a → pm_Gd 4 12060 ie_X12_tests.1 pm_rU lf 264 [(0, .ref 124)] [.int b2, .int (Int32.ofInt 16), .ref 124] (s, l, x, y) a) : pm_Ex 4 12060 ie_X12_tests.1 pm_rU lf a 264 (pe_X12_tests_264 f) := by
  intro lv st z hd h
  obtain ⟨g0, h⟩ := pj_xr_inv h
  obtain ⟨b2, r2, e2, h⟩ := pj_pi_inv h
  obtain ⟨r1, e1, h⟩ := pj_pc_inv h
  obtain ⟨r0, e0, h⟩ := pj_pr_inv h
  obtain ⟨e9, h⟩ := pj_pe_inv h
  rw [e2, e1, e0, e9]
  exact mj_wp_sub (mj_sub_cons g0 (mj_sub_nil hd)) (hf _ _ _ _ _ h)
theorem pu_X12_tests_283 {lf : pj_Z → mj_M} {a : Unit × pj_Z} (f : Int32 → pj_F (Unit × pj_Z)) (hf : ∀ (b2 : Int32) (s : Nat → Int32) (l : Nat → Int64) (x : Nat → Int32) (y : Nat → Int64), f b2 s l x y = some a → pm_Gd 4 12060 ie_X12_tests.1 pm_rU lf 283 [(0, .ref 124)] [.int b2, .int (Int32.ofInt 16), .ref 124] (s, l, x, y) a) : pm_Ex 4 12060 ie_X12_tests.1 pm_rU lf a 283 (pe_X12_tests_283 f) := by
  intro lv st z hd h
  obtain ⟨g0, h⟩ := pj_xr_inv h
  obtain ⟨b2, r2, e2, h⟩ := pj_pi_inv h
  obtain ⟨r1, e1, h⟩ := pj_pc_inv h
  obtain ⟨r0, e0, h⟩ := pj_pr_inv h
  obtain ⟨e9, h⟩ := pj_pe_inv h
  rw [e2, e1, e0, e9]
  exact mj_wp_sub (mj_sub_cons g0 (mj_sub_nil hd)) (hf _ _ _ _ _ h)
theorem pu_X12_tests_284 {lf : pj_Z → mj_M} {a : Unit × pj_Z} (f : Int32 → Int32 → pj_F (Unit × pj_Z)) (hf : ∀ (b2 : Int32) (b3 : Int32) (s : Nat → Int32) (l : Nat → Int64) (x : Nat → Int32) (y : Nat → Int64), f b2 b3 s l x y = some a → pm_Gd 4 12060 ie_X12_tests.1 pm_rU lf 284 [(0, .ref 124)] [.int b3, .int b2, .int (Int32.ofInt 16), .ref 124] (s, l, x, y) a) : pm_Ex 4 12060 ie_X12_tests.1 pm_rU lf a 284 (pe_X12_tests_284 f) := by
  intro lv st z hd h
  obtain ⟨g0, h⟩ := pj_xr_inv h
  obtain ⟨b3, r3, e3, h⟩ := pj_pi_inv h
  obtain ⟨b2, r2, e2, h⟩ := pj_pi_inv h
  obtain ⟨r1, e1, h⟩ := pj_pc_inv h
  obtain ⟨r0, e0, h⟩ := pj_pr_inv h
  obtain ⟨e9, h⟩ := pj_pe_inv h
  rw [e3, e2, e1, e0, e9]
  exact mj_wp_sub (mj_sub_cons g0 (mj_sub_nil hd)) (hf _ _ _ _ _ _ h)
theorem pu_X12_tests_305 {lf : pj_Z → mj_M} {a : Unit × pj_Z} (f : Int32 → pj_F (Unit × pj_Z)) (hf : ∀ (b2 : Int32) (s : Nat → Int32) (l : Nat → Int64) (x : Nat → Int32) (y : Nat → Int64), f b2 s l x y = some a → pm_Gd 4 12060 ie_X12_tests.1 pm_rU lf 305 [(0, .ref 124)] [.int b2, .int (Int32.ofInt 17), .ref 124] (s, l, x, y) a) : pm_Ex 4 12060 ie_X12_tests.1 pm_rU lf a 305 (pe_X12_tests_305 f) := by
  intro lv st z hd h
  obtain ⟨g0, h⟩ := pj_xr_inv h
  obtain ⟨b2, r2, e2, h⟩ := pj_pi_inv h
  obtain ⟨r1, e1, h⟩ := pj_pc_inv h
  obtain ⟨r0, e0, h⟩ := pj_pr_inv h
  obtain ⟨e9, h⟩ := pj_pe_inv h
  rw [e2, e1, e0, e9]
  exact mj_wp_sub (mj_sub_cons g0 (mj_sub_nil hd)) (hf _ _ _ _ _ h)
theorem pu_X12_tests_323 {lf : pj_Z → mj_M} {a : Unit × pj_Z} (f : Int32 → pj_F (Unit × pj_Z)) (hf : ∀ (b2 : Int32) (s : Nat → Int32) (l : Nat → Int64) (x : Nat → Int32) (y : Nat → Int64), f b2 s l x y = some a → pm_Gd 4 12060 ie_X12_tests.1 pm_rU lf 323 [(0, .ref 124)] [.int b2, .int (Int32.ofInt 17), .ref 124] (s, l, x, y) a) : pm_Ex 4 12060 ie_X12_tests.1 pm_rU lf a 323 (pe_X12_tests_323 f) := by
  intro lv st z hd h
  obtain ⟨g0, h⟩ := pj_xr_inv h
  obtain ⟨b2, r2, e2, h⟩ := pj_pi_inv h
  obtain ⟨r1, e1, h⟩ := pj_pc_inv h
  obtain ⟨r0, e0, h⟩ := pj_pr_inv h
  obtain ⟨e9, h⟩ := pj_pe_inv h
  rw [e2, e1, e0, e9]
  exact mj_wp_sub (mj_sub_cons g0 (mj_sub_nil hd)) (hf _ _ _ _ _ h)
theorem pu_X12_tests_324 {lf : pj_Z → mj_M} {a : Unit × pj_Z} (f : Int32 → Int32 → pj_F (Unit × pj_Z)) (hf : ∀ (b2 : Int32) (b3 : Int32) (s : Nat → Int32) (l : Nat → Int64) (x : Nat → Int32) (y : Nat → Int64), f b2 b3 s l x y = some a → pm_Gd 4 12060 ie_X12_tests.1 pm_rU lf 324 [(0, .ref 124)] [.int b3, .int b2, .int (Int32.ofInt 17), .ref 124] (s, l, x, y) a) : pm_Ex 4 12060 ie_X12_tests.1 pm_rU lf a 324 (pe_X12_tests_324 f) := by
  intro lv st z hd h
  obtain ⟨g0, h⟩ := pj_xr_inv h
  obtain ⟨b3, r3, e3, h⟩ := pj_pi_inv h
  obtain ⟨b2, r2, e2, h⟩ := pj_pi_inv h
  obtain ⟨r1, e1, h⟩ := pj_pc_inv h
  obtain ⟨r0, e0, h⟩ := pj_pr_inv h
  obtain ⟨e9, h⟩ := pj_pe_inv h
  rw [e3, e2, e1, e0, e9]
  exact mj_wp_sub (mj_sub_cons g0 (mj_sub_nil hd)) (hf _ _ _ _ _ _ h)
theorem pu_X12_tests_366 {lf : pj_Z → mj_M} {a : Unit × pj_Z} (f : pj_F (Unit × pj_Z)) (hf : ∀  (s : Nat → Int32) (l : Nat → Int64) (x : Nat → Int32) (y : Nat → Int64), f  s l x y = some a → pm_Gd 4 12060 ie_X12_tests.1 pm_rU lf 366 [(0, .ref 124)] [.int (Int32.ofInt 18), .ref 124] (s, l, x, y) a) : pm_Ex 4 12060 ie_X12_tests.1 pm_rU lf a 366 (pe_X12_tests_366 f) := by
  intro lv st z hd h
  obtain ⟨g0, h⟩ := pj_xr_inv h
  obtain ⟨r1, e1, h⟩ := pj_pc_inv h
  obtain ⟨r0, e0, h⟩ := pj_pr_inv h
  obtain ⟨e9, h⟩ := pj_pe_inv h
  rw [e1, e0, e9]
  exact mj_wp_sub (mj_sub_cons g0 (mj_sub_nil hd)) (hf  _ _ _ _ h)
theorem pu_X12_tests_370 {lf : pj_Z → mj_M} {a : Unit × pj_Z} (f : pj_F (Unit × pj_Z)) (hf : ∀  (s : Nat → Int32) (l : Nat → Int64) (x : Nat → Int32) (y : Nat → Int64), f  s l x y = some a → pm_Gd 4 12060 ie_X12_tests.1 pm_rU lf 370 [(0, .ref 124)] [.int (Int32.ofInt 18), .ref 124] (s, l, x, y) a) : pm_Ex 4 12060 ie_X12_tests.1 pm_rU lf a 370 (pe_X12_tests_370 f) := by
  intro lv st z hd h
  obtain ⟨g0, h⟩ := pj_xr_inv h
  obtain ⟨r1, e1, h⟩ := pj_pc_inv h
  obtain ⟨r0, e0, h⟩ := pj_pr_inv h
  obtain ⟨e9, h⟩ := pj_pe_inv h
  rw [e1, e0, e9]
  exact mj_wp_sub (mj_sub_cons g0 (mj_sub_nil hd)) (hf  _ _ _ _ h)
theorem pu_X12_tests_371 {lf : pj_Z → mj_M} {a : Unit × pj_Z} (f : Int32 → pj_F (Unit × pj_Z)) (hf : ∀ (b2 : Int32) (s : Nat → Int32) (l : Nat → Int64) (x : Nat → Int32) (y : Nat → Int64), f b2 s l x y = some a → pm_Gd 4 12060 ie_X12_tests.1 pm_rU lf 371 [(0, .ref 124)] [.int b2, .int (Int32.ofInt 18), .ref 124] (s, l, x, y) a) : pm_Ex 4 12060 ie_X12_tests.1 pm_rU lf a 371 (pe_X12_tests_371 f) := by
  intro lv st z hd h
  obtain ⟨g0, h⟩ := pj_xr_inv h
  obtain ⟨b2, r2, e2, h⟩ := pj_pi_inv h
  obtain ⟨r1, e1, h⟩ := pj_pc_inv h
  obtain ⟨r0, e0, h⟩ := pj_pr_inv h
  obtain ⟨e9, h⟩ := pj_pe_inv h
  rw [e2, e1, e0, e9]
  exact mj_wp_sub (mj_sub_cons g0 (mj_sub_nil hd)) (hf _ _ _ _ _ h)
theorem pu_X12_tests_397 {lf : pj_Z → mj_M} {a : Unit × pj_Z} (f : Int32 → pj_F (Unit × pj_Z)) (hf : ∀ (b2 : Int32) (s : Nat → Int32) (l : Nat → Int64) (x : Nat → Int32) (y : Nat → Int64), f b2 s l x y = some a → pm_Gd 4 12060 ie_X12_tests.1 pm_rU lf 397 [(0, .ref 124)] [.int b2, .int (Int32.ofInt 19), .ref 124] (s, l, x, y) a) : pm_Ex 4 12060 ie_X12_tests.1 pm_rU lf a 397 (pe_X12_tests_397 f) := by
  intro lv st z hd h
  obtain ⟨g0, h⟩ := pj_xr_inv h
  obtain ⟨b2, r2, e2, h⟩ := pj_pi_inv h
  obtain ⟨r1, e1, h⟩ := pj_pc_inv h
  obtain ⟨r0, e0, h⟩ := pj_pr_inv h
  obtain ⟨e9, h⟩ := pj_pe_inv h
  rw [e2, e1, e0, e9]
  exact mj_wp_sub (mj_sub_cons g0 (mj_sub_nil hd)) (hf _ _ _ _ _ h)
theorem pu_X12_tests_413 {lf : pj_Z → mj_M} {a : Unit × pj_Z} (f : Int32 → Int32 → pj_F (Unit × pj_Z)) (hf : ∀ (b2 : Int32) (b3 : Int32) (s : Nat → Int32) (l : Nat → Int64) (x : Nat → Int32) (y : Nat → Int64), f b2 b3 s l x y = some a → pm_Gd 4 12060 ie_X12_tests.1 pm_rU lf 413 [(0, .ref 124)] [.int b3, .int b2, .int (Int32.ofInt 19), .ref 124] (s, l, x, y) a) : pm_Ex 4 12060 ie_X12_tests.1 pm_rU lf a 413 (pe_X12_tests_413 f) := by
  intro lv st z hd h
  obtain ⟨g0, h⟩ := pj_xr_inv h
  obtain ⟨b3, r3, e3, h⟩ := pj_pi_inv h
  obtain ⟨b2, r2, e2, h⟩ := pj_pi_inv h
  obtain ⟨r1, e1, h⟩ := pj_pc_inv h
  obtain ⟨r0, e0, h⟩ := pj_pr_inv h
  obtain ⟨e9, h⟩ := pj_pe_inv h
  rw [e3, e2, e1, e0, e9]
  exact mj_wp_sub (mj_sub_cons g0 (mj_sub_nil hd)) (hf _ _ _ _ _ _ h)
set_option maxRecDepth 100000 in
theorem pz_X12_tests {lf : pj_Z → mj_M} (hT : pj_Lt pj_TR lf) : pj_Cok ic_P (mj_R ic_P 4) 12060 ie_X12_tests.1 (pm_OK lf pm_rU) lf px_X12_tests := by
  exact pm_cok (c := px_X12_tests) (pm_part hT (pj_as_all (p := fun b e => pj_TR b = some e) (List.forall_mem_cons.mpr ⟨rfl, (List.forall_mem_cons.mpr ⟨rfl, (List.forall_mem_cons.mpr ⟨rfl, (List.forall_mem_cons.mpr ⟨rfl, (fun _ h => by cases h)⟩)⟩)⟩)⟩))) (pm_in_ok (L := [(136, 12, 73, 2, true), (139, 12, 74, 2, true), (146, 12, 106, 2, true), (262, 12, 34, 0, false), (278, 12, 39, 0, false), (281, 12, 40, 0, false), (284, 12, 41, 0, false), (314, 12, 69, 0, false), (317, 12, 70, 0, false), (426, 12, 78, 0, false), (429, 12, 79, 0, false), (459, 12, 90, 0, false), (462, 12, 91, 3, false), (468, 12, 93, 0, false), (477, 12, 96, 3, false), (480, 12, 97, 3, false), (489, 12, 100, 3, false), (492, 12, 104, 0, false), (501, 12, 108, 0, false), (504, 12, 109, 0, false), (507, 12, 110, 0, false), (510, 12, 111, 0, false), (516, 12, 103, 0, false)]) (f := mj_pF ic_P 12060) (by decide +kernel)) (fun _ _ h => by cases h) (fun _ _ h => by cases h) (fun _ _ h => by cases h) rfl rfl ⟨by decide, rfl⟩ pm_mU (pj_as_all (p := pm_Cl 4 12060 ie_X12_tests.1 lf (pm_OK lf pm_rU)) (List.forall_mem_cons.mpr ⟨fun _ _ lv st z K a hK h => pc_X12_test hT (by decide) (ix := 676) rfl rfl hK h, (List.forall_mem_cons.mpr ⟨fun _ _ lv st z K a hK h => pc_X12_test hT (by decide) (ix := 676) rfl rfl hK h, (List.forall_mem_cons.mpr ⟨fun _ _ lv st z K a hK h => pc_X12_test hT (by decide) (ix := 676) rfl rfl hK h, (List.forall_mem_cons.mpr ⟨fun _ _ lv st z K a hK h => pc_X12_test hT (by decide) (ix := 676) rfl rfl hK h, (List.forall_mem_cons.mpr ⟨fun _ _ lv st z K a hK h => pc_X12_test hT (by decide) (ix := 676) rfl rfl hK h, (List.forall_mem_cons.mpr ⟨fun _ _ lv st z K a hK h => pc_X12_test hT (by decide) (ix := 676) rfl rfl hK h, (List.forall_mem_cons.mpr ⟨fun _ _ lv st z K a hK h => pc_X12_test hT (by decide) (ix := 676) rfl rfl hK h, (List.forall_mem_cons.mpr ⟨fun _ _ lv st z K a hK h => pc_X12_test hT (by decide) (ix := 676) rfl rfl hK h, (List.forall_mem_cons.mpr ⟨fun _ _ lv st z K a hK h => pc_X12_test hT (by decide) (ix := 676) rfl rfl hK h, (List.forall_mem_cons.mpr ⟨fun _ _ lv st z K a hK h => pc_X12_cellNow hT (by decide) (ix := 689) rfl rfl hK h, (List.forall_mem_cons.mpr ⟨fun _ _ lv st z K a hK h => pc_X12_test hT (by decide) (ix := 676) rfl rfl hK h, (List.forall_mem_cons.mpr ⟨fun _ _ lv st z K a hK h => pc_X12_test hT (by decide) (ix := 676) rfl rfl hK h, (fun _ h => by cases h)⟩)⟩)⟩)⟩)⟩)⟩)⟩)⟩)⟩)⟩)⟩)⟩)) (fun _ h => by cases h)
set_option maxRecDepth 100000 in
theorem pb_X12_tests : pm_bks ie_X12_tests.1.2.2.2.2 pk_X12_tests = true := by decide +kernel
set_option maxRecDepth 100000 in
theorem pg_X12_tests_30 {fu : Nat} {lf : pj_Z → mj_M} (hT : pj_Lt pj_TR lf) {k2 : Int32 → Int32 → Int32 → pj_F (Unit × pj_Z)} (hk2 : ∀ (a1 : Int32) (a2 : Int32) (a3 : Int32) (s : Nat → Int32) (l : Nat → Int64) (x : Nat → Int32) (y : Nat → Int64) (a : Unit × pj_Z), k2 a1 a2 a3 s l x y = some a → pm_Gd 4 12060 ie_X12_tests.1 pm_rU lf 2 [(0, .ref 124), (1, .int a1), (2, .int a2), (3, .int a3)] [] (s, l, x, y) a) : ∀ (a1 : Int32) (a2 : Int32) (a3 : Int32) (b1 : Int32) (b2 : Int32) (b3 : Int32) (s : Nat → Int32) (l : Nat → Int64) (x : Nat → Int32) (y : Nat → Int64) (a : Unit × pj_Z), pl_X12_tests_30 fu k2 a1 a2 a3 b1 b2 b3 s l x y = some a → pm_Gd 4 12060 ie_X12_tests.1 pm_rU lf 30 [(0, .ref 124), (1, .int a1), (2, .int a2), (3, .int a3)] [.int b3, .int b2, .int b1, .ref 124] (s, l, x, y) a := by
  intro a1 a2 a3 b1 b2 b3 s l x y a h
  exact pm_run ((pq_X12_tests_30 fu k2 a1 a2 a3 b1 b2 b3 s l x y).symm.trans h) (pz_X12_tests hT) (pm_bks_ok pb_X12_tests) (pm_bks_ok pb_X12_tests _ _ rfl) (pm_ndb_ok rfl) (pj_as_all (p := pm_Ex 4 12060 ie_X12_tests.1 pm_rU lf a) (List.forall_mem_cons.mpr ⟨pu_X12_tests_2 _ (fun c0 c1 c2 s l x y h => hk2 c0 c1 c2 s l x y _ h), (fun _ h => by cases h)⟩))
set_option maxRecDepth 100000 in
theorem pg_X12_tests_413 {fu : Nat} {lf : pj_Z → mj_M} (hT : pj_Lt pj_TR lf) : ∀ (b2 : Int32) (b3 : Int32) (s : Nat → Int32) (l : Nat → Int64) (x : Nat → Int32) (y : Nat → Int64) (a : Unit × pj_Z), pl_X12_tests_413 fu b2 b3 s l x y = some a → pm_Gd 4 12060 ie_X12_tests.1 pm_rU lf 413 [(0, .ref 124)] [.int b3, .int b2, .int (Int32.ofInt 19), .ref 124] (s, l, x, y) a := by
  intro b2 b3 s l x y a h
  exact pm_run ((pq_X12_tests_413 fu b2 b3 s l x y).symm.trans h) (pz_X12_tests hT) (pm_bks_ok pb_X12_tests) (pm_bks_ok pb_X12_tests _ _ rfl) (pm_ndb_ok rfl) (fun _ _ h => by cases h)
set_option maxRecDepth 100000 in
theorem pg_X12_tests_397 {fu : Nat} {lf : pj_Z → mj_M} (hT : pj_Lt pj_TR lf) : ∀ (b2 : Int32) (s : Nat → Int32) (l : Nat → Int64) (x : Nat → Int32) (y : Nat → Int64) (a : Unit × pj_Z), pl_X12_tests_397 fu b2 s l x y = some a → pm_Gd 4 12060 ie_X12_tests.1 pm_rU lf 397 [(0, .ref 124)] [.int b2, .int (Int32.ofInt 19), .ref 124] (s, l, x, y) a := by
  intro b2 s l x y a h
  exact pm_run ((pq_X12_tests_397 fu b2 s l x y).symm.trans h) (pz_X12_tests hT) (pm_bks_ok pb_X12_tests) (pm_bks_ok pb_X12_tests _ _ rfl) (pm_ndb_ok rfl) (pj_as_all (p := pm_Ex 4 12060 ie_X12_tests.1 pm_rU lf a) (List.forall_mem_cons.mpr ⟨pu_X12_tests_413 _ (fun c0 c1 s l x y h => pg_X12_tests_413 hT c0 c1 s l x y _ h), (fun _ h => by cases h)⟩))
set_option maxRecDepth 100000 in
theorem pg_X12_tests_371 {fu : Nat} {lf : pj_Z → mj_M} (hT : pj_Lt pj_TR lf) : ∀ (b2 : Int32) (s : Nat → Int32) (l : Nat → Int64) (x : Nat → Int32) (y : Nat → Int64) (a : Unit × pj_Z), pl_X12_tests_371 fu b2 s l x y = some a → pm_Gd 4 12060 ie_X12_tests.1 pm_rU lf 371 [(0, .ref 124)] [.int b2, .int (Int32.ofInt 18), .ref 124] (s, l, x, y) a := by
  intro b2 s l x y a h
  exact pm_run ((pq_X12_tests_371 fu b2 s l x y).symm.trans h) (pz_X12_tests hT) (pm_bks_ok pb_X12_tests) (pm_bks_ok pb_X12_tests _ _ rfl) (pm_ndb_ok rfl) (pj_as_all (p := pm_Ex 4 12060 ie_X12_tests.1 pm_rU lf a) (List.forall_mem_cons.mpr ⟨pu_X12_tests_397 _ (fun c0 s l x y h => pg_X12_tests_397 hT c0 s l x y _ h), (fun _ h => by cases h)⟩))
set_option maxRecDepth 100000 in
theorem pg_X12_tests_366 {fu : Nat} {lf : pj_Z → mj_M} (hT : pj_Lt pj_TR lf) : ∀  (s : Nat → Int32) (l : Nat → Int64) (x : Nat → Int32) (y : Nat → Int64) (a : Unit × pj_Z), pl_X12_tests_366 fu s l x y = some a → pm_Gd 4 12060 ie_X12_tests.1 pm_rU lf 366 [(0, .ref 124)] [.int (Int32.ofInt 18), .ref 124] (s, l, x, y) a := by
  intro  s l x y a h
  exact pm_run ((pq_X12_tests_366 fu  s l x y).symm.trans h) (pz_X12_tests hT) (pm_bks_ok pb_X12_tests) (pm_bks_ok pb_X12_tests _ _ rfl) (pm_ndb_ok rfl) (pj_as_all (p := pm_Ex 4 12060 ie_X12_tests.1 pm_rU lf a) (List.forall_mem_cons.mpr ⟨pu_X12_tests_371 _ (fun c0 s l x y h => pg_X12_tests_371 hT c0 s l x y _ h), (fun _ h => by cases h)⟩))
set_option maxRecDepth 100000 in
theorem pg_X12_tests_370 {fu : Nat} {lf : pj_Z → mj_M} (hT : pj_Lt pj_TR lf) : ∀  (s : Nat → Int32) (l : Nat → Int64) (x : Nat → Int32) (y : Nat → Int64) (a : Unit × pj_Z), pl_X12_tests_370 fu s l x y = some a → pm_Gd 4 12060 ie_X12_tests.1 pm_rU lf 370 [(0, .ref 124)] [.int (Int32.ofInt 18), .ref 124] (s, l, x, y) a := by
  intro  s l x y a h
  exact pm_run ((pq_X12_tests_370 fu  s l x y).symm.trans h) (pz_X12_tests hT) (pm_bks_ok pb_X12_tests) (pm_bks_ok pb_X12_tests _ _ rfl) (pm_ndb_ok rfl) (pj_as_all (p := pm_Ex 4 12060 ie_X12_tests.1 pm_rU lf a) (List.forall_mem_cons.mpr ⟨pu_X12_tests_371 _ (fun c0 s l x y h => pg_X12_tests_371 hT c0 s l x y _ h), (fun _ h => by cases h)⟩))
set_option maxRecDepth 100000 in
theorem pg_X12_tests_324 {fu : Nat} {lf : pj_Z → mj_M} (hT : pj_Lt pj_TR lf) : ∀ (b2 : Int32) (b3 : Int32) (s : Nat → Int32) (l : Nat → Int64) (x : Nat → Int32) (y : Nat → Int64) (a : Unit × pj_Z), pl_X12_tests_324 fu b2 b3 s l x y = some a → pm_Gd 4 12060 ie_X12_tests.1 pm_rU lf 324 [(0, .ref 124)] [.int b3, .int b2, .int (Int32.ofInt 17), .ref 124] (s, l, x, y) a := by
  intro b2 b3 s l x y a h
  exact pm_run ((pq_X12_tests_324 fu b2 b3 s l x y).symm.trans h) (pz_X12_tests hT) (pm_bks_ok pb_X12_tests) (pm_bks_ok pb_X12_tests _ _ rfl) (pm_ndb_ok rfl) (pj_as_all (p := pm_Ex 4 12060 ie_X12_tests.1 pm_rU lf a) (List.forall_mem_cons.mpr ⟨pu_X12_tests_366 _ (fun  s l x y h => pg_X12_tests_366 hT  s l x y _ h), (List.forall_mem_cons.mpr ⟨pu_X12_tests_370 _ (fun  s l x y h => pg_X12_tests_370 hT  s l x y _ h), (fun _ h => by cases h)⟩)⟩))
set_option maxRecDepth 100000 in
theorem pg_X12_tests_323 {fu : Nat} {lf : pj_Z → mj_M} (hT : pj_Lt pj_TR lf) : ∀ (b2 : Int32) (s : Nat → Int32) (l : Nat → Int64) (x : Nat → Int32) (y : Nat → Int64) (a : Unit × pj_Z), pl_X12_tests_323 fu b2 s l x y = some a → pm_Gd 4 12060 ie_X12_tests.1 pm_rU lf 323 [(0, .ref 124)] [.int b2, .int (Int32.ofInt 17), .ref 124] (s, l, x, y) a := by
  intro b2 s l x y a h
  exact pm_run ((pq_X12_tests_323 fu b2 s l x y).symm.trans h) (pz_X12_tests hT) (pm_bks_ok pb_X12_tests) (pm_bks_ok pb_X12_tests _ _ rfl) (pm_ndb_ok rfl) (pj_as_all (p := pm_Ex 4 12060 ie_X12_tests.1 pm_rU lf a) (List.forall_mem_cons.mpr ⟨pu_X12_tests_324 _ (fun c0 c1 s l x y h => pg_X12_tests_324 hT c0 c1 s l x y _ h), (fun _ h => by cases h)⟩))
set_option maxRecDepth 100000 in
theorem pg_X12_tests_305 {fu : Nat} {lf : pj_Z → mj_M} (hT : pj_Lt pj_TR lf) : ∀ (b2 : Int32) (s : Nat → Int32) (l : Nat → Int64) (x : Nat → Int32) (y : Nat → Int64) (a : Unit × pj_Z), pl_X12_tests_305 fu b2 s l x y = some a → pm_Gd 4 12060 ie_X12_tests.1 pm_rU lf 305 [(0, .ref 124)] [.int b2, .int (Int32.ofInt 17), .ref 124] (s, l, x, y) a := by
  intro b2 s l x y a h
  exact pm_run ((pq_X12_tests_305 fu b2 s l x y).symm.trans h) (pz_X12_tests hT) (pm_bks_ok pb_X12_tests) (pm_bks_ok pb_X12_tests _ _ rfl) (pm_ndb_ok rfl) (pj_as_all (p := pm_Ex 4 12060 ie_X12_tests.1 pm_rU lf a) (List.forall_mem_cons.mpr ⟨pu_X12_tests_323 _ (fun c0 s l x y h => pg_X12_tests_323 hT c0 s l x y _ h), (List.forall_mem_cons.mpr ⟨pu_X12_tests_324 _ (fun c0 c1 s l x y h => pg_X12_tests_324 hT c0 c1 s l x y _ h), (fun _ h => by cases h)⟩)⟩))
set_option maxRecDepth 100000 in
theorem pg_X12_tests_284 {fu : Nat} {lf : pj_Z → mj_M} (hT : pj_Lt pj_TR lf) : ∀ (b2 : Int32) (b3 : Int32) (s : Nat → Int32) (l : Nat → Int64) (x : Nat → Int32) (y : Nat → Int64) (a : Unit × pj_Z), pl_X12_tests_284 fu b2 b3 s l x y = some a → pm_Gd 4 12060 ie_X12_tests.1 pm_rU lf 284 [(0, .ref 124)] [.int b3, .int b2, .int (Int32.ofInt 16), .ref 124] (s, l, x, y) a := by
  intro b2 b3 s l x y a h
  exact pm_run ((pq_X12_tests_284 fu b2 b3 s l x y).symm.trans h) (pz_X12_tests hT) (pm_bks_ok pb_X12_tests) (pm_bks_ok pb_X12_tests _ _ rfl) (pm_ndb_ok rfl) (pj_as_all (p := pm_Ex 4 12060 ie_X12_tests.1 pm_rU lf a) (List.forall_mem_cons.mpr ⟨pu_X12_tests_305 _ (fun c0 s l x y h => pg_X12_tests_305 hT c0 s l x y _ h), (fun _ h => by cases h)⟩))
set_option maxRecDepth 100000 in
theorem pg_X12_tests_283 {fu : Nat} {lf : pj_Z → mj_M} (hT : pj_Lt pj_TR lf) : ∀ (b2 : Int32) (s : Nat → Int32) (l : Nat → Int64) (x : Nat → Int32) (y : Nat → Int64) (a : Unit × pj_Z), pl_X12_tests_283 fu b2 s l x y = some a → pm_Gd 4 12060 ie_X12_tests.1 pm_rU lf 283 [(0, .ref 124)] [.int b2, .int (Int32.ofInt 16), .ref 124] (s, l, x, y) a := by
  intro b2 s l x y a h
  exact pm_run ((pq_X12_tests_283 fu b2 s l x y).symm.trans h) (pz_X12_tests hT) (pm_bks_ok pb_X12_tests) (pm_bks_ok pb_X12_tests _ _ rfl) (pm_ndb_ok rfl) (pj_as_all (p := pm_Ex 4 12060 ie_X12_tests.1 pm_rU lf a) (List.forall_mem_cons.mpr ⟨pu_X12_tests_284 _ (fun c0 c1 s l x y h => pg_X12_tests_284 hT c0 c1 s l x y _ h), (fun _ h => by cases h)⟩))
set_option maxRecDepth 100000 in
theorem pg_X12_tests_264 {fu : Nat} {lf : pj_Z → mj_M} (hT : pj_Lt pj_TR lf) : ∀ (b2 : Int32) (s : Nat → Int32) (l : Nat → Int64) (x : Nat → Int32) (y : Nat → Int64) (a : Unit × pj_Z), pl_X12_tests_264 fu b2 s l x y = some a → pm_Gd 4 12060 ie_X12_tests.1 pm_rU lf 264 [(0, .ref 124)] [.int b2, .int (Int32.ofInt 16), .ref 124] (s, l, x, y) a := by
  intro b2 s l x y a h
  exact pm_run ((pq_X12_tests_264 fu b2 s l x y).symm.trans h) (pz_X12_tests hT) (pm_bks_ok pb_X12_tests) (pm_bks_ok pb_X12_tests _ _ rfl) (pm_ndb_ok rfl) (pj_as_all (p := pm_Ex 4 12060 ie_X12_tests.1 pm_rU lf a) (List.forall_mem_cons.mpr ⟨pu_X12_tests_283 _ (fun c0 s l x y h => pg_X12_tests_283 hT c0 s l x y _ h), (List.forall_mem_cons.mpr ⟨pu_X12_tests_284 _ (fun c0 c1 s l x y h => pg_X12_tests_284 hT c0 c1 s l x y _ h), (fun _ h => by cases h)⟩)⟩))
set_option maxRecDepth 100000 in
theorem pg_X12_tests_259 {fu : Nat} {lf : pj_Z → mj_M} (hT : pj_Lt pj_TR lf) : ∀  (s : Nat → Int32) (l : Nat → Int64) (x : Nat → Int32) (y : Nat → Int64) (a : Unit × pj_Z), pl_X12_tests_259 fu s l x y = some a → pm_Gd 4 12060 ie_X12_tests.1 pm_rU lf 259 [(0, .ref 124)] [.int (Int32.ofInt 16), .ref 124] (s, l, x, y) a := by
  intro  s l x y a h
  exact pm_run ((pq_X12_tests_259 fu  s l x y).symm.trans h) (pz_X12_tests hT) (pm_bks_ok pb_X12_tests) (pm_bks_ok pb_X12_tests _ _ rfl) (pm_ndb_ok rfl) (pj_as_all (p := pm_Ex 4 12060 ie_X12_tests.1 pm_rU lf a) (List.forall_mem_cons.mpr ⟨pu_X12_tests_264 _ (fun c0 s l x y h => pg_X12_tests_264 hT c0 s l x y _ h), (fun _ h => by cases h)⟩))
set_option maxRecDepth 100000 in
theorem pg_X12_tests_234 {fu : Nat} {lf : pj_Z → mj_M} (hT : pj_Lt pj_TR lf) : ∀ (b2 : Int32) (b3 : Int32) (s : Nat → Int32) (l : Nat → Int64) (x : Nat → Int32) (y : Nat → Int64) (a : Unit × pj_Z), pl_X12_tests_234 fu b2 b3 s l x y = some a → pm_Gd 4 12060 ie_X12_tests.1 pm_rU lf 234 [(0, .ref 124)] [.int b3, .int b2, .int (Int32.ofInt 15), .ref 124] (s, l, x, y) a := by
  intro b2 b3 s l x y a h
  exact pm_run ((pq_X12_tests_234 fu b2 b3 s l x y).symm.trans h) (pz_X12_tests hT) (pm_bks_ok pb_X12_tests) (pm_bks_ok pb_X12_tests _ _ rfl) (pm_ndb_ok rfl) (pj_as_all (p := pm_Ex 4 12060 ie_X12_tests.1 pm_rU lf a) (List.forall_mem_cons.mpr ⟨pu_X12_tests_259 _ (fun  s l x y h => pg_X12_tests_259 hT  s l x y _ h), (List.forall_mem_cons.mpr ⟨pu_X12_tests_264 _ (fun c0 s l x y h => pg_X12_tests_264 hT c0 s l x y _ h), (fun _ h => by cases h)⟩)⟩))
set_option maxRecDepth 100000 in
theorem pg_X12_tests_221 {fu : Nat} {lf : pj_Z → mj_M} (hT : pj_Lt pj_TR lf) : ∀ (b2 : Int32) (s : Nat → Int32) (l : Nat → Int64) (x : Nat → Int32) (y : Nat → Int64) (a : Unit × pj_Z), pl_X12_tests_221 fu b2 s l x y = some a → pm_Gd 4 12060 ie_X12_tests.1 pm_rU lf 221 [(0, .ref 124)] [.int b2, .int (Int32.ofInt 15), .ref 124] (s, l, x, y) a := by
  intro b2 s l x y a h
  exact pm_run ((pq_X12_tests_221 fu b2 s l x y).symm.trans h) (pz_X12_tests hT) (pm_bks_ok pb_X12_tests) (pm_bks_ok pb_X12_tests _ _ rfl) (pm_ndb_ok rfl) (pj_as_all (p := pm_Ex 4 12060 ie_X12_tests.1 pm_rU lf a) (List.forall_mem_cons.mpr ⟨pu_X12_tests_234 _ (fun c0 c1 s l x y h => pg_X12_tests_234 hT c0 c1 s l x y _ h), (fun _ h => by cases h)⟩))
set_option maxRecDepth 100000 in
theorem pg_X12_tests_188 {fu : Nat} {lf : pj_Z → mj_M} (hT : pj_Lt pj_TR lf) : ∀ (b2 : Int32) (b3 : Int32) (s : Nat → Int32) (l : Nat → Int64) (x : Nat → Int32) (y : Nat → Int64) (a : Unit × pj_Z), pl_X12_tests_188 fu b2 b3 s l x y = some a → pm_Gd 4 12060 ie_X12_tests.1 pm_rU lf 188 [(0, .ref 124)] [.int b3, .int b2, .int (Int32.ofInt 13), .ref 124] (s, l, x, y) a := by
  intro b2 b3 s l x y a h
  exact pm_run ((pq_X12_tests_188 fu b2 b3 s l x y).symm.trans h) (pz_X12_tests hT) (pm_bks_ok pb_X12_tests) (pm_bks_ok pb_X12_tests _ _ rfl) (pm_ndb_ok rfl) (pj_as_all (p := pm_Ex 4 12060 ie_X12_tests.1 pm_rU lf a) (List.forall_mem_cons.mpr ⟨pu_X12_tests_221 _ (fun c0 s l x y h => pg_X12_tests_221 hT c0 s l x y _ h), (fun _ h => by cases h)⟩))
set_option maxRecDepth 100000 in
theorem pg_X12_tests_187 {fu : Nat} {lf : pj_Z → mj_M} (hT : pj_Lt pj_TR lf) : ∀ (b2 : Int32) (s : Nat → Int32) (l : Nat → Int64) (x : Nat → Int32) (y : Nat → Int64) (a : Unit × pj_Z), pl_X12_tests_187 fu b2 s l x y = some a → pm_Gd 4 12060 ie_X12_tests.1 pm_rU lf 187 [(0, .ref 124)] [.int b2, .int (Int32.ofInt 13), .ref 124] (s, l, x, y) a := by
  intro b2 s l x y a h
  exact pm_run ((pq_X12_tests_187 fu b2 s l x y).symm.trans h) (pz_X12_tests hT) (pm_bks_ok pb_X12_tests) (pm_bks_ok pb_X12_tests _ _ rfl) (pm_ndb_ok rfl) (pj_as_all (p := pm_Ex 4 12060 ie_X12_tests.1 pm_rU lf a) (List.forall_mem_cons.mpr ⟨pu_X12_tests_188 _ (fun c0 c1 s l x y h => pg_X12_tests_188 hT c0 c1 s l x y _ h), (fun _ h => by cases h)⟩))
set_option maxRecDepth 100000 in
theorem pg_X12_tests_159 {fu : Nat} {lf : pj_Z → mj_M} (hT : pj_Lt pj_TR lf) : ∀ (b2 : Int32) (b3 : Int32) (s : Nat → Int32) (l : Nat → Int64) (x : Nat → Int32) (y : Nat → Int64) (a : Unit × pj_Z), pl_X12_tests_159 fu b2 b3 s l x y = some a → pm_Gd 4 12060 ie_X12_tests.1 pm_rU lf 159 [(0, .ref 124)] [.int b3, .int b2, .int (Int32.ofInt 12), .ref 124] (s, l, x, y) a := by
  intro b2 b3 s l x y a h
  exact pm_run ((pq_X12_tests_159 fu b2 b3 s l x y).symm.trans h) (pz_X12_tests hT) (pm_bks_ok pb_X12_tests) (pm_bks_ok pb_X12_tests _ _ rfl) (pm_ndb_ok rfl) (pj_as_all (p := pm_Ex 4 12060 ie_X12_tests.1 pm_rU lf a) (List.forall_mem_cons.mpr ⟨pu_X12_tests_187 _ (fun c0 s l x y h => pg_X12_tests_187 hT c0 s l x y _ h), (List.forall_mem_cons.mpr ⟨pu_X12_tests_188 _ (fun c0 c1 s l x y h => pg_X12_tests_188 hT c0 c1 s l x y _ h), (fun _ h => by cases h)⟩)⟩))
set_option maxRecDepth 100000 in
theorem pg_X12_tests_158 {fu : Nat} {lf : pj_Z → mj_M} (hT : pj_Lt pj_TR lf) : ∀ (b2 : Int32) (s : Nat → Int32) (l : Nat → Int64) (x : Nat → Int32) (y : Nat → Int64) (a : Unit × pj_Z), pl_X12_tests_158 fu b2 s l x y = some a → pm_Gd 4 12060 ie_X12_tests.1 pm_rU lf 158 [(0, .ref 124)] [.int b2, .int (Int32.ofInt 12), .ref 124] (s, l, x, y) a := by
  intro b2 s l x y a h
  exact pm_run ((pq_X12_tests_158 fu b2 s l x y).symm.trans h) (pz_X12_tests hT) (pm_bks_ok pb_X12_tests) (pm_bks_ok pb_X12_tests _ _ rfl) (pm_ndb_ok rfl) (pj_as_all (p := pm_Ex 4 12060 ie_X12_tests.1 pm_rU lf a) (List.forall_mem_cons.mpr ⟨pu_X12_tests_159 _ (fun c0 c1 s l x y h => pg_X12_tests_159 hT c0 c1 s l x y _ h), (fun _ h => by cases h)⟩))
set_option maxRecDepth 100000 in
theorem pg_X12_tests_136 {fu : Nat} {lf : pj_Z → mj_M} (hT : pj_Lt pj_TR lf) : ∀ (a1 : Int32) (a2 : Int32) (b2 : Int32) (b3 : Int32) (s : Nat → Int32) (l : Nat → Int64) (x : Nat → Int32) (y : Nat → Int64) (a : Unit × pj_Z), pl_X12_tests_136 fu a1 a2 b2 b3 s l x y = some a → pm_Gd 4 12060 ie_X12_tests.1 pm_rU lf 136 [(0, .ref 124), (1, .int a1), (2, .int a2)] [.int b3, .int b2, .int (Int32.ofInt 11), .ref 124] (s, l, x, y) a := by
  intro a1 a2 b2 b3 s l x y a h
  exact pm_run ((pq_X12_tests_136 fu a1 a2 b2 b3 s l x y).symm.trans h) (pz_X12_tests hT) (pm_bks_ok pb_X12_tests) (pm_bks_ok pb_X12_tests _ _ rfl) (pm_ndb_ok rfl) (pj_as_all (p := pm_Ex 4 12060 ie_X12_tests.1 pm_rU lf a) (List.forall_mem_cons.mpr ⟨pu_X12_tests_158 _ (fun c0 s l x y h => pg_X12_tests_158 hT c0 s l x y _ h), (List.forall_mem_cons.mpr ⟨pu_X12_tests_159 _ (fun c0 c1 s l x y h => pg_X12_tests_159 hT c0 c1 s l x y _ h), (fun _ h => by cases h)⟩)⟩))
set_option maxRecDepth 100000 in
theorem pg_X12_tests_135 {fu : Nat} {lf : pj_Z → mj_M} (hT : pj_Lt pj_TR lf) : ∀ (a1 : Int32) (a2 : Int32) (b2 : Int32) (s : Nat → Int32) (l : Nat → Int64) (x : Nat → Int32) (y : Nat → Int64) (a : Unit × pj_Z), pl_X12_tests_135 fu a1 a2 b2 s l x y = some a → pm_Gd 4 12060 ie_X12_tests.1 pm_rU lf 135 [(0, .ref 124), (1, .int a1), (2, .int a2)] [.int b2, .int (Int32.ofInt 11), .ref 124] (s, l, x, y) a := by
  intro a1 a2 b2 s l x y a h
  exact pm_run ((pq_X12_tests_135 fu a1 a2 b2 s l x y).symm.trans h) (pz_X12_tests hT) (pm_bks_ok pb_X12_tests) (pm_bks_ok pb_X12_tests _ _ rfl) (pm_ndb_ok rfl) (pj_as_all (p := pm_Ex 4 12060 ie_X12_tests.1 pm_rU lf a) (List.forall_mem_cons.mpr ⟨pu_X12_tests_136 _ (fun c0 c1 c2 c3 s l x y h => pg_X12_tests_136 hT c0 c1 c2 c3 s l x y _ h), (fun _ h => by cases h)⟩))
set_option maxRecDepth 100000 in
theorem pg_X12_tests_106 {fu : Nat} {lf : pj_Z → mj_M} (hT : pj_Lt pj_TR lf) : ∀ (a1 : Int32) (a2 : Int32) (b2 : Int32) (s : Nat → Int32) (l : Nat → Int64) (x : Nat → Int32) (y : Nat → Int64) (a : Unit × pj_Z), pl_X12_tests_106 fu a1 a2 b2 s l x y = some a → pm_Gd 4 12060 ie_X12_tests.1 pm_rU lf 106 [(0, .ref 124), (1, .int a1), (2, .int a2)] [.int b2, .int (Int32.ofInt 11), .ref 124] (s, l, x, y) a := by
  intro a1 a2 b2 s l x y a h
  exact pm_run ((pq_X12_tests_106 fu a1 a2 b2 s l x y).symm.trans h) (pz_X12_tests hT) (pm_bks_ok pb_X12_tests) (pm_bks_ok pb_X12_tests _ _ rfl) (pm_ndb_ok rfl) (pj_as_all (p := pm_Ex 4 12060 ie_X12_tests.1 pm_rU lf a) (List.forall_mem_cons.mpr ⟨pu_X12_tests_135 _ (fun c0 c1 c2 s l x y h => pg_X12_tests_135 hT c0 c1 c2 s l x y _ h), (List.forall_mem_cons.mpr ⟨pu_X12_tests_136 _ (fun c0 c1 c2 c3 s l x y h => pg_X12_tests_136 hT c0 c1 c2 c3 s l x y _ h), (fun _ h => by cases h)⟩)⟩))
set_option maxRecDepth 100000 in
theorem pg_X12_tests_86 {fu : Nat} {lf : pj_Z → mj_M} (hT : pj_Lt pj_TR lf) : ∀ (a1 : Int32) (a2 : Int32) (b2 : Int32) (b3 : Int32) (s : Nat → Int32) (l : Nat → Int64) (x : Nat → Int32) (y : Nat → Int64) (a : Unit × pj_Z), pl_X12_tests_86 fu a1 a2 b2 b3 s l x y = some a → pm_Gd 4 12060 ie_X12_tests.1 pm_rU lf 86 [(0, .ref 124), (1, .int a1), (2, .int a2)] [.int b3, .int b2, .int (Int32.ofInt 10), .ref 124] (s, l, x, y) a := by
  intro a1 a2 b2 b3 s l x y a h
  exact pm_run ((pq_X12_tests_86 fu a1 a2 b2 b3 s l x y).symm.trans h) (pz_X12_tests hT) (pm_bks_ok pb_X12_tests) (pm_bks_ok pb_X12_tests _ _ rfl) (pm_ndb_ok rfl) (pj_as_all (p := pm_Ex 4 12060 ie_X12_tests.1 pm_rU lf a) (List.forall_mem_cons.mpr ⟨pu_X12_tests_106 _ (fun c0 c1 c2 s l x y h => pg_X12_tests_106 hT c0 c1 c2 s l x y _ h), (fun _ h => by cases h)⟩))
set_option maxRecDepth 100000 in
theorem pg_X12_tests_85 {fu : Nat} {lf : pj_Z → mj_M} (hT : pj_Lt pj_TR lf) : ∀ (a1 : Int32) (a2 : Int32) (b2 : Int32) (s : Nat → Int32) (l : Nat → Int64) (x : Nat → Int32) (y : Nat → Int64) (a : Unit × pj_Z), pl_X12_tests_85 fu a1 a2 b2 s l x y = some a → pm_Gd 4 12060 ie_X12_tests.1 pm_rU lf 85 [(0, .ref 124), (1, .int a1), (2, .int a2)] [.int b2, .int (Int32.ofInt 10), .ref 124] (s, l, x, y) a := by
  intro a1 a2 b2 s l x y a h
  exact pm_run ((pq_X12_tests_85 fu a1 a2 b2 s l x y).symm.trans h) (pz_X12_tests hT) (pm_bks_ok pb_X12_tests) (pm_bks_ok pb_X12_tests _ _ rfl) (pm_ndb_ok rfl) (pj_as_all (p := pm_Ex 4 12060 ie_X12_tests.1 pm_rU lf a) (List.forall_mem_cons.mpr ⟨pu_X12_tests_86 _ (fun c0 c1 c2 c3 s l x y h => pg_X12_tests_86 hT c0 c1 c2 c3 s l x y _ h), (fun _ h => by cases h)⟩))
set_option maxRecDepth 100000 in
theorem pg_X12_tests_56 {fu : Nat} {lf : pj_Z → mj_M} (hT : pj_Lt pj_TR lf) : ∀ (a1 : Int32) (a2 : Int32) (b2 : Int32) (s : Nat → Int32) (l : Nat → Int64) (x : Nat → Int32) (y : Nat → Int64) (a : Unit × pj_Z), pl_X12_tests_56 fu a1 a2 b2 s l x y = some a → pm_Gd 4 12060 ie_X12_tests.1 pm_rU lf 56 [(0, .ref 124), (1, .int a1), (2, .int a2)] [.int b2, .int (Int32.ofInt 10), .ref 124] (s, l, x, y) a := by
  intro a1 a2 b2 s l x y a h
  exact pm_run ((pq_X12_tests_56 fu a1 a2 b2 s l x y).symm.trans h) (pz_X12_tests hT) (pm_bks_ok pb_X12_tests) (pm_bks_ok pb_X12_tests _ _ rfl) (pm_ndb_ok rfl) (pj_as_all (p := pm_Ex 4 12060 ie_X12_tests.1 pm_rU lf a) (List.forall_mem_cons.mpr ⟨pu_X12_tests_85 _ (fun c0 c1 c2 s l x y h => pg_X12_tests_85 hT c0 c1 c2 s l x y _ h), (List.forall_mem_cons.mpr ⟨pu_X12_tests_86 _ (fun c0 c1 c2 c3 s l x y h => pg_X12_tests_86 hT c0 c1 c2 c3 s l x y _ h), (fun _ h => by cases h)⟩)⟩))
set_option maxRecDepth 100000 in
theorem pg_X12_tests_2 {fu : Nat} {lf : pj_Z → mj_M} (hT : pj_Lt pj_TR lf) : ∀ (n : Nat), ∀ (a1 : Int32) (a2 : Int32) (a3 : Int32) (s : Nat → Int32) (l : Nat → Int64) (x : Nat → Int32) (y : Nat → Int64) (a : Unit × pj_Z), pl_X12_tests_2 fu n a1 a2 a3 s l x y = some a → pm_Gd 4 12060 ie_X12_tests.1 pm_rU lf 2 [(0, .ref 124), (1, .int a1), (2, .int a2), (3, .int a3)] [] (s, l, x, y) a := by
  intro n
  induction n with
  | zero => intro a1 a2 a3 s l x y a h; cases (show (none : Option (Unit × pj_Z)) = some a from h)
  | succ n ih =>
    intro a1 a2 a3 s l x y a h
    exact pm_run ((pq_X12_tests_2 fu n a1 a2 a3 s l x y).symm.trans h) (pz_X12_tests hT) (pm_bks_ok pb_X12_tests) (pm_bks_ok pb_X12_tests _ _ rfl) (pm_ndb_ok rfl) (pj_as_all (p := pm_Ex 4 12060 ie_X12_tests.1 pm_rU lf a) (List.forall_mem_cons.mpr ⟨pu_X12_tests_2 _ (fun c0 c1 c2 s l x y h => ih c0 c1 c2 s l x y _ h), (List.forall_mem_cons.mpr ⟨pu_X12_tests_30 _ (fun c0 c1 c2 c3 c4 c5 s l x y h => pg_X12_tests_30 hT (fun a1 a2 a3 s l x y a h => ih a1 a2 a3 s l x y a h) c0 c1 c2 c3 c4 c5 s l x y _ h), (List.forall_mem_cons.mpr ⟨pu_X12_tests_56 _ (fun c0 c1 c2 s l x y h => pg_X12_tests_56 hT c0 c1 c2 s l x y _ h), (fun _ h => by cases h)⟩)⟩)⟩))
set_option maxRecDepth 100000 in
theorem pm_X12_tests {lf : pj_Z → mj_M} (hT : pj_Lt pj_TR lf) (a1 : Int32) (a2 : Int32) (s : Nat → Int32) (l : Nat → Int64) (x : Nat → Int32) (y : Nat → Int64) (a : Unit × pj_Z) (h : pf_X12_tests a1 a2 s l x y = some a) : mj_R ic_P 5 12060 [.ref 124, .int a1, .int a2] (lf (s, l, x, y)) (pm_rU a.1) (lf a.2) := by
  refine pm_main (Y := ie_X12_tests.1) rfl (Nat.le_of_ble_eq_true rfl) ?_
  exact pm_run ((pq_X12_tests_m 1000 a1 a2 s l x y).symm.trans h) (pz_X12_tests hT) (pm_bks_ok pb_X12_tests) (pm_bks_ok pb_X12_tests _ _ rfl) (pm_ndb_ok rfl) (pj_as_all (p := pm_Ex 4 12060 ie_X12_tests.1 pm_rU lf a) (List.forall_mem_cons.mpr ⟨pu_X12_tests_2 _ (fun c0 c1 c2 s l x y h => pg_X12_tests_2 hT _ c0 c1 c2 s l x y _ h), (fun _ h => by cases h)⟩))
abbrev ph_X12_tests {A : Type} : List pj_V → pj_Z → (List pj_V → pj_Z → Option A) → Option A := fun st z K => pj_pi st fun a2 st => pj_pi st fun a1 st => pj_pr st 124 0 fun st => pj_ps st (pj_b (pf_X12_tests a1 a2 z.1 z.2.1 z.2.2.1 z.2.2.2) fun r s l x y => K st (s, l, x, y))
set_option maxRecDepth 100000 in
theorem pc_X12_tests {A : Type} {OK : A → Option Value → mj_M → Prop} {d j pc ix : Nat} {Y : mj_Y} {lf : pj_Z → mj_M} (hT : pj_Lt pj_TR lf) (hd : 5 ≤ d) (hl : mj_lk Y.2.2.2.2 pc = some (.invokevirtual ix, 3)) (hg : mj_pG ic_P j ix = some (12060, 2, some 12)) {lv : List (Nat × Value)} {st : List pj_V} {z : pj_Z} {K : List pj_V → pj_Z → Option A} {a : A} (hK : ∀ st z, K st z = some a → pj_Gd ic_P (mj_R ic_P d) j Y OK lf (pc + 3) lv (pj_es st) z a) (h : ph_X12_tests st z K = some a) : pj_Gd ic_P (mj_R ic_P d) j Y OK lf pc lv (pj_es st) z a := by
  obtain ⟨a2, r2, e2, h⟩ := pj_pi_inv h
  obtain ⟨a1, r1, e1, h⟩ := pj_pi_inv h
  obtain ⟨r0, e0, h⟩ := pj_pr_inv h
  obtain ⟨hs, h⟩ := pj_ps_inv h
  obtain ⟨q, hq, h⟩ := pj_b_inv h
  exact pm_cv (o := 124) hl hg [.int a1, .int a2] rfl (by rw [e2, e1, e0]; rfl) hs (by decide) ((hT.2 124 _ rfl).1.2 z 0 (by decide)) (pm_rU q.1) hd (pm_X12_tests hT a1 a2 z.1 z.2.1 z.2.2.1 z.2.2.2 q hq) rfl (hK _ _ h)
abbrev px_X12_input : pj_C (Int32 × pj_Z) := ((pj_as [(124, 12, 195, 1, 0, true, 0, [(1, 1), (2, 125), (2, 126), (2, 127), (2, 128), (2, 129), (2, 130), (2, 131), (2, 132), (2, 133), (1, 2), (0, 44), (2, 134), (2, 135), (2, 136), (2, 137), (2, 138), (0, 69), (2, 139), (2, 140), (2, 141), (1, 3), (0, 93), (0, 94), (0, 45), (0, 46), (0, 48), (0, 49), (0, 47), (0, 50), (0, 51), (2, 142), (2, 143), (2, 144), (0, 19), (1, 4), (1, 5), (1, 6), (0, 20), (0, 21), (0, 22), (0, 23), (0, 24), (0, 25), (0, 27), (0, 28), (1, 7), (1, 8), (1, 9), (1, 10), (1, 11), (0, 26), (2, 145), (2, 146), (2, 147), (2, 148), (2, 149), (2, 150), (2, 151), (2, 152), (2, 153), (2, 154), (2, 155), (2, 156), (2, 157), (2, 158), (2, 159), (0, 57), (0, 58), (0, 59), (0, 60), (2, 160), (2, 161), (2, 162), (2, 163), (1, 12), (1, 13), (0, 95), (0, 73), (0, 74), (0, 71), (0, 72), (0, 75), (0, 76), (0, 77), (0, 80), (0, 78), (0, 79), (1, 14), (0, 29), (0, 30), (0, 31), (0, 34), (0, 35), (0, 32), (0, 33), (0, 36), (0, 37), (0, 38), (0, 39), (0, 40), (1, 15), (1, 16), (0, 43), (0, 41), (0, 42), (2, 164), (0, 96), (0, 89), (0, 90), (0, 91), (0, 92), (2, 165), (2, 166), (2, 167), (2, 168), (2, 169), (2, 170), (2, 171), (2, 172), (0, 87), (2, 173), (0, 88), (2, 174), (0, 62), (1, 17), (0, 66), (0, 63), (0, 64), (0, 65), (0, 67), (1, 18), (0, 68), (2, 175), (1, 19), (0, 52), (0, 53), (0, 54), (0, 55), (2, 176), (0, 56), (0, 85), (0, 86), (0, 81), (0, 82), (0, 83), (0, 84), (2, 177), (2, 178), (2, 179), (1, 20), (2, 180), (0, 6), (0, 7), (0, 8), (0, 16), (0, 17), (0, 61), (0, 9), (0, 10), (1, 21), (1, 22), (0, 11), (0, 12), (0, 13), (0, 18), (0, 14), (0, 15), (2, 181), (0, 70), (1, 23), (2, 182), (2, 183), (0, 1), (1, 24), (2, 184), (2, 185), (1, 25), (0, 2), (2, 186), (2, 187), (1, 26), (2, 188), (2, 189), (1, 27), (1, 28), (2, 190), (2, 191), (1, 29), (0, 3), (2, 192), (0, 4), (0, 5), (1, 30), (2, 193)]), (161, 100, 10, 1, 0, true, 34000, [])]), (pj_as [(133, 12, 72, 2, true), (417, 12, 75, 1, false), (435, 12, 81, 0, false), (990, 12, 135, 0, false), (997, 12, 137, 0, false)]), (fun _ => none), (fun _ => none), (fun _ => none), ic_X, 2, 1, pj_mI, (pj_as [(45, ph_X12_speed)]), fun _ => false)
abbrev pk_X12_input : List (Nat × List (Nat × Instr × Nat)) := [(0, [(0, .iload_n 1, 1), (1, .tableswitch 85 0 6 #[43, 48, 55, 62, 67, 72, 80], 43)]), (44, [(44, .aload_n 0, 1), (45, .invokevirtual 632, 3), (48, .ireturn, 1)]), (49, [(49, .aload_n 0, 1), (50, .getfield 133, 3), (53, .iconst 4, 1), (54, .iaload, 1), (55, .ireturn, 1)]), (56, [(56, .aload_n 0, 1), (57, .getfield 133, 3), (60, .iconst 5, 1), (61, .iaload, 1), (62, .ireturn, 1)]), (63, [(63, .aload_n 0, 1), (64, .getfield 435, 3), (67, .ireturn, 1)]), (68, [(68, .aload_n 0, 1), (69, .getfield 990, 3), (72, .ireturn, 1)]), (73, [(73, .aload_n 0, 1), (74, .getfield 133, 3), (77, .bipush 9, 2), (79, .iaload, 1), (80, .ireturn, 1)]), (81, [(81, .aload_n 0, 1), (82, .getfield 997, 3), (85, .ireturn, 1)]), (86, [(86, .aload_n 0, 1), (87, .getfield 417, 3), (90, .l2i, 1), (91, .ireturn, 1)])]
set_option maxRecDepth 100000 in
theorem pq_X12_input_m  (a1 : Int32) (s : Nat → Int32) (l : Nat → Int64) (x : Nat → Int32) (y : Nat → Int64) : pf_X12_input a1 s l x y = pj_bl px_X12_input (pj_rn px_X12_input (pj_as pk_X12_input) (fun _ => none) 60) [(0, .iload_n 1, 1), (1, .tableswitch 85 0 6 #[43, 48, 55, 62, 67, 72, 80], 43)] 0 [(0, pj_O (124, 0)), (1, pj_I a1)] [] (s, l, x, y) := rfl
set_option maxRecDepth 100000 in
theorem pz_X12_input {lf : pj_Z → mj_M} (hT : pj_Lt pj_TR lf) : pj_Cok ic_P (mj_R ic_P 1) 12163 ie_X12_input.1 (pm_OK lf pm_rI) lf px_X12_input := by
  exact pm_cok (c := px_X12_input) (pm_part hT (pj_as_all (p := fun b e => pj_TR b = some e) (List.forall_mem_cons.mpr ⟨rfl, (List.forall_mem_cons.mpr ⟨rfl, (fun _ h => by cases h)⟩)⟩))) (pm_in_ok (L := [(133, 12, 72, 2, true), (417, 12, 75, 1, false), (435, 12, 81, 0, false), (990, 12, 135, 0, false), (997, 12, 137, 0, false)]) (f := mj_pF ic_P 12163) (by decide +kernel)) (fun _ _ h => by cases h) (fun _ _ h => by cases h) (fun _ _ h => by cases h) rfl rfl ⟨by decide, rfl⟩ pm_mI (pj_as_all (p := pm_Cl 1 12163 ie_X12_input.1 lf (pm_OK lf pm_rI)) (List.forall_mem_cons.mpr ⟨fun _ _ lv st z K a hK h => pc_X12_speed hT (by decide) (ix := 632) rfl rfl hK h, (fun _ h => by cases h)⟩)) (fun _ h => by cases h)
set_option maxRecDepth 100000 in
theorem pb_X12_input : pm_bks ie_X12_input.1.2.2.2.2 pk_X12_input = true := by decide +kernel
set_option maxRecDepth 100000 in
theorem pm_X12_input {lf : pj_Z → mj_M} (hT : pj_Lt pj_TR lf) (a1 : Int32) (s : Nat → Int32) (l : Nat → Int64) (x : Nat → Int32) (y : Nat → Int64) (a : Int32 × pj_Z) (h : pf_X12_input a1 s l x y = some a) : mj_R ic_P 2 12163 [.ref 124, .int a1] (lf (s, l, x, y)) (pm_rI a.1) (lf a.2) := by
  refine pm_main (Y := ie_X12_input.1) rfl (Nat.le_of_ble_eq_true rfl) ?_
  exact pm_run ((pq_X12_input_m a1 s l x y).symm.trans h) (pz_X12_input hT) (pm_bks_ok pb_X12_input) (pm_bks_ok pb_X12_input _ _ rfl) (pm_ndb_ok rfl) (fun _ _ h => by cases h)
abbrev ph_X12_input {A : Type} : List pj_V → pj_Z → (List pj_V → pj_Z → Option A) → Option A := fun st z K => pj_pi st fun a1 st => pj_pr st 124 0 fun st => pj_ps st (pj_b (pf_X12_input a1 z.1 z.2.1 z.2.2.1 z.2.2.2) fun r s l x y => K (pj_I r :: st) (s, l, x, y))
set_option maxRecDepth 100000 in
theorem pc_X12_input {A : Type} {OK : A → Option Value → mj_M → Prop} {d j pc ix : Nat} {Y : mj_Y} {lf : pj_Z → mj_M} (hT : pj_Lt pj_TR lf) (hd : 2 ≤ d) (hl : mj_lk Y.2.2.2.2 pc = some (.invokevirtual ix, 3)) (hg : mj_pG ic_P j ix = some (12163, 1, some 12)) {lv : List (Nat × Value)} {st : List pj_V} {z : pj_Z} {K : List pj_V → pj_Z → Option A} {a : A} (hK : ∀ st z, K st z = some a → pj_Gd ic_P (mj_R ic_P d) j Y OK lf (pc + 3) lv (pj_es st) z a) (h : ph_X12_input st z K = some a) : pj_Gd ic_P (mj_R ic_P d) j Y OK lf pc lv (pj_es st) z a := by
  obtain ⟨a1, r1, e1, h⟩ := pj_pi_inv h
  obtain ⟨r0, e0, h⟩ := pj_pr_inv h
  obtain ⟨hs, h⟩ := pj_ps_inv h
  obtain ⟨q, hq, h⟩ := pj_b_inv h
  exact pm_cv (o := 124) hl hg [.int a1] rfl (by rw [e1, e0]; rfl) hs (by decide) ((hT.2 124 _ rfl).1.2 z 0 (by decide)) (pm_rI q.1) hd (pm_X12_input hT a1 z.1 z.2.1 z.2.2.1 z.2.2.2 q hq) rfl (hK _ _ h)
abbrev px_X12_join : pj_C (Int32 × pj_Z) := ((fun _ => none), (fun _ => none), (fun _ => none), (fun _ => none), (fun _ => none), ic_X, 3, 1, pj_mI, (fun _ => none), fun _ => false)
abbrev pk_X12_join : List (Nat × List (Nat × Instr × Nat)) := [(0, [(0, .iload_n 0, 1), (1, .tableswitch 89 3 9 #[43, 47, 51, 55, 89, 67, 78], 43)]), (44, [(44, .iload_n 1, 1), (45, .iload_n 2, 1), (46, .iadd, 1), (47, .ireturn, 1)]), (48, [(48, .iload_n 1, 1), (49, .iload_n 2, 1), (50, .isub, 1), (51, .ireturn, 1)]), (52, [(52, .iload_n 1, 1), (53, .iload_n 2, 1), (54, .imul, 1), (55, .ireturn, 1)]), (56, [(56, .iload_n 2, 1), (57, .ifCond .ne 7, 3)]), (60, [(60, .iconst 0, 1), (61, .goto 6, 3)]), (64, [(64, .iload_n 1, 1), (65, .iload_n 2, 1), (66, .idiv, 1)]), (67, [(67, .ireturn, 1)]), (68, [(68, .iload_n 1, 1), (69, .iload_n 2, 1), (70, .if_icmp .ge 7, 3)]), (73, [(73, .iconst 1, 1), (74, .goto 4, 3)]), (77, [(77, .iconst 0, 1)]), (78, [(78, .ireturn, 1)]), (79, [(79, .iload_n 1, 1), (80, .iload_n 2, 1), (81, .if_icmp .le 7, 3)]), (84, [(84, .iconst 1, 1), (85, .goto 4, 3)]), (88, [(88, .iconst 0, 1)]), (89, [(89, .ireturn, 1)]), (90, [(90, .iload_n 1, 1), (91, .iload_n 2, 1), (92, .if_icmp .ne 7, 3)]), (95, [(95, .iconst 1, 1), (96, .goto 4, 3)]), (99, [(99, .iconst 0, 1)]), (100, [(100, .ireturn, 1)])]
set_option maxRecDepth 100000 in
theorem pq_X12_join_m  (a0 : Int32) (a1 : Int32) (a2 : Int32) (s : Nat → Int32) (l : Nat → Int64) (x : Nat → Int32) (y : Nat → Int64) : pf_X12_join a0 a1 a2 s l x y = pj_bl px_X12_join (pj_rn px_X12_join (pj_as pk_X12_join) (fun _ => none) 60) [(0, .iload_n 0, 1), (1, .tableswitch 89 3 9 #[43, 47, 51, 55, 89, 67, 78], 43)] 0 [(0, pj_I a0), (1, pj_I a1), (2, pj_I a2)] [] (s, l, x, y) := rfl
set_option maxRecDepth 100000 in
theorem pz_X12_join {lf : pj_Z → mj_M} (hT : pj_Lt pj_TR lf) : pj_Cok ic_P (mj_R ic_P 0) 12164 ie_X12_join.1 (pm_OK lf pm_rI) lf px_X12_join := by
  exact pm_cok (c := px_X12_join) (pm_none hT) (fun _ _ h => by cases h) (fun _ _ h => by cases h) (fun _ _ h => by cases h) (fun _ _ h => by cases h) rfl rfl ⟨by decide, rfl⟩ pm_mI (fun _ _ h => by cases h) (fun _ h => by cases h)
set_option maxRecDepth 100000 in
theorem pb_X12_join : pm_bks ie_X12_join.1.2.2.2.2 pk_X12_join = true := by decide +kernel
set_option maxRecDepth 100000 in
theorem pm_X12_join {lf : pj_Z → mj_M} (hT : pj_Lt pj_TR lf) (a0 : Int32) (a1 : Int32) (a2 : Int32) (s : Nat → Int32) (l : Nat → Int64) (x : Nat → Int32) (y : Nat → Int64) (a : Int32 × pj_Z) (h : pf_X12_join a0 a1 a2 s l x y = some a) : mj_R ic_P 1 12164 [.int a0, .int a1, .int a2] (lf (s, l, x, y)) (pm_rI a.1) (lf a.2) := by
  refine pm_main (Y := ie_X12_join.1) rfl (Nat.le_of_ble_eq_true rfl) ?_
  exact pm_run ((pq_X12_join_m a0 a1 a2 s l x y).symm.trans h) (pz_X12_join hT) (pm_bks_ok pb_X12_join) (pm_bks_ok pb_X12_join _ _ rfl) (pm_ndb_ok rfl) (fun _ _ h => by cases h)
abbrev ph_X12_join {A : Type} : List pj_V → pj_Z → (List pj_V → pj_Z → Option A) → Option A := fun st z K => pj_pi st fun a2 st => pj_pi st fun a1 st => pj_pi st fun a0 st => pj_ps st (pj_b (pf_X12_join a0 a1 a2 z.1 z.2.1 z.2.2.1 z.2.2.2) fun r s l x y => K (pj_I r :: st) (s, l, x, y))
set_option maxRecDepth 100000 in
theorem pc_X12_join {A : Type} {OK : A → Option Value → mj_M → Prop} {d j pc ix : Nat} {Y : mj_Y} {lf : pj_Z → mj_M} (hT : pj_Lt pj_TR lf) (hd : 1 ≤ d) (hl : mj_lk Y.2.2.2.2 pc = some (.invokestatic ix, 3)) (hg : mj_pG ic_P j ix = some (12164, 3, none)) {lv : List (Nat × Value)} {st : List pj_V} {z : pj_Z} {K : List pj_V → pj_Z → Option A} {a : A} (hK : ∀ st z, K st z = some a → pj_Gd ic_P (mj_R ic_P d) j Y OK lf (pc + 3) lv (pj_es st) z a) (h : ph_X12_join st z K = some a) : pj_Gd ic_P (mj_R ic_P d) j Y OK lf pc lv (pj_es st) z a := by
  obtain ⟨a2, r2, e2, h⟩ := pj_pi_inv h
  obtain ⟨a1, r1, e1, h⟩ := pj_pi_inv h
  obtain ⟨a0, r0, e0, h⟩ := pj_pi_inv h
  obtain ⟨hs, h⟩ := pj_ps_inv h
  obtain ⟨q, hq, h⟩ := pj_b_inv h
  exact pm_cs hl hg [.int a0, .int a1, .int a2] rfl (by rw [e2, e1, e0]; rfl) hs (pm_rI q.1) hd (pm_X12_join hT a0 a1 a2 z.1 z.2.1 z.2.2.1 z.2.2.2 q hq) rfl (hK _ _ h)
abbrev pe_X12_work_4 (f : Int32 → Int32 → pj_F (Unit × pj_Z)) : pj_K (Unit × pj_Z) := fun lv st z => pj_xr lv 0 124 0 <| pj_xi lv 1 fun a1 => pj_xi lv 2 fun a2 => pj_pe st (f a1 a2 z.1 z.2.1 z.2.2.1 z.2.2.2)
abbrev pe_X12_work_71 (f : Int32 → Int32 → Int32 → Int32 → pj_F (Unit × pj_Z)) : pj_K (Unit × pj_Z) := fun lv st z => pj_xr lv 0 124 0 <| pj_xi lv 1 fun a1 => pj_xi lv 2 fun a2 => pj_pi st fun b2 st => pj_pi st fun b1 st => pj_pr st 190 0 fun st => pj_pe st (f a1 a2 b1 b2 z.1 z.2.1 z.2.2.1 z.2.2.2)
abbrev pe_X12_work_149 (f : Int32 → Int32 → Int32 → Int32 → pj_F (Unit × pj_Z)) : pj_K (Unit × pj_Z) := fun lv st z => pj_xr lv 0 124 0 <| pj_xi lv 1 fun a1 => pj_xi lv 2 fun a2 => pj_pi st fun b2 st => pj_pi st fun b1 st => pj_pr st 190 0 fun st => pj_pe st (f a1 a2 b1 b2 z.1 z.2.1 z.2.2.1 z.2.2.2)
abbrev pe_X12_work_211 (f : Int32 → Int32 → pj_F (Unit × pj_Z)) : pj_K (Unit × pj_Z) := fun lv st z => pj_xr lv 0 124 0 <| pj_xi lv 1 fun a1 => pj_xi lv 2 fun a2 => pj_pe st (f a1 a2 z.1 z.2.1 z.2.2.1 z.2.2.2)
abbrev px_X12_work : pj_C (Unit × pj_Z) := ((pj_as [(124, 12, 195, 1, 0, true, 0, [(1, 1), (2, 125), (2, 126), (2, 127), (2, 128), (2, 129), (2, 130), (2, 131), (2, 132), (2, 133), (1, 2), (0, 44), (2, 134), (2, 135), (2, 136), (2, 137), (2, 138), (0, 69), (2, 139), (2, 140), (2, 141), (1, 3), (0, 93), (0, 94), (0, 45), (0, 46), (0, 48), (0, 49), (0, 47), (0, 50), (0, 51), (2, 142), (2, 143), (2, 144), (0, 19), (1, 4), (1, 5), (1, 6), (0, 20), (0, 21), (0, 22), (0, 23), (0, 24), (0, 25), (0, 27), (0, 28), (1, 7), (1, 8), (1, 9), (1, 10), (1, 11), (0, 26), (2, 145), (2, 146), (2, 147), (2, 148), (2, 149), (2, 150), (2, 151), (2, 152), (2, 153), (2, 154), (2, 155), (2, 156), (2, 157), (2, 158), (2, 159), (0, 57), (0, 58), (0, 59), (0, 60), (2, 160), (2, 161), (2, 162), (2, 163), (1, 12), (1, 13), (0, 95), (0, 73), (0, 74), (0, 71), (0, 72), (0, 75), (0, 76), (0, 77), (0, 80), (0, 78), (0, 79), (1, 14), (0, 29), (0, 30), (0, 31), (0, 34), (0, 35), (0, 32), (0, 33), (0, 36), (0, 37), (0, 38), (0, 39), (0, 40), (1, 15), (1, 16), (0, 43), (0, 41), (0, 42), (2, 164), (0, 96), (0, 89), (0, 90), (0, 91), (0, 92), (2, 165), (2, 166), (2, 167), (2, 168), (2, 169), (2, 170), (2, 171), (2, 172), (0, 87), (2, 173), (0, 88), (2, 174), (0, 62), (1, 17), (0, 66), (0, 63), (0, 64), (0, 65), (0, 67), (1, 18), (0, 68), (2, 175), (1, 19), (0, 52), (0, 53), (0, 54), (0, 55), (2, 176), (0, 56), (0, 85), (0, 86), (0, 81), (0, 82), (0, 83), (0, 84), (2, 177), (2, 178), (2, 179), (1, 20), (2, 180), (0, 6), (0, 7), (0, 8), (0, 16), (0, 17), (0, 61), (0, 9), (0, 10), (1, 21), (1, 22), (0, 11), (0, 12), (0, 13), (0, 18), (0, 14), (0, 15), (2, 181), (0, 70), (1, 23), (2, 182), (2, 183), (0, 1), (1, 24), (2, 184), (2, 185), (1, 25), (0, 2), (2, 186), (2, 187), (1, 26), (2, 188), (2, 189), (1, 27), (1, 28), (2, 190), (2, 191), (1, 29), (0, 3), (2, 192), (0, 4), (0, 5), (1, 30), (2, 193)]), (184, 100, 600, 1, 0, false, 13000, []), (185, 100, 600, 1, 0, false, 14000, []), (190, 100, 300, 1, 0, false, 19000, []), (191, 100, 4, 1, 0, true, 2000, [])]), (pj_as [(215, 12, 175, 2, true), (218, 12, 176, 2, true), (233, 12, 186, 2, true), (236, 12, 187, 2, true), (1113, 12, 177, 0, false)]), (fun _ => none), (fun _ => none), (fun _ => none), ic_X, 4, 0, pj_mU, (pj_as [(54, ph_X12_input), (207, ph_X12_join)]), fun _ => false)
abbrev pk_X12_work : List (Nat × List (Nat × Instr × Nat)) := [(0, [(0, .iconst 0, 1), (1, .istore_n 1, 1), (2, .iconst 0, 1), (3, .istore_n 2, 1)]), (4, [(4, .iload_n 2, 1), (5, .aload_n 0, 1), (6, .getfield 1113, 3), (9, .if_icmp .ge 208, 3)]), (12, [(12, .aload_n 0, 1), (13, .getfield 215, 3), (16, .iload_n 2, 1), (17, .iaload, 1), (18, .istore_n 3, 1), (19, .iload_n 3, 1), (20, .iconst 3, 1), (21, .if_icmp .ge 57, 3)]), (24, [(24, .aload_n 0, 1), (25, .getfield 233, 3), (28, .iload_n 1, 1), (29, .iload_n 3, 1), (30, .ifCond .ne 12, 3)]), (33, [(33, .aload_n 0, 1), (34, .getfield 218, 3), (37, .iload_n 2, 1), (38, .iaload, 1), (39, .goto 32, 3)]), (42, [(42, .iload_n 3, 1), (43, .iconst 1, 1), (44, .if_icmp .ne 16, 3)]), (47, [(47, .aload_n 0, 1), (48, .aload_n 0, 1), (49, .getfield 218, 3), (52, .iload_n 2, 1), (53, .iaload, 1), (54, .invokevirtual 1116, 3), (57, .goto 14, 3)]), (60, [(60, .aload_n 0, 1), (61, .getfield 236, 3), (64, .aload_n 0, 1), (65, .getfield 218, 3), (68, .iload_n 2, 1), (69, .iaload, 1), (70, .iaload, 1)]), (71, [(71, .iastore, 1), (72, .iinc 1 1, 3), (75, .goto 136, 3)]), (78, [(78, .iload_n 3, 1), (79, .bipush 7, 2), (81, .if_icmp .ne 23, 3)]), (84, [(84, .aload_n 0, 1), (85, .getfield 233, 3), (88, .iload_n 1, 1), (89, .iconst 1, 1), (90, .isub, 1), (91, .aload_n 0, 1), (92, .getfield 233, 3), (95, .iload_n 1, 1), (96, .iconst 1, 1), (97, .isub, 1), (98, .iaload, 1), (99, .ineg, 1), (100, .iastore, 1), (101, .goto 110, 3)]), (104, [(104, .iload_n 3, 1), (105, .bipush 11, 2), (107, .if_icmp .ne 46, 3)]), (110, [(110, .iload_n 1, 1), (111, .iconst 2, 1), (112, .isub, 1), (113, .istore_n 1, 1), (114, .aload_n 0, 1), (115, .getfield 233, 3), (118, .iload_n 1, 1), (119, .iconst 1, 1), (120, .isub, 1), (121, .aload_n 0, 1), (122, .getfield 233, 3), (125, .iload_n 1, 1), (126, .iconst 1, 1), (127, .isub, 1), (128, .iaload, 1), (129, .ifCond .eq 12, 3)]), (132, [(132, .aload_n 0, 1), (133, .getfield 233, 3), (136, .iload_n 1, 1), (137, .iaload, 1), (138, .goto 11, 3)]), (141, [(141, .aload_n 0, 1), (142, .getfield 233, 3), (145, .iload_n 1, 1), (146, .iconst 1, 1), (147, .iadd, 1), (148, .iaload, 1)]), (149, [(149, .iastore, 1), (150, .goto 61, 3)]), (153, [(153, .iload_n 3, 1), (154, .bipush 12, 2), (156, .if_icmp .ne 26, 3)]), (159, [(159, .iinc 1 (-1), 3), (162, .aload_n 0, 1), (163, .getfield 236, 3), (166, .aload_n 0, 1), (167, .getfield 218, 3), (170, .iload_n 2, 1), (171, .iaload, 1), (172, .aload_n 0, 1), (173, .getfield 233, 3), (176, .iload_n 1, 1), (177, .iaload, 1), (178, .iastore, 1), (179, .goto 32, 3)]), (182, [(182, .iinc 1 (-1), 3), (185, .aload_n 0, 1), (186, .getfield 233, 3), (189, .iload_n 1, 1), (190, .iconst 1, 1), (191, .isub, 1), (192, .iload_n 3, 1), (193, .aload_n 0, 1), (194, .getfield 233, 3), (197, .iload_n 1, 1), (198, .iconst 1, 1), (199, .isub, 1), (200, .iaload, 1), (201, .aload_n 0, 1), (202, .getfield 233, 3), (205, .iload_n 1, 1), (206, .iaload, 1), (207, .invokestatic 1119, 3), (210, .iastore, 1)]), (211, [(211, .iinc 2 1, 3), (214, .goto (-210), 3)]), (217, [(217, .return_, 1)])]
set_option maxRecDepth 100000 in
theorem pq_X12_work_211 (fu : Nat)  (k4 : Int32 → Int32 → pj_F (Unit × pj_Z)) (a1 : Int32) (a2 : Int32) (s : Nat → Int32) (l : Nat → Int64) (x : Nat → Int32) (y : Nat → Int64) : pl_X12_work_211 fu k4 a1 a2 s l x y = pj_bl px_X12_work (pj_rn px_X12_work (pj_as pk_X12_work) (pj_as [(4, pe_X12_work_4 k4)]) 60) [(211, .iinc 2 1, 3), (214, .goto (-210), 3)] 211 [(0, pj_O (124, 0)), (1, pj_I a1), (2, pj_I a2)] [] (s, l, x, y) := rfl
set_option maxRecDepth 100000 in
theorem pq_X12_work_71 (fu : Nat)  (k4 : Int32 → Int32 → pj_F (Unit × pj_Z)) (a1 : Int32) (a2 : Int32) (b1 : Int32) (b2 : Int32) (s : Nat → Int32) (l : Nat → Int64) (x : Nat → Int32) (y : Nat → Int64) : pl_X12_work_71 fu k4 a1 a2 b1 b2 s l x y = pj_bl px_X12_work (pj_rn px_X12_work (pj_as pk_X12_work) (pj_as [(4, pe_X12_work_4 k4), (211, pe_X12_work_211 (pl_X12_work_211 fu k4))]) 60) [(71, .iastore, 1), (72, .iinc 1 1, 3), (75, .goto 136, 3)] 71 [(0, pj_O (124, 0)), (1, pj_I a1), (2, pj_I a2)] [pj_I b2, pj_I b1, pj_O (190, 0)] (s, l, x, y) := rfl
set_option maxRecDepth 100000 in
theorem pq_X12_work_149 (fu : Nat)  (k4 : Int32 → Int32 → pj_F (Unit × pj_Z)) (a1 : Int32) (a2 : Int32) (b1 : Int32) (b2 : Int32) (s : Nat → Int32) (l : Nat → Int64) (x : Nat → Int32) (y : Nat → Int64) : pl_X12_work_149 fu k4 a1 a2 b1 b2 s l x y = pj_bl px_X12_work (pj_rn px_X12_work (pj_as pk_X12_work) (pj_as [(4, pe_X12_work_4 k4), (211, pe_X12_work_211 (pl_X12_work_211 fu k4))]) 60) [(149, .iastore, 1), (150, .goto 61, 3)] 149 [(0, pj_O (124, 0)), (1, pj_I a1), (2, pj_I a2)] [pj_I b2, pj_I b1, pj_O (190, 0)] (s, l, x, y) := rfl
set_option maxRecDepth 100000 in
theorem pq_X12_work_4 (fu : Nat)  (n : Nat) (a1 : Int32) (a2 : Int32) (s : Nat → Int32) (l : Nat → Int64) (x : Nat → Int32) (y : Nat → Int64) : pl_X12_work_4 fu (n + 1) a1 a2 s l x y = pj_bl px_X12_work (pj_rn px_X12_work (pj_as pk_X12_work) (pj_as [(4, pe_X12_work_4 (pl_X12_work_4 fu n)), (71, pe_X12_work_71 (pl_X12_work_71 fu (pl_X12_work_4 fu n))), (149, pe_X12_work_149 (pl_X12_work_149 fu (pl_X12_work_4 fu n))), (211, pe_X12_work_211 (pl_X12_work_211 fu (pl_X12_work_4 fu n)))]) 60) [(4, .iload_n 2, 1), (5, .aload_n 0, 1), (6, .getfield 1113, 3), (9, .if_icmp .ge 208, 3)] 4 [(0, pj_O (124, 0)), (1, pj_I a1), (2, pj_I a2)] [] (s, l, x, y) := rfl
set_option maxRecDepth 100000 in
theorem pq_X12_work_m (fu : Nat)   (s : Nat → Int32) (l : Nat → Int64) (x : Nat → Int32) (y : Nat → Int64) : po_X12_work fu  s l x y = pj_bl px_X12_work (pj_rn px_X12_work (pj_as pk_X12_work) (pj_as [(4, pe_X12_work_4 (pl_X12_work_4 fu fu))]) 60) [(0, .iconst 0, 1), (1, .istore_n 1, 1), (2, .iconst 0, 1), (3, .istore_n 2, 1)] 0 [(0, pj_O (124, 0))] [] (s, l, x, y) := rfl
theorem pu_X12_work_4 {lf : pj_Z → mj_M} {a : Unit × pj_Z} (f : Int32 → Int32 → pj_F (Unit × pj_Z)) (hf : ∀ (a1 : Int32) (a2 : Int32) (s : Nat → Int32) (l : Nat → Int64) (x : Nat → Int32) (y : Nat → Int64), f a1 a2 s l x y = some a → pm_Gd 2 12165 ie_X12_work.1 pm_rU lf 4 [(0, .ref 124), (1, .int a1), (2, .int a2)] [] (s, l, x, y) a) : pm_Ex 2 12165 ie_X12_work.1 pm_rU lf a 4 (pe_X12_work_4 f) := by
  intro lv st z hd h
  obtain ⟨g0, h⟩ := pj_xr_inv h
  obtain ⟨a1, g1, h⟩ := pj_xi_inv h
  obtain ⟨a2, g2, h⟩ := pj_xi_inv h
  obtain ⟨e9, h⟩ := pj_pe_inv h
  rw [e9]
  exact mj_wp_sub (mj_sub_cons g0 (mj_sub_cons g1 (mj_sub_cons g2 (mj_sub_nil hd)))) (hf _ _ _ _ _ _ h)
theorem pu_X12_work_71 {lf : pj_Z → mj_M} {a : Unit × pj_Z} (f : Int32 → Int32 → Int32 → Int32 → pj_F (Unit × pj_Z)) (hf : ∀ (a1 : Int32) (a2 : Int32) (b1 : Int32) (b2 : Int32) (s : Nat → Int32) (l : Nat → Int64) (x : Nat → Int32) (y : Nat → Int64), f a1 a2 b1 b2 s l x y = some a → pm_Gd 2 12165 ie_X12_work.1 pm_rU lf 71 [(0, .ref 124), (1, .int a1), (2, .int a2)] [.int b2, .int b1, .ref 190] (s, l, x, y) a) : pm_Ex 2 12165 ie_X12_work.1 pm_rU lf a 71 (pe_X12_work_71 f) := by
  intro lv st z hd h
  obtain ⟨g0, h⟩ := pj_xr_inv h
  obtain ⟨a1, g1, h⟩ := pj_xi_inv h
  obtain ⟨a2, g2, h⟩ := pj_xi_inv h
  obtain ⟨b2, r2, e2, h⟩ := pj_pi_inv h
  obtain ⟨b1, r1, e1, h⟩ := pj_pi_inv h
  obtain ⟨r0, e0, h⟩ := pj_pr_inv h
  obtain ⟨e9, h⟩ := pj_pe_inv h
  rw [e2, e1, e0, e9]
  exact mj_wp_sub (mj_sub_cons g0 (mj_sub_cons g1 (mj_sub_cons g2 (mj_sub_nil hd)))) (hf _ _ _ _ _ _ _ _ h)
theorem pu_X12_work_149 {lf : pj_Z → mj_M} {a : Unit × pj_Z} (f : Int32 → Int32 → Int32 → Int32 → pj_F (Unit × pj_Z)) (hf : ∀ (a1 : Int32) (a2 : Int32) (b1 : Int32) (b2 : Int32) (s : Nat → Int32) (l : Nat → Int64) (x : Nat → Int32) (y : Nat → Int64), f a1 a2 b1 b2 s l x y = some a → pm_Gd 2 12165 ie_X12_work.1 pm_rU lf 149 [(0, .ref 124), (1, .int a1), (2, .int a2)] [.int b2, .int b1, .ref 190] (s, l, x, y) a) : pm_Ex 2 12165 ie_X12_work.1 pm_rU lf a 149 (pe_X12_work_149 f) := by
  intro lv st z hd h
  obtain ⟨g0, h⟩ := pj_xr_inv h
  obtain ⟨a1, g1, h⟩ := pj_xi_inv h
  obtain ⟨a2, g2, h⟩ := pj_xi_inv h
  obtain ⟨b2, r2, e2, h⟩ := pj_pi_inv h
  obtain ⟨b1, r1, e1, h⟩ := pj_pi_inv h
  obtain ⟨r0, e0, h⟩ := pj_pr_inv h
  obtain ⟨e9, h⟩ := pj_pe_inv h
  rw [e2, e1, e0, e9]
  exact mj_wp_sub (mj_sub_cons g0 (mj_sub_cons g1 (mj_sub_cons g2 (mj_sub_nil hd)))) (hf _ _ _ _ _ _ _ _ h)
theorem pu_X12_work_211 {lf : pj_Z → mj_M} {a : Unit × pj_Z} (f : Int32 → Int32 → pj_F (Unit × pj_Z)) (hf : ∀ (a1 : Int32) (a2 : Int32) (s : Nat → Int32) (l : Nat → Int64) (x : Nat → Int32) (y : Nat → Int64), f a1 a2 s l x y = some a → pm_Gd 2 12165 ie_X12_work.1 pm_rU lf 211 [(0, .ref 124), (1, .int a1), (2, .int a2)] [] (s, l, x, y) a) : pm_Ex 2 12165 ie_X12_work.1 pm_rU lf a 211 (pe_X12_work_211 f) := by
  intro lv st z hd h
  obtain ⟨g0, h⟩ := pj_xr_inv h
  obtain ⟨a1, g1, h⟩ := pj_xi_inv h
  obtain ⟨a2, g2, h⟩ := pj_xi_inv h
  obtain ⟨e9, h⟩ := pj_pe_inv h
  rw [e9]
  exact mj_wp_sub (mj_sub_cons g0 (mj_sub_cons g1 (mj_sub_cons g2 (mj_sub_nil hd)))) (hf _ _ _ _ _ _ h)
set_option maxRecDepth 100000 in
theorem pz_X12_work {lf : pj_Z → mj_M} (hT : pj_Lt pj_TR lf) : pj_Cok ic_P (mj_R ic_P 2) 12165 ie_X12_work.1 (pm_OK lf pm_rU) lf px_X12_work := by
  exact pm_cok (c := px_X12_work) (pm_part hT (pj_as_all (p := fun b e => pj_TR b = some e) (List.forall_mem_cons.mpr ⟨rfl, (List.forall_mem_cons.mpr ⟨rfl, (List.forall_mem_cons.mpr ⟨rfl, (List.forall_mem_cons.mpr ⟨rfl, (List.forall_mem_cons.mpr ⟨rfl, (fun _ h => by cases h)⟩)⟩)⟩)⟩)⟩))) (pm_in_ok (L := [(215, 12, 175, 2, true), (218, 12, 176, 2, true), (233, 12, 186, 2, true), (236, 12, 187, 2, true), (1113, 12, 177, 0, false)]) (f := mj_pF ic_P 12165) (by decide +kernel)) (fun _ _ h => by cases h) (fun _ _ h => by cases h) (fun _ _ h => by cases h) rfl rfl ⟨by decide, rfl⟩ pm_mU (pj_as_all (p := pm_Cl 2 12165 ie_X12_work.1 lf (pm_OK lf pm_rU)) (List.forall_mem_cons.mpr ⟨fun _ _ lv st z K a hK h => pc_X12_input hT (by decide) (ix := 1116) rfl rfl hK h, (List.forall_mem_cons.mpr ⟨fun _ _ lv st z K a hK h => pc_X12_join hT (by decide) (ix := 1119) rfl rfl hK h, (fun _ h => by cases h)⟩)⟩)) (fun _ h => by cases h)
set_option maxRecDepth 100000 in
theorem pb_X12_work : pm_bks ie_X12_work.1.2.2.2.2 pk_X12_work = true := by decide +kernel
set_option maxRecDepth 100000 in
theorem pg_X12_work_211 {fu : Nat} {lf : pj_Z → mj_M} (hT : pj_Lt pj_TR lf) {k4 : Int32 → Int32 → pj_F (Unit × pj_Z)} (hk4 : ∀ (a1 : Int32) (a2 : Int32) (s : Nat → Int32) (l : Nat → Int64) (x : Nat → Int32) (y : Nat → Int64) (a : Unit × pj_Z), k4 a1 a2 s l x y = some a → pm_Gd 2 12165 ie_X12_work.1 pm_rU lf 4 [(0, .ref 124), (1, .int a1), (2, .int a2)] [] (s, l, x, y) a) : ∀ (a1 : Int32) (a2 : Int32) (s : Nat → Int32) (l : Nat → Int64) (x : Nat → Int32) (y : Nat → Int64) (a : Unit × pj_Z), pl_X12_work_211 fu k4 a1 a2 s l x y = some a → pm_Gd 2 12165 ie_X12_work.1 pm_rU lf 211 [(0, .ref 124), (1, .int a1), (2, .int a2)] [] (s, l, x, y) a := by
  intro a1 a2 s l x y a h
  exact pm_run ((pq_X12_work_211 fu k4 a1 a2 s l x y).symm.trans h) (pz_X12_work hT) (pm_bks_ok pb_X12_work) (pm_bks_ok pb_X12_work _ _ rfl) (pm_ndb_ok rfl) (pj_as_all (p := pm_Ex 2 12165 ie_X12_work.1 pm_rU lf a) (List.forall_mem_cons.mpr ⟨pu_X12_work_4 _ (fun c0 c1 s l x y h => hk4 c0 c1 s l x y _ h), (fun _ h => by cases h)⟩))
set_option maxRecDepth 100000 in
theorem pg_X12_work_71 {fu : Nat} {lf : pj_Z → mj_M} (hT : pj_Lt pj_TR lf) {k4 : Int32 → Int32 → pj_F (Unit × pj_Z)} (hk4 : ∀ (a1 : Int32) (a2 : Int32) (s : Nat → Int32) (l : Nat → Int64) (x : Nat → Int32) (y : Nat → Int64) (a : Unit × pj_Z), k4 a1 a2 s l x y = some a → pm_Gd 2 12165 ie_X12_work.1 pm_rU lf 4 [(0, .ref 124), (1, .int a1), (2, .int a2)] [] (s, l, x, y) a) : ∀ (a1 : Int32) (a2 : Int32) (b1 : Int32) (b2 : Int32) (s : Nat → Int32) (l : Nat → Int64) (x : Nat → Int32) (y : Nat → Int64) (a : Unit × pj_Z), pl_X12_work_71 fu k4 a1 a2 b1 b2 s l x y = some a → pm_Gd 2 12165 ie_X12_work.1 pm_rU lf 71 [(0, .ref 124), (1, .int a1), (2, .int a2)] [.int b2, .int b1, .ref 190] (s, l, x, y) a := by
  intro a1 a2 b1 b2 s l x y a h
  exact pm_run ((pq_X12_work_71 fu k4 a1 a2 b1 b2 s l x y).symm.trans h) (pz_X12_work hT) (pm_bks_ok pb_X12_work) (pm_bks_ok pb_X12_work _ _ rfl) (pm_ndb_ok rfl) (pj_as_all (p := pm_Ex 2 12165 ie_X12_work.1 pm_rU lf a) (List.forall_mem_cons.mpr ⟨pu_X12_work_4 _ (fun c0 c1 s l x y h => hk4 c0 c1 s l x y _ h), (List.forall_mem_cons.mpr ⟨pu_X12_work_211 _ (fun c0 c1 s l x y h => pg_X12_work_211 hT hk4 c0 c1 s l x y _ h), (fun _ h => by cases h)⟩)⟩))
set_option maxRecDepth 100000 in
theorem pg_X12_work_149 {fu : Nat} {lf : pj_Z → mj_M} (hT : pj_Lt pj_TR lf) {k4 : Int32 → Int32 → pj_F (Unit × pj_Z)} (hk4 : ∀ (a1 : Int32) (a2 : Int32) (s : Nat → Int32) (l : Nat → Int64) (x : Nat → Int32) (y : Nat → Int64) (a : Unit × pj_Z), k4 a1 a2 s l x y = some a → pm_Gd 2 12165 ie_X12_work.1 pm_rU lf 4 [(0, .ref 124), (1, .int a1), (2, .int a2)] [] (s, l, x, y) a) : ∀ (a1 : Int32) (a2 : Int32) (b1 : Int32) (b2 : Int32) (s : Nat → Int32) (l : Nat → Int64) (x : Nat → Int32) (y : Nat → Int64) (a : Unit × pj_Z), pl_X12_work_149 fu k4 a1 a2 b1 b2 s l x y = some a → pm_Gd 2 12165 ie_X12_work.1 pm_rU lf 149 [(0, .ref 124), (1, .int a1), (2, .int a2)] [.int b2, .int b1, .ref 190] (s, l, x, y) a := by
  intro a1 a2 b1 b2 s l x y a h
  exact pm_run ((pq_X12_work_149 fu k4 a1 a2 b1 b2 s l x y).symm.trans h) (pz_X12_work hT) (pm_bks_ok pb_X12_work) (pm_bks_ok pb_X12_work _ _ rfl) (pm_ndb_ok rfl) (pj_as_all (p := pm_Ex 2 12165 ie_X12_work.1 pm_rU lf a) (List.forall_mem_cons.mpr ⟨pu_X12_work_4 _ (fun c0 c1 s l x y h => hk4 c0 c1 s l x y _ h), (List.forall_mem_cons.mpr ⟨pu_X12_work_211 _ (fun c0 c1 s l x y h => pg_X12_work_211 hT hk4 c0 c1 s l x y _ h), (fun _ h => by cases h)⟩)⟩))
set_option maxRecDepth 100000 in
theorem pg_X12_work_4 {fu : Nat} {lf : pj_Z → mj_M} (hT : pj_Lt pj_TR lf) : ∀ (n : Nat), ∀ (a1 : Int32) (a2 : Int32) (s : Nat → Int32) (l : Nat → Int64) (x : Nat → Int32) (y : Nat → Int64) (a : Unit × pj_Z), pl_X12_work_4 fu n a1 a2 s l x y = some a → pm_Gd 2 12165 ie_X12_work.1 pm_rU lf 4 [(0, .ref 124), (1, .int a1), (2, .int a2)] [] (s, l, x, y) a := by
  intro n
  induction n with
  | zero => intro a1 a2 s l x y a h; cases (show (none : Option (Unit × pj_Z)) = some a from h)
  | succ n ih =>
    intro a1 a2 s l x y a h
    exact pm_run ((pq_X12_work_4 fu n a1 a2 s l x y).symm.trans h) (pz_X12_work hT) (pm_bks_ok pb_X12_work) (pm_bks_ok pb_X12_work _ _ rfl) (pm_ndb_ok rfl) (pj_as_all (p := pm_Ex 2 12165 ie_X12_work.1 pm_rU lf a) (List.forall_mem_cons.mpr ⟨pu_X12_work_4 _ (fun c0 c1 s l x y h => ih c0 c1 s l x y _ h), (List.forall_mem_cons.mpr ⟨pu_X12_work_71 _ (fun c0 c1 c2 c3 s l x y h => pg_X12_work_71 hT (fun a1 a2 s l x y a h => ih a1 a2 s l x y a h) c0 c1 c2 c3 s l x y _ h), (List.forall_mem_cons.mpr ⟨pu_X12_work_149 _ (fun c0 c1 c2 c3 s l x y h => pg_X12_work_149 hT (fun a1 a2 s l x y a h => ih a1 a2 s l x y a h) c0 c1 c2 c3 s l x y _ h), (List.forall_mem_cons.mpr ⟨pu_X12_work_211 _ (fun c0 c1 s l x y h => pg_X12_work_211 hT (fun a1 a2 s l x y a h => ih a1 a2 s l x y a h) c0 c1 s l x y _ h), (fun _ h => by cases h)⟩)⟩)⟩)⟩))
set_option maxRecDepth 100000 in
theorem pm_X12_work {lf : pj_Z → mj_M} (hT : pj_Lt pj_TR lf)  (s : Nat → Int32) (l : Nat → Int64) (x : Nat → Int32) (y : Nat → Int64) (a : Unit × pj_Z) (h : pf_X12_work  s l x y = some a) : mj_R ic_P 3 12165 [.ref 124] (lf (s, l, x, y)) (pm_rU a.1) (lf a.2) := by
  refine pm_main (Y := ie_X12_work.1) rfl (Nat.le_of_ble_eq_true rfl) ?_
  exact pm_run ((pq_X12_work_m 1000  s l x y).symm.trans h) (pz_X12_work hT) (pm_bks_ok pb_X12_work) (pm_bks_ok pb_X12_work _ _ rfl) (pm_ndb_ok rfl) (pj_as_all (p := pm_Ex 2 12165 ie_X12_work.1 pm_rU lf a) (List.forall_mem_cons.mpr ⟨pu_X12_work_4 _ (fun c0 c1 s l x y h => pg_X12_work_4 hT _ c0 c1 s l x y _ h), (fun _ h => by cases h)⟩))
abbrev ph_X12_work {A : Type} : List pj_V → pj_Z → (List pj_V → pj_Z → Option A) → Option A := fun st z K => pj_pr st 124 0 fun st => pj_ps st (pj_b (pf_X12_work  z.1 z.2.1 z.2.2.1 z.2.2.2) fun r s l x y => K st (s, l, x, y))
set_option maxRecDepth 100000 in
theorem pc_X12_work {A : Type} {OK : A → Option Value → mj_M → Prop} {d j pc ix : Nat} {Y : mj_Y} {lf : pj_Z → mj_M} (hT : pj_Lt pj_TR lf) (hd : 3 ≤ d) (hl : mj_lk Y.2.2.2.2 pc = some (.invokevirtual ix, 3)) (hg : mj_pG ic_P j ix = some (12165, 0, some 12)) {lv : List (Nat × Value)} {st : List pj_V} {z : pj_Z} {K : List pj_V → pj_Z → Option A} {a : A} (hK : ∀ st z, K st z = some a → pj_Gd ic_P (mj_R ic_P d) j Y OK lf (pc + 3) lv (pj_es st) z a) (h : ph_X12_work st z K = some a) : pj_Gd ic_P (mj_R ic_P d) j Y OK lf pc lv (pj_es st) z a := by
  obtain ⟨r0, e0, h⟩ := pj_pr_inv h
  obtain ⟨hs, h⟩ := pj_ps_inv h
  obtain ⟨q, hq, h⟩ := pj_b_inv h
  exact pm_cv (o := 124) hl hg [] rfl (by rw [e0]; rfl) hs (by decide) ((hT.2 124 _ rfl).1.2 z 0 (by decide)) (pm_rU q.1) hd (pm_X12_work hT  z.1 z.2.1 z.2.2.1 z.2.2.2 q hq) rfl (hK _ _ h)
abbrev px_X12_aboutWheel : pj_C (Int64 × pj_Z) := ((pj_as [(124, 12, 195, 1, 0, true, 0, [(1, 1), (2, 125), (2, 126), (2, 127), (2, 128), (2, 129), (2, 130), (2, 131), (2, 132), (2, 133), (1, 2), (0, 44), (2, 134), (2, 135), (2, 136), (2, 137), (2, 138), (0, 69), (2, 139), (2, 140), (2, 141), (1, 3), (0, 93), (0, 94), (0, 45), (0, 46), (0, 48), (0, 49), (0, 47), (0, 50), (0, 51), (2, 142), (2, 143), (2, 144), (0, 19), (1, 4), (1, 5), (1, 6), (0, 20), (0, 21), (0, 22), (0, 23), (0, 24), (0, 25), (0, 27), (0, 28), (1, 7), (1, 8), (1, 9), (1, 10), (1, 11), (0, 26), (2, 145), (2, 146), (2, 147), (2, 148), (2, 149), (2, 150), (2, 151), (2, 152), (2, 153), (2, 154), (2, 155), (2, 156), (2, 157), (2, 158), (2, 159), (0, 57), (0, 58), (0, 59), (0, 60), (2, 160), (2, 161), (2, 162), (2, 163), (1, 12), (1, 13), (0, 95), (0, 73), (0, 74), (0, 71), (0, 72), (0, 75), (0, 76), (0, 77), (0, 80), (0, 78), (0, 79), (1, 14), (0, 29), (0, 30), (0, 31), (0, 34), (0, 35), (0, 32), (0, 33), (0, 36), (0, 37), (0, 38), (0, 39), (0, 40), (1, 15), (1, 16), (0, 43), (0, 41), (0, 42), (2, 164), (0, 96), (0, 89), (0, 90), (0, 91), (0, 92), (2, 165), (2, 166), (2, 167), (2, 168), (2, 169), (2, 170), (2, 171), (2, 172), (0, 87), (2, 173), (0, 88), (2, 174), (0, 62), (1, 17), (0, 66), (0, 63), (0, 64), (0, 65), (0, 67), (1, 18), (0, 68), (2, 175), (1, 19), (0, 52), (0, 53), (0, 54), (0, 55), (2, 176), (0, 56), (0, 85), (0, 86), (0, 81), (0, 82), (0, 83), (0, 84), (2, 177), (2, 178), (2, 179), (1, 20), (2, 180), (0, 6), (0, 7), (0, 8), (0, 16), (0, 17), (0, 61), (0, 9), (0, 10), (1, 21), (1, 22), (0, 11), (0, 12), (0, 13), (0, 18), (0, 14), (0, 15), (2, 181), (0, 70), (1, 23), (2, 182), (2, 183), (0, 1), (1, 24), (2, 184), (2, 185), (1, 25), (0, 2), (2, 186), (2, 187), (1, 26), (2, 188), (2, 189), (1, 27), (1, 28), (2, 190), (2, 191), (1, 29), (0, 3), (2, 192), (0, 4), (0, 5), (1, 30), (2, 193)])]), (pj_as [(262, 12, 34, 0, false), (265, 12, 35, 0, false), (268, 12, 36, 0, false), (271, 12, 37, 1, false), (278, 12, 39, 0, false), (281, 12, 40, 0, false), (284, 12, 41, 0, false), (287, 12, 42, 0, false), (293, 12, 44, 0, false), (296, 12, 45, 3, false), (305, 12, 51, 0, false), (308, 12, 67, 0, false), (311, 12, 68, 0, false), (314, 12, 69, 0, false), (317, 12, 70, 0, false), (417, 12, 75, 1, false), (519, 12, 23, 0, false), (594, 12, 22, 1, false), (609, 12, 21, 1, false)]), (fun _ => none), (fun _ => none), (fun _ => none), ic_X, 2, 3, pj_mL, (pj_as [(151, ph_X12_speed)]), fun _ => false)
abbrev pk_X12_aboutWheel : List (Nat × List (Nat × Instr × Nat)) := [(0, [(0, .iload_n 1, 1), (1, .tableswitch 225 0 18 #[91, 96, 102, 108, 126, 144, 149, 155, 161, 167, 173, 179, 184, 190, 196, 201, 207, 213, 219], 91)]), (92, [(92, .aload_n 0, 1), (93, .getfield 594, 3), (96, .lreturn, 1)]), (97, [(97, .aload_n 0, 1), (98, .getfield 519, 3), (101, .i2l, 1), (102, .lreturn, 1)]), (103, [(103, .aload_n 0, 1), (104, .getfield 262, 3), (107, .i2l, 1), (108, .lreturn, 1)]), (109, [(109, .aload_n 0, 1), (110, .getfield 262, 3), (113, .iconst 2, 1), (114, .if_icmp .ge 7, 3)]), (117, [(117, .lconst 0, 1), (118, .goto 8, 3)]), (121, [(121, .aload_n 0, 1), (122, .getfield 265, 3), (125, .i2l, 1)]), (126, [(126, .lreturn, 1)]), (127, [(127, .aload_n 0, 1), (128, .getfield 262, 3), (131, .iconst 2, 1), (132, .if_icmp .ge 7, 3)]), (135, [(135, .lconst 0, 1), (136, .goto 8, 3)]), (139, [(139, .aload_n 0, 1), (140, .getfield 268, 3), (143, .i2l, 1)]), (144, [(144, .lreturn, 1)]), (145, [(145, .aload_n 0, 1), (146, .getfield 271, 3), (149, .lreturn, 1)]), (150, [(150, .aload_n 0, 1), (151, .invokevirtual 632, 3), (154, .i2l, 1), (155, .lreturn, 1)]), (156, [(156, .aload_n 0, 1), (157, .getfield 278, 3), (160, .i2l, 1), (161, .lreturn, 1)]), (162, [(162, .aload_n 0, 1), (163, .getfield 281, 3), (166, .i2l, 1), (167, .lreturn, 1)]), (168, [(168, .aload_n 0, 1), (169, .getfield 284, 3), (172, .i2l, 1), (173, .lreturn, 1)]), (174, [(174, .aload_n 0, 1), (175, .getfield 287, 3), (178, .i2l, 1), (179, .lreturn, 1)]), (180, [(180, .aload_n 0, 1), (181, .getfield 417, 3), (184, .lreturn, 1)]), (185, [(185, .aload_n 0, 1), (186, .getfield 308, 3), (189, .i2l, 1), (190, .lreturn, 1)]), (191, [(191, .aload_n 0, 1), (192, .getfield 311, 3), (195, .i2l, 1), (196, .lreturn, 1)]), (197, [(197, .aload_n 0, 1), (198, .getfield 609, 3), (201, .lreturn, 1)]), (202, [(202, .aload_n 0, 1), (203, .getfield 314, 3), (206, .i2l, 1), (207, .lreturn, 1)]), (208, [(208, .aload_n 0, 1), (209, .getfield 317, 3), (212, .i2l, 1), (213, .lreturn, 1)]), (214, [(214, .aload_n 0, 1), (215, .getfield 305, 3), (218, .i2l, 1), (219, .lreturn, 1)]), (220, [(220, .aload_n 0, 1), (221, .getfield 293, 3), (224, .i2l, 1), (225, .lreturn, 1)]), (226, [(226, .aload_n 0, 1), (227, .getfield 296, 3), (230, .ifCond .eq 7, 3)]), (233, [(233, .lconst 1, 1), (234, .goto 4, 3)]), (237, [(237, .lconst 0, 1)]), (238, [(238, .lreturn, 1)])]
set_option maxRecDepth 100000 in
theorem pq_X12_aboutWheel_m  (a1 : Int32) (s : Nat → Int32) (l : Nat → Int64) (x : Nat → Int32) (y : Nat → Int64) : pf_X12_aboutWheel a1 s l x y = pj_bl px_X12_aboutWheel (pj_rn px_X12_aboutWheel (pj_as pk_X12_aboutWheel) (fun _ => none) 60) [(0, .iload_n 1, 1), (1, .tableswitch 225 0 18 #[91, 96, 102, 108, 126, 144, 149, 155, 161, 167, 173, 179, 184, 190, 196, 201, 207, 213, 219], 91)] 0 [(0, pj_O (124, 0)), (1, pj_I a1)] [] (s, l, x, y) := rfl
set_option maxRecDepth 100000 in
theorem pz_X12_aboutWheel {lf : pj_Z → mj_M} (hT : pj_Lt pj_TR lf) : pj_Cok ic_P (mj_R ic_P 1) 12115 ie_X12_aboutWheel.1 (pm_OK lf pm_rL) lf px_X12_aboutWheel := by
  exact pm_cok (c := px_X12_aboutWheel) (pm_part hT (pj_as_all (p := fun b e => pj_TR b = some e) (List.forall_mem_cons.mpr ⟨rfl, (fun _ h => by cases h)⟩))) (pm_in_ok (L := [(262, 12, 34, 0, false), (265, 12, 35, 0, false), (268, 12, 36, 0, false), (271, 12, 37, 1, false), (278, 12, 39, 0, false), (281, 12, 40, 0, false), (284, 12, 41, 0, false), (287, 12, 42, 0, false), (293, 12, 44, 0, false), (296, 12, 45, 3, false), (305, 12, 51, 0, false), (308, 12, 67, 0, false), (311, 12, 68, 0, false), (314, 12, 69, 0, false), (317, 12, 70, 0, false), (417, 12, 75, 1, false), (519, 12, 23, 0, false), (594, 12, 22, 1, false), (609, 12, 21, 1, false)]) (f := mj_pF ic_P 12115) (by decide +kernel)) (fun _ _ h => by cases h) (fun _ _ h => by cases h) (fun _ _ h => by cases h) rfl rfl ⟨by decide, rfl⟩ pm_mL (pj_as_all (p := pm_Cl 1 12115 ie_X12_aboutWheel.1 lf (pm_OK lf pm_rL)) (List.forall_mem_cons.mpr ⟨fun _ _ lv st z K a hK h => pc_X12_speed hT (by decide) (ix := 632) rfl rfl hK h, (fun _ h => by cases h)⟩)) (fun _ h => by cases h)
set_option maxRecDepth 100000 in
theorem pb_X12_aboutWheel : pm_bks ie_X12_aboutWheel.1.2.2.2.2 pk_X12_aboutWheel = true := by decide +kernel
set_option maxRecDepth 100000 in
theorem pm_X12_aboutWheel {lf : pj_Z → mj_M} (hT : pj_Lt pj_TR lf) (a1 : Int32) (s : Nat → Int32) (l : Nat → Int64) (x : Nat → Int32) (y : Nat → Int64) (a : Int64 × pj_Z) (h : pf_X12_aboutWheel a1 s l x y = some a) : mj_R ic_P 2 12115 [.ref 124, .int a1] (lf (s, l, x, y)) (pm_rL a.1) (lf a.2) := by
  refine pm_main (Y := ie_X12_aboutWheel.1) rfl (Nat.le_of_ble_eq_true rfl) ?_
  exact pm_run ((pq_X12_aboutWheel_m a1 s l x y).symm.trans h) (pz_X12_aboutWheel hT) (pm_bks_ok pb_X12_aboutWheel) (pm_bks_ok pb_X12_aboutWheel _ _ rfl) (pm_ndb_ok rfl) (fun _ _ h => by cases h)
abbrev ph_X12_aboutWheel {A : Type} : List pj_V → pj_Z → (List pj_V → pj_Z → Option A) → Option A := fun st z K => pj_pi st fun a1 st => pj_pr st 124 0 fun st => pj_ps st (pj_b (pf_X12_aboutWheel a1 z.1 z.2.1 z.2.2.1 z.2.2.2) fun r s l x y => K (pj_L r :: st) (s, l, x, y))
set_option maxRecDepth 100000 in
theorem pc_X12_aboutWheel {A : Type} {OK : A → Option Value → mj_M → Prop} {d j pc ix : Nat} {Y : mj_Y} {lf : pj_Z → mj_M} (hT : pj_Lt pj_TR lf) (hd : 2 ≤ d) (hl : mj_lk Y.2.2.2.2 pc = some (.invokevirtual ix, 3)) (hg : mj_pG ic_P j ix = some (12115, 1, some 12)) {lv : List (Nat × Value)} {st : List pj_V} {z : pj_Z} {K : List pj_V → pj_Z → Option A} {a : A} (hK : ∀ st z, K st z = some a → pj_Gd ic_P (mj_R ic_P d) j Y OK lf (pc + 3) lv (pj_es st) z a) (h : ph_X12_aboutWheel st z K = some a) : pj_Gd ic_P (mj_R ic_P d) j Y OK lf pc lv (pj_es st) z a := by
  obtain ⟨a1, r1, e1, h⟩ := pj_pi_inv h
  obtain ⟨r0, e0, h⟩ := pj_pr_inv h
  obtain ⟨hs, h⟩ := pj_ps_inv h
  obtain ⟨q, hq, h⟩ := pj_b_inv h
  exact pm_cv (o := 124) hl hg [.int a1] rfl (by rw [e1, e0]; rfl) hs (by decide) ((hT.2 124 _ rfl).1.2 z 0 (by decide)) (pm_rL q.1) hd (pm_X12_aboutWheel hT a1 z.1 z.2.1 z.2.2.1 z.2.2.2 q hq) rfl (hK _ _ h)
abbrev pe_X12_aboutLoop_169 (f : Int64 → pj_F (Int64 × pj_Z)) : pj_K (Int64 × pj_Z) := fun lv st z => pj_xr lv 0 124 0 <| pj_pl st fun b0 st => pj_pe st (f b0 z.1 z.2.1 z.2.2.1 z.2.2.2)
abbrev pe_X12_aboutLoop_183 (f : Int64 → Int64 → pj_F (Int64 × pj_Z)) : pj_K (Int64 × pj_Z) := fun lv st z => pj_pl st fun b1 st => pj_pl st fun b0 st => pj_pe st (f b0 b1 z.1 z.2.1 z.2.2.1 z.2.2.2)
abbrev px_X12_aboutLoop : pj_C (Int64 × pj_Z) := ((pj_as [(124, 12, 195, 1, 0, true, 0, [(1, 1), (2, 125), (2, 126), (2, 127), (2, 128), (2, 129), (2, 130), (2, 131), (2, 132), (2, 133), (1, 2), (0, 44), (2, 134), (2, 135), (2, 136), (2, 137), (2, 138), (0, 69), (2, 139), (2, 140), (2, 141), (1, 3), (0, 93), (0, 94), (0, 45), (0, 46), (0, 48), (0, 49), (0, 47), (0, 50), (0, 51), (2, 142), (2, 143), (2, 144), (0, 19), (1, 4), (1, 5), (1, 6), (0, 20), (0, 21), (0, 22), (0, 23), (0, 24), (0, 25), (0, 27), (0, 28), (1, 7), (1, 8), (1, 9), (1, 10), (1, 11), (0, 26), (2, 145), (2, 146), (2, 147), (2, 148), (2, 149), (2, 150), (2, 151), (2, 152), (2, 153), (2, 154), (2, 155), (2, 156), (2, 157), (2, 158), (2, 159), (0, 57), (0, 58), (0, 59), (0, 60), (2, 160), (2, 161), (2, 162), (2, 163), (1, 12), (1, 13), (0, 95), (0, 73), (0, 74), (0, 71), (0, 72), (0, 75), (0, 76), (0, 77), (0, 80), (0, 78), (0, 79), (1, 14), (0, 29), (0, 30), (0, 31), (0, 34), (0, 35), (0, 32), (0, 33), (0, 36), (0, 37), (0, 38), (0, 39), (0, 40), (1, 15), (1, 16), (0, 43), (0, 41), (0, 42), (2, 164), (0, 96), (0, 89), (0, 90), (0, 91), (0, 92), (2, 165), (2, 166), (2, 167), (2, 168), (2, 169), (2, 170), (2, 171), (2, 172), (0, 87), (2, 173), (0, 88), (2, 174), (0, 62), (1, 17), (0, 66), (0, 63), (0, 64), (0, 65), (0, 67), (1, 18), (0, 68), (2, 175), (1, 19), (0, 52), (0, 53), (0, 54), (0, 55), (2, 176), (0, 56), (0, 85), (0, 86), (0, 81), (0, 82), (0, 83), (0, 84), (2, 177), (2, 178), (2, 179), (1, 20), (2, 180), (0, 6), (0, 7), (0, 8), (0, 16), (0, 17), (0, 61), (0, 9), (0, 10), (1, 21), (1, 22), (0, 11), (0, 12), (0, 13), (0, 18), (0, 14), (0, 15), (2, 181), (0, 70), (1, 23), (2, 182), (2, 183), (0, 1), (1, 24), (2, 184), (2, 185), (1, 25), (0, 2), (2, 186), (2, 187), (1, 26), (2, 188), (2, 189), (1, 27), (1, 28), (2, 190), (2, 191), (1, 29), (0, 3), (2, 192), (0, 4), (0, 5), (1, 30), (2, 193)]), (164, 100, 16, 1, 0, true, 9000, [])]), (pj_as [(146, 12, 106, 2, true), (432, 12, 80, 0, false), (435, 12, 81, 0, false), (438, 12, 82, 0, false), (441, 12, 83, 0, false), (444, 12, 84, 0, false), (450, 12, 86, 0, false), (453, 12, 87, 0, false), (456, 12, 89, 3, false), (477, 12, 96, 3, false), (480, 12, 97, 3, false), (483, 12, 98, 3, false), (486, 12, 99, 3, false), (489, 12, 100, 3, false), (498, 12, 107, 3, false), (516, 12, 103, 0, false)]), (fun _ => none), (pj_as [(643, 2)]), (fun _ => none), ic_X, 2, 3, pj_mL, (pj_as [(205, ph_X12_cellNow), (215, ph_X12_cellNow)]), fun _ => false)
abbrev pk_X12_aboutLoop : List (Nat × List (Nat × Instr × Nat)) := [(0, [(0, .iload_n 1, 1), (1, .tableswitch 220 20 34 #[75, 81, 87, 93, 99, 105, 111, 117, 130, 143, 156, 184, 197, 203, 209], 75)]), (76, [(76, .aload_n 0, 1), (77, .getfield 432, 3), (80, .i2l, 1), (81, .lreturn, 1)]), (82, [(82, .aload_n 0, 1), (83, .getfield 435, 3), (86, .i2l, 1), (87, .lreturn, 1)]), (88, [(88, .aload_n 0, 1), (89, .getfield 438, 3), (92, .i2l, 1), (93, .lreturn, 1)]), (94, [(94, .aload_n 0, 1), (95, .getfield 441, 3), (98, .i2l, 1), (99, .lreturn, 1)]), (100, [(100, .aload_n 0, 1), (101, .getfield 444, 3), (104, .i2l, 1), (105, .lreturn, 1)]), (106, [(106, .aload_n 0, 1), (107, .getfield 450, 3), (110, .i2l, 1), (111, .lreturn, 1)]), (112, [(112, .aload_n 0, 1), (113, .getfield 453, 3), (116, .i2l, 1), (117, .lreturn, 1)]), (118, [(118, .aload_n 0, 1), (119, .getfield 456, 3), (122, .ifCond .eq 7, 3)]), (125, [(125, .lconst 1, 1), (126, .goto 4, 3)]), (129, [(129, .lconst 0, 1)]), (130, [(130, .lreturn, 1)]), (131, [(131, .aload_n 0, 1), (132, .getfield 477, 3), (135, .ifCond .eq 7, 3)]), (138, [(138, .lconst 1, 1), (139, .goto 4, 3)]), (142, [(142, .lconst 0, 1)]), (143, [(143, .lreturn, 1)]), (144, [(144, .aload_n 0, 1), (145, .getfield 480, 3), (148, .ifCond .eq 7, 3)]), (151, [(151, .lconst 1, 1), (152, .goto 4, 3)]), (155, [(155, .lconst 0, 1)]), (156, [(156, .lreturn, 1)]), (157, [(157, .aload_n 0, 1), (158, .getfield 483, 3), (161, .ifCond .eq 7, 3)]), (164, [(164, .lconst 1, 1), (165, .goto 4, 3)]), (168, [(168, .lconst 0, 1)]), (169, [(169, .aload_n 0, 1), (170, .getfield 486, 3), (173, .ifCond .eq 9, 3)]), (176, [(176, .ldc2_w 643, 3), (179, .goto 4, 3)]), (182, [(182, .lconst 0, 1)]), (183, [(183, .ladd, 1), (184, .lreturn, 1)]), (185, [(185, .aload_n 0, 1), (186, .getfield 489, 3), (189, .ifCond .eq 7, 3)]), (192, [(192, .lconst 1, 1), (193, .goto 4, 3)]), (196, [(196, .lconst 0, 1)]), (197, [(197, .lreturn, 1)]), (198, [(198, .aload_n 0, 1), (199, .getfield 516, 3), (202, .i2l, 1), (203, .lreturn, 1)]), (204, [(204, .aload_n 0, 1), (205, .invokevirtual 689, 3), (208, .i2l, 1), (209, .lreturn, 1)]), (210, [(210, .aload_n 0, 1), (211, .getfield 146, 3), (214, .aload_n 0, 1), (215, .invokevirtual 689, 3), (218, .iaload, 1), (219, .i2l, 1), (220, .lreturn, 1)]), (221, [(221, .aload_n 0, 1), (222, .getfield 498, 3), (225, .ifCond .eq 7, 3)]), (228, [(228, .lconst 1, 1), (229, .goto 4, 3)]), (232, [(232, .lconst 0, 1)]), (233, [(233, .lreturn, 1)])]
set_option maxRecDepth 100000 in
theorem pq_X12_aboutLoop_183  (b0 : Int64) (b1 : Int64) (s : Nat → Int32) (l : Nat → Int64) (x : Nat → Int32) (y : Nat → Int64) : pl_X12_aboutLoop_183 b0 b1 s l x y = pj_bl px_X12_aboutLoop (pj_rn px_X12_aboutLoop (pj_as pk_X12_aboutLoop) (fun _ => none) 60) [(183, .ladd, 1), (184, .lreturn, 1)] 183 [] [pj_L b1, pj_L b0] (s, l, x, y) := rfl
set_option maxRecDepth 100000 in
theorem pq_X12_aboutLoop_169  (b0 : Int64) (s : Nat → Int32) (l : Nat → Int64) (x : Nat → Int32) (y : Nat → Int64) : pl_X12_aboutLoop_169 b0 s l x y = pj_bl px_X12_aboutLoop (pj_rn px_X12_aboutLoop (pj_as pk_X12_aboutLoop) (pj_as [(183, pe_X12_aboutLoop_183 (pl_X12_aboutLoop_183))]) 60) [(169, .aload_n 0, 1), (170, .getfield 486, 3), (173, .ifCond .eq 9, 3)] 169 [(0, pj_O (124, 0))] [pj_L b0] (s, l, x, y) := rfl
set_option maxRecDepth 100000 in
theorem pq_X12_aboutLoop_m  (a1 : Int32) (s : Nat → Int32) (l : Nat → Int64) (x : Nat → Int32) (y : Nat → Int64) : pf_X12_aboutLoop a1 s l x y = pj_bl px_X12_aboutLoop (pj_rn px_X12_aboutLoop (pj_as pk_X12_aboutLoop) (pj_as [(169, pe_X12_aboutLoop_169 (pl_X12_aboutLoop_169))]) 60) [(0, .iload_n 1, 1), (1, .tableswitch 220 20 34 #[75, 81, 87, 93, 99, 105, 111, 117, 130, 143, 156, 184, 197, 203, 209], 75)] 0 [(0, pj_O (124, 0)), (1, pj_I a1)] [] (s, l, x, y) := rfl
theorem pu_X12_aboutLoop_169 {lf : pj_Z → mj_M} {a : Int64 × pj_Z} (f : Int64 → pj_F (Int64 × pj_Z)) (hf : ∀ (b0 : Int64) (s : Nat → Int32) (l : Nat → Int64) (x : Nat → Int32) (y : Nat → Int64), f b0 s l x y = some a → pm_Gd 2 12116 ie_X12_aboutLoop.1 pm_rL lf 169 [(0, .ref 124)] [.long b0] (s, l, x, y) a) : pm_Ex 2 12116 ie_X12_aboutLoop.1 pm_rL lf a 169 (pe_X12_aboutLoop_169 f) := by
  intro lv st z hd h
  obtain ⟨g0, h⟩ := pj_xr_inv h
  obtain ⟨b0, r0, e0, h⟩ := pj_pl_inv h
  obtain ⟨e9, h⟩ := pj_pe_inv h
  rw [e0, e9]
  exact mj_wp_sub (mj_sub_cons g0 (mj_sub_nil hd)) (hf _ _ _ _ _ h)
theorem pu_X12_aboutLoop_183 {lf : pj_Z → mj_M} {a : Int64 × pj_Z} (f : Int64 → Int64 → pj_F (Int64 × pj_Z)) (hf : ∀ (b0 : Int64) (b1 : Int64) (s : Nat → Int32) (l : Nat → Int64) (x : Nat → Int32) (y : Nat → Int64), f b0 b1 s l x y = some a → pm_Gd 2 12116 ie_X12_aboutLoop.1 pm_rL lf 183 [] [.long b1, .long b0] (s, l, x, y) a) : pm_Ex 2 12116 ie_X12_aboutLoop.1 pm_rL lf a 183 (pe_X12_aboutLoop_183 f) := by
  intro lv st z hd h
  obtain ⟨b1, r1, e1, h⟩ := pj_pl_inv h
  obtain ⟨b0, r0, e0, h⟩ := pj_pl_inv h
  obtain ⟨e9, h⟩ := pj_pe_inv h
  rw [e1, e0, e9]
  exact mj_wp_sub (mj_sub_nil hd) (hf _ _ _ _ _ _ h)
set_option maxRecDepth 100000 in
theorem pz_X12_aboutLoop {lf : pj_Z → mj_M} (hT : pj_Lt pj_TR lf) : pj_Cok ic_P (mj_R ic_P 2) 12116 ie_X12_aboutLoop.1 (pm_OK lf pm_rL) lf px_X12_aboutLoop := by
  exact pm_cok (c := px_X12_aboutLoop) (pm_part hT (pj_as_all (p := fun b e => pj_TR b = some e) (List.forall_mem_cons.mpr ⟨rfl, (List.forall_mem_cons.mpr ⟨rfl, (fun _ h => by cases h)⟩)⟩))) (pm_in_ok (L := [(146, 12, 106, 2, true), (432, 12, 80, 0, false), (435, 12, 81, 0, false), (438, 12, 82, 0, false), (441, 12, 83, 0, false), (444, 12, 84, 0, false), (450, 12, 86, 0, false), (453, 12, 87, 0, false), (456, 12, 89, 3, false), (477, 12, 96, 3, false), (480, 12, 97, 3, false), (483, 12, 98, 3, false), (486, 12, 99, 3, false), (489, 12, 100, 3, false), (498, 12, 107, 3, false), (516, 12, 103, 0, false)]) (f := mj_pF ic_P 12116) (by decide +kernel)) (fun _ _ h => by cases h) (pm_inL_ok (L := [(643, 2)]) (f := mj_pL ic_P 12116) (by decide +kernel)) (fun _ _ h => by cases h) rfl rfl ⟨by decide, rfl⟩ pm_mL (pj_as_all (p := pm_Cl 2 12116 ie_X12_aboutLoop.1 lf (pm_OK lf pm_rL)) (List.forall_mem_cons.mpr ⟨fun _ _ lv st z K a hK h => pc_X12_cellNow hT (by decide) (ix := 689) rfl rfl hK h, (List.forall_mem_cons.mpr ⟨fun _ _ lv st z K a hK h => pc_X12_cellNow hT (by decide) (ix := 689) rfl rfl hK h, (fun _ h => by cases h)⟩)⟩)) (fun _ h => by cases h)
set_option maxRecDepth 100000 in
theorem pb_X12_aboutLoop : pm_bks ie_X12_aboutLoop.1.2.2.2.2 pk_X12_aboutLoop = true := by decide +kernel
set_option maxRecDepth 100000 in
theorem pg_X12_aboutLoop_183 {lf : pj_Z → mj_M} (hT : pj_Lt pj_TR lf) : ∀ (b0 : Int64) (b1 : Int64) (s : Nat → Int32) (l : Nat → Int64) (x : Nat → Int32) (y : Nat → Int64) (a : Int64 × pj_Z), pl_X12_aboutLoop_183 b0 b1 s l x y = some a → pm_Gd 2 12116 ie_X12_aboutLoop.1 pm_rL lf 183 [] [.long b1, .long b0] (s, l, x, y) a := by
  intro b0 b1 s l x y a h
  exact pm_run ((pq_X12_aboutLoop_183  b0 b1 s l x y).symm.trans h) (pz_X12_aboutLoop hT) (pm_bks_ok pb_X12_aboutLoop) (pm_bks_ok pb_X12_aboutLoop _ _ rfl) (pm_ndb_ok rfl) (fun _ _ h => by cases h)
set_option maxRecDepth 100000 in
theorem pg_X12_aboutLoop_169 {lf : pj_Z → mj_M} (hT : pj_Lt pj_TR lf) : ∀ (b0 : Int64) (s : Nat → Int32) (l : Nat → Int64) (x : Nat → Int32) (y : Nat → Int64) (a : Int64 × pj_Z), pl_X12_aboutLoop_169 b0 s l x y = some a → pm_Gd 2 12116 ie_X12_aboutLoop.1 pm_rL lf 169 [(0, .ref 124)] [.long b0] (s, l, x, y) a := by
  intro b0 s l x y a h
  exact pm_run ((pq_X12_aboutLoop_169  b0 s l x y).symm.trans h) (pz_X12_aboutLoop hT) (pm_bks_ok pb_X12_aboutLoop) (pm_bks_ok pb_X12_aboutLoop _ _ rfl) (pm_ndb_ok rfl) (pj_as_all (p := pm_Ex 2 12116 ie_X12_aboutLoop.1 pm_rL lf a) (List.forall_mem_cons.mpr ⟨pu_X12_aboutLoop_183 _ (fun c0 c1 s l x y h => pg_X12_aboutLoop_183 hT c0 c1 s l x y _ h), (fun _ h => by cases h)⟩))
set_option maxRecDepth 100000 in
theorem pm_X12_aboutLoop {lf : pj_Z → mj_M} (hT : pj_Lt pj_TR lf) (a1 : Int32) (s : Nat → Int32) (l : Nat → Int64) (x : Nat → Int32) (y : Nat → Int64) (a : Int64 × pj_Z) (h : pf_X12_aboutLoop a1 s l x y = some a) : mj_R ic_P 3 12116 [.ref 124, .int a1] (lf (s, l, x, y)) (pm_rL a.1) (lf a.2) := by
  refine pm_main (Y := ie_X12_aboutLoop.1) rfl (Nat.le_of_ble_eq_true rfl) ?_
  exact pm_run ((pq_X12_aboutLoop_m a1 s l x y).symm.trans h) (pz_X12_aboutLoop hT) (pm_bks_ok pb_X12_aboutLoop) (pm_bks_ok pb_X12_aboutLoop _ _ rfl) (pm_ndb_ok rfl) (pj_as_all (p := pm_Ex 2 12116 ie_X12_aboutLoop.1 pm_rL lf a) (List.forall_mem_cons.mpr ⟨pu_X12_aboutLoop_169 _ (fun c0 s l x y h => pg_X12_aboutLoop_169 hT c0 s l x y _ h), (fun _ h => by cases h)⟩))
abbrev ph_X12_aboutLoop {A : Type} : List pj_V → pj_Z → (List pj_V → pj_Z → Option A) → Option A := fun st z K => pj_pi st fun a1 st => pj_pr st 124 0 fun st => pj_ps st (pj_b (pf_X12_aboutLoop a1 z.1 z.2.1 z.2.2.1 z.2.2.2) fun r s l x y => K (pj_L r :: st) (s, l, x, y))
set_option maxRecDepth 100000 in
theorem pc_X12_aboutLoop {A : Type} {OK : A → Option Value → mj_M → Prop} {d j pc ix : Nat} {Y : mj_Y} {lf : pj_Z → mj_M} (hT : pj_Lt pj_TR lf) (hd : 3 ≤ d) (hl : mj_lk Y.2.2.2.2 pc = some (.invokevirtual ix, 3)) (hg : mj_pG ic_P j ix = some (12116, 1, some 12)) {lv : List (Nat × Value)} {st : List pj_V} {z : pj_Z} {K : List pj_V → pj_Z → Option A} {a : A} (hK : ∀ st z, K st z = some a → pj_Gd ic_P (mj_R ic_P d) j Y OK lf (pc + 3) lv (pj_es st) z a) (h : ph_X12_aboutLoop st z K = some a) : pj_Gd ic_P (mj_R ic_P d) j Y OK lf pc lv (pj_es st) z a := by
  obtain ⟨a1, r1, e1, h⟩ := pj_pi_inv h
  obtain ⟨r0, e0, h⟩ := pj_pr_inv h
  obtain ⟨hs, h⟩ := pj_ps_inv h
  obtain ⟨q, hq, h⟩ := pj_b_inv h
  exact pm_cv (o := 124) hl hg [.int a1] rfl (by rw [e1, e0]; rfl) hs (by decide) ((hT.2 124 _ rfl).1.2 z 0 (by decide)) (pm_rL q.1) hd (pm_X12_aboutLoop hT a1 z.1 z.2.1 z.2.2.1 z.2.2.2 q hq) rfl (hK _ _ h)

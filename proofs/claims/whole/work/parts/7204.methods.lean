/-! METHODS 4, printed by gen_meth.py -/
abbrev pe_X11_testRest_16 (f : Int32 → pj_F (Unit × pj_Z)) : pj_K (Unit × pj_Z) := fun lv st z => pj_xr lv 0 0 0 <| pj_pi st fun b0 st => pj_pe st (f b0 z.1 z.2.1 z.2.2.1 z.2.2.2)
abbrev pe_X11_testRest_51 (f : Int32 → Int32 → pj_F (Unit × pj_Z)) : pj_K (Unit × pj_Z) := fun lv st z => pj_xr lv 0 0 0 <| pj_xi lv 1 fun a1 => pj_pi st fun b2 st => pj_pc st 12 fun st => pj_pr st 0 0 fun st => pj_pe st (f a1 b2 z.1 z.2.1 z.2.2.1 z.2.2.2)
abbrev pe_X11_testRest_52 (f : Int32 → Int32 → Int32 → pj_F (Unit × pj_Z)) : pj_K (Unit × pj_Z) := fun lv st z => pj_xr lv 0 0 0 <| pj_xi lv 1 fun a1 => pj_pi st fun b3 st => pj_pi st fun b2 st => pj_pc st 12 fun st => pj_pr st 0 0 fun st => pj_pe st (f a1 b2 b3 z.1 z.2.1 z.2.2.1 z.2.2.2)
abbrev pe_X11_testRest_89 (f : Int32 → Int32 → pj_F (Unit × pj_Z)) : pj_K (Unit × pj_Z) := fun lv st z => pj_xr lv 0 0 0 <| pj_xi lv 1 fun a1 => pj_pi st fun b2 st => pj_pc st 13 fun st => pj_pr st 0 0 fun st => pj_pe st (f a1 b2 z.1 z.2.1 z.2.2.1 z.2.2.2)
abbrev pe_X11_testRest_90 (f : Int32 → Int32 → Int32 → pj_F (Unit × pj_Z)) : pj_K (Unit × pj_Z) := fun lv st z => pj_xr lv 0 0 0 <| pj_xi lv 1 fun a1 => pj_pi st fun b3 st => pj_pi st fun b2 st => pj_pc st 13 fun st => pj_pr st 0 0 fun st => pj_pe st (f a1 b2 b3 z.1 z.2.1 z.2.2.1 z.2.2.2)
abbrev pe_X11_testRest_132 (f : Int32 → Int32 → pj_F (Unit × pj_Z)) : pj_K (Unit × pj_Z) := fun lv st z => pj_xr lv 0 0 0 <| pj_xi lv 1 fun a1 => pj_pi st fun b2 st => pj_pc st 15 fun st => pj_pr st 0 0 fun st => pj_pe st (f a1 b2 z.1 z.2.1 z.2.2.1 z.2.2.2)
abbrev pe_X11_testRest_164 (f : Int32 → pj_F (Unit × pj_Z)) : pj_K (Unit × pj_Z) := fun lv st z => pj_xr lv 0 0 0 <| pj_xi lv 1 fun a1 => pj_pe st (f a1 z.1 z.2.1 z.2.2.1 z.2.2.2)
abbrev pe_X11_testRest_169 (f : Int32 → Int32 → pj_F (Unit × pj_Z)) : pj_K (Unit × pj_Z) := fun lv st z => pj_xr lv 0 0 0 <| pj_xi lv 1 fun a1 => pj_pi st fun b0 st => pj_pe st (f a1 b0 z.1 z.2.1 z.2.2.1 z.2.2.2)
abbrev pe_X11_testRest_192 (f : Int32 → pj_F (Unit × pj_Z)) : pj_K (Unit × pj_Z) := fun lv st z => pj_xr lv 0 0 0 <| pj_pi st fun b2 st => pj_pc st 16 fun st => pj_pr st 0 0 fun st => pj_pe st (f b2 z.1 z.2.1 z.2.2.1 z.2.2.2)
abbrev pe_X11_testRest_193 (f : Int32 → Int32 → pj_F (Unit × pj_Z)) : pj_K (Unit × pj_Z) := fun lv st z => pj_xr lv 0 0 0 <| pj_pi st fun b3 st => pj_pi st fun b2 st => pj_pc st 16 fun st => pj_pr st 0 0 fun st => pj_pe st (f b2 b3 z.1 z.2.1 z.2.2.1 z.2.2.2)
abbrev pe_X11_testRest_217 (f : Int32 → pj_F (Unit × pj_Z)) : pj_K (Unit × pj_Z) := fun lv st z => pj_xr lv 0 0 0 <| pj_pi st fun b2 st => pj_pc st 17 fun st => pj_pr st 0 0 fun st => pj_pe st (f b2 z.1 z.2.1 z.2.2.1 z.2.2.2)
abbrev pe_X11_testRest_241 (f : Int32 → pj_F (Unit × pj_Z)) : pj_K (Unit × pj_Z) := fun lv st z => pj_xr lv 0 0 0 <| pj_pi st fun b2 st => pj_pc st 17 fun st => pj_pr st 0 0 fun st => pj_pe st (f b2 z.1 z.2.1 z.2.2.1 z.2.2.2)
abbrev pe_X11_testRest_242 (f : Int32 → Int32 → pj_F (Unit × pj_Z)) : pj_K (Unit × pj_Z) := fun lv st z => pj_xr lv 0 0 0 <| pj_pi st fun b3 st => pj_pi st fun b2 st => pj_pc st 17 fun st => pj_pr st 0 0 fun st => pj_pe st (f b2 b3 z.1 z.2.1 z.2.2.1 z.2.2.2)
abbrev pe_X11_testRest_293 (f : pj_F (Unit × pj_Z)) : pj_K (Unit × pj_Z) := fun lv st z => pj_xr lv 0 0 0 <| pj_pc st 18 fun st => pj_pr st 0 0 fun st => pj_pe st (f  z.1 z.2.1 z.2.2.1 z.2.2.2)
abbrev pe_X11_testRest_294 (f : Int32 → pj_F (Unit × pj_Z)) : pj_K (Unit × pj_Z) := fun lv st z => pj_xr lv 0 0 0 <| pj_pi st fun b2 st => pj_pc st 18 fun st => pj_pr st 0 0 fun st => pj_pe st (f b2 z.1 z.2.1 z.2.2.1 z.2.2.2)
abbrev pe_X11_testRest_329 (f : Int32 → pj_F (Unit × pj_Z)) : pj_K (Unit × pj_Z) := fun lv st z => pj_xr lv 0 0 0 <| pj_pi st fun b2 st => pj_pc st 19 fun st => pj_pr st 0 0 fun st => pj_pe st (f b2 z.1 z.2.1 z.2.2.1 z.2.2.2)
abbrev pe_X11_testRest_351 (f : Int32 → Int32 → pj_F (Unit × pj_Z)) : pj_K (Unit × pj_Z) := fun lv st z => pj_xr lv 0 0 0 <| pj_pi st fun b3 st => pj_pi st fun b2 st => pj_pc st 19 fun st => pj_pr st 0 0 fun st => pj_pe st (f b2 b3 z.1 z.2.1 z.2.2.1 z.2.2.2)
abbrev px_X11_testRest : pj_C (Unit × pj_Z) := ((pj_as [(0, 11, 17, 1, 0, true, 0, [(2, 1), (2, 20), (2, 58), (2, 68), (2, 82), (2, 83), (2, 85), (2, 96), (2, 102), (2, 106), (2, 122), (0, 93), (0, 94), (0, 95), (1, 1), (1, 2), (0, 96)]), (58, 2, 19, 1, 0, true, 0, [(0, 19), (0, 20), (1, 4), (1, 5), (1, 6), (1, 7), (0, 21), (0, 22), (0, 23), (0, 24), (0, 25), (2, 59), (2, 63), (0, 26), (1, 8), (1, 9), (1, 10), (0, 27), (0, 28)]), (68, 6, 19, 1, 0, true, 0, [(2, 69), (2, 70), (2, 71), (2, 72), (0, 57), (0, 58), (2, 73), (2, 74), (2, 75), (2, 76), (2, 77), (2, 78), (1, 11), (0, 59), (0, 60), (0, 61), (2, 79), (2, 80), (2, 81)]), (83, 3, 20, 1, 0, true, 0, [(0, 29), (0, 30), (1, 14), (1, 15), (0, 31), (0, 32), (0, 33), (0, 34), (0, 35), (0, 36), (0, 37), (0, 38), (0, 39), (0, 40), (1, 16), (1, 17), (0, 41), (0, 42), (0, 43), (2, 84)]), (84, 100, 16, 1, 0, true, 9000, []), (85, 10, 8, 1, 0, true, 0, [(2, 86), (2, 95), (0, 87), (0, 88), (0, 89), (0, 90), (0, 91), (0, 92)])]), (pj_as [(26, 11, 2, 2, true), (33, 11, 3, 2, true), (47, 11, 5, 2, true), (54, 11, 6, 2, true), (127, 2, 0, 0, false), (307, 3, 4, 3, false), (622, 3, 10, 3, false), (667, 3, 9, 3, false), (682, 3, 18, 0, false), (685, 3, 19, 2, true), (761, 3, 13, 3, false), (804, 3, 3, 3, false), (807, 3, 2, 3, false), (810, 3, 1, 0, false), (813, 3, 8, 0, false), (816, 2, 6, 0, false), (819, 10, 4, 0, false), (822, 2, 7, 0, false), (825, 2, 8, 0, false), (828, 10, 5, 0, false), (831, 3, 16, 0, false), (837, 6, 14, 0, false), (840, 10, 6, 0, false), (843, 6, 13, 0, false), (846, 10, 7, 0, false)]), (fun _ => none), (fun _ => none), (fun _ => none), ic_X, 4, 0, pj_mU, (pj_as [(52, ph_X11_judge), (90, ph_X11_judge), (104, ph_X11_judge), (133, ph_X11_judge), (193, ph_X11_judge), (242, ph_X11_judge), (260, ph_X11_cellAtHand), (280, ph_J9_abs_0f7a4), (301, ph_X11_judge), (351, ph_X11_judge)]), fun _ => false)
abbrev pk_X11_testRest : List (Nat × List (Nat × Instr × Nat)) := [(0, [(0, .aload_n 0, 1), (1, .getfield 26, 3), (4, .getfield 127, 3), (7, .iconst 3, 1), (8, .if_icmp .ne 7, 3)]), (11, [(11, .iconst 1, 1), (12, .goto 4, 3)]), (15, [(15, .iconst 0, 1)]), (16, [(16, .istore_n 1, 1), (17, .aload_n 0, 1), (18, .bipush 12, 2), (20, .aload_n 0, 1), (21, .getfield 47, 3), (24, .getfield 804, 3), (27, .aload_n 0, 1), (28, .getfield 47, 3), (31, .getfield 807, 3), (34, .ifCond .eq 17, 3)]), (37, [(37, .aload_n 0, 1), (38, .getfield 47, 3), (41, .getfield 810, 3), (44, .ifCond .ne 7, 3)]), (47, [(47, .iconst 1, 1), (48, .goto 4, 3)]), (51, [(51, .iconst 0, 1)]), (52, [(52, .invokevirtual 657, 3), (55, .aload_n 0, 1), (56, .bipush 13, 2), (58, .aload_n 0, 1), (59, .getfield 47, 3), (62, .getfield 667, 3), (65, .aload_n 0, 1), (66, .getfield 47, 3), (69, .getfield 307, 3), (72, .ifCond .eq 17, 3)]), (75, [(75, .aload_n 0, 1), (76, .getfield 47, 3), (79, .getfield 813, 3), (82, .ifCond .ne 7, 3)]), (85, [(85, .iconst 1, 1), (86, .goto 4, 3)]), (89, [(89, .iconst 0, 1)]), (90, [(90, .invokevirtual 657, 3), (93, .aload_n 0, 1), (94, .bipush 14, 2), (96, .aload_n 0, 1), (97, .getfield 47, 3), (100, .getfield 622, 3), (103, .iconst 1, 1), (104, .invokevirtual 657, 3), (107, .aload_n 0, 1), (108, .bipush 15, 2), (110, .aload_n 0, 1), (111, .getfield 26, 3), (114, .getfield 816, 3), (117, .aload_n 0, 1), (118, .getfield 54, 3), (121, .getfield 819, 3), (124, .if_icmp .le 7, 3)]), (127, [(127, .iconst 1, 1), (128, .goto 4, 3)]), (131, [(131, .iconst 0, 1)]), (132, [(132, .iload_n 1, 1), (133, .invokevirtual 657, 3), (136, .aload_n 0, 1), (137, .getfield 26, 3), (140, .getfield 822, 3), (143, .iconst 3, 1), (144, .if_icmp .ge 20, 3)]), (147, [(147, .aload_n 0, 1), (148, .getfield 26, 3), (151, .getfield 825, 3), (154, .aload_n 0, 1), (155, .getfield 54, 3), (158, .getfield 828, 3), (161, .if_icmp .le 7, 3)]), (164, [(164, .iconst 1, 1), (165, .goto 4, 3)]), (168, [(168, .iconst 0, 1)]), (169, [(169, .istore_n 2, 1), (170, .aload_n 0, 1), (171, .bipush 16, 2), (173, .iload_n 2, 1), (174, .iload_n 1, 1), (175, .ifCond .eq 17, 3)]), (178, [(178, .aload_n 0, 1), (179, .getfield 26, 3), (182, .getfield 822, 3), (185, .ifCond .ne 7, 3)]), (188, [(188, .iconst 1, 1), (189, .goto 4, 3)]), (192, [(192, .iconst 0, 1)]), (193, [(193, .invokevirtual 657, 3), (196, .aload_n 0, 1), (197, .bipush 17, 2), (199, .aload_n 0, 1), (200, .getfield 47, 3), (203, .getfield 831, 3), (206, .sipush 1000, 3), (209, .if_icmp .lt 7, 3)]), (212, [(212, .iconst 1, 1), (213, .goto 4, 3)]), (216, [(216, .iconst 0, 1)]), (217, [(217, .aload_n 0, 1), (218, .getfield 47, 3), (221, .getfield 761, 3), (224, .ifCond .eq 17, 3)]), (227, [(227, .aload_n 0, 1), (228, .getfield 47, 3), (231, .getfield 831, 3), (234, .ifCond .ne 7, 3)]), (237, [(237, .iconst 1, 1), (238, .goto 4, 3)]), (241, [(241, .iconst 0, 1)]), (242, [(242, .invokevirtual 657, 3), (245, .aload_n 0, 1), (246, .getfield 47, 3), (249, .getfield 682, 3), (252, .aload_n 0, 1), (253, .getfield 47, 3), (256, .getfield 685, 3), (259, .aload_n 0, 1), (260, .invokevirtual 688, 3), (263, .iaload, 1), (264, .iadd, 1), (265, .istore_n 3, 1), (266, .aload_n 0, 1), (267, .bipush 18, 2), (269, .aload_n 0, 1), (270, .getfield 47, 3), (273, .getfield 761, 3), (276, .ifCond .eq 17, 3)]), (279, [(279, .iload_n 3, 1), (280, .invokestatic 834, 3), (283, .sipush 240, 3), (286, .if_icmp .lt 7, 3)]), (289, [(289, .iconst 1, 1), (290, .goto 4, 3)]), (293, [(293, .iconst 0, 1)]), (294, [(294, .aload_n 0, 1), (295, .getfield 47, 3), (298, .getfield 761, 3), (301, .invokevirtual 657, 3), (304, .aload_n 0, 1), (305, .bipush 19, 2), (307, .aload_n 0, 1), (308, .getfield 33, 3), (311, .getfield 837, 3), (314, .aload_n 0, 1), (315, .getfield 54, 3), (318, .getfield 840, 3), (321, .if_icmp .le 7, 3)]), (324, [(324, .iconst 1, 1), (325, .goto 4, 3)]), (328, [(328, .iconst 0, 1)]), (329, [(329, .aload_n 0, 1), (330, .getfield 33, 3), (333, .getfield 843, 3), (336, .aload_n 0, 1), (337, .getfield 54, 3), (340, .getfield 846, 3), (343, .if_icmp .le 7, 3)]), (346, [(346, .iconst 1, 1), (347, .goto 4, 3)]), (350, [(350, .iconst 0, 1)]), (351, [(351, .invokevirtual 657, 3), (354, .aload_n 0, 1), (355, .getfield 54, 3), (358, .aload_n 0, 1), (359, .getfield 26, 3), (362, .getfield 816, 3), (365, .putfield 819, 3), (368, .aload_n 0, 1), (369, .getfield 54, 3), (372, .aload_n 0, 1), (373, .getfield 26, 3), (376, .getfield 825, 3), (379, .putfield 828, 3), (382, .aload_n 0, 1), (383, .getfield 54, 3), (386, .aload_n 0, 1), (387, .getfield 33, 3), (390, .getfield 837, 3), (393, .putfield 840, 3), (396, .aload_n 0, 1), (397, .getfield 54, 3), (400, .aload_n 0, 1), (401, .getfield 33, 3), (404, .getfield 843, 3), (407, .putfield 846, 3), (410, .return_, 1)])]
set_option maxRecDepth 100000 in
theorem pq_X11_testRest_351  (b2 : Int32) (b3 : Int32) (s : Nat → Int32) (l : Nat → Int64) (x : Nat → Int32) (y : Nat → Int64) : pl_X11_testRest_351 b2 b3 s l x y = pj_bl px_X11_testRest (pj_rn px_X11_testRest (pj_as pk_X11_testRest) (fun _ => none) 60) [(351, .invokevirtual 657, 3), (354, .aload_n 0, 1), (355, .getfield 54, 3), (358, .aload_n 0, 1), (359, .getfield 26, 3), (362, .getfield 816, 3), (365, .putfield 819, 3), (368, .aload_n 0, 1), (369, .getfield 54, 3), (372, .aload_n 0, 1), (373, .getfield 26, 3), (376, .getfield 825, 3), (379, .putfield 828, 3), (382, .aload_n 0, 1), (383, .getfield 54, 3), (386, .aload_n 0, 1), (387, .getfield 33, 3), (390, .getfield 837, 3), (393, .putfield 840, 3), (396, .aload_n 0, 1), (397, .getfield 54, 3), (400, .aload_n 0, 1), (401, .getfield 33, 3), (404, .getfield 843, 3), (407, .putfield 846, 3), (410, .return_, 1)] 351 [(0, pj_O (0, 0))] [pj_I b3, pj_I b2, pj_N 19, pj_O (0, 0)] (s, l, x, y) := rfl
set_option maxRecDepth 100000 in
theorem pq_X11_testRest_329  (b2 : Int32) (s : Nat → Int32) (l : Nat → Int64) (x : Nat → Int32) (y : Nat → Int64) : pl_X11_testRest_329 b2 s l x y = pj_bl px_X11_testRest (pj_rn px_X11_testRest (pj_as pk_X11_testRest) (pj_as [(351, pe_X11_testRest_351 (pl_X11_testRest_351))]) 60) [(329, .aload_n 0, 1), (330, .getfield 33, 3), (333, .getfield 843, 3), (336, .aload_n 0, 1), (337, .getfield 54, 3), (340, .getfield 846, 3), (343, .if_icmp .le 7, 3)] 329 [(0, pj_O (0, 0))] [pj_I b2, pj_N 19, pj_O (0, 0)] (s, l, x, y) := rfl
set_option maxRecDepth 100000 in
theorem pq_X11_testRest_294  (b2 : Int32) (s : Nat → Int32) (l : Nat → Int64) (x : Nat → Int32) (y : Nat → Int64) : pl_X11_testRest_294 b2 s l x y = pj_bl px_X11_testRest (pj_rn px_X11_testRest (pj_as pk_X11_testRest) (pj_as [(329, pe_X11_testRest_329 (pl_X11_testRest_329))]) 60) [(294, .aload_n 0, 1), (295, .getfield 47, 3), (298, .getfield 761, 3), (301, .invokevirtual 657, 3), (304, .aload_n 0, 1), (305, .bipush 19, 2), (307, .aload_n 0, 1), (308, .getfield 33, 3), (311, .getfield 837, 3), (314, .aload_n 0, 1), (315, .getfield 54, 3), (318, .getfield 840, 3), (321, .if_icmp .le 7, 3)] 294 [(0, pj_O (0, 0))] [pj_I b2, pj_N 18, pj_O (0, 0)] (s, l, x, y) := rfl
set_option maxRecDepth 100000 in
theorem pq_X11_testRest_293   (s : Nat → Int32) (l : Nat → Int64) (x : Nat → Int32) (y : Nat → Int64) : pl_X11_testRest_293 s l x y = pj_bl px_X11_testRest (pj_rn px_X11_testRest (pj_as pk_X11_testRest) (pj_as [(294, pe_X11_testRest_294 (pl_X11_testRest_294))]) 60) [(293, .iconst 0, 1)] 293 [(0, pj_O (0, 0))] [pj_N 18, pj_O (0, 0)] (s, l, x, y) := rfl
set_option maxRecDepth 100000 in
theorem pq_X11_testRest_242  (b2 : Int32) (b3 : Int32) (s : Nat → Int32) (l : Nat → Int64) (x : Nat → Int32) (y : Nat → Int64) : pl_X11_testRest_242 b2 b3 s l x y = pj_bl px_X11_testRest (pj_rn px_X11_testRest (pj_as pk_X11_testRest) (pj_as [(293, pe_X11_testRest_293 (pl_X11_testRest_293)), (294, pe_X11_testRest_294 (pl_X11_testRest_294))]) 60) [(242, .invokevirtual 657, 3), (245, .aload_n 0, 1), (246, .getfield 47, 3), (249, .getfield 682, 3), (252, .aload_n 0, 1), (253, .getfield 47, 3), (256, .getfield 685, 3), (259, .aload_n 0, 1), (260, .invokevirtual 688, 3), (263, .iaload, 1), (264, .iadd, 1), (265, .istore_n 3, 1), (266, .aload_n 0, 1), (267, .bipush 18, 2), (269, .aload_n 0, 1), (270, .getfield 47, 3), (273, .getfield 761, 3), (276, .ifCond .eq 17, 3)] 242 [(0, pj_O (0, 0))] [pj_I b3, pj_I b2, pj_N 17, pj_O (0, 0)] (s, l, x, y) := rfl
set_option maxRecDepth 100000 in
theorem pq_X11_testRest_241  (b2 : Int32) (s : Nat → Int32) (l : Nat → Int64) (x : Nat → Int32) (y : Nat → Int64) : pl_X11_testRest_241 b2 s l x y = pj_bl px_X11_testRest (pj_rn px_X11_testRest (pj_as pk_X11_testRest) (pj_as [(242, pe_X11_testRest_242 (pl_X11_testRest_242))]) 60) [(241, .iconst 0, 1)] 241 [(0, pj_O (0, 0))] [pj_I b2, pj_N 17, pj_O (0, 0)] (s, l, x, y) := rfl
set_option maxRecDepth 100000 in
theorem pq_X11_testRest_217  (b2 : Int32) (s : Nat → Int32) (l : Nat → Int64) (x : Nat → Int32) (y : Nat → Int64) : pl_X11_testRest_217 b2 s l x y = pj_bl px_X11_testRest (pj_rn px_X11_testRest (pj_as pk_X11_testRest) (pj_as [(241, pe_X11_testRest_241 (pl_X11_testRest_241)), (242, pe_X11_testRest_242 (pl_X11_testRest_242))]) 60) [(217, .aload_n 0, 1), (218, .getfield 47, 3), (221, .getfield 761, 3), (224, .ifCond .eq 17, 3)] 217 [(0, pj_O (0, 0))] [pj_I b2, pj_N 17, pj_O (0, 0)] (s, l, x, y) := rfl
set_option maxRecDepth 100000 in
theorem pq_X11_testRest_193  (b2 : Int32) (b3 : Int32) (s : Nat → Int32) (l : Nat → Int64) (x : Nat → Int32) (y : Nat → Int64) : pl_X11_testRest_193 b2 b3 s l x y = pj_bl px_X11_testRest (pj_rn px_X11_testRest (pj_as pk_X11_testRest) (pj_as [(217, pe_X11_testRest_217 (pl_X11_testRest_217))]) 60) [(193, .invokevirtual 657, 3), (196, .aload_n 0, 1), (197, .bipush 17, 2), (199, .aload_n 0, 1), (200, .getfield 47, 3), (203, .getfield 831, 3), (206, .sipush 1000, 3), (209, .if_icmp .lt 7, 3)] 193 [(0, pj_O (0, 0))] [pj_I b3, pj_I b2, pj_N 16, pj_O (0, 0)] (s, l, x, y) := rfl
set_option maxRecDepth 100000 in
theorem pq_X11_testRest_192  (b2 : Int32) (s : Nat → Int32) (l : Nat → Int64) (x : Nat → Int32) (y : Nat → Int64) : pl_X11_testRest_192 b2 s l x y = pj_bl px_X11_testRest (pj_rn px_X11_testRest (pj_as pk_X11_testRest) (pj_as [(193, pe_X11_testRest_193 (pl_X11_testRest_193))]) 60) [(192, .iconst 0, 1)] 192 [(0, pj_O (0, 0))] [pj_I b2, pj_N 16, pj_O (0, 0)] (s, l, x, y) := rfl
set_option maxRecDepth 100000 in
theorem pq_X11_testRest_169  (a1 : Int32) (b0 : Int32) (s : Nat → Int32) (l : Nat → Int64) (x : Nat → Int32) (y : Nat → Int64) : pl_X11_testRest_169 a1 b0 s l x y = pj_bl px_X11_testRest (pj_rn px_X11_testRest (pj_as pk_X11_testRest) (pj_as [(192, pe_X11_testRest_192 (pl_X11_testRest_192)), (193, pe_X11_testRest_193 (pl_X11_testRest_193))]) 60) [(169, .istore_n 2, 1), (170, .aload_n 0, 1), (171, .bipush 16, 2), (173, .iload_n 2, 1), (174, .iload_n 1, 1), (175, .ifCond .eq 17, 3)] 169 [(0, pj_O (0, 0)), (1, pj_I a1)] [pj_I b0] (s, l, x, y) := rfl
set_option maxRecDepth 100000 in
theorem pq_X11_testRest_164  (a1 : Int32) (s : Nat → Int32) (l : Nat → Int64) (x : Nat → Int32) (y : Nat → Int64) : pl_X11_testRest_164 a1 s l x y = pj_bl px_X11_testRest (pj_rn px_X11_testRest (pj_as pk_X11_testRest) (pj_as [(169, pe_X11_testRest_169 (pl_X11_testRest_169))]) 60) [(164, .iconst 1, 1), (165, .goto 4, 3)] 164 [(0, pj_O (0, 0)), (1, pj_I a1)] [] (s, l, x, y) := rfl
set_option maxRecDepth 100000 in
theorem pq_X11_testRest_132  (a1 : Int32) (b2 : Int32) (s : Nat → Int32) (l : Nat → Int64) (x : Nat → Int32) (y : Nat → Int64) : pl_X11_testRest_132 a1 b2 s l x y = pj_bl px_X11_testRest (pj_rn px_X11_testRest (pj_as pk_X11_testRest) (pj_as [(164, pe_X11_testRest_164 (pl_X11_testRest_164)), (169, pe_X11_testRest_169 (pl_X11_testRest_169))]) 60) [(132, .iload_n 1, 1), (133, .invokevirtual 657, 3), (136, .aload_n 0, 1), (137, .getfield 26, 3), (140, .getfield 822, 3), (143, .iconst 3, 1), (144, .if_icmp .ge 20, 3)] 132 [(0, pj_O (0, 0)), (1, pj_I a1)] [pj_I b2, pj_N 15, pj_O (0, 0)] (s, l, x, y) := rfl
set_option maxRecDepth 100000 in
theorem pq_X11_testRest_90  (a1 : Int32) (b2 : Int32) (b3 : Int32) (s : Nat → Int32) (l : Nat → Int64) (x : Nat → Int32) (y : Nat → Int64) : pl_X11_testRest_90 a1 b2 b3 s l x y = pj_bl px_X11_testRest (pj_rn px_X11_testRest (pj_as pk_X11_testRest) (pj_as [(132, pe_X11_testRest_132 (pl_X11_testRest_132))]) 60) [(90, .invokevirtual 657, 3), (93, .aload_n 0, 1), (94, .bipush 14, 2), (96, .aload_n 0, 1), (97, .getfield 47, 3), (100, .getfield 622, 3), (103, .iconst 1, 1), (104, .invokevirtual 657, 3), (107, .aload_n 0, 1), (108, .bipush 15, 2), (110, .aload_n 0, 1), (111, .getfield 26, 3), (114, .getfield 816, 3), (117, .aload_n 0, 1), (118, .getfield 54, 3), (121, .getfield 819, 3), (124, .if_icmp .le 7, 3)] 90 [(0, pj_O (0, 0)), (1, pj_I a1)] [pj_I b3, pj_I b2, pj_N 13, pj_O (0, 0)] (s, l, x, y) := rfl
set_option maxRecDepth 100000 in
theorem pq_X11_testRest_89  (a1 : Int32) (b2 : Int32) (s : Nat → Int32) (l : Nat → Int64) (x : Nat → Int32) (y : Nat → Int64) : pl_X11_testRest_89 a1 b2 s l x y = pj_bl px_X11_testRest (pj_rn px_X11_testRest (pj_as pk_X11_testRest) (pj_as [(90, pe_X11_testRest_90 (pl_X11_testRest_90))]) 60) [(89, .iconst 0, 1)] 89 [(0, pj_O (0, 0)), (1, pj_I a1)] [pj_I b2, pj_N 13, pj_O (0, 0)] (s, l, x, y) := rfl
set_option maxRecDepth 100000 in
theorem pq_X11_testRest_52  (a1 : Int32) (b2 : Int32) (b3 : Int32) (s : Nat → Int32) (l : Nat → Int64) (x : Nat → Int32) (y : Nat → Int64) : pl_X11_testRest_52 a1 b2 b3 s l x y = pj_bl px_X11_testRest (pj_rn px_X11_testRest (pj_as pk_X11_testRest) (pj_as [(89, pe_X11_testRest_89 (pl_X11_testRest_89)), (90, pe_X11_testRest_90 (pl_X11_testRest_90))]) 60) [(52, .invokevirtual 657, 3), (55, .aload_n 0, 1), (56, .bipush 13, 2), (58, .aload_n 0, 1), (59, .getfield 47, 3), (62, .getfield 667, 3), (65, .aload_n 0, 1), (66, .getfield 47, 3), (69, .getfield 307, 3), (72, .ifCond .eq 17, 3)] 52 [(0, pj_O (0, 0)), (1, pj_I a1)] [pj_I b3, pj_I b2, pj_N 12, pj_O (0, 0)] (s, l, x, y) := rfl
set_option maxRecDepth 100000 in
theorem pq_X11_testRest_51  (a1 : Int32) (b2 : Int32) (s : Nat → Int32) (l : Nat → Int64) (x : Nat → Int32) (y : Nat → Int64) : pl_X11_testRest_51 a1 b2 s l x y = pj_bl px_X11_testRest (pj_rn px_X11_testRest (pj_as pk_X11_testRest) (pj_as [(52, pe_X11_testRest_52 (pl_X11_testRest_52))]) 60) [(51, .iconst 0, 1)] 51 [(0, pj_O (0, 0)), (1, pj_I a1)] [pj_I b2, pj_N 12, pj_O (0, 0)] (s, l, x, y) := rfl
set_option maxRecDepth 100000 in
theorem pq_X11_testRest_16  (b0 : Int32) (s : Nat → Int32) (l : Nat → Int64) (x : Nat → Int32) (y : Nat → Int64) : pl_X11_testRest_16 b0 s l x y = pj_bl px_X11_testRest (pj_rn px_X11_testRest (pj_as pk_X11_testRest) (pj_as [(51, pe_X11_testRest_51 (pl_X11_testRest_51)), (52, pe_X11_testRest_52 (pl_X11_testRest_52))]) 60) [(16, .istore_n 1, 1), (17, .aload_n 0, 1), (18, .bipush 12, 2), (20, .aload_n 0, 1), (21, .getfield 47, 3), (24, .getfield 804, 3), (27, .aload_n 0, 1), (28, .getfield 47, 3), (31, .getfield 807, 3), (34, .ifCond .eq 17, 3)] 16 [(0, pj_O (0, 0))] [pj_I b0] (s, l, x, y) := rfl
set_option maxRecDepth 100000 in
theorem pq_X11_testRest_m   (s : Nat → Int32) (l : Nat → Int64) (x : Nat → Int32) (y : Nat → Int64) : pf_X11_testRest  s l x y = pj_bl px_X11_testRest (pj_rn px_X11_testRest (pj_as pk_X11_testRest) (pj_as [(16, pe_X11_testRest_16 (pl_X11_testRest_16))]) 60) [(0, .aload_n 0, 1), (1, .getfield 26, 3), (4, .getfield 127, 3), (7, .iconst 3, 1), (8, .if_icmp .ne 7, 3)] 0 [(0, pj_O (0, 0))] [] (s, l, x, y) := rfl
theorem pu_X11_testRest_16 {lf : pj_Z → mj_M} {a : Unit × pj_Z} (f : Int32 → pj_F (Unit × pj_Z)) (hf : ∀ (b0 : Int32) (s : Nat → Int32) (l : Nat → Int64) (x : Nat → Int32) (y : Nat → Int64), f b0 s l x y = some a → pm_Gd 3 11078 ie_X11_testRest.1 pm_rU lf 16 [(0, .ref 0)] [.int b0] (s, l, x, y) a) : pm_Ex 3 11078 ie_X11_testRest.1 pm_rU lf a 16 (pe_X11_testRest_16 f) := by
  intro lv st z hd h
  obtain ⟨g0, h⟩ := pj_xr_inv h
  obtain ⟨b0, r0, e0, h⟩ := pj_pi_inv h
  obtain ⟨e9, h⟩ := pj_pe_inv h
  rw [e0, e9]
  exact mj_wp_sub (mj_sub_cons g0 (mj_sub_nil hd)) (hf _ _ _ _ _ h)
theorem pu_X11_testRest_51 {lf : pj_Z → mj_M} {a : Unit × pj_Z} (f : Int32 → Int32 → pj_F (Unit × pj_Z)) (hf : ∀ (a1 : Int32) (b2 : Int32) (s : Nat → Int32) (l : Nat → Int64) (x : Nat → Int32) (y : Nat → Int64), f a1 b2 s l x y = some a → pm_Gd 3 11078 ie_X11_testRest.1 pm_rU lf 51 [(0, .ref 0), (1, .int a1)] [.int b2, .int (Int32.ofInt 12), .ref 0] (s, l, x, y) a) : pm_Ex 3 11078 ie_X11_testRest.1 pm_rU lf a 51 (pe_X11_testRest_51 f) := by
  intro lv st z hd h
  obtain ⟨g0, h⟩ := pj_xr_inv h
  obtain ⟨a1, g1, h⟩ := pj_xi_inv h
  obtain ⟨b2, r2, e2, h⟩ := pj_pi_inv h
  obtain ⟨r1, e1, h⟩ := pj_pc_inv h
  obtain ⟨r0, e0, h⟩ := pj_pr_inv h
  obtain ⟨e9, h⟩ := pj_pe_inv h
  rw [e2, e1, e0, e9]
  exact mj_wp_sub (mj_sub_cons g0 (mj_sub_cons g1 (mj_sub_nil hd))) (hf _ _ _ _ _ _ h)
theorem pu_X11_testRest_52 {lf : pj_Z → mj_M} {a : Unit × pj_Z} (f : Int32 → Int32 → Int32 → pj_F (Unit × pj_Z)) (hf : ∀ (a1 : Int32) (b2 : Int32) (b3 : Int32) (s : Nat → Int32) (l : Nat → Int64) (x : Nat → Int32) (y : Nat → Int64), f a1 b2 b3 s l x y = some a → pm_Gd 3 11078 ie_X11_testRest.1 pm_rU lf 52 [(0, .ref 0), (1, .int a1)] [.int b3, .int b2, .int (Int32.ofInt 12), .ref 0] (s, l, x, y) a) : pm_Ex 3 11078 ie_X11_testRest.1 pm_rU lf a 52 (pe_X11_testRest_52 f) := by
  intro lv st z hd h
  obtain ⟨g0, h⟩ := pj_xr_inv h
  obtain ⟨a1, g1, h⟩ := pj_xi_inv h
  obtain ⟨b3, r3, e3, h⟩ := pj_pi_inv h
  obtain ⟨b2, r2, e2, h⟩ := pj_pi_inv h
  obtain ⟨r1, e1, h⟩ := pj_pc_inv h
  obtain ⟨r0, e0, h⟩ := pj_pr_inv h
  obtain ⟨e9, h⟩ := pj_pe_inv h
  rw [e3, e2, e1, e0, e9]
  exact mj_wp_sub (mj_sub_cons g0 (mj_sub_cons g1 (mj_sub_nil hd))) (hf _ _ _ _ _ _ _ h)
theorem pu_X11_testRest_89 {lf : pj_Z → mj_M} {a : Unit × pj_Z} (f : Int32 → Int32 → pj_F (Unit × pj_Z)) (hf : ∀ (a1 : Int32) (b2 : Int32) (s : Nat → Int32) (l : Nat → Int64) (x : Nat → Int32) (y : Nat → Int64), f a1 b2 s l x y = some a → pm_Gd 3 11078 ie_X11_testRest.1 pm_rU lf 89 [(0, .ref 0), (1, .int a1)] [.int b2, .int (Int32.ofInt 13), .ref 0] (s, l, x, y) a) : pm_Ex 3 11078 ie_X11_testRest.1 pm_rU lf a 89 (pe_X11_testRest_89 f) := by
  intro lv st z hd h
  obtain ⟨g0, h⟩ := pj_xr_inv h
  obtain ⟨a1, g1, h⟩ := pj_xi_inv h
  obtain ⟨b2, r2, e2, h⟩ := pj_pi_inv h
  obtain ⟨r1, e1, h⟩ := pj_pc_inv h
  obtain ⟨r0, e0, h⟩ := pj_pr_inv h
  obtain ⟨e9, h⟩ := pj_pe_inv h
  rw [e2, e1, e0, e9]
  exact mj_wp_sub (mj_sub_cons g0 (mj_sub_cons g1 (mj_sub_nil hd))) (hf _ _ _ _ _ _ h)
theorem pu_X11_testRest_90 {lf : pj_Z → mj_M} {a : Unit × pj_Z} (f : Int32 → Int32 → Int32 → pj_F (Unit × pj_Z)) (hf : ∀ (a1 : Int32) (b2 : Int32) (b3 : Int32) (s : Nat → Int32) (l : Nat → Int64) (x : Nat → Int32) (y : Nat → Int64), f a1 b2 b3 s l x y = some a → pm_Gd 3 11078 ie_X11_testRest.1 pm_rU lf 90 [(0, .ref 0), (1, .int a1)] [.int b3, .int b2, .int (Int32.ofInt 13), .ref 0] (s, l, x, y) a) : pm_Ex 3 11078 ie_X11_testRest.1 pm_rU lf a 90 (pe_X11_testRest_90 f) := by
  intro lv st z hd h
  obtain ⟨g0, h⟩ := pj_xr_inv h
  obtain ⟨a1, g1, h⟩ := pj_xi_inv h
  obtain ⟨b3, r3, e3, h⟩ := pj_pi_inv h
  obtain ⟨b2, r2, e2, h⟩ := pj_pi_inv h
  obtain ⟨r1, e1, h⟩ := pj_pc_inv h
  obtain ⟨r0, e0, h⟩ := pj_pr_inv h
  obtain ⟨e9, h⟩ := pj_pe_inv h
  rw [e3, e2, e1, e0, e9]
  exact mj_wp_sub (mj_sub_cons g0 (mj_sub_cons g1 (mj_sub_nil hd))) (hf _ _ _ _ _ _ _ h)
theorem pu_X11_testRest_132 {lf : pj_Z → mj_M} {a : Unit × pj_Z} (f : Int32 → Int32 → pj_F (Unit × pj_Z)) (hf : ∀ (a1 : Int32) (b2 : Int32) (s : Nat → Int32) (l : Nat → Int64) (x : Nat → Int32) (y : Nat → Int64), f a1 b2 s l x y = some a → pm_Gd 3 11078 ie_X11_testRest.1 pm_rU lf 132 [(0, .ref 0), (1, .int a1)] [.int b2, .int (Int32.ofInt 15), .ref 0] (s, l, x, y) a) : pm_Ex 3 11078 ie_X11_testRest.1 pm_rU lf a 132 (pe_X11_testRest_132 f) := by
  intro lv st z hd h
  obtain ⟨g0, h⟩ := pj_xr_inv h
  obtain ⟨a1, g1, h⟩ := pj_xi_inv h
  obtain ⟨b2, r2, e2, h⟩ := pj_pi_inv h
  obtain ⟨r1, e1, h⟩ := pj_pc_inv h
  obtain ⟨r0, e0, h⟩ := pj_pr_inv h
  obtain ⟨e9, h⟩ := pj_pe_inv h
  rw [e2, e1, e0, e9]
  exact mj_wp_sub (mj_sub_cons g0 (mj_sub_cons g1 (mj_sub_nil hd))) (hf _ _ _ _ _ _ h)
theorem pu_X11_testRest_164 {lf : pj_Z → mj_M} {a : Unit × pj_Z} (f : Int32 → pj_F (Unit × pj_Z)) (hf : ∀ (a1 : Int32) (s : Nat → Int32) (l : Nat → Int64) (x : Nat → Int32) (y : Nat → Int64), f a1 s l x y = some a → pm_Gd 3 11078 ie_X11_testRest.1 pm_rU lf 164 [(0, .ref 0), (1, .int a1)] [] (s, l, x, y) a) : pm_Ex 3 11078 ie_X11_testRest.1 pm_rU lf a 164 (pe_X11_testRest_164 f) := by
  intro lv st z hd h
  obtain ⟨g0, h⟩ := pj_xr_inv h
  obtain ⟨a1, g1, h⟩ := pj_xi_inv h
  obtain ⟨e9, h⟩ := pj_pe_inv h
  rw [e9]
  exact mj_wp_sub (mj_sub_cons g0 (mj_sub_cons g1 (mj_sub_nil hd))) (hf _ _ _ _ _ h)
theorem pu_X11_testRest_169 {lf : pj_Z → mj_M} {a : Unit × pj_Z} (f : Int32 → Int32 → pj_F (Unit × pj_Z)) (hf : ∀ (a1 : Int32) (b0 : Int32) (s : Nat → Int32) (l : Nat → Int64) (x : Nat → Int32) (y : Nat → Int64), f a1 b0 s l x y = some a → pm_Gd 3 11078 ie_X11_testRest.1 pm_rU lf 169 [(0, .ref 0), (1, .int a1)] [.int b0] (s, l, x, y) a) : pm_Ex 3 11078 ie_X11_testRest.1 pm_rU lf a 169 (pe_X11_testRest_169 f) := by
  intro lv st z hd h
  obtain ⟨g0, h⟩ := pj_xr_inv h
  obtain ⟨a1, g1, h⟩ := pj_xi_inv h
  obtain ⟨b0, r0, e0, h⟩ := pj_pi_inv h
  obtain ⟨e9, h⟩ := pj_pe_inv h
  rw [e0, e9]
  exact mj_wp_sub (mj_sub_cons g0 (mj_sub_cons g1 (mj_sub_nil hd))) (hf _ _ _ _ _ _ h)
theorem pu_X11_testRest_192 {lf : pj_Z → mj_M} {a : Unit × pj_Z} (f : Int32 → pj_F (Unit × pj_Z)) (hf : ∀ (b2 : Int32) (s : Nat → Int32) (l : Nat → Int64) (x : Nat → Int32) (y : Nat → Int64), f b2 s l x y = some a → pm_Gd 3 11078 ie_X11_testRest.1 pm_rU lf 192 [(0, .ref 0)] [.int b2, .int (Int32.ofInt 16), .ref 0] (s, l, x, y) a) : pm_Ex 3 11078 ie_X11_testRest.1 pm_rU lf a 192 (pe_X11_testRest_192 f) := by
  intro lv st z hd h
  obtain ⟨g0, h⟩ := pj_xr_inv h
  obtain ⟨b2, r2, e2, h⟩ := pj_pi_inv h
  obtain ⟨r1, e1, h⟩ := pj_pc_inv h
  obtain ⟨r0, e0, h⟩ := pj_pr_inv h
  obtain ⟨e9, h⟩ := pj_pe_inv h
  rw [e2, e1, e0, e9]
  exact mj_wp_sub (mj_sub_cons g0 (mj_sub_nil hd)) (hf _ _ _ _ _ h)
theorem pu_X11_testRest_193 {lf : pj_Z → mj_M} {a : Unit × pj_Z} (f : Int32 → Int32 → pj_F (Unit × pj_Z)) (hf : ∀ (b2 : Int32) (b3 : Int32) (s : Nat → Int32) (l : Nat → Int64) (x : Nat → Int32) (y : Nat → Int64), f b2 b3 s l x y = some a → pm_Gd 3 11078 ie_X11_testRest.1 pm_rU lf 193 [(0, .ref 0)] [.int b3, .int b2, .int (Int32.ofInt 16), .ref 0] (s, l, x, y) a) : pm_Ex 3 11078 ie_X11_testRest.1 pm_rU lf a 193 (pe_X11_testRest_193 f) := by
  intro lv st z hd h
  obtain ⟨g0, h⟩ := pj_xr_inv h
  obtain ⟨b3, r3, e3, h⟩ := pj_pi_inv h
  obtain ⟨b2, r2, e2, h⟩ := pj_pi_inv h
  obtain ⟨r1, e1, h⟩ := pj_pc_inv h
  obtain ⟨r0, e0, h⟩ := pj_pr_inv h
  obtain ⟨e9, h⟩ := pj_pe_inv h
  rw [e3, e2, e1, e0, e9]
  exact mj_wp_sub (mj_sub_cons g0 (mj_sub_nil hd)) (hf _ _ _ _ _ _ h)
theorem pu_X11_testRest_217 {lf : pj_Z → mj_M} {a : Unit × pj_Z} (f : Int32 → pj_F (Unit × pj_Z)) (hf : ∀ (b2 : Int32) (s : Nat → Int32) (l : Nat → Int64) (x : Nat → Int32) (y : Nat → Int64), f b2 s l x y = some a → pm_Gd 3 11078 ie_X11_testRest.1 pm_rU lf 217 [(0, .ref 0)] [.int b2, .int (Int32.ofInt 17), .ref 0] (s, l, x, y) a) : pm_Ex 3 11078 ie_X11_testRest.1 pm_rU lf a 217 (pe_X11_testRest_217 f) := by
  intro lv st z hd h
  obtain ⟨g0, h⟩ := pj_xr_inv h
  obtain ⟨b2, r2, e2, h⟩ := pj_pi_inv h
  obtain ⟨r1, e1, h⟩ := pj_pc_inv h
  obtain ⟨r0, e0, h⟩ := pj_pr_inv h
  obtain ⟨e9, h⟩ := pj_pe_inv h
  rw [e2, e1, e0, e9]
  exact mj_wp_sub (mj_sub_cons g0 (mj_sub_nil hd)) (hf _ _ _ _ _ h)
theorem pu_X11_testRest_241 {lf : pj_Z → mj_M} {a : Unit × pj_Z} (f : Int32 → pj_F (Unit × pj_Z)) (hf : ∀ (b2 : Int32) (s : Nat → Int32) (l : Nat → Int64) (x : Nat → Int32) (y : Nat → Int64), f b2 s l x y = some a → pm_Gd 3 11078 ie_X11_testRest.1 pm_rU lf 241 [(0, .ref 0)] [.int b2, .int (Int32.ofInt 17), .ref 0] (s, l, x, y) a) : pm_Ex 3 11078 ie_X11_testRest.1 pm_rU lf a 241 (pe_X11_testRest_241 f) := by
  intro lv st z hd h
  obtain ⟨g0, h⟩ := pj_xr_inv h
  obtain ⟨b2, r2, e2, h⟩ := pj_pi_inv h
  obtain ⟨r1, e1, h⟩ := pj_pc_inv h
  obtain ⟨r0, e0, h⟩ := pj_pr_inv h
  obtain ⟨e9, h⟩ := pj_pe_inv h
  rw [e2, e1, e0, e9]
  exact mj_wp_sub (mj_sub_cons g0 (mj_sub_nil hd)) (hf _ _ _ _ _ h)
theorem pu_X11_testRest_242 {lf : pj_Z → mj_M} {a : Unit × pj_Z} (f : Int32 → Int32 → pj_F (Unit × pj_Z)) (hf : ∀ (b2 : Int32) (b3 : Int32) (s : Nat → Int32) (l : Nat → Int64) (x : Nat → Int32) (y : Nat → Int64), f b2 b3 s l x y = some a → pm_Gd 3 11078 ie_X11_testRest.1 pm_rU lf 242 [(0, .ref 0)] [.int b3, .int b2, .int (Int32.ofInt 17), .ref 0] (s, l, x, y) a) : pm_Ex 3 11078 ie_X11_testRest.1 pm_rU lf a 242 (pe_X11_testRest_242 f) := by
  intro lv st z hd h
  obtain ⟨g0, h⟩ := pj_xr_inv h
  obtain ⟨b3, r3, e3, h⟩ := pj_pi_inv h
  obtain ⟨b2, r2, e2, h⟩ := pj_pi_inv h
  obtain ⟨r1, e1, h⟩ := pj_pc_inv h
  obtain ⟨r0, e0, h⟩ := pj_pr_inv h
  obtain ⟨e9, h⟩ := pj_pe_inv h
  rw [e3, e2, e1, e0, e9]
  exact mj_wp_sub (mj_sub_cons g0 (mj_sub_nil hd)) (hf _ _ _ _ _ _ h)
theorem pu_X11_testRest_293 {lf : pj_Z → mj_M} {a : Unit × pj_Z} (f : pj_F (Unit × pj_Z)) (hf : ∀  (s : Nat → Int32) (l : Nat → Int64) (x : Nat → Int32) (y : Nat → Int64), f  s l x y = some a → pm_Gd 3 11078 ie_X11_testRest.1 pm_rU lf 293 [(0, .ref 0)] [.int (Int32.ofInt 18), .ref 0] (s, l, x, y) a) : pm_Ex 3 11078 ie_X11_testRest.1 pm_rU lf a 293 (pe_X11_testRest_293 f) := by
  intro lv st z hd h
  obtain ⟨g0, h⟩ := pj_xr_inv h
  obtain ⟨r1, e1, h⟩ := pj_pc_inv h
  obtain ⟨r0, e0, h⟩ := pj_pr_inv h
  obtain ⟨e9, h⟩ := pj_pe_inv h
  rw [e1, e0, e9]
  exact mj_wp_sub (mj_sub_cons g0 (mj_sub_nil hd)) (hf  _ _ _ _ h)
theorem pu_X11_testRest_294 {lf : pj_Z → mj_M} {a : Unit × pj_Z} (f : Int32 → pj_F (Unit × pj_Z)) (hf : ∀ (b2 : Int32) (s : Nat → Int32) (l : Nat → Int64) (x : Nat → Int32) (y : Nat → Int64), f b2 s l x y = some a → pm_Gd 3 11078 ie_X11_testRest.1 pm_rU lf 294 [(0, .ref 0)] [.int b2, .int (Int32.ofInt 18), .ref 0] (s, l, x, y) a) : pm_Ex 3 11078 ie_X11_testRest.1 pm_rU lf a 294 (pe_X11_testRest_294 f) := by
  intro lv st z hd h
  obtain ⟨g0, h⟩ := pj_xr_inv h
  obtain ⟨b2, r2, e2, h⟩ := pj_pi_inv h
  obtain ⟨r1, e1, h⟩ := pj_pc_inv h
  obtain ⟨r0, e0, h⟩ := pj_pr_inv h
  obtain ⟨e9, h⟩ := pj_pe_inv h
  rw [e2, e1, e0, e9]
  exact mj_wp_sub (mj_sub_cons g0 (mj_sub_nil hd)) (hf _ _ _ _ _ h)
theorem pu_X11_testRest_329 {lf : pj_Z → mj_M} {a : Unit × pj_Z} (f : Int32 → pj_F (Unit × pj_Z)) (hf : ∀ (b2 : Int32) (s : Nat → Int32) (l : Nat → Int64) (x : Nat → Int32) (y : Nat → Int64), f b2 s l x y = some a → pm_Gd 3 11078 ie_X11_testRest.1 pm_rU lf 329 [(0, .ref 0)] [.int b2, .int (Int32.ofInt 19), .ref 0] (s, l, x, y) a) : pm_Ex 3 11078 ie_X11_testRest.1 pm_rU lf a 329 (pe_X11_testRest_329 f) := by
  intro lv st z hd h
  obtain ⟨g0, h⟩ := pj_xr_inv h
  obtain ⟨b2, r2, e2, h⟩ := pj_pi_inv h
  obtain ⟨r1, e1, h⟩ := pj_pc_inv h
  obtain ⟨r0, e0, h⟩ := pj_pr_inv h
  obtain ⟨e9, h⟩ := pj_pe_inv h
  rw [e2, e1, e0, e9]
  exact mj_wp_sub (mj_sub_cons g0 (mj_sub_nil hd)) (hf _ _ _ _ _ h)
theorem pu_X11_testRest_351 {lf : pj_Z → mj_M} {a : Unit × pj_Z} (f : Int32 → Int32 → pj_F (Unit × pj_Z)) (hf : ∀ (b2 : Int32) (b3 : Int32) (s : Nat → Int32) (l : Nat → Int64) (x : Nat → Int32) (y : Nat → Int64), f b2 b3 s l x y = some a → pm_Gd 3 11078 ie_X11_testRest.1 pm_rU lf 351 [(0, .ref 0)] [.int b3, .int b2, .int (Int32.ofInt 19), .ref 0] (s, l, x, y) a) : pm_Ex 3 11078 ie_X11_testRest.1 pm_rU lf a 351 (pe_X11_testRest_351 f) := by
  intro lv st z hd h
  obtain ⟨g0, h⟩ := pj_xr_inv h
  obtain ⟨b3, r3, e3, h⟩ := pj_pi_inv h
  obtain ⟨b2, r2, e2, h⟩ := pj_pi_inv h
  obtain ⟨r1, e1, h⟩ := pj_pc_inv h
  obtain ⟨r0, e0, h⟩ := pj_pr_inv h
  obtain ⟨e9, h⟩ := pj_pe_inv h
  rw [e3, e2, e1, e0, e9]
  exact mj_wp_sub (mj_sub_cons g0 (mj_sub_nil hd)) (hf _ _ _ _ _ _ h)
set_option maxRecDepth 100000 in
theorem pz_X11_testRest {lf : pj_Z → mj_M} (hT : pj_Lt pj_TC lf) : pj_Cok ic_P (mj_R ic_P 3) 11078 ie_X11_testRest.1 (pm_OK lf pm_rU) lf px_X11_testRest := by
  exact pm_cok (c := px_X11_testRest) (pm_part hT (pj_as_all (p := fun b e => pj_TC b = some e) (List.forall_mem_cons.mpr ⟨rfl, (List.forall_mem_cons.mpr ⟨rfl, (List.forall_mem_cons.mpr ⟨rfl, (List.forall_mem_cons.mpr ⟨rfl, (List.forall_mem_cons.mpr ⟨rfl, (List.forall_mem_cons.mpr ⟨rfl, (fun _ h => by cases h)⟩)⟩)⟩)⟩)⟩)⟩))) (pm_in_ok (L := [(26, 11, 2, 2, true), (33, 11, 3, 2, true), (47, 11, 5, 2, true), (54, 11, 6, 2, true), (127, 2, 0, 0, false), (307, 3, 4, 3, false), (622, 3, 10, 3, false), (667, 3, 9, 3, false), (682, 3, 18, 0, false), (685, 3, 19, 2, true), (761, 3, 13, 3, false), (804, 3, 3, 3, false), (807, 3, 2, 3, false), (810, 3, 1, 0, false), (813, 3, 8, 0, false), (816, 2, 6, 0, false), (819, 10, 4, 0, false), (822, 2, 7, 0, false), (825, 2, 8, 0, false), (828, 10, 5, 0, false), (831, 3, 16, 0, false), (837, 6, 14, 0, false), (840, 10, 6, 0, false), (843, 6, 13, 0, false), (846, 10, 7, 0, false)]) (f := mj_pF ic_P 11078) (by decide +kernel)) (fun _ _ h => by cases h) (fun _ _ h => by cases h) (fun _ _ h => by cases h) rfl rfl ⟨by decide, rfl⟩ pm_mU (pj_as_all (p := pm_Cl 3 11078 ie_X11_testRest.1 lf (pm_OK lf pm_rU)) (List.forall_mem_cons.mpr ⟨fun _ _ lv st z K a hK h => pc_X11_judge hT (by decide) (ix := 657) rfl rfl hK h, (List.forall_mem_cons.mpr ⟨fun _ _ lv st z K a hK h => pc_X11_judge hT (by decide) (ix := 657) rfl rfl hK h, (List.forall_mem_cons.mpr ⟨fun _ _ lv st z K a hK h => pc_X11_judge hT (by decide) (ix := 657) rfl rfl hK h, (List.forall_mem_cons.mpr ⟨fun _ _ lv st z K a hK h => pc_X11_judge hT (by decide) (ix := 657) rfl rfl hK h, (List.forall_mem_cons.mpr ⟨fun _ _ lv st z K a hK h => pc_X11_judge hT (by decide) (ix := 657) rfl rfl hK h, (List.forall_mem_cons.mpr ⟨fun _ _ lv st z K a hK h => pc_X11_judge hT (by decide) (ix := 657) rfl rfl hK h, (List.forall_mem_cons.mpr ⟨fun _ _ lv st z K a hK h => pc_X11_cellAtHand hT (by decide) (ix := 688) rfl rfl hK h, (List.forall_mem_cons.mpr ⟨fun _ _ lv st z K a hK h => pc_J9_abs_0f7a4 (pm_none hT) (by decide) (ix := 834) rfl rfl hK h, (List.forall_mem_cons.mpr ⟨fun _ _ lv st z K a hK h => pc_X11_judge hT (by decide) (ix := 657) rfl rfl hK h, (List.forall_mem_cons.mpr ⟨fun _ _ lv st z K a hK h => pc_X11_judge hT (by decide) (ix := 657) rfl rfl hK h, (fun _ h => by cases h)⟩)⟩)⟩)⟩)⟩)⟩)⟩)⟩)⟩)⟩)) (fun _ h => by cases h)
set_option maxRecDepth 100000 in
theorem pb_X11_testRest : pm_bks ie_X11_testRest.1.2.2.2.2 pk_X11_testRest = true := by decide +kernel
set_option maxRecDepth 100000 in
theorem pg_X11_testRest_351 {lf : pj_Z → mj_M} (hT : pj_Lt pj_TC lf) : ∀ (b2 : Int32) (b3 : Int32) (s : Nat → Int32) (l : Nat → Int64) (x : Nat → Int32) (y : Nat → Int64) (a : Unit × pj_Z), pl_X11_testRest_351 b2 b3 s l x y = some a → pm_Gd 3 11078 ie_X11_testRest.1 pm_rU lf 351 [(0, .ref 0)] [.int b3, .int b2, .int (Int32.ofInt 19), .ref 0] (s, l, x, y) a := by
  intro b2 b3 s l x y a h
  exact pm_run ((pq_X11_testRest_351  b2 b3 s l x y).symm.trans h) (pz_X11_testRest hT) (pm_bks_ok pb_X11_testRest) (pm_bks_ok pb_X11_testRest _ _ rfl) (pm_ndb_ok rfl) (fun _ _ h => by cases h)
set_option maxRecDepth 100000 in
theorem pg_X11_testRest_329 {lf : pj_Z → mj_M} (hT : pj_Lt pj_TC lf) : ∀ (b2 : Int32) (s : Nat → Int32) (l : Nat → Int64) (x : Nat → Int32) (y : Nat → Int64) (a : Unit × pj_Z), pl_X11_testRest_329 b2 s l x y = some a → pm_Gd 3 11078 ie_X11_testRest.1 pm_rU lf 329 [(0, .ref 0)] [.int b2, .int (Int32.ofInt 19), .ref 0] (s, l, x, y) a := by
  intro b2 s l x y a h
  exact pm_run ((pq_X11_testRest_329  b2 s l x y).symm.trans h) (pz_X11_testRest hT) (pm_bks_ok pb_X11_testRest) (pm_bks_ok pb_X11_testRest _ _ rfl) (pm_ndb_ok rfl) (pj_as_all (p := pm_Ex 3 11078 ie_X11_testRest.1 pm_rU lf a) (List.forall_mem_cons.mpr ⟨pu_X11_testRest_351 _ (fun c0 c1 s l x y h => pg_X11_testRest_351 hT c0 c1 s l x y _ h), (fun _ h => by cases h)⟩))
set_option maxRecDepth 100000 in
theorem pg_X11_testRest_294 {lf : pj_Z → mj_M} (hT : pj_Lt pj_TC lf) : ∀ (b2 : Int32) (s : Nat → Int32) (l : Nat → Int64) (x : Nat → Int32) (y : Nat → Int64) (a : Unit × pj_Z), pl_X11_testRest_294 b2 s l x y = some a → pm_Gd 3 11078 ie_X11_testRest.1 pm_rU lf 294 [(0, .ref 0)] [.int b2, .int (Int32.ofInt 18), .ref 0] (s, l, x, y) a := by
  intro b2 s l x y a h
  exact pm_run ((pq_X11_testRest_294  b2 s l x y).symm.trans h) (pz_X11_testRest hT) (pm_bks_ok pb_X11_testRest) (pm_bks_ok pb_X11_testRest _ _ rfl) (pm_ndb_ok rfl) (pj_as_all (p := pm_Ex 3 11078 ie_X11_testRest.1 pm_rU lf a) (List.forall_mem_cons.mpr ⟨pu_X11_testRest_329 _ (fun c0 s l x y h => pg_X11_testRest_329 hT c0 s l x y _ h), (fun _ h => by cases h)⟩))
set_option maxRecDepth 100000 in
theorem pg_X11_testRest_293 {lf : pj_Z → mj_M} (hT : pj_Lt pj_TC lf) : ∀  (s : Nat → Int32) (l : Nat → Int64) (x : Nat → Int32) (y : Nat → Int64) (a : Unit × pj_Z), pl_X11_testRest_293 s l x y = some a → pm_Gd 3 11078 ie_X11_testRest.1 pm_rU lf 293 [(0, .ref 0)] [.int (Int32.ofInt 18), .ref 0] (s, l, x, y) a := by
  intro  s l x y a h
  exact pm_run ((pq_X11_testRest_293   s l x y).symm.trans h) (pz_X11_testRest hT) (pm_bks_ok pb_X11_testRest) (pm_bks_ok pb_X11_testRest _ _ rfl) (pm_ndb_ok rfl) (pj_as_all (p := pm_Ex 3 11078 ie_X11_testRest.1 pm_rU lf a) (List.forall_mem_cons.mpr ⟨pu_X11_testRest_294 _ (fun c0 s l x y h => pg_X11_testRest_294 hT c0 s l x y _ h), (fun _ h => by cases h)⟩))
set_option maxRecDepth 100000 in
theorem pg_X11_testRest_242 {lf : pj_Z → mj_M} (hT : pj_Lt pj_TC lf) : ∀ (b2 : Int32) (b3 : Int32) (s : Nat → Int32) (l : Nat → Int64) (x : Nat → Int32) (y : Nat → Int64) (a : Unit × pj_Z), pl_X11_testRest_242 b2 b3 s l x y = some a → pm_Gd 3 11078 ie_X11_testRest.1 pm_rU lf 242 [(0, .ref 0)] [.int b3, .int b2, .int (Int32.ofInt 17), .ref 0] (s, l, x, y) a := by
  intro b2 b3 s l x y a h
  exact pm_run ((pq_X11_testRest_242  b2 b3 s l x y).symm.trans h) (pz_X11_testRest hT) (pm_bks_ok pb_X11_testRest) (pm_bks_ok pb_X11_testRest _ _ rfl) (pm_ndb_ok rfl) (pj_as_all (p := pm_Ex 3 11078 ie_X11_testRest.1 pm_rU lf a) (List.forall_mem_cons.mpr ⟨pu_X11_testRest_293 _ (fun  s l x y h => pg_X11_testRest_293 hT  s l x y _ h), (List.forall_mem_cons.mpr ⟨pu_X11_testRest_294 _ (fun c0 s l x y h => pg_X11_testRest_294 hT c0 s l x y _ h), (fun _ h => by cases h)⟩)⟩))
set_option maxRecDepth 100000 in
theorem pg_X11_testRest_241 {lf : pj_Z → mj_M} (hT : pj_Lt pj_TC lf) : ∀ (b2 : Int32) (s : Nat → Int32) (l : Nat → Int64) (x : Nat → Int32) (y : Nat → Int64) (a : Unit × pj_Z), pl_X11_testRest_241 b2 s l x y = some a → pm_Gd 3 11078 ie_X11_testRest.1 pm_rU lf 241 [(0, .ref 0)] [.int b2, .int (Int32.ofInt 17), .ref 0] (s, l, x, y) a := by
  intro b2 s l x y a h
  exact pm_run ((pq_X11_testRest_241  b2 s l x y).symm.trans h) (pz_X11_testRest hT) (pm_bks_ok pb_X11_testRest) (pm_bks_ok pb_X11_testRest _ _ rfl) (pm_ndb_ok rfl) (pj_as_all (p := pm_Ex 3 11078 ie_X11_testRest.1 pm_rU lf a) (List.forall_mem_cons.mpr ⟨pu_X11_testRest_242 _ (fun c0 c1 s l x y h => pg_X11_testRest_242 hT c0 c1 s l x y _ h), (fun _ h => by cases h)⟩))
set_option maxRecDepth 100000 in
theorem pg_X11_testRest_217 {lf : pj_Z → mj_M} (hT : pj_Lt pj_TC lf) : ∀ (b2 : Int32) (s : Nat → Int32) (l : Nat → Int64) (x : Nat → Int32) (y : Nat → Int64) (a : Unit × pj_Z), pl_X11_testRest_217 b2 s l x y = some a → pm_Gd 3 11078 ie_X11_testRest.1 pm_rU lf 217 [(0, .ref 0)] [.int b2, .int (Int32.ofInt 17), .ref 0] (s, l, x, y) a := by
  intro b2 s l x y a h
  exact pm_run ((pq_X11_testRest_217  b2 s l x y).symm.trans h) (pz_X11_testRest hT) (pm_bks_ok pb_X11_testRest) (pm_bks_ok pb_X11_testRest _ _ rfl) (pm_ndb_ok rfl) (pj_as_all (p := pm_Ex 3 11078 ie_X11_testRest.1 pm_rU lf a) (List.forall_mem_cons.mpr ⟨pu_X11_testRest_241 _ (fun c0 s l x y h => pg_X11_testRest_241 hT c0 s l x y _ h), (List.forall_mem_cons.mpr ⟨pu_X11_testRest_242 _ (fun c0 c1 s l x y h => pg_X11_testRest_242 hT c0 c1 s l x y _ h), (fun _ h => by cases h)⟩)⟩))
set_option maxRecDepth 100000 in
theorem pg_X11_testRest_193 {lf : pj_Z → mj_M} (hT : pj_Lt pj_TC lf) : ∀ (b2 : Int32) (b3 : Int32) (s : Nat → Int32) (l : Nat → Int64) (x : Nat → Int32) (y : Nat → Int64) (a : Unit × pj_Z), pl_X11_testRest_193 b2 b3 s l x y = some a → pm_Gd 3 11078 ie_X11_testRest.1 pm_rU lf 193 [(0, .ref 0)] [.int b3, .int b2, .int (Int32.ofInt 16), .ref 0] (s, l, x, y) a := by
  intro b2 b3 s l x y a h
  exact pm_run ((pq_X11_testRest_193  b2 b3 s l x y).symm.trans h) (pz_X11_testRest hT) (pm_bks_ok pb_X11_testRest) (pm_bks_ok pb_X11_testRest _ _ rfl) (pm_ndb_ok rfl) (pj_as_all (p := pm_Ex 3 11078 ie_X11_testRest.1 pm_rU lf a) (List.forall_mem_cons.mpr ⟨pu_X11_testRest_217 _ (fun c0 s l x y h => pg_X11_testRest_217 hT c0 s l x y _ h), (fun _ h => by cases h)⟩))
set_option maxRecDepth 100000 in
theorem pg_X11_testRest_192 {lf : pj_Z → mj_M} (hT : pj_Lt pj_TC lf) : ∀ (b2 : Int32) (s : Nat → Int32) (l : Nat → Int64) (x : Nat → Int32) (y : Nat → Int64) (a : Unit × pj_Z), pl_X11_testRest_192 b2 s l x y = some a → pm_Gd 3 11078 ie_X11_testRest.1 pm_rU lf 192 [(0, .ref 0)] [.int b2, .int (Int32.ofInt 16), .ref 0] (s, l, x, y) a := by
  intro b2 s l x y a h
  exact pm_run ((pq_X11_testRest_192  b2 s l x y).symm.trans h) (pz_X11_testRest hT) (pm_bks_ok pb_X11_testRest) (pm_bks_ok pb_X11_testRest _ _ rfl) (pm_ndb_ok rfl) (pj_as_all (p := pm_Ex 3 11078 ie_X11_testRest.1 pm_rU lf a) (List.forall_mem_cons.mpr ⟨pu_X11_testRest_193 _ (fun c0 c1 s l x y h => pg_X11_testRest_193 hT c0 c1 s l x y _ h), (fun _ h => by cases h)⟩))
set_option maxRecDepth 100000 in
theorem pg_X11_testRest_169 {lf : pj_Z → mj_M} (hT : pj_Lt pj_TC lf) : ∀ (a1 : Int32) (b0 : Int32) (s : Nat → Int32) (l : Nat → Int64) (x : Nat → Int32) (y : Nat → Int64) (a : Unit × pj_Z), pl_X11_testRest_169 a1 b0 s l x y = some a → pm_Gd 3 11078 ie_X11_testRest.1 pm_rU lf 169 [(0, .ref 0), (1, .int a1)] [.int b0] (s, l, x, y) a := by
  intro a1 b0 s l x y a h
  exact pm_run ((pq_X11_testRest_169  a1 b0 s l x y).symm.trans h) (pz_X11_testRest hT) (pm_bks_ok pb_X11_testRest) (pm_bks_ok pb_X11_testRest _ _ rfl) (pm_ndb_ok rfl) (pj_as_all (p := pm_Ex 3 11078 ie_X11_testRest.1 pm_rU lf a) (List.forall_mem_cons.mpr ⟨pu_X11_testRest_192 _ (fun c0 s l x y h => pg_X11_testRest_192 hT c0 s l x y _ h), (List.forall_mem_cons.mpr ⟨pu_X11_testRest_193 _ (fun c0 c1 s l x y h => pg_X11_testRest_193 hT c0 c1 s l x y _ h), (fun _ h => by cases h)⟩)⟩))
set_option maxRecDepth 100000 in
theorem pg_X11_testRest_164 {lf : pj_Z → mj_M} (hT : pj_Lt pj_TC lf) : ∀ (a1 : Int32) (s : Nat → Int32) (l : Nat → Int64) (x : Nat → Int32) (y : Nat → Int64) (a : Unit × pj_Z), pl_X11_testRest_164 a1 s l x y = some a → pm_Gd 3 11078 ie_X11_testRest.1 pm_rU lf 164 [(0, .ref 0), (1, .int a1)] [] (s, l, x, y) a := by
  intro a1 s l x y a h
  exact pm_run ((pq_X11_testRest_164  a1 s l x y).symm.trans h) (pz_X11_testRest hT) (pm_bks_ok pb_X11_testRest) (pm_bks_ok pb_X11_testRest _ _ rfl) (pm_ndb_ok rfl) (pj_as_all (p := pm_Ex 3 11078 ie_X11_testRest.1 pm_rU lf a) (List.forall_mem_cons.mpr ⟨pu_X11_testRest_169 _ (fun c0 c1 s l x y h => pg_X11_testRest_169 hT c0 c1 s l x y _ h), (fun _ h => by cases h)⟩))
set_option maxRecDepth 100000 in
theorem pg_X11_testRest_132 {lf : pj_Z → mj_M} (hT : pj_Lt pj_TC lf) : ∀ (a1 : Int32) (b2 : Int32) (s : Nat → Int32) (l : Nat → Int64) (x : Nat → Int32) (y : Nat → Int64) (a : Unit × pj_Z), pl_X11_testRest_132 a1 b2 s l x y = some a → pm_Gd 3 11078 ie_X11_testRest.1 pm_rU lf 132 [(0, .ref 0), (1, .int a1)] [.int b2, .int (Int32.ofInt 15), .ref 0] (s, l, x, y) a := by
  intro a1 b2 s l x y a h
  exact pm_run ((pq_X11_testRest_132  a1 b2 s l x y).symm.trans h) (pz_X11_testRest hT) (pm_bks_ok pb_X11_testRest) (pm_bks_ok pb_X11_testRest _ _ rfl) (pm_ndb_ok rfl) (pj_as_all (p := pm_Ex 3 11078 ie_X11_testRest.1 pm_rU lf a) (List.forall_mem_cons.mpr ⟨pu_X11_testRest_164 _ (fun c0 s l x y h => pg_X11_testRest_164 hT c0 s l x y _ h), (List.forall_mem_cons.mpr ⟨pu_X11_testRest_169 _ (fun c0 c1 s l x y h => pg_X11_testRest_169 hT c0 c1 s l x y _ h), (fun _ h => by cases h)⟩)⟩))
set_option maxRecDepth 100000 in
theorem pg_X11_testRest_90 {lf : pj_Z → mj_M} (hT : pj_Lt pj_TC lf) : ∀ (a1 : Int32) (b2 : Int32) (b3 : Int32) (s : Nat → Int32) (l : Nat → Int64) (x : Nat → Int32) (y : Nat → Int64) (a : Unit × pj_Z), pl_X11_testRest_90 a1 b2 b3 s l x y = some a → pm_Gd 3 11078 ie_X11_testRest.1 pm_rU lf 90 [(0, .ref 0), (1, .int a1)] [.int b3, .int b2, .int (Int32.ofInt 13), .ref 0] (s, l, x, y) a := by
  intro a1 b2 b3 s l x y a h
  exact pm_run ((pq_X11_testRest_90  a1 b2 b3 s l x y).symm.trans h) (pz_X11_testRest hT) (pm_bks_ok pb_X11_testRest) (pm_bks_ok pb_X11_testRest _ _ rfl) (pm_ndb_ok rfl) (pj_as_all (p := pm_Ex 3 11078 ie_X11_testRest.1 pm_rU lf a) (List.forall_mem_cons.mpr ⟨pu_X11_testRest_132 _ (fun c0 c1 s l x y h => pg_X11_testRest_132 hT c0 c1 s l x y _ h), (fun _ h => by cases h)⟩))
set_option maxRecDepth 100000 in
theorem pg_X11_testRest_89 {lf : pj_Z → mj_M} (hT : pj_Lt pj_TC lf) : ∀ (a1 : Int32) (b2 : Int32) (s : Nat → Int32) (l : Nat → Int64) (x : Nat → Int32) (y : Nat → Int64) (a : Unit × pj_Z), pl_X11_testRest_89 a1 b2 s l x y = some a → pm_Gd 3 11078 ie_X11_testRest.1 pm_rU lf 89 [(0, .ref 0), (1, .int a1)] [.int b2, .int (Int32.ofInt 13), .ref 0] (s, l, x, y) a := by
  intro a1 b2 s l x y a h
  exact pm_run ((pq_X11_testRest_89  a1 b2 s l x y).symm.trans h) (pz_X11_testRest hT) (pm_bks_ok pb_X11_testRest) (pm_bks_ok pb_X11_testRest _ _ rfl) (pm_ndb_ok rfl) (pj_as_all (p := pm_Ex 3 11078 ie_X11_testRest.1 pm_rU lf a) (List.forall_mem_cons.mpr ⟨pu_X11_testRest_90 _ (fun c0 c1 c2 s l x y h => pg_X11_testRest_90 hT c0 c1 c2 s l x y _ h), (fun _ h => by cases h)⟩))
set_option maxRecDepth 100000 in
theorem pg_X11_testRest_52 {lf : pj_Z → mj_M} (hT : pj_Lt pj_TC lf) : ∀ (a1 : Int32) (b2 : Int32) (b3 : Int32) (s : Nat → Int32) (l : Nat → Int64) (x : Nat → Int32) (y : Nat → Int64) (a : Unit × pj_Z), pl_X11_testRest_52 a1 b2 b3 s l x y = some a → pm_Gd 3 11078 ie_X11_testRest.1 pm_rU lf 52 [(0, .ref 0), (1, .int a1)] [.int b3, .int b2, .int (Int32.ofInt 12), .ref 0] (s, l, x, y) a := by
  intro a1 b2 b3 s l x y a h
  exact pm_run ((pq_X11_testRest_52  a1 b2 b3 s l x y).symm.trans h) (pz_X11_testRest hT) (pm_bks_ok pb_X11_testRest) (pm_bks_ok pb_X11_testRest _ _ rfl) (pm_ndb_ok rfl) (pj_as_all (p := pm_Ex 3 11078 ie_X11_testRest.1 pm_rU lf a) (List.forall_mem_cons.mpr ⟨pu_X11_testRest_89 _ (fun c0 c1 s l x y h => pg_X11_testRest_89 hT c0 c1 s l x y _ h), (List.forall_mem_cons.mpr ⟨pu_X11_testRest_90 _ (fun c0 c1 c2 s l x y h => pg_X11_testRest_90 hT c0 c1 c2 s l x y _ h), (fun _ h => by cases h)⟩)⟩))
set_option maxRecDepth 100000 in
theorem pg_X11_testRest_51 {lf : pj_Z → mj_M} (hT : pj_Lt pj_TC lf) : ∀ (a1 : Int32) (b2 : Int32) (s : Nat → Int32) (l : Nat → Int64) (x : Nat → Int32) (y : Nat → Int64) (a : Unit × pj_Z), pl_X11_testRest_51 a1 b2 s l x y = some a → pm_Gd 3 11078 ie_X11_testRest.1 pm_rU lf 51 [(0, .ref 0), (1, .int a1)] [.int b2, .int (Int32.ofInt 12), .ref 0] (s, l, x, y) a := by
  intro a1 b2 s l x y a h
  exact pm_run ((pq_X11_testRest_51  a1 b2 s l x y).symm.trans h) (pz_X11_testRest hT) (pm_bks_ok pb_X11_testRest) (pm_bks_ok pb_X11_testRest _ _ rfl) (pm_ndb_ok rfl) (pj_as_all (p := pm_Ex 3 11078 ie_X11_testRest.1 pm_rU lf a) (List.forall_mem_cons.mpr ⟨pu_X11_testRest_52 _ (fun c0 c1 c2 s l x y h => pg_X11_testRest_52 hT c0 c1 c2 s l x y _ h), (fun _ h => by cases h)⟩))
set_option maxRecDepth 100000 in
theorem pg_X11_testRest_16 {lf : pj_Z → mj_M} (hT : pj_Lt pj_TC lf) : ∀ (b0 : Int32) (s : Nat → Int32) (l : Nat → Int64) (x : Nat → Int32) (y : Nat → Int64) (a : Unit × pj_Z), pl_X11_testRest_16 b0 s l x y = some a → pm_Gd 3 11078 ie_X11_testRest.1 pm_rU lf 16 [(0, .ref 0)] [.int b0] (s, l, x, y) a := by
  intro b0 s l x y a h
  exact pm_run ((pq_X11_testRest_16  b0 s l x y).symm.trans h) (pz_X11_testRest hT) (pm_bks_ok pb_X11_testRest) (pm_bks_ok pb_X11_testRest _ _ rfl) (pm_ndb_ok rfl) (pj_as_all (p := pm_Ex 3 11078 ie_X11_testRest.1 pm_rU lf a) (List.forall_mem_cons.mpr ⟨pu_X11_testRest_51 _ (fun c0 c1 s l x y h => pg_X11_testRest_51 hT c0 c1 s l x y _ h), (List.forall_mem_cons.mpr ⟨pu_X11_testRest_52 _ (fun c0 c1 c2 s l x y h => pg_X11_testRest_52 hT c0 c1 c2 s l x y _ h), (fun _ h => by cases h)⟩)⟩))
set_option maxRecDepth 100000 in
theorem pm_X11_testRest {lf : pj_Z → mj_M} (hT : pj_Lt pj_TC lf)  (s : Nat → Int32) (l : Nat → Int64) (x : Nat → Int32) (y : Nat → Int64) (a : Unit × pj_Z) (h : pf_X11_testRest  s l x y = some a) : mj_R ic_P 4 11078 [.ref 0] (lf (s, l, x, y)) (pm_rU a.1) (lf a.2) := by
  refine pm_main (Y := ie_X11_testRest.1) rfl (Nat.le_of_ble_eq_true rfl) ?_
  exact pm_run ((pq_X11_testRest_m  s l x y).symm.trans h) (pz_X11_testRest hT) (pm_bks_ok pb_X11_testRest) (pm_bks_ok pb_X11_testRest _ _ rfl) (pm_ndb_ok rfl) (pj_as_all (p := pm_Ex 3 11078 ie_X11_testRest.1 pm_rU lf a) (List.forall_mem_cons.mpr ⟨pu_X11_testRest_16 _ (fun c0 s l x y h => pg_X11_testRest_16 hT c0 s l x y _ h), (fun _ h => by cases h)⟩))
abbrev ph_X11_testRest {A : Type} : List pj_V → pj_Z → (List pj_V → pj_Z → Option A) → Option A := fun st z K => pj_pr st 0 0 fun st => pj_ps st (pj_b (pf_X11_testRest  z.1 z.2.1 z.2.2.1 z.2.2.2) fun r s l x y => K st (s, l, x, y))
set_option maxRecDepth 100000 in
theorem pc_X11_testRest {A : Type} {OK : A → Option Value → mj_M → Prop} {d j pc ix : Nat} {Y : mj_Y} {lf : pj_Z → mj_M} (hT : pj_Lt pj_TC lf) (hd : 4 ≤ d) (hl : mj_lk Y.2.2.2.2 pc = some (.invokevirtual ix, 3)) (hg : mj_pG ic_P j ix = some (11078, 0, some 11)) {lv : List (Nat × Value)} {st : List pj_V} {z : pj_Z} {K : List pj_V → pj_Z → Option A} {a : A} (hK : ∀ st z, K st z = some a → pj_Gd ic_P (mj_R ic_P d) j Y OK lf (pc + 3) lv (pj_es st) z a) (h : ph_X11_testRest st z K = some a) : pj_Gd ic_P (mj_R ic_P d) j Y OK lf pc lv (pj_es st) z a := by
  obtain ⟨r0, e0, h⟩ := pj_pr_inv h
  obtain ⟨hs, h⟩ := pj_ps_inv h
  obtain ⟨q, hq, h⟩ := pj_b_inv h
  exact pm_cv (o := 0) hl hg [] rfl (by rw [e0]; rfl) hs (by decide) ((hT.2 0 _ rfl).1.2 z 0 (by decide)) (pm_rU q.1) hd (pm_X11_testRest hT  z.1 z.2.1 z.2.2.1 z.2.2.2 q hq) rfl (hK _ _ h)
abbrev px_X11_setRuleInputs : pj_C (Unit × pj_Z) := ((pj_as [(0, 11, 17, 1, 0, true, 0, [(2, 1), (2, 20), (2, 58), (2, 68), (2, 82), (2, 83), (2, 85), (2, 96), (2, 102), (2, 106), (2, 122), (0, 93), (0, 94), (0, 95), (1, 1), (1, 2), (0, 96)]), (20, 7, 11, 1, 0, true, 0, [(2, 21), (2, 35), (2, 49), (2, 50), (2, 51), (2, 52), (2, 53), (2, 54), (2, 55), (2, 56), (2, 57)]), (55, 100, 10, 1, 0, true, 34000, []), (58, 2, 19, 1, 0, true, 0, [(0, 19), (0, 20), (1, 4), (1, 5), (1, 6), (1, 7), (0, 21), (0, 22), (0, 23), (0, 24), (0, 25), (2, 59), (2, 63), (0, 26), (1, 8), (1, 9), (1, 10), (0, 27), (0, 28)]), (82, 9, 18, 1, 0, true, 0, [(0, 71), (0, 72), (1, 12), (0, 73), (0, 74), (0, 75), (0, 76), (0, 77), (0, 78), (0, 79), (0, 80), (1, 13), (0, 81), (0, 82), (0, 83), (0, 84), (0, 85), (0, 86)]), (106, 0, 19, 1, 0, true, 0, [(2, 107), (0, 1), (2, 108), (1, 24), (0, 2), (2, 111), (1, 25), (1, 26), (2, 114), (2, 115), (2, 116), (0, 3), (2, 117), (2, 118), (1, 27), (1, 28), (0, 4), (0, 5), (1, 29)]), (115, 100, 8, 1, 0, false, 13000, []), (122, 5, 13, 1, 0, true, 0, [(0, 45), (0, 46), (0, 47), (0, 48), (0, 49), (0, 50), (0, 51), (0, 52), (0, 53), (0, 54), (0, 55), (2, 123), (0, 56)])]), (pj_as [(19, 11, 1, 2, true), (26, 11, 2, 2, true), (40, 11, 4, 2, true), (75, 11, 9, 2, true), (82, 11, 10, 2, true), (205, 5, 7, 0, false), (400, 7, 8, 2, true), (454, 11, 14, 0, false), (628, 2, 3, 0, false), (771, 0, 9, 2, true), (774, 9, 1, 0, false), (777, 5, 9, 0, false)]), (fun _ => none), (fun _ => none), (fun _ => none), ic_X, 2, 0, pj_mU, (fun _ => none), fun _ => false)
abbrev pk_X11_setRuleInputs : List (Nat × List (Nat × Instr × Nat)) := [(0, [(0, .aload_n 0, 1), (1, .getfield 75, 3), (4, .getfield 771, 3), (7, .astore_n 1, 1), (8, .aload_n 1, 1), (9, .iconst 0, 1), (10, .aload_n 0, 1), (11, .getfield 26, 3), (14, .getfield 628, 3), (17, .iastore, 1), (18, .aload_n 1, 1), (19, .iconst 1, 1), (20, .aload_n 0, 1), (21, .getfield 19, 3), (24, .getfield 400, 3), (27, .iconst 4, 1), (28, .iaload, 1), (29, .iastore, 1), (30, .aload_n 1, 1), (31, .iconst 2, 1), (32, .aload_n 0, 1), (33, .getfield 19, 3), (36, .getfield 400, 3), (39, .iconst 5, 1), (40, .iaload, 1), (41, .iastore, 1), (42, .aload_n 1, 1), (43, .iconst 3, 1), (44, .aload_n 0, 1), (45, .getfield 40, 3), (48, .getfield 774, 3), (51, .iastore, 1), (52, .aload_n 1, 1), (53, .iconst 4, 1), (54, .aload_n 0, 1), (55, .getfield 82, 3), (58, .getfield 205, 3), (61, .iastore, 1), (62, .aload_n 1, 1), (63, .iconst 5, 1), (64, .aload_n 0, 1), (65, .getfield 19, 3), (68, .getfield 400, 3), (71, .bipush 9, 2), (73, .iaload, 1), (74, .iastore, 1), (75, .aload_n 1, 1), (76, .bipush 6, 2), (78, .aload_n 0, 1), (79, .getfield 82, 3), (82, .getfield 777, 3), (85, .iastore, 1), (86, .aload_n 1, 1), (87, .bipush 7, 2), (89, .aload_n 0, 1), (90, .getfield 454, 3), (93, .iastore, 1), (94, .return_, 1)])]
set_option maxRecDepth 100000 in
theorem pq_X11_setRuleInputs_m   (s : Nat → Int32) (l : Nat → Int64) (x : Nat → Int32) (y : Nat → Int64) : pf_X11_setRuleInputs  s l x y = pj_bl px_X11_setRuleInputs (pj_rn px_X11_setRuleInputs (pj_as pk_X11_setRuleInputs) (fun _ => none) 60) [(0, .aload_n 0, 1), (1, .getfield 75, 3), (4, .getfield 771, 3), (7, .astore_n 1, 1), (8, .aload_n 1, 1), (9, .iconst 0, 1), (10, .aload_n 0, 1), (11, .getfield 26, 3), (14, .getfield 628, 3), (17, .iastore, 1), (18, .aload_n 1, 1), (19, .iconst 1, 1), (20, .aload_n 0, 1), (21, .getfield 19, 3), (24, .getfield 400, 3), (27, .iconst 4, 1), (28, .iaload, 1), (29, .iastore, 1), (30, .aload_n 1, 1), (31, .iconst 2, 1), (32, .aload_n 0, 1), (33, .getfield 19, 3), (36, .getfield 400, 3), (39, .iconst 5, 1), (40, .iaload, 1), (41, .iastore, 1), (42, .aload_n 1, 1), (43, .iconst 3, 1), (44, .aload_n 0, 1), (45, .getfield 40, 3), (48, .getfield 774, 3), (51, .iastore, 1), (52, .aload_n 1, 1), (53, .iconst 4, 1), (54, .aload_n 0, 1), (55, .getfield 82, 3), (58, .getfield 205, 3), (61, .iastore, 1), (62, .aload_n 1, 1), (63, .iconst 5, 1), (64, .aload_n 0, 1), (65, .getfield 19, 3), (68, .getfield 400, 3), (71, .bipush 9, 2), (73, .iaload, 1), (74, .iastore, 1), (75, .aload_n 1, 1), (76, .bipush 6, 2), (78, .aload_n 0, 1), (79, .getfield 82, 3), (82, .getfield 777, 3), (85, .iastore, 1), (86, .aload_n 1, 1), (87, .bipush 7, 2), (89, .aload_n 0, 1), (90, .getfield 454, 3), (93, .iastore, 1), (94, .return_, 1)] 0 [(0, pj_O (0, 0))] [] (s, l, x, y) := rfl
set_option maxRecDepth 100000 in
theorem pz_X11_setRuleInputs {lf : pj_Z → mj_M} (hT : pj_Lt pj_TC lf) : pj_Cok ic_P (mj_R ic_P 0) 11075 ie_X11_setRuleInputs.1 (pm_OK lf pm_rU) lf px_X11_setRuleInputs := by
  exact pm_cok (c := px_X11_setRuleInputs) (pm_part hT (pj_as_all (p := fun b e => pj_TC b = some e) (List.forall_mem_cons.mpr ⟨rfl, (List.forall_mem_cons.mpr ⟨rfl, (List.forall_mem_cons.mpr ⟨rfl, (List.forall_mem_cons.mpr ⟨rfl, (List.forall_mem_cons.mpr ⟨rfl, (List.forall_mem_cons.mpr ⟨rfl, (List.forall_mem_cons.mpr ⟨rfl, (List.forall_mem_cons.mpr ⟨rfl, (fun _ h => by cases h)⟩)⟩)⟩)⟩)⟩)⟩)⟩)⟩))) (pm_in_ok (L := [(19, 11, 1, 2, true), (26, 11, 2, 2, true), (40, 11, 4, 2, true), (75, 11, 9, 2, true), (82, 11, 10, 2, true), (205, 5, 7, 0, false), (400, 7, 8, 2, true), (454, 11, 14, 0, false), (628, 2, 3, 0, false), (771, 0, 9, 2, true), (774, 9, 1, 0, false), (777, 5, 9, 0, false)]) (f := mj_pF ic_P 11075) (by decide +kernel)) (fun _ _ h => by cases h) (fun _ _ h => by cases h) (fun _ _ h => by cases h) rfl rfl ⟨by decide, rfl⟩ pm_mU (fun _ _ h => by cases h) (fun _ h => by cases h)
set_option maxRecDepth 100000 in
theorem pb_X11_setRuleInputs : pm_bks ie_X11_setRuleInputs.1.2.2.2.2 pk_X11_setRuleInputs = true := by decide +kernel
set_option maxRecDepth 100000 in
theorem pm_X11_setRuleInputs {lf : pj_Z → mj_M} (hT : pj_Lt pj_TC lf)  (s : Nat → Int32) (l : Nat → Int64) (x : Nat → Int32) (y : Nat → Int64) (a : Unit × pj_Z) (h : pf_X11_setRuleInputs  s l x y = some a) : mj_R ic_P 1 11075 [.ref 0] (lf (s, l, x, y)) (pm_rU a.1) (lf a.2) := by
  refine pm_main (Y := ie_X11_setRuleInputs.1) rfl (Nat.le_of_ble_eq_true rfl) ?_
  exact pm_run ((pq_X11_setRuleInputs_m  s l x y).symm.trans h) (pz_X11_setRuleInputs hT) (pm_bks_ok pb_X11_setRuleInputs) (pm_bks_ok pb_X11_setRuleInputs _ _ rfl) (pm_ndb_ok rfl) (fun _ _ h => by cases h)
abbrev ph_X11_setRuleInputs {A : Type} : List pj_V → pj_Z → (List pj_V → pj_Z → Option A) → Option A := fun st z K => pj_pr st 0 0 fun st => pj_ps st (pj_b (pf_X11_setRuleInputs  z.1 z.2.1 z.2.2.1 z.2.2.2) fun r s l x y => K st (s, l, x, y))
set_option maxRecDepth 100000 in
theorem pc_X11_setRuleInputs {A : Type} {OK : A → Option Value → mj_M → Prop} {d j pc ix : Nat} {Y : mj_Y} {lf : pj_Z → mj_M} (hT : pj_Lt pj_TC lf) (hd : 1 ≤ d) (hl : mj_lk Y.2.2.2.2 pc = some (.invokevirtual ix, 3)) (hg : mj_pG ic_P j ix = some (11075, 0, some 11)) {lv : List (Nat × Value)} {st : List pj_V} {z : pj_Z} {K : List pj_V → pj_Z → Option A} {a : A} (hK : ∀ st z, K st z = some a → pj_Gd ic_P (mj_R ic_P d) j Y OK lf (pc + 3) lv (pj_es st) z a) (h : ph_X11_setRuleInputs st z K = some a) : pj_Gd ic_P (mj_R ic_P d) j Y OK lf pc lv (pj_es st) z a := by
  obtain ⟨r0, e0, h⟩ := pj_pr_inv h
  obtain ⟨hs, h⟩ := pj_ps_inv h
  obtain ⟨q, hq, h⟩ := pj_b_inv h
  exact pm_cv (o := 0) hl hg [] rfl (by rw [e0]; rfl) hs (by decide) ((hT.2 0 _ rfl).1.2 z 0 (by decide)) (pm_rU q.1) hd (pm_X11_setRuleInputs hT  z.1 z.2.1 z.2.2.1 z.2.2.2 q hq) rfl (hK _ _ h)
abbrev px_X0_reckon : pj_C (Int32 × pj_Z) := ((fun _ => none), (fun _ => none), (fun _ => none), (fun _ => none), (fun _ => none), ic_X, 3, 1, pj_mI, (fun _ => none), fun _ => false)
abbrev pk_X0_reckon : List (Nat × List (Nat × Instr × Nat)) := [(0, [(0, .iload_n 0, 1), (1, .lookupswitch 105 #[(42, 67), (43, 59), (45, 63), (47, 71), (60, 83), (62, 94)], 59)]), (60, [(60, .iload_n 1, 1), (61, .iload_n 2, 1), (62, .iadd, 1), (63, .ireturn, 1)]), (64, [(64, .iload_n 1, 1), (65, .iload_n 2, 1), (66, .isub, 1), (67, .ireturn, 1)]), (68, [(68, .iload_n 1, 1), (69, .iload_n 2, 1), (70, .imul, 1), (71, .ireturn, 1)]), (72, [(72, .iload_n 2, 1), (73, .ifCond .ne 7, 3)]), (76, [(76, .iconst 0, 1), (77, .goto 6, 3)]), (80, [(80, .iload_n 1, 1), (81, .iload_n 2, 1), (82, .idiv, 1)]), (83, [(83, .ireturn, 1)]), (84, [(84, .iload_n 1, 1), (85, .iload_n 2, 1), (86, .if_icmp .ge 7, 3)]), (89, [(89, .iconst 1, 1), (90, .goto 4, 3)]), (93, [(93, .iconst 0, 1)]), (94, [(94, .ireturn, 1)]), (95, [(95, .iload_n 1, 1), (96, .iload_n 2, 1), (97, .if_icmp .le 7, 3)]), (100, [(100, .iconst 1, 1), (101, .goto 4, 3)]), (104, [(104, .iconst 0, 1)]), (105, [(105, .ireturn, 1)]), (106, [(106, .iload_n 1, 1), (107, .iload_n 2, 1), (108, .if_icmp .ne 7, 3)]), (111, [(111, .iconst 1, 1), (112, .goto 4, 3)]), (115, [(115, .iconst 0, 1)]), (116, [(116, .ireturn, 1)])]
set_option maxRecDepth 100000 in
theorem pq_X0_reckon_m  (a0 : Int32) (a1 : Int32) (a2 : Int32) (s : Nat → Int32) (l : Nat → Int64) (x : Nat → Int32) (y : Nat → Int64) : pf_X0_reckon a0 a1 a2 s l x y = pj_bl px_X0_reckon (pj_rn px_X0_reckon (pj_as pk_X0_reckon) (fun _ => none) 60) [(0, .iload_n 0, 1), (1, .lookupswitch 105 #[(42, 67), (43, 59), (45, 63), (47, 71), (60, 83), (62, 94)], 59)] 0 [(0, pj_I a0), (1, pj_I a1), (2, pj_I a2)] [] (s, l, x, y) := rfl
set_option maxRecDepth 100000 in
theorem pz_X0_reckon {lf : pj_Z → mj_M} (hT : pj_Lt pj_TC lf) : pj_Cok ic_P (mj_R ic_P 0) 17 ie_X0_reckon.1 (pm_OK lf pm_rI) lf px_X0_reckon := by
  exact pm_cok (c := px_X0_reckon) (pm_none hT) (fun _ _ h => by cases h) (fun _ _ h => by cases h) (fun _ _ h => by cases h) (fun _ _ h => by cases h) rfl rfl ⟨by decide, rfl⟩ pm_mI (fun _ _ h => by cases h) (fun _ h => by cases h)
set_option maxRecDepth 100000 in
theorem pb_X0_reckon : pm_bks ie_X0_reckon.1.2.2.2.2 pk_X0_reckon = true := by decide +kernel
set_option maxRecDepth 100000 in
theorem pm_X0_reckon {lf : pj_Z → mj_M} (hT : pj_Lt pj_TC lf) (a0 : Int32) (a1 : Int32) (a2 : Int32) (s : Nat → Int32) (l : Nat → Int64) (x : Nat → Int32) (y : Nat → Int64) (a : Int32 × pj_Z) (h : pf_X0_reckon a0 a1 a2 s l x y = some a) : mj_R ic_P 1 17 [.int a0, .int a1, .int a2] (lf (s, l, x, y)) (pm_rI a.1) (lf a.2) := by
  refine pm_main (Y := ie_X0_reckon.1) rfl (Nat.le_of_ble_eq_true rfl) ?_
  exact pm_run ((pq_X0_reckon_m a0 a1 a2 s l x y).symm.trans h) (pz_X0_reckon hT) (pm_bks_ok pb_X0_reckon) (pm_bks_ok pb_X0_reckon _ _ rfl) (pm_ndb_ok rfl) (fun _ _ h => by cases h)
abbrev ph_X0_reckon {A : Type} : List pj_V → pj_Z → (List pj_V → pj_Z → Option A) → Option A := fun st z K => pj_pi st fun a2 st => pj_pi st fun a1 st => pj_pi st fun a0 st => pj_ps st (pj_b (pf_X0_reckon a0 a1 a2 z.1 z.2.1 z.2.2.1 z.2.2.2) fun r s l x y => K (pj_I r :: st) (s, l, x, y))
set_option maxRecDepth 100000 in
theorem pc_X0_reckon {A : Type} {OK : A → Option Value → mj_M → Prop} {d j pc ix : Nat} {Y : mj_Y} {lf : pj_Z → mj_M} (hT : pj_Lt pj_TC lf) (hd : 1 ≤ d) (hl : mj_lk Y.2.2.2.2 pc = some (.invokestatic ix, 3)) (hg : mj_pG ic_P j ix = some (17, 3, none)) {lv : List (Nat × Value)} {st : List pj_V} {z : pj_Z} {K : List pj_V → pj_Z → Option A} {a : A} (hK : ∀ st z, K st z = some a → pj_Gd ic_P (mj_R ic_P d) j Y OK lf (pc + 3) lv (pj_es st) z a) (h : ph_X0_reckon st z K = some a) : pj_Gd ic_P (mj_R ic_P d) j Y OK lf pc lv (pj_es st) z a := by
  obtain ⟨a2, r2, e2, h⟩ := pj_pi_inv h
  obtain ⟨a1, r1, e1, h⟩ := pj_pi_inv h
  obtain ⟨a0, r0, e0, h⟩ := pj_pi_inv h
  obtain ⟨hs, h⟩ := pj_ps_inv h
  obtain ⟨q, hq, h⟩ := pj_b_inv h
  exact pm_cs hl hg [.int a0, .int a1, .int a2] rfl (by rw [e2, e1, e0]; rfl) hs (pm_rI q.1) hd (pm_X0_reckon hT a0 a1 a2 z.1 z.2.1 z.2.2.1 z.2.2.2 q hq) rfl (hK _ _ h)
abbrev px_X0_takeTop : pj_C (Int32 × pj_Z) := ((pj_as [(106, 0, 19, 1, 0, true, 0, [(2, 107), (0, 1), (2, 108), (1, 24), (0, 2), (2, 111), (1, 25), (1, 26), (2, 114), (2, 115), (2, 116), (0, 3), (2, 117), (2, 118), (1, 27), (1, 28), (0, 4), (0, 5), (1, 29)]), (114, 100, 4, 1, 0, true, 2000, []), (116, 100, 256, 1, 0, false, 14000, [])]), (pj_as [(23, 0, 8, 2, true), (29, 0, 10, 2, true)]), (fun _ => none), (fun _ => none), (fun _ => none), ic_X, 4, 1, pj_mI, (pj_as [(96, ph_X0_reckon)]), fun _ => false)
abbrev pk_X0_takeTop : List (Nat × List (Nat × Instr × Nat)) := [(0, [(0, .iload_n 3, 1), (1, .ifCond .lt 10, 3)]), (4, [(4, .iload_n 3, 1), (5, .sipush 256, 3), (8, .if_icmp .lt 5, 3)]), (11, [(11, .iload_n 3, 1), (12, .ireturn, 1)]), (13, [(13, .iload_n 1, 1), (14, .iconst 5, 1), (15, .if_icmp .ne 5, 3)]), (18, [(18, .iload_n 3, 1), (19, .ireturn, 1)]), (20, [(20, .iload_n 1, 1), (21, .iconst 4, 1), (22, .if_icmp .ne 26, 3)]), (25, [(25, .iload_n 2, 1), (26, .ifCond .lt 20, 3)]), (29, [(29, .iload_n 2, 1), (30, .iconst 4, 1), (31, .if_icmp .ge 15, 3)]), (34, [(34, .aload_n 0, 1), (35, .getfield 23, 3), (38, .iload_n 2, 1), (39, .aload_n 0, 1), (40, .getfield 29, 3), (43, .iload_n 3, 1), (44, .iaload, 1), (45, .iastore, 1)]), (46, [(46, .iload_n 3, 1), (47, .ireturn, 1)]), (48, [(48, .iload_n 1, 1), (49, .iconst 3, 1), (50, .if_icmp .ne 20, 3)]), (53, [(53, .aload_n 0, 1), (54, .getfield 29, 3), (57, .iload_n 3, 1), (58, .aload_n 0, 1), (59, .getfield 29, 3), (62, .iload_n 3, 1), (63, .iaload, 1), (64, .ineg, 1), (65, .iastore, 1), (66, .iload_n 3, 1), (67, .iconst 1, 1), (68, .iadd, 1), (69, .ireturn, 1)]), (70, [(70, .iload_n 3, 1), (71, .ifCond .le 29, 3)]), (74, [(74, .aload_n 0, 1), (75, .getfield 29, 3), (78, .iload_n 3, 1), (79, .iconst 1, 1), (80, .isub, 1), (81, .iload_n 1, 1), (82, .aload_n 0, 1), (83, .getfield 29, 3), (86, .iload_n 3, 1), (87, .iconst 1, 1), (88, .isub, 1), (89, .iaload, 1), (90, .aload_n 0, 1), (91, .getfield 29, 3), (94, .iload_n 3, 1), (95, .iaload, 1), (96, .invokestatic 124, 3), (99, .iastore, 1)]), (100, [(100, .iload_n 3, 1), (101, .ireturn, 1)])]
set_option maxRecDepth 100000 in
theorem pq_X0_takeTop_m  (a1 : Int32) (a2 : Int32) (a3 : Int32) (s : Nat → Int32) (l : Nat → Int64) (x : Nat → Int32) (y : Nat → Int64) : pf_X0_takeTop a1 a2 a3 s l x y = pj_bl px_X0_takeTop (pj_rn px_X0_takeTop (pj_as pk_X0_takeTop) (fun _ => none) 60) [(0, .iload_n 3, 1), (1, .ifCond .lt 10, 3)] 0 [(0, pj_O (106, 0)), (1, pj_I a1), (2, pj_I a2), (3, pj_I a3)] [] (s, l, x, y) := rfl
set_option maxRecDepth 100000 in
theorem pz_X0_takeTop {lf : pj_Z → mj_M} (hT : pj_Lt pj_TC lf) : pj_Cok ic_P (mj_R ic_P 1) 16 ie_X0_takeTop.1 (pm_OK lf pm_rI) lf px_X0_takeTop := by
  exact pm_cok (c := px_X0_takeTop) (pm_part hT (pj_as_all (p := fun b e => pj_TC b = some e) (List.forall_mem_cons.mpr ⟨rfl, (List.forall_mem_cons.mpr ⟨rfl, (List.forall_mem_cons.mpr ⟨rfl, (fun _ h => by cases h)⟩)⟩)⟩))) (pm_in_ok (L := [(23, 0, 8, 2, true), (29, 0, 10, 2, true)]) (f := mj_pF ic_P 16) (by decide +kernel)) (fun _ _ h => by cases h) (fun _ _ h => by cases h) (fun _ _ h => by cases h) rfl rfl ⟨by decide, rfl⟩ pm_mI (pj_as_all (p := pm_Cl 1 16 ie_X0_takeTop.1 lf (pm_OK lf pm_rI)) (List.forall_mem_cons.mpr ⟨fun _ _ lv st z K a hK h => pc_X0_reckon hT (by decide) (ix := 124) rfl rfl hK h, (fun _ h => by cases h)⟩)) (fun _ h => by cases h)
set_option maxRecDepth 100000 in
theorem pb_X0_takeTop : pm_bks ie_X0_takeTop.1.2.2.2.2 pk_X0_takeTop = true := by decide +kernel
set_option maxRecDepth 100000 in
theorem pm_X0_takeTop {lf : pj_Z → mj_M} (hT : pj_Lt pj_TC lf) (a1 : Int32) (a2 : Int32) (a3 : Int32) (s : Nat → Int32) (l : Nat → Int64) (x : Nat → Int32) (y : Nat → Int64) (a : Int32 × pj_Z) (h : pf_X0_takeTop a1 a2 a3 s l x y = some a) : mj_R ic_P 2 16 [.ref 106, .int a1, .int a2, .int a3] (lf (s, l, x, y)) (pm_rI a.1) (lf a.2) := by
  refine pm_main (Y := ie_X0_takeTop.1) rfl (Nat.le_of_ble_eq_true rfl) ?_
  exact pm_run ((pq_X0_takeTop_m a1 a2 a3 s l x y).symm.trans h) (pz_X0_takeTop hT) (pm_bks_ok pb_X0_takeTop) (pm_bks_ok pb_X0_takeTop _ _ rfl) (pm_ndb_ok rfl) (fun _ _ h => by cases h)
abbrev ph_X0_takeTop {A : Type} : List pj_V → pj_Z → (List pj_V → pj_Z → Option A) → Option A := fun st z K => pj_pi st fun a3 st => pj_pi st fun a2 st => pj_pi st fun a1 st => pj_pr st 106 0 fun st => pj_ps st (pj_b (pf_X0_takeTop a1 a2 a3 z.1 z.2.1 z.2.2.1 z.2.2.2) fun r s l x y => K (pj_I r :: st) (s, l, x, y))
set_option maxRecDepth 100000 in
theorem pc_X0_takeTop {A : Type} {OK : A → Option Value → mj_M → Prop} {d j pc ix : Nat} {Y : mj_Y} {lf : pj_Z → mj_M} (hT : pj_Lt pj_TC lf) (hd : 2 ≤ d) (hl : mj_lk Y.2.2.2.2 pc = some (.invokevirtual ix, 3)) (hg : mj_pG ic_P j ix = some (16, 3, some 0)) {lv : List (Nat × Value)} {st : List pj_V} {z : pj_Z} {K : List pj_V → pj_Z → Option A} {a : A} (hK : ∀ st z, K st z = some a → pj_Gd ic_P (mj_R ic_P d) j Y OK lf (pc + 3) lv (pj_es st) z a) (h : ph_X0_takeTop st z K = some a) : pj_Gd ic_P (mj_R ic_P d) j Y OK lf pc lv (pj_es st) z a := by
  obtain ⟨a3, r3, e3, h⟩ := pj_pi_inv h
  obtain ⟨a2, r2, e2, h⟩ := pj_pi_inv h
  obtain ⟨a1, r1, e1, h⟩ := pj_pi_inv h
  obtain ⟨r0, e0, h⟩ := pj_pr_inv h
  obtain ⟨hs, h⟩ := pj_ps_inv h
  obtain ⟨q, hq, h⟩ := pj_b_inv h
  exact pm_cv (o := 106) hl hg [.int a1, .int a2, .int a3] rfl (by rw [e3, e2, e1, e0]; rfl) hs (by decide) ((hT.2 106 _ rfl).1.2 z 0 (by decide)) (pm_rI q.1) hd (pm_X0_takeTop hT a1 a2 a3 z.1 z.2.1 z.2.2.1 z.2.2.2 q hq) rfl (hK _ _ h)
abbrev pe_X0_doStep_90 (f : Int32 → Int32 → pj_F (Int32 × pj_Z)) : pj_K (Int32 × pj_Z) := fun lv st z => pj_xi lv 3 fun a3 => pj_pi st fun b1 st => pj_pr st 116 0 fun st => pj_pe st (f a3 b1 z.1 z.2.1 z.2.2.1 z.2.2.2)
abbrev pe_X0_doStep_91 (f : Int32 → Int32 → Int32 → pj_F (Int32 × pj_Z)) : pj_K (Int32 × pj_Z) := fun lv st z => pj_xi lv 3 fun a3 => pj_pi st fun b2 st => pj_pi st fun b1 st => pj_pr st 116 0 fun st => pj_pe st (f a3 b1 b2 z.1 z.2.1 z.2.2.1 z.2.2.2)
abbrev pe_X0_doStep_120 (f : Int32 → Int32 → pj_F (Int32 × pj_Z)) : pj_K (Int32 × pj_Z) := fun lv st z => pj_xi lv 3 fun a3 => pj_pi st fun b1 st => pj_pr st 116 0 fun st => pj_pe st (f a3 b1 z.1 z.2.1 z.2.2.1 z.2.2.2)
abbrev pe_X0_doStep_121 (f : Int32 → Int32 → Int32 → pj_F (Int32 × pj_Z)) : pj_K (Int32 × pj_Z) := fun lv st z => pj_xi lv 3 fun a3 => pj_pi st fun b2 st => pj_pi st fun b1 st => pj_pr st 116 0 fun st => pj_pe st (f a3 b1 b2 z.1 z.2.1 z.2.2.1 z.2.2.2)
abbrev px_X0_doStep : pj_C (Int32 × pj_Z) := ((pj_as [(106, 0, 19, 1, 0, true, 0, [(2, 107), (0, 1), (2, 108), (1, 24), (0, 2), (2, 111), (1, 25), (1, 26), (2, 114), (2, 115), (2, 116), (0, 3), (2, 117), (2, 118), (1, 27), (1, 28), (0, 4), (0, 5), (1, 29)]), (114, 100, 4, 1, 0, true, 2000, []), (115, 100, 8, 1, 0, false, 13000, []), (116, 100, 256, 1, 0, false, 14000, [])]), (pj_as [(23, 0, 8, 2, true), (26, 0, 9, 2, true), (29, 0, 10, 2, true)]), (fun _ => none), (fun _ => none), (fun _ => none), ic_X, 4, 1, pj_mI, (pj_as [(143, ph_X0_takeTop)]), fun _ => false)
abbrev pk_X0_doStep : List (Nat × List (Nat × Instr × Nat)) := [(0, [(0, .iload_n 3, 1), (1, .ifCond .lt 10, 3)]), (4, [(4, .iload_n 3, 1), (5, .sipush 256, 3), (8, .if_icmp .lt 5, 3)]), (11, [(11, .iload_n 3, 1), (12, .ireturn, 1)]), (13, [(13, .iload_n 1, 1), (14, .tableswitch 114 0 6 #[42, 53, 82, 114, 114, 114, 112], 42)]), (56, [(56, .aload_n 0, 1), (57, .getfield 29, 3), (60, .iload_n 3, 1), (61, .iload_n 2, 1), (62, .iastore, 1), (63, .iload_n 3, 1), (64, .iconst 1, 1), (65, .iadd, 1), (66, .ireturn, 1)]), (67, [(67, .aload_n 0, 1), (68, .getfield 29, 3), (71, .iload_n 3, 1), (72, .iload_n 2, 1), (73, .ifCond .lt 17, 3)]), (76, [(76, .iload_n 2, 1), (77, .iconst 4, 1), (78, .if_icmp .ge 12, 3)]), (81, [(81, .aload_n 0, 1), (82, .getfield 23, 3), (85, .iload_n 2, 1), (86, .iaload, 1), (87, .goto 4, 3)]), (90, [(90, .iconst 0, 1)]), (91, [(91, .iastore, 1), (92, .iload_n 3, 1), (93, .iconst 1, 1), (94, .iadd, 1), (95, .ireturn, 1)]), (96, [(96, .aload_n 0, 1), (97, .getfield 29, 3), (100, .iload_n 3, 1), (101, .iload_n 2, 1), (102, .ifCond .lt 18, 3)]), (105, [(105, .iload_n 2, 1), (106, .bipush 8, 2), (108, .if_icmp .ge 12, 3)]), (111, [(111, .aload_n 0, 1), (112, .getfield 26, 3), (115, .iload_n 2, 1), (116, .iaload, 1), (117, .goto 4, 3)]), (120, [(120, .iconst 0, 1)]), (121, [(121, .iastore, 1), (122, .iload_n 3, 1), (123, .iconst 1, 1), (124, .iadd, 1), (125, .ireturn, 1)]), (126, [(126, .iload_n 3, 1), (127, .ireturn, 1)]), (128, [(128, .iload_n 3, 1), (129, .iconst 1, 1), (130, .if_icmp .ge 7, 3)]), (133, [(133, .iload_n 3, 1), (134, .goto 12, 3)]), (137, [(137, .aload_n 0, 1), (138, .iload_n 1, 1), (139, .iload_n 2, 1), (140, .iload_n 3, 1), (141, .iconst 1, 1), (142, .isub, 1), (143, .invokevirtual 121, 3)]), (146, [(146, .ireturn, 1)])]
set_option maxRecDepth 100000 in
theorem pq_X0_doStep_91  (a3 : Int32) (b1 : Int32) (b2 : Int32) (s : Nat → Int32) (l : Nat → Int64) (x : Nat → Int32) (y : Nat → Int64) : pl_X0_doStep_91 a3 b1 b2 s l x y = pj_bl px_X0_doStep (pj_rn px_X0_doStep (pj_as pk_X0_doStep) (fun _ => none) 60) [(91, .iastore, 1), (92, .iload_n 3, 1), (93, .iconst 1, 1), (94, .iadd, 1), (95, .ireturn, 1)] 91 [(3, pj_I a3)] [pj_I b2, pj_I b1, pj_O (116, 0)] (s, l, x, y) := rfl
set_option maxRecDepth 100000 in
theorem pq_X0_doStep_90  (a3 : Int32) (b1 : Int32) (s : Nat → Int32) (l : Nat → Int64) (x : Nat → Int32) (y : Nat → Int64) : pl_X0_doStep_90 a3 b1 s l x y = pj_bl px_X0_doStep (pj_rn px_X0_doStep (pj_as pk_X0_doStep) (pj_as [(91, pe_X0_doStep_91 (pl_X0_doStep_91))]) 60) [(90, .iconst 0, 1)] 90 [(3, pj_I a3)] [pj_I b1, pj_O (116, 0)] (s, l, x, y) := rfl
set_option maxRecDepth 100000 in
theorem pq_X0_doStep_121  (a3 : Int32) (b1 : Int32) (b2 : Int32) (s : Nat → Int32) (l : Nat → Int64) (x : Nat → Int32) (y : Nat → Int64) : pl_X0_doStep_121 a3 b1 b2 s l x y = pj_bl px_X0_doStep (pj_rn px_X0_doStep (pj_as pk_X0_doStep) (fun _ => none) 60) [(121, .iastore, 1), (122, .iload_n 3, 1), (123, .iconst 1, 1), (124, .iadd, 1), (125, .ireturn, 1)] 121 [(3, pj_I a3)] [pj_I b2, pj_I b1, pj_O (116, 0)] (s, l, x, y) := rfl
set_option maxRecDepth 100000 in
theorem pq_X0_doStep_120  (a3 : Int32) (b1 : Int32) (s : Nat → Int32) (l : Nat → Int64) (x : Nat → Int32) (y : Nat → Int64) : pl_X0_doStep_120 a3 b1 s l x y = pj_bl px_X0_doStep (pj_rn px_X0_doStep (pj_as pk_X0_doStep) (pj_as [(121, pe_X0_doStep_121 (pl_X0_doStep_121))]) 60) [(120, .iconst 0, 1)] 120 [(3, pj_I a3)] [pj_I b1, pj_O (116, 0)] (s, l, x, y) := rfl
set_option maxRecDepth 100000 in
theorem pq_X0_doStep_m  (a1 : Int32) (a2 : Int32) (a3 : Int32) (s : Nat → Int32) (l : Nat → Int64) (x : Nat → Int32) (y : Nat → Int64) : pf_X0_doStep a1 a2 a3 s l x y = pj_bl px_X0_doStep (pj_rn px_X0_doStep (pj_as pk_X0_doStep) (pj_as [(90, pe_X0_doStep_90 (pl_X0_doStep_90)), (91, pe_X0_doStep_91 (pl_X0_doStep_91)), (120, pe_X0_doStep_120 (pl_X0_doStep_120)), (121, pe_X0_doStep_121 (pl_X0_doStep_121))]) 60) [(0, .iload_n 3, 1), (1, .ifCond .lt 10, 3)] 0 [(0, pj_O (106, 0)), (1, pj_I a1), (2, pj_I a2), (3, pj_I a3)] [] (s, l, x, y) := rfl
theorem pu_X0_doStep_90 {lf : pj_Z → mj_M} {a : Int32 × pj_Z} (f : Int32 → Int32 → pj_F (Int32 × pj_Z)) (hf : ∀ (a3 : Int32) (b1 : Int32) (s : Nat → Int32) (l : Nat → Int64) (x : Nat → Int32) (y : Nat → Int64), f a3 b1 s l x y = some a → pm_Gd 2 15 ie_X0_doStep.1 pm_rI lf 90 [(3, .int a3)] [.int b1, .ref 116] (s, l, x, y) a) : pm_Ex 2 15 ie_X0_doStep.1 pm_rI lf a 90 (pe_X0_doStep_90 f) := by
  intro lv st z hd h
  obtain ⟨a3, g3, h⟩ := pj_xi_inv h
  obtain ⟨b1, r1, e1, h⟩ := pj_pi_inv h
  obtain ⟨r0, e0, h⟩ := pj_pr_inv h
  obtain ⟨e9, h⟩ := pj_pe_inv h
  rw [e1, e0, e9]
  exact mj_wp_sub (mj_sub_cons g3 (mj_sub_nil hd)) (hf _ _ _ _ _ _ h)
theorem pu_X0_doStep_91 {lf : pj_Z → mj_M} {a : Int32 × pj_Z} (f : Int32 → Int32 → Int32 → pj_F (Int32 × pj_Z)) (hf : ∀ (a3 : Int32) (b1 : Int32) (b2 : Int32) (s : Nat → Int32) (l : Nat → Int64) (x : Nat → Int32) (y : Nat → Int64), f a3 b1 b2 s l x y = some a → pm_Gd 2 15 ie_X0_doStep.1 pm_rI lf 91 [(3, .int a3)] [.int b2, .int b1, .ref 116] (s, l, x, y) a) : pm_Ex 2 15 ie_X0_doStep.1 pm_rI lf a 91 (pe_X0_doStep_91 f) := by
  intro lv st z hd h
  obtain ⟨a3, g3, h⟩ := pj_xi_inv h
  obtain ⟨b2, r2, e2, h⟩ := pj_pi_inv h
  obtain ⟨b1, r1, e1, h⟩ := pj_pi_inv h
  obtain ⟨r0, e0, h⟩ := pj_pr_inv h
  obtain ⟨e9, h⟩ := pj_pe_inv h
  rw [e2, e1, e0, e9]
  exact mj_wp_sub (mj_sub_cons g3 (mj_sub_nil hd)) (hf _ _ _ _ _ _ _ h)
theorem pu_X0_doStep_120 {lf : pj_Z → mj_M} {a : Int32 × pj_Z} (f : Int32 → Int32 → pj_F (Int32 × pj_Z)) (hf : ∀ (a3 : Int32) (b1 : Int32) (s : Nat → Int32) (l : Nat → Int64) (x : Nat → Int32) (y : Nat → Int64), f a3 b1 s l x y = some a → pm_Gd 2 15 ie_X0_doStep.1 pm_rI lf 120 [(3, .int a3)] [.int b1, .ref 116] (s, l, x, y) a) : pm_Ex 2 15 ie_X0_doStep.1 pm_rI lf a 120 (pe_X0_doStep_120 f) := by
  intro lv st z hd h
  obtain ⟨a3, g3, h⟩ := pj_xi_inv h
  obtain ⟨b1, r1, e1, h⟩ := pj_pi_inv h
  obtain ⟨r0, e0, h⟩ := pj_pr_inv h
  obtain ⟨e9, h⟩ := pj_pe_inv h
  rw [e1, e0, e9]
  exact mj_wp_sub (mj_sub_cons g3 (mj_sub_nil hd)) (hf _ _ _ _ _ _ h)
theorem pu_X0_doStep_121 {lf : pj_Z → mj_M} {a : Int32 × pj_Z} (f : Int32 → Int32 → Int32 → pj_F (Int32 × pj_Z)) (hf : ∀ (a3 : Int32) (b1 : Int32) (b2 : Int32) (s : Nat → Int32) (l : Nat → Int64) (x : Nat → Int32) (y : Nat → Int64), f a3 b1 b2 s l x y = some a → pm_Gd 2 15 ie_X0_doStep.1 pm_rI lf 121 [(3, .int a3)] [.int b2, .int b1, .ref 116] (s, l, x, y) a) : pm_Ex 2 15 ie_X0_doStep.1 pm_rI lf a 121 (pe_X0_doStep_121 f) := by
  intro lv st z hd h
  obtain ⟨a3, g3, h⟩ := pj_xi_inv h
  obtain ⟨b2, r2, e2, h⟩ := pj_pi_inv h
  obtain ⟨b1, r1, e1, h⟩ := pj_pi_inv h
  obtain ⟨r0, e0, h⟩ := pj_pr_inv h
  obtain ⟨e9, h⟩ := pj_pe_inv h
  rw [e2, e1, e0, e9]
  exact mj_wp_sub (mj_sub_cons g3 (mj_sub_nil hd)) (hf _ _ _ _ _ _ _ h)
set_option maxRecDepth 100000 in
theorem pz_X0_doStep {lf : pj_Z → mj_M} (hT : pj_Lt pj_TC lf) : pj_Cok ic_P (mj_R ic_P 2) 15 ie_X0_doStep.1 (pm_OK lf pm_rI) lf px_X0_doStep := by
  exact pm_cok (c := px_X0_doStep) (pm_part hT (pj_as_all (p := fun b e => pj_TC b = some e) (List.forall_mem_cons.mpr ⟨rfl, (List.forall_mem_cons.mpr ⟨rfl, (List.forall_mem_cons.mpr ⟨rfl, (List.forall_mem_cons.mpr ⟨rfl, (fun _ h => by cases h)⟩)⟩)⟩)⟩))) (pm_in_ok (L := [(23, 0, 8, 2, true), (26, 0, 9, 2, true), (29, 0, 10, 2, true)]) (f := mj_pF ic_P 15) (by decide +kernel)) (fun _ _ h => by cases h) (fun _ _ h => by cases h) (fun _ _ h => by cases h) rfl rfl ⟨by decide, rfl⟩ pm_mI (pj_as_all (p := pm_Cl 2 15 ie_X0_doStep.1 lf (pm_OK lf pm_rI)) (List.forall_mem_cons.mpr ⟨fun _ _ lv st z K a hK h => pc_X0_takeTop hT (by decide) (ix := 121) rfl rfl hK h, (fun _ h => by cases h)⟩)) (fun _ h => by cases h)
set_option maxRecDepth 100000 in
theorem pb_X0_doStep : pm_bks ie_X0_doStep.1.2.2.2.2 pk_X0_doStep = true := by decide +kernel
set_option maxRecDepth 100000 in
theorem pg_X0_doStep_91 {lf : pj_Z → mj_M} (hT : pj_Lt pj_TC lf) : ∀ (a3 : Int32) (b1 : Int32) (b2 : Int32) (s : Nat → Int32) (l : Nat → Int64) (x : Nat → Int32) (y : Nat → Int64) (a : Int32 × pj_Z), pl_X0_doStep_91 a3 b1 b2 s l x y = some a → pm_Gd 2 15 ie_X0_doStep.1 pm_rI lf 91 [(3, .int a3)] [.int b2, .int b1, .ref 116] (s, l, x, y) a := by
  intro a3 b1 b2 s l x y a h
  exact pm_run ((pq_X0_doStep_91  a3 b1 b2 s l x y).symm.trans h) (pz_X0_doStep hT) (pm_bks_ok pb_X0_doStep) (pm_bks_ok pb_X0_doStep _ _ rfl) (pm_ndb_ok rfl) (fun _ _ h => by cases h)
set_option maxRecDepth 100000 in
theorem pg_X0_doStep_90 {lf : pj_Z → mj_M} (hT : pj_Lt pj_TC lf) : ∀ (a3 : Int32) (b1 : Int32) (s : Nat → Int32) (l : Nat → Int64) (x : Nat → Int32) (y : Nat → Int64) (a : Int32 × pj_Z), pl_X0_doStep_90 a3 b1 s l x y = some a → pm_Gd 2 15 ie_X0_doStep.1 pm_rI lf 90 [(3, .int a3)] [.int b1, .ref 116] (s, l, x, y) a := by
  intro a3 b1 s l x y a h
  exact pm_run ((pq_X0_doStep_90  a3 b1 s l x y).symm.trans h) (pz_X0_doStep hT) (pm_bks_ok pb_X0_doStep) (pm_bks_ok pb_X0_doStep _ _ rfl) (pm_ndb_ok rfl) (pj_as_all (p := pm_Ex 2 15 ie_X0_doStep.1 pm_rI lf a) (List.forall_mem_cons.mpr ⟨pu_X0_doStep_91 _ (fun c0 c1 c2 s l x y h => pg_X0_doStep_91 hT c0 c1 c2 s l x y _ h), (fun _ h => by cases h)⟩))
set_option maxRecDepth 100000 in
theorem pg_X0_doStep_121 {lf : pj_Z → mj_M} (hT : pj_Lt pj_TC lf) : ∀ (a3 : Int32) (b1 : Int32) (b2 : Int32) (s : Nat → Int32) (l : Nat → Int64) (x : Nat → Int32) (y : Nat → Int64) (a : Int32 × pj_Z), pl_X0_doStep_121 a3 b1 b2 s l x y = some a → pm_Gd 2 15 ie_X0_doStep.1 pm_rI lf 121 [(3, .int a3)] [.int b2, .int b1, .ref 116] (s, l, x, y) a := by
  intro a3 b1 b2 s l x y a h
  exact pm_run ((pq_X0_doStep_121  a3 b1 b2 s l x y).symm.trans h) (pz_X0_doStep hT) (pm_bks_ok pb_X0_doStep) (pm_bks_ok pb_X0_doStep _ _ rfl) (pm_ndb_ok rfl) (fun _ _ h => by cases h)
set_option maxRecDepth 100000 in
theorem pg_X0_doStep_120 {lf : pj_Z → mj_M} (hT : pj_Lt pj_TC lf) : ∀ (a3 : Int32) (b1 : Int32) (s : Nat → Int32) (l : Nat → Int64) (x : Nat → Int32) (y : Nat → Int64) (a : Int32 × pj_Z), pl_X0_doStep_120 a3 b1 s l x y = some a → pm_Gd 2 15 ie_X0_doStep.1 pm_rI lf 120 [(3, .int a3)] [.int b1, .ref 116] (s, l, x, y) a := by
  intro a3 b1 s l x y a h
  exact pm_run ((pq_X0_doStep_120  a3 b1 s l x y).symm.trans h) (pz_X0_doStep hT) (pm_bks_ok pb_X0_doStep) (pm_bks_ok pb_X0_doStep _ _ rfl) (pm_ndb_ok rfl) (pj_as_all (p := pm_Ex 2 15 ie_X0_doStep.1 pm_rI lf a) (List.forall_mem_cons.mpr ⟨pu_X0_doStep_121 _ (fun c0 c1 c2 s l x y h => pg_X0_doStep_121 hT c0 c1 c2 s l x y _ h), (fun _ h => by cases h)⟩))
set_option maxRecDepth 100000 in
theorem pm_X0_doStep {lf : pj_Z → mj_M} (hT : pj_Lt pj_TC lf) (a1 : Int32) (a2 : Int32) (a3 : Int32) (s : Nat → Int32) (l : Nat → Int64) (x : Nat → Int32) (y : Nat → Int64) (a : Int32 × pj_Z) (h : pf_X0_doStep a1 a2 a3 s l x y = some a) : mj_R ic_P 3 15 [.ref 106, .int a1, .int a2, .int a3] (lf (s, l, x, y)) (pm_rI a.1) (lf a.2) := by
  refine pm_main (Y := ie_X0_doStep.1) rfl (Nat.le_of_ble_eq_true rfl) ?_
  exact pm_run ((pq_X0_doStep_m a1 a2 a3 s l x y).symm.trans h) (pz_X0_doStep hT) (pm_bks_ok pb_X0_doStep) (pm_bks_ok pb_X0_doStep _ _ rfl) (pm_ndb_ok rfl) (pj_as_all (p := pm_Ex 2 15 ie_X0_doStep.1 pm_rI lf a) (List.forall_mem_cons.mpr ⟨pu_X0_doStep_90 _ (fun c0 c1 s l x y h => pg_X0_doStep_90 hT c0 c1 s l x y _ h), (List.forall_mem_cons.mpr ⟨pu_X0_doStep_91 _ (fun c0 c1 c2 s l x y h => pg_X0_doStep_91 hT c0 c1 c2 s l x y _ h), (List.forall_mem_cons.mpr ⟨pu_X0_doStep_120 _ (fun c0 c1 s l x y h => pg_X0_doStep_120 hT c0 c1 s l x y _ h), (List.forall_mem_cons.mpr ⟨pu_X0_doStep_121 _ (fun c0 c1 c2 s l x y h => pg_X0_doStep_121 hT c0 c1 c2 s l x y _ h), (fun _ h => by cases h)⟩)⟩)⟩)⟩))
abbrev ph_X0_doStep {A : Type} : List pj_V → pj_Z → (List pj_V → pj_Z → Option A) → Option A := fun st z K => pj_pi st fun a3 st => pj_pi st fun a2 st => pj_pi st fun a1 st => pj_pr st 106 0 fun st => pj_ps st (pj_b (pf_X0_doStep a1 a2 a3 z.1 z.2.1 z.2.2.1 z.2.2.2) fun r s l x y => K (pj_I r :: st) (s, l, x, y))
set_option maxRecDepth 100000 in
theorem pc_X0_doStep {A : Type} {OK : A → Option Value → mj_M → Prop} {d j pc ix : Nat} {Y : mj_Y} {lf : pj_Z → mj_M} (hT : pj_Lt pj_TC lf) (hd : 3 ≤ d) (hl : mj_lk Y.2.2.2.2 pc = some (.invokevirtual ix, 3)) (hg : mj_pG ic_P j ix = some (15, 3, some 0)) {lv : List (Nat × Value)} {st : List pj_V} {z : pj_Z} {K : List pj_V → pj_Z → Option A} {a : A} (hK : ∀ st z, K st z = some a → pj_Gd ic_P (mj_R ic_P d) j Y OK lf (pc + 3) lv (pj_es st) z a) (h : ph_X0_doStep st z K = some a) : pj_Gd ic_P (mj_R ic_P d) j Y OK lf pc lv (pj_es st) z a := by
  obtain ⟨a3, r3, e3, h⟩ := pj_pi_inv h
  obtain ⟨a2, r2, e2, h⟩ := pj_pi_inv h
  obtain ⟨a1, r1, e1, h⟩ := pj_pi_inv h
  obtain ⟨r0, e0, h⟩ := pj_pr_inv h
  obtain ⟨hs, h⟩ := pj_ps_inv h
  obtain ⟨q, hq, h⟩ := pj_b_inv h
  exact pm_cv (o := 106) hl hg [.int a1, .int a2, .int a3] rfl (by rw [e3, e2, e1, e0]; rfl) hs (by decide) ((hT.2 106 _ rfl).1.2 z 0 (by decide)) (pm_rI q.1) hd (pm_X0_doStep hT a1 a2 a3 z.1 z.2.1 z.2.2.1 z.2.2.2 q hq) rfl (hK _ _ h)
abbrev pe_X0_followProgram_6 (f : Int32 → Int32 → Int32 → pj_F (Unit × pj_Z)) : pj_K (Unit × pj_Z) := fun lv st z => pj_xr lv 0 106 0 <| pj_xi lv 1 fun a1 => pj_xi lv 2 fun a2 => pj_xi lv 3 fun a3 => pj_pe st (f a1 a2 a3 z.1 z.2.1 z.2.2.1 z.2.2.2)
abbrev pe_X0_followProgram_74 (f : Int32 → Int32 → Int32 → Int32 → pj_F (Unit × pj_Z)) : pj_K (Unit × pj_Z) := fun lv st z => pj_xr lv 0 106 0 <| pj_xi lv 1 fun a1 => pj_xi lv 3 fun a3 => pj_xi lv 4 fun a4 => pj_xi lv 5 fun a5 => pj_pe st (f a1 a3 a4 a5 z.1 z.2.1 z.2.2.1 z.2.2.2)
abbrev pe_X0_followProgram_78 (f : Int32 → Int32 → Int32 → Int32 → pj_F (Unit × pj_Z)) : pj_K (Unit × pj_Z) := fun lv st z => pj_xr lv 0 106 0 <| pj_xi lv 1 fun a1 => pj_xi lv 3 fun a3 => pj_xi lv 4 fun a4 => pj_xi lv 5 fun a5 => pj_pe st (f a1 a3 a4 a5 z.1 z.2.1 z.2.2.1 z.2.2.2)
abbrev pe_X0_followProgram_79 (f : Int32 → Int32 → Int32 → Int32 → Int32 → pj_F (Unit × pj_Z)) : pj_K (Unit × pj_Z) := fun lv st z => pj_xr lv 0 106 0 <| pj_xi lv 1 fun a1 => pj_xi lv 3 fun a3 => pj_xi lv 4 fun a4 => pj_xi lv 5 fun a5 => pj_pi st fun b0 st => pj_pe st (f a1 a3 a4 a5 b0 z.1 z.2.1 z.2.2.1 z.2.2.2)
abbrev pe_X0_followProgram_94 (f : Int32 → Int32 → Int32 → Int32 → Int32 → pj_F (Unit × pj_Z)) : pj_K (Unit × pj_Z) := fun lv st z => pj_xr lv 0 106 0 <| pj_xi lv 1 fun a1 => pj_xi lv 3 fun a3 => pj_xi lv 4 fun a4 => pj_xi lv 5 fun a5 => pj_pi st fun b0 st => pj_pe st (f a1 a3 a4 a5 b0 z.1 z.2.1 z.2.2.1 z.2.2.2)
abbrev pe_X0_followProgram_105 (f : Int32 → Int32 → Int32 → pj_F (Unit × pj_Z)) : pj_K (Unit × pj_Z) := fun lv st z => pj_xr lv 0 106 0 <| pj_xi lv 1 fun a1 => pj_xi lv 2 fun a2 => pj_xi lv 3 fun a3 => pj_pe st (f a1 a2 a3 z.1 z.2.1 z.2.2.1 z.2.2.2)
abbrev px_X0_followProgram : pj_C (Unit × pj_Z) := ((pj_as [(106, 0, 19, 1, 0, true, 0, [(2, 107), (0, 1), (2, 108), (1, 24), (0, 2), (2, 111), (1, 25), (1, 26), (2, 114), (2, 115), (2, 116), (0, 3), (2, 117), (2, 118), (1, 27), (1, 28), (0, 4), (0, 5), (1, 29)]), (108, 103, 2, 1, 0, true, 109, []), (109, 100, 256, 2, 1, false, 11000, []), (116, 100, 256, 1, 0, false, 14000, [])]), (pj_as [(17, 0, 2, 2, true), (29, 0, 10, 2, true), (80, 0, 3, 0, false)]), (fun _ => none), (fun _ => none), (fun _ => none), ic_X, 7, 0, pj_mU, (pj_as [(101, ph_X0_doStep)]), fun _ => false)
abbrev pk_X0_followProgram : List (Nat × List (Nat × Instr × Nat)) := [(0, [(0, .iconst 0, 1), (1, .istore_n 1, 1), (2, .iconst 0, 1), (3, .istore_n 2, 1), (4, .iconst 0, 1), (5, .istore_n 3, 1)]), (6, [(6, .iload_n 3, 1), (7, .aload_n 0, 1), (8, .getfield 80, 3), (11, .if_icmp .ge 100, 3)]), (14, [(14, .iload_n 3, 1), (15, .sipush 256, 3), (18, .if_icmp .ge 93, 3)]), (21, [(21, .iload_n 3, 1), (22, .iload_n 2, 1), (23, .if_icmp .lt 82, 3)]), (26, [(26, .aload_n 0, 1), (27, .getfield 17, 3), (30, .iconst 0, 1), (31, .aaload, 1), (32, .iload_n 3, 1), (33, .iaload, 1), (34, .istore 4, 2), (36, .aload_n 0, 1), (37, .getfield 17, 3), (40, .iconst 1, 1), (41, .aaload, 1), (42, .iload_n 3, 1), (43, .iaload, 1), (44, .istore 5, 2), (46, .iload 4, 2), (48, .bipush 6, 2), (50, .if_icmp .eq 24, 3)]), (53, [(53, .iload 4, 2), (55, .iconst 5, 1), (56, .if_icmp .ne 22, 3)]), (59, [(59, .iload_n 1, 1), (60, .ifCond .le 18, 3)]), (63, [(63, .aload_n 0, 1), (64, .getfield 29, 3), (67, .iload_n 1, 1), (68, .iconst 1, 1), (69, .isub, 1), (70, .iaload, 1), (71, .ifCond .ne 7, 3)]), (74, [(74, .iconst 1, 1), (75, .goto 4, 3)]), (78, [(78, .iconst 0, 1)]), (79, [(79, .istore 6, 2), (81, .iload 6, 2), (83, .ifCond .eq 8, 3)]), (86, [(86, .iload 5, 2), (88, .goto 6, 3)]), (91, [(91, .iload_n 3, 1), (92, .iconst 1, 1), (93, .iadd, 1)]), (94, [(94, .istore_n 2, 1), (95, .aload_n 0, 1), (96, .iload 4, 2), (98, .iload 5, 2), (100, .iload_n 1, 1), (101, .invokevirtual 117, 3), (104, .istore_n 1, 1)]), (105, [(105, .iinc 3 1, 3), (108, .goto (-102), 3)]), (111, [(111, .return_, 1)])]
set_option maxRecDepth 100000 in
theorem pq_X0_followProgram_105 (fu : Nat)  (k6 : Int32 → Int32 → Int32 → pj_F (Unit × pj_Z)) (a1 : Int32) (a2 : Int32) (a3 : Int32) (s : Nat → Int32) (l : Nat → Int64) (x : Nat → Int32) (y : Nat → Int64) : pl_X0_followProgram_105 fu k6 a1 a2 a3 s l x y = pj_bl px_X0_followProgram (pj_rn px_X0_followProgram (pj_as pk_X0_followProgram) (pj_as [(6, pe_X0_followProgram_6 k6)]) 60) [(105, .iinc 3 1, 3), (108, .goto (-102), 3)] 105 [(0, pj_O (106, 0)), (1, pj_I a1), (2, pj_I a2), (3, pj_I a3)] [] (s, l, x, y) := rfl
set_option maxRecDepth 100000 in
theorem pq_X0_followProgram_94 (fu : Nat)  (k6 : Int32 → Int32 → Int32 → pj_F (Unit × pj_Z)) (a1 : Int32) (a3 : Int32) (a4 : Int32) (a5 : Int32) (b0 : Int32) (s : Nat → Int32) (l : Nat → Int64) (x : Nat → Int32) (y : Nat → Int64) : pl_X0_followProgram_94 fu k6 a1 a3 a4 a5 b0 s l x y = pj_bl px_X0_followProgram (pj_rn px_X0_followProgram (pj_as pk_X0_followProgram) (pj_as [(6, pe_X0_followProgram_6 k6), (105, pe_X0_followProgram_105 (pl_X0_followProgram_105 fu k6))]) 60) [(94, .istore_n 2, 1), (95, .aload_n 0, 1), (96, .iload 4, 2), (98, .iload 5, 2), (100, .iload_n 1, 1), (101, .invokevirtual 117, 3), (104, .istore_n 1, 1)] 94 [(0, pj_O (106, 0)), (1, pj_I a1), (3, pj_I a3), (4, pj_I a4), (5, pj_I a5)] [pj_I b0] (s, l, x, y) := rfl
set_option maxRecDepth 100000 in
theorem pq_X0_followProgram_79 (fu : Nat)  (k6 : Int32 → Int32 → Int32 → pj_F (Unit × pj_Z)) (a1 : Int32) (a3 : Int32) (a4 : Int32) (a5 : Int32) (b0 : Int32) (s : Nat → Int32) (l : Nat → Int64) (x : Nat → Int32) (y : Nat → Int64) : pl_X0_followProgram_79 fu k6 a1 a3 a4 a5 b0 s l x y = pj_bl px_X0_followProgram (pj_rn px_X0_followProgram (pj_as pk_X0_followProgram) (pj_as [(6, pe_X0_followProgram_6 k6), (94, pe_X0_followProgram_94 (pl_X0_followProgram_94 fu k6))]) 60) [(79, .istore 6, 2), (81, .iload 6, 2), (83, .ifCond .eq 8, 3)] 79 [(0, pj_O (106, 0)), (1, pj_I a1), (3, pj_I a3), (4, pj_I a4), (5, pj_I a5)] [pj_I b0] (s, l, x, y) := rfl
set_option maxRecDepth 100000 in
theorem pq_X0_followProgram_74 (fu : Nat)  (k6 : Int32 → Int32 → Int32 → pj_F (Unit × pj_Z)) (a1 : Int32) (a3 : Int32) (a4 : Int32) (a5 : Int32) (s : Nat → Int32) (l : Nat → Int64) (x : Nat → Int32) (y : Nat → Int64) : pl_X0_followProgram_74 fu k6 a1 a3 a4 a5 s l x y = pj_bl px_X0_followProgram (pj_rn px_X0_followProgram (pj_as pk_X0_followProgram) (pj_as [(6, pe_X0_followProgram_6 k6), (79, pe_X0_followProgram_79 (pl_X0_followProgram_79 fu k6))]) 60) [(74, .iconst 1, 1), (75, .goto 4, 3)] 74 [(0, pj_O (106, 0)), (1, pj_I a1), (3, pj_I a3), (4, pj_I a4), (5, pj_I a5)] [] (s, l, x, y) := rfl
set_option maxRecDepth 100000 in
theorem pq_X0_followProgram_78 (fu : Nat)  (k6 : Int32 → Int32 → Int32 → pj_F (Unit × pj_Z)) (a1 : Int32) (a3 : Int32) (a4 : Int32) (a5 : Int32) (s : Nat → Int32) (l : Nat → Int64) (x : Nat → Int32) (y : Nat → Int64) : pl_X0_followProgram_78 fu k6 a1 a3 a4 a5 s l x y = pj_bl px_X0_followProgram (pj_rn px_X0_followProgram (pj_as pk_X0_followProgram) (pj_as [(6, pe_X0_followProgram_6 k6), (79, pe_X0_followProgram_79 (pl_X0_followProgram_79 fu k6))]) 60) [(78, .iconst 0, 1)] 78 [(0, pj_O (106, 0)), (1, pj_I a1), (3, pj_I a3), (4, pj_I a4), (5, pj_I a5)] [] (s, l, x, y) := rfl
set_option maxRecDepth 100000 in
theorem pq_X0_followProgram_6 (fu : Nat)  (n : Nat) (a1 : Int32) (a2 : Int32) (a3 : Int32) (s : Nat → Int32) (l : Nat → Int64) (x : Nat → Int32) (y : Nat → Int64) : pl_X0_followProgram_6 fu (n + 1) a1 a2 a3 s l x y = pj_bl px_X0_followProgram (pj_rn px_X0_followProgram (pj_as pk_X0_followProgram) (pj_as [(6, pe_X0_followProgram_6 (pl_X0_followProgram_6 fu n)), (74, pe_X0_followProgram_74 (pl_X0_followProgram_74 fu (pl_X0_followProgram_6 fu n))), (78, pe_X0_followProgram_78 (pl_X0_followProgram_78 fu (pl_X0_followProgram_6 fu n))), (105, pe_X0_followProgram_105 (pl_X0_followProgram_105 fu (pl_X0_followProgram_6 fu n)))]) 60) [(6, .iload_n 3, 1), (7, .aload_n 0, 1), (8, .getfield 80, 3), (11, .if_icmp .ge 100, 3)] 6 [(0, pj_O (106, 0)), (1, pj_I a1), (2, pj_I a2), (3, pj_I a3)] [] (s, l, x, y) := rfl
set_option maxRecDepth 100000 in
theorem pq_X0_followProgram_m (fu : Nat)   (s : Nat → Int32) (l : Nat → Int64) (x : Nat → Int32) (y : Nat → Int64) : po_X0_followProgram fu  s l x y = pj_bl px_X0_followProgram (pj_rn px_X0_followProgram (pj_as pk_X0_followProgram) (pj_as [(6, pe_X0_followProgram_6 (pl_X0_followProgram_6 fu fu))]) 60) [(0, .iconst 0, 1), (1, .istore_n 1, 1), (2, .iconst 0, 1), (3, .istore_n 2, 1), (4, .iconst 0, 1), (5, .istore_n 3, 1)] 0 [(0, pj_O (106, 0))] [] (s, l, x, y) := rfl
theorem pu_X0_followProgram_6 {lf : pj_Z → mj_M} {a : Unit × pj_Z} (f : Int32 → Int32 → Int32 → pj_F (Unit × pj_Z)) (hf : ∀ (a1 : Int32) (a2 : Int32) (a3 : Int32) (s : Nat → Int32) (l : Nat → Int64) (x : Nat → Int32) (y : Nat → Int64), f a1 a2 a3 s l x y = some a → pm_Gd 3 14 ie_X0_followProgram.1 pm_rU lf 6 [(0, .ref 106), (1, .int a1), (2, .int a2), (3, .int a3)] [] (s, l, x, y) a) : pm_Ex 3 14 ie_X0_followProgram.1 pm_rU lf a 6 (pe_X0_followProgram_6 f) := by
  intro lv st z hd h
  obtain ⟨g0, h⟩ := pj_xr_inv h
  obtain ⟨a1, g1, h⟩ := pj_xi_inv h
  obtain ⟨a2, g2, h⟩ := pj_xi_inv h
  obtain ⟨a3, g3, h⟩ := pj_xi_inv h
  obtain ⟨e9, h⟩ := pj_pe_inv h
  rw [e9]
  exact mj_wp_sub (mj_sub_cons g0 (mj_sub_cons g1 (mj_sub_cons g2 (mj_sub_cons g3 (mj_sub_nil hd))))) (hf _ _ _ _ _ _ _ h)
theorem pu_X0_followProgram_74 {lf : pj_Z → mj_M} {a : Unit × pj_Z} (f : Int32 → Int32 → Int32 → Int32 → pj_F (Unit × pj_Z)) (hf : ∀ (a1 : Int32) (a3 : Int32) (a4 : Int32) (a5 : Int32) (s : Nat → Int32) (l : Nat → Int64) (x : Nat → Int32) (y : Nat → Int64), f a1 a3 a4 a5 s l x y = some a → pm_Gd 3 14 ie_X0_followProgram.1 pm_rU lf 74 [(0, .ref 106), (1, .int a1), (3, .int a3), (4, .int a4), (5, .int a5)] [] (s, l, x, y) a) : pm_Ex 3 14 ie_X0_followProgram.1 pm_rU lf a 74 (pe_X0_followProgram_74 f) := by
  intro lv st z hd h
  obtain ⟨g0, h⟩ := pj_xr_inv h
  obtain ⟨a1, g1, h⟩ := pj_xi_inv h
  obtain ⟨a3, g3, h⟩ := pj_xi_inv h
  obtain ⟨a4, g4, h⟩ := pj_xi_inv h
  obtain ⟨a5, g5, h⟩ := pj_xi_inv h
  obtain ⟨e9, h⟩ := pj_pe_inv h
  rw [e9]
  exact mj_wp_sub (mj_sub_cons g0 (mj_sub_cons g1 (mj_sub_cons g3 (mj_sub_cons g4 (mj_sub_cons g5 (mj_sub_nil hd)))))) (hf _ _ _ _ _ _ _ _ h)
theorem pu_X0_followProgram_78 {lf : pj_Z → mj_M} {a : Unit × pj_Z} (f : Int32 → Int32 → Int32 → Int32 → pj_F (Unit × pj_Z)) (hf : ∀ (a1 : Int32) (a3 : Int32) (a4 : Int32) (a5 : Int32) (s : Nat → Int32) (l : Nat → Int64) (x : Nat → Int32) (y : Nat → Int64), f a1 a3 a4 a5 s l x y = some a → pm_Gd 3 14 ie_X0_followProgram.1 pm_rU lf 78 [(0, .ref 106), (1, .int a1), (3, .int a3), (4, .int a4), (5, .int a5)] [] (s, l, x, y) a) : pm_Ex 3 14 ie_X0_followProgram.1 pm_rU lf a 78 (pe_X0_followProgram_78 f) := by
  intro lv st z hd h
  obtain ⟨g0, h⟩ := pj_xr_inv h
  obtain ⟨a1, g1, h⟩ := pj_xi_inv h
  obtain ⟨a3, g3, h⟩ := pj_xi_inv h
  obtain ⟨a4, g4, h⟩ := pj_xi_inv h
  obtain ⟨a5, g5, h⟩ := pj_xi_inv h
  obtain ⟨e9, h⟩ := pj_pe_inv h
  rw [e9]
  exact mj_wp_sub (mj_sub_cons g0 (mj_sub_cons g1 (mj_sub_cons g3 (mj_sub_cons g4 (mj_sub_cons g5 (mj_sub_nil hd)))))) (hf _ _ _ _ _ _ _ _ h)
theorem pu_X0_followProgram_79 {lf : pj_Z → mj_M} {a : Unit × pj_Z} (f : Int32 → Int32 → Int32 → Int32 → Int32 → pj_F (Unit × pj_Z)) (hf : ∀ (a1 : Int32) (a3 : Int32) (a4 : Int32) (a5 : Int32) (b0 : Int32) (s : Nat → Int32) (l : Nat → Int64) (x : Nat → Int32) (y : Nat → Int64), f a1 a3 a4 a5 b0 s l x y = some a → pm_Gd 3 14 ie_X0_followProgram.1 pm_rU lf 79 [(0, .ref 106), (1, .int a1), (3, .int a3), (4, .int a4), (5, .int a5)] [.int b0] (s, l, x, y) a) : pm_Ex 3 14 ie_X0_followProgram.1 pm_rU lf a 79 (pe_X0_followProgram_79 f) := by
  intro lv st z hd h
  obtain ⟨g0, h⟩ := pj_xr_inv h
  obtain ⟨a1, g1, h⟩ := pj_xi_inv h
  obtain ⟨a3, g3, h⟩ := pj_xi_inv h
  obtain ⟨a4, g4, h⟩ := pj_xi_inv h
  obtain ⟨a5, g5, h⟩ := pj_xi_inv h
  obtain ⟨b0, r0, e0, h⟩ := pj_pi_inv h
  obtain ⟨e9, h⟩ := pj_pe_inv h
  rw [e0, e9]
  exact mj_wp_sub (mj_sub_cons g0 (mj_sub_cons g1 (mj_sub_cons g3 (mj_sub_cons g4 (mj_sub_cons g5 (mj_sub_nil hd)))))) (hf _ _ _ _ _ _ _ _ _ h)
theorem pu_X0_followProgram_94 {lf : pj_Z → mj_M} {a : Unit × pj_Z} (f : Int32 → Int32 → Int32 → Int32 → Int32 → pj_F (Unit × pj_Z)) (hf : ∀ (a1 : Int32) (a3 : Int32) (a4 : Int32) (a5 : Int32) (b0 : Int32) (s : Nat → Int32) (l : Nat → Int64) (x : Nat → Int32) (y : Nat → Int64), f a1 a3 a4 a5 b0 s l x y = some a → pm_Gd 3 14 ie_X0_followProgram.1 pm_rU lf 94 [(0, .ref 106), (1, .int a1), (3, .int a3), (4, .int a4), (5, .int a5)] [.int b0] (s, l, x, y) a) : pm_Ex 3 14 ie_X0_followProgram.1 pm_rU lf a 94 (pe_X0_followProgram_94 f) := by
  intro lv st z hd h
  obtain ⟨g0, h⟩ := pj_xr_inv h
  obtain ⟨a1, g1, h⟩ := pj_xi_inv h
  obtain ⟨a3, g3, h⟩ := pj_xi_inv h
  obtain ⟨a4, g4, h⟩ := pj_xi_inv h
  obtain ⟨a5, g5, h⟩ := pj_xi_inv h
  obtain ⟨b0, r0, e0, h⟩ := pj_pi_inv h
  obtain ⟨e9, h⟩ := pj_pe_inv h
  rw [e0, e9]
  exact mj_wp_sub (mj_sub_cons g0 (mj_sub_cons g1 (mj_sub_cons g3 (mj_sub_cons g4 (mj_sub_cons g5 (mj_sub_nil hd)))))) (hf _ _ _ _ _ _ _ _ _ h)
theorem pu_X0_followProgram_105 {lf : pj_Z → mj_M} {a : Unit × pj_Z} (f : Int32 → Int32 → Int32 → pj_F (Unit × pj_Z)) (hf : ∀ (a1 : Int32) (a2 : Int32) (a3 : Int32) (s : Nat → Int32) (l : Nat → Int64) (x : Nat → Int32) (y : Nat → Int64), f a1 a2 a3 s l x y = some a → pm_Gd 3 14 ie_X0_followProgram.1 pm_rU lf 105 [(0, .ref 106), (1, .int a1), (2, .int a2), (3, .int a3)] [] (s, l, x, y) a) : pm_Ex 3 14 ie_X0_followProgram.1 pm_rU lf a 105 (pe_X0_followProgram_105 f) := by
  intro lv st z hd h
  obtain ⟨g0, h⟩ := pj_xr_inv h
  obtain ⟨a1, g1, h⟩ := pj_xi_inv h
  obtain ⟨a2, g2, h⟩ := pj_xi_inv h
  obtain ⟨a3, g3, h⟩ := pj_xi_inv h
  obtain ⟨e9, h⟩ := pj_pe_inv h
  rw [e9]
  exact mj_wp_sub (mj_sub_cons g0 (mj_sub_cons g1 (mj_sub_cons g2 (mj_sub_cons g3 (mj_sub_nil hd))))) (hf _ _ _ _ _ _ _ h)
set_option maxRecDepth 100000 in
theorem pz_X0_followProgram {lf : pj_Z → mj_M} (hT : pj_Lt pj_TC lf) : pj_Cok ic_P (mj_R ic_P 3) 14 ie_X0_followProgram.1 (pm_OK lf pm_rU) lf px_X0_followProgram := by
  exact pm_cok (c := px_X0_followProgram) (pm_part hT (pj_as_all (p := fun b e => pj_TC b = some e) (List.forall_mem_cons.mpr ⟨rfl, (List.forall_mem_cons.mpr ⟨rfl, (List.forall_mem_cons.mpr ⟨rfl, (List.forall_mem_cons.mpr ⟨rfl, (fun _ h => by cases h)⟩)⟩)⟩)⟩))) (pm_in_ok (L := [(17, 0, 2, 2, true), (29, 0, 10, 2, true), (80, 0, 3, 0, false)]) (f := mj_pF ic_P 14) (by decide +kernel)) (fun _ _ h => by cases h) (fun _ _ h => by cases h) (fun _ _ h => by cases h) rfl rfl ⟨by decide, rfl⟩ pm_mU (pj_as_all (p := pm_Cl 3 14 ie_X0_followProgram.1 lf (pm_OK lf pm_rU)) (List.forall_mem_cons.mpr ⟨fun _ _ lv st z K a hK h => pc_X0_doStep hT (by decide) (ix := 117) rfl rfl hK h, (fun _ h => by cases h)⟩)) (fun _ h => by cases h)
set_option maxRecDepth 100000 in
theorem pb_X0_followProgram : pm_bks ie_X0_followProgram.1.2.2.2.2 pk_X0_followProgram = true := by decide +kernel
set_option maxRecDepth 100000 in
theorem pg_X0_followProgram_105 {fu : Nat} {lf : pj_Z → mj_M} (hT : pj_Lt pj_TC lf) {k6 : Int32 → Int32 → Int32 → pj_F (Unit × pj_Z)} (hk6 : ∀ (a1 : Int32) (a2 : Int32) (a3 : Int32) (s : Nat → Int32) (l : Nat → Int64) (x : Nat → Int32) (y : Nat → Int64) (a : Unit × pj_Z), k6 a1 a2 a3 s l x y = some a → pm_Gd 3 14 ie_X0_followProgram.1 pm_rU lf 6 [(0, .ref 106), (1, .int a1), (2, .int a2), (3, .int a3)] [] (s, l, x, y) a) : ∀ (a1 : Int32) (a2 : Int32) (a3 : Int32) (s : Nat → Int32) (l : Nat → Int64) (x : Nat → Int32) (y : Nat → Int64) (a : Unit × pj_Z), pl_X0_followProgram_105 fu k6 a1 a2 a3 s l x y = some a → pm_Gd 3 14 ie_X0_followProgram.1 pm_rU lf 105 [(0, .ref 106), (1, .int a1), (2, .int a2), (3, .int a3)] [] (s, l, x, y) a := by
  intro a1 a2 a3 s l x y a h
  exact pm_run ((pq_X0_followProgram_105 fu k6 a1 a2 a3 s l x y).symm.trans h) (pz_X0_followProgram hT) (pm_bks_ok pb_X0_followProgram) (pm_bks_ok pb_X0_followProgram _ _ rfl) (pm_ndb_ok rfl) (pj_as_all (p := pm_Ex 3 14 ie_X0_followProgram.1 pm_rU lf a) (List.forall_mem_cons.mpr ⟨pu_X0_followProgram_6 _ (fun c0 c1 c2 s l x y h => hk6 c0 c1 c2 s l x y _ h), (fun _ h => by cases h)⟩))
set_option maxRecDepth 100000 in
theorem pg_X0_followProgram_94 {fu : Nat} {lf : pj_Z → mj_M} (hT : pj_Lt pj_TC lf) {k6 : Int32 → Int32 → Int32 → pj_F (Unit × pj_Z)} (hk6 : ∀ (a1 : Int32) (a2 : Int32) (a3 : Int32) (s : Nat → Int32) (l : Nat → Int64) (x : Nat → Int32) (y : Nat → Int64) (a : Unit × pj_Z), k6 a1 a2 a3 s l x y = some a → pm_Gd 3 14 ie_X0_followProgram.1 pm_rU lf 6 [(0, .ref 106), (1, .int a1), (2, .int a2), (3, .int a3)] [] (s, l, x, y) a) : ∀ (a1 : Int32) (a3 : Int32) (a4 : Int32) (a5 : Int32) (b0 : Int32) (s : Nat → Int32) (l : Nat → Int64) (x : Nat → Int32) (y : Nat → Int64) (a : Unit × pj_Z), pl_X0_followProgram_94 fu k6 a1 a3 a4 a5 b0 s l x y = some a → pm_Gd 3 14 ie_X0_followProgram.1 pm_rU lf 94 [(0, .ref 106), (1, .int a1), (3, .int a3), (4, .int a4), (5, .int a5)] [.int b0] (s, l, x, y) a := by
  intro a1 a3 a4 a5 b0 s l x y a h
  exact pm_run ((pq_X0_followProgram_94 fu k6 a1 a3 a4 a5 b0 s l x y).symm.trans h) (pz_X0_followProgram hT) (pm_bks_ok pb_X0_followProgram) (pm_bks_ok pb_X0_followProgram _ _ rfl) (pm_ndb_ok rfl) (pj_as_all (p := pm_Ex 3 14 ie_X0_followProgram.1 pm_rU lf a) (List.forall_mem_cons.mpr ⟨pu_X0_followProgram_6 _ (fun c0 c1 c2 s l x y h => hk6 c0 c1 c2 s l x y _ h), (List.forall_mem_cons.mpr ⟨pu_X0_followProgram_105 _ (fun c0 c1 c2 s l x y h => pg_X0_followProgram_105 hT hk6 c0 c1 c2 s l x y _ h), (fun _ h => by cases h)⟩)⟩))
set_option maxRecDepth 100000 in
theorem pg_X0_followProgram_79 {fu : Nat} {lf : pj_Z → mj_M} (hT : pj_Lt pj_TC lf) {k6 : Int32 → Int32 → Int32 → pj_F (Unit × pj_Z)} (hk6 : ∀ (a1 : Int32) (a2 : Int32) (a3 : Int32) (s : Nat → Int32) (l : Nat → Int64) (x : Nat → Int32) (y : Nat → Int64) (a : Unit × pj_Z), k6 a1 a2 a3 s l x y = some a → pm_Gd 3 14 ie_X0_followProgram.1 pm_rU lf 6 [(0, .ref 106), (1, .int a1), (2, .int a2), (3, .int a3)] [] (s, l, x, y) a) : ∀ (a1 : Int32) (a3 : Int32) (a4 : Int32) (a5 : Int32) (b0 : Int32) (s : Nat → Int32) (l : Nat → Int64) (x : Nat → Int32) (y : Nat → Int64) (a : Unit × pj_Z), pl_X0_followProgram_79 fu k6 a1 a3 a4 a5 b0 s l x y = some a → pm_Gd 3 14 ie_X0_followProgram.1 pm_rU lf 79 [(0, .ref 106), (1, .int a1), (3, .int a3), (4, .int a4), (5, .int a5)] [.int b0] (s, l, x, y) a := by
  intro a1 a3 a4 a5 b0 s l x y a h
  exact pm_run ((pq_X0_followProgram_79 fu k6 a1 a3 a4 a5 b0 s l x y).symm.trans h) (pz_X0_followProgram hT) (pm_bks_ok pb_X0_followProgram) (pm_bks_ok pb_X0_followProgram _ _ rfl) (pm_ndb_ok rfl) (pj_as_all (p := pm_Ex 3 14 ie_X0_followProgram.1 pm_rU lf a) (List.forall_mem_cons.mpr ⟨pu_X0_followProgram_6 _ (fun c0 c1 c2 s l x y h => hk6 c0 c1 c2 s l x y _ h), (List.forall_mem_cons.mpr ⟨pu_X0_followProgram_94 _ (fun c0 c1 c2 c3 c4 s l x y h => pg_X0_followProgram_94 hT hk6 c0 c1 c2 c3 c4 s l x y _ h), (fun _ h => by cases h)⟩)⟩))
set_option maxRecDepth 100000 in
theorem pg_X0_followProgram_74 {fu : Nat} {lf : pj_Z → mj_M} (hT : pj_Lt pj_TC lf) {k6 : Int32 → Int32 → Int32 → pj_F (Unit × pj_Z)} (hk6 : ∀ (a1 : Int32) (a2 : Int32) (a3 : Int32) (s : Nat → Int32) (l : Nat → Int64) (x : Nat → Int32) (y : Nat → Int64) (a : Unit × pj_Z), k6 a1 a2 a3 s l x y = some a → pm_Gd 3 14 ie_X0_followProgram.1 pm_rU lf 6 [(0, .ref 106), (1, .int a1), (2, .int a2), (3, .int a3)] [] (s, l, x, y) a) : ∀ (a1 : Int32) (a3 : Int32) (a4 : Int32) (a5 : Int32) (s : Nat → Int32) (l : Nat → Int64) (x : Nat → Int32) (y : Nat → Int64) (a : Unit × pj_Z), pl_X0_followProgram_74 fu k6 a1 a3 a4 a5 s l x y = some a → pm_Gd 3 14 ie_X0_followProgram.1 pm_rU lf 74 [(0, .ref 106), (1, .int a1), (3, .int a3), (4, .int a4), (5, .int a5)] [] (s, l, x, y) a := by
  intro a1 a3 a4 a5 s l x y a h
  exact pm_run ((pq_X0_followProgram_74 fu k6 a1 a3 a4 a5 s l x y).symm.trans h) (pz_X0_followProgram hT) (pm_bks_ok pb_X0_followProgram) (pm_bks_ok pb_X0_followProgram _ _ rfl) (pm_ndb_ok rfl) (pj_as_all (p := pm_Ex 3 14 ie_X0_followProgram.1 pm_rU lf a) (List.forall_mem_cons.mpr ⟨pu_X0_followProgram_6 _ (fun c0 c1 c2 s l x y h => hk6 c0 c1 c2 s l x y _ h), (List.forall_mem_cons.mpr ⟨pu_X0_followProgram_79 _ (fun c0 c1 c2 c3 c4 s l x y h => pg_X0_followProgram_79 hT hk6 c0 c1 c2 c3 c4 s l x y _ h), (fun _ h => by cases h)⟩)⟩))
set_option maxRecDepth 100000 in
theorem pg_X0_followProgram_78 {fu : Nat} {lf : pj_Z → mj_M} (hT : pj_Lt pj_TC lf) {k6 : Int32 → Int32 → Int32 → pj_F (Unit × pj_Z)} (hk6 : ∀ (a1 : Int32) (a2 : Int32) (a3 : Int32) (s : Nat → Int32) (l : Nat → Int64) (x : Nat → Int32) (y : Nat → Int64) (a : Unit × pj_Z), k6 a1 a2 a3 s l x y = some a → pm_Gd 3 14 ie_X0_followProgram.1 pm_rU lf 6 [(0, .ref 106), (1, .int a1), (2, .int a2), (3, .int a3)] [] (s, l, x, y) a) : ∀ (a1 : Int32) (a3 : Int32) (a4 : Int32) (a5 : Int32) (s : Nat → Int32) (l : Nat → Int64) (x : Nat → Int32) (y : Nat → Int64) (a : Unit × pj_Z), pl_X0_followProgram_78 fu k6 a1 a3 a4 a5 s l x y = some a → pm_Gd 3 14 ie_X0_followProgram.1 pm_rU lf 78 [(0, .ref 106), (1, .int a1), (3, .int a3), (4, .int a4), (5, .int a5)] [] (s, l, x, y) a := by
  intro a1 a3 a4 a5 s l x y a h
  exact pm_run ((pq_X0_followProgram_78 fu k6 a1 a3 a4 a5 s l x y).symm.trans h) (pz_X0_followProgram hT) (pm_bks_ok pb_X0_followProgram) (pm_bks_ok pb_X0_followProgram _ _ rfl) (pm_ndb_ok rfl) (pj_as_all (p := pm_Ex 3 14 ie_X0_followProgram.1 pm_rU lf a) (List.forall_mem_cons.mpr ⟨pu_X0_followProgram_6 _ (fun c0 c1 c2 s l x y h => hk6 c0 c1 c2 s l x y _ h), (List.forall_mem_cons.mpr ⟨pu_X0_followProgram_79 _ (fun c0 c1 c2 c3 c4 s l x y h => pg_X0_followProgram_79 hT hk6 c0 c1 c2 c3 c4 s l x y _ h), (fun _ h => by cases h)⟩)⟩))
set_option maxRecDepth 100000 in
theorem pg_X0_followProgram_6 {fu : Nat} {lf : pj_Z → mj_M} (hT : pj_Lt pj_TC lf) : ∀ (n : Nat), ∀ (a1 : Int32) (a2 : Int32) (a3 : Int32) (s : Nat → Int32) (l : Nat → Int64) (x : Nat → Int32) (y : Nat → Int64) (a : Unit × pj_Z), pl_X0_followProgram_6 fu n a1 a2 a3 s l x y = some a → pm_Gd 3 14 ie_X0_followProgram.1 pm_rU lf 6 [(0, .ref 106), (1, .int a1), (2, .int a2), (3, .int a3)] [] (s, l, x, y) a := by
  intro n
  induction n with
  | zero => intro a1 a2 a3 s l x y a h; cases (show (none : Option (Unit × pj_Z)) = some a from h)
  | succ n ih =>
    intro a1 a2 a3 s l x y a h
    exact pm_run ((pq_X0_followProgram_6 fu n a1 a2 a3 s l x y).symm.trans h) (pz_X0_followProgram hT) (pm_bks_ok pb_X0_followProgram) (pm_bks_ok pb_X0_followProgram _ _ rfl) (pm_ndb_ok rfl) (pj_as_all (p := pm_Ex 3 14 ie_X0_followProgram.1 pm_rU lf a) (List.forall_mem_cons.mpr ⟨pu_X0_followProgram_6 _ (fun c0 c1 c2 s l x y h => ih c0 c1 c2 s l x y _ h), (List.forall_mem_cons.mpr ⟨pu_X0_followProgram_74 _ (fun c0 c1 c2 c3 s l x y h => pg_X0_followProgram_74 hT (fun a1 a2 a3 s l x y a h => ih a1 a2 a3 s l x y a h) c0 c1 c2 c3 s l x y _ h), (List.forall_mem_cons.mpr ⟨pu_X0_followProgram_78 _ (fun c0 c1 c2 c3 s l x y h => pg_X0_followProgram_78 hT (fun a1 a2 a3 s l x y a h => ih a1 a2 a3 s l x y a h) c0 c1 c2 c3 s l x y _ h), (List.forall_mem_cons.mpr ⟨pu_X0_followProgram_105 _ (fun c0 c1 c2 s l x y h => pg_X0_followProgram_105 hT (fun a1 a2 a3 s l x y a h => ih a1 a2 a3 s l x y a h) c0 c1 c2 s l x y _ h), (fun _ h => by cases h)⟩)⟩)⟩)⟩))
set_option maxRecDepth 100000 in
theorem pm_X0_followProgram {lf : pj_Z → mj_M} (hT : pj_Lt pj_TC lf)  (s : Nat → Int32) (l : Nat → Int64) (x : Nat → Int32) (y : Nat → Int64) (a : Unit × pj_Z) (h : pf_X0_followProgram  s l x y = some a) : mj_R ic_P 4 14 [.ref 106] (lf (s, l, x, y)) (pm_rU a.1) (lf a.2) := by
  refine pm_main (Y := ie_X0_followProgram.1) rfl (Nat.le_of_ble_eq_true rfl) ?_
  exact pm_run ((pq_X0_followProgram_m 1000  s l x y).symm.trans h) (pz_X0_followProgram hT) (pm_bks_ok pb_X0_followProgram) (pm_bks_ok pb_X0_followProgram _ _ rfl) (pm_ndb_ok rfl) (pj_as_all (p := pm_Ex 3 14 ie_X0_followProgram.1 pm_rU lf a) (List.forall_mem_cons.mpr ⟨pu_X0_followProgram_6 _ (fun c0 c1 c2 s l x y h => pg_X0_followProgram_6 hT _ c0 c1 c2 s l x y _ h), (fun _ h => by cases h)⟩))
abbrev ph_X0_followProgram {A : Type} : List pj_V → pj_Z → (List pj_V → pj_Z → Option A) → Option A := fun st z K => pj_pr st 106 0 fun st => pj_ps st (pj_b (pf_X0_followProgram  z.1 z.2.1 z.2.2.1 z.2.2.2) fun r s l x y => K st (s, l, x, y))
set_option maxRecDepth 100000 in
theorem pc_X0_followProgram {A : Type} {OK : A → Option Value → mj_M → Prop} {d j pc ix : Nat} {Y : mj_Y} {lf : pj_Z → mj_M} (hT : pj_Lt pj_TC lf) (hd : 4 ≤ d) (hl : mj_lk Y.2.2.2.2 pc = some (.invokevirtual ix, 3)) (hg : mj_pG ic_P j ix = some (14, 0, some 0)) {lv : List (Nat × Value)} {st : List pj_V} {z : pj_Z} {K : List pj_V → pj_Z → Option A} {a : A} (hK : ∀ st z, K st z = some a → pj_Gd ic_P (mj_R ic_P d) j Y OK lf (pc + 3) lv (pj_es st) z a) (h : ph_X0_followProgram st z K = some a) : pj_Gd ic_P (mj_R ic_P d) j Y OK lf pc lv (pj_es st) z a := by
  obtain ⟨r0, e0, h⟩ := pj_pr_inv h
  obtain ⟨hs, h⟩ := pj_ps_inv h
  obtain ⟨q, hq, h⟩ := pj_b_inv h
  exact pm_cv (o := 106) hl hg [] rfl (by rw [e0]; rfl) hs (by decide) ((hT.2 106 _ rfl).1.2 z 0 (by decide)) (pm_rU q.1) hd (pm_X0_followProgram hT  z.1 z.2.1 z.2.2.1 z.2.2.2 q hq) rfl (hK _ _ h)
abbrev px_J9_floorMod_7cf53 : pj_C (Int32 × pj_Z) := ((fun _ => none), (fun _ => none), (fun _ => none), (fun _ => none), (fun _ => none), ic_X, 3, 1, pj_mI, (fun _ => none), fun _ => false)
abbrev pk_J9_floorMod_7cf53 : List (Nat × List (Nat × Instr × Nat)) := [(0, [(0, .iload_n 0, 1), (1, .iload_n 1, 1), (2, .irem, 1), (3, .istore_n 2, 1), (4, .iload_n 0, 1), (5, .iload_n 1, 1), (6, .ixor, 1), (7, .ifCond .ge 11, 3)]), (10, [(10, .iload_n 2, 1), (11, .ifCond .eq 7, 3)]), (14, [(14, .iload_n 2, 1), (15, .iload_n 1, 1), (16, .iadd, 1), (17, .ireturn, 1)]), (18, [(18, .iload_n 2, 1), (19, .ireturn, 1)])]
set_option maxRecDepth 100000 in
theorem pq_J9_floorMod_7cf53_m  (a0 : Int32) (a1 : Int32) (s : Nat → Int32) (l : Nat → Int64) (x : Nat → Int32) (y : Nat → Int64) : pf_J9_floorMod_7cf53 a0 a1 s l x y = pj_bl px_J9_floorMod_7cf53 (pj_rn px_J9_floorMod_7cf53 (pj_as pk_J9_floorMod_7cf53) (fun _ => none) 60) [(0, .iload_n 0, 1), (1, .iload_n 1, 1), (2, .irem, 1), (3, .istore_n 2, 1), (4, .iload_n 0, 1), (5, .iload_n 1, 1), (6, .ixor, 1), (7, .ifCond .ge 11, 3)] 0 [(0, pj_I a0), (1, pj_I a1)] [] (s, l, x, y) := rfl
set_option maxRecDepth 100000 in
theorem pz_J9_floorMod_7cf53 {lf : pj_Z → mj_M} (hT : pj_Lt (fun _ => none) lf) : pj_Cok ic_P (mj_R ic_P 0) 29002 ie_J9_floorMod_7cf53.1 (pm_OK lf pm_rI) lf px_J9_floorMod_7cf53 := by
  exact pm_cok (c := px_J9_floorMod_7cf53) hT (fun _ _ h => by cases h) (fun _ _ h => by cases h) (fun _ _ h => by cases h) (fun _ _ h => by cases h) rfl rfl ⟨by decide, rfl⟩ pm_mI (fun _ _ h => by cases h) (fun _ h => by cases h)
set_option maxRecDepth 100000 in
theorem pb_J9_floorMod_7cf53 : pm_bks ie_J9_floorMod_7cf53.1.2.2.2.2 pk_J9_floorMod_7cf53 = true := by decide +kernel
set_option maxRecDepth 100000 in
theorem pm_J9_floorMod_7cf53 {lf : pj_Z → mj_M} (hT : pj_Lt (fun _ => none) lf) (a0 : Int32) (a1 : Int32) (s : Nat → Int32) (l : Nat → Int64) (x : Nat → Int32) (y : Nat → Int64) (a : Int32 × pj_Z) (h : pf_J9_floorMod_7cf53 a0 a1 s l x y = some a) : mj_R ic_P 1 29002 [.int a0, .int a1] (lf (s, l, x, y)) (pm_rI a.1) (lf a.2) := by
  refine pm_main (Y := ie_J9_floorMod_7cf53.1) rfl (Nat.le_of_ble_eq_true rfl) ?_
  exact pm_run ((pq_J9_floorMod_7cf53_m a0 a1 s l x y).symm.trans h) (pz_J9_floorMod_7cf53 hT) (pm_bks_ok pb_J9_floorMod_7cf53) (pm_bks_ok pb_J9_floorMod_7cf53 _ _ rfl) (pm_ndb_ok rfl) (fun _ _ h => by cases h)
abbrev ph_J9_floorMod_7cf53 {A : Type} : List pj_V → pj_Z → (List pj_V → pj_Z → Option A) → Option A := fun st z K => pj_pi st fun a1 st => pj_pi st fun a0 st => pj_ps st (pj_b (pf_J9_floorMod_7cf53 a0 a1 z.1 z.2.1 z.2.2.1 z.2.2.2) fun r s l x y => K (pj_I r :: st) (s, l, x, y))
set_option maxRecDepth 100000 in
theorem pc_J9_floorMod_7cf53 {A : Type} {OK : A → Option Value → mj_M → Prop} {d j pc ix : Nat} {Y : mj_Y} {lf : pj_Z → mj_M} (hT : pj_Lt (fun _ => none) lf) (hd : 1 ≤ d) (hl : mj_lk Y.2.2.2.2 pc = some (.invokestatic ix, 3)) (hg : mj_pG ic_P j ix = some (29002, 2, none)) {lv : List (Nat × Value)} {st : List pj_V} {z : pj_Z} {K : List pj_V → pj_Z → Option A} {a : A} (hK : ∀ st z, K st z = some a → pj_Gd ic_P (mj_R ic_P d) j Y OK lf (pc + 3) lv (pj_es st) z a) (h : ph_J9_floorMod_7cf53 st z K = some a) : pj_Gd ic_P (mj_R ic_P d) j Y OK lf pc lv (pj_es st) z a := by
  obtain ⟨a1, r1, e1, h⟩ := pj_pi_inv h
  obtain ⟨a0, r0, e0, h⟩ := pj_pi_inv h
  obtain ⟨hs, h⟩ := pj_ps_inv h
  obtain ⟨q, hq, h⟩ := pj_b_inv h
  exact pm_cs hl hg [.int a0, .int a1] rfl (by rw [e1, e0]; rfl) hs (pm_rI q.1) hd (pm_J9_floorMod_7cf53 hT a0 a1 z.1 z.2.1 z.2.2.1 z.2.2.2 q hq) rfl (hK _ _ h)
abbrev px_X0_nextSlot : pj_C (Int32 × pj_Z) := ((pj_as [(106, 0, 19, 1, 0, true, 0, [(2, 107), (0, 1), (2, 108), (1, 24), (0, 2), (2, 111), (1, 25), (1, 26), (2, 114), (2, 115), (2, 116), (0, 3), (2, 117), (2, 118), (1, 27), (1, 28), (0, 4), (0, 5), (1, 29)])]), (pj_as [(130, 0, 14, 0, false), (133, 0, 15, 0, false)]), (fun _ => none), (fun _ => none), (fun _ => none), ic_X, 1, 1, pj_mI, (pj_as [(12, ph_J9_floorMod_7cf53)]), fun _ => false)
abbrev pk_X0_nextSlot : List (Nat × List (Nat × Instr × Nat)) := [(0, [(0, .aload_n 0, 1), (1, .getfield 133, 3), (4, .aload_n 0, 1), (5, .getfield 130, 3), (8, .iadd, 1), (9, .sipush 128, 3), (12, .invokestatic 140, 3), (15, .ireturn, 1)])]
set_option maxRecDepth 100000 in
theorem pq_X0_nextSlot_m   (s : Nat → Int32) (l : Nat → Int64) (x : Nat → Int32) (y : Nat → Int64) : pf_X0_nextSlot  s l x y = pj_bl px_X0_nextSlot (pj_rn px_X0_nextSlot (pj_as pk_X0_nextSlot) (fun _ => none) 60) [(0, .aload_n 0, 1), (1, .getfield 133, 3), (4, .aload_n 0, 1), (5, .getfield 130, 3), (8, .iadd, 1), (9, .sipush 128, 3), (12, .invokestatic 140, 3), (15, .ireturn, 1)] 0 [(0, pj_O (106, 0))] [] (s, l, x, y) := rfl
set_option maxRecDepth 100000 in
theorem pz_X0_nextSlot {lf : pj_Z → mj_M} (hT : pj_Lt pj_TC lf) : pj_Cok ic_P (mj_R ic_P 1) 19 ie_X0_nextSlot.1 (pm_OK lf pm_rI) lf px_X0_nextSlot := by
  exact pm_cok (c := px_X0_nextSlot) (pm_part hT (pj_as_all (p := fun b e => pj_TC b = some e) (List.forall_mem_cons.mpr ⟨rfl, (fun _ h => by cases h)⟩))) (pm_in_ok (L := [(130, 0, 14, 0, false), (133, 0, 15, 0, false)]) (f := mj_pF ic_P 19) (by decide +kernel)) (fun _ _ h => by cases h) (fun _ _ h => by cases h) (fun _ _ h => by cases h) rfl rfl ⟨by decide, rfl⟩ pm_mI (pj_as_all (p := pm_Cl 1 19 ie_X0_nextSlot.1 lf (pm_OK lf pm_rI)) (List.forall_mem_cons.mpr ⟨fun _ _ lv st z K a hK h => pc_J9_floorMod_7cf53 (pm_none hT) (by decide) (ix := 140) rfl rfl hK h, (fun _ h => by cases h)⟩)) (fun _ h => by cases h)
set_option maxRecDepth 100000 in
theorem pb_X0_nextSlot : pm_bks ie_X0_nextSlot.1.2.2.2.2 pk_X0_nextSlot = true := by decide +kernel
set_option maxRecDepth 100000 in
theorem pm_X0_nextSlot {lf : pj_Z → mj_M} (hT : pj_Lt pj_TC lf)  (s : Nat → Int32) (l : Nat → Int64) (x : Nat → Int32) (y : Nat → Int64) (a : Int32 × pj_Z) (h : pf_X0_nextSlot  s l x y = some a) : mj_R ic_P 2 19 [.ref 106] (lf (s, l, x, y)) (pm_rI a.1) (lf a.2) := by
  refine pm_main (Y := ie_X0_nextSlot.1) rfl (Nat.le_of_ble_eq_true rfl) ?_
  exact pm_run ((pq_X0_nextSlot_m  s l x y).symm.trans h) (pz_X0_nextSlot hT) (pm_bks_ok pb_X0_nextSlot) (pm_bks_ok pb_X0_nextSlot _ _ rfl) (pm_ndb_ok rfl) (fun _ _ h => by cases h)
abbrev ph_X0_nextSlot {A : Type} : List pj_V → pj_Z → (List pj_V → pj_Z → Option A) → Option A := fun st z K => pj_pr st 106 0 fun st => pj_ps st (pj_b (pf_X0_nextSlot  z.1 z.2.1 z.2.2.1 z.2.2.2) fun r s l x y => K (pj_I r :: st) (s, l, x, y))
set_option maxRecDepth 100000 in
theorem pc_X0_nextSlot {A : Type} {OK : A → Option Value → mj_M → Prop} {d j pc ix : Nat} {Y : mj_Y} {lf : pj_Z → mj_M} (hT : pj_Lt pj_TC lf) (hd : 2 ≤ d) (hl : mj_lk Y.2.2.2.2 pc = some (.invokevirtual ix, 3)) (hg : mj_pG ic_P j ix = some (19, 0, some 0)) {lv : List (Nat × Value)} {st : List pj_V} {z : pj_Z} {K : List pj_V → pj_Z → Option A} {a : A} (hK : ∀ st z, K st z = some a → pj_Gd ic_P (mj_R ic_P d) j Y OK lf (pc + 3) lv (pj_es st) z a) (h : ph_X0_nextSlot st z K = some a) : pj_Gd ic_P (mj_R ic_P d) j Y OK lf pc lv (pj_es st) z a := by
  obtain ⟨r0, e0, h⟩ := pj_pr_inv h
  obtain ⟨hs, h⟩ := pj_ps_inv h
  obtain ⟨q, hq, h⟩ := pj_b_inv h
  exact pm_cv (o := 106) hl hg [] rfl (by rw [e0]; rfl) hs (by decide) ((hT.2 106 _ rfl).1.2 z 0 (by decide)) (pm_rI q.1) hd (pm_X0_nextSlot hT  z.1 z.2.1 z.2.2.1 z.2.2.2 q hq) rfl (hK _ _ h)
abbrev px_X11_bit : pj_C (Int32 × pj_Z) := ((fun _ => none), (fun _ => none), (fun _ => none), (fun _ => none), (fun _ => none), ic_X, 1, 1, pj_mI, (fun _ => none), fun _ => false)
abbrev pk_X11_bit : List (Nat × List (Nat × Instr × Nat)) := [(0, [(0, .iload_n 0, 1), (1, .ifCond .eq 7, 3)]), (4, [(4, .iconst 1, 1), (5, .goto 4, 3)]), (8, [(8, .iconst 0, 1)]), (9, [(9, .ireturn, 1)])]
set_option maxRecDepth 100000 in
theorem pq_X11_bit_m  (a0 : Int32) (s : Nat → Int32) (l : Nat → Int64) (x : Nat → Int32) (y : Nat → Int64) : pf_X11_bit a0 s l x y = pj_bl px_X11_bit (pj_rn px_X11_bit (pj_as pk_X11_bit) (fun _ => none) 60) [(0, .iload_n 0, 1), (1, .ifCond .eq 7, 3)] 0 [(0, pj_I a0)] [] (s, l, x, y) := rfl
set_option maxRecDepth 100000 in
theorem pz_X11_bit {lf : pj_Z → mj_M} (hT : pj_Lt pj_TC lf) : pj_Cok ic_P (mj_R ic_P 0) 11048 ie_X11_bit.1 (pm_OK lf pm_rI) lf px_X11_bit := by
  exact pm_cok (c := px_X11_bit) (pm_none hT) (fun _ _ h => by cases h) (fun _ _ h => by cases h) (fun _ _ h => by cases h) (fun _ _ h => by cases h) rfl rfl ⟨by decide, rfl⟩ pm_mI (fun _ _ h => by cases h) (fun _ h => by cases h)
set_option maxRecDepth 100000 in
theorem pb_X11_bit : pm_bks ie_X11_bit.1.2.2.2.2 pk_X11_bit = true := by decide +kernel
set_option maxRecDepth 100000 in
theorem pm_X11_bit {lf : pj_Z → mj_M} (hT : pj_Lt pj_TC lf) (a0 : Int32) (s : Nat → Int32) (l : Nat → Int64) (x : Nat → Int32) (y : Nat → Int64) (a : Int32 × pj_Z) (h : pf_X11_bit a0 s l x y = some a) : mj_R ic_P 1 11048 [.int a0] (lf (s, l, x, y)) (pm_rI a.1) (lf a.2) := by
  refine pm_main (Y := ie_X11_bit.1) rfl (Nat.le_of_ble_eq_true rfl) ?_
  exact pm_run ((pq_X11_bit_m a0 s l x y).symm.trans h) (pz_X11_bit hT) (pm_bks_ok pb_X11_bit) (pm_bks_ok pb_X11_bit _ _ rfl) (pm_ndb_ok rfl) (fun _ _ h => by cases h)
abbrev ph_X11_bit {A : Type} : List pj_V → pj_Z → (List pj_V → pj_Z → Option A) → Option A := fun st z K => pj_pi st fun a0 st => pj_ps st (pj_b (pf_X11_bit a0 z.1 z.2.1 z.2.2.1 z.2.2.2) fun r s l x y => K (pj_I r :: st) (s, l, x, y))
set_option maxRecDepth 100000 in
theorem pc_X11_bit {A : Type} {OK : A → Option Value → mj_M → Prop} {d j pc ix : Nat} {Y : mj_Y} {lf : pj_Z → mj_M} (hT : pj_Lt pj_TC lf) (hd : 1 ≤ d) (hl : mj_lk Y.2.2.2.2 pc = some (.invokestatic ix, 3)) (hg : mj_pG ic_P j ix = some (11048, 1, none)) {lv : List (Nat × Value)} {st : List pj_V} {z : pj_Z} {K : List pj_V → pj_Z → Option A} {a : A} (hK : ∀ st z, K st z = some a → pj_Gd ic_P (mj_R ic_P d) j Y OK lf (pc + 3) lv (pj_es st) z a) (h : ph_X11_bit st z K = some a) : pj_Gd ic_P (mj_R ic_P d) j Y OK lf pc lv (pj_es st) z a := by
  obtain ⟨a0, r0, e0, h⟩ := pj_pi_inv h
  obtain ⟨hs, h⟩ := pj_ps_inv h
  obtain ⟨q, hq, h⟩ := pj_b_inv h
  exact pm_cs hl hg [.int a0] rfl (by rw [e0]; rfl) hs (pm_rI q.1) hd (pm_X11_bit hT a0 z.1 z.2.1 z.2.2.1 z.2.2.2 q hq) rfl (hK _ _ h)
abbrev px_X11_tellWheel : pj_C (Int64 × pj_Z) := ((pj_as [(0, 11, 17, 1, 0, true, 0, [(2, 1), (2, 20), (2, 58), (2, 68), (2, 82), (2, 83), (2, 85), (2, 96), (2, 102), (2, 106), (2, 122), (0, 93), (0, 94), (0, 95), (1, 1), (1, 2), (0, 96)]), (58, 2, 19, 1, 0, true, 0, [(0, 19), (0, 20), (1, 4), (1, 5), (1, 6), (1, 7), (0, 21), (0, 22), (0, 23), (0, 24), (0, 25), (2, 59), (2, 63), (0, 26), (1, 8), (1, 9), (1, 10), (0, 27), (0, 28)]), (68, 6, 19, 1, 0, true, 0, [(2, 69), (2, 70), (2, 71), (2, 72), (0, 57), (0, 58), (2, 73), (2, 74), (2, 75), (2, 76), (2, 77), (2, 78), (1, 11), (0, 59), (0, 60), (0, 61), (2, 79), (2, 80), (2, 81)])]), (pj_as [(26, 11, 2, 2, true), (33, 11, 3, 2, true), (86, 11, 11, 1, false), (90, 11, 12, 0, false), (114, 6, 12, 0, false), (127, 2, 0, 0, false), (454, 11, 14, 0, false), (625, 2, 17, 0, false), (628, 2, 3, 0, false), (631, 2, 18, 3, false), (638, 2, 13, 0, false), (816, 2, 6, 0, false), (822, 2, 7, 0, false), (825, 2, 8, 0, false), (837, 6, 14, 0, false), (843, 6, 13, 0, false), (1063, 2, 4, 0, false), (1066, 2, 5, 0, false), (1069, 2, 2, 0, false), (1072, 2, 9, 0, false), (1075, 6, 4, 0, false), (1078, 6, 5, 0, false)]), (fun _ => none), (fun _ => none), (fun _ => none), ic_X, 2, 3, pj_mL, (pj_as [(290, ph_X11_bit)]), fun _ => false)
abbrev pk_X11_tellWheel : List (Nat × List (Nat × Instr × Nat)) := [(0, [(0, .iload_n 1, 1), (1, .tableswitch 282 0 18 #[91, 96, 102, 111, 135, 159, 168, 177, 186, 195, 204, 213, 219, 228, 237, 246, 255, 264, 273], 91)]), (92, [(92, .aload_n 0, 1), (93, .getfield 86, 3), (96, .lreturn, 1)]), (97, [(97, .aload_n 0, 1), (98, .getfield 90, 3), (101, .i2l, 1), (102, .lreturn, 1)]), (103, [(103, .aload_n 0, 1), (104, .getfield 26, 3), (107, .getfield 127, 3), (110, .i2l, 1), (111, .lreturn, 1)]), (112, [(112, .aload_n 0, 1), (113, .getfield 26, 3), (116, .getfield 127, 3), (119, .iconst 2, 1), (120, .if_icmp .lt 14, 3)]), (123, [(123, .aload_n 0, 1), (124, .getfield 26, 3), (127, .getfield 1063, 3), (130, .i2l, 1), (131, .goto 4, 3)]), (134, [(134, .lconst 0, 1)]), (135, [(135, .lreturn, 1)]), (136, [(136, .aload_n 0, 1), (137, .getfield 26, 3), (140, .getfield 127, 3), (143, .iconst 2, 1), (144, .if_icmp .lt 14, 3)]), (147, [(147, .aload_n 0, 1), (148, .getfield 26, 3), (151, .getfield 1066, 3), (154, .i2l, 1), (155, .goto 4, 3)]), (158, [(158, .lconst 0, 1)]), (159, [(159, .lreturn, 1)]), (160, [(160, .aload_n 0, 1), (161, .getfield 26, 3), (164, .getfield 1069, 3), (167, .i2l, 1), (168, .lreturn, 1)]), (169, [(169, .aload_n 0, 1), (170, .getfield 26, 3), (173, .getfield 628, 3), (176, .i2l, 1), (177, .lreturn, 1)]), (178, [(178, .aload_n 0, 1), (179, .getfield 26, 3), (182, .getfield 816, 3), (185, .i2l, 1), (186, .lreturn, 1)]), (187, [(187, .aload_n 0, 1), (188, .getfield 26, 3), (191, .getfield 822, 3), (194, .i2l, 1), (195, .lreturn, 1)]), (196, [(196, .aload_n 0, 1), (197, .getfield 26, 3), (200, .getfield 825, 3), (203, .i2l, 1), (204, .lreturn, 1)]), (205, [(205, .aload_n 0, 1), (206, .getfield 26, 3), (209, .getfield 1072, 3), (212, .i2l, 1), (213, .lreturn, 1)]), (214, [(214, .aload_n 0, 1), (215, .getfield 454, 3), (218, .i2l, 1), (219, .lreturn, 1)]), (220, [(220, .aload_n 0, 1), (221, .getfield 33, 3), (224, .getfield 1075, 3), (227, .i2l, 1), (228, .lreturn, 1)]), (229, [(229, .aload_n 0, 1), (230, .getfield 33, 3), (233, .getfield 1078, 3), (236, .i2l, 1), (237, .lreturn, 1)]), (238, [(238, .aload_n 0, 1), (239, .getfield 33, 3), (242, .getfield 114, 3), (245, .i2l, 1), (246, .lreturn, 1)]), (247, [(247, .aload_n 0, 1), (248, .getfield 33, 3), (251, .getfield 843, 3), (254, .i2l, 1), (255, .lreturn, 1)]), (256, [(256, .aload_n 0, 1), (257, .getfield 33, 3), (260, .getfield 837, 3), (263, .i2l, 1), (264, .lreturn, 1)]), (265, [(265, .aload_n 0, 1), (266, .getfield 26, 3), (269, .getfield 638, 3), (272, .i2l, 1), (273, .lreturn, 1)]), (274, [(274, .aload_n 0, 1), (275, .getfield 26, 3), (278, .getfield 625, 3), (281, .i2l, 1), (282, .lreturn, 1)]), (283, [(283, .aload_n 0, 1), (284, .getfield 26, 3), (287, .getfield 631, 3), (290, .invokestatic 409, 3), (293, .i2l, 1), (294, .lreturn, 1)])]
set_option maxRecDepth 100000 in
theorem pq_X11_tellWheel_m  (a1 : Int32) (s : Nat → Int32) (l : Nat → Int64) (x : Nat → Int32) (y : Nat → Int64) : pf_X11_tellWheel a1 s l x y = pj_bl px_X11_tellWheel (pj_rn px_X11_tellWheel (pj_as pk_X11_tellWheel) (fun _ => none) 60) [(0, .iload_n 1, 1), (1, .tableswitch 282 0 18 #[91, 96, 102, 111, 135, 159, 168, 177, 186, 195, 204, 213, 219, 228, 237, 246, 255, 264, 273], 91)] 0 [(0, pj_O (0, 0)), (1, pj_I a1)] [] (s, l, x, y) := rfl
set_option maxRecDepth 100000 in
theorem pz_X11_tellWheel {lf : pj_Z → mj_M} (hT : pj_Lt pj_TC lf) : pj_Cok ic_P (mj_R ic_P 1) 11101 ie_X11_tellWheel.1 (pm_OK lf pm_rL) lf px_X11_tellWheel := by
  exact pm_cok (c := px_X11_tellWheel) (pm_part hT (pj_as_all (p := fun b e => pj_TC b = some e) (List.forall_mem_cons.mpr ⟨rfl, (List.forall_mem_cons.mpr ⟨rfl, (List.forall_mem_cons.mpr ⟨rfl, (fun _ h => by cases h)⟩)⟩)⟩))) (pm_in_ok (L := [(26, 11, 2, 2, true), (33, 11, 3, 2, true), (86, 11, 11, 1, false), (90, 11, 12, 0, false), (114, 6, 12, 0, false), (127, 2, 0, 0, false), (454, 11, 14, 0, false), (625, 2, 17, 0, false), (628, 2, 3, 0, false), (631, 2, 18, 3, false), (638, 2, 13, 0, false), (816, 2, 6, 0, false), (822, 2, 7, 0, false), (825, 2, 8, 0, false), (837, 6, 14, 0, false), (843, 6, 13, 0, false), (1063, 2, 4, 0, false), (1066, 2, 5, 0, false), (1069, 2, 2, 0, false), (1072, 2, 9, 0, false), (1075, 6, 4, 0, false), (1078, 6, 5, 0, false)]) (f := mj_pF ic_P 11101) (by decide +kernel)) (fun _ _ h => by cases h) (fun _ _ h => by cases h) (fun _ _ h => by cases h) rfl rfl ⟨by decide, rfl⟩ pm_mL (pj_as_all (p := pm_Cl 1 11101 ie_X11_tellWheel.1 lf (pm_OK lf pm_rL)) (List.forall_mem_cons.mpr ⟨fun _ _ lv st z K a hK h => pc_X11_bit hT (by decide) (ix := 409) rfl rfl hK h, (fun _ h => by cases h)⟩)) (fun _ h => by cases h)
set_option maxRecDepth 100000 in
theorem pb_X11_tellWheel : pm_bks ie_X11_tellWheel.1.2.2.2.2 pk_X11_tellWheel = true := by decide +kernel
set_option maxRecDepth 100000 in
theorem pm_X11_tellWheel {lf : pj_Z → mj_M} (hT : pj_Lt pj_TC lf) (a1 : Int32) (s : Nat → Int32) (l : Nat → Int64) (x : Nat → Int32) (y : Nat → Int64) (a : Int64 × pj_Z) (h : pf_X11_tellWheel a1 s l x y = some a) : mj_R ic_P 2 11101 [.ref 0, .int a1] (lf (s, l, x, y)) (pm_rL a.1) (lf a.2) := by
  refine pm_main (Y := ie_X11_tellWheel.1) rfl (Nat.le_of_ble_eq_true rfl) ?_
  exact pm_run ((pq_X11_tellWheel_m a1 s l x y).symm.trans h) (pz_X11_tellWheel hT) (pm_bks_ok pb_X11_tellWheel) (pm_bks_ok pb_X11_tellWheel _ _ rfl) (pm_ndb_ok rfl) (fun _ _ h => by cases h)
abbrev ph_X11_tellWheel {A : Type} : List pj_V → pj_Z → (List pj_V → pj_Z → Option A) → Option A := fun st z K => pj_pi st fun a1 st => pj_pr st 0 0 fun st => pj_ps st (pj_b (pf_X11_tellWheel a1 z.1 z.2.1 z.2.2.1 z.2.2.2) fun r s l x y => K (pj_L r :: st) (s, l, x, y))
set_option maxRecDepth 100000 in
theorem pc_X11_tellWheel {A : Type} {OK : A → Option Value → mj_M → Prop} {d j pc ix : Nat} {Y : mj_Y} {lf : pj_Z → mj_M} (hT : pj_Lt pj_TC lf) (hd : 2 ≤ d) (hl : mj_lk Y.2.2.2.2 pc = some (.invokevirtual ix, 3)) (hg : mj_pG ic_P j ix = some (11101, 1, some 11)) {lv : List (Nat × Value)} {st : List pj_V} {z : pj_Z} {K : List pj_V → pj_Z → Option A} {a : A} (hK : ∀ st z, K st z = some a → pj_Gd ic_P (mj_R ic_P d) j Y OK lf (pc + 3) lv (pj_es st) z a) (h : ph_X11_tellWheel st z K = some a) : pj_Gd ic_P (mj_R ic_P d) j Y OK lf pc lv (pj_es st) z a := by
  obtain ⟨a1, r1, e1, h⟩ := pj_pi_inv h
  obtain ⟨r0, e0, h⟩ := pj_pr_inv h
  obtain ⟨hs, h⟩ := pj_ps_inv h
  obtain ⟨q, hq, h⟩ := pj_b_inv h
  exact pm_cv (o := 0) hl hg [.int a1] rfl (by rw [e1, e0]; rfl) hs (by decide) ((hT.2 0 _ rfl).1.2 z 0 (by decide)) (pm_rL q.1) hd (pm_X11_tellWheel hT a1 z.1 z.2.1 z.2.2.1 z.2.2.2 q hq) rfl (hK _ _ h)
abbrev px_X11_tellLoop : pj_C (Int64 × pj_Z) := ((pj_as [(0, 11, 17, 1, 0, true, 0, [(2, 1), (2, 20), (2, 58), (2, 68), (2, 82), (2, 83), (2, 85), (2, 96), (2, 102), (2, 106), (2, 122), (0, 93), (0, 94), (0, 95), (1, 1), (1, 2), (0, 96)]), (82, 9, 18, 1, 0, true, 0, [(0, 71), (0, 72), (1, 12), (0, 73), (0, 74), (0, 75), (0, 76), (0, 77), (0, 78), (0, 79), (0, 80), (1, 13), (0, 81), (0, 82), (0, 83), (0, 84), (0, 85), (0, 86)]), (83, 3, 20, 1, 0, true, 0, [(0, 29), (0, 30), (1, 14), (1, 15), (0, 31), (0, 32), (0, 33), (0, 34), (0, 35), (0, 36), (0, 37), (0, 38), (0, 39), (0, 40), (1, 16), (1, 17), (0, 41), (0, 42), (0, 43), (2, 84)]), (84, 100, 16, 1, 0, true, 9000, [])]), (pj_as [(40, 11, 4, 2, true), (47, 11, 5, 2, true), (477, 11, 16, 3, false), (538, 3, 0, 3, false), (622, 3, 10, 3, false), (667, 3, 9, 3, false), (679, 9, 5, 0, false), (682, 3, 18, 0, false), (685, 3, 19, 2, true), (706, 9, 8, 0, false), (713, 3, 11, 3, false), (737, 9, 0, 0, false), (740, 9, 6, 0, false), (761, 3, 13, 3, false), (774, 9, 1, 0, false), (904, 3, 12, 3, false), (1081, 9, 7, 0, false), (1084, 9, 9, 0, false)]), (fun _ => none), (fun _ => none), (fun _ => none), ic_X, 2, 3, pj_mL, (pj_as [(146, ph_X11_bit), (158, ph_X11_bit), (170, ph_X11_bit), (182, ph_X11_bit), (193, ph_X11_bit), (207, ph_X11_bit), (222, ph_X11_cellAtHand), (235, ph_X11_cellAtHand), (245, ph_X11_bit)]), fun _ => false)
abbrev pk_X11_tellLoop : List (Nat × List (Nat × Instr × Nat)) := [(0, [(0, .iload_n 1, 1), (1, .tableswitch 240 20 34 #[75, 84, 93, 102, 111, 120, 129, 138, 150, 162, 174, 199, 211, 220, 226], 75)]), (76, [(76, .aload_n 0, 1), (77, .getfield 40, 3), (80, .getfield 737, 3), (83, .i2l, 1), (84, .lreturn, 1)]), (85, [(85, .aload_n 0, 1), (86, .getfield 40, 3), (89, .getfield 774, 3), (92, .i2l, 1), (93, .lreturn, 1)]), (94, [(94, .aload_n 0, 1), (95, .getfield 40, 3), (98, .getfield 679, 3), (101, .i2l, 1), (102, .lreturn, 1)]), (103, [(103, .aload_n 0, 1), (104, .getfield 40, 3), (107, .getfield 740, 3), (110, .i2l, 1), (111, .lreturn, 1)]), (112, [(112, .aload_n 0, 1), (113, .getfield 40, 3), (116, .getfield 1081, 3), (119, .i2l, 1), (120, .lreturn, 1)]), (121, [(121, .aload_n 0, 1), (122, .getfield 40, 3), (125, .getfield 706, 3), (128, .i2l, 1), (129, .lreturn, 1)]), (130, [(130, .aload_n 0, 1), (131, .getfield 40, 3), (134, .getfield 1084, 3), (137, .i2l, 1), (138, .lreturn, 1)]), (139, [(139, .aload_n 0, 1), (140, .getfield 47, 3), (143, .getfield 538, 3), (146, .invokestatic 409, 3), (149, .i2l, 1), (150, .lreturn, 1)]), (151, [(151, .aload_n 0, 1), (152, .getfield 47, 3), (155, .getfield 667, 3), (158, .invokestatic 409, 3), (161, .i2l, 1), (162, .lreturn, 1)]), (163, [(163, .aload_n 0, 1), (164, .getfield 47, 3), (167, .getfield 622, 3), (170, .invokestatic 409, 3), (173, .i2l, 1), (174, .lreturn, 1)]), (175, [(175, .aload_n 0, 1), (176, .getfield 47, 3), (179, .getfield 713, 3), (182, .invokestatic 409, 3), (185, .iconst 2, 1), (186, .aload_n 0, 1), (187, .getfield 47, 3), (190, .getfield 904, 3), (193, .invokestatic 409, 3), (196, .imul, 1), (197, .iadd, 1), (198, .i2l, 1), (199, .lreturn, 1)]), (200, [(200, .aload_n 0, 1), (201, .getfield 47, 3), (204, .getfield 761, 3), (207, .invokestatic 409, 3), (210, .i2l, 1), (211, .lreturn, 1)]), (212, [(212, .aload_n 0, 1), (213, .getfield 47, 3), (216, .getfield 682, 3), (219, .i2l, 1), (220, .lreturn, 1)]), (221, [(221, .aload_n 0, 1), (222, .invokevirtual 688, 3), (225, .i2l, 1), (226, .lreturn, 1)]), (227, [(227, .aload_n 0, 1), (228, .getfield 47, 3), (231, .getfield 685, 3), (234, .aload_n 0, 1), (235, .invokevirtual 688, 3), (238, .iaload, 1), (239, .i2l, 1), (240, .lreturn, 1)]), (241, [(241, .aload_n 0, 1), (242, .getfield 477, 3), (245, .invokestatic 409, 3), (248, .i2l, 1), (249, .lreturn, 1)])]
set_option maxRecDepth 100000 in
theorem pq_X11_tellLoop_m  (a1 : Int32) (s : Nat → Int32) (l : Nat → Int64) (x : Nat → Int32) (y : Nat → Int64) : pf_X11_tellLoop a1 s l x y = pj_bl px_X11_tellLoop (pj_rn px_X11_tellLoop (pj_as pk_X11_tellLoop) (fun _ => none) 60) [(0, .iload_n 1, 1), (1, .tableswitch 240 20 34 #[75, 84, 93, 102, 111, 120, 129, 138, 150, 162, 174, 199, 211, 220, 226], 75)] 0 [(0, pj_O (0, 0)), (1, pj_I a1)] [] (s, l, x, y) := rfl
set_option maxRecDepth 100000 in
theorem pz_X11_tellLoop {lf : pj_Z → mj_M} (hT : pj_Lt pj_TC lf) : pj_Cok ic_P (mj_R ic_P 1) 11102 ie_X11_tellLoop.1 (pm_OK lf pm_rL) lf px_X11_tellLoop := by
  exact pm_cok (c := px_X11_tellLoop) (pm_part hT (pj_as_all (p := fun b e => pj_TC b = some e) (List.forall_mem_cons.mpr ⟨rfl, (List.forall_mem_cons.mpr ⟨rfl, (List.forall_mem_cons.mpr ⟨rfl, (List.forall_mem_cons.mpr ⟨rfl, (fun _ h => by cases h)⟩)⟩)⟩)⟩))) (pm_in_ok (L := [(40, 11, 4, 2, true), (47, 11, 5, 2, true), (477, 11, 16, 3, false), (538, 3, 0, 3, false), (622, 3, 10, 3, false), (667, 3, 9, 3, false), (679, 9, 5, 0, false), (682, 3, 18, 0, false), (685, 3, 19, 2, true), (706, 9, 8, 0, false), (713, 3, 11, 3, false), (737, 9, 0, 0, false), (740, 9, 6, 0, false), (761, 3, 13, 3, false), (774, 9, 1, 0, false), (904, 3, 12, 3, false), (1081, 9, 7, 0, false), (1084, 9, 9, 0, false)]) (f := mj_pF ic_P 11102) (by decide +kernel)) (fun _ _ h => by cases h) (fun _ _ h => by cases h) (fun _ _ h => by cases h) rfl rfl ⟨by decide, rfl⟩ pm_mL (pj_as_all (p := pm_Cl 1 11102 ie_X11_tellLoop.1 lf (pm_OK lf pm_rL)) (List.forall_mem_cons.mpr ⟨fun _ _ lv st z K a hK h => pc_X11_bit hT (by decide) (ix := 409) rfl rfl hK h, (List.forall_mem_cons.mpr ⟨fun _ _ lv st z K a hK h => pc_X11_bit hT (by decide) (ix := 409) rfl rfl hK h, (List.forall_mem_cons.mpr ⟨fun _ _ lv st z K a hK h => pc_X11_bit hT (by decide) (ix := 409) rfl rfl hK h, (List.forall_mem_cons.mpr ⟨fun _ _ lv st z K a hK h => pc_X11_bit hT (by decide) (ix := 409) rfl rfl hK h, (List.forall_mem_cons.mpr ⟨fun _ _ lv st z K a hK h => pc_X11_bit hT (by decide) (ix := 409) rfl rfl hK h, (List.forall_mem_cons.mpr ⟨fun _ _ lv st z K a hK h => pc_X11_bit hT (by decide) (ix := 409) rfl rfl hK h, (List.forall_mem_cons.mpr ⟨fun _ _ lv st z K a hK h => pc_X11_cellAtHand hT (by decide) (ix := 688) rfl rfl hK h, (List.forall_mem_cons.mpr ⟨fun _ _ lv st z K a hK h => pc_X11_cellAtHand hT (by decide) (ix := 688) rfl rfl hK h, (List.forall_mem_cons.mpr ⟨fun _ _ lv st z K a hK h => pc_X11_bit hT (by decide) (ix := 409) rfl rfl hK h, (fun _ h => by cases h)⟩)⟩)⟩)⟩)⟩)⟩)⟩)⟩)⟩)) (fun _ h => by cases h)
set_option maxRecDepth 100000 in
theorem pb_X11_tellLoop : pm_bks ie_X11_tellLoop.1.2.2.2.2 pk_X11_tellLoop = true := by decide +kernel
set_option maxRecDepth 100000 in
theorem pm_X11_tellLoop {lf : pj_Z → mj_M} (hT : pj_Lt pj_TC lf) (a1 : Int32) (s : Nat → Int32) (l : Nat → Int64) (x : Nat → Int32) (y : Nat → Int64) (a : Int64 × pj_Z) (h : pf_X11_tellLoop a1 s l x y = some a) : mj_R ic_P 2 11102 [.ref 0, .int a1] (lf (s, l, x, y)) (pm_rL a.1) (lf a.2) := by
  refine pm_main (Y := ie_X11_tellLoop.1) rfl (Nat.le_of_ble_eq_true rfl) ?_
  exact pm_run ((pq_X11_tellLoop_m a1 s l x y).symm.trans h) (pz_X11_tellLoop hT) (pm_bks_ok pb_X11_tellLoop) (pm_bks_ok pb_X11_tellLoop _ _ rfl) (pm_ndb_ok rfl) (fun _ _ h => by cases h)
abbrev ph_X11_tellLoop {A : Type} : List pj_V → pj_Z → (List pj_V → pj_Z → Option A) → Option A := fun st z K => pj_pi st fun a1 st => pj_pr st 0 0 fun st => pj_ps st (pj_b (pf_X11_tellLoop a1 z.1 z.2.1 z.2.2.1 z.2.2.2) fun r s l x y => K (pj_L r :: st) (s, l, x, y))
set_option maxRecDepth 100000 in
theorem pc_X11_tellLoop {A : Type} {OK : A → Option Value → mj_M → Prop} {d j pc ix : Nat} {Y : mj_Y} {lf : pj_Z → mj_M} (hT : pj_Lt pj_TC lf) (hd : 2 ≤ d) (hl : mj_lk Y.2.2.2.2 pc = some (.invokevirtual ix, 3)) (hg : mj_pG ic_P j ix = some (11102, 1, some 11)) {lv : List (Nat × Value)} {st : List pj_V} {z : pj_Z} {K : List pj_V → pj_Z → Option A} {a : A} (hK : ∀ st z, K st z = some a → pj_Gd ic_P (mj_R ic_P d) j Y OK lf (pc + 3) lv (pj_es st) z a) (h : ph_X11_tellLoop st z K = some a) : pj_Gd ic_P (mj_R ic_P d) j Y OK lf pc lv (pj_es st) z a := by
  obtain ⟨a1, r1, e1, h⟩ := pj_pi_inv h
  obtain ⟨r0, e0, h⟩ := pj_pr_inv h
  obtain ⟨hs, h⟩ := pj_ps_inv h
  obtain ⟨q, hq, h⟩ := pj_b_inv h
  exact pm_cv (o := 0) hl hg [.int a1] rfl (by rw [e1, e0]; rfl) hs (by decide) ((hT.2 0 _ rfl).1.2 z 0 (by decide)) (pm_rL q.1) hd (pm_X11_tellLoop hT a1 z.1 z.2.1 z.2.2.1 z.2.2.2 q hq) rfl (hK _ _ h)

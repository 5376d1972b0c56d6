/-! METHODS 20, printed by gen_meth.py -/
abbrev pe_X12_mixture_97 (f : Int32 → Int32 → pj_F (Unit × pj_Z)) : pj_K (Unit × pj_Z) := fun lv st z => pj_xr lv 0 124 0 <| pj_xi lv 2 fun a2 => pj_xi lv 3 fun a3 => pj_pr st 124 0 fun st => pj_pe st (f a2 a3 z.1 z.2.1 z.2.2.1 z.2.2.2)
abbrev pe_X12_mixture_98 (f : Int32 → Int32 → Int32 → pj_F (Unit × pj_Z)) : pj_K (Unit × pj_Z) := fun lv st z => pj_xr lv 0 124 0 <| pj_xi lv 2 fun a2 => pj_xi lv 3 fun a3 => pj_pi st fun b1 st => pj_pr st 124 0 fun st => pj_pe st (f a2 a3 b1 z.1 z.2.1 z.2.2.1 z.2.2.2)
abbrev pe_X12_mixture_150 (f : Int32 → Int32 → Int32 → pj_F (Unit × pj_Z)) : pj_K (Unit × pj_Z) := fun lv st z => pj_xr lv 0 124 0 <| pj_xi lv 2 fun a2 => pj_xi lv 3 fun a3 => pj_pi st fun b0 st => pj_pe st (f a2 a3 b0 z.1 z.2.1 z.2.2.1 z.2.2.2)
abbrev pe_X12_mixture_188 (f : Int32 → Int32 → Int32 → Int32 → pj_F (Unit × pj_Z)) : pj_K (Unit × pj_Z) := fun lv st z => pj_xr lv 0 124 0 <| pj_xi lv 2 fun a2 => pj_xi lv 3 fun a3 => pj_xi lv 4 fun a4 => pj_xi lv 5 fun a5 => pj_pe st (f a2 a3 a4 a5 z.1 z.2.1 z.2.2.1 z.2.2.2)
abbrev pe_X12_mixture_211 (f : Int32 → Int32 → Int32 → Int32 → Int32 → pj_F (Unit × pj_Z)) : pj_K (Unit × pj_Z) := fun lv st z => pj_xr lv 0 124 0 <| pj_xi lv 2 fun a2 => pj_xi lv 3 fun a3 => pj_xi lv 4 fun a4 => pj_xi lv 5 fun a5 => pj_pi st fun b1 st => pj_pr st 124 0 fun st => pj_pe st (f a2 a3 a4 a5 b1 z.1 z.2.1 z.2.2.1 z.2.2.2)
abbrev pe_X12_mixture_214 (f : Int32 → Int32 → Int32 → Int32 → pj_F (Unit × pj_Z)) : pj_K (Unit × pj_Z) := fun lv st z => pj_xr lv 0 124 0 <| pj_xi lv 2 fun a2 => pj_xi lv 3 fun a3 => pj_xi lv 4 fun a4 => pj_xi lv 5 fun a5 => pj_pe st (f a2 a3 a4 a5 z.1 z.2.1 z.2.2.1 z.2.2.2)
abbrev pe_X12_mixture_238 (f : Int32 → Int32 → Int32 → Int32 → pj_F (Unit × pj_Z)) : pj_K (Unit × pj_Z) := fun lv st z => pj_xr lv 0 124 0 <| pj_xi lv 2 fun a2 => pj_xi lv 3 fun a3 => pj_pi st fun b2 st => pj_pi st fun b1 st => pj_pr st 124 0 fun st => pj_pe st (f a2 a3 b1 b2 z.1 z.2.1 z.2.2.1 z.2.2.2)
abbrev pe_X12_mixture_275 (f : Int32 → pj_F (Unit × pj_Z)) : pj_K (Unit × pj_Z) := fun lv st z => pj_xr lv 0 124 0 <| pj_xi lv 3 fun a3 => pj_pr st 124 0 fun st => pj_pe st (f a3 z.1 z.2.1 z.2.2.1 z.2.2.2)
abbrev pe_X12_mixture_276 (f : Int32 → Int32 → pj_F (Unit × pj_Z)) : pj_K (Unit × pj_Z) := fun lv st z => pj_xr lv 0 124 0 <| pj_xi lv 3 fun a3 => pj_pi st fun b1 st => pj_pr st 124 0 fun st => pj_pe st (f a3 b1 z.1 z.2.1 z.2.2.1 z.2.2.2)
abbrev pe_X12_mixture_325 (f : Int32 → Int32 → pj_F (Unit × pj_Z)) : pj_K (Unit × pj_Z) := fun lv st z => pj_xr lv 0 124 0 <| pj_xi lv 3 fun a3 => pj_pi st fun b0 st => pj_pe st (f a3 b0 z.1 z.2.1 z.2.2.1 z.2.2.2)
abbrev px_X12_mixture : pj_C (Unit × pj_Z) := (pj_TR, (pj_as [(19, 12, 3, 2, true), (133, 12, 72, 2, true), (139, 12, 74, 2, true), (146, 12, 106, 2, true), (262, 12, 34, 0, false), (296, 12, 45, 3, false), (438, 12, 82, 0, false), (477, 12, 96, 3, false), (489, 12, 100, 3, false), (492, 12, 104, 0, false), (495, 12, 105, 0, false), (516, 12, 103, 0, false), (519, 12, 23, 0, false), (736, 12, 101, 3, false), (741, 12, 102, 0, false)]), (fun _ => none), (pj_as [(572, (-100)), (574, 100), (723, 250), (739, (-250))]), (fun _ => none), ic_X, 7, 0, pj_mU, (pj_as [(1, ph_X12_speed), (11, ph_X12_cellNow), (115, ph_X12_toward), (246, ph_X12_cutTo), (348, ph_X12_cutTo)]), fun _ => false)
abbrev pk_X12_mixture : List (Nat × List (Nat × Instr × Nat)) := [(0, [(0, .aload_n 0, 1), (1, .invokevirtual 632, 3), (4, .istore_n 1, 1), (5, .aload_n 0, 1), (6, .getfield 489, 3), (9, .istore_n 2, 1), (10, .aload_n 0, 1), (11, .invokevirtual 689, 3), (14, .istore_n 3, 1), (15, .aload_n 0, 1), (16, .aload_n 0, 1), (17, .getfield 519, 3), (20, .iconst 1, 1), (21, .if_icmp .ne 76, 3)]), (24, [(24, .aload_n 0, 1), (25, .getfield 262, 3), (28, .iconst 3, 1), (29, .if_icmp .ne 68, 3)]), (32, [(32, .aload_n 0, 1), (33, .getfield 133, 3), (36, .iconst 5, 1), (37, .iaload, 1), (38, .aload_n 0, 1), (39, .getfield 19, 3), (42, .bipush 13, 2), (44, .iaload, 1), (45, .if_icmp .lt 52, 3)]), (48, [(48, .aload_n 0, 1), (49, .getfield 139, 3), (52, .bipush 7, 2), (54, .baload, 1), (55, .ifCond .ne 42, 3)]), (58, [(58, .aload_n 0, 1), (59, .getfield 296, 3), (62, .ifCond .ne 35, 3)]), (65, [(65, .aload_n 0, 1), (66, .getfield 477, 3), (69, .ifCond .ne 28, 3)]), (72, [(72, .iload_n 1, 1), (73, .sipush 500, 3), (76, .if_icmp .lt 21, 3)]), (79, [(79, .iload_n 1, 1), (80, .sipush 4500, 3), (83, .if_icmp .gt 14, 3)]), (86, [(86, .aload_n 0, 1), (87, .getfield 438, 3), (90, .ifCond .ne 7, 3)]), (93, [(93, .iconst 1, 1), (94, .goto 4, 3)]), (97, [(97, .iconst 0, 1)]), (98, [(98, .putfield 489, 3), (101, .aload_n 0, 1), (102, .getfield 489, 3), (105, .ifCond .ne 27, 3)]), (108, [(108, .aload_n 0, 1), (109, .aload_n 0, 1), (110, .getfield 516, 3), (113, .iconst 0, 1), (114, .iconst 1, 1), (115, .invokestatic 706, 3), (118, .putfield 516, 3), (121, .aload_n 0, 1), (122, .iconst 0, 1), (123, .putfield 492, 3), (126, .aload_n 0, 1), (127, .iconst 0, 1), (128, .putfield 495, 3), (131, .return_, 1)]), (132, [(132, .aload_n 0, 1), (133, .getfield 133, 3), (136, .bipush 7, 2), (138, .iaload, 1), (139, .sipush 450, 3), (142, .if_icmp .le 7, 3)]), (145, [(145, .iconst 1, 1), (146, .goto 4, 3)]), (149, [(149, .iconst 0, 1)]), (150, [(150, .istore 4, 2), (152, .aload_n 0, 1), (153, .getfield 19, 3), (156, .bipush 12, 2), (158, .iaload, 1), (159, .istore 5, 2), (161, .iload_n 2, 1), (162, .ifCond .eq 26, 3)]), (165, [(165, .iload 4, 2), (167, .aload_n 0, 1), (168, .getfield 736, 3), (171, .if_icmp .eq 17, 3)]), (174, [(174, .iconst 5, 1), (175, .iload 5, 2), (177, .imul, 1), (178, .istore 5, 2), (180, .aload_n 0, 1), (181, .iconst 0, 1), (182, .putfield 492, 3), (185, .goto 29, 3)]), (188, [(188, .aload_n 0, 1), (189, .aload_n 0, 1), (190, .getfield 492, 3), (193, .sipush 1000, 3), (196, .if_icmp .ge 12, 3)]), (199, [(199, .aload_n 0, 1), (200, .getfield 492, 3), (203, .iconst 1, 1), (204, .iadd, 1), (205, .goto 6, 3)]), (208, [(208, .sipush 1000, 3)]), (211, [(211, .putfield 492, 3)]), (214, [(214, .aload_n 0, 1), (215, .iload 4, 2), (217, .putfield 736, 3), (220, .aload_n 0, 1), (221, .aload_n 0, 1), (222, .getfield 516, 3), (225, .iload 4, 2), (227, .ifCond .eq 9, 3)]), (230, [(230, .iload 5, 2), (232, .ineg, 1), (233, .goto 5, 3)]), (236, [(236, .iload 5, 2)]), (238, [(238, .iadd, 1), (239, .i2l, 1), (240, .ldc2_w 739, 3), (243, .ldc2_w 723, 3), (246, .invokestatic 576, 3), (249, .l2i, 1), (250, .putfield 516, 3), (253, .aload_n 0, 1), (254, .iload_n 2, 1), (255, .ifCond .eq 20, 3)]), (258, [(258, .iload_n 3, 1), (259, .aload_n 0, 1), (260, .getfield 741, 3), (263, .if_icmp .ne 12, 3)]), (266, [(266, .aload_n 0, 1), (267, .getfield 495, 3), (270, .iconst 1, 1), (271, .iadd, 1), (272, .goto 4, 3)]), (275, [(275, .iconst 0, 1)]), (276, [(276, .putfield 495, 3), (279, .aload_n 0, 1), (280, .iload_n 3, 1), (281, .putfield 741, 3), (284, .aload_n 0, 1), (285, .getfield 495, 3), (288, .bipush 100, 2), (290, .if_icmp .ne 63, 3)]), (293, [(293, .aload_n 0, 1), (294, .iconst 0, 1), (295, .putfield 495, 3), (298, .aload_n 0, 1), (299, .getfield 516, 3), (302, .bipush 20, 2), (304, .if_icmp .le 7, 3)]), (307, [(307, .iconst 1, 1), (308, .goto 17, 3)]), (311, [(311, .aload_n 0, 1), (312, .getfield 516, 3), (315, .bipush (-20), 2), (317, .if_icmp .ge 7, 3)]), (320, [(320, .iconst (-1), 1), (321, .goto 4, 3)]), (324, [(324, .iconst 0, 1)]), (325, [(325, .istore 6, 2), (327, .aload_n 0, 1), (328, .getfield 146, 3), (331, .iload_n 3, 1), (332, .aload_n 0, 1), (333, .getfield 146, 3), (336, .iload_n 3, 1), (337, .iaload, 1), (338, .iload 6, 2), (340, .iadd, 1), (341, .i2l, 1), (342, .ldc2_w 572, 3), (345, .ldc2_w 574, 3), (348, .invokestatic 576, 3), (351, .l2i, 1), (352, .iastore, 1)]), (353, [(353, .return_, 1)])]
set_option maxRecDepth 100000 in
theorem pq_X12_mixture_325 (a3 : Int32) (b0 : Int32) (s : Nat → Int32) (l : Nat → Int64) (x : Nat → Int32) (y : Nat → Int64) : pl_X12_mixture_325 a3 b0 s l x y = pj_bl px_X12_mixture (pj_rn px_X12_mixture (pj_as pk_X12_mixture) (fun _ => none) 60) [(325, .istore 6, 2), (327, .aload_n 0, 1), (328, .getfield 146, 3), (331, .iload_n 3, 1), (332, .aload_n 0, 1), (333, .getfield 146, 3), (336, .iload_n 3, 1), (337, .iaload, 1), (338, .iload 6, 2), (340, .iadd, 1), (341, .i2l, 1), (342, .ldc2_w 572, 3), (345, .ldc2_w 574, 3), (348, .invokestatic 576, 3), (351, .l2i, 1), (352, .iastore, 1)] 325 [(0, pj_O (124, 0)), (3, pj_I a3)] [pj_I b0] (s, l, x, y) := rfl
set_option maxRecDepth 100000 in
theorem pq_X12_mixture_276 (a3 : Int32) (b1 : Int32) (s : Nat → Int32) (l : Nat → Int64) (x : Nat → Int32) (y : Nat → Int64) : pl_X12_mixture_276 a3 b1 s l x y = pj_bl px_X12_mixture (pj_rn px_X12_mixture (pj_as pk_X12_mixture) (pj_as [(325, pe_X12_mixture_325 (pl_X12_mixture_325))]) 60) [(276, .putfield 495, 3), (279, .aload_n 0, 1), (280, .iload_n 3, 1), (281, .putfield 741, 3), (284, .aload_n 0, 1), (285, .getfield 495, 3), (288, .bipush 100, 2), (290, .if_icmp .ne 63, 3)] 276 [(0, pj_O (124, 0)), (3, pj_I a3)] [pj_I b1, pj_O (124, 0)] (s, l, x, y) := rfl
set_option maxRecDepth 100000 in
theorem pq_X12_mixture_275 (a3 : Int32) (s : Nat → Int32) (l : Nat → Int64) (x : Nat → Int32) (y : Nat → Int64) : pl_X12_mixture_275 a3 s l x y = pj_bl px_X12_mixture (pj_rn px_X12_mixture (pj_as pk_X12_mixture) (pj_as [(276, pe_X12_mixture_276 (pl_X12_mixture_276))]) 60) [(275, .iconst 0, 1)] 275 [(0, pj_O (124, 0)), (3, pj_I a3)] [pj_O (124, 0)] (s, l, x, y) := rfl
set_option maxRecDepth 100000 in
theorem pq_X12_mixture_238 (a2 : Int32) (a3 : Int32) (b1 : Int32) (b2 : Int32) (s : Nat → Int32) (l : Nat → Int64) (x : Nat → Int32) (y : Nat → Int64) : pl_X12_mixture_238 a2 a3 b1 b2 s l x y = pj_bl px_X12_mixture (pj_rn px_X12_mixture (pj_as pk_X12_mixture) (pj_as [(275, pe_X12_mixture_275 (pl_X12_mixture_275)), (276, pe_X12_mixture_276 (pl_X12_mixture_276))]) 60) [(238, .iadd, 1), (239, .i2l, 1), (240, .ldc2_w 739, 3), (243, .ldc2_w 723, 3), (246, .invokestatic 576, 3), (249, .l2i, 1), (250, .putfield 516, 3), (253, .aload_n 0, 1), (254, .iload_n 2, 1), (255, .ifCond .eq 20, 3)] 238 [(0, pj_O (124, 0)), (2, pj_I a2), (3, pj_I a3)] [pj_I b2, pj_I b1, pj_O (124, 0)] (s, l, x, y) := rfl
set_option maxRecDepth 100000 in
theorem pq_X12_mixture_214 (a2 : Int32) (a3 : Int32) (a4 : Int32) (a5 : Int32) (s : Nat → Int32) (l : Nat → Int64) (x : Nat → Int32) (y : Nat → Int64) : pl_X12_mixture_214 a2 a3 a4 a5 s l x y = pj_bl px_X12_mixture (pj_rn px_X12_mixture (pj_as pk_X12_mixture) (pj_as [(238, pe_X12_mixture_238 (pl_X12_mixture_238))]) 60) [(214, .aload_n 0, 1), (215, .iload 4, 2), (217, .putfield 736, 3), (220, .aload_n 0, 1), (221, .aload_n 0, 1), (222, .getfield 516, 3), (225, .iload 4, 2), (227, .ifCond .eq 9, 3)] 214 [(0, pj_O (124, 0)), (2, pj_I a2), (3, pj_I a3), (4, pj_I a4), (5, pj_I a5)] [] (s, l, x, y) := rfl
set_option maxRecDepth 100000 in
theorem pq_X12_mixture_211 (a2 : Int32) (a3 : Int32) (a4 : Int32) (a5 : Int32) (b1 : Int32) (s : Nat → Int32) (l : Nat → Int64) (x : Nat → Int32) (y : Nat → Int64) : pl_X12_mixture_211 a2 a3 a4 a5 b1 s l x y = pj_bl px_X12_mixture (pj_rn px_X12_mixture (pj_as pk_X12_mixture) (pj_as [(214, pe_X12_mixture_214 (pl_X12_mixture_214))]) 60) [(211, .putfield 492, 3)] 211 [(0, pj_O (124, 0)), (2, pj_I a2), (3, pj_I a3), (4, pj_I a4), (5, pj_I a5)] [pj_I b1, pj_O (124, 0)] (s, l, x, y) := rfl
set_option maxRecDepth 100000 in
theorem pq_X12_mixture_188 (a2 : Int32) (a3 : Int32) (a4 : Int32) (a5 : Int32) (s : Nat → Int32) (l : Nat → Int64) (x : Nat → Int32) (y : Nat → Int64) : pl_X12_mixture_188 a2 a3 a4 a5 s l x y = pj_bl px_X12_mixture (pj_rn px_X12_mixture (pj_as pk_X12_mixture) (pj_as [(211, pe_X12_mixture_211 (pl_X12_mixture_211))]) 60) [(188, .aload_n 0, 1), (189, .aload_n 0, 1), (190, .getfield 492, 3), (193, .sipush 1000, 3), (196, .if_icmp .ge 12, 3)] 188 [(0, pj_O (124, 0)), (2, pj_I a2), (3, pj_I a3), (4, pj_I a4), (5, pj_I a5)] [] (s, l, x, y) := rfl
set_option maxRecDepth 100000 in
theorem pq_X12_mixture_150 (a2 : Int32) (a3 : Int32) (b0 : Int32) (s : Nat → Int32) (l : Nat → Int64) (x : Nat → Int32) (y : Nat → Int64) : pl_X12_mixture_150 a2 a3 b0 s l x y = pj_bl px_X12_mixture (pj_rn px_X12_mixture (pj_as pk_X12_mixture) (pj_as [(188, pe_X12_mixture_188 (pl_X12_mixture_188)), (214, pe_X12_mixture_214 (pl_X12_mixture_214))]) 60) [(150, .istore 4, 2), (152, .aload_n 0, 1), (153, .getfield 19, 3), (156, .bipush 12, 2), (158, .iaload, 1), (159, .istore 5, 2), (161, .iload_n 2, 1), (162, .ifCond .eq 26, 3)] 150 [(0, pj_O (124, 0)), (2, pj_I a2), (3, pj_I a3)] [pj_I b0] (s, l, x, y) := rfl
set_option maxRecDepth 100000 in
theorem pq_X12_mixture_98 (a2 : Int32) (a3 : Int32) (b1 : Int32) (s : Nat → Int32) (l : Nat → Int64) (x : Nat → Int32) (y : Nat → Int64) : pl_X12_mixture_98 a2 a3 b1 s l x y = pj_bl px_X12_mixture (pj_rn px_X12_mixture (pj_as pk_X12_mixture) (pj_as [(150, pe_X12_mixture_150 (pl_X12_mixture_150))]) 60) [(98, .putfield 489, 3), (101, .aload_n 0, 1), (102, .getfield 489, 3), (105, .ifCond .ne 27, 3)] 98 [(0, pj_O (124, 0)), (2, pj_I a2), (3, pj_I a3)] [pj_I b1, pj_O (124, 0)] (s, l, x, y) := rfl
set_option maxRecDepth 100000 in
theorem pq_X12_mixture_97 (a2 : Int32) (a3 : Int32) (s : Nat → Int32) (l : Nat → Int64) (x : Nat → Int32) (y : Nat → Int64) : pl_X12_mixture_97 a2 a3 s l x y = pj_bl px_X12_mixture (pj_rn px_X12_mixture (pj_as pk_X12_mixture) (pj_as [(98, pe_X12_mixture_98 (pl_X12_mixture_98))]) 60) [(97, .iconst 0, 1)] 97 [(0, pj_O (124, 0)), (2, pj_I a2), (3, pj_I a3)] [pj_O (124, 0)] (s, l, x, y) := rfl
set_option maxRecDepth 100000 in
theorem pq_X12_mixture_m  (s : Nat → Int32) (l : Nat → Int64) (x : Nat → Int32) (y : Nat → Int64) : pf_X12_mixture  s l x y = pj_bl px_X12_mixture (pj_rn px_X12_mixture (pj_as pk_X12_mixture) (pj_as [(97, pe_X12_mixture_97 (pl_X12_mixture_97)), (98, pe_X12_mixture_98 (pl_X12_mixture_98))]) 60) [(0, .aload_n 0, 1), (1, .invokevirtual 632, 3), (4, .istore_n 1, 1), (5, .aload_n 0, 1), (6, .getfield 489, 3), (9, .istore_n 2, 1), (10, .aload_n 0, 1), (11, .invokevirtual 689, 3), (14, .istore_n 3, 1), (15, .aload_n 0, 1), (16, .aload_n 0, 1), (17, .getfield 519, 3), (20, .iconst 1, 1), (21, .if_icmp .ne 76, 3)] 0 [(0, pj_O (124, 0))] [] (s, l, x, y) := rfl
theorem pu_X12_mixture_97 {lf : pj_Z → mj_M} {a : Unit × pj_Z} (f : Int32 → Int32 → pj_F (Unit × pj_Z)) (hf : ∀ (a2 : Int32) (a3 : Int32) (s : Nat → Int32) (l : Nat → Int64) (x : Nat → Int32) (y : Nat → Int64), f a2 a3 s l x y = some a → pm_Gd 2 12059 ie_X12_mixture.1 pm_rU lf 97 [(0, .ref 124), (2, .int a2), (3, .int a3)] [.ref 124] (s, l, x, y) a) : pm_Ex 2 12059 ie_X12_mixture.1 pm_rU lf a 97 (pe_X12_mixture_97 f) := by
  intro lv st z hd h
  obtain ⟨g0, h⟩ := pj_xr_inv h
  obtain ⟨a2, g2, h⟩ := pj_xi_inv h
  obtain ⟨a3, g3, h⟩ := pj_xi_inv h
  obtain ⟨r0, e0, h⟩ := pj_pr_inv h
  obtain ⟨e9, h⟩ := pj_pe_inv h
  rw [e0, e9]
  exact mj_wp_sub (mj_sub_cons g0 (mj_sub_cons g2 (mj_sub_cons g3 (mj_sub_nil hd)))) (hf _ _ _ _ _ _ h)
theorem pu_X12_mixture_98 {lf : pj_Z → mj_M} {a : Unit × pj_Z} (f : Int32 → Int32 → Int32 → pj_F (Unit × pj_Z)) (hf : ∀ (a2 : Int32) (a3 : Int32) (b1 : Int32) (s : Nat → Int32) (l : Nat → Int64) (x : Nat → Int32) (y : Nat → Int64), f a2 a3 b1 s l x y = some a → pm_Gd 2 12059 ie_X12_mixture.1 pm_rU lf 98 [(0, .ref 124), (2, .int a2), (3, .int a3)] [.int b1, .ref 124] (s, l, x, y) a) : pm_Ex 2 12059 ie_X12_mixture.1 pm_rU lf a 98 (pe_X12_mixture_98 f) := by
  intro lv st z hd h
  obtain ⟨g0, h⟩ := pj_xr_inv h
  obtain ⟨a2, g2, h⟩ := pj_xi_inv h
  obtain ⟨a3, g3, h⟩ := pj_xi_inv h
  obtain ⟨b1, r1, e1, h⟩ := pj_pi_inv h
  obtain ⟨r0, e0, h⟩ := pj_pr_inv h
  obtain ⟨e9, h⟩ := pj_pe_inv h
  rw [e1, e0, e9]
  exact mj_wp_sub (mj_sub_cons g0 (mj_sub_cons g2 (mj_sub_cons g3 (mj_sub_nil hd)))) (hf _ _ _ _ _ _ _ h)
theorem pu_X12_mixture_150 {lf : pj_Z → mj_M} {a : Unit × pj_Z} (f : Int32 → Int32 → Int32 → pj_F (Unit × pj_Z)) (hf : ∀ (a2 : Int32) (a3 : Int32) (b0 : Int32) (s : Nat → Int32) (l : Nat → Int64) (x : Nat → Int32) (y : Nat → Int64), f a2 a3 b0 s l x y = some a → pm_Gd 2 12059 ie_X12_mixture.1 pm_rU lf 150 [(0, .ref 124), (2, .int a2), (3, .int a3)] [.int b0] (s, l, x, y) a) : pm_Ex 2 12059 ie_X12_mixture.1 pm_rU lf a 150 (pe_X12_mixture_150 f) := by
  intro lv st z hd h
  obtain ⟨g0, h⟩ := pj_xr_inv h
  obtain ⟨a2, g2, h⟩ := pj_xi_inv h
  obtain ⟨a3, g3, h⟩ := pj_xi_inv h
  obtain ⟨b0, r0, e0, h⟩ := pj_pi_inv h
  obtain ⟨e9, h⟩ := pj_pe_inv h
  rw [e0, e9]
  exact mj_wp_sub (mj_sub_cons g0 (mj_sub_cons g2 (mj_sub_cons g3 (mj_sub_nil hd)))) (hf _ _ _ _ _ _ _ h)
theorem pu_X12_mixture_188 {lf : pj_Z → mj_M} {a : Unit × pj_Z} (f : Int32 → Int32 → Int32 → Int32 → pj_F (Unit × pj_Z)) (hf : ∀ (a2 : Int32) (a3 : Int32) (a4 : Int32) (a5 : Int32) (s : Nat → Int32) (l : Nat → Int64) (x : Nat → Int32) (y : Nat → Int64), f a2 a3 a4 a5 s l x y = some a → pm_Gd 2 12059 ie_X12_mixture.1 pm_rU lf 188 [(0, .ref 124), (2, .int a2), (3, .int a3), (4, .int a4), (5, .int a5)] [] (s, l, x, y) a) : pm_Ex 2 12059 ie_X12_mixture.1 pm_rU lf a 188 (pe_X12_mixture_188 f) := by
  intro lv st z hd h
  obtain ⟨g0, h⟩ := pj_xr_inv h
  obtain ⟨a2, g2, h⟩ := pj_xi_inv h
  obtain ⟨a3, g3, h⟩ := pj_xi_inv h
  obtain ⟨a4, g4, h⟩ := pj_xi_inv h
  obtain ⟨a5, g5, h⟩ := pj_xi_inv h
  obtain ⟨e9, h⟩ := pj_pe_inv h
  rw [e9]
  exact mj_wp_sub (mj_sub_cons g0 (mj_sub_cons g2 (mj_sub_cons g3 (mj_sub_cons g4 (mj_sub_cons g5 (mj_sub_nil hd)))))) (hf _ _ _ _ _ _ _ _ h)
theorem pu_X12_mixture_211 {lf : pj_Z → mj_M} {a : Unit × pj_Z} (f : Int32 → Int32 → Int32 → Int32 → Int32 → pj_F (Unit × pj_Z)) (hf : ∀ (a2 : Int32) (a3 : Int32) (a4 : Int32) (a5 : Int32) (b1 : Int32) (s : Nat → Int32) (l : Nat → Int64) (x : Nat → Int32) (y : Nat → Int64), f a2 a3 a4 a5 b1 s l x y = some a → pm_Gd 2 12059 ie_X12_mixture.1 pm_rU lf 211 [(0, .ref 124), (2, .int a2), (3, .int a3), (4, .int a4), (5, .int a5)] [.int b1, .ref 124] (s, l, x, y) a) : pm_Ex 2 12059 ie_X12_mixture.1 pm_rU lf a 211 (pe_X12_mixture_211 f) := by
  intro lv st z hd h
  obtain ⟨g0, h⟩ := pj_xr_inv h
  obtain ⟨a2, g2, h⟩ := pj_xi_inv h
  obtain ⟨a3, g3, h⟩ := pj_xi_inv h
  obtain ⟨a4, g4, h⟩ := pj_xi_inv h
  obtain ⟨a5, g5, h⟩ := pj_xi_inv h
  obtain ⟨b1, r1, e1, h⟩ := pj_pi_inv h
  obtain ⟨r0, e0, h⟩ := pj_pr_inv h
  obtain ⟨e9, h⟩ := pj_pe_inv h
  rw [e1, e0, e9]
  exact mj_wp_sub (mj_sub_cons g0 (mj_sub_cons g2 (mj_sub_cons g3 (mj_sub_cons g4 (mj_sub_cons g5 (mj_sub_nil hd)))))) (hf _ _ _ _ _ _ _ _ _ h)
theorem pu_X12_mixture_214 {lf : pj_Z → mj_M} {a : Unit × pj_Z} (f : Int32 → Int32 → Int32 → Int32 → pj_F (Unit × pj_Z)) (hf : ∀ (a2 : Int32) (a3 : Int32) (a4 : Int32) (a5 : Int32) (s : Nat → Int32) (l : Nat → Int64) (x : Nat → Int32) (y : Nat → Int64), f a2 a3 a4 a5 s l x y = some a → pm_Gd 2 12059 ie_X12_mixture.1 pm_rU lf 214 [(0, .ref 124), (2, .int a2), (3, .int a3), (4, .int a4), (5, .int a5)] [] (s, l, x, y) a) : pm_Ex 2 12059 ie_X12_mixture.1 pm_rU lf a 214 (pe_X12_mixture_214 f) := by
  intro lv st z hd h
  obtain ⟨g0, h⟩ := pj_xr_inv h
  obtain ⟨a2, g2, h⟩ := pj_xi_inv h
  obtain ⟨a3, g3, h⟩ := pj_xi_inv h
  obtain ⟨a4, g4, h⟩ := pj_xi_inv h
  obtain ⟨a5, g5, h⟩ := pj_xi_inv h
  obtain ⟨e9, h⟩ := pj_pe_inv h
  rw [e9]
  exact mj_wp_sub (mj_sub_cons g0 (mj_sub_cons g2 (mj_sub_cons g3 (mj_sub_cons g4 (mj_sub_cons g5 (mj_sub_nil hd)))))) (hf _ _ _ _ _ _ _ _ h)
theorem pu_X12_mixture_238 {lf : pj_Z → mj_M} {a : Unit × pj_Z} (f : Int32 → Int32 → Int32 → Int32 → pj_F (Unit × pj_Z)) (hf : ∀ (a2 : Int32) (a3 : Int32) (b1 : Int32) (b2 : Int32) (s : Nat → Int32) (l : Nat → Int64) (x : Nat → Int32) (y : Nat → Int64), f a2 a3 b1 b2 s l x y = some a → pm_Gd 2 12059 ie_X12_mixture.1 pm_rU lf 238 [(0, .ref 124), (2, .int a2), (3, .int a3)] [.int b2, .int b1, .ref 124] (s, l, x, y) a) : pm_Ex 2 12059 ie_X12_mixture.1 pm_rU lf a 238 (pe_X12_mixture_238 f) := by
  intro lv st z hd h
  obtain ⟨g0, h⟩ := pj_xr_inv h
  obtain ⟨a2, g2, h⟩ := pj_xi_inv h
  obtain ⟨a3, g3, h⟩ := pj_xi_inv h
  obtain ⟨b2, r2, e2, h⟩ := pj_pi_inv h
  obtain ⟨b1, r1, e1, h⟩ := pj_pi_inv h
  obtain ⟨r0, e0, h⟩ := pj_pr_inv h
  obtain ⟨e9, h⟩ := pj_pe_inv h
  rw [e2, e1, e0, e9]
  exact mj_wp_sub (mj_sub_cons g0 (mj_sub_cons g2 (mj_sub_cons g3 (mj_sub_nil hd)))) (hf _ _ _ _ _ _ _ _ h)
theorem pu_X12_mixture_275 {lf : pj_Z → mj_M} {a : Unit × pj_Z} (f : Int32 → pj_F (Unit × pj_Z)) (hf : ∀ (a3 : Int32) (s : Nat → Int32) (l : Nat → Int64) (x : Nat → Int32) (y : Nat → Int64), f a3 s l x y = some a → pm_Gd 2 12059 ie_X12_mixture.1 pm_rU lf 275 [(0, .ref 124), (3, .int a3)] [.ref 124] (s, l, x, y) a) : pm_Ex 2 12059 ie_X12_mixture.1 pm_rU lf a 275 (pe_X12_mixture_275 f) := by
  intro lv st z hd h
  obtain ⟨g0, h⟩ := pj_xr_inv h
  obtain ⟨a3, g3, h⟩ := pj_xi_inv h
  obtain ⟨r0, e0, h⟩ := pj_pr_inv h
  obtain ⟨e9, h⟩ := pj_pe_inv h
  rw [e0, e9]
  exact mj_wp_sub (mj_sub_cons g0 (mj_sub_cons g3 (mj_sub_nil hd))) (hf _ _ _ _ _ h)
theorem pu_X12_mixture_276 {lf : pj_Z → mj_M} {a : Unit × pj_Z} (f : Int32 → Int32 → pj_F (Unit × pj_Z)) (hf : ∀ (a3 : Int32) (b1 : Int32) (s : Nat → Int32) (l : Nat → Int64) (x : Nat → Int32) (y : Nat → Int64), f a3 b1 s l x y = some a → pm_Gd 2 12059 ie_X12_mixture.1 pm_rU lf 276 [(0, .ref 124), (3, .int a3)] [.int b1, .ref 124] (s, l, x, y) a) : pm_Ex 2 12059 ie_X12_mixture.1 pm_rU lf a 276 (pe_X12_mixture_276 f) := by
  intro lv st z hd h
  obtain ⟨g0, h⟩ := pj_xr_inv h
  obtain ⟨a3, g3, h⟩ := pj_xi_inv h
  obtain ⟨b1, r1, e1, h⟩ := pj_pi_inv h
  obtain ⟨r0, e0, h⟩ := pj_pr_inv h
  obtain ⟨e9, h⟩ := pj_pe_inv h
  rw [e1, e0, e9]
  exact mj_wp_sub (mj_sub_cons g0 (mj_sub_cons g3 (mj_sub_nil hd))) (hf _ _ _ _ _ _ h)
theorem pu_X12_mixture_325 {lf : pj_Z → mj_M} {a : Unit × pj_Z} (f : Int32 → Int32 → pj_F (Unit × pj_Z)) (hf : ∀ (a3 : Int32) (b0 : Int32) (s : Nat → Int32) (l : Nat → Int64) (x : Nat → Int32) (y : Nat → Int64), f a3 b0 s l x y = some a → pm_Gd 2 12059 ie_X12_mixture.1 pm_rU lf 325 [(0, .ref 124), (3, .int a3)] [.int b0] (s, l, x, y) a) : pm_Ex 2 12059 ie_X12_mixture.1 pm_rU lf a 325 (pe_X12_mixture_325 f) := by
  intro lv st z hd h
  obtain ⟨g0, h⟩ := pj_xr_inv h
  obtain ⟨a3, g3, h⟩ := pj_xi_inv h
  obtain ⟨b0, r0, e0, h⟩ := pj_pi_inv h
  obtain ⟨e9, h⟩ := pj_pe_inv h
  rw [e0, e9]
  exact mj_wp_sub (mj_sub_cons g0 (mj_sub_cons g3 (mj_sub_nil hd))) (hf _ _ _ _ _ _ h)
set_option maxRecDepth 100000 in
theorem pz_X12_mixture {lf : pj_Z → mj_M} (hT : pj_Lt pj_TR lf) : pj_Cok ic_P (mj_R ic_P 2) 12059 ie_X12_mixture.1 (pm_OK lf pm_rU) lf px_X12_mixture := by
  exact pm_cok (c := px_X12_mixture) hT (pm_in_ok (L := [(19, 12, 3, 2, true), (133, 12, 72, 2, true), (139, 12, 74, 2, true), (146, 12, 106, 2, true), (262, 12, 34, 0, false), (296, 12, 45, 3, false), (438, 12, 82, 0, false), (477, 12, 96, 3, false), (489, 12, 100, 3, false), (492, 12, 104, 0, false), (495, 12, 105, 0, false), (516, 12, 103, 0, false), (519, 12, 23, 0, false), (736, 12, 101, 3, false), (741, 12, 102, 0, false)]) (f := mj_pF ic_P 12059) (by decide +kernel)) (fun _ _ h => by cases h) (pm_inL_ok (L := [(572, (-100)), (574, 100), (723, 250), (739, (-250))]) (f := mj_pL ic_P 12059) (by decide +kernel)) (fun _ _ h => by cases h) rfl rfl ⟨by decide, rfl⟩ pm_mU (pj_as_all (p := pm_Cl 2 12059 ie_X12_mixture.1 lf (pm_OK lf pm_rU)) (List.forall_mem_cons.mpr ⟨fun _ _ lv st z K a hK h => pc_X12_speed hT (by decide) (ix := 632) rfl rfl hK h, (List.forall_mem_cons.mpr ⟨fun _ _ lv st z K a hK h => pc_X12_cellNow hT (by decide) (ix := 689) rfl rfl hK h, (List.forall_mem_cons.mpr ⟨fun _ _ lv st z K a hK h => pc_X12_toward hT (by decide) (ix := 706) rfl rfl hK h, (List.forall_mem_cons.mpr ⟨fun _ _ lv st z K a hK h => pc_X12_cutTo hT (by decide) (ix := 576) rfl rfl hK h, (List.forall_mem_cons.mpr ⟨fun _ _ lv st z K a hK h => pc_X12_cutTo hT (by decide) (ix := 576) rfl rfl hK h, (fun _ h => by cases h)⟩)⟩)⟩)⟩)⟩)) (fun _ h => by cases h)
set_option maxRecDepth 100000 in
theorem pb_X12_mixture : pm_bks ie_X12_mixture.1.2.2.2.2 pk_X12_mixture = true := by decide +kernel
set_option maxRecDepth 100000 in
theorem pg_X12_mixture_325 {lf : pj_Z → mj_M} (hT : pj_Lt pj_TR lf) : ∀ (a3 : Int32) (b0 : Int32) (s : Nat → Int32) (l : Nat → Int64) (x : Nat → Int32) (y : Nat → Int64) (a : Unit × pj_Z), pl_X12_mixture_325 a3 b0 s l x y = some a → pm_Gd 2 12059 ie_X12_mixture.1 pm_rU lf 325 [(0, .ref 124), (3, .int a3)] [.int b0] (s, l, x, y) a := by
  intro a3 b0 s l x y a h
  exact pj_bl_ok (pz_X12_mixture hT) (fun t lv st z hd h => pj_rn_ok (pz_X12_mixture hT) (pm_bks_ok pb_X12_mixture) (fun _ _ h => by cases h) 60 t lv st z hd h) [(325, .istore 6, 2), (327, .aload_n 0, 1), (328, .getfield 146, 3), (331, .iload_n 3, 1), (332, .aload_n 0, 1), (333, .getfield 146, 3), (336, .iload_n 3, 1), (337, .iaload, 1), (338, .iload 6, 2), (340, .iadd, 1), (341, .i2l, 1), (342, .ldc2_w 572, 3), (345, .ldc2_w 574, 3), (348, .invokestatic 576, 3), (351, .l2i, 1), (352, .iastore, 1)] 325 [(0, pj_O (124, 0)), (3, pj_I a3)] [pj_I b0] (s, l, x, y) (pm_bks_ok pb_X12_mixture _ _ rfl) (pm_ndb_ok rfl) ((pq_X12_mixture_325  a3 b0 s l x y).symm.trans h)
set_option maxRecDepth 100000 in
theorem pg_X12_mixture_276 {lf : pj_Z → mj_M} (hT : pj_Lt pj_TR lf) : ∀ (a3 : Int32) (b1 : Int32) (s : Nat → Int32) (l : Nat → Int64) (x : Nat → Int32) (y : Nat → Int64) (a : Unit × pj_Z), pl_X12_mixture_276 a3 b1 s l x y = some a → pm_Gd 2 12059 ie_X12_mixture.1 pm_rU lf 276 [(0, .ref 124), (3, .int a3)] [.int b1, .ref 124] (s, l, x, y) a := by
  intro a3 b1 s l x y a h
  exact pj_bl_ok (pz_X12_mixture hT) (fun t lv st z hd h => pj_rn_ok (pz_X12_mixture hT) (pm_bks_ok pb_X12_mixture) (pj_as_all (p := pm_Ex 2 12059 ie_X12_mixture.1 pm_rU lf a) (List.forall_mem_cons.mpr ⟨pu_X12_mixture_325 _ (fun c0 c1 s l x y h => pg_X12_mixture_325 hT c0 c1 s l x y _ h), (fun _ h => by cases h)⟩)) 60 t lv st z hd h) [(276, .putfield 495, 3), (279, .aload_n 0, 1), (280, .iload_n 3, 1), (281, .putfield 741, 3), (284, .aload_n 0, 1), (285, .getfield 495, 3), (288, .bipush 100, 2), (290, .if_icmp .ne 63, 3)] 276 [(0, pj_O (124, 0)), (3, pj_I a3)] [pj_I b1, pj_O (124, 0)] (s, l, x, y) (pm_bks_ok pb_X12_mixture _ _ rfl) (pm_ndb_ok rfl) ((pq_X12_mixture_276  a3 b1 s l x y).symm.trans h)
set_option maxRecDepth 100000 in
theorem pg_X12_mixture_275 {lf : pj_Z → mj_M} (hT : pj_Lt pj_TR lf) : ∀ (a3 : Int32) (s : Nat → Int32) (l : Nat → Int64) (x : Nat → Int32) (y : Nat → Int64) (a : Unit × pj_Z), pl_X12_mixture_275 a3 s l x y = some a → pm_Gd 2 12059 ie_X12_mixture.1 pm_rU lf 275 [(0, .ref 124), (3, .int a3)] [.ref 124] (s, l, x, y) a := by
  intro a3 s l x y a h
  exact pj_bl_ok (pz_X12_mixture hT) (fun t lv st z hd h => pj_rn_ok (pz_X12_mixture hT) (pm_bks_ok pb_X12_mixture) (pj_as_all (p := pm_Ex 2 12059 ie_X12_mixture.1 pm_rU lf a) (List.forall_mem_cons.mpr ⟨pu_X12_mixture_276 _ (fun c0 c1 s l x y h => pg_X12_mixture_276 hT c0 c1 s l x y _ h), (fun _ h => by cases h)⟩)) 60 t lv st z hd h) [(275, .iconst 0, 1)] 275 [(0, pj_O (124, 0)), (3, pj_I a3)] [pj_O (124, 0)] (s, l, x, y) (pm_bks_ok pb_X12_mixture _ _ rfl) (pm_ndb_ok rfl) ((pq_X12_mixture_275  a3 s l x y).symm.trans h)
set_option maxRecDepth 100000 in
theorem pg_X12_mixture_238 {lf : pj_Z → mj_M} (hT : pj_Lt pj_TR lf) : ∀ (a2 : Int32) (a3 : Int32) (b1 : Int32) (b2 : Int32) (s : Nat → Int32) (l : Nat → Int64) (x : Nat → Int32) (y : Nat → Int64) (a : Unit × pj_Z), pl_X12_mixture_238 a2 a3 b1 b2 s l x y = some a → pm_Gd 2 12059 ie_X12_mixture.1 pm_rU lf 238 [(0, .ref 124), (2, .int a2), (3, .int a3)] [.int b2, .int b1, .ref 124] (s, l, x, y) a := by
  intro a2 a3 b1 b2 s l x y a h
  exact pj_bl_ok (pz_X12_mixture hT) (fun t lv st z hd h => pj_rn_ok (pz_X12_mixture hT) (pm_bks_ok pb_X12_mixture) (pj_as_all (p := pm_Ex 2 12059 ie_X12_mixture.1 pm_rU lf a) (List.forall_mem_cons.mpr ⟨pu_X12_mixture_275 _ (fun c0 s l x y h => pg_X12_mixture_275 hT c0 s l x y _ h), (List.forall_mem_cons.mpr ⟨pu_X12_mixture_276 _ (fun c0 c1 s l x y h => pg_X12_mixture_276 hT c0 c1 s l x y _ h), (fun _ h => by cases h)⟩)⟩)) 60 t lv st z hd h) [(238, .iadd, 1), (239, .i2l, 1), (240, .ldc2_w 739, 3), (243, .ldc2_w 723, 3), (246, .invokestatic 576, 3), (249, .l2i, 1), (250, .putfield 516, 3), (253, .aload_n 0, 1), (254, .iload_n 2, 1), (255, .ifCond .eq 20, 3)] 238 [(0, pj_O (124, 0)), (2, pj_I a2), (3, pj_I a3)] [pj_I b2, pj_I b1, pj_O (124, 0)] (s, l, x, y) (pm_bks_ok pb_X12_mixture _ _ rfl) (pm_ndb_ok rfl) ((pq_X12_mixture_238  a2 a3 b1 b2 s l x y).symm.trans h)
set_option maxRecDepth 100000 in
theorem pg_X12_mixture_214 {lf : pj_Z → mj_M} (hT : pj_Lt pj_TR lf) : ∀ (a2 : Int32) (a3 : Int32) (a4 : Int32) (a5 : Int32) (s : Nat → Int32) (l : Nat → Int64) (x : Nat → Int32) (y : Nat → Int64) (a : Unit × pj_Z), pl_X12_mixture_214 a2 a3 a4 a5 s l x y = some a → pm_Gd 2 12059 ie_X12_mixture.1 pm_rU lf 214 [(0, .ref 124), (2, .int a2), (3, .int a3), (4, .int a4), (5, .int a5)] [] (s, l, x, y) a := by
  intro a2 a3 a4 a5 s l x y a h
  exact pj_bl_ok (pz_X12_mixture hT) (fun t lv st z hd h => pj_rn_ok (pz_X12_mixture hT) (pm_bks_ok pb_X12_mixture) (pj_as_all (p := pm_Ex 2 12059 ie_X12_mixture.1 pm_rU lf a) (List.forall_mem_cons.mpr ⟨pu_X12_mixture_238 _ (fun c0 c1 c2 c3 s l x y h => pg_X12_mixture_238 hT c0 c1 c2 c3 s l x y _ h), (fun _ h => by cases h)⟩)) 60 t lv st z hd h) [(214, .aload_n 0, 1), (215, .iload 4, 2), (217, .putfield 736, 3), (220, .aload_n 0, 1), (221, .aload_n 0, 1), (222, .getfield 516, 3), (225, .iload 4, 2), (227, .ifCond .eq 9, 3)] 214 [(0, pj_O (124, 0)), (2, pj_I a2), (3, pj_I a3), (4, pj_I a4), (5, pj_I a5)] [] (s, l, x, y) (pm_bks_ok pb_X12_mixture _ _ rfl) (pm_ndb_ok rfl) ((pq_X12_mixture_214  a2 a3 a4 a5 s l x y).symm.trans h)
set_option maxRecDepth 100000 in
theorem pg_X12_mixture_211 {lf : pj_Z → mj_M} (hT : pj_Lt pj_TR lf) : ∀ (a2 : Int32) (a3 : Int32) (a4 : Int32) (a5 : Int32) (b1 : Int32) (s : Nat → Int32) (l : Nat → Int64) (x : Nat → Int32) (y : Nat → Int64) (a : Unit × pj_Z), pl_X12_mixture_211 a2 a3 a4 a5 b1 s l x y = some a → pm_Gd 2 12059 ie_X12_mixture.1 pm_rU lf 211 [(0, .ref 124), (2, .int a2), (3, .int a3), (4, .int a4), (5, .int a5)] [.int b1, .ref 124] (s, l, x, y) a := by
  intro a2 a3 a4 a5 b1 s l x y a h
  exact pj_bl_ok (pz_X12_mixture hT) (fun t lv st z hd h => pj_rn_ok (pz_X12_mixture hT) (pm_bks_ok pb_X12_mixture) (pj_as_all (p := pm_Ex 2 12059 ie_X12_mixture.1 pm_rU lf a) (List.forall_mem_cons.mpr ⟨pu_X12_mixture_214 _ (fun c0 c1 c2 c3 s l x y h => pg_X12_mixture_214 hT c0 c1 c2 c3 s l x y _ h), (fun _ h => by cases h)⟩)) 60 t lv st z hd h) [(211, .putfield 492, 3)] 211 [(0, pj_O (124, 0)), (2, pj_I a2), (3, pj_I a3), (4, pj_I a4), (5, pj_I a5)] [pj_I b1, pj_O (124, 0)] (s, l, x, y) (pm_bks_ok pb_X12_mixture _ _ rfl) (pm_ndb_ok rfl) ((pq_X12_mixture_211  a2 a3 a4 a5 b1 s l x y).symm.trans h)
set_option maxRecDepth 100000 in
theorem pg_X12_mixture_188 {lf : pj_Z → mj_M} (hT : pj_Lt pj_TR lf) : ∀ (a2 : Int32) (a3 : Int32) (a4 : Int32) (a5 : Int32) (s : Nat → Int32) (l : Nat → Int64) (x : Nat → Int32) (y : Nat → Int64) (a : Unit × pj_Z), pl_X12_mixture_188 a2 a3 a4 a5 s l x y = some a → pm_Gd 2 12059 ie_X12_mixture.1 pm_rU lf 188 [(0, .ref 124), (2, .int a2), (3, .int a3), (4, .int a4), (5, .int a5)] [] (s, l, x, y) a := by
  intro a2 a3 a4 a5 s l x y a h
  exact pj_bl_ok (pz_X12_mixture hT) (fun t lv st z hd h => pj_rn_ok (pz_X12_mixture hT) (pm_bks_ok pb_X12_mixture) (pj_as_all (p := pm_Ex 2 12059 ie_X12_mixture.1 pm_rU lf a) (List.forall_mem_cons.mpr ⟨pu_X12_mixture_211 _ (fun c0 c1 c2 c3 c4 s l x y h => pg_X12_mixture_211 hT c0 c1 c2 c3 c4 s l x y _ h), (fun _ h => by cases h)⟩)) 60 t lv st z hd h) [(188, .aload_n 0, 1), (189, .aload_n 0, 1), (190, .getfield 492, 3), (193, .sipush 1000, 3), (196, .if_icmp .ge 12, 3)] 188 [(0, pj_O (124, 0)), (2, pj_I a2), (3, pj_I a3), (4, pj_I a4), (5, pj_I a5)] [] (s, l, x, y) (pm_bks_ok pb_X12_mixture _ _ rfl) (pm_ndb_ok rfl) ((pq_X12_mixture_188  a2 a3 a4 a5 s l x y).symm.trans h)
set_option maxRecDepth 100000 in
theorem pg_X12_mixture_150 {lf : pj_Z → mj_M} (hT : pj_Lt pj_TR lf) : ∀ (a2 : Int32) (a3 : Int32) (b0 : Int32) (s : Nat → Int32) (l : Nat → Int64) (x : Nat → Int32) (y : Nat → Int64) (a : Unit × pj_Z), pl_X12_mixture_150 a2 a3 b0 s l x y = some a → pm_Gd 2 12059 ie_X12_mixture.1 pm_rU lf 150 [(0, .ref 124), (2, .int a2), (3, .int a3)] [.int b0] (s, l, x, y) a := by
  intro a2 a3 b0 s l x y a h
  exact pj_bl_ok (pz_X12_mixture hT) (fun t lv st z hd h => pj_rn_ok (pz_X12_mixture hT) (pm_bks_ok pb_X12_mixture) (pj_as_all (p := pm_Ex 2 12059 ie_X12_mixture.1 pm_rU lf a) (List.forall_mem_cons.mpr ⟨pu_X12_mixture_188 _ (fun c0 c1 c2 c3 s l x y h => pg_X12_mixture_188 hT c0 c1 c2 c3 s l x y _ h), (List.forall_mem_cons.mpr ⟨pu_X12_mixture_214 _ (fun c0 c1 c2 c3 s l x y h => pg_X12_mixture_214 hT c0 c1 c2 c3 s l x y _ h), (fun _ h => by cases h)⟩)⟩)) 60 t lv st z hd h) [(150, .istore 4, 2), (152, .aload_n 0, 1), (153, .getfield 19, 3), (156, .bipush 12, 2), (158, .iaload, 1), (159, .istore 5, 2), (161, .iload_n 2, 1), (162, .ifCond .eq 26, 3)] 150 [(0, pj_O (124, 0)), (2, pj_I a2), (3, pj_I a3)] [pj_I b0] (s, l, x, y) (pm_bks_ok pb_X12_mixture _ _ rfl) (pm_ndb_ok rfl) ((pq_X12_mixture_150  a2 a3 b0 s l x y).symm.trans h)
set_option maxRecDepth 100000 in
theorem pg_X12_mixture_98 {lf : pj_Z → mj_M} (hT : pj_Lt pj_TR lf) : ∀ (a2 : Int32) (a3 : Int32) (b1 : Int32) (s : Nat → Int32) (l : Nat → Int64) (x : Nat → Int32) (y : Nat → Int64) (a : Unit × pj_Z), pl_X12_mixture_98 a2 a3 b1 s l x y = some a → pm_Gd 2 12059 ie_X12_mixture.1 pm_rU lf 98 [(0, .ref 124), (2, .int a2), (3, .int a3)] [.int b1, .ref 124] (s, l, x, y) a := by
  intro a2 a3 b1 s l x y a h
  exact pj_bl_ok (pz_X12_mixture hT) (fun t lv st z hd h => pj_rn_ok (pz_X12_mixture hT) (pm_bks_ok pb_X12_mixture) (pj_as_all (p := pm_Ex 2 12059 ie_X12_mixture.1 pm_rU lf a) (List.forall_mem_cons.mpr ⟨pu_X12_mixture_150 _ (fun c0 c1 c2 s l x y h => pg_X12_mixture_150 hT c0 c1 c2 s l x y _ h), (fun _ h => by cases h)⟩)) 60 t lv st z hd h) [(98, .putfield 489, 3), (101, .aload_n 0, 1), (102, .getfield 489, 3), (105, .ifCond .ne 27, 3)] 98 [(0, pj_O (124, 0)), (2, pj_I a2), (3, pj_I a3)] [pj_I b1, pj_O (124, 0)] (s, l, x, y) (pm_bks_ok pb_X12_mixture _ _ rfl) (pm_ndb_ok rfl) ((pq_X12_mixture_98  a2 a3 b1 s l x y).symm.trans h)
set_option maxRecDepth 100000 in
theorem pg_X12_mixture_97 {lf : pj_Z → mj_M} (hT : pj_Lt pj_TR lf) : ∀ (a2 : Int32) (a3 : Int32) (s : Nat → Int32) (l : Nat → Int64) (x : Nat → Int32) (y : Nat → Int64) (a : Unit × pj_Z), pl_X12_mixture_97 a2 a3 s l x y = some a → pm_Gd 2 12059 ie_X12_mixture.1 pm_rU lf 97 [(0, .ref 124), (2, .int a2), (3, .int a3)] [.ref 124] (s, l, x, y) a := by
  intro a2 a3 s l x y a h
  exact pj_bl_ok (pz_X12_mixture hT) (fun t lv st z hd h => pj_rn_ok (pz_X12_mixture hT) (pm_bks_ok pb_X12_mixture) (pj_as_all (p := pm_Ex 2 12059 ie_X12_mixture.1 pm_rU lf a) (List.forall_mem_cons.mpr ⟨pu_X12_mixture_98 _ (fun c0 c1 c2 s l x y h => pg_X12_mixture_98 hT c0 c1 c2 s l x y _ h), (fun _ h => by cases h)⟩)) 60 t lv st z hd h) [(97, .iconst 0, 1)] 97 [(0, pj_O (124, 0)), (2, pj_I a2), (3, pj_I a3)] [pj_O (124, 0)] (s, l, x, y) (pm_bks_ok pb_X12_mixture _ _ rfl) (pm_ndb_ok rfl) ((pq_X12_mixture_97  a2 a3 s l x y).symm.trans h)
set_option maxRecDepth 100000 in
theorem pm_X12_mixture {lf : pj_Z → mj_M} (hT : pj_Lt pj_TR lf)  (s : Nat → Int32) (l : Nat → Int64) (x : Nat → Int32) (y : Nat → Int64) (a : Unit × pj_Z) (h : pf_X12_mixture  s l x y = some a) : mj_R ic_P 3 12059 [.ref 124] (lf (s, l, x, y)) (pm_rU a.1) (lf a.2) := by
  refine pm_main (Y := ie_X12_mixture.1) rfl (Nat.le_of_ble_eq_true rfl) ?_
  exact pj_bl_ok (pz_X12_mixture hT) (fun t lv st z hd h => pj_rn_ok (pz_X12_mixture hT) (pm_bks_ok pb_X12_mixture) (pj_as_all (p := pm_Ex 2 12059 ie_X12_mixture.1 pm_rU lf a) (List.forall_mem_cons.mpr ⟨pu_X12_mixture_97 _ (fun c0 c1 s l x y h => pg_X12_mixture_97 hT c0 c1 s l x y _ h), (List.forall_mem_cons.mpr ⟨pu_X12_mixture_98 _ (fun c0 c1 c2 s l x y h => pg_X12_mixture_98 hT c0 c1 c2 s l x y _ h), (fun _ h => by cases h)⟩)⟩)) 60 t lv st z hd h) [(0, .aload_n 0, 1), (1, .invokevirtual 632, 3), (4, .istore_n 1, 1), (5, .aload_n 0, 1), (6, .getfield 489, 3), (9, .istore_n 2, 1), (10, .aload_n 0, 1), (11, .invokevirtual 689, 3), (14, .istore_n 3, 1), (15, .aload_n 0, 1), (16, .aload_n 0, 1), (17, .getfield 519, 3), (20, .iconst 1, 1), (21, .if_icmp .ne 76, 3)] 0 [(0, pj_O (124, 0))] [] (s, l, x, y) (pm_bks_ok pb_X12_mixture _ _ rfl) (pm_ndb_ok rfl) ((pq_X12_mixture_m  s l x y).symm.trans h)
abbrev ph_X12_mixture {A : Type} : List pj_V → pj_Z → (List pj_V → pj_Z → Option A) → Option A := fun st z K => pj_pr st 124 0 fun st => pj_ps st (pj_b (pf_X12_mixture  z.1 z.2.1 z.2.2.1 z.2.2.2) fun r s l x y => K st (s, l, x, y))
set_option maxRecDepth 100000 in
theorem pc_X12_mixture {A : Type} {OK : A → Option Value → mj_M → Prop} {d j pc ix : Nat} {Y : mj_Y} {lf : pj_Z → mj_M} (hT : pj_Lt pj_TR lf) (hd : 3 ≤ d) (hl : mj_lk Y.2.2.2.2 pc = some (.invokevirtual ix, 3)) (hg : mj_pG ic_P j ix = some (12059, 0, some 12)) {lv : List (Nat × Value)} {st : List pj_V} {z : pj_Z} {K : List pj_V → pj_Z → Option A} {a : A} (hK : ∀ st z, K st z = some a → pj_Gd ic_P (mj_R ic_P d) j Y OK lf (pc + 3) lv (pj_es st) z a) (h : ph_X12_mixture st z K = some a) : pj_Gd ic_P (mj_R ic_P d) j Y OK lf pc lv (pj_es st) z a := by
  obtain ⟨r0, e0, h⟩ := pj_pr_inv h
  obtain ⟨hs, h⟩ := pj_ps_inv h
  obtain ⟨q, hq, h⟩ := pj_b_inv h
  exact pm_cv (o := 124) hl hg [] rfl (by rw [e0]; rfl) hs (by decide) ((hT.2 124 _ rfl).1.2 z 0 (by decide)) (pm_rU q.1) hd (pm_X12_mixture hT  z.1 z.2.1 z.2.2.1 z.2.2.2 q hq) rfl (hK _ _ h)
abbrev px_X12_freeze : pj_C (Unit × pj_Z) := (pj_TR, (pj_as [(133, 12, 72, 2, true), (146, 12, 106, 2, true), (173, 12, 121, 2, true), (417, 12, 75, 1, false), (435, 12, 81, 0, false), (513, 12, 120, 3, false), (516, 12, 103, 0, false)]), (fun _ => none), (fun _ => none), (fun _ => none), ic_X, 2, 0, pj_mU, (pj_as [(26, ph_X12_speed), (85, ph_X12_cellNow)]), fun _ => false)
abbrev pk_X12_freeze : List (Nat × List (Nat × Instr × Nat)) := [(0, [(0, .aload_n 0, 1), (1, .getfield 513, 3), (4, .ifCond .eq 4, 3)]), (7, [(7, .return_, 1)]), (8, [(8, .aload_n 0, 1), (9, .iconst 1, 1), (10, .putfield 513, 3), (13, .aload_n 0, 1), (14, .getfield 173, 3), (17, .iconst 0, 1), (18, .iload_n 1, 1), (19, .iastore, 1), (20, .aload_n 0, 1), (21, .getfield 173, 3), (24, .iconst 1, 1), (25, .aload_n 0, 1), (26, .invokevirtual 632, 3), (29, .iastore, 1), (30, .aload_n 0, 1), (31, .getfield 173, 3), (34, .iconst 2, 1), (35, .aload_n 0, 1), (36, .getfield 133, 3), (39, .iconst 4, 1), (40, .iaload, 1), (41, .iastore, 1), (42, .aload_n 0, 1), (43, .getfield 173, 3), (46, .iconst 3, 1), (47, .aload_n 0, 1), (48, .getfield 133, 3), (51, .iconst 5, 1), (52, .iaload, 1), (53, .iastore, 1), (54, .aload_n 0, 1), (55, .getfield 173, 3), (58, .iconst 4, 1), (59, .aload_n 0, 1), (60, .getfield 435, 3), (63, .iastore, 1), (64, .aload_n 0, 1), (65, .getfield 173, 3), (68, .iconst 5, 1), (69, .aload_n 0, 1), (70, .getfield 516, 3), (73, .iastore, 1), (74, .aload_n 0, 1), (75, .getfield 173, 3), (78, .bipush 6, 2), (80, .aload_n 0, 1), (81, .getfield 146, 3), (84, .aload_n 0, 1), (85, .invokevirtual 689, 3), (88, .iaload, 1), (89, .iastore, 1), (90, .aload_n 0, 1), (91, .getfield 173, 3), (94, .bipush 7, 2), (96, .aload_n 0, 1), (97, .getfield 417, 3), (100, .l2i, 1), (101, .iastore, 1), (102, .return_, 1)])]
set_option maxRecDepth 100000 in
theorem pq_X12_freeze_m (a1 : Int32) (s : Nat → Int32) (l : Nat → Int64) (x : Nat → Int32) (y : Nat → Int64) : pf_X12_freeze a1 s l x y = pj_bl px_X12_freeze (pj_rn px_X12_freeze (pj_as pk_X12_freeze) (fun _ => none) 60) [(0, .aload_n 0, 1), (1, .getfield 513, 3), (4, .ifCond .eq 4, 3)] 0 [(0, pj_O (124, 0)), (1, pj_I a1)] [] (s, l, x, y) := rfl
set_option maxRecDepth 100000 in
theorem pz_X12_freeze {lf : pj_Z → mj_M} (hT : pj_Lt pj_TR lf) : pj_Cok ic_P (mj_R ic_P 2) 12063 ie_X12_freeze.1 (pm_OK lf pm_rU) lf px_X12_freeze := by
  exact pm_cok (c := px_X12_freeze) hT (pm_in_ok (L := [(133, 12, 72, 2, true), (146, 12, 106, 2, true), (173, 12, 121, 2, true), (417, 12, 75, 1, false), (435, 12, 81, 0, false), (513, 12, 120, 3, false), (516, 12, 103, 0, false)]) (f := mj_pF ic_P 12063) (by decide +kernel)) (fun _ _ h => by cases h) (fun _ _ h => by cases h) (fun _ _ h => by cases h) rfl rfl ⟨by decide, rfl⟩ pm_mU (pj_as_all (p := pm_Cl 2 12063 ie_X12_freeze.1 lf (pm_OK lf pm_rU)) (List.forall_mem_cons.mpr ⟨fun _ _ lv st z K a hK h => pc_X12_speed hT (by decide) (ix := 632) rfl rfl hK h, (List.forall_mem_cons.mpr ⟨fun _ _ lv st z K a hK h => pc_X12_cellNow hT (by decide) (ix := 689) rfl rfl hK h, (fun _ h => by cases h)⟩)⟩)) (fun _ h => by cases h)
set_option maxRecDepth 100000 in
theorem pb_X12_freeze : pm_bks ie_X12_freeze.1.2.2.2.2 pk_X12_freeze = true := by decide +kernel
set_option maxRecDepth 100000 in
theorem pm_X12_freeze {lf : pj_Z → mj_M} (hT : pj_Lt pj_TR lf) (a1 : Int32) (s : Nat → Int32) (l : Nat → Int64) (x : Nat → Int32) (y : Nat → Int64) (a : Unit × pj_Z) (h : pf_X12_freeze a1 s l x y = some a) : mj_R ic_P 3 12063 [.ref 124, .int a1] (lf (s, l, x, y)) (pm_rU a.1) (lf a.2) := by
  refine pm_main (Y := ie_X12_freeze.1) rfl (Nat.le_of_ble_eq_true rfl) ?_
  exact pj_bl_ok (pz_X12_freeze hT) (fun t lv st z hd h => pj_rn_ok (pz_X12_freeze hT) (pm_bks_ok pb_X12_freeze) (fun _ _ h => by cases h) 60 t lv st z hd h) [(0, .aload_n 0, 1), (1, .getfield 513, 3), (4, .ifCond .eq 4, 3)] 0 [(0, pj_O (124, 0)), (1, pj_I a1)] [] (s, l, x, y) (pm_bks_ok pb_X12_freeze _ _ rfl) (pm_ndb_ok rfl) ((pq_X12_freeze_m a1 s l x y).symm.trans h)
abbrev ph_X12_freeze {A : Type} : List pj_V → pj_Z → (List pj_V → pj_Z → Option A) → Option A := fun st z K => pj_pi st fun a1 st => pj_pr st 124 0 fun st => pj_ps st (pj_b (pf_X12_freeze a1 z.1 z.2.1 z.2.2.1 z.2.2.2) fun r s l x y => K st (s, l, x, y))
set_option maxRecDepth 100000 in
theorem pc_X12_freeze {A : Type} {OK : A → Option Value → mj_M → Prop} {d j pc ix : Nat} {Y : mj_Y} {lf : pj_Z → mj_M} (hT : pj_Lt pj_TR lf) (hd : 3 ≤ d) (hl : mj_lk Y.2.2.2.2 pc = some (.invokevirtual ix, 3)) (hg : mj_pG ic_P j ix = some (12063, 1, some 12)) {lv : List (Nat × Value)} {st : List pj_V} {z : pj_Z} {K : List pj_V → pj_Z → Option A} {a : A} (hK : ∀ st z, K st z = some a → pj_Gd ic_P (mj_R ic_P d) j Y OK lf (pc + 3) lv (pj_es st) z a) (h : ph_X12_freeze st z K = some a) : pj_Gd ic_P (mj_R ic_P d) j Y OK lf pc lv (pj_es st) z a := by
  obtain ⟨a1, r1, e1, h⟩ := pj_pi_inv h
  obtain ⟨r0, e0, h⟩ := pj_pr_inv h
  obtain ⟨hs, h⟩ := pj_ps_inv h
  obtain ⟨q, hq, h⟩ := pj_b_inv h
  exact pm_cv (o := 124) hl hg [.int a1] rfl (by rw [e1, e0]; rfl) hs (by decide) ((hT.2 124 _ rfl).1.2 z 0 (by decide)) (pm_rU q.1) hd (pm_X12_freeze hT a1 z.1 z.2.1 z.2.2.1 z.2.2.2 q hq) rfl (hK _ _ h)
abbrev pe_X12_test_94 (f : Int32 → pj_F (Unit × pj_Z)) : pj_K (Unit × pj_Z) := fun lv st z => pj_xr lv 0 124 0 <| pj_xi lv 1 fun a1 => pj_pe st (f a1 z.1 z.2.1 z.2.2.1 z.2.2.2)
abbrev px_X12_test : pj_C (Unit × pj_Z) := (pj_TR, (pj_as [(149, 12, 112, 2, true), (152, 12, 113, 2, true), (155, 12, 114, 2, true), (158, 12, 115, 2, true), (161, 12, 116, 2, true), (164, 12, 117, 2, true), (167, 12, 118, 2, true), (170, 12, 119, 2, true)]), (fun _ => none), (pj_as [(794, (-128)), (796, 127)]), (fun _ => none), ic_X, 4, 0, pj_mU, (pj_as [(25, ph_X12_cutTo), (96, ph_X12_freeze), (126, ph_X12_cutTo)]), fun _ => false)
abbrev pk_X12_test : List (Nat × List (Nat × Instr × Nat)) := [(0, [(0, .iload_n 2, 1), (1, .ifCond .eq 101, 3)]), (4, [(4, .aload_n 0, 1), (5, .getfield 149, 3), (8, .iload_n 1, 1), (9, .aload_n 0, 1), (10, .getfield 149, 3), (13, .iload_n 1, 1), (14, .iaload, 1), (15, .bipush 32, 2), (17, .iadd, 1), (18, .i2l, 1), (19, .ldc2_w 794, 3), (22, .ldc2_w 796, 3), (25, .invokestatic 576, 3), (28, .l2i, 1), (29, .iastore, 1), (30, .aload_n 0, 1), (31, .getfield 149, 3), (34, .iload_n 1, 1), (35, .iaload, 1), (36, .bipush 127, 2), (38, .if_icmp .ne 118, 3)]), (41, [(41, .aload_n 0, 1), (42, .getfield 152, 3), (45, .iload_n 1, 1), (46, .baload, 1), (47, .ifCond .ne 109, 3)]), (50, [(50, .aload_n 0, 1), (51, .getfield 152, 3), (54, .iload_n 1, 1), (55, .iconst 1, 1), (56, .bastore, 1), (57, .aload_n 0, 1), (58, .getfield 155, 3), (61, .iload_n 1, 1), (62, .iconst 1, 1), (63, .bastore, 1), (64, .aload_n 0, 1), (65, .getfield 164, 3), (68, .iload_n 1, 1), (69, .iconst 1, 1), (70, .bastore, 1), (71, .aload_n 0, 1), (72, .getfield 161, 3), (75, .iload_n 1, 1), (76, .baload, 1), (77, .ifCond .eq 17, 3)]), (80, [(80, .aload_n 0, 1), (81, .getfield 167, 3), (84, .iload_n 1, 1), (85, .iconst 1, 1), (86, .bastore, 1), (87, .aload_n 0, 1), (88, .getfield 170, 3), (91, .iload_n 1, 1), (92, .iconst 0, 1), (93, .iastore, 1)]), (94, [(94, .aload_n 0, 1), (95, .iload_n 1, 1), (96, .invokevirtual 798, 3), (99, .goto 57, 3)]), (102, [(102, .iload_n 3, 1), (103, .ifCond .eq 53, 3)]), (106, [(106, .aload_n 0, 1), (107, .getfield 149, 3), (110, .iload_n 1, 1), (111, .aload_n 0, 1), (112, .getfield 149, 3), (115, .iload_n 1, 1), (116, .iaload, 1), (117, .iconst 4, 1), (118, .isub, 1), (119, .i2l, 1), (120, .ldc2_w 794, 3), (123, .ldc2_w 796, 3), (126, .invokestatic 576, 3), (129, .l2i, 1), (130, .iastore, 1), (131, .aload_n 0, 1), (132, .getfield 149, 3), (135, .iload_n 1, 1), (136, .iaload, 1), (137, .bipush (-128), 2), (139, .if_icmp .ne 17, 3)]), (142, [(142, .aload_n 0, 1), (143, .getfield 152, 3), (146, .iload_n 1, 1), (147, .iconst 0, 1), (148, .bastore, 1), (149, .aload_n 0, 1), (150, .getfield 158, 3), (153, .iload_n 1, 1), (154, .iconst 1, 1), (155, .bastore, 1)]), (156, [(156, .return_, 1)])]
set_option maxRecDepth 100000 in
theorem pq_X12_test_94 (a1 : Int32) (s : Nat → Int32) (l : Nat → Int64) (x : Nat → Int32) (y : Nat → Int64) : pl_X12_test_94 a1 s l x y = pj_bl px_X12_test (pj_rn px_X12_test (pj_as pk_X12_test) (fun _ => none) 60) [(94, .aload_n 0, 1), (95, .iload_n 1, 1), (96, .invokevirtual 798, 3), (99, .goto 57, 3)] 94 [(0, pj_O (124, 0)), (1, pj_I a1)] [] (s, l, x, y) := rfl
set_option maxRecDepth 100000 in
theorem pq_X12_test_m (a1 : Int32) (a2 : Int32) (a3 : Int32) (s : Nat → Int32) (l : Nat → Int64) (x : Nat → Int32) (y : Nat → Int64) : pf_X12_test a1 a2 a3 s l x y = pj_bl px_X12_test (pj_rn px_X12_test (pj_as pk_X12_test) (pj_as [(94, pe_X12_test_94 (pl_X12_test_94))]) 60) [(0, .iload_n 2, 1), (1, .ifCond .eq 101, 3)] 0 [(0, pj_O (124, 0)), (1, pj_I a1), (2, pj_I a2), (3, pj_I a3)] [] (s, l, x, y) := rfl
theorem pu_X12_test_94 {lf : pj_Z → mj_M} {a : Unit × pj_Z} (f : Int32 → pj_F (Unit × pj_Z)) (hf : ∀ (a1 : Int32) (s : Nat → Int32) (l : Nat → Int64) (x : Nat → Int32) (y : Nat → Int64), f a1 s l x y = some a → pm_Gd 3 12062 ie_X12_test.1 pm_rU lf 94 [(0, .ref 124), (1, .int a1)] [] (s, l, x, y) a) : pm_Ex 3 12062 ie_X12_test.1 pm_rU lf a 94 (pe_X12_test_94 f) := by
  intro lv st z hd h
  obtain ⟨g0, h⟩ := pj_xr_inv h
  obtain ⟨a1, g1, h⟩ := pj_xi_inv h
  obtain ⟨e9, h⟩ := pj_pe_inv h
  rw [e9]
  exact mj_wp_sub (mj_sub_cons g0 (mj_sub_cons g1 (mj_sub_nil hd))) (hf _ _ _ _ _ h)
set_option maxRecDepth 100000 in
theorem pz_X12_test {lf : pj_Z → mj_M} (hT : pj_Lt pj_TR lf) : pj_Cok ic_P (mj_R ic_P 3) 12062 ie_X12_test.1 (pm_OK lf pm_rU) lf px_X12_test := by
  exact pm_cok (c := px_X12_test) hT (pm_in_ok (L := [(149, 12, 112, 2, true), (152, 12, 113, 2, true), (155, 12, 114, 2, true), (158, 12, 115, 2, true), (161, 12, 116, 2, true), (164, 12, 117, 2, true), (167, 12, 118, 2, true), (170, 12, 119, 2, true)]) (f := mj_pF ic_P 12062) (by decide +kernel)) (fun _ _ h => by cases h) (pm_inL_ok (L := [(794, (-128)), (796, 127)]) (f := mj_pL ic_P 12062) (by decide +kernel)) (fun _ _ h => by cases h) rfl rfl ⟨by decide, rfl⟩ pm_mU (pj_as_all (p := pm_Cl 3 12062 ie_X12_test.1 lf (pm_OK lf pm_rU)) (List.forall_mem_cons.mpr ⟨fun _ _ lv st z K a hK h => pc_X12_cutTo hT (by decide) (ix := 576) rfl rfl hK h, (List.forall_mem_cons.mpr ⟨fun _ _ lv st z K a hK h => pc_X12_freeze hT (by decide) (ix := 798) rfl rfl hK h, (List.forall_mem_cons.mpr ⟨fun _ _ lv st z K a hK h => pc_X12_cutTo hT (by decide) (ix := 576) rfl rfl hK h, (fun _ h => by cases h)⟩)⟩)⟩)) (fun _ h => by cases h)
set_option maxRecDepth 100000 in
theorem pb_X12_test : pm_bks ie_X12_test.1.2.2.2.2 pk_X12_test = true := by decide +kernel
set_option maxRecDepth 100000 in
theorem pg_X12_test_94 {lf : pj_Z → mj_M} (hT : pj_Lt pj_TR lf) : ∀ (a1 : Int32) (s : Nat → Int32) (l : Nat → Int64) (x : Nat → Int32) (y : Nat → Int64) (a : Unit × pj_Z), pl_X12_test_94 a1 s l x y = some a → pm_Gd 3 12062 ie_X12_test.1 pm_rU lf 94 [(0, .ref 124), (1, .int a1)] [] (s, l, x, y) a := by
  intro a1 s l x y a h
  exact pj_bl_ok (pz_X12_test hT) (fun t lv st z hd h => pj_rn_ok (pz_X12_test hT) (pm_bks_ok pb_X12_test) (fun _ _ h => by cases h) 60 t lv st z hd h) [(94, .aload_n 0, 1), (95, .iload_n 1, 1), (96, .invokevirtual 798, 3), (99, .goto 57, 3)] 94 [(0, pj_O (124, 0)), (1, pj_I a1)] [] (s, l, x, y) (pm_bks_ok pb_X12_test _ _ rfl) (pm_ndb_ok rfl) ((pq_X12_test_94  a1 s l x y).symm.trans h)
set_option maxRecDepth 100000 in
theorem pm_X12_test {lf : pj_Z → mj_M} (hT : pj_Lt pj_TR lf) (a1 : Int32) (a2 : Int32) (a3 : Int32) (s : Nat → Int32) (l : Nat → Int64) (x : Nat → Int32) (y : Nat → Int64) (a : Unit × pj_Z) (h : pf_X12_test a1 a2 a3 s l x y = some a) : mj_R ic_P 4 12062 [.ref 124, .int a1, .int a2, .int a3] (lf (s, l, x, y)) (pm_rU a.1) (lf a.2) := by
  refine pm_main (Y := ie_X12_test.1) rfl (Nat.le_of_ble_eq_true rfl) ?_
  exact pj_bl_ok (pz_X12_test hT) (fun t lv st z hd h => pj_rn_ok (pz_X12_test hT) (pm_bks_ok pb_X12_test) (pj_as_all (p := pm_Ex 3 12062 ie_X12_test.1 pm_rU lf a) (List.forall_mem_cons.mpr ⟨pu_X12_test_94 _ (fun c0 s l x y h => pg_X12_test_94 hT c0 s l x y _ h), (fun _ h => by cases h)⟩)) 60 t lv st z hd h) [(0, .iload_n 2, 1), (1, .ifCond .eq 101, 3)] 0 [(0, pj_O (124, 0)), (1, pj_I a1), (2, pj_I a2), (3, pj_I a3)] [] (s, l, x, y) (pm_bks_ok pb_X12_test _ _ rfl) (pm_ndb_ok rfl) ((pq_X12_test_m a1 a2 a3 s l x y).symm.trans h)
abbrev ph_X12_test {A : Type} : List pj_V → pj_Z → (List pj_V → pj_Z → Option A) → Option A := fun st z K => pj_pi st fun a3 st => pj_pi st fun a2 st => pj_pi st fun a1 st => pj_pr st 124 0 fun st => pj_ps st (pj_b (pf_X12_test a1 a2 a3 z.1 z.2.1 z.2.2.1 z.2.2.2) fun r s l x y => K st (s, l, x, y))
set_option maxRecDepth 100000 in
theorem pc_X12_test {A : Type} {OK : A → Option Value → mj_M → Prop} {d j pc ix : Nat} {Y : mj_Y} {lf : pj_Z → mj_M} (hT : pj_Lt pj_TR lf) (hd : 4 ≤ d) (hl : mj_lk Y.2.2.2.2 pc = some (.invokevirtual ix, 3)) (hg : mj_pG ic_P j ix = some (12062, 3, some 12)) {lv : List (Nat × Value)} {st : List pj_V} {z : pj_Z} {K : List pj_V → pj_Z → Option A} {a : A} (hK : ∀ st z, K st z = some a → pj_Gd ic_P (mj_R ic_P d) j Y OK lf (pc + 3) lv (pj_es st) z a) (h : ph_X12_test st z K = some a) : pj_Gd ic_P (mj_R ic_P d) j Y OK lf pc lv (pj_es st) z a := by
  obtain ⟨a3, r3, e3, h⟩ := pj_pi_inv h
  obtain ⟨a2, r2, e2, h⟩ := pj_pi_inv h
  obtain ⟨a1, r1, e1, h⟩ := pj_pi_inv h
  obtain ⟨r0, e0, h⟩ := pj_pr_inv h
  obtain ⟨hs, h⟩ := pj_ps_inv h
  obtain ⟨q, hq, h⟩ := pj_b_inv h
  exact pm_cv (o := 124) hl hg [.int a1, .int a2, .int a3] rfl (by rw [e3, e2, e1, e0]; rfl) hs (by decide) ((hT.2 124 _ rfl).1.2 z 0 (by decide)) (pm_rU q.1) hd (pm_X12_test hT a1 a2 a3 z.1 z.2.1 z.2.2.1 z.2.2.2 q hq) rfl (hK _ _ h)
abbrev pe_X12_tests_2 (f : Int32 → Int32 → Int32 → pj_F (Unit × pj_Z)) : pj_K (Unit × pj_Z) := fun lv st z => pj_xr lv 0 124 0 <| pj_xi lv 1 fun a1 => pj_xi lv 2 fun a2 => pj_xi lv 3 fun a3 => pj_pe st (f a1 a2 a3 z.1 z.2.1 z.2.2.1 z.2.2.2)
abbrev pe_X12_tests_30 (f : Int32 → Int32 → Int32 → Int32 → Int32 → Int32 → pj_F (Unit × pj_Z)) : pj_K (Unit × pj_Z) := fun lv st z => pj_xr lv 0 124 0 <| pj_xi lv 1 fun a1 => pj_xi lv 2 fun a2 => pj_xi lv 3 fun a3 => pj_pi st fun b3 st => pj_pi st fun b2 st => pj_pi st fun b1 st => pj_pr st 124 0 fun st => pj_pe st (f a1 a2 a3 b1 b2 b3 z.1 z.2.1 z.2.2.1 z.2.2.2)
abbrev pe_X12_tests_56 (f : Int32 → Int32 → Int32 → pj_F (Unit × pj_Z)) : pj_K (Unit × pj_Z) := fun lv st z => pj_xr lv 0 124 0 <| pj_xi lv 1 fun a1 => pj_xi lv 2 fun a2 => pj_pi st fun b2 st => pj_pc st 10 fun st => pj_pr st 124 0 fun st => pj_pe st (f a1 a2 b2 z.1 z.2.1 z.2.2.1 z.2.2.2)
abbrev pe_X12_tests_85 (f : Int32 → Int32 → Int32 → pj_F (Unit × pj_Z)) : pj_K (Unit × pj_Z) := fun lv st z => pj_xr lv 0 124 0 <| pj_xi lv 1 fun a1 => pj_xi lv 2 fun a2 => pj_pi st fun b2 st => pj_pc st 10 fun st => pj_pr st 124 0 fun st => pj_pe st (f a1 a2 b2 z.1 z.2.1 z.2.2.1 z.2.2.2)
abbrev pe_X12_tests_86 (f : Int32 → Int32 → Int32 → Int32 → pj_F (Unit × pj_Z)) : pj_K (Unit × pj_Z) := fun lv st z => pj_xr lv 0 124 0 <| pj_xi lv 1 fun a1 => pj_xi lv 2 fun a2 => pj_pi st fun b3 st => pj_pi st fun b2 st => pj_pc st 10 fun st => pj_pr st 124 0 fun st => pj_pe st (f a1 a2 b2 b3 z.1 z.2.1 z.2.2.1 z.2.2.2)
abbrev pe_X12_tests_106 (f : Int32 → Int32 → Int32 → pj_F (Unit × pj_Z)) : pj_K (Unit × pj_Z) := fun lv st z => pj_xr lv 0 124 0 <| pj_xi lv 1 fun a1 => pj_xi lv 2 fun a2 => pj_pi st fun b2 st => pj_pc st 11 fun st => pj_pr st 124 0 fun st => pj_pe st (f a1 a2 b2 z.1 z.2.1 z.2.2.1 z.2.2.2)
abbrev pe_X12_tests_135 (f : Int32 → Int32 → Int32 → pj_F (Unit × pj_Z)) : pj_K (Unit × pj_Z) := fun lv st z => pj_xr lv 0 124 0 <| pj_xi lv 1 fun a1 => pj_xi lv 2 fun a2 => pj_pi st fun b2 st => pj_pc st 11 fun st => pj_pr st 124 0 fun st => pj_pe st (f a1 a2 b2 z.1 z.2.1 z.2.2.1 z.2.2.2)
abbrev pe_X12_tests_136 (f : Int32 → Int32 → Int32 → Int32 → pj_F (Unit × pj_Z)) : pj_K (Unit × pj_Z) := fun lv st z => pj_xr lv 0 124 0 <| pj_xi lv 1 fun a1 => pj_xi lv 2 fun a2 => pj_pi st fun b3 st => pj_pi st fun b2 st => pj_pc st 11 fun st => pj_pr st 124 0 fun st => pj_pe st (f a1 a2 b2 b3 z.1 z.2.1 z.2.2.1 z.2.2.2)
abbrev pe_X12_tests_158 (f : Int32 → pj_F (Unit × pj_Z)) : pj_K (Unit × pj_Z) := fun lv st z => pj_xr lv 0 124 0 <| pj_pi st fun b2 st => pj_pc st 12 fun st => pj_pr st 124 0 fun st => pj_pe st (f b2 z.1 z.2.1 z.2.2.1 z.2.2.2)
abbrev pe_X12_tests_159 (f : Int32 → Int32 → pj_F (Unit × pj_Z)) : pj_K (Unit × pj_Z) := fun lv st z => pj_xr lv 0 124 0 <| pj_pi st fun b3 st => pj_pi st fun b2 st => pj_pc st 12 fun st => pj_pr st 124 0 fun st => pj_pe st (f b2 b3 z.1 z.2.1 z.2.2.1 z.2.2.2)
abbrev pe_X12_tests_187 (f : Int32 → pj_F (Unit × pj_Z)) : pj_K (Unit × pj_Z) := fun lv st z => pj_xr lv 0 124 0 <| pj_pi st fun b2 st => pj_pc st 13 fun st => pj_pr st 124 0 fun st => pj_pe st (f b2 z.1 z.2.1 z.2.2.1 z.2.2.2)
abbrev pe_X12_tests_188 (f : Int32 → Int32 → pj_F (Unit × pj_Z)) : pj_K (Unit × pj_Z) := fun lv st z => pj_xr lv 0 124 0 <| pj_pi st fun b3 st => pj_pi st fun b2 st => pj_pc st 13 fun st => pj_pr st 124 0 fun st => pj_pe st (f b2 b3 z.1 z.2.1 z.2.2.1 z.2.2.2)
abbrev pe_X12_tests_221 (f : Int32 → pj_F (Unit × pj_Z)) : pj_K (Unit × pj_Z) := fun lv st z => pj_xr lv 0 124 0 <| pj_pi st fun b2 st => pj_pc st 15 fun st => pj_pr st 124 0 fun st => pj_pe st (f b2 z.1 z.2.1 z.2.2.1 z.2.2.2)
abbrev pe_X12_tests_234 (f : Int32 → Int32 → pj_F (Unit × pj_Z)) : pj_K (Unit × pj_Z) := fun lv st z => pj_xr lv 0 124 0 <| pj_pi st fun b3 st => pj_pi st fun b2 st => pj_pc st 15 fun st => pj_pr st 124 0 fun st => pj_pe st (f b2 b3 z.1 z.2.1 z.2.2.1 z.2.2.2)
abbrev pe_X12_tests_259 (f : pj_F (Unit × pj_Z)) : pj_K (Unit × pj_Z) := fun lv st z => pj_xr lv 0 124 0 <| pj_pc st 16 fun st => pj_pr st 124 0 fun st => pj_pe st (f  z.1 z.2.1 z.2.2.1 z.2.2.2)
abbrev pe_X12_tests_264 (f : Int32 → pj_F (Unit × pj_Z)) : pj_K (Unit × pj_Z) := fun lv st z => pj_xr lv 0 124 0 <| pj_pi st fun b2 st => pj_pc st 16 fun st => pj_pr st 124 0 fun st => pj_pe st (f b2 z.1 z.2.1 z.2.2.1 z.2.2.2)
abbrev pe_X12_tests_283 (f : Int32 → pj_F (Unit × pj_Z)) : pj_K (Unit × pj_Z) := fun lv st z => pj_xr lv 0 124 0 <| pj_pi st fun b2 st => pj_pc st 16 fun st => pj_pr st 124 0 fun st => pj_pe st (f b2 z.1 z.2.1 z.2.2.1 z.2.2.2)
abbrev pe_X12_tests_284 (f : Int32 → Int32 → pj_F (Unit × pj_Z)) : pj_K (Unit × pj_Z) := fun lv st z => pj_xr lv 0 124 0 <| pj_pi st fun b3 st => pj_pi st fun b2 st => pj_pc st 16 fun st => pj_pr st 124 0 fun st => pj_pe st (f b2 b3 z.1 z.2.1 z.2.2.1 z.2.2.2)
abbrev pe_X12_tests_305 (f : Int32 → pj_F (Unit × pj_Z)) : pj_K (Unit × pj_Z) := fun lv st z => pj_xr lv 0 124 0 <| pj_pi st fun b2 st => pj_pc st 17 fun st => pj_pr st 124 0 fun st => pj_pe st (f b2 z.1 z.2.1 z.2.2.1 z.2.2.2)
abbrev pe_X12_tests_323 (f : Int32 → pj_F (Unit × pj_Z)) : pj_K (Unit × pj_Z) := fun lv st z => pj_xr lv 0 124 0 <| pj_pi st fun b2 st => pj_pc st 17 fun st => pj_pr st 124 0 fun st => pj_pe st (f b2 z.1 z.2.1 z.2.2.1 z.2.2.2)
abbrev pe_X12_tests_324 (f : Int32 → Int32 → pj_F (Unit × pj_Z)) : pj_K (Unit × pj_Z) := fun lv st z => pj_xr lv 0 124 0 <| pj_pi st fun b3 st => pj_pi st fun b2 st => pj_pc st 17 fun st => pj_pr st 124 0 fun st => pj_pe st (f b2 b3 z.1 z.2.1 z.2.2.1 z.2.2.2)
abbrev pe_X12_tests_366 (f : pj_F (Unit × pj_Z)) : pj_K (Unit × pj_Z) := fun lv st z => pj_xr lv 0 124 0 <| pj_pc st 18 fun st => pj_pr st 124 0 fun st => pj_pe st (f  z.1 z.2.1 z.2.2.1 z.2.2.2)
abbrev pe_X12_tests_370 (f : pj_F (Unit × pj_Z)) : pj_K (Unit × pj_Z) := fun lv st z => pj_xr lv 0 124 0 <| pj_pc st 18 fun st => pj_pr st 124 0 fun st => pj_pe st (f  z.1 z.2.1 z.2.2.1 z.2.2.2)
abbrev pe_X12_tests_371 (f : Int32 → pj_F (Unit × pj_Z)) : pj_K (Unit × pj_Z) := fun lv st z => pj_xr lv 0 124 0 <| pj_pi st fun b2 st => pj_pc st 18 fun st => pj_pr st 124 0 fun st => pj_pe st (f b2 z.1 z.2.1 z.2.2.1 z.2.2.2)
abbrev pe_X12_tests_397 (f : Int32 → pj_F (Unit × pj_Z)) : pj_K (Unit × pj_Z) := fun lv st z => pj_xr lv 0 124 0 <| pj_pi st fun b2 st => pj_pc st 19 fun st => pj_pr st 124 0 fun st => pj_pe st (f b2 z.1 z.2.1 z.2.2.1 z.2.2.2)
abbrev pe_X12_tests_413 (f : Int32 → Int32 → pj_F (Unit × pj_Z)) : pj_K (Unit × pj_Z) := fun lv st z => pj_xr lv 0 124 0 <| pj_pi st fun b3 st => pj_pi st fun b2 st => pj_pc st 19 fun st => pj_pr st 124 0 fun st => pj_pe st (f b2 b3 z.1 z.2.1 z.2.2.1 z.2.2.2)
abbrev px_X12_tests : pj_C (Unit × pj_Z) := (pj_TR, (pj_as [(136, 12, 73, 2, true), (139, 12, 74, 2, true), (146, 12, 106, 2, true), (262, 12, 34, 0, false), (278, 12, 39, 0, false), (281, 12, 40, 0, false), (284, 12, 41, 0, false), (314, 12, 69, 0, false), (317, 12, 70, 0, false), (426, 12, 78, 0, false), (429, 12, 79, 0, false), (459, 12, 90, 0, false), (462, 12, 91, 3, false), (468, 12, 93, 0, false), (477, 12, 96, 3, false), (480, 12, 97, 3, false), (489, 12, 100, 3, false), (492, 12, 104, 0, false), (501, 12, 108, 0, false), (504, 12, 109, 0, false), (507, 12, 110, 0, false), (510, 12, 111, 0, false), (516, 12, 103, 0, false)]), (fun _ => none), (fun _ => none), (fun _ => none), ic_X, 4, 0, pj_mU, (pj_as [(30, ph_X12_test), (86, ph_X12_test), (136, ph_X12_test), (159, ph_X12_test), (188, ph_X12_test), (199, ph_X12_test), (234, ph_X12_test), (284, ph_X12_test), (324, ph_X12_test), (336, ph_X12_cellNow), (375, ph_X12_test), (413, ph_X12_test)]), fun _ => false)
abbrev pk_X12_tests : List (Nat × List (Nat × Instr × Nat)) := [(0, [(0, .iconst 0, 1), (1, .istore_n 3, 1)]), (2, [(2, .iload_n 3, 1), (3, .bipush 10, 2), (5, .if_icmp .ge 34, 3)]), (8, [(8, .aload_n 0, 1), (9, .iload_n 3, 1), (10, .aload_n 0, 1), (11, .getfield 139, 3), (14, .iload_n 3, 1), (15, .baload, 1), (16, .aload_n 0, 1), (17, .getfield 136, 3), (20, .iload_n 3, 1), (21, .iaload, 1), (22, .ifCond .ne 7, 3)]), (25, [(25, .iconst 1, 1), (26, .goto 4, 3)]), (29, [(29, .iconst 0, 1)]), (30, [(30, .invokevirtual 676, 3), (33, .iinc 3 1, 3), (36, .goto (-34), 3)]), (39, [(39, .aload_n 0, 1), (40, .bipush 10, 2), (42, .aload_n 0, 1), (43, .getfield 426, 3), (46, .bipush 10, 2), (48, .if_icmp .lt 7, 3)]), (51, [(51, .iconst 1, 1), (52, .goto 4, 3)]), (55, [(55, .iconst 0, 1)]), (56, [(56, .aload_n 0, 1), (57, .getfield 426, 3), (60, .ifCond .ne 25, 3)]), (63, [(63, .aload_n 0, 1), (64, .getfield 139, 3), (67, .iconst 0, 1), (68, .baload, 1), (69, .ifCond .ne 16, 3)]), (72, [(72, .aload_n 0, 1), (73, .getfield 139, 3), (76, .iconst 1, 1), (77, .baload, 1), (78, .ifCond .ne 7, 3)]), (81, [(81, .iconst 1, 1), (82, .goto 4, 3)]), (85, [(85, .iconst 0, 1)]), (86, [(86, .invokevirtual 676, 3), (89, .aload_n 0, 1), (90, .bipush 11, 2), (92, .aload_n 0, 1), (93, .getfield 429, 3), (96, .bipush 10, 2), (98, .if_icmp .lt 7, 3)]), (101, [(101, .iconst 1, 1), (102, .goto 4, 3)]), (105, [(105, .iconst 0, 1)]), (106, [(106, .aload_n 0, 1), (107, .getfield 429, 3), (110, .ifCond .ne 25, 3)]), (113, [(113, .aload_n 0, 1), (114, .getfield 139, 3), (117, .iconst 2, 1), (118, .baload, 1), (119, .ifCond .ne 16, 3)]), (122, [(122, .aload_n 0, 1), (123, .getfield 139, 3), (126, .iconst 3, 1), (127, .baload, 1), (128, .ifCond .ne 7, 3)]), (131, [(131, .iconst 1, 1), (132, .goto 4, 3)]), (135, [(135, .iconst 0, 1)]), (136, [(136, .invokevirtual 676, 3), (139, .aload_n 0, 1), (140, .bipush 12, 2), (142, .iload_n 2, 1), (143, .aload_n 0, 1), (144, .getfield 459, 3), (147, .ifCond .ne 11, 3)]), (150, [(150, .iload_n 1, 1), (151, .ifCond .eq 7, 3)]), (154, [(154, .iconst 1, 1), (155, .goto 4, 3)]), (158, [(158, .iconst 0, 1)]), (159, [(159, .invokevirtual 676, 3), (162, .aload_n 0, 1), (163, .bipush 13, 2), (165, .aload_n 0, 1), (166, .getfield 477, 3), (169, .aload_n 0, 1), (170, .getfield 462, 3), (173, .ifCond .eq 14, 3)]), (176, [(176, .aload_n 0, 1), (177, .getfield 468, 3), (180, .ifCond .ne 7, 3)]), (183, [(183, .iconst 1, 1), (184, .goto 4, 3)]), (187, [(187, .iconst 0, 1)]), (188, [(188, .invokevirtual 676, 3), (191, .aload_n 0, 1), (192, .bipush 14, 2), (194, .aload_n 0, 1), (195, .getfield 480, 3), (198, .iconst 1, 1), (199, .invokevirtual 676, 3), (202, .aload_n 0, 1), (203, .bipush 15, 2), (205, .aload_n 0, 1), (206, .getfield 278, 3), (209, .aload_n 0, 1), (210, .getfield 501, 3), (213, .if_icmp .le 7, 3)]), (216, [(216, .iconst 1, 1), (217, .goto 4, 3)]), (220, [(220, .iconst 0, 1)]), (221, [(221, .aload_n 0, 1), (222, .getfield 262, 3), (225, .iconst 3, 1), (226, .if_icmp .ne 7, 3)]), (229, [(229, .iconst 1, 1), (230, .goto 4, 3)]), (233, [(233, .iconst 0, 1)]), (234, [(234, .invokevirtual 676, 3), (237, .aload_n 0, 1), (238, .bipush 16, 2), (240, .aload_n 0, 1), (241, .getfield 281, 3), (244, .iconst 3, 1), (245, .if_icmp .ge 14, 3)]), (248, [(248, .aload_n 0, 1), (249, .getfield 284, 3), (252, .aload_n 0, 1), (253, .getfield 504, 3), (256, .if_icmp .le 7, 3)]), (259, [(259, .iconst 1, 1), (260, .goto 4, 3)]), (263, [(263, .iconst 0, 1)]), (264, [(264, .aload_n 0, 1), (265, .getfield 262, 3), (268, .iconst 3, 1), (269, .if_icmp .ne 14, 3)]), (272, [(272, .aload_n 0, 1), (273, .getfield 281, 3), (276, .ifCond .ne 7, 3)]), (279, [(279, .iconst 1, 1), (280, .goto 4, 3)]), (283, [(283, .iconst 0, 1)]), (284, [(284, .invokevirtual 676, 3), (287, .aload_n 0, 1), (288, .bipush 17, 2), (290, .aload_n 0, 1), (291, .getfield 492, 3), (294, .sipush 1000, 3), (297, .if_icmp .ne 7, 3)]), (300, [(300, .iconst 1, 1), (301, .goto 4, 3)]), (304, [(304, .iconst 0, 1)]), (305, [(305, .aload_n 0, 1), (306, .getfield 489, 3), (309, .ifCond .eq 14, 3)]), (312, [(312, .aload_n 0, 1), (313, .getfield 492, 3), (316, .ifCond .ne 7, 3)]), (319, [(319, .iconst 1, 1), (320, .goto 4, 3)]), (323, [(323, .iconst 0, 1)]), (324, [(324, .invokevirtual 676, 3), (327, .aload_n 0, 1), (328, .getfield 516, 3), (331, .aload_n 0, 1), (332, .getfield 146, 3), (335, .aload_n 0, 1), (336, .invokevirtual 689, 3), (339, .iaload, 1), (340, .iadd, 1), (341, .istore_n 3, 1), (342, .aload_n 0, 1), (343, .bipush 18, 2), (345, .aload_n 0, 1), (346, .getfield 489, 3), (349, .ifCond .eq 21, 3)]), (352, [(352, .iload_n 3, 1), (353, .sipush 240, 3), (356, .if_icmp .ge 10, 3)]), (359, [(359, .iload_n 3, 1), (360, .sipush (-240), 3), (363, .if_icmp .gt 7, 3)]), (366, [(366, .iconst 1, 1), (367, .goto 4, 3)]), (370, [(370, .iconst 0, 1)]), (371, [(371, .aload_n 0, 1), (372, .getfield 489, 3), (375, .invokevirtual 676, 3), (378, .aload_n 0, 1), (379, .bipush 19, 2), (381, .aload_n 0, 1), (382, .getfield 317, 3), (385, .aload_n 0, 1), (386, .getfield 507, 3), (389, .if_icmp .le 7, 3)]), (392, [(392, .iconst 1, 1), (393, .goto 4, 3)]), (396, [(396, .iconst 0, 1)]), (397, [(397, .aload_n 0, 1), (398, .getfield 314, 3), (401, .aload_n 0, 1), (402, .getfield 510, 3), (405, .if_icmp .le 7, 3)]), (408, [(408, .iconst 1, 1), (409, .goto 4, 3)]), (412, [(412, .iconst 0, 1)]), (413, [(413, .invokevirtual 676, 3), (416, .aload_n 0, 1), (417, .aload_n 0, 1), (418, .getfield 278, 3), (421, .putfield 501, 3), (424, .aload_n 0, 1), (425, .aload_n 0, 1), (426, .getfield 284, 3), (429, .putfield 504, 3), (432, .aload_n 0, 1), (433, .aload_n 0, 1), (434, .getfield 317, 3), (437, .putfield 507, 3), (440, .aload_n 0, 1), (441, .aload_n 0, 1), (442, .getfield 314, 3), (445, .putfield 510, 3), (448, .return_, 1)])]
set_option maxRecDepth 100000 in
theorem pq_X12_tests_30 (k2 : Int32 → Int32 → Int32 → pj_F (Unit × pj_Z)) (a1 : Int32) (a2 : Int32) (a3 : Int32) (b1 : Int32) (b2 : Int32) (b3 : Int32) (s : Nat → Int32) (l : Nat → Int64) (x : Nat → Int32) (y : Nat → Int64) : pl_X12_tests_30 k2 a1 a2 a3 b1 b2 b3 s l x y = pj_bl px_X12_tests (pj_rn px_X12_tests (pj_as pk_X12_tests) (pj_as [(2, pe_X12_tests_2 k2)]) 60) [(30, .invokevirtual 676, 3), (33, .iinc 3 1, 3), (36, .goto (-34), 3)] 30 [(0, pj_O (124, 0)), (1, pj_I a1), (2, pj_I a2), (3, pj_I a3)] [pj_I b3, pj_I b2, pj_I b1, pj_O (124, 0)] (s, l, x, y) := rfl
set_option maxRecDepth 100000 in
theorem pq_X12_tests_413 (b2 : Int32) (b3 : Int32) (s : Nat → Int32) (l : Nat → Int64) (x : Nat → Int32) (y : Nat → Int64) : pl_X12_tests_413 b2 b3 s l x y = pj_bl px_X12_tests (pj_rn px_X12_tests (pj_as pk_X12_tests) (fun _ => none) 60) [(413, .invokevirtual 676, 3), (416, .aload_n 0, 1), (417, .aload_n 0, 1), (418, .getfield 278, 3), (421, .putfield 501, 3), (424, .aload_n 0, 1), (425, .aload_n 0, 1), (426, .getfield 284, 3), (429, .putfield 504, 3), (432, .aload_n 0, 1), (433, .aload_n 0, 1), (434, .getfield 317, 3), (437, .putfield 507, 3), (440, .aload_n 0, 1), (441, .aload_n 0, 1), (442, .getfield 314, 3), (445, .putfield 510, 3), (448, .return_, 1)] 413 [(0, pj_O (124, 0))] [pj_I b3, pj_I b2, pj_N 19, pj_O (124, 0)] (s, l, x, y) := rfl
set_option maxRecDepth 100000 in
theorem pq_X12_tests_397 (b2 : Int32) (s : Nat → Int32) (l : Nat → Int64) (x : Nat → Int32) (y : Nat → Int64) : pl_X12_tests_397 b2 s l x y = pj_bl px_X12_tests (pj_rn px_X12_tests (pj_as pk_X12_tests) (pj_as [(413, pe_X12_tests_413 (pl_X12_tests_413))]) 60) [(397, .aload_n 0, 1), (398, .getfield 314, 3), (401, .aload_n 0, 1), (402, .getfield 510, 3), (405, .if_icmp .le 7, 3)] 397 [(0, pj_O (124, 0))] [pj_I b2, pj_N 19, pj_O (124, 0)] (s, l, x, y) := rfl
set_option maxRecDepth 100000 in
theorem pq_X12_tests_371 (b2 : Int32) (s : Nat → Int32) (l : Nat → Int64) (x : Nat → Int32) (y : Nat → Int64) : pl_X12_tests_371 b2 s l x y = pj_bl px_X12_tests (pj_rn px_X12_tests (pj_as pk_X12_tests) (pj_as [(397, pe_X12_tests_397 (pl_X12_tests_397))]) 60) [(371, .aload_n 0, 1), (372, .getfield 489, 3), (375, .invokevirtual 676, 3), (378, .aload_n 0, 1), (379, .bipush 19, 2), (381, .aload_n 0, 1), (382, .getfield 317, 3), (385, .aload_n 0, 1), (386, .getfield 507, 3), (389, .if_icmp .le 7, 3)] 371 [(0, pj_O (124, 0))] [pj_I b2, pj_N 18, pj_O (124, 0)] (s, l, x, y) := rfl
set_option maxRecDepth 100000 in
theorem pq_X12_tests_366  (s : Nat → Int32) (l : Nat → Int64) (x : Nat → Int32) (y : Nat → Int64) : pl_X12_tests_366 s l x y = pj_bl px_X12_tests (pj_rn px_X12_tests (pj_as pk_X12_tests) (pj_as [(371, pe_X12_tests_371 (pl_X12_tests_371))]) 60) [(366, .iconst 1, 1), (367, .goto 4, 3)] 366 [(0, pj_O (124, 0))] [pj_N 18, pj_O (124, 0)] (s, l, x, y) := rfl
set_option maxRecDepth 100000 in
theorem pq_X12_tests_370  (s : Nat → Int32) (l : Nat → Int64) (x : Nat → Int32) (y : Nat → Int64) : pl_X12_tests_370 s l x y = pj_bl px_X12_tests (pj_rn px_X12_tests (pj_as pk_X12_tests) (pj_as [(371, pe_X12_tests_371 (pl_X12_tests_371))]) 60) [(370, .iconst 0, 1)] 370 [(0, pj_O (124, 0))] [pj_N 18, pj_O (124, 0)] (s, l, x, y) := rfl
set_option maxRecDepth 100000 in
theorem pq_X12_tests_324 (b2 : Int32) (b3 : Int32) (s : Nat → Int32) (l : Nat → Int64) (x : Nat → Int32) (y : Nat → Int64) : pl_X12_tests_324 b2 b3 s l x y = pj_bl px_X12_tests (pj_rn px_X12_tests (pj_as pk_X12_tests) (pj_as [(366, pe_X12_tests_366 (pl_X12_tests_366)), (370, pe_X12_tests_370 (pl_X12_tests_370))]) 60) [(324, .invokevirtual 676, 3), (327, .aload_n 0, 1), (328, .getfield 516, 3), (331, .aload_n 0, 1), (332, .getfield 146, 3), (335, .aload_n 0, 1), (336, .invokevirtual 689, 3), (339, .iaload, 1), (340, .iadd, 1), (341, .istore_n 3, 1), (342, .aload_n 0, 1), (343, .bipush 18, 2), (345, .aload_n 0, 1), (346, .getfield 489, 3), (349, .ifCond .eq 21, 3)] 324 [(0, pj_O (124, 0))] [pj_I b3, pj_I b2, pj_N 17, pj_O (124, 0)] (s, l, x, y) := rfl
set_option maxRecDepth 100000 in
theorem pq_X12_tests_323 (b2 : Int32) (s : Nat → Int32) (l : Nat → Int64) (x : Nat → Int32) (y : Nat → Int64) : pl_X12_tests_323 b2 s l x y = pj_bl px_X12_tests (pj_rn px_X12_tests (pj_as pk_X12_tests) (pj_as [(324, pe_X12_tests_324 (pl_X12_tests_324))]) 60) [(323, .iconst 0, 1)] 323 [(0, pj_O (124, 0))] [pj_I b2, pj_N 17, pj_O (124, 0)] (s, l, x, y) := rfl
set_option maxRecDepth 100000 in
theorem pq_X12_tests_305 (b2 : Int32) (s : Nat → Int32) (l : Nat → Int64) (x : Nat → Int32) (y : Nat → Int64) : pl_X12_tests_305 b2 s l x y = pj_bl px_X12_tests (pj_rn px_X12_tests (pj_as pk_X12_tests) (pj_as [(323, pe_X12_tests_323 (pl_X12_tests_323)), (324, pe_X12_tests_324 (pl_X12_tests_324))]) 60) [(305, .aload_n 0, 1), (306, .getfield 489, 3), (309, .ifCond .eq 14, 3)] 305 [(0, pj_O (124, 0))] [pj_I b2, pj_N 17, pj_O (124, 0)] (s, l, x, y) := rfl
set_option maxRecDepth 100000 in
theorem pq_X12_tests_284 (b2 : Int32) (b3 : Int32) (s : Nat → Int32) (l : Nat → Int64) (x : Nat → Int32) (y : Nat → Int64) : pl_X12_tests_284 b2 b3 s l x y = pj_bl px_X12_tests (pj_rn px_X12_tests (pj_as pk_X12_tests) (pj_as [(305, pe_X12_tests_305 (pl_X12_tests_305))]) 60) [(284, .invokevirtual 676, 3), (287, .aload_n 0, 1), (288, .bipush 17, 2), (290, .aload_n 0, 1), (291, .getfield 492, 3), (294, .sipush 1000, 3), (297, .if_icmp .ne 7, 3)] 284 [(0, pj_O (124, 0))] [pj_I b3, pj_I b2, pj_N 16, pj_O (124, 0)] (s, l, x, y) := rfl
set_option maxRecDepth 100000 in
theorem pq_X12_tests_283 (b2 : Int32) (s : Nat → Int32) (l : Nat → Int64) (x : Nat → Int32) (y : Nat → Int64) : pl_X12_tests_283 b2 s l x y = pj_bl px_X12_tests (pj_rn px_X12_tests (pj_as pk_X12_tests) (pj_as [(284, pe_X12_tests_284 (pl_X12_tests_284))]) 60) [(283, .iconst 0, 1)] 283 [(0, pj_O (124, 0))] [pj_I b2, pj_N 16, pj_O (124, 0)] (s, l, x, y) := rfl
set_option maxRecDepth 100000 in
theorem pq_X12_tests_264 (b2 : Int32) (s : Nat → Int32) (l : Nat → Int64) (x : Nat → Int32) (y : Nat → Int64) : pl_X12_tests_264 b2 s l x y = pj_bl px_X12_tests (pj_rn px_X12_tests (pj_as pk_X12_tests) (pj_as [(283, pe_X12_tests_283 (pl_X12_tests_283)), (284, pe_X12_tests_284 (pl_X12_tests_284))]) 60) [(264, .aload_n 0, 1), (265, .getfield 262, 3), (268, .iconst 3, 1), (269, .if_icmp .ne 14, 3)] 264 [(0, pj_O (124, 0))] [pj_I b2, pj_N 16, pj_O (124, 0)] (s, l, x, y) := rfl
set_option maxRecDepth 100000 in
theorem pq_X12_tests_259  (s : Nat → Int32) (l : Nat → Int64) (x : Nat → Int32) (y : Nat → Int64) : pl_X12_tests_259 s l x y = pj_bl px_X12_tests (pj_rn px_X12_tests (pj_as pk_X12_tests) (pj_as [(264, pe_X12_tests_264 (pl_X12_tests_264))]) 60) [(259, .iconst 1, 1), (260, .goto 4, 3)] 259 [(0, pj_O (124, 0))] [pj_N 16, pj_O (124, 0)] (s, l, x, y) := rfl
set_option maxRecDepth 100000 in
theorem pq_X12_tests_234 (b2 : Int32) (b3 : Int32) (s : Nat → Int32) (l : Nat → Int64) (x : Nat → Int32) (y : Nat → Int64) : pl_X12_tests_234 b2 b3 s l x y = pj_bl px_X12_tests (pj_rn px_X12_tests (pj_as pk_X12_tests) (pj_as [(259, pe_X12_tests_259 (pl_X12_tests_259)), (264, pe_X12_tests_264 (pl_X12_tests_264))]) 60) [(234, .invokevirtual 676, 3), (237, .aload_n 0, 1), (238, .bipush 16, 2), (240, .aload_n 0, 1), (241, .getfield 281, 3), (244, .iconst 3, 1), (245, .if_icmp .ge 14, 3)] 234 [(0, pj_O (124, 0))] [pj_I b3, pj_I b2, pj_N 15, pj_O (124, 0)] (s, l, x, y) := rfl
set_option maxRecDepth 100000 in
theorem pq_X12_tests_221 (b2 : Int32) (s : Nat → Int32) (l : Nat → Int64) (x : Nat → Int32) (y : Nat → Int64) : pl_X12_tests_221 b2 s l x y = pj_bl px_X12_tests (pj_rn px_X12_tests (pj_as pk_X12_tests) (pj_as [(234, pe_X12_tests_234 (pl_X12_tests_234))]) 60) [(221, .aload_n 0, 1), (222, .getfield 262, 3), (225, .iconst 3, 1), (226, .if_icmp .ne 7, 3)] 221 [(0, pj_O (124, 0))] [pj_I b2, pj_N 15, pj_O (124, 0)] (s, l, x, y) := rfl
set_option maxRecDepth 100000 in
theorem pq_X12_tests_188 (b2 : Int32) (b3 : Int32) (s : Nat → Int32) (l : Nat → Int64) (x : Nat → Int32) (y : Nat → Int64) : pl_X12_tests_188 b2 b3 s l x y = pj_bl px_X12_tests (pj_rn px_X12_tests (pj_as pk_X12_tests) (pj_as [(221, pe_X12_tests_221 (pl_X12_tests_221))]) 60) [(188, .invokevirtual 676, 3), (191, .aload_n 0, 1), (192, .bipush 14, 2), (194, .aload_n 0, 1), (195, .getfield 480, 3), (198, .iconst 1, 1), (199, .invokevirtual 676, 3), (202, .aload_n 0, 1), (203, .bipush 15, 2), (205, .aload_n 0, 1), (206, .getfield 278, 3), (209, .aload_n 0, 1), (210, .getfield 501, 3), (213, .if_icmp .le 7, 3)] 188 [(0, pj_O (124, 0))] [pj_I b3, pj_I b2, pj_N 13, pj_O (124, 0)] (s, l, x, y) := rfl
set_option maxRecDepth 100000 in
theorem pq_X12_tests_187 (b2 : Int32) (s : Nat → Int32) (l : Nat → Int64) (x : Nat → Int32) (y : Nat → Int64) : pl_X12_tests_187 b2 s l x y = pj_bl px_X12_tests (pj_rn px_X12_tests (pj_as pk_X12_tests) (pj_as [(188, pe_X12_tests_188 (pl_X12_tests_188))]) 60) [(187, .iconst 0, 1)] 187 [(0, pj_O (124, 0))] [pj_I b2, pj_N 13, pj_O (124, 0)] (s, l, x, y) := rfl
set_option maxRecDepth 100000 in
theorem pq_X12_tests_159 (b2 : Int32) (b3 : Int32) (s : Nat → Int32) (l : Nat → Int64) (x : Nat → Int32) (y : Nat → Int64) : pl_X12_tests_159 b2 b3 s l x y = pj_bl px_X12_tests (pj_rn px_X12_tests (pj_as pk_X12_tests) (pj_as [(187, pe_X12_tests_187 (pl_X12_tests_187)), (188, pe_X12_tests_188 (pl_X12_tests_188))]) 60) [(159, .invokevirtual 676, 3), (162, .aload_n 0, 1), (163, .bipush 13, 2), (165, .aload_n 0, 1), (166, .getfield 477, 3), (169, .aload_n 0, 1), (170, .getfield 462, 3), (173, .ifCond .eq 14, 3)] 159 [(0, pj_O (124, 0))] [pj_I b3, pj_I b2, pj_N 12, pj_O (124, 0)] (s, l, x, y) := rfl
set_option maxRecDepth 100000 in
theorem pq_X12_tests_158 (b2 : Int32) (s : Nat → Int32) (l : Nat → Int64) (x : Nat → Int32) (y : Nat → Int64) : pl_X12_tests_158 b2 s l x y = pj_bl px_X12_tests (pj_rn px_X12_tests (pj_as pk_X12_tests) (pj_as [(159, pe_X12_tests_159 (pl_X12_tests_159))]) 60) [(158, .iconst 0, 1)] 158 [(0, pj_O (124, 0))] [pj_I b2, pj_N 12, pj_O (124, 0)] (s, l, x, y) := rfl
set_option maxRecDepth 100000 in
theorem pq_X12_tests_136 (a1 : Int32) (a2 : Int32) (b2 : Int32) (b3 : Int32) (s : Nat → Int32) (l : Nat → Int64) (x : Nat → Int32) (y : Nat → Int64) : pl_X12_tests_136 a1 a2 b2 b3 s l x y = pj_bl px_X12_tests (pj_rn px_X12_tests (pj_as pk_X12_tests) (pj_as [(158, pe_X12_tests_158 (pl_X12_tests_158)), (159, pe_X12_tests_159 (pl_X12_tests_159))]) 60) [(136, .invokevirtual 676, 3), (139, .aload_n 0, 1), (140, .bipush 12, 2), (142, .iload_n 2, 1), (143, .aload_n 0, 1), (144, .getfield 459, 3), (147, .ifCond .ne 11, 3)] 136 [(0, pj_O (124, 0)), (1, pj_I a1), (2, pj_I a2)] [pj_I b3, pj_I b2, pj_N 11, pj_O (124, 0)] (s, l, x, y) := rfl
set_option maxRecDepth 100000 in
theorem pq_X12_tests_135 (a1 : Int32) (a2 : Int32) (b2 : Int32) (s : Nat → Int32) (l : Nat → Int64) (x : Nat → Int32) (y : Nat → Int64) : pl_X12_tests_135 a1 a2 b2 s l x y = pj_bl px_X12_tests (pj_rn px_X12_tests (pj_as pk_X12_tests) (pj_as [(136, pe_X12_tests_136 (pl_X12_tests_136))]) 60) [(135, .iconst 0, 1)] 135 [(0, pj_O (124, 0)), (1, pj_I a1), (2, pj_I a2)] [pj_I b2, pj_N 11, pj_O (124, 0)] (s, l, x, y) := rfl
set_option maxRecDepth 100000 in
theorem pq_X12_tests_106 (a1 : Int32) (a2 : Int32) (b2 : Int32) (s : Nat → Int32) (l : Nat → Int64) (x : Nat → Int32) (y : Nat → Int64) : pl_X12_tests_106 a1 a2 b2 s l x y = pj_bl px_X12_tests (pj_rn px_X12_tests (pj_as pk_X12_tests) (pj_as [(135, pe_X12_tests_135 (pl_X12_tests_135)), (136, pe_X12_tests_136 (pl_X12_tests_136))]) 60) [(106, .aload_n 0, 1), (107, .getfield 429, 3), (110, .ifCond .ne 25, 3)] 106 [(0, pj_O (124, 0)), (1, pj_I a1), (2, pj_I a2)] [pj_I b2, pj_N 11, pj_O (124, 0)] (s, l, x, y) := rfl
set_option maxRecDepth 100000 in
theorem pq_X12_tests_86 (a1 : Int32) (a2 : Int32) (b2 : Int32) (b3 : Int32) (s : Nat → Int32) (l : Nat → Int64) (x : Nat → Int32) (y : Nat → Int64) : pl_X12_tests_86 a1 a2 b2 b3 s l x y = pj_bl px_X12_tests (pj_rn px_X12_tests (pj_as pk_X12_tests) (pj_as [(106, pe_X12_tests_106 (pl_X12_tests_106))]) 60) [(86, .invokevirtual 676, 3), (89, .aload_n 0, 1), (90, .bipush 11, 2), (92, .aload_n 0, 1), (93, .getfield 429, 3), (96, .bipush 10, 2), (98, .if_icmp .lt 7, 3)] 86 [(0, pj_O (124, 0)), (1, pj_I a1), (2, pj_I a2)] [pj_I b3, pj_I b2, pj_N 10, pj_O (124, 0)] (s, l, x, y) := rfl
set_option maxRecDepth 100000 in
theorem pq_X12_tests_85 (a1 : Int32) (a2 : Int32) (b2 : Int32) (s : Nat → Int32) (l : Nat → Int64) (x : Nat → Int32) (y : Nat → Int64) : pl_X12_tests_85 a1 a2 b2 s l x y = pj_bl px_X12_tests (pj_rn px_X12_tests (pj_as pk_X12_tests) (pj_as [(86, pe_X12_tests_86 (pl_X12_tests_86))]) 60) [(85, .iconst 0, 1)] 85 [(0, pj_O (124, 0)), (1, pj_I a1), (2, pj_I a2)] [pj_I b2, pj_N 10, pj_O (124, 0)] (s, l, x, y) := rfl
set_option maxRecDepth 100000 in
theorem pq_X12_tests_56 (a1 : Int32) (a2 : Int32) (b2 : Int32) (s : Nat → Int32) (l : Nat → Int64) (x : Nat → Int32) (y : Nat → Int64) : pl_X12_tests_56 a1 a2 b2 s l x y = pj_bl px_X12_tests (pj_rn px_X12_tests (pj_as pk_X12_tests) (pj_as [(85, pe_X12_tests_85 (pl_X12_tests_85)), (86, pe_X12_tests_86 (pl_X12_tests_86))]) 60) [(56, .aload_n 0, 1), (57, .getfield 426, 3), (60, .ifCond .ne 25, 3)] 56 [(0, pj_O (124, 0)), (1, pj_I a1), (2, pj_I a2)] [pj_I b2, pj_N 10, pj_O (124, 0)] (s, l, x, y) := rfl
set_option maxRecDepth 100000 in
theorem pq_X12_tests_2 (n : Nat) (a1 : Int32) (a2 : Int32) (a3 : Int32) (s : Nat → Int32) (l : Nat → Int64) (x : Nat → Int32) (y : Nat → Int64) : pl_X12_tests_2 (n + 1) a1 a2 a3 s l x y = pj_bl px_X12_tests (pj_rn px_X12_tests (pj_as pk_X12_tests) (pj_as [(2, pe_X12_tests_2 (pl_X12_tests_2 n)), (30, pe_X12_tests_30 (pl_X12_tests_30 (pl_X12_tests_2 n))), (56, pe_X12_tests_56 (pl_X12_tests_56))]) 60) [(2, .iload_n 3, 1), (3, .bipush 10, 2), (5, .if_icmp .ge 34, 3)] 2 [(0, pj_O (124, 0)), (1, pj_I a1), (2, pj_I a2), (3, pj_I a3)] [] (s, l, x, y) := rfl
set_option maxRecDepth 100000 in
theorem pq_X12_tests_m (a1 : Int32) (a2 : Int32) (s : Nat → Int32) (l : Nat → Int64) (x : Nat → Int32) (y : Nat → Int64) : pf_X12_tests a1 a2 s l x y = pj_bl px_X12_tests (pj_rn px_X12_tests (pj_as pk_X12_tests) (pj_as [(2, pe_X12_tests_2 (pl_X12_tests_2 (pj_fu 0)))]) 60) [(0, .iconst 0, 1), (1, .istore_n 3, 1)] 0 [(0, pj_O (124, 0)), (1, pj_I a1), (2, pj_I a2)] [] (s, l, x, y) := rfl
theorem pu_X12_tests_2 {lf : pj_Z → mj_M} {a : Unit × pj_Z} (f : Int32 → Int32 → Int32 → pj_F (Unit × pj_Z)) (hf : ∀ (a1 : Int32) (a2 : Int32) (a3 : Int32) (s : Nat → Int32) (l : Nat → Int64) (x : Nat → Int32) (y : Nat → Int64), f a1 a2 a3 s l x y = some a → pm_Gd 4 12060 ie_X12_tests.1 pm_rU lf 2 [(0, .ref 124), (1, .int a1), (2, .int a2), (3, .int a3)] [] (s, l, x, y) a) : pm_Ex 4 12060 ie_X12_tests.1 pm_rU lf a 2 (pe_X12_tests_2 f) := by
  intro lv st z hd h
  obtain ⟨g0, h⟩ := pj_xr_inv h
  obtain ⟨a1, g1, h⟩ := pj_xi_inv h
  obtain ⟨a2, g2, h⟩ := pj_xi_inv h
  obtain ⟨a3, g3, h⟩ := pj_xi_inv h
  obtain ⟨e9, h⟩ := pj_pe_inv h
  rw [e9]
  exact mj_wp_sub (mj_sub_cons g0 (mj_sub_cons g1 (mj_sub_cons g2 (mj_sub_cons g3 (mj_sub_nil hd))))) (hf _ _ _ _ _ _ _ h)
theorem pu_X12_tests_30 {lf : pj_Z → mj_M} {a : Unit × pj_Z} (f : Int32 → Int32 → Int32 → Int32 → Int32 → Int32 → pj_F (Unit × pj_Z)) (hf : ∀ (a1 : Int32) (a2 : Int32) (a3 : Int32) (b1 : Int32) (b2 : Int32) (b3 : Int32) (s : Nat → Int32) (l : Nat → Int64) (x : Nat → Int32) (y : Nat → Int64), f a1 a2 a3 b1 b2 b3 s l x y = some a → pm_Gd 4 12060 ie_X12_tests.1 pm_rU lf 30 [(0, .ref 124), (1, .int a1), (2, .int a2), (3, .int a3)] [.int b3, .int b2, .int b1, .ref 124] (s, l, x, y) a) : pm_Ex 4 12060 ie_X12_tests.1 pm_rU lf a 30 (pe_X12_tests_30 f) := by
  intro lv st z hd h
  obtain ⟨g0, h⟩ := pj_xr_inv h
  obtain ⟨a1, g1, h⟩ := pj_xi_inv h
  obtain ⟨a2, g2, h⟩ := pj_xi_inv h
  obtain ⟨a3, g3, h⟩ := pj_xi_inv h
  obtain ⟨b3, r3, e3, h⟩ := pj_pi_inv h
  obtain ⟨b2, r2, e2, h⟩ := pj_pi_inv h
  obtain ⟨b1, r1, e1, h⟩ := pj_pi_inv h
  obtain ⟨r0, e0, h⟩ := pj_pr_inv h
  obtain ⟨e9, h⟩ := pj_pe_inv h
  rw [e3, e2, e1, e0, e9]
  exact mj_wp_sub (mj_sub_cons g0 (mj_sub_cons g1 (mj_sub_cons g2 (mj_sub_cons g3 (mj_sub_nil hd))))) (hf _ _ _ _ _ _ _ _ _ _ h)
theorem pu_X12_tests_56 {lf : pj_Z → mj_M} {a : Unit × pj_Z} (f : Int32 → Int32 → Int32 → pj_F (Unit × pj_Z)) (hf : ∀ (a1 : Int32) (a2 : Int32) (b2 : Int32) (s : Nat → Int32) (l : Nat → Int64) (x : Nat → Int32) (y : Nat → Int64), f a1 a2 b2 s l x y = some a → pm_Gd 4 12060 ie_X12_tests.1 pm_rU lf 56 [(0, .ref 124), (1, .int a1), (2, .int a2)] [.int b2, .int (Int32.ofInt 10), .ref 124] (s, l, x, y) a) : pm_Ex 4 12060 ie_X12_tests.1 pm_rU lf a 56 (pe_X12_tests_56 f) := by
  intro lv st z hd h
  obtain ⟨g0, h⟩ := pj_xr_inv h
  obtain ⟨a1, g1, h⟩ := pj_xi_inv h
  obtain ⟨a2, g2, h⟩ := pj_xi_inv h
  obtain ⟨b2, r2, e2, h⟩ := pj_pi_inv h
  obtain ⟨r1, e1, h⟩ := pj_pc_inv h
  obtain ⟨r0, e0, h⟩ := pj_pr_inv h
  obtain ⟨e9, h⟩ := pj_pe_inv h
  rw [e2, e1, e0, e9]
  exact mj_wp_sub (mj_sub_cons g0 (mj_sub_cons g1 (mj_sub_cons g2 (mj_sub_nil hd)))) (hf _ _ _ _ _ _ _ h)
theorem pu_X12_tests_85 {lf : pj_Z → mj_M} {a : Unit × pj_Z} (f : Int32 → Int32 → Int32 → pj_F (Unit × pj_Z)) (hf : ∀ (a1 : Int32) (a2 : Int32) (b2 : Int32) (s : Nat → Int32) (l : Nat → Int64) (x : Nat → Int32) (y : Nat → Int64), f a1 a2 b2 s l x y = some a → pm_Gd 4 12060 ie_X12_tests.1 pm_rU lf 85 [(0, .ref 124), (1, .int a1), (2, .int a2)] [.int b2, .int (Int32.ofInt 10), .ref 124] (s, l, x, y) a) : pm_Ex 4 12060 ie_X12_tests.1 pm_rU lf a 85 (pe_X12_tests_85 f) := by
  intro lv st z hd h
  obtain ⟨g0, h⟩ := pj_xr_inv h
  obtain ⟨a1, g1, h⟩ := pj_xi_inv h
  obtain ⟨a2, g2, h⟩ := pj_xi_inv h
  obtain ⟨b2, r2, e2, h⟩ := pj_pi_inv h
  obtain ⟨r1, e1, h⟩ := pj_pc_inv h
  obtain ⟨r0, e0, h⟩ := pj_pr_inv h
  obtain ⟨e9, h⟩ := pj_pe_inv h
  rw [e2, e1, e0, e9]
  exact mj_wp_sub (mj_sub_cons g0 (mj_sub_cons g1 (mj_sub_cons g2 (mj_sub_nil hd)))) (hf _ _ _ _ _ _ _ h)
theorem pu_X12_tests_86 {lf : pj_Z → mj_M} {a : Unit × pj_Z} (f : Int32 → Int32 → Int32 → Int32 → pj_F (Unit × pj_Z)) (hf : ∀ (a1 : Int32) (a2 : Int32) (b2 : Int32) (b3 : Int32) (s : Nat → Int32) (l : Nat → Int64) (x : Nat → Int32) (y : Nat → Int64), f a1 a2 b2 b3 s l x y = some a → pm_Gd 4 12060 ie_X12_tests.1 pm_rU lf 86 [(0, .ref 124), (1, .int a1), (2, .int a2)] [.int b3, .int b2, .int (Int32.ofInt 10), .ref 124] (s, l, x, y) a) : pm_Ex 4 12060 ie_X12_tests.1 pm_rU lf a 86 (pe_X12_tests_86 f) := by
  intro lv st z hd h
  obtain ⟨g0, h⟩ := pj_xr_inv h
  obtain ⟨a1, g1, h⟩ := pj_xi_inv h
  obtain ⟨a2, g2, h⟩ := pj_xi_inv h
  obtain ⟨b3, r3, e3, h⟩ := pj_pi_inv h
  obtain ⟨b2, r2, e2, h⟩ := pj_pi_inv h
  obtain ⟨r1, e1, h⟩ := pj_pc_inv h
  obtain ⟨r0, e0, h⟩ := pj_pr_inv h
  obtain ⟨e9, h⟩ := pj_pe_inv h
  rw [e3, e2, e1, e0, e9]
  exact mj_wp_sub (mj_sub_cons g0 (mj_sub_cons g1 (mj_sub_cons g2 (mj_sub_nil hd)))) (hf _ _ _ _ _ _ _ _ h)
theorem pu_X12_tests_106 {lf : pj_Z → mj_M} {a : Unit × pj_Z} (f : Int32 → Int32 → Int32 → pj_F (Unit × pj_Z)) (hf : ∀ (a1 : Int32) (a2 : Int32) (b2 : Int32) (s : Nat → Int32) (l : Nat → Int64) (x : Nat → Int32) (y : Nat → Int64), f a1 a2 b2 s l x y = some a → pm_Gd 4 12060 ie_X12_tests.1 pm_rU lf 106 [(0, .ref 124), (1, .int a1), (2, .int a2)] [.int b2, .int (Int32.ofInt 11), .ref 124] (s, l, x, y) a) : pm_Ex 4 12060 ie_X12_tests.1 pm_rU lf a 106 (pe_X12_tests_106 f) := by
  intro lv st z hd h
  obtain ⟨g0, h⟩ := pj_xr_inv h
  obtain ⟨a1, g1, h⟩ := pj_xi_inv h
  obtain ⟨a2, g2, h⟩ := pj_xi_inv h
  obtain ⟨b2, r2, e2, h⟩ := pj_pi_inv h
  obtain ⟨r1, e1, h⟩ := pj_pc_inv h
  obtain ⟨r0, e0, h⟩ := pj_pr_inv h
  obtain ⟨e9, h⟩ := pj_pe_inv h
  rw [e2, e1, e0, e9]
  exact mj_wp_sub (mj_sub_cons g0 (mj_sub_cons g1 (mj_sub_cons g2 (mj_sub_nil hd)))) (hf _ _ _ _ _ _ _ h)
theorem pu_X12_tests_135 {lf : pj_Z → mj_M} {a : Unit × pj_Z} (f : Int32 → Int32 → Int32 → pj_F (Unit × pj_Z)) (hf : ∀ (a1 : Int32) (a2 : Int32) (b2 : Int32) (s : Nat → Int32) (l : Nat → Int64) (x : Nat → Int32) (y : Nat → Int64), f a1 a2 b2 s l x y = some a → pm_Gd 4 12060 ie_X12_tests.1 pm_rU lf 135 [(0, .ref 124), (1, .int a1), (2, .int a2)] [.int b2, .int (Int32.ofInt 11), .ref 124] (s, l, x, y) a) : pm_Ex 4 12060 ie_X12_tests.1 pm_rU lf a 135 (pe_X12_tests_135 f) := by
  intro lv st z hd h
  obtain ⟨g0, h⟩ := pj_xr_inv h
  obtain ⟨a1, g1, h⟩ := pj_xi_inv h
  obtain ⟨a2, g2, h⟩ := pj_xi_inv h
  obtain ⟨b2, r2, e2, h⟩ := pj_pi_inv h
  obtain ⟨r1, e1, h⟩ := pj_pc_inv h
  obtain ⟨r0, e0, h⟩ := pj_pr_inv h
  obtain ⟨e9, h⟩ := pj_pe_inv h
  rw [e2, e1, e0, e9]
  exact mj_wp_sub (mj_sub_cons g0 (mj_sub_cons g1 (mj_sub_cons g2 (mj_sub_nil hd)))) (hf _ _ _ _ _ _ _ h)
theorem pu_X12_tests_136 {lf : pj_Z → mj_M} {a : Unit × pj_Z} (f : Int32 → Int32 → Int32 → Int32 → pj_F (Unit × pj_Z)) (hf : ∀ (a1 : Int32) (a2 : Int32) (b2 : Int32) (b3 : Int32) (s : Nat → Int32) (l : Nat → Int64) (x : Nat → Int32) (y : Nat → Int64), f a1 a2 b2 b3 s l x y = some a → pm_Gd 4 12060 ie_X12_tests.1 pm_rU lf 136 [(0, .ref 124), (1, .int a1), (2, .int a2)] [.int b3, .int b2, .int (Int32.ofInt 11), .ref 124] (s, l, x, y) a) : pm_Ex 4 12060 ie_X12_tests.1 pm_rU lf a 136 (pe_X12_tests_136 f) := by
  intro lv st z hd h
  obtain ⟨g0, h⟩ := pj_xr_inv h
  obtain ⟨a1, g1, h⟩ := pj_xi_inv h
  obtain ⟨a2, g2, h⟩ := pj_xi_inv h
  obtain ⟨b3, r3, e3, h⟩ := pj_pi_inv h
  obtain ⟨b2, r2, e2, h⟩ := pj_pi_inv h
  obtain ⟨r1, e1, h⟩ := pj_pc_inv h
  obtain ⟨r0, e0, h⟩ := pj_pr_inv h
  obtain ⟨e9, h⟩ := pj_pe_inv h
  rw [e3, e2, e1, e0, e9]
  exact mj_wp_sub (mj_sub_cons g0 (mj_sub_cons g1 (mj_sub_cons g2 (mj_sub_nil hd)))) (hf _ _ _ _ _ _ _ _ h)
theorem pu_X12_tests_158 {lf : pj_Z → mj_M} {a : Unit × pj_Z} (f : Int32 → pj_F (Unit × pj_Z)) (hf : ∀ (b2 : Int32) (s : Nat → Int32) (l : Nat → Int64) (x : Nat → Int32) (y : Nat → Int64), f b2 s l x y = some a → pm_Gd 4 12060 ie_X12_tests.1 pm_rU lf 158 [(0, .ref 124)] [.int b2, .int (Int32.ofInt 12), .ref 124] (s, l, x, y) a) : pm_Ex 4 12060 ie_X12_tests.1 pm_rU lf a 158 (pe_X12_tests_158 f) := by
  intro lv st z hd h
  obtain ⟨g0, h⟩ := pj_xr_inv h
  obtain ⟨b2, r2, e2, h⟩ := pj_pi_inv h
  obtain ⟨r1, e1, h⟩ := pj_pc_inv h
  obtain ⟨r0, e0, h⟩ := pj_pr_inv h
  obtain ⟨e9, h⟩ := pj_pe_inv h
  rw [e2, e1, e0, e9]
  exact mj_wp_sub (mj_sub_cons g0 (mj_sub_nil hd)) (hf _ _ _ _ _ h)
theorem pu_X12_tests_159 {lf : pj_Z → mj_M} {a : Unit × pj_Z} (f : Int32 → Int32 → pj_F (Unit × pj_Z)) (hf : ∀ (b2 : Int32) (b3 : Int32) (s : Nat → Int32) (l : Nat → Int64) (x : Nat → Int32) (y : Nat → Int64), f b2 b3 s l x y = some a → pm_Gd 4 12060 ie_X12_tests.1 pm_rU lf 159 [(0, .ref 124)] [.int b3, .int b2, .int (Int32.ofInt 12), .ref 124] (s, l, x, y) a) : pm_Ex 4 12060 ie_X12_tests.1 pm_rU lf a 159 (pe_X12_tests_159 f) := by
  intro lv st z hd h
  obtain ⟨g0, h⟩ := pj_xr_inv h
  obtain ⟨b3, r3, e3, h⟩ := pj_pi_inv h
  obtain ⟨b2, r2, e2, h⟩ := pj_pi_inv h
  obtain ⟨r1, e1, h⟩ := pj_pc_inv h
  obtain ⟨r0, e0, h⟩ := pj_pr_inv h
  obtain ⟨e9, h⟩ := pj_pe_inv h
  rw [e3, e2, e1, e0, e9]
  exact mj_wp_sub (mj_sub_cons g0 (mj_sub_nil hd)) (hf _ _ _ _ _ _ h)
theorem pu_X12_tests_187 {lf : pj_Z → mj_M} {a : Unit × pj_Z} (f : Int32 → pj_F (Unit × pj_Z)) (hf : ∀ (b2 : Int32) (s : Nat → Int32) (l : Nat → Int64) (x : Nat → Int32) (y : Nat → Int64), f b2 s l x y = some a → pm_Gd 4 12060 ie_X12_tests.1 pm_rU lf 187 [(0, .ref 124)] [.int b2, .int (Int32.ofInt 13), .ref 124] (s, l, x, y) a) : pm_Ex 4 12060 ie_X12_tests.1 pm_rU lf a 187 (pe_X12_tests_187 f) := by
  intro lv st z hd h
  obtain ⟨g0, h⟩ := pj_xr_inv h
  obtain ⟨b2, r2, e2, h⟩ := pj_pi_inv h
  obtain ⟨r1, e1, h⟩ := pj_pc_inv h
  obtain ⟨r0, e0, h⟩ := pj_pr_inv h
  obtain ⟨e9, h⟩ := pj_pe_inv h
  rw [e2, e1, e0, e9]
  exact mj_wp_sub (mj_sub_cons g0 (mj_sub_nil hd)) (hf _ _ _ _ _ h)
theorem pu_X12_tests_188 {lf : pj_Z → mj_M} {a : Unit × pj_Z} (f : Int32 → Int32 → pj_F (Unit × pj_Z)) (hf : ∀ (b2 : Int32) (b3 : Int32) (s : Nat → Int32) (l : Nat → Int64) (x : Nat → Int32) (y : Nat → Int64), f b2 b3 s l x y = some a → pm_Gd 4 12060 ie_X12_tests.1 pm_rU lf 188 [(0, .ref 124)] [.int b3, .int b2, .int (Int32.ofInt 13), .ref 124] (s, l, x, y) a) : pm_Ex 4 12060 ie_X12_tests.1 pm_rU lf a 188 (pe_X12_tests_188 f) := by
  intro lv st z hd h
  obtain ⟨g0, h⟩ := pj_xr_inv h
  obtain ⟨b3, r3, e3, h⟩ := pj_pi_inv h
  obtain ⟨b2, r2, e2, h⟩ := pj_pi_inv h
  obtain ⟨r1, e1, h⟩ := pj_pc_inv h
  obtain ⟨r0, e0, h⟩ := pj_pr_inv h
  obtain ⟨e9, h⟩ := pj_pe_inv h
  rw [e3, e2, e1, e0, e9]
  exact mj_wp_sub (mj_sub_cons g0 (mj_sub_nil hd)) (hf _ _ _ _ _ _ h)
theorem pu_X12_tests_221 {lf : pj_Z → mj_M} {a : Unit × pj_Z} (f : Int32 → pj_F (Unit × pj_Z)) (hf : ∀ (b2 : Int32) (s : Nat → Int32) (l : Nat → Int64) (x : Nat → Int32) (y : Nat → Int64), f b2 s l x y = some a → pm_Gd 4 12060 ie_X12_tests.1 pm_rU lf 221 [(0, .ref 124)] [.int b2, .int (Int32.ofInt 15), .ref 124] (s, l, x, y) a) : pm_Ex 4 12060 ie_X12_tests.1 pm_rU lf a 221 (pe_X12_tests_221 f) := by
  intro lv st z hd h
  obtain ⟨g0, h⟩ := pj_xr_inv h
  obtain ⟨b2, r2, e2, h⟩ := pj_pi_inv h
  obtain ⟨r1, e1, h⟩ := pj_pc_inv h
  obtain ⟨r0, e0, h⟩ := pj_pr_inv h
  obtain ⟨e9, h⟩ := pj_pe_inv h
  rw [e2, e1, e0, e9]
  exact mj_wp_sub (mj_sub_cons g0 (mj_sub_nil hd)) (hf _ _ _ _ _ h)
theorem pu_X12_tests_234 {lf : pj_Z → mj_M} {a : Unit × pj_Z} (f : Int32 → Int32 → pj_F (Unit × pj_Z)) (hf : ∀ (b2 : Int32) (b3 : Int32) (s : Nat → Int32) (l : Nat → Int64) (x : Nat → Int32) (y : Nat → Int64), f b2 b3 s l x y = some a → pm_Gd 4 12060 ie_X12_tests.1 pm_rU lf 234 [(0, .ref 124)] [.int b3, .int b2, .int (Int32.ofInt 15), .ref 124] (s, l, x, y) a) : pm_Ex 4 12060 ie_X12_tests.1 pm_rU lf a 234 (pe_X12_tests_234 f) := by
  intro lv st z hd h
  obtain ⟨g0, h⟩ := pj_xr_inv h
  obtain ⟨b3, r3, e3, h⟩ := pj_pi_inv h
  obtain ⟨b2, r2, e2, h⟩ := pj_pi_inv h
  obtain ⟨r1, e1, h⟩ := pj_pc_inv h
  obtain ⟨r0, e0, h⟩ := pj_pr_inv h
  obtain ⟨e9, h⟩ := pj_pe_inv h
  rw [e3, e2, e1, e0, e9]
  exact mj_wp_sub (mj_sub_cons g0 (mj_sub_nil hd)) (hf _ _ _ _ _ _ h)
theorem pu_X12_tests_259 {lf : pj_Z → mj_M} {a : Unit × pj_Z} (f : pj_F (Unit × pj_Z)) (hf : ∀  (s : Nat → Int32) (l : Nat → Int64) (x : Nat → Int32) (y : Nat → Int64), f  s l x y = some a → pm_Gd 4 12060 ie_X12_tests.1 pm_rU lf 259 [(0, .ref 124)] [.int (Int32.ofInt 16), .ref 124] (s, l, x, y) a) : pm_Ex 4 12060 ie_X12_tests.1 pm_rU lf a 259 (pe_X12_tests_259 f) := by
  intro lv st z hd h
  obtain ⟨g0, h⟩ := pj_xr_inv h
  obtain ⟨r1, e1, h⟩ := pj_pc_inv h
  obtain ⟨r0, e0, h⟩ := pj_pr_inv h
  obtain ⟨e9, h⟩ := pj_pe_inv h
  rw [e1, e0, e9]
  exact mj_wp_sub (mj_sub_cons g0 (mj_sub_nil hd)) (hf  _ _ _ _ h)
theorem pu_X12_tests_264 {lf : pj_Z → mj_M} {a : Unit × pj_Z} (f : Int32 → pj_F (Unit × pj_Z)) (hf : ∀ (b2 : Int32) (s : Nat → Int32) (l : Nat → Int64) (x : Nat → Int32) (y : Nat → Int64), f b2 s l x y = some a → pm_Gd 4 12060 ie_X12_tests.1 pm_rU lf 264 [(0, .ref 124)] [.int b2, .int (Int32.ofInt 16), .ref 124] (s, l, x, y) a) : pm_Ex 4 12060 ie_X12_tests.1 pm_rU lf a 264 (pe_X12_tests_264 f) := by
  intro lv st z hd h
  obtain ⟨g0, h⟩ := pj_xr_inv h
  obtain ⟨b2, r2, e2, h⟩ := pj_pi_inv h
  obtain ⟨r1, e1, h⟩ := pj_pc_inv h
  obtain ⟨r0, e0, h⟩ := pj_pr_inv h
  obtain ⟨e9, h⟩ := pj_pe_inv h
  rw [e2, e1, e0, e9]
  exact mj_wp_sub (mj_sub_cons g0 (mj_sub_nil hd)) (hf _ _ _ _ _ h)
theorem pu_X12_tests_283 {lf : pj_Z → mj_M} {a : Unit × pj_Z} (f : Int32 → pj_F (Unit × pj_Z)) (hf : ∀ (b2 : Int32) (s : Nat → Int32) (l : Nat → Int64) (x : Nat → Int32) (y : Nat → Int64), f b2 s l x y = some a → pm_Gd 4 12060 ie_X12_tests.1 pm_rU lf 283 [(0, .ref 124)] [.int b2, .int (Int32.ofInt 16), .ref 124] (s, l, x, y) a) : pm_Ex 4 12060 ie_X12_tests.1 pm_rU lf a 283 (pe_X12_tests_283 f) := by
  intro lv st z hd h
  obtain ⟨g0, h⟩ := pj_xr_inv h
  obtain ⟨b2, r2, e2, h⟩ := pj_pi_inv h
  obtain ⟨r1, e1, h⟩ := pj_pc_inv h
  obtain ⟨r0, e0, h⟩ := pj_pr_inv h
  obtain ⟨e9, h⟩ := pj_pe_inv h
  rw [e2, e1, e0, e9]
  exact mj_wp_sub (mj_sub_cons g0 (mj_sub_nil hd)) (hf _ _ _ _ _ h)
theorem pu_X12_tests_284 {lf : pj_Z → mj_M} {a : Unit × pj_Z} (f : Int32 → Int32 → pj_F (Unit × pj_Z)) (hf : ∀ (b2 : Int32) (b3 : Int32) (s : Nat → Int32) (l : Nat → Int64) (x : Nat → Int32) (y : Nat → Int64), f b2 b3 s l x y = some a → pm_Gd 4 12060 ie_X12_tests.1 pm_rU lf 284 [(0, .ref 124)] [.int b3, .int b2, .int (Int32.ofInt 16), .ref 124] (s, l, x, y) a) : pm_Ex 4 12060 ie_X12_tests.1 pm_rU lf a 284 (pe_X12_tests_284 f) := by
  intro lv st z hd h
  obtain ⟨g0, h⟩ := pj_xr_inv h
  obtain ⟨b3, r3, e3, h⟩ := pj_pi_inv h
  obtain ⟨b2, r2, e2, h⟩ := pj_pi_inv h
  obtain ⟨r1, e1, h⟩ := pj_pc_inv h
  obtain ⟨r0, e0, h⟩ := pj_pr_inv h
  obtain ⟨e9, h⟩ := pj_pe_inv h
  rw [e3, e2, e1, e0, e9]
  exact mj_wp_sub (mj_sub_cons g0 (mj_sub_nil hd)) (hf _ _ _ _ _ _ h)
theorem pu_X12_tests_305 {lf : pj_Z → mj_M} {a : Unit × pj_Z} (f : Int32 → pj_F (Unit × pj_Z)) (hf : ∀ (b2 : Int32) (s : Nat → Int32) (l : Nat → Int64) (x : Nat → Int32) (y : Nat → Int64), f b2 s l x y = some a → pm_Gd 4 12060 ie_X12_tests.1 pm_rU lf 305 [(0, .ref 124)] [.int b2, .int (Int32.ofInt 17), .ref 124] (s, l, x, y) a) : pm_Ex 4 12060 ie_X12_tests.1 pm_rU lf a 305 (pe_X12_tests_305 f) := by
  intro lv st z hd h
  obtain ⟨g0, h⟩ := pj_xr_inv h
  obtain ⟨b2, r2, e2, h⟩ := pj_pi_inv h
  obtain ⟨r1, e1, h⟩ := pj_pc_inv h
  obtain ⟨r0, e0, h⟩ := pj_pr_inv h
  obtain ⟨e9, h⟩ := pj_pe_inv h
  rw [e2, e1, e0, e9]
  exact mj_wp_sub (mj_sub_cons g0 (mj_sub_nil hd)) (hf _ _ _ _ _ h)
theorem pu_X12_tests_323 {lf : pj_Z → mj_M} {a : Unit × pj_Z} (f : Int32 → pj_F (Unit × pj_Z)) (hf : ∀ (b2 : Int32) (s : Nat → Int32) (l : Nat → Int64) (x : Nat → Int32) (y : Nat → Int64), f b2 s l x y = some a → pm_Gd 4 12060 ie_X12_tests.1 pm_rU lf 323 [(0, .ref 124)] [.int b2, .int (Int32.ofInt 17), .ref 124] (s, l, x, y) a) : pm_Ex 4 12060 ie_X12_tests.1 pm_rU lf a 323 (pe_X12_tests_323 f) := by
  intro lv st z hd h
  obtain ⟨g0, h⟩ := pj_xr_inv h
  obtain ⟨b2, r2, e2, h⟩ := pj_pi_inv h
  obtain ⟨r1, e1, h⟩ := pj_pc_inv h
  obtain ⟨r0, e0, h⟩ := pj_pr_inv h
  obtain ⟨e9, h⟩ := pj_pe_inv h
  rw [e2, e1, e0, e9]
  exact mj_wp_sub (mj_sub_cons g0 (mj_sub_nil hd)) (hf _ _ _ _ _ h)
theorem pu_X12_tests_324 {lf : pj_Z → mj_M} {a : Unit × pj_Z} (f : Int32 → Int32 → pj_F (Unit × pj_Z)) (hf : ∀ (b2 : Int32) (b3 : Int32) (s : Nat → Int32) (l : Nat → Int64) (x : Nat → Int32) (y : Nat → Int64), f b2 b3 s l x y = some a → pm_Gd 4 12060 ie_X12_tests.1 pm_rU lf 324 [(0, .ref 124)] [.int b3, .int b2, .int (Int32.ofInt 17), .ref 124] (s, l, x, y) a) : pm_Ex 4 12060 ie_X12_tests.1 pm_rU lf a 324 (pe_X12_tests_324 f) := by
  intro lv st z hd h
  obtain ⟨g0, h⟩ := pj_xr_inv h
  obtain ⟨b3, r3, e3, h⟩ := pj_pi_inv h
  obtain ⟨b2, r2, e2, h⟩ := pj_pi_inv h
  obtain ⟨r1, e1, h⟩ := pj_pc_inv h
  obtain ⟨r0, e0, h⟩ := pj_pr_inv h
  obtain ⟨e9, h⟩ := pj_pe_inv h
  rw [e3, e2, e1, e0, e9]
  exact mj_wp_sub (mj_sub_cons g0 (mj_sub_nil hd)) (hf _ _ _ _ _ _ h)
theorem pu_X12_tests_366 {lf : pj_Z → mj_M} {a : Unit × pj_Z} (f : pj_F (Unit × pj_Z)) (hf : ∀  (s : Nat → Int32) (l : Nat → Int64) (x : Nat → Int32) (y : Nat → Int64), f  s l x y = some a → pm_Gd 4 12060 ie_X12_tests.1 pm_rU lf 366 [(0, .ref 124)] [.int (Int32.ofInt 18), .ref 124] (s, l, x, y) a) : pm_Ex 4 12060 ie_X12_tests.1 pm_rU lf a 366 (pe_X12_tests_366 f) := by
  intro lv st z hd h
  obtain ⟨g0, h⟩ := pj_xr_inv h
  obtain ⟨r1, e1, h⟩ := pj_pc_inv h
  obtain ⟨r0, e0, h⟩ := pj_pr_inv h
  obtain ⟨e9, h⟩ := pj_pe_inv h
  rw [e1, e0, e9]
  exact mj_wp_sub (mj_sub_cons g0 (mj_sub_nil hd)) (hf  _ _ _ _ h)
theorem pu_X12_tests_370 {lf : pj_Z → mj_M} {a : Unit × pj_Z} (f : pj_F (Unit × pj_Z)) (hf : ∀  (s : Nat → Int32) (l : Nat → Int64) (x : Nat → Int32) (y : Nat → Int64), f  s l x y = some a → pm_Gd 4 12060 ie_X12_tests.1 pm_rU lf 370 [(0, .ref 124)] [.int (Int32.ofInt 18), .ref 124] (s, l, x, y) a) : pm_Ex 4 12060 ie_X12_tests.1 pm_rU lf a 370 (pe_X12_tests_370 f) := by
  intro lv st z hd h
  obtain ⟨g0, h⟩ := pj_xr_inv h
  obtain ⟨r1, e1, h⟩ := pj_pc_inv h
  obtain ⟨r0, e0, h⟩ := pj_pr_inv h
  obtain ⟨e9, h⟩ := pj_pe_inv h
  rw [e1, e0, e9]
  exact mj_wp_sub (mj_sub_cons g0 (mj_sub_nil hd)) (hf  _ _ _ _ h)
theorem pu_X12_tests_371 {lf : pj_Z → mj_M} {a : Unit × pj_Z} (f : Int32 → pj_F (Unit × pj_Z)) (hf : ∀ (b2 : Int32) (s : Nat → Int32) (l : Nat → Int64) (x : Nat → Int32) (y : Nat → Int64), f b2 s l x y = some a → pm_Gd 4 12060 ie_X12_tests.1 pm_rU lf 371 [(0, .ref 124)] [.int b2, .int (Int32.ofInt 18), .ref 124] (s, l, x, y) a) : pm_Ex 4 12060 ie_X12_tests.1 pm_rU lf a 371 (pe_X12_tests_371 f) := by
  intro lv st z hd h
  obtain ⟨g0, h⟩ := pj_xr_inv h
  obtain ⟨b2, r2, e2, h⟩ := pj_pi_inv h
  obtain ⟨r1, e1, h⟩ := pj_pc_inv h
  obtain ⟨r0, e0, h⟩ := pj_pr_inv h
  obtain ⟨e9, h⟩ := pj_pe_inv h
  rw [e2, e1, e0, e9]
  exact mj_wp_sub (mj_sub_cons g0 (mj_sub_nil hd)) (hf _ _ _ _ _ h)
theorem pu_X12_tests_397 {lf : pj_Z → mj_M} {a : Unit × pj_Z} (f : Int32 → pj_F (Unit × pj_Z)) (hf : ∀ (b2 : Int32) (s : Nat → Int32) (l : Nat → Int64) (x : Nat → Int32) (y : Nat → Int64), f b2 s l x y = some a → pm_Gd 4 12060 ie_X12_tests.1 pm_rU lf 397 [(0, .ref 124)] [.int b2, .int (Int32.ofInt 19), .ref 124] (s, l, x, y) a) : pm_Ex 4 12060 ie_X12_tests.1 pm_rU lf a 397 (pe_X12_tests_397 f) := by
  intro lv st z hd h
  obtain ⟨g0, h⟩ := pj_xr_inv h
  obtain ⟨b2, r2, e2, h⟩ := pj_pi_inv h
  obtain ⟨r1, e1, h⟩ := pj_pc_inv h
  obtain ⟨r0, e0, h⟩ := pj_pr_inv h
  obtain ⟨e9, h⟩ := pj_pe_inv h
  rw [e2, e1, e0, e9]
  exact mj_wp_sub (mj_sub_cons g0 (mj_sub_nil hd)) (hf _ _ _ _ _ h)
theorem pu_X12_tests_413 {lf : pj_Z → mj_M} {a : Unit × pj_Z} (f : Int32 → Int32 → pj_F (Unit × pj_Z)) (hf : ∀ (b2 : Int32) (b3 : Int32) (s : Nat → Int32) (l : Nat → Int64) (x : Nat → Int32) (y : Nat → Int64), f b2 b3 s l x y = some a → pm_Gd 4 12060 ie_X12_tests.1 pm_rU lf 413 [(0, .ref 124)] [.int b3, .int b2, .int (Int32.ofInt 19), .ref 124] (s, l, x, y) a) : pm_Ex 4 12060 ie_X12_tests.1 pm_rU lf a 413 (pe_X12_tests_413 f) := by
  intro lv st z hd h
  obtain ⟨g0, h⟩ := pj_xr_inv h
  obtain ⟨b3, r3, e3, h⟩ := pj_pi_inv h
  obtain ⟨b2, r2, e2, h⟩ := pj_pi_inv h
  obtain ⟨r1, e1, h⟩ := pj_pc_inv h
  obtain ⟨r0, e0, h⟩ := pj_pr_inv h
  obtain ⟨e9, h⟩ := pj_pe_inv h
  rw [e3, e2, e1, e0, e9]
  exact mj_wp_sub (mj_sub_cons g0 (mj_sub_nil hd)) (hf _ _ _ _ _ _ h)
set_option maxRecDepth 100000 in
theorem pz_X12_tests {lf : pj_Z → mj_M} (hT : pj_Lt pj_TR lf) : pj_Cok ic_P (mj_R ic_P 4) 12060 ie_X12_tests.1 (pm_OK lf pm_rU) lf px_X12_tests := by
  exact pm_cok (c := px_X12_tests) hT (pm_in_ok (L := [(136, 12, 73, 2, true), (139, 12, 74, 2, true), (146, 12, 106, 2, true), (262, 12, 34, 0, false), (278, 12, 39, 0, false), (281, 12, 40, 0, false), (284, 12, 41, 0, false), (314, 12, 69, 0, false), (317, 12, 70, 0, false), (426, 12, 78, 0, false), (429, 12, 79, 0, false), (459, 12, 90, 0, false), (462, 12, 91, 3, false), (468, 12, 93, 0, false), (477, 12, 96, 3, false), (480, 12, 97, 3, false), (489, 12, 100, 3, false), (492, 12, 104, 0, false), (501, 12, 108, 0, false), (504, 12, 109, 0, false), (507, 12, 110, 0, false), (510, 12, 111, 0, false), (516, 12, 103, 0, false)]) (f := mj_pF ic_P 12060) (by decide +kernel)) (fun _ _ h => by cases h) (fun _ _ h => by cases h) (fun _ _ h => by cases h) rfl rfl ⟨by decide, rfl⟩ pm_mU (pj_as_all (p := pm_Cl 4 12060 ie_X12_tests.1 lf (pm_OK lf pm_rU)) (List.forall_mem_cons.mpr ⟨fun _ _ lv st z K a hK h => pc_X12_test hT (by decide) (ix := 676) rfl rfl hK h, (List.forall_mem_cons.mpr ⟨fun _ _ lv st z K a hK h => pc_X12_test hT (by decide) (ix := 676) rfl rfl hK h, (List.forall_mem_cons.mpr ⟨fun _ _ lv st z K a hK h => pc_X12_test hT (by decide) (ix := 676) rfl rfl hK h, (List.forall_mem_cons.mpr ⟨fun _ _ lv st z K a hK h => pc_X12_test hT (by decide) (ix := 676) rfl rfl hK h, (List.forall_mem_cons.mpr ⟨fun _ _ lv st z K a hK h => pc_X12_test hT (by decide) (ix := 676) rfl rfl hK h, (List.forall_mem_cons.mpr ⟨fun _ _ lv st z K a hK h => pc_X12_test hT (by decide) (ix := 676) rfl rfl hK h, (List.forall_mem_cons.mpr ⟨fun _ _ lv st z K a hK h => pc_X12_test hT (by decide) (ix := 676) rfl rfl hK h, (List.forall_mem_cons.mpr ⟨fun _ _ lv st z K a hK h => pc_X12_test hT (by decide) (ix := 676) rfl rfl hK h, (List.forall_mem_cons.mpr ⟨fun _ _ lv st z K a hK h => pc_X12_test hT (by decide) (ix := 676) rfl rfl hK h, (List.forall_mem_cons.mpr ⟨fun _ _ lv st z K a hK h => pc_X12_cellNow hT (by decide) (ix := 689) rfl rfl hK h, (List.forall_mem_cons.mpr ⟨fun _ _ lv st z K a hK h => pc_X12_test hT (by decide) (ix := 676) rfl rfl hK h, (List.forall_mem_cons.mpr ⟨fun _ _ lv st z K a hK h => pc_X12_test hT (by decide) (ix := 676) rfl rfl hK h, (fun _ h => by cases h)⟩)⟩)⟩)⟩)⟩)⟩)⟩)⟩)⟩)⟩)⟩)⟩)) (fun _ h => by cases h)
set_option maxRecDepth 100000 in
theorem pb_X12_tests : pm_bks ie_X12_tests.1.2.2.2.2 pk_X12_tests = true := by decide +kernel
set_option maxRecDepth 100000 in
theorem pg_X12_tests_30 {lf : pj_Z → mj_M} (hT : pj_Lt pj_TR lf) {k2 : Int32 → Int32 → Int32 → pj_F (Unit × pj_Z)} (hk2 : ∀ (a1 : Int32) (a2 : Int32) (a3 : Int32) (s : Nat → Int32) (l : Nat → Int64) (x : Nat → Int32) (y : Nat → Int64) (a : Unit × pj_Z), k2 a1 a2 a3 s l x y = some a → pm_Gd 4 12060 ie_X12_tests.1 pm_rU lf 2 [(0, .ref 124), (1, .int a1), (2, .int a2), (3, .int a3)] [] (s, l, x, y) a) : ∀ (a1 : Int32) (a2 : Int32) (a3 : Int32) (b1 : Int32) (b2 : Int32) (b3 : Int32) (s : Nat → Int32) (l : Nat → Int64) (x : Nat → Int32) (y : Nat → Int64) (a : Unit × pj_Z), pl_X12_tests_30 k2 a1 a2 a3 b1 b2 b3 s l x y = some a → pm_Gd 4 12060 ie_X12_tests.1 pm_rU lf 30 [(0, .ref 124), (1, .int a1), (2, .int a2), (3, .int a3)] [.int b3, .int b2, .int b1, .ref 124] (s, l, x, y) a := by
  intro a1 a2 a3 b1 b2 b3 s l x y a h
  exact pj_bl_ok (pz_X12_tests hT) (fun t lv st z hd h => pj_rn_ok (pz_X12_tests hT) (pm_bks_ok pb_X12_tests) (pj_as_all (p := pm_Ex 4 12060 ie_X12_tests.1 pm_rU lf a) (List.forall_mem_cons.mpr ⟨pu_X12_tests_2 _ (fun c0 c1 c2 s l x y h => hk2 c0 c1 c2 s l x y _ h), (fun _ h => by cases h)⟩)) 60 t lv st z hd h) [(30, .invokevirtual 676, 3), (33, .iinc 3 1, 3), (36, .goto (-34), 3)] 30 [(0, pj_O (124, 0)), (1, pj_I a1), (2, pj_I a2), (3, pj_I a3)] [pj_I b3, pj_I b2, pj_I b1, pj_O (124, 0)] (s, l, x, y) (pm_bks_ok pb_X12_tests _ _ rfl) (pm_ndb_ok rfl) ((pq_X12_tests_30 k2 a1 a2 a3 b1 b2 b3 s l x y).symm.trans h)
set_option maxRecDepth 100000 in
theorem pg_X12_tests_413 {lf : pj_Z → mj_M} (hT : pj_Lt pj_TR lf) : ∀ (b2 : Int32) (b3 : Int32) (s : Nat → Int32) (l : Nat → Int64) (x : Nat → Int32) (y : Nat → Int64) (a : Unit × pj_Z), pl_X12_tests_413 b2 b3 s l x y = some a → pm_Gd 4 12060 ie_X12_tests.1 pm_rU lf 413 [(0, .ref 124)] [.int b3, .int b2, .int (Int32.ofInt 19), .ref 124] (s, l, x, y) a := by
  intro b2 b3 s l x y a h
  exact pj_bl_ok (pz_X12_tests hT) (fun t lv st z hd h => pj_rn_ok (pz_X12_tests hT) (pm_bks_ok pb_X12_tests) (fun _ _ h => by cases h) 60 t lv st z hd h) [(413, .invokevirtual 676, 3), (416, .aload_n 0, 1), (417, .aload_n 0, 1), (418, .getfield 278, 3), (421, .putfield 501, 3), (424, .aload_n 0, 1), (425, .aload_n 0, 1), (426, .getfield 284, 3), (429, .putfield 504, 3), (432, .aload_n 0, 1), (433, .aload_n 0, 1), (434, .getfield 317, 3), (437, .putfield 507, 3), (440, .aload_n 0, 1), (441, .aload_n 0, 1), (442, .getfield 314, 3), (445, .putfield 510, 3), (448, .return_, 1)] 413 [(0, pj_O (124, 0))] [pj_I b3, pj_I b2, pj_N 19, pj_O (124, 0)] (s, l, x, y) (pm_bks_ok pb_X12_tests _ _ rfl) (pm_ndb_ok rfl) ((pq_X12_tests_413  b2 b3 s l x y).symm.trans h)
set_option maxRecDepth 100000 in
theorem pg_X12_tests_397 {lf : pj_Z → mj_M} (hT : pj_Lt pj_TR lf) : ∀ (b2 : Int32) (s : Nat → Int32) (l : Nat → Int64) (x : Nat → Int32) (y : Nat → Int64) (a : Unit × pj_Z), pl_X12_tests_397 b2 s l x y = some a → pm_Gd 4 12060 ie_X12_tests.1 pm_rU lf 397 [(0, .ref 124)] [.int b2, .int (Int32.ofInt 19), .ref 124] (s, l, x, y) a := by
  intro b2 s l x y a h
  exact pj_bl_ok (pz_X12_tests hT) (fun t lv st z hd h => pj_rn_ok (pz_X12_tests hT) (pm_bks_ok pb_X12_tests) (pj_as_all (p := pm_Ex 4 12060 ie_X12_tests.1 pm_rU lf a) (List.forall_mem_cons.mpr ⟨pu_X12_tests_413 _ (fun c0 c1 s l x y h => pg_X12_tests_413 hT c0 c1 s l x y _ h), (fun _ h => by cases h)⟩)) 60 t lv st z hd h) [(397, .aload_n 0, 1), (398, .getfield 314, 3), (401, .aload_n 0, 1), (402, .getfield 510, 3), (405, .if_icmp .le 7, 3)] 397 [(0, pj_O (124, 0))] [pj_I b2, pj_N 19, pj_O (124, 0)] (s, l, x, y) (pm_bks_ok pb_X12_tests _ _ rfl) (pm_ndb_ok rfl) ((pq_X12_tests_397  b2 s l x y).symm.trans h)
set_option maxRecDepth 100000 in
theorem pg_X12_tests_371 {lf : pj_Z → mj_M} (hT : pj_Lt pj_TR lf) : ∀ (b2 : Int32) (s : Nat → Int32) (l : Nat → Int64) (x : Nat → Int32) (y : Nat → Int64) (a : Unit × pj_Z), pl_X12_tests_371 b2 s l x y = some a → pm_Gd 4 12060 ie_X12_tests.1 pm_rU lf 371 [(0, .ref 124)] [.int b2, .int (Int32.ofInt 18), .ref 124] (s, l, x, y) a := by
  intro b2 s l x y a h
  exact pj_bl_ok (pz_X12_tests hT) (fun t lv st z hd h => pj_rn_ok (pz_X12_tests hT) (pm_bks_ok pb_X12_tests) (pj_as_all (p := pm_Ex 4 12060 ie_X12_tests.1 pm_rU lf a) (List.forall_mem_cons.mpr ⟨pu_X12_tests_397 _ (fun c0 s l x y h => pg_X12_tests_397 hT c0 s l x y _ h), (fun _ h => by cases h)⟩)) 60 t lv st z hd h) [(371, .aload_n 0, 1), (372, .getfield 489, 3), (375, .invokevirtual 676, 3), (378, .aload_n 0, 1), (379, .bipush 19, 2), (381, .aload_n 0, 1), (382, .getfield 317, 3), (385, .aload_n 0, 1), (386, .getfield 507, 3), (389, .if_icmp .le 7, 3)] 371 [(0, pj_O (124, 0))] [pj_I b2, pj_N 18, pj_O (124, 0)] (s, l, x, y) (pm_bks_ok pb_X12_tests _ _ rfl) (pm_ndb_ok rfl) ((pq_X12_tests_371  b2 s l x y).symm.trans h)
set_option maxRecDepth 100000 in
theorem pg_X12_tests_366 {lf : pj_Z → mj_M} (hT : pj_Lt pj_TR lf) : ∀  (s : Nat → Int32) (l : Nat → Int64) (x : Nat → Int32) (y : Nat → Int64) (a : Unit × pj_Z), pl_X12_tests_366 s l x y = some a → pm_Gd 4 12060 ie_X12_tests.1 pm_rU lf 366 [(0, .ref 124)] [.int (Int32.ofInt 18), .ref 124] (s, l, x, y) a := by
  intro  s l x y a h
  exact pj_bl_ok (pz_X12_tests hT) (fun t lv st z hd h => pj_rn_ok (pz_X12_tests hT) (pm_bks_ok pb_X12_tests) (pj_as_all (p := pm_Ex 4 12060 ie_X12_tests.1 pm_rU lf a) (List.forall_mem_cons.mpr ⟨pu_X12_tests_371 _ (fun c0 s l x y h => pg_X12_tests_371 hT c0 s l x y _ h), (fun _ h => by cases h)⟩)) 60 t lv st z hd h) [(366, .iconst 1, 1), (367, .goto 4, 3)] 366 [(0, pj_O (124, 0))] [pj_N 18, pj_O (124, 0)] (s, l, x, y) (pm_bks_ok pb_X12_tests _ _ rfl) (pm_ndb_ok rfl) ((pq_X12_tests_366   s l x y).symm.trans h)
set_option maxRecDepth 100000 in
theorem pg_X12_tests_370 {lf : pj_Z → mj_M} (hT : pj_Lt pj_TR lf) : ∀  (s : Nat → Int32) (l : Nat → Int64) (x : Nat → Int32) (y : Nat → Int64) (a : Unit × pj_Z), pl_X12_tests_370 s l x y = some a → pm_Gd 4 12060 ie_X12_tests.1 pm_rU lf 370 [(0, .ref 124)] [.int (Int32.ofInt 18), .ref 124] (s, l, x, y) a := by
  intro  s l x y a h
  exact pj_bl_ok (pz_X12_tests hT) (fun t lv st z hd h => pj_rn_ok (pz_X12_tests hT) (pm_bks_ok pb_X12_tests) (pj_as_all (p := pm_Ex 4 12060 ie_X12_tests.1 pm_rU lf a) (List.forall_mem_cons.mpr ⟨pu_X12_tests_371 _ (fun c0 s l x y h => pg_X12_tests_371 hT c0 s l x y _ h), (fun _ h => by cases h)⟩)) 60 t lv st z hd h) [(370, .iconst 0, 1)] 370 [(0, pj_O (124, 0))] [pj_N 18, pj_O (124, 0)] (s, l, x, y) (pm_bks_ok pb_X12_tests _ _ rfl) (pm_ndb_ok rfl) ((pq_X12_tests_370   s l x y).symm.trans h)
set_option maxRecDepth 100000 in
theorem pg_X12_tests_324 {lf : pj_Z → mj_M} (hT : pj_Lt pj_TR lf) : ∀ (b2 : Int32) (b3 : Int32) (s : Nat → Int32) (l : Nat → Int64) (x : Nat → Int32) (y : Nat → Int64) (a : Unit × pj_Z), pl_X12_tests_324 b2 b3 s l x y = some a → pm_Gd 4 12060 ie_X12_tests.1 pm_rU lf 324 [(0, .ref 124)] [.int b3, .int b2, .int (Int32.ofInt 17), .ref 124] (s, l, x, y) a := by
  intro b2 b3 s l x y a h
  exact pj_bl_ok (pz_X12_tests hT) (fun t lv st z hd h => pj_rn_ok (pz_X12_tests hT) (pm_bks_ok pb_X12_tests) (pj_as_all (p := pm_Ex 4 12060 ie_X12_tests.1 pm_rU lf a) (List.forall_mem_cons.mpr ⟨pu_X12_tests_366 _ (fun  s l x y h => pg_X12_tests_366 hT  s l x y _ h), (List.forall_mem_cons.mpr ⟨pu_X12_tests_370 _ (fun  s l x y h => pg_X12_tests_370 hT  s l x y _ h), (fun _ h => by cases h)⟩)⟩)) 60 t lv st z hd h) [(324, .invokevirtual 676, 3), (327, .aload_n 0, 1), (328, .getfield 516, 3), (331, .aload_n 0, 1), (332, .getfield 146, 3), (335, .aload_n 0, 1), (336, .invokevirtual 689, 3), (339, .iaload, 1), (340, .iadd, 1), (341, .istore_n 3, 1), (342, .aload_n 0, 1), (343, .bipush 18, 2), (345, .aload_n 0, 1), (346, .getfield 489, 3), (349, .ifCond .eq 21, 3)] 324 [(0, pj_O (124, 0))] [pj_I b3, pj_I b2, pj_N 17, pj_O (124, 0)] (s, l, x, y) (pm_bks_ok pb_X12_tests _ _ rfl) (pm_ndb_ok rfl) ((pq_X12_tests_324  b2 b3 s l x y).symm.trans h)
set_option maxRecDepth 100000 in
theorem pg_X12_tests_323 {lf : pj_Z → mj_M} (hT : pj_Lt pj_TR lf) : ∀ (b2 : Int32) (s : Nat → Int32) (l : Nat → Int64) (x : Nat → Int32) (y : Nat → Int64) (a : Unit × pj_Z), pl_X12_tests_323 b2 s l x y = some a → pm_Gd 4 12060 ie_X12_tests.1 pm_rU lf 323 [(0, .ref 124)] [.int b2, .int (Int32.ofInt 17), .ref 124] (s, l, x, y) a := by
  intro b2 s l x y a h
  exact pj_bl_ok (pz_X12_tests hT) (fun t lv st z hd h => pj_rn_ok (pz_X12_tests hT) (pm_bks_ok pb_X12_tests) (pj_as_all (p := pm_Ex 4 12060 ie_X12_tests.1 pm_rU lf a) (List.forall_mem_cons.mpr ⟨pu_X12_tests_324 _ (fun c0 c1 s l x y h => pg_X12_tests_324 hT c0 c1 s l x y _ h), (fun _ h => by cases h)⟩)) 60 t lv st z hd h) [(323, .iconst 0, 1)] 323 [(0, pj_O (124, 0))] [pj_I b2, pj_N 17, pj_O (124, 0)] (s, l, x, y) (pm_bks_ok pb_X12_tests _ _ rfl) (pm_ndb_ok rfl) ((pq_X12_tests_323  b2 s l x y).symm.trans h)
set_option maxRecDepth 100000 in
theorem pg_X12_tests_305 {lf : pj_Z → mj_M} (hT : pj_Lt pj_TR lf) : ∀ (b2 : Int32) (s : Nat → Int32) (l : Nat → Int64) (x : Nat → Int32) (y : Nat → Int64) (a : Unit × pj_Z), pl_X12_tests_305 b2 s l x y = some a → pm_Gd 4 12060 ie_X12_tests.1 pm_rU lf 305 [(0, .ref 124)] [.int b2, .int (Int32.ofInt 17), .ref 124] (s, l, x, y) a := by
  intro b2 s l x y a h
  exact pj_bl_ok (pz_X12_tests hT) (fun t lv st z hd h => pj_rn_ok (pz_X12_tests hT) (pm_bks_ok pb_X12_tests) (pj_as_all (p := pm_Ex 4 12060 ie_X12_tests.1 pm_rU lf a) (List.forall_mem_cons.mpr ⟨pu_X12_tests_323 _ (fun c0 s l x y h => pg_X12_tests_323 hT c0 s l x y _ h), (List.forall_mem_cons.mpr ⟨pu_X12_tests_324 _ (fun c0 c1 s l x y h => pg_X12_tests_324 hT c0 c1 s l x y _ h), (fun _ h => by cases h)⟩)⟩)) 60 t lv st z hd h) [(305, .aload_n 0, 1), (306, .getfield 489, 3), (309, .ifCond .eq 14, 3)] 305 [(0, pj_O (124, 0))] [pj_I b2, pj_N 17, pj_O (124, 0)] (s, l, x, y) (pm_bks_ok pb_X12_tests _ _ rfl) (pm_ndb_ok rfl) ((pq_X12_tests_305  b2 s l x y).symm.trans h)
set_option maxRecDepth 100000 in
theorem pg_X12_tests_284 {lf : pj_Z → mj_M} (hT : pj_Lt pj_TR lf) : ∀ (b2 : Int32) (b3 : Int32) (s : Nat → Int32) (l : Nat → Int64) (x : Nat → Int32) (y : Nat → Int64) (a : Unit × pj_Z), pl_X12_tests_284 b2 b3 s l x y = some a → pm_Gd 4 12060 ie_X12_tests.1 pm_rU lf 284 [(0, .ref 124)] [.int b3, .int b2, .int (Int32.ofInt 16), .ref 124] (s, l, x, y) a := by
  intro b2 b3 s l x y a h
  exact pj_bl_ok (pz_X12_tests hT) (fun t lv st z hd h => pj_rn_ok (pz_X12_tests hT) (pm_bks_ok pb_X12_tests) (pj_as_all (p := pm_Ex 4 12060 ie_X12_tests.1 pm_rU lf a) (List.forall_mem_cons.mpr ⟨pu_X12_tests_305 _ (fun c0 s l x y h => pg_X12_tests_305 hT c0 s l x y _ h), (fun _ h => by cases h)⟩)) 60 t lv st z hd h) [(284, .invokevirtual 676, 3), (287, .aload_n 0, 1), (288, .bipush 17, 2), (290, .aload_n 0, 1), (291, .getfield 492, 3), (294, .sipush 1000, 3), (297, .if_icmp .ne 7, 3)] 284 [(0, pj_O (124, 0))] [pj_I b3, pj_I b2, pj_N 16, pj_O (124, 0)] (s, l, x, y) (pm_bks_ok pb_X12_tests _ _ rfl) (pm_ndb_ok rfl) ((pq_X12_tests_284  b2 b3 s l x y).symm.trans h)
set_option maxRecDepth 100000 in
theorem pg_X12_tests_283 {lf : pj_Z → mj_M} (hT : pj_Lt pj_TR lf) : ∀ (b2 : Int32) (s : Nat → Int32) (l : Nat → Int64) (x : Nat → Int32) (y : Nat → Int64) (a : Unit × pj_Z), pl_X12_tests_283 b2 s l x y = some a → pm_Gd 4 12060 ie_X12_tests.1 pm_rU lf 283 [(0, .ref 124)] [.int b2, .int (Int32.ofInt 16), .ref 124] (s, l, x, y) a := by
  intro b2 s l x y a h
  exact pj_bl_ok (pz_X12_tests hT) (fun t lv st z hd h => pj_rn_ok (pz_X12_tests hT) (pm_bks_ok pb_X12_tests) (pj_as_all (p := pm_Ex 4 12060 ie_X12_tests.1 pm_rU lf a) (List.forall_mem_cons.mpr ⟨pu_X12_tests_284 _ (fun c0 c1 s l x y h => pg_X12_tests_284 hT c0 c1 s l x y _ h), (fun _ h => by cases h)⟩)) 60 t lv st z hd h) [(283, .iconst 0, 1)] 283 [(0, pj_O (124, 0))] [pj_I b2, pj_N 16, pj_O (124, 0)] (s, l, x, y) (pm_bks_ok pb_X12_tests _ _ rfl) (pm_ndb_ok rfl) ((pq_X12_tests_283  b2 s l x y).symm.trans h)
set_option maxRecDepth 100000 in
theorem pg_X12_tests_264 {lf : pj_Z → mj_M} (hT : pj_Lt pj_TR lf) : ∀ (b2 : Int32) (s : Nat → Int32) (l : Nat → Int64) (x : Nat → Int32) (y : Nat → Int64) (a : Unit × pj_Z), pl_X12_tests_264 b2 s l x y = some a → pm_Gd 4 12060 ie_X12_tests.1 pm_rU lf 264 [(0, .ref 124)] [.int b2, .int (Int32.ofInt 16), .ref 124] (s, l, x, y) a := by
  intro b2 s l x y a h
  exact pj_bl_ok (pz_X12_tests hT) (fun t lv st z hd h => pj_rn_ok (pz_X12_tests hT) (pm_bks_ok pb_X12_tests) (pj_as_all (p := pm_Ex 4 12060 ie_X12_tests.1 pm_rU lf a) (List.forall_mem_cons.mpr ⟨pu_X12_tests_283 _ (fun c0 s l x y h => pg_X12_tests_283 hT c0 s l x y _ h), (List.forall_mem_cons.mpr ⟨pu_X12_tests_284 _ (fun c0 c1 s l x y h => pg_X12_tests_284 hT c0 c1 s l x y _ h), (fun _ h => by cases h)⟩)⟩)) 60 t lv st z hd h) [(264, .aload_n 0, 1), (265, .getfield 262, 3), (268, .iconst 3, 1), (269, .if_icmp .ne 14, 3)] 264 [(0, pj_O (124, 0))] [pj_I b2, pj_N 16, pj_O (124, 0)] (s, l, x, y) (pm_bks_ok pb_X12_tests _ _ rfl) (pm_ndb_ok rfl) ((pq_X12_tests_264  b2 s l x y).symm.trans h)
set_option maxRecDepth 100000 in
theorem pg_X12_tests_259 {lf : pj_Z → mj_M} (hT : pj_Lt pj_TR lf) : ∀  (s : Nat → Int32) (l : Nat → Int64) (x : Nat → Int32) (y : Nat → Int64) (a : Unit × pj_Z), pl_X12_tests_259 s l x y = some a → pm_Gd 4 12060 ie_X12_tests.1 pm_rU lf 259 [(0, .ref 124)] [.int (Int32.ofInt 16), .ref 124] (s, l, x, y) a := by
  intro  s l x y a h
  exact pj_bl_ok (pz_X12_tests hT) (fun t lv st z hd h => pj_rn_ok (pz_X12_tests hT) (pm_bks_ok pb_X12_tests) (pj_as_all (p := pm_Ex 4 12060 ie_X12_tests.1 pm_rU lf a) (List.forall_mem_cons.mpr ⟨pu_X12_tests_264 _ (fun c0 s l x y h => pg_X12_tests_264 hT c0 s l x y _ h), (fun _ h => by cases h)⟩)) 60 t lv st z hd h) [(259, .iconst 1, 1), (260, .goto 4, 3)] 259 [(0, pj_O (124, 0))] [pj_N 16, pj_O (124, 0)] (s, l, x, y) (pm_bks_ok pb_X12_tests _ _ rfl) (pm_ndb_ok rfl) ((pq_X12_tests_259   s l x y).symm.trans h)
set_option maxRecDepth 100000 in
theorem pg_X12_tests_234 {lf : pj_Z → mj_M} (hT : pj_Lt pj_TR lf) : ∀ (b2 : Int32) (b3 : Int32) (s : Nat → Int32) (l : Nat → Int64) (x : Nat → Int32) (y : Nat → Int64) (a : Unit × pj_Z), pl_X12_tests_234 b2 b3 s l x y = some a → pm_Gd 4 12060 ie_X12_tests.1 pm_rU lf 234 [(0, .ref 124)] [.int b3, .int b2, .int (Int32.ofInt 15), .ref 124] (s, l, x, y) a := by
  intro b2 b3 s l x y a h
  exact pj_bl_ok (pz_X12_tests hT) (fun t lv st z hd h => pj_rn_ok (pz_X12_tests hT) (pm_bks_ok pb_X12_tests) (pj_as_all (p := pm_Ex 4 12060 ie_X12_tests.1 pm_rU lf a) (List.forall_mem_cons.mpr ⟨pu_X12_tests_259 _ (fun  s l x y h => pg_X12_tests_259 hT  s l x y _ h), (List.forall_mem_cons.mpr ⟨pu_X12_tests_264 _ (fun c0 s l x y h => pg_X12_tests_264 hT c0 s l x y _ h), (fun _ h => by cases h)⟩)⟩)) 60 t lv st z hd h) [(234, .invokevirtual 676, 3), (237, .aload_n 0, 1), (238, .bipush 16, 2), (240, .aload_n 0, 1), (241, .getfield 281, 3), (244, .iconst 3, 1), (245, .if_icmp .ge 14, 3)] 234 [(0, pj_O (124, 0))] [pj_I b3, pj_I b2, pj_N 15, pj_O (124, 0)] (s, l, x, y) (pm_bks_ok pb_X12_tests _ _ rfl) (pm_ndb_ok rfl) ((pq_X12_tests_234  b2 b3 s l x y).symm.trans h)
set_option maxRecDepth 100000 in
theorem pg_X12_tests_221 {lf : pj_Z → mj_M} (hT : pj_Lt pj_TR lf) : ∀ (b2 : Int32) (s : Nat → Int32) (l : Nat → Int64) (x : Nat → Int32) (y : Nat → Int64) (a : Unit × pj_Z), pl_X12_tests_221 b2 s l x y = some a → pm_Gd 4 12060 ie_X12_tests.1 pm_rU lf 221 [(0, .ref 124)] [.int b2, .int (Int32.ofInt 15), .ref 124] (s, l, x, y) a := by
  intro b2 s l x y a h
  exact pj_bl_ok (pz_X12_tests hT) (fun t lv st z hd h => pj_rn_ok (pz_X12_tests hT) (pm_bks_ok pb_X12_tests) (pj_as_all (p := pm_Ex 4 12060 ie_X12_tests.1 pm_rU lf a) (List.forall_mem_cons.mpr ⟨pu_X12_tests_234 _ (fun c0 c1 s l x y h => pg_X12_tests_234 hT c0 c1 s l x y _ h), (fun _ h => by cases h)⟩)) 60 t lv st z hd h) [(221, .aload_n 0, 1), (222, .getfield 262, 3), (225, .iconst 3, 1), (226, .if_icmp .ne 7, 3)] 221 [(0, pj_O (124, 0))] [pj_I b2, pj_N 15, pj_O (124, 0)] (s, l, x, y) (pm_bks_ok pb_X12_tests _ _ rfl) (pm_ndb_ok rfl) ((pq_X12_tests_221  b2 s l x y).symm.trans h)
set_option maxRecDepth 100000 in
theorem pg_X12_tests_188 {lf : pj_Z → mj_M} (hT : pj_Lt pj_TR lf) : ∀ (b2 : Int32) (b3 : Int32) (s : Nat → Int32) (l : Nat → Int64) (x : Nat → Int32) (y : Nat → Int64) (a : Unit × pj_Z), pl_X12_tests_188 b2 b3 s l x y = some a → pm_Gd 4 12060 ie_X12_tests.1 pm_rU lf 188 [(0, .ref 124)] [.int b3, .int b2, .int (Int32.ofInt 13), .ref 124] (s, l, x, y) a := by
  intro b2 b3 s l x y a h
  exact pj_bl_ok (pz_X12_tests hT) (fun t lv st z hd h => pj_rn_ok (pz_X12_tests hT) (pm_bks_ok pb_X12_tests) (pj_as_all (p := pm_Ex 4 12060 ie_X12_tests.1 pm_rU lf a) (List.forall_mem_cons.mpr ⟨pu_X12_tests_221 _ (fun c0 s l x y h => pg_X12_tests_221 hT c0 s l x y _ h), (fun _ h => by cases h)⟩)) 60 t lv st z hd h) [(188, .invokevirtual 676, 3), (191, .aload_n 0, 1), (192, .bipush 14, 2), (194, .aload_n 0, 1), (195, .getfield 480, 3), (198, .iconst 1, 1), (199, .invokevirtual 676, 3), (202, .aload_n 0, 1), (203, .bipush 15, 2), (205, .aload_n 0, 1), (206, .getfield 278, 3), (209, .aload_n 0, 1), (210, .getfield 501, 3), (213, .if_icmp .le 7, 3)] 188 [(0, pj_O (124, 0))] [pj_I b3, pj_I b2, pj_N 13, pj_O (124, 0)] (s, l, x, y) (pm_bks_ok pb_X12_tests _ _ rfl) (pm_ndb_ok rfl) ((pq_X12_tests_188  b2 b3 s l x y).symm.trans h)
set_option maxRecDepth 100000 in
theorem pg_X12_tests_187 {lf : pj_Z → mj_M} (hT : pj_Lt pj_TR lf) : ∀ (b2 : Int32) (s : Nat → Int32) (l : Nat → Int64) (x : Nat → Int32) (y : Nat → Int64) (a : Unit × pj_Z), pl_X12_tests_187 b2 s l x y = some a → pm_Gd 4 12060 ie_X12_tests.1 pm_rU lf 187 [(0, .ref 124)] [.int b2, .int (Int32.ofInt 13), .ref 124] (s, l, x, y) a := by
  intro b2 s l x y a h
  exact pj_bl_ok (pz_X12_tests hT) (fun t lv st z hd h => pj_rn_ok (pz_X12_tests hT) (pm_bks_ok pb_X12_tests) (pj_as_all (p := pm_Ex 4 12060 ie_X12_tests.1 pm_rU lf a) (List.forall_mem_cons.mpr ⟨pu_X12_tests_188 _ (fun c0 c1 s l x y h => pg_X12_tests_188 hT c0 c1 s l x y _ h), (fun _ h => by cases h)⟩)) 60 t lv st z hd h) [(187, .iconst 0, 1)] 187 [(0, pj_O (124, 0))] [pj_I b2, pj_N 13, pj_O (124, 0)] (s, l, x, y) (pm_bks_ok pb_X12_tests _ _ rfl) (pm_ndb_ok rfl) ((pq_X12_tests_187  b2 s l x y).symm.trans h)
set_option maxRecDepth 100000 in
theorem pg_X12_tests_159 {lf : pj_Z → mj_M} (hT : pj_Lt pj_TR lf) : ∀ (b2 : Int32) (b3 : Int32) (s : Nat → Int32) (l : Nat → Int64) (x : Nat → Int32) (y : Nat → Int64) (a : Unit × pj_Z), pl_X12_tests_159 b2 b3 s l x y = some a → pm_Gd 4 12060 ie_X12_tests.1 pm_rU lf 159 [(0, .ref 124)] [.int b3, .int b2, .int (Int32.ofInt 12), .ref 124] (s, l, x, y) a := by
  intro b2 b3 s l x y a h
  exact pj_bl_ok (pz_X12_tests hT) (fun t lv st z hd h => pj_rn_ok (pz_X12_tests hT) (pm_bks_ok pb_X12_tests) (pj_as_all (p := pm_Ex 4 12060 ie_X12_tests.1 pm_rU lf a) (List.forall_mem_cons.mpr ⟨pu_X12_tests_187 _ (fun c0 s l x y h => pg_X12_tests_187 hT c0 s l x y _ h), (List.forall_mem_cons.mpr ⟨pu_X12_tests_188 _ (fun c0 c1 s l x y h => pg_X12_tests_188 hT c0 c1 s l x y _ h), (fun _ h => by cases h)⟩)⟩)) 60 t lv st z hd h) [(159, .invokevirtual 676, 3), (162, .aload_n 0, 1), (163, .bipush 13, 2), (165, .aload_n 0, 1), (166, .getfield 477, 3), (169, .aload_n 0, 1), (170, .getfield 462, 3), (173, .ifCond .eq 14, 3)] 159 [(0, pj_O (124, 0))] [pj_I b3, pj_I b2, pj_N 12, pj_O (124, 0)] (s, l, x, y) (pm_bks_ok pb_X12_tests _ _ rfl) (pm_ndb_ok rfl) ((pq_X12_tests_159  b2 b3 s l x y).symm.trans h)
set_option maxRecDepth 100000 in
theorem pg_X12_tests_158 {lf : pj_Z → mj_M} (hT : pj_Lt pj_TR lf) : ∀ (b2 : Int32) (s : Nat → Int32) (l : Nat → Int64) (x : Nat → Int32) (y : Nat → Int64) (a : Unit × pj_Z), pl_X12_tests_158 b2 s l x y = some a → pm_Gd 4 12060 ie_X12_tests.1 pm_rU lf 158 [(0, .ref 124)] [.int b2, .int (Int32.ofInt 12), .ref 124] (s, l, x, y) a := by
  intro b2 s l x y a h
  exact pj_bl_ok (pz_X12_tests hT) (fun t lv st z hd h => pj_rn_ok (pz_X12_tests hT) (pm_bks_ok pb_X12_tests) (pj_as_all (p := pm_Ex 4 12060 ie_X12_tests.1 pm_rU lf a) (List.forall_mem_cons.mpr ⟨pu_X12_tests_159 _ (fun c0 c1 s l x y h => pg_X12_tests_159 hT c0 c1 s l x y _ h), (fun _ h => by cases h)⟩)) 60 t lv st z hd h) [(158, .iconst 0, 1)] 158 [(0, pj_O (124, 0))] [pj_I b2, pj_N 12, pj_O (124, 0)] (s, l, x, y) (pm_bks_ok pb_X12_tests _ _ rfl) (pm_ndb_ok rfl) ((pq_X12_tests_158  b2 s l x y).symm.trans h)
set_option maxRecDepth 100000 in
theorem pg_X12_tests_136 {lf : pj_Z → mj_M} (hT : pj_Lt pj_TR lf) : ∀ (a1 : Int32) (a2 : Int32) (b2 : Int32) (b3 : Int32) (s : Nat → Int32) (l : Nat → Int64) (x : Nat → Int32) (y : Nat → Int64) (a : Unit × pj_Z), pl_X12_tests_136 a1 a2 b2 b3 s l x y = some a → pm_Gd 4 12060 ie_X12_tests.1 pm_rU lf 136 [(0, .ref 124), (1, .int a1), (2, .int a2)] [.int b3, .int b2, .int (Int32.ofInt 11), .ref 124] (s, l, x, y) a := by
  intro a1 a2 b2 b3 s l x y a h
  exact pj_bl_ok (pz_X12_tests hT) (fun t lv st z hd h => pj_rn_ok (pz_X12_tests hT) (pm_bks_ok pb_X12_tests) (pj_as_all (p := pm_Ex 4 12060 ie_X12_tests.1 pm_rU lf a) (List.forall_mem_cons.mpr ⟨pu_X12_tests_158 _ (fun c0 s l x y h => pg_X12_tests_158 hT c0 s l x y _ h), (List.forall_mem_cons.mpr ⟨pu_X12_tests_159 _ (fun c0 c1 s l x y h => pg_X12_tests_159 hT c0 c1 s l x y _ h), (fun _ h => by cases h)⟩)⟩)) 60 t lv st z hd h) [(136, .invokevirtual 676, 3), (139, .aload_n 0, 1), (140, .bipush 12, 2), (142, .iload_n 2, 1), (143, .aload_n 0, 1), (144, .getfield 459, 3), (147, .ifCond .ne 11, 3)] 136 [(0, pj_O (124, 0)), (1, pj_I a1), (2, pj_I a2)] [pj_I b3, pj_I b2, pj_N 11, pj_O (124, 0)] (s, l, x, y) (pm_bks_ok pb_X12_tests _ _ rfl) (pm_ndb_ok rfl) ((pq_X12_tests_136  a1 a2 b2 b3 s l x y).symm.trans h)
set_option maxRecDepth 100000 in
theorem pg_X12_tests_135 {lf : pj_Z → mj_M} (hT : pj_Lt pj_TR lf) : ∀ (a1 : Int32) (a2 : Int32) (b2 : Int32) (s : Nat → Int32) (l : Nat → Int64) (x : Nat → Int32) (y : Nat → Int64) (a : Unit × pj_Z), pl_X12_tests_135 a1 a2 b2 s l x y = some a → pm_Gd 4 12060 ie_X12_tests.1 pm_rU lf 135 [(0, .ref 124), (1, .int a1), (2, .int a2)] [.int b2, .int (Int32.ofInt 11), .ref 124] (s, l, x, y) a := by
  intro a1 a2 b2 s l x y a h
  exact pj_bl_ok (pz_X12_tests hT) (fun t lv st z hd h => pj_rn_ok (pz_X12_tests hT) (pm_bks_ok pb_X12_tests) (pj_as_all (p := pm_Ex 4 12060 ie_X12_tests.1 pm_rU lf a) (List.forall_mem_cons.mpr ⟨pu_X12_tests_136 _ (fun c0 c1 c2 c3 s l x y h => pg_X12_tests_136 hT c0 c1 c2 c3 s l x y _ h), (fun _ h => by cases h)⟩)) 60 t lv st z hd h) [(135, .iconst 0, 1)] 135 [(0, pj_O (124, 0)), (1, pj_I a1), (2, pj_I a2)] [pj_I b2, pj_N 11, pj_O (124, 0)] (s, l, x, y) (pm_bks_ok pb_X12_tests _ _ rfl) (pm_ndb_ok rfl) ((pq_X12_tests_135  a1 a2 b2 s l x y).symm.trans h)
set_option maxRecDepth 100000 in
theorem pg_X12_tests_106 {lf : pj_Z → mj_M} (hT : pj_Lt pj_TR lf) : ∀ (a1 : Int32) (a2 : Int32) (b2 : Int32) (s : Nat → Int32) (l : Nat → Int64) (x : Nat → Int32) (y : Nat → Int64) (a : Unit × pj_Z), pl_X12_tests_106 a1 a2 b2 s l x y = some a → pm_Gd 4 12060 ie_X12_tests.1 pm_rU lf 106 [(0, .ref 124), (1, .int a1), (2, .int a2)] [.int b2, .int (Int32.ofInt 11), .ref 124] (s, l, x, y) a := by
  intro a1 a2 b2 s l x y a h
  exact pj_bl_ok (pz_X12_tests hT) (fun t lv st z hd h => pj_rn_ok (pz_X12_tests hT) (pm_bks_ok pb_X12_tests) (pj_as_all (p := pm_Ex 4 12060 ie_X12_tests.1 pm_rU lf a) (List.forall_mem_cons.mpr ⟨pu_X12_tests_135 _ (fun c0 c1 c2 s l x y h => pg_X12_tests_135 hT c0 c1 c2 s l x y _ h), (List.forall_mem_cons.mpr ⟨pu_X12_tests_136 _ (fun c0 c1 c2 c3 s l x y h => pg_X12_tests_136 hT c0 c1 c2 c3 s l x y _ h), (fun _ h => by cases h)⟩)⟩)) 60 t lv st z hd h) [(106, .aload_n 0, 1), (107, .getfield 429, 3), (110, .ifCond .ne 25, 3)] 106 [(0, pj_O (124, 0)), (1, pj_I a1), (2, pj_I a2)] [pj_I b2, pj_N 11, pj_O (124, 0)] (s, l, x, y) (pm_bks_ok pb_X12_tests _ _ rfl) (pm_ndb_ok rfl) ((pq_X12_tests_106  a1 a2 b2 s l x y).symm.trans h)
set_option maxRecDepth 100000 in
theorem pg_X12_tests_86 {lf : pj_Z → mj_M} (hT : pj_Lt pj_TR lf) : ∀ (a1 : Int32) (a2 : Int32) (b2 : Int32) (b3 : Int32) (s : Nat → Int32) (l : Nat → Int64) (x : Nat → Int32) (y : Nat → Int64) (a : Unit × pj_Z), pl_X12_tests_86 a1 a2 b2 b3 s l x y = some a → pm_Gd 4 12060 ie_X12_tests.1 pm_rU lf 86 [(0, .ref 124), (1, .int a1), (2, .int a2)] [.int b3, .int b2, .int (Int32.ofInt 10), .ref 124] (s, l, x, y) a := by
  intro a1 a2 b2 b3 s l x y a h
  exact pj_bl_ok (pz_X12_tests hT) (fun t lv st z hd h => pj_rn_ok (pz_X12_tests hT) (pm_bks_ok pb_X12_tests) (pj_as_all (p := pm_Ex 4 12060 ie_X12_tests.1 pm_rU lf a) (List.forall_mem_cons.mpr ⟨pu_X12_tests_106 _ (fun c0 c1 c2 s l x y h => pg_X12_tests_106 hT c0 c1 c2 s l x y _ h), (fun _ h => by cases h)⟩)) 60 t lv st z hd h) [(86, .invokevirtual 676, 3), (89, .aload_n 0, 1), (90, .bipush 11, 2), (92, .aload_n 0, 1), (93, .getfield 429, 3), (96, .bipush 10, 2), (98, .if_icmp .lt 7, 3)] 86 [(0, pj_O (124, 0)), (1, pj_I a1), (2, pj_I a2)] [pj_I b3, pj_I b2, pj_N 10, pj_O (124, 0)] (s, l, x, y) (pm_bks_ok pb_X12_tests _ _ rfl) (pm_ndb_ok rfl) ((pq_X12_tests_86  a1 a2 b2 b3 s l x y).symm.trans h)
set_option maxRecDepth 100000 in
theorem pg_X12_tests_85 {lf : pj_Z → mj_M} (hT : pj_Lt pj_TR lf) : ∀ (a1 : Int32) (a2 : Int32) (b2 : Int32) (s : Nat → Int32) (l : Nat → Int64) (x : Nat → Int32) (y : Nat → Int64) (a : Unit × pj_Z), pl_X12_tests_85 a1 a2 b2 s l x y = some a → pm_Gd 4 12060 ie_X12_tests.1 pm_rU lf 85 [(0, .ref 124), (1, .int a1), (2, .int a2)] [.int b2, .int (Int32.ofInt 10), .ref 124] (s, l, x, y) a := by
  intro a1 a2 b2 s l x y a h
  exact pj_bl_ok (pz_X12_tests hT) (fun t lv st z hd h => pj_rn_ok (pz_X12_tests hT) (pm_bks_ok pb_X12_tests) (pj_as_all (p := pm_Ex 4 12060 ie_X12_tests.1 pm_rU lf a) (List.forall_mem_cons.mpr ⟨pu_X12_tests_86 _ (fun c0 c1 c2 c3 s l x y h => pg_X12_tests_86 hT c0 c1 c2 c3 s l x y _ h), (fun _ h => by cases h)⟩)) 60 t lv st z hd h) [(85, .iconst 0, 1)] 85 [(0, pj_O (124, 0)), (1, pj_I a1), (2, pj_I a2)] [pj_I b2, pj_N 10, pj_O (124, 0)] (s, l, x, y) (pm_bks_ok pb_X12_tests _ _ rfl) (pm_ndb_ok rfl) ((pq_X12_tests_85  a1 a2 b2 s l x y).symm.trans h)
set_option maxRecDepth 100000 in
theorem pg_X12_tests_56 {lf : pj_Z → mj_M} (hT : pj_Lt pj_TR lf) : ∀ (a1 : Int32) (a2 : Int32) (b2 : Int32) (s : Nat → Int32) (l : Nat → Int64) (x : Nat → Int32) (y : Nat → Int64) (a : Unit × pj_Z), pl_X12_tests_56 a1 a2 b2 s l x y = some a → pm_Gd 4 12060 ie_X12_tests.1 pm_rU lf 56 [(0, .ref 124), (1, .int a1), (2, .int a2)] [.int b2, .int (Int32.ofInt 10), .ref 124] (s, l, x, y) a := by
  intro a1 a2 b2 s l x y a h
  exact pj_bl_ok (pz_X12_tests hT) (fun t lv st z hd h => pj_rn_ok (pz_X12_tests hT) (pm_bks_ok pb_X12_tests) (pj_as_all (p := pm_Ex 4 12060 ie_X12_tests.1 pm_rU lf a) (List.forall_mem_cons.mpr ⟨pu_X12_tests_85 _ (fun c0 c1 c2 s l x y h => pg_X12_tests_85 hT c0 c1 c2 s l x y _ h), (List.forall_mem_cons.mpr ⟨pu_X12_tests_86 _ (fun c0 c1 c2 c3 s l x y h => pg_X12_tests_86 hT c0 c1 c2 c3 s l x y _ h), (fun _ h => by cases h)⟩)⟩)) 60 t lv st z hd h) [(56, .aload_n 0, 1), (57, .getfield 426, 3), (60, .ifCond .ne 25, 3)] 56 [(0, pj_O (124, 0)), (1, pj_I a1), (2, pj_I a2)] [pj_I b2, pj_N 10, pj_O (124, 0)] (s, l, x, y) (pm_bks_ok pb_X12_tests _ _ rfl) (pm_ndb_ok rfl) ((pq_X12_tests_56  a1 a2 b2 s l x y).symm.trans h)
set_option maxRecDepth 100000 in
theorem pg_X12_tests_2 {lf : pj_Z → mj_M} (hT : pj_Lt pj_TR lf) : ∀ (n : Nat), ∀ (a1 : Int32) (a2 : Int32) (a3 : Int32) (s : Nat → Int32) (l : Nat → Int64) (x : Nat → Int32) (y : Nat → Int64) (a : Unit × pj_Z), pl_X12_tests_2 n a1 a2 a3 s l x y = some a → pm_Gd 4 12060 ie_X12_tests.1 pm_rU lf 2 [(0, .ref 124), (1, .int a1), (2, .int a2), (3, .int a3)] [] (s, l, x, y) a := by
  intro n
  induction n with
  | zero => intro a1 a2 a3 s l x y a h; cases (show (none : Option (Unit × pj_Z)) = some a from h)
  | succ n ih =>
    intro a1 a2 a3 s l x y a h
    exact pj_bl_ok (pz_X12_tests hT) (fun t lv st z hd h => pj_rn_ok (pz_X12_tests hT) (pm_bks_ok pb_X12_tests) (pj_as_all (p := pm_Ex 4 12060 ie_X12_tests.1 pm_rU lf a) (List.forall_mem_cons.mpr ⟨pu_X12_tests_2 _ (fun c0 c1 c2 s l x y h => ih c0 c1 c2 s l x y _ h), (List.forall_mem_cons.mpr ⟨pu_X12_tests_30 _ (fun c0 c1 c2 c3 c4 c5 s l x y h => pg_X12_tests_30 hT (fun a1 a2 a3 s l x y a h => ih a1 a2 a3 s l x y a h) c0 c1 c2 c3 c4 c5 s l x y _ h), (List.forall_mem_cons.mpr ⟨pu_X12_tests_56 _ (fun c0 c1 c2 s l x y h => pg_X12_tests_56 hT c0 c1 c2 s l x y _ h), (fun _ h => by cases h)⟩)⟩)⟩)) 60 t lv st z hd h) [(2, .iload_n 3, 1), (3, .bipush 10, 2), (5, .if_icmp .ge 34, 3)] 2 [(0, pj_O (124, 0)), (1, pj_I a1), (2, pj_I a2), (3, pj_I a3)] [] (s, l, x, y) (pm_bks_ok pb_X12_tests _ _ rfl) (pm_ndb_ok rfl) ((pq_X12_tests_2 n a1 a2 a3 s l x y).symm.trans h)
set_option maxRecDepth 100000 in
theorem pm_X12_tests {lf : pj_Z → mj_M} (hT : pj_Lt pj_TR lf) (a1 : Int32) (a2 : Int32) (s : Nat → Int32) (l : Nat → Int64) (x : Nat → Int32) (y : Nat → Int64) (a : Unit × pj_Z) (h : pf_X12_tests a1 a2 s l x y = some a) : mj_R ic_P 5 12060 [.ref 124, .int a1, .int a2] (lf (s, l, x, y)) (pm_rU a.1) (lf a.2) := by
  refine pm_main (Y := ie_X12_tests.1) rfl (Nat.le_of_ble_eq_true rfl) ?_
  exact pj_bl_ok (pz_X12_tests hT) (fun t lv st z hd h => pj_rn_ok (pz_X12_tests hT) (pm_bks_ok pb_X12_tests) (pj_as_all (p := pm_Ex 4 12060 ie_X12_tests.1 pm_rU lf a) (List.forall_mem_cons.mpr ⟨pu_X12_tests_2 _ (fun c0 c1 c2 s l x y h => pg_X12_tests_2 hT (pj_fu 0) c0 c1 c2 s l x y _ h), (fun _ h => by cases h)⟩)) 60 t lv st z hd h) [(0, .iconst 0, 1), (1, .istore_n 3, 1)] 0 [(0, pj_O (124, 0)), (1, pj_I a1), (2, pj_I a2)] [] (s, l, x, y) (pm_bks_ok pb_X12_tests _ _ rfl) (pm_ndb_ok rfl) ((pq_X12_tests_m a1 a2 s l x y).symm.trans h)
abbrev ph_X12_tests {A : Type} : List pj_V → pj_Z → (List pj_V → pj_Z → Option A) → Option A := fun st z K => pj_pi st fun a2 st => pj_pi st fun a1 st => pj_pr st 124 0 fun st => pj_ps st (pj_b (pf_X12_tests a1 a2 z.1 z.2.1 z.2.2.1 z.2.2.2) fun r s l x y => K st (s, l, x, y))
set_option maxRecDepth 100000 in
theorem pc_X12_tests {A : Type} {OK : A → Option Value → mj_M → Prop} {d j pc ix : Nat} {Y : mj_Y} {lf : pj_Z → mj_M} (hT : pj_Lt pj_TR lf) (hd : 5 ≤ d) (hl : mj_lk Y.2.2.2.2 pc = some (.invokevirtual ix, 3)) (hg : mj_pG ic_P j ix = some (12060, 2, some 12)) {lv : List (Nat × Value)} {st : List pj_V} {z : pj_Z} {K : List pj_V → pj_Z → Option A} {a : A} (hK : ∀ st z, K st z = some a → pj_Gd ic_P (mj_R ic_P d) j Y OK lf (pc + 3) lv (pj_es st) z a) (h : ph_X12_tests st z K = some a) : pj_Gd ic_P (mj_R ic_P d) j Y OK lf pc lv (pj_es st) z a := by
  obtain ⟨a2, r2, e2, h⟩ := pj_pi_inv h
  obtain ⟨a1, r1, e1, h⟩ := pj_pi_inv h
  obtain ⟨r0, e0, h⟩ := pj_pr_inv h
  obtain ⟨hs, h⟩ := pj_ps_inv h
  obtain ⟨q, hq, h⟩ := pj_b_inv h
  exact pm_cv (o := 124) hl hg [.int a1, .int a2] rfl (by rw [e2, e1, e0]; rfl) hs (by decide) ((hT.2 124 _ rfl).1.2 z 0 (by decide)) (pm_rU q.1) hd (pm_X12_tests hT a1 a2 z.1 z.2.1 z.2.2.1 z.2.2.2 q hq) rfl (hK _ _ h)
abbrev px_X12_input : pj_C (Int32 × pj_Z) := (pj_TR, (pj_as [(133, 12, 72, 2, true), (417, 12, 75, 1, false), (435, 12, 81, 0, false), (990, 12, 135, 0, false), (997, 12, 137, 0, false)]), (fun _ => none), (fun _ => none), (fun _ => none), ic_X, 2, 1, pj_mI, (pj_as [(45, ph_X12_speed)]), fun _ => false)
abbrev pk_X12_input : List (Nat × List (Nat × Instr × Nat)) := [(0, [(0, .iload_n 1, 1), (1, .tableswitch 85 0 6 #[43, 48, 55, 62, 67, 72, 80], 43)]), (44, [(44, .aload_n 0, 1), (45, .invokevirtual 632, 3), (48, .ireturn, 1)]), (49, [(49, .aload_n 0, 1), (50, .getfield 133, 3), (53, .iconst 4, 1), (54, .iaload, 1), (55, .ireturn, 1)]), (56, [(56, .aload_n 0, 1), (57, .getfield 133, 3), (60, .iconst 5, 1), (61, .iaload, 1), (62, .ireturn, 1)]), (63, [(63, .aload_n 0, 1), (64, .getfield 435, 3), (67, .ireturn, 1)]), (68, [(68, .aload_n 0, 1), (69, .getfield 990, 3), (72, .ireturn, 1)]), (73, [(73, .aload_n 0, 1), (74, .getfield 133, 3), (77, .bipush 9, 2), (79, .iaload, 1), (80, .ireturn, 1)]), (81, [(81, .aload_n 0, 1), (82, .getfield 997, 3), (85, .ireturn, 1)]), (86, [(86, .aload_n 0, 1), (87, .getfield 417, 3), (90, .l2i, 1), (91, .ireturn, 1)])]
set_option maxRecDepth 100000 in
theorem pq_X12_input_m (a1 : Int32) (s : Nat → Int32) (l : Nat → Int64) (x : Nat → Int32) (y : Nat → Int64) : pf_X12_input a1 s l x y = pj_bl px_X12_input (pj_rn px_X12_input (pj_as pk_X12_input) (fun _ => none) 60) [(0, .iload_n 1, 1), (1, .tableswitch 85 0 6 #[43, 48, 55, 62, 67, 72, 80], 43)] 0 [(0, pj_O (124, 0)), (1, pj_I a1)] [] (s, l, x, y) := rfl
set_option maxRecDepth 100000 in
theorem pz_X12_input {lf : pj_Z → mj_M} (hT : pj_Lt pj_TR lf) : pj_Cok ic_P (mj_R ic_P 1) 12163 ie_X12_input.1 (pm_OK lf pm_rI) lf px_X12_input := by
  exact pm_cok (c := px_X12_input) hT (pm_in_ok (L := [(133, 12, 72, 2, true), (417, 12, 75, 1, false), (435, 12, 81, 0, false), (990, 12, 135, 0, false), (997, 12, 137, 0, false)]) (f := mj_pF ic_P 12163) (by decide +kernel)) (fun _ _ h => by cases h) (fun _ _ h => by cases h) (fun _ _ h => by cases h) rfl rfl ⟨by decide, rfl⟩ pm_mI (pj_as_all (p := pm_Cl 1 12163 ie_X12_input.1 lf (pm_OK lf pm_rI)) (List.forall_mem_cons.mpr ⟨fun _ _ lv st z K a hK h => pc_X12_speed hT (by decide) (ix := 632) rfl rfl hK h, (fun _ h => by cases h)⟩)) (fun _ h => by cases h)
set_option maxRecDepth 100000 in
theorem pb_X12_input : pm_bks ie_X12_input.1.2.2.2.2 pk_X12_input = true := by decide +kernel
set_option maxRecDepth 100000 in
theorem pm_X12_input {lf : pj_Z → mj_M} (hT : pj_Lt pj_TR lf) (a1 : Int32) (s : Nat → Int32) (l : Nat → Int64) (x : Nat → Int32) (y : Nat → Int64) (a : Int32 × pj_Z) (h : pf_X12_input a1 s l x y = some a) : mj_R ic_P 2 12163 [.ref 124, .int a1] (lf (s, l, x, y)) (pm_rI a.1) (lf a.2) := by
  refine pm_main (Y := ie_X12_input.1) rfl (Nat.le_of_ble_eq_true rfl) ?_
  exact pj_bl_ok (pz_X12_input hT) (fun t lv st z hd h => pj_rn_ok (pz_X12_input hT) (pm_bks_ok pb_X12_input) (fun _ _ h => by cases h) 60 t lv st z hd h) [(0, .iload_n 1, 1), (1, .tableswitch 85 0 6 #[43, 48, 55, 62, 67, 72, 80], 43)] 0 [(0, pj_O (124, 0)), (1, pj_I a1)] [] (s, l, x, y) (pm_bks_ok pb_X12_input _ _ rfl) (pm_ndb_ok rfl) ((pq_X12_input_m a1 s l x y).symm.trans h)
abbrev ph_X12_input {A : Type} : List pj_V → pj_Z → (List pj_V → pj_Z → Option A) → Option A := fun st z K => pj_pi st fun a1 st => pj_pr st 124 0 fun st => pj_ps st (pj_b (pf_X12_input a1 z.1 z.2.1 z.2.2.1 z.2.2.2) fun r s l x y => K (pj_I r :: st) (s, l, x, y))
set_option maxRecDepth 100000 in
theorem pc_X12_input {A : Type} {OK : A → Option Value → mj_M → Prop} {d j pc ix : Nat} {Y : mj_Y} {lf : pj_Z → mj_M} (hT : pj_Lt pj_TR lf) (hd : 2 ≤ d) (hl : mj_lk Y.2.2.2.2 pc = some (.invokevirtual ix, 3)) (hg : mj_pG ic_P j ix = some (12163, 1, some 12)) {lv : List (Nat × Value)} {st : List pj_V} {z : pj_Z} {K : List pj_V → pj_Z → Option A} {a : A} (hK : ∀ st z, K st z = some a → pj_Gd ic_P (mj_R ic_P d) j Y OK lf (pc + 3) lv (pj_es st) z a) (h : ph_X12_input st z K = some a) : pj_Gd ic_P (mj_R ic_P d) j Y OK lf pc lv (pj_es st) z a := by
  obtain ⟨a1, r1, e1, h⟩ := pj_pi_inv h
  obtain ⟨r0, e0, h⟩ := pj_pr_inv h
  obtain ⟨hs, h⟩ := pj_ps_inv h
  obtain ⟨q, hq, h⟩ := pj_b_inv h
  exact pm_cv (o := 124) hl hg [.int a1] rfl (by rw [e1, e0]; rfl) hs (by decide) ((hT.2 124 _ rfl).1.2 z 0 (by decide)) (pm_rI q.1) hd (pm_X12_input hT a1 z.1 z.2.1 z.2.2.1 z.2.2.2 q hq) rfl (hK _ _ h)

/-! METHODS 8, printed by gen_meth.py -/
abbrev pe_X11_passTo_2 (f : Int64 → Int32 → pj_F (Unit × pj_Z)) : pj_K (Unit × pj_Z) := fun lv st z => pj_xr lv 0 0 0 <| pj_xl lv 1 fun a1 => pj_xi lv 3 fun a3 => pj_pe st (f a1 a3 z.1 z.2.1 z.2.2.1 z.2.2.2)
abbrev pe_X11_passTo_62 (f : Int64 → Int32 → Int64 → Int32 → Int64 → pj_F (Unit × pj_Z)) : pj_K (Unit × pj_Z) := fun lv st z => pj_xr lv 0 0 0 <| pj_xl lv 1 fun a1 => pj_xi lv 3 fun a3 => pj_xl lv 4 fun a4 => pj_xi lv 6 fun a6 => pj_pl st fun b0 st => pj_pe st (f a1 a3 a4 a6 b0 z.1 z.2.1 z.2.2.1 z.2.2.2)
abbrev pe_X11_passTo_77 (f : Int64 → Int32 → Int64 → Int32 → Int64 → Int32 → pj_F (Unit × pj_Z)) : pj_K (Unit × pj_Z) := fun lv st z => pj_xr lv 0 0 0 <| pj_xl lv 1 fun a1 => pj_xi lv 3 fun a3 => pj_xl lv 4 fun a4 => pj_xi lv 6 fun a6 => pj_xl lv 7 fun a7 => pj_pi st fun b0 st => pj_pe st (f a1 a3 a4 a6 a7 b0 z.1 z.2.1 z.2.2.1 z.2.2.2)
abbrev pe_X11_passTo_91 (f : Int64 → Int32 → Int64 → Int32 → Int64 → Int32 → Int64 → pj_F (Unit × pj_Z)) : pj_K (Unit × pj_Z) := fun lv st z => pj_xr lv 0 0 0 <| pj_xl lv 1 fun a1 => pj_xi lv 3 fun a3 => pj_xl lv 4 fun a4 => pj_xi lv 6 fun a6 => pj_xl lv 7 fun a7 => pj_xi lv 9 fun a9 => pj_pl st fun b0 st => pj_pe st (f a1 a3 a4 a6 a7 a9 b0 z.1 z.2.1 z.2.2.1 z.2.2.2)
abbrev pe_X11_passTo_141 (f : Int64 → Int32 → pj_F (Unit × pj_Z)) : pj_K (Unit × pj_Z) := fun lv st z => pj_xr lv 0 0 0 <| pj_xl lv 1 fun a1 => pj_xi lv 3 fun a3 => pj_pe st (f a1 a3 z.1 z.2.1 z.2.2.1 z.2.2.2)
abbrev pe_X11_passTo_147 (f : Int64 → pj_F (Unit × pj_Z)) : pj_K (Unit × pj_Z) := fun lv st z => pj_xr lv 0 0 0 <| pj_xl lv 1 fun a1 => pj_pe st (f a1 z.1 z.2.1 z.2.2.1 z.2.2.2)
abbrev px_X11_passTo : pj_C (Unit × pj_Z) := ((pj_as [(0, 11, 17, 1, 0, true, 0, [(2, 1), (2, 20), (2, 58), (2, 68), (2, 82), (2, 83), (2, 85), (2, 96), (2, 102), (2, 106), (2, 122), (0, 93), (0, 94), (0, 95), (1, 1), (1, 2), (0, 96)]), (1, 4, 10, 1, 0, true, 0, [(2, 2), (2, 3), (2, 8), (2, 11), (2, 14), (2, 17), (2, 18), (2, 19), (0, 44), (1, 3)]), (2, 100, 24, 1, 0, true, 10000, []), (68, 6, 19, 1, 0, true, 0, [(2, 69), (2, 70), (2, 71), (2, 72), (0, 57), (0, 58), (2, 73), (2, 74), (2, 75), (2, 76), (2, 77), (2, 78), (1, 11), (0, 59), (0, 60), (0, 61), (2, 79), (2, 80), (2, 81)]), (69, 101, 64, 1, 0, true, 16000, [])]), (pj_as [(10, 11, 0, 2, true), (33, 11, 3, 2, true), (86, 11, 11, 1, false), (90, 11, 12, 0, false), (287, 4, 0, 2, true), (504, 6, 0, 2, true)]), (pj_as [(121, 1000000)]), (pj_as [(497, 10000), (502, 9223372036854775807)]), (fun _ => none), ic_X, 10, 0, pj_mU, (pj_as [(35, ph_X6_nextEvent), (125, ph_X6_happen), (138, ph_X11_oneLoop)]), fun _ => false)
abbrev pk_X11_passTo : List (Nat × List (Nat × Instr × Nat)) := [(0, [(0, .iconst 0, 1), (1, .istore_n 3, 1)]), (2, [(2, .iload_n 3, 1), (3, .ldc 121, 2), (5, .if_icmp .ge 142, 3)]), (8, [(8, .aload_n 0, 1), (9, .getfield 90, 3), (12, .ifCond .eq 135, 3)]), (15, [(15, .aload_n 0, 1), (16, .getfield 86, 3), (19, .ldc2_w 497, 3), (22, .ldiv, 1), (23, .lconst 1, 1), (24, .ladd, 1), (25, .ldc2_w 497, 3), (28, .lmul, 1), (29, .lstore 4, 2), (31, .aload_n 0, 1), (32, .getfield 33, 3), (35, .invokevirtual 499, 3), (38, .istore 6, 2), (40, .iload 6, 2), (42, .iconst (-1), 1), (43, .if_icmp .ne 9, 3)]), (46, [(46, .ldc2_w 502, 3), (49, .goto 13, 3)]), (52, [(52, .aload_n 0, 1), (53, .getfield 33, 3), (56, .getfield 504, 3), (59, .iload 6, 2), (61, .laload, 1)]), (62, [(62, .lstore 7, 2), (64, .lload 7, 2), (66, .lload 4, 2), (68, .lcmp, 1), (69, .ifCond .ge 7, 3)]), (72, [(72, .iconst 1, 1), (73, .goto 4, 3)]), (76, [(76, .iconst 0, 1)]), (77, [(77, .istore 9, 2), (79, .iload 9, 2), (81, .ifCond .eq 8, 3)]), (84, [(84, .lload 7, 2), (86, .goto 5, 3)]), (89, [(89, .lload 4, 2)]), (91, [(91, .lload_n 1, 1), (92, .lcmp, 1), (93, .ifCond .le 6, 3)]), (96, [(96, .goto 51, 3)]), (99, [(99, .iload 9, 2), (101, .ifCond .eq 30, 3)]), (104, [(104, .aload_n 0, 1), (105, .lload 7, 2), (107, .putfield 86, 3), (110, .aload_n 0, 1), (111, .getfield 33, 3), (114, .iload 6, 2), (116, .aload_n 0, 1), (117, .getfield 10, 3), (120, .getfield 287, 3), (123, .iconst 4, 1), (124, .iaload, 1), (125, .invokevirtual 508, 3), (128, .goto 13, 3)]), (131, [(131, .aload_n 0, 1), (132, .lload 4, 2), (134, .putfield 86, 3), (137, .aload_n 0, 1), (138, .invokevirtual 512, 3)]), (141, [(141, .iinc 3 1, 3), (144, .goto (-142), 3)]), (147, [(147, .aload_n 0, 1), (148, .lload_n 1, 1), (149, .putfield 86, 3), (152, .return_, 1)])]
set_option maxRecDepth 100000 in
theorem pq_X11_passTo_141 (fu : Nat)  (k2 : Int64 → Int32 → pj_F (Unit × pj_Z)) (a1 : Int64) (a3 : Int32) (s : Nat → Int32) (l : Nat → Int64) (x : Nat → Int32) (y : Nat → Int64) : pl_X11_passTo_141 fu k2 a1 a3 s l x y = pj_bl px_X11_passTo (pj_rn px_X11_passTo (pj_as pk_X11_passTo) (pj_as [(2, pe_X11_passTo_2 k2)]) 60) [(141, .iinc 3 1, 3), (144, .goto (-142), 3)] 141 [(0, pj_O (0, 0)), (1, pj_L a1), (3, pj_I a3)] [] (s, l, x, y) := rfl
set_option maxRecDepth 100000 in
theorem pq_X11_passTo_147 (fu : Nat)  (a1 : Int64) (s : Nat → Int32) (l : Nat → Int64) (x : Nat → Int32) (y : Nat → Int64) : pl_X11_passTo_147 fu a1 s l x y = pj_bl px_X11_passTo (pj_rn px_X11_passTo (pj_as pk_X11_passTo) (fun _ => none) 60) [(147, .aload_n 0, 1), (148, .lload_n 1, 1), (149, .putfield 86, 3), (152, .return_, 1)] 147 [(0, pj_O (0, 0)), (1, pj_L a1)] [] (s, l, x, y) := rfl
set_option maxRecDepth 100000 in
theorem pq_X11_passTo_91 (fu : Nat)  (k2 : Int64 → Int32 → pj_F (Unit × pj_Z)) (a1 : Int64) (a3 : Int32) (a4 : Int64) (a6 : Int32) (a7 : Int64) (a9 : Int32) (b0 : Int64) (s : Nat → Int32) (l : Nat → Int64) (x : Nat → Int32) (y : Nat → Int64) : pl_X11_passTo_91 fu k2 a1 a3 a4 a6 a7 a9 b0 s l x y = pj_bl px_X11_passTo (pj_rn px_X11_passTo (pj_as pk_X11_passTo) (pj_as [(2, pe_X11_passTo_2 k2), (141, pe_X11_passTo_141 (pl_X11_passTo_141 fu k2)), (147, pe_X11_passTo_147 (pl_X11_passTo_147 fu))]) 60) [(91, .lload_n 1, 1), (92, .lcmp, 1), (93, .ifCond .le 6, 3)] 91 [(0, pj_O (0, 0)), (1, pj_L a1), (3, pj_I a3), (4, pj_L a4), (6, pj_I a6), (7, pj_L a7), (9, pj_I a9)] [pj_L b0] (s, l, x, y) := rfl
set_option maxRecDepth 100000 in
theorem pq_X11_passTo_77 (fu : Nat)  (k2 : Int64 → Int32 → pj_F (Unit × pj_Z)) (a1 : Int64) (a3 : Int32) (a4 : Int64) (a6 : Int32) (a7 : Int64) (b0 : Int32) (s : Nat → Int32) (l : Nat → Int64) (x : Nat → Int32) (y : Nat → Int64) : pl_X11_passTo_77 fu k2 a1 a3 a4 a6 a7 b0 s l x y = pj_bl px_X11_passTo (pj_rn px_X11_passTo (pj_as pk_X11_passTo) (pj_as [(2, pe_X11_passTo_2 k2), (91, pe_X11_passTo_91 (pl_X11_passTo_91 fu k2))]) 60) [(77, .istore 9, 2), (79, .iload 9, 2), (81, .ifCond .eq 8, 3)] 77 [(0, pj_O (0, 0)), (1, pj_L a1), (3, pj_I a3), (4, pj_L a4), (6, pj_I a6), (7, pj_L a7)] [pj_I b0] (s, l, x, y) := rfl
set_option maxRecDepth 100000 in
theorem pq_X11_passTo_62 (fu : Nat)  (k2 : Int64 → Int32 → pj_F (Unit × pj_Z)) (a1 : Int64) (a3 : Int32) (a4 : Int64) (a6 : Int32) (b0 : Int64) (s : Nat → Int32) (l : Nat → Int64) (x : Nat → Int32) (y : Nat → Int64) : pl_X11_passTo_62 fu k2 a1 a3 a4 a6 b0 s l x y = pj_bl px_X11_passTo (pj_rn px_X11_passTo (pj_as pk_X11_passTo) (pj_as [(2, pe_X11_passTo_2 k2), (77, pe_X11_passTo_77 (pl_X11_passTo_77 fu k2))]) 60) [(62, .lstore 7, 2), (64, .lload 7, 2), (66, .lload 4, 2), (68, .lcmp, 1), (69, .ifCond .ge 7, 3)] 62 [(0, pj_O (0, 0)), (1, pj_L a1), (3, pj_I a3), (4, pj_L a4), (6, pj_I a6)] [pj_L b0] (s, l, x, y) := rfl
set_option maxRecDepth 100000 in
theorem pq_X11_passTo_2 (fu : Nat)  (n : Nat) (a1 : Int64) (a3 : Int32) (s : Nat → Int32) (l : Nat → Int64) (x : Nat → Int32) (y : Nat → Int64) : pl_X11_passTo_2 fu (n + 1) a1 a3 s l x y = pj_bl px_X11_passTo (pj_rn px_X11_passTo (pj_as pk_X11_passTo) (pj_as [(2, pe_X11_passTo_2 (pl_X11_passTo_2 fu n)), (62, pe_X11_passTo_62 (pl_X11_passTo_62 fu (pl_X11_passTo_2 fu n))), (147, pe_X11_passTo_147 (pl_X11_passTo_147 fu))]) 60) [(2, .iload_n 3, 1), (3, .ldc 121, 2), (5, .if_icmp .ge 142, 3)] 2 [(0, pj_O (0, 0)), (1, pj_L a1), (3, pj_I a3)] [] (s, l, x, y) := rfl
set_option maxRecDepth 100000 in
theorem pq_X11_passTo_m (fu : Nat)  (a1 : Int64) (s : Nat → Int32) (l : Nat → Int64) (x : Nat → Int32) (y : Nat → Int64) : po_X11_passTo fu a1 s l x y = pj_bl px_X11_passTo (pj_rn px_X11_passTo (pj_as pk_X11_passTo) (pj_as [(2, pe_X11_passTo_2 (pl_X11_passTo_2 fu fu))]) 60) [(0, .iconst 0, 1), (1, .istore_n 3, 1)] 0 [(0, pj_O (0, 0)), (1, pj_L a1)] [] (s, l, x, y) := rfl
theorem pu_X11_passTo_2 {lf : pj_Z → mj_M} {a : Unit × pj_Z} (f : Int64 → Int32 → pj_F (Unit × pj_Z)) (hf : ∀ (a1 : Int64) (a3 : Int32) (s : Nat → Int32) (l : Nat → Int64) (x : Nat → Int32) (y : Nat → Int64), f a1 a3 s l x y = some a → pm_Gd 6 11053 ie_X11_passTo.1 pm_rU lf 2 [(0, .ref 0), (1, .long a1), (3, .int a3)] [] (s, l, x, y) a) : pm_Ex 6 11053 ie_X11_passTo.1 pm_rU lf a 2 (pe_X11_passTo_2 f) := by
  intro lv st z hd h
  obtain ⟨g0, h⟩ := pj_xr_inv h
  obtain ⟨a1, g1, h⟩ := pj_xl_inv h
  obtain ⟨a3, g3, h⟩ := pj_xi_inv h
  obtain ⟨e9, h⟩ := pj_pe_inv h
  rw [e9]
  exact mj_wp_sub (mj_sub_cons g0 (mj_sub_cons g1 (mj_sub_cons g3 (mj_sub_nil hd)))) (hf _ _ _ _ _ _ h)
theorem pu_X11_passTo_62 {lf : pj_Z → mj_M} {a : Unit × pj_Z} (f : Int64 → Int32 → Int64 → Int32 → Int64 → pj_F (Unit × pj_Z)) (hf : ∀ (a1 : Int64) (a3 : Int32) (a4 : Int64) (a6 : Int32) (b0 : Int64) (s : Nat → Int32) (l : Nat → Int64) (x : Nat → Int32) (y : Nat → Int64), f a1 a3 a4 a6 b0 s l x y = some a → pm_Gd 6 11053 ie_X11_passTo.1 pm_rU lf 62 [(0, .ref 0), (1, .long a1), (3, .int a3), (4, .long a4), (6, .int a6)] [.long b0] (s, l, x, y) a) : pm_Ex 6 11053 ie_X11_passTo.1 pm_rU lf a 62 (pe_X11_passTo_62 f) := by
  intro lv st z hd h
  obtain ⟨g0, h⟩ := pj_xr_inv h
  obtain ⟨a1, g1, h⟩ := pj_xl_inv h
  obtain ⟨a3, g3, h⟩ := pj_xi_inv h
  obtain ⟨a4, g4, h⟩ := pj_xl_inv h
  obtain ⟨a6, g6, h⟩ := pj_xi_inv h
  obtain ⟨b0, r0, e0, h⟩ := pj_pl_inv h
  obtain ⟨e9, h⟩ := pj_pe_inv h
  rw [e0, e9]
  exact mj_wp_sub (mj_sub_cons g0 (mj_sub_cons g1 (mj_sub_cons g3 (mj_sub_cons g4 (mj_sub_cons g6 (mj_sub_nil hd)))))) (hf _ _ _ _ _ _ _ _ _ h)
theorem pu_X11_passTo_77 {lf : pj_Z → mj_M} {a : Unit × pj_Z} (f : Int64 → Int32 → Int64 → Int32 → Int64 → Int32 → pj_F (Unit × pj_Z)) (hf : ∀ (a1 : Int64) (a3 : Int32) (a4 : Int64) (a6 : Int32) (a7 : Int64) (b0 : Int32) (s : Nat → Int32) (l : Nat → Int64) (x : Nat → Int32) (y : Nat → Int64), f a1 a3 a4 a6 a7 b0 s l x y = some a → pm_Gd 6 11053 ie_X11_passTo.1 pm_rU lf 77 [(0, .ref 0), (1, .long a1), (3, .int a3), (4, .long a4), (6, .int a6), (7, .long a7)] [.int b0] (s, l, x, y) a) : pm_Ex 6 11053 ie_X11_passTo.1 pm_rU lf a 77 (pe_X11_passTo_77 f) := by
  intro lv st z hd h
  obtain ⟨g0, h⟩ := pj_xr_inv h
  obtain ⟨a1, g1, h⟩ := pj_xl_inv h
  obtain ⟨a3, g3, h⟩ := pj_xi_inv h
  obtain ⟨a4, g4, h⟩ := pj_xl_inv h
  obtain ⟨a6, g6, h⟩ := pj_xi_inv h
  obtain ⟨a7, g7, h⟩ := pj_xl_inv h
  obtain ⟨b0, r0, e0, h⟩ := pj_pi_inv h
  obtain ⟨e9, h⟩ := pj_pe_inv h
  rw [e0, e9]
  exact mj_wp_sub (mj_sub_cons g0 (mj_sub_cons g1 (mj_sub_cons g3 (mj_sub_cons g4 (mj_sub_cons g6 (mj_sub_cons g7 (mj_sub_nil hd))))))) (hf _ _ _ _ _ _ _ _ _ _ h)
theorem pu_X11_passTo_91 {lf : pj_Z → mj_M} {a : Unit × pj_Z} (f : Int64 → Int32 → Int64 → Int32 → Int64 → Int32 → Int64 → pj_F (Unit × pj_Z)) (hf : ∀ (a1 : Int64) (a3 : Int32) (a4 : Int64) (a6 : Int32) (a7 : Int64) (a9 : Int32) (b0 : Int64) (s : Nat → Int32) (l : Nat → Int64) (x : Nat → Int32) (y : Nat → Int64), f a1 a3 a4 a6 a7 a9 b0 s l x y = some a → pm_Gd 6 11053 ie_X11_passTo.1 pm_rU lf 91 [(0, .ref 0), (1, .long a1), (3, .int a3), (4, .long a4), (6, .int a6), (7, .long a7), (9, .int a9)] [.long b0] (s, l, x, y) a) : pm_Ex 6 11053 ie_X11_passTo.1 pm_rU lf a 91 (pe_X11_passTo_91 f) := by
  intro lv st z hd h
  obtain ⟨g0, h⟩ := pj_xr_inv h
  obtain ⟨a1, g1, h⟩ := pj_xl_inv h
  obtain ⟨a3, g3, h⟩ := pj_xi_inv h
  obtain ⟨a4, g4, h⟩ := pj_xl_inv h
  obtain ⟨a6, g6, h⟩ := pj_xi_inv h
  obtain ⟨a7, g7, h⟩ := pj_xl_inv h
  obtain ⟨a9, g9, h⟩ := pj_xi_inv h
  obtain ⟨b0, r0, e0, h⟩ := pj_pl_inv h
  obtain ⟨e9, h⟩ := pj_pe_inv h
  rw [e0, e9]
  exact mj_wp_sub (mj_sub_cons g0 (mj_sub_cons g1 (mj_sub_cons g3 (mj_sub_cons g4 (mj_sub_cons g6 (mj_sub_cons g7 (mj_sub_cons g9 (mj_sub_nil hd)))))))) (hf _ _ _ _ _ _ _ _ _ _ _ h)
theorem pu_X11_passTo_141 {lf : pj_Z → mj_M} {a : Unit × pj_Z} (f : Int64 → Int32 → pj_F (Unit × pj_Z)) (hf : ∀ (a1 : Int64) (a3 : Int32) (s : Nat → Int32) (l : Nat → Int64) (x : Nat → Int32) (y : Nat → Int64), f a1 a3 s l x y = some a → pm_Gd 6 11053 ie_X11_passTo.1 pm_rU lf 141 [(0, .ref 0), (1, .long a1), (3, .int a3)] [] (s, l, x, y) a) : pm_Ex 6 11053 ie_X11_passTo.1 pm_rU lf a 141 (pe_X11_passTo_141 f) := by
  intro lv st z hd h
  obtain ⟨g0, h⟩ := pj_xr_inv h
  obtain ⟨a1, g1, h⟩ := pj_xl_inv h
  obtain ⟨a3, g3, h⟩ := pj_xi_inv h
  obtain ⟨e9, h⟩ := pj_pe_inv h
  rw [e9]
  exact mj_wp_sub (mj_sub_cons g0 (mj_sub_cons g1 (mj_sub_cons g3 (mj_sub_nil hd)))) (hf _ _ _ _ _ _ h)
theorem pu_X11_passTo_147 {lf : pj_Z → mj_M} {a : Unit × pj_Z} (f : Int64 → pj_F (Unit × pj_Z)) (hf : ∀ (a1 : Int64) (s : Nat → Int32) (l : Nat → Int64) (x : Nat → Int32) (y : Nat → Int64), f a1 s l x y = some a → pm_Gd 6 11053 ie_X11_passTo.1 pm_rU lf 147 [(0, .ref 0), (1, .long a1)] [] (s, l, x, y) a) : pm_Ex 6 11053 ie_X11_passTo.1 pm_rU lf a 147 (pe_X11_passTo_147 f) := by
  intro lv st z hd h
  obtain ⟨g0, h⟩ := pj_xr_inv h
  obtain ⟨a1, g1, h⟩ := pj_xl_inv h
  obtain ⟨e9, h⟩ := pj_pe_inv h
  rw [e9]
  exact mj_wp_sub (mj_sub_cons g0 (mj_sub_cons g1 (mj_sub_nil hd))) (hf _ _ _ _ _ h)
set_option maxRecDepth 100000 in
theorem pz_X11_passTo {lf : pj_Z → mj_M} (hT : pj_Lt pj_TC lf) : pj_Cok ic_P (mj_R ic_P 6) 11053 ie_X11_passTo.1 (pm_OK lf pm_rU) lf px_X11_passTo := by
  exact pm_cok (c := px_X11_passTo) (pm_part hT (pj_as_all (p := fun b e => pj_TC b = some e) (List.forall_mem_cons.mpr ⟨rfl, (List.forall_mem_cons.mpr ⟨rfl, (List.forall_mem_cons.mpr ⟨rfl, (List.forall_mem_cons.mpr ⟨rfl, (List.forall_mem_cons.mpr ⟨rfl, (fun _ h => by cases h)⟩)⟩)⟩)⟩)⟩))) (pm_in_ok (L := [(10, 11, 0, 2, true), (33, 11, 3, 2, true), (86, 11, 11, 1, false), (90, 11, 12, 0, false), (287, 4, 0, 2, true), (504, 6, 0, 2, true)]) (f := mj_pF ic_P 11053) (by decide +kernel)) (pm_inI_ok (L := [(121, 1000000)]) (f := mj_pK ic_P 11053) (by decide +kernel)) (pm_inL_ok (L := [(497, 10000), (502, 9223372036854775807)]) (f := mj_pL ic_P 11053) (by decide +kernel)) (fun _ _ h => by cases h) rfl rfl ⟨by decide, rfl⟩ pm_mU (pj_as_all (p := pm_Cl 6 11053 ie_X11_passTo.1 lf (pm_OK lf pm_rU)) (List.forall_mem_cons.mpr ⟨fun _ _ lv st z K a hK h => pc_X6_nextEvent hT (by decide) (ix := 499) rfl rfl hK h, (List.forall_mem_cons.mpr ⟨fun _ _ lv st z K a hK h => pc_X6_happen hT (by decide) (ix := 508) rfl rfl hK h, (List.forall_mem_cons.mpr ⟨fun _ _ lv st z K a hK h => pc_X11_oneLoop hT (by decide) (ix := 512) rfl rfl hK h, (fun _ h => by cases h)⟩)⟩)⟩)) (fun _ h => by cases h)
set_option maxRecDepth 100000 in
theorem pb_X11_passTo : pm_bks ie_X11_passTo.1.2.2.2.2 pk_X11_passTo = true := by decide +kernel
set_option maxRecDepth 100000 in
theorem pg_X11_passTo_141 {fu : Nat} {lf : pj_Z → mj_M} (hT : pj_Lt pj_TC lf) {k2 : Int64 → Int32 → pj_F (Unit × pj_Z)} (hk2 : ∀ (a1 : Int64) (a3 : Int32) (s : Nat → Int32) (l : Nat → Int64) (x : Nat → Int32) (y : Nat → Int64) (a : Unit × pj_Z), k2 a1 a3 s l x y = some a → pm_Gd 6 11053 ie_X11_passTo.1 pm_rU lf 2 [(0, .ref 0), (1, .long a1), (3, .int a3)] [] (s, l, x, y) a) : ∀ (a1 : Int64) (a3 : Int32) (s : Nat → Int32) (l : Nat → Int64) (x : Nat → Int32) (y : Nat → Int64) (a : Unit × pj_Z), pl_X11_passTo_141 fu k2 a1 a3 s l x y = some a → pm_Gd 6 11053 ie_X11_passTo.1 pm_rU lf 141 [(0, .ref 0), (1, .long a1), (3, .int a3)] [] (s, l, x, y) a := by
  intro a1 a3 s l x y a h
  exact pm_run ((pq_X11_passTo_141 fu k2 a1 a3 s l x y).symm.trans h) (pz_X11_passTo hT) (pm_bks_ok pb_X11_passTo) (pm_bks_ok pb_X11_passTo _ _ rfl) (pm_ndb_ok rfl) (pj_as_all (p := pm_Ex 6 11053 ie_X11_passTo.1 pm_rU lf a) (List.forall_mem_cons.mpr ⟨pu_X11_passTo_2 _ (fun c0 c1 s l x y h => hk2 c0 c1 s l x y _ h), (fun _ h => by cases h)⟩))
set_option maxRecDepth 100000 in
theorem pg_X11_passTo_147 {fu : Nat} {lf : pj_Z → mj_M} (hT : pj_Lt pj_TC lf) : ∀ (a1 : Int64) (s : Nat → Int32) (l : Nat → Int64) (x : Nat → Int32) (y : Nat → Int64) (a : Unit × pj_Z), pl_X11_passTo_147 fu a1 s l x y = some a → pm_Gd 6 11053 ie_X11_passTo.1 pm_rU lf 147 [(0, .ref 0), (1, .long a1)] [] (s, l, x, y) a := by
  intro a1 s l x y a h
  exact pm_run ((pq_X11_passTo_147 fu a1 s l x y).symm.trans h) (pz_X11_passTo hT) (pm_bks_ok pb_X11_passTo) (pm_bks_ok pb_X11_passTo _ _ rfl) (pm_ndb_ok rfl) (fun _ _ h => by cases h)
set_option maxRecDepth 100000 in
theorem pg_X11_passTo_91 {fu : Nat} {lf : pj_Z → mj_M} (hT : pj_Lt pj_TC lf) {k2 : Int64 → Int32 → pj_F (Unit × pj_Z)} (hk2 : ∀ (a1 : Int64) (a3 : Int32) (s : Nat → Int32) (l : Nat → Int64) (x : Nat → Int32) (y : Nat → Int64) (a : Unit × pj_Z), k2 a1 a3 s l x y = some a → pm_Gd 6 11053 ie_X11_passTo.1 pm_rU lf 2 [(0, .ref 0), (1, .long a1), (3, .int a3)] [] (s, l, x, y) a) : ∀ (a1 : Int64) (a3 : Int32) (a4 : Int64) (a6 : Int32) (a7 : Int64) (a9 : Int32) (b0 : Int64) (s : Nat → Int32) (l : Nat → Int64) (x : Nat → Int32) (y : Nat → Int64) (a : Unit × pj_Z), pl_X11_passTo_91 fu k2 a1 a3 a4 a6 a7 a9 b0 s l x y = some a → pm_Gd 6 11053 ie_X11_passTo.1 pm_rU lf 91 [(0, .ref 0), (1, .long a1), (3, .int a3), (4, .long a4), (6, .int a6), (7, .long a7), (9, .int a9)] [.long b0] (s, l, x, y) a := by
  intro a1 a3 a4 a6 a7 a9 b0 s l x y a h
  exact pm_run ((pq_X11_passTo_91 fu k2 a1 a3 a4 a6 a7 a9 b0 s l x y).symm.trans h) (pz_X11_passTo hT) (pm_bks_ok pb_X11_passTo) (pm_bks_ok pb_X11_passTo _ _ rfl) (pm_ndb_ok rfl) (pj_as_all (p := pm_Ex 6 11053 ie_X11_passTo.1 pm_rU lf a) (List.forall_mem_cons.mpr ⟨pu_X11_passTo_2 _ (fun c0 c1 s l x y h => hk2 c0 c1 s l x y _ h), (List.forall_mem_cons.mpr ⟨pu_X11_passTo_141 _ (fun c0 c1 s l x y h => pg_X11_passTo_141 hT hk2 c0 c1 s l x y _ h), (List.forall_mem_cons.mpr ⟨pu_X11_passTo_147 _ (fun c0 s l x y h => pg_X11_passTo_147 hT c0 s l x y _ h), (fun _ h => by cases h)⟩)⟩)⟩))
set_option maxRecDepth 100000 in
theorem pg_X11_passTo_77 {fu : Nat} {lf : pj_Z → mj_M} (hT : pj_Lt pj_TC lf) {k2 : Int64 → Int32 → pj_F (Unit × pj_Z)} (hk2 : ∀ (a1 : Int64) (a3 : Int32) (s : Nat → Int32) (l : Nat → Int64) (x : Nat → Int32) (y : Nat → Int64) (a : Unit × pj_Z), k2 a1 a3 s l x y = some a → pm_Gd 6 11053 ie_X11_passTo.1 pm_rU lf 2 [(0, .ref 0), (1, .long a1), (3, .int a3)] [] (s, l, x, y) a) : ∀ (a1 : Int64) (a3 : Int32) (a4 : Int64) (a6 : Int32) (a7 : Int64) (b0 : Int32) (s : Nat → Int32) (l : Nat → Int64) (x : Nat → Int32) (y : Nat → Int64) (a : Unit × pj_Z), pl_X11_passTo_77 fu k2 a1 a3 a4 a6 a7 b0 s l x y = some a → pm_Gd 6 11053 ie_X11_passTo.1 pm_rU lf 77 [(0, .ref 0), (1, .long a1), (3, .int a3), (4, .long a4), (6, .int a6), (7, .long a7)] [.int b0] (s, l, x, y) a := by
  intro a1 a3 a4 a6 a7 b0 s l x y a h
  exact pm_run ((pq_X11_passTo_77 fu k2 a1 a3 a4 a6 a7 b0 s l x y).symm.trans h) (pz_X11_passTo hT) (pm_bks_ok pb_X11_passTo) (pm_bks_ok pb_X11_passTo _ _ rfl) (pm_ndb_ok rfl) (pj_as_all (p := pm_Ex 6 11053 ie_X11_passTo.1 pm_rU lf a) (List.forall_mem_cons.mpr ⟨pu_X11_passTo_2 _ (fun c0 c1 s l x y h => hk2 c0 c1 s l x y _ h), (List.forall_mem_cons.mpr ⟨pu_X11_passTo_91 _ (fun c0 c1 c2 c3 c4 c5 c6 s l x y h => pg_X11_passTo_91 hT hk2 c0 c1 c2 c3 c4 c5 c6 s l x y _ h), (fun _ h => by cases h)⟩)⟩))
set_option maxRecDepth 100000 in
theorem pg_X11_passTo_62 {fu : Nat} {lf : pj_Z → mj_M} (hT : pj_Lt pj_TC lf) {k2 : Int64 → Int32 → pj_F (Unit × pj_Z)} (hk2 : ∀ (a1 : Int64) (a3 : Int32) (s : Nat → Int32) (l : Nat → Int64) (x : Nat → Int32) (y : Nat → Int64) (a : Unit × pj_Z), k2 a1 a3 s l x y = some a → pm_Gd 6 11053 ie_X11_passTo.1 pm_rU lf 2 [(0, .ref 0), (1, .long a1), (3, .int a3)] [] (s, l, x, y) a) : ∀ (a1 : Int64) (a3 : Int32) (a4 : Int64) (a6 : Int32) (b0 : Int64) (s : Nat → Int32) (l : Nat → Int64) (x : Nat → Int32) (y : Nat → Int64) (a : Unit × pj_Z), pl_X11_passTo_62 fu k2 a1 a3 a4 a6 b0 s l x y = some a → pm_Gd 6 11053 ie_X11_passTo.1 pm_rU lf 62 [(0, .ref 0), (1, .long a1), (3, .int a3), (4, .long a4), (6, .int a6)] [.long b0] (s, l, x, y) a := by
  intro a1 a3 a4 a6 b0 s l x y a h
  exact pm_run ((pq_X11_passTo_62 fu k2 a1 a3 a4 a6 b0 s l x y).symm.trans h) (pz_X11_passTo hT) (pm_bks_ok pb_X11_passTo) (pm_bks_ok pb_X11_passTo _ _ rfl) (pm_ndb_ok rfl) (pj_as_all (p := pm_Ex 6 11053 ie_X11_passTo.1 pm_rU lf a) (List.forall_mem_cons.mpr ⟨pu_X11_passTo_2 _ (fun c0 c1 s l x y h => hk2 c0 c1 s l x y _ h), (List.forall_mem_cons.mpr ⟨pu_X11_passTo_77 _ (fun c0 c1 c2 c3 c4 c5 s l x y h => pg_X11_passTo_77 hT hk2 c0 c1 c2 c3 c4 c5 s l x y _ h), (fun _ h => by cases h)⟩)⟩))
set_option maxRecDepth 100000 in
theorem pg_X11_passTo_2 {fu : Nat} {lf : pj_Z → mj_M} (hT : pj_Lt pj_TC lf) : ∀ (n : Nat), ∀ (a1 : Int64) (a3 : Int32) (s : Nat → Int32) (l : Nat → Int64) (x : Nat → Int32) (y : Nat → Int64) (a : Unit × pj_Z), pl_X11_passTo_2 fu n a1 a3 s l x y = some a → pm_Gd 6 11053 ie_X11_passTo.1 pm_rU lf 2 [(0, .ref 0), (1, .long a1), (3, .int a3)] [] (s, l, x, y) a := by
  intro n
  induction n with
  | zero => intro a1 a3 s l x y a h; cases (show (none : Option (Unit × pj_Z)) = some a from h)
  | succ n ih =>
    intro a1 a3 s l x y a h
    exact pm_run ((pq_X11_passTo_2 fu n a1 a3 s l x y).symm.trans h) (pz_X11_passTo hT) (pm_bks_ok pb_X11_passTo) (pm_bks_ok pb_X11_passTo _ _ rfl) (pm_ndb_ok rfl) (pj_as_all (p := pm_Ex 6 11053 ie_X11_passTo.1 pm_rU lf a) (List.forall_mem_cons.mpr ⟨pu_X11_passTo_2 _ (fun c0 c1 s l x y h => ih c0 c1 s l x y _ h), (List.forall_mem_cons.mpr ⟨pu_X11_passTo_62 _ (fun c0 c1 c2 c3 c4 s l x y h => pg_X11_passTo_62 hT (fun a1 a3 s l x y a h => ih a1 a3 s l x y a h) c0 c1 c2 c3 c4 s l x y _ h), (List.forall_mem_cons.mpr ⟨pu_X11_passTo_147 _ (fun c0 s l x y h => pg_X11_passTo_147 hT c0 s l x y _ h), (fun _ h => by cases h)⟩)⟩)⟩))
set_option maxRecDepth 100000 in
theorem pm_X11_passTo {lf : pj_Z → mj_M} (hT : pj_Lt pj_TC lf) (a1 : Int64) (s : Nat → Int32) (l : Nat → Int64) (x : Nat → Int32) (y : Nat → Int64) (a : Unit × pj_Z) (h : pf_X11_passTo a1 s l x y = some a) : mj_R ic_P 7 11053 [.ref 0, .long a1] (lf (s, l, x, y)) (pm_rU a.1) (lf a.2) := by
  refine pm_main (Y := ie_X11_passTo.1) rfl (Nat.le_of_ble_eq_true rfl) ?_
  exact pm_run ((pq_X11_passTo_m 1000001 a1 s l x y).symm.trans h) (pz_X11_passTo hT) (pm_bks_ok pb_X11_passTo) (pm_bks_ok pb_X11_passTo _ _ rfl) (pm_ndb_ok rfl) (pj_as_all (p := pm_Ex 6 11053 ie_X11_passTo.1 pm_rU lf a) (List.forall_mem_cons.mpr ⟨pu_X11_passTo_2 _ (fun c0 c1 s l x y h => pg_X11_passTo_2 hT _ c0 c1 s l x y _ h), (fun _ h => by cases h)⟩))
abbrev ph_X11_passTo {A : Type} : List pj_V → pj_Z → (List pj_V → pj_Z → Option A) → Option A := fun st z K => pj_pl st fun a1 st => pj_pr st 0 0 fun st => pj_ps st (pj_b (pf_X11_passTo a1 z.1 z.2.1 z.2.2.1 z.2.2.2) fun r s l x y => K st (s, l, x, y))
set_option maxRecDepth 100000 in
theorem pc_X11_passTo {A : Type} {OK : A → Option Value → mj_M → Prop} {d j pc ix : Nat} {Y : mj_Y} {lf : pj_Z → mj_M} (hT : pj_Lt pj_TC lf) (hd : 7 ≤ d) (hl : mj_lk Y.2.2.2.2 pc = some (.invokevirtual ix, 3)) (hg : mj_pG ic_P j ix = some (11053, 1, some 11)) {lv : List (Nat × Value)} {st : List pj_V} {z : pj_Z} {K : List pj_V → pj_Z → Option A} {a : A} (hK : ∀ st z, K st z = some a → pj_Gd ic_P (mj_R ic_P d) j Y OK lf (pc + 3) lv (pj_es st) z a) (h : ph_X11_passTo st z K = some a) : pj_Gd ic_P (mj_R ic_P d) j Y OK lf pc lv (pj_es st) z a := by
  obtain ⟨a1, r1, e1, h⟩ := pj_pl_inv h
  obtain ⟨r0, e0, h⟩ := pj_pr_inv h
  obtain ⟨hs, h⟩ := pj_ps_inv h
  obtain ⟨q, hq, h⟩ := pj_b_inv h
  exact pm_cv (o := 0) hl hg [.long a1] rfl (by rw [e1, e0]; rfl) hs (by decide) ((hT.2 0 _ rfl).1.2 z 0 (by decide)) (pm_rU q.1) hd (pm_X11_passTo hT a1 z.1 z.2.1 z.2.2.1 z.2.2.2 q hq) rfl (hK _ _ h)
abbrev pe_X11_pass_10 (f : pj_F (Int32 × pj_Z)) : pj_K (Int32 × pj_Z) := fun lv st z => pj_pe st (f  z.1 z.2.1 z.2.2.1 z.2.2.2)
abbrev px_X11_pass : pj_C (Int32 × pj_Z) := ((pj_as [(0, 11, 17, 1, 0, true, 0, [(2, 1), (2, 20), (2, 58), (2, 68), (2, 82), (2, 83), (2, 85), (2, 96), (2, 102), (2, 106), (2, 122), (0, 93), (0, 94), (0, 95), (1, 1), (1, 2), (0, 96)]), (68, 6, 19, 1, 0, true, 0, [(2, 69), (2, 70), (2, 71), (2, 72), (0, 57), (0, 58), (2, 73), (2, 74), (2, 75), (2, 76), (2, 77), (2, 78), (1, 11), (0, 59), (0, 60), (0, 61), (2, 79), (2, 80), (2, 81)])]), (pj_as [(33, 11, 3, 2, true), (86, 11, 11, 1, false), (114, 6, 12, 0, false)]), (pj_as [(106, 2000000)]), (fun _ => none), (fun _ => none), ic_X, 3, 1, pj_mI, (pj_as [(36, ph_X11_passTo)]), fun _ => false)
abbrev pk_X11_pass : List (Nat × List (Nat × Instr × Nat)) := [(0, [(0, .iload_n 1, 1), (1, .ifCond .lt 9, 3)]), (4, [(4, .iload_n 1, 1), (5, .ldc 106, 2), (7, .if_icmp .le 13, 3)]), (10, [(10, .new 107, 3)]), (20, [(20, .aload_n 0, 1), (21, .getfield 33, 3), (24, .getfield 114, 3), (27, .istore_n 2, 1), (28, .aload_n 0, 1), (29, .aload_n 0, 1), (30, .getfield 86, 3), (33, .iload_n 1, 1), (34, .i2l, 1), (35, .ladd, 1), (36, .invokevirtual 117, 3), (39, .aload_n 0, 1), (40, .getfield 33, 3), (43, .getfield 114, 3), (46, .iload_n 2, 1), (47, .isub, 1), (48, .ireturn, 1)])]
set_option maxRecDepth 100000 in
theorem pq_X11_pass_10   (s : Nat → Int32) (l : Nat → Int64) (x : Nat → Int32) (y : Nat → Int64) : pl_X11_pass_10 s l x y = pj_bl px_X11_pass (pj_rn px_X11_pass (pj_as pk_X11_pass) (fun _ => none) 60) [(10, .new 107, 3)] 10 [] [] (s, l, x, y) := rfl
set_option maxRecDepth 100000 in
theorem pq_X11_pass_m  (a1 : Int32) (s : Nat → Int32) (l : Nat → Int64) (x : Nat → Int32) (y : Nat → Int64) : pf_X11_pass a1 s l x y = pj_bl px_X11_pass (pj_rn px_X11_pass (pj_as pk_X11_pass) (pj_as [(10, pe_X11_pass_10 (pl_X11_pass_10))]) 60) [(0, .iload_n 1, 1), (1, .ifCond .lt 9, 3)] 0 [(0, pj_O (0, 0)), (1, pj_I a1)] [] (s, l, x, y) := rfl
theorem pu_X11_pass_10 {lf : pj_Z → mj_M} {a : Int32 × pj_Z} (f : pj_F (Int32 × pj_Z)) (hf : ∀  (s : Nat → Int32) (l : Nat → Int64) (x : Nat → Int32) (y : Nat → Int64), f  s l x y = some a → pm_Gd 7 11002 ie_X11_pass.1 pm_rI lf 10 [] [] (s, l, x, y) a) : pm_Ex 7 11002 ie_X11_pass.1 pm_rI lf a 10 (pe_X11_pass_10 f) := by
  intro lv st z hd h
  obtain ⟨e9, h⟩ := pj_pe_inv h
  rw [e9]
  exact mj_wp_sub (mj_sub_nil hd) (hf  _ _ _ _ h)
set_option maxRecDepth 100000 in
theorem pz_X11_pass {lf : pj_Z → mj_M} (hT : pj_Lt pj_TC lf) : pj_Cok ic_P (mj_R ic_P 7) 11002 ie_X11_pass.1 (pm_OK lf pm_rI) lf px_X11_pass := by
  exact pm_cok (c := px_X11_pass) (pm_part hT (pj_as_all (p := fun b e => pj_TC b = some e) (List.forall_mem_cons.mpr ⟨rfl, (List.forall_mem_cons.mpr ⟨rfl, (fun _ h => by cases h)⟩)⟩))) (pm_in_ok (L := [(33, 11, 3, 2, true), (86, 11, 11, 1, false), (114, 6, 12, 0, false)]) (f := mj_pF ic_P 11002) (by decide +kernel)) (pm_inI_ok (L := [(106, 2000000)]) (f := mj_pK ic_P 11002) (by decide +kernel)) (fun _ _ h => by cases h) (fun _ _ h => by cases h) rfl rfl ⟨by decide, rfl⟩ pm_mI (pj_as_all (p := pm_Cl 7 11002 ie_X11_pass.1 lf (pm_OK lf pm_rI)) (List.forall_mem_cons.mpr ⟨fun _ _ lv st z K a hK h => pc_X11_passTo hT (by decide) (ix := 117) rfl rfl hK h, (fun _ h => by cases h)⟩)) (fun _ h => by cases h)
set_option maxRecDepth 100000 in
theorem pb_X11_pass : pm_bks ie_X11_pass.1.2.2.2.2 pk_X11_pass = true := by decide +kernel
set_option maxRecDepth 100000 in
theorem pg_X11_pass_10 {lf : pj_Z → mj_M} (hT : pj_Lt pj_TC lf) : ∀  (s : Nat → Int32) (l : Nat → Int64) (x : Nat → Int32) (y : Nat → Int64) (a : Int32 × pj_Z), pl_X11_pass_10 s l x y = some a → pm_Gd 7 11002 ie_X11_pass.1 pm_rI lf 10 [] [] (s, l, x, y) a := by
  intro  s l x y a h
  exact pm_run ((pq_X11_pass_10   s l x y).symm.trans h) (pz_X11_pass hT) (pm_bks_ok pb_X11_pass) (pm_bks_ok pb_X11_pass _ _ rfl) (pm_ndb_ok rfl) (fun _ _ h => by cases h)
set_option maxRecDepth 100000 in
theorem pm_X11_pass {lf : pj_Z → mj_M} (hT : pj_Lt pj_TC lf) (a1 : Int32) (s : Nat → Int32) (l : Nat → Int64) (x : Nat → Int32) (y : Nat → Int64) (a : Int32 × pj_Z) (h : pf_X11_pass a1 s l x y = some a) : mj_R ic_P 8 11002 [.ref 0, .int a1] (lf (s, l, x, y)) (pm_rI a.1) (lf a.2) := by
  refine pm_main (Y := ie_X11_pass.1) rfl (Nat.le_of_ble_eq_true rfl) ?_
  exact pm_run ((pq_X11_pass_m a1 s l x y).symm.trans h) (pz_X11_pass hT) (pm_bks_ok pb_X11_pass) (pm_bks_ok pb_X11_pass _ _ rfl) (pm_ndb_ok rfl) (pj_as_all (p := pm_Ex 7 11002 ie_X11_pass.1 pm_rI lf a) (List.forall_mem_cons.mpr ⟨pu_X11_pass_10 _ (fun  s l x y h => pg_X11_pass_10 hT  s l x y _ h), (fun _ h => by cases h)⟩))
abbrev ph_X11_pass {A : Type} : List pj_V → pj_Z → (List pj_V → pj_Z → Option A) → Option A := fun st z K => pj_pi st fun a1 st => pj_pr st 0 0 fun st => pj_ps st (pj_b (pf_X11_pass a1 z.1 z.2.1 z.2.2.1 z.2.2.2) fun r s l x y => K (pj_I r :: st) (s, l, x, y))
set_option maxRecDepth 100000 in
theorem pc_X11_pass {A : Type} {OK : A → Option Value → mj_M → Prop} {d j pc ix : Nat} {Y : mj_Y} {lf : pj_Z → mj_M} (hT : pj_Lt pj_TC lf) (hd : 8 ≤ d) (hl : mj_lk Y.2.2.2.2 pc = some (.invokevirtual ix, 3)) (hg : mj_pG ic_P j ix = some (11002, 1, some 11)) {lv : List (Nat × Value)} {st : List pj_V} {z : pj_Z} {K : List pj_V → pj_Z → Option A} {a : A} (hK : ∀ st z, K st z = some a → pj_Gd ic_P (mj_R ic_P d) j Y OK lf (pc + 3) lv (pj_es st) z a) (h : ph_X11_pass st z K = some a) : pj_Gd ic_P (mj_R ic_P d) j Y OK lf pc lv (pj_es st) z a := by
  obtain ⟨a1, r1, e1, h⟩ := pj_pi_inv h
  obtain ⟨r0, e0, h⟩ := pj_pr_inv h
  obtain ⟨hs, h⟩ := pj_ps_inv h
  obtain ⟨q, hq, h⟩ := pj_b_inv h
  exact pm_cv (o := 0) hl hg [.int a1] rfl (by rw [e1, e0]; rfl) hs (by decide) ((hT.2 0 _ rfl).1.2 z 0 (by decide)) (pm_rI q.1) hd (pm_X11_pass hT a1 z.1 z.2.1 z.2.2.1 z.2.2.2 q hq) rfl (hK _ _ h)
abbrev px_J9_max_f86c9 : pj_C (Int64 × pj_Z) := ((fun _ => none), (fun _ => none), (fun _ => none), (fun _ => none), (fun _ => none), ic_X, 4, 3, pj_mL, (fun _ => none), fun _ => false)
abbrev pk_J9_max_f86c9 : List (Nat × List (Nat × Instr × Nat)) := [(0, [(0, .lload_n 0, 1), (1, .lload_n 2, 1), (2, .lcmp, 1), (3, .ifCond .lt 7, 3)]), (6, [(6, .lload_n 0, 1), (7, .goto 4, 3)]), (10, [(10, .lload_n 2, 1)]), (11, [(11, .lreturn, 1)])]
set_option maxRecDepth 100000 in
theorem pq_J9_max_f86c9_m  (a0 : Int64) (a2 : Int64) (s : Nat → Int32) (l : Nat → Int64) (x : Nat → Int32) (y : Nat → Int64) : pf_J9_max_f86c9 a0 a2 s l x y = pj_bl px_J9_max_f86c9 (pj_rn px_J9_max_f86c9 (pj_as pk_J9_max_f86c9) (fun _ => none) 60) [(0, .lload_n 0, 1), (1, .lload_n 2, 1), (2, .lcmp, 1), (3, .ifCond .lt 7, 3)] 0 [(0, pj_L a0), (2, pj_L a2)] [] (s, l, x, y) := rfl
set_option maxRecDepth 100000 in
theorem pz_J9_max_f86c9 {lf : pj_Z → mj_M} (hT : pj_Lt (fun _ => none) lf) : pj_Cok ic_P (mj_R ic_P 0) 29005 ie_J9_max_f86c9.1 (pm_OK lf pm_rL) lf px_J9_max_f86c9 := by
  exact pm_cok (c := px_J9_max_f86c9) hT (fun _ _ h => by cases h) (fun _ _ h => by cases h) (fun _ _ h => by cases h) (fun _ _ h => by cases h) rfl rfl ⟨by decide, rfl⟩ pm_mL (fun _ _ h => by cases h) (fun _ h => by cases h)
set_option maxRecDepth 100000 in
theorem pb_J9_max_f86c9 : pm_bks ie_J9_max_f86c9.1.2.2.2.2 pk_J9_max_f86c9 = true := by decide +kernel
set_option maxRecDepth 100000 in
theorem pm_J9_max_f86c9 {lf : pj_Z → mj_M} (hT : pj_Lt (fun _ => none) lf) (a0 : Int64) (a2 : Int64) (s : Nat → Int32) (l : Nat → Int64) (x : Nat → Int32) (y : Nat → Int64) (a : Int64 × pj_Z) (h : pf_J9_max_f86c9 a0 a2 s l x y = some a) : mj_R ic_P 1 29005 [.long a0, .long a2] (lf (s, l, x, y)) (pm_rL a.1) (lf a.2) := by
  refine pm_main (Y := ie_J9_max_f86c9.1) rfl (Nat.le_of_ble_eq_true rfl) ?_
  exact pm_run ((pq_J9_max_f86c9_m a0 a2 s l x y).symm.trans h) (pz_J9_max_f86c9 hT) (pm_bks_ok pb_J9_max_f86c9) (pm_bks_ok pb_J9_max_f86c9 _ _ rfl) (pm_ndb_ok rfl) (fun _ _ h => by cases h)
abbrev ph_J9_max_f86c9 {A : Type} : List pj_V → pj_Z → (List pj_V → pj_Z → Option A) → Option A := fun st z K => pj_pl st fun a2 st => pj_pl st fun a0 st => pj_ps st (pj_b (pf_J9_max_f86c9 a0 a2 z.1 z.2.1 z.2.2.1 z.2.2.2) fun r s l x y => K (pj_L r :: st) (s, l, x, y))
set_option maxRecDepth 100000 in
theorem pc_J9_max_f86c9 {A : Type} {OK : A → Option Value → mj_M → Prop} {d j pc ix : Nat} {Y : mj_Y} {lf : pj_Z → mj_M} (hT : pj_Lt (fun _ => none) lf) (hd : 1 ≤ d) (hl : mj_lk Y.2.2.2.2 pc = some (.invokestatic ix, 3)) (hg : mj_pG ic_P j ix = some (29005, 2, none)) {lv : List (Nat × Value)} {st : List pj_V} {z : pj_Z} {K : List pj_V → pj_Z → Option A} {a : A} (hK : ∀ st z, K st z = some a → pj_Gd ic_P (mj_R ic_P d) j Y OK lf (pc + 3) lv (pj_es st) z a) (h : ph_J9_max_f86c9 st z K = some a) : pj_Gd ic_P (mj_R ic_P d) j Y OK lf pc lv (pj_es st) z a := by
  obtain ⟨a2, r2, e2, h⟩ := pj_pl_inv h
  obtain ⟨a0, r0, e0, h⟩ := pj_pl_inv h
  obtain ⟨hs, h⟩ := pj_ps_inv h
  obtain ⟨q, hq, h⟩ := pj_b_inv h
  exact pm_cs hl hg [.long a0, .long a2] rfl (by rw [e2, e0]; rfl) hs (pm_rL q.1) hd (pm_J9_max_f86c9 hT a0 a2 z.1 z.2.1 z.2.2.1 z.2.2.2 q hq) rfl (hK _ _ h)
abbrev px_X2_passGap : pj_C (Unit × pj_Z) := ((pj_as [(58, 2, 19, 1, 0, true, 0, [(0, 19), (0, 20), (1, 4), (1, 5), (1, 6), (1, 7), (0, 21), (0, 22), (0, 23), (0, 24), (0, 25), (2, 59), (2, 63), (0, 26), (1, 8), (1, 9), (1, 10), (0, 27), (0, 28)])]), (pj_as [(30, 2, 2, 0, false), (36, 2, 4, 0, false), (54, 2, 10, 3, false)]), (fun _ => none), (pj_as [(123, 3)]), (fun _ => none), ic_X, 3, 0, pj_mU, (pj_as [(12, ph_J9_max_f86c9)]), fun _ => false)
abbrev pk_X2_passGap : List (Nat × List (Nat × Instr × Nat)) := [(0, [(0, .aload_n 0, 1), (1, .iconst 0, 1), (2, .putfield 36, 3), (5, .aload_n 0, 1), (6, .lconst 1, 1), (7, .lload_n 1, 1), (8, .ldc2_w 123, 3), (11, .ldiv, 1), (12, .invokestatic 91, 3), (15, .l2i, 1), (16, .putfield 30, 3), (19, .aload_n 0, 1), (20, .iconst 0, 1), (21, .putfield 54, 3), (24, .return_, 1)])]
set_option maxRecDepth 100000 in
theorem pq_X2_passGap_m  (a1 : Int64) (s : Nat → Int32) (l : Nat → Int64) (x : Nat → Int32) (y : Nat → Int64) : pf_X2_passGap a1 s l x y = pj_bl px_X2_passGap (pj_rn px_X2_passGap (pj_as pk_X2_passGap) (fun _ => none) 60) [(0, .aload_n 0, 1), (1, .iconst 0, 1), (2, .putfield 36, 3), (5, .aload_n 0, 1), (6, .lconst 1, 1), (7, .lload_n 1, 1), (8, .ldc2_w 123, 3), (11, .ldiv, 1), (12, .invokestatic 91, 3), (15, .l2i, 1), (16, .putfield 30, 3), (19, .aload_n 0, 1), (20, .iconst 0, 1), (21, .putfield 54, 3), (24, .return_, 1)] 0 [(0, pj_O (58, 0)), (1, pj_L a1)] [] (s, l, x, y) := rfl
set_option maxRecDepth 100000 in
theorem pz_X2_passGap {lf : pj_Z → mj_M} (hT : pj_Lt pj_TC lf) : pj_Cok ic_P (mj_R ic_P 1) 2009 ie_X2_passGap.1 (pm_OK lf pm_rU) lf px_X2_passGap := by
  exact pm_cok (c := px_X2_passGap) (pm_part hT (pj_as_all (p := fun b e => pj_TC b = some e) (List.forall_mem_cons.mpr ⟨rfl, (fun _ h => by cases h)⟩))) (pm_in_ok (L := [(30, 2, 2, 0, false), (36, 2, 4, 0, false), (54, 2, 10, 3, false)]) (f := mj_pF ic_P 2009) (by decide +kernel)) (fun _ _ h => by cases h) (pm_inL_ok (L := [(123, 3)]) (f := mj_pL ic_P 2009) (by decide +kernel)) (fun _ _ h => by cases h) rfl rfl ⟨by decide, rfl⟩ pm_mU (pj_as_all (p := pm_Cl 1 2009 ie_X2_passGap.1 lf (pm_OK lf pm_rU)) (List.forall_mem_cons.mpr ⟨fun _ _ lv st z K a hK h => pc_J9_max_f86c9 (pm_none hT) (by decide) (ix := 91) rfl rfl hK h, (fun _ h => by cases h)⟩)) (fun _ h => by cases h)
set_option maxRecDepth 100000 in
theorem pb_X2_passGap : pm_bks ie_X2_passGap.1.2.2.2.2 pk_X2_passGap = true := by decide +kernel
set_option maxRecDepth 100000 in
theorem pm_X2_passGap {lf : pj_Z → mj_M} (hT : pj_Lt pj_TC lf) (a1 : Int64) (s : Nat → Int32) (l : Nat → Int64) (x : Nat → Int32) (y : Nat → Int64) (a : Unit × pj_Z) (h : pf_X2_passGap a1 s l x y = some a) : mj_R ic_P 2 2009 [.ref 58, .long a1] (lf (s, l, x, y)) (pm_rU a.1) (lf a.2) := by
  refine pm_main (Y := ie_X2_passGap.1) rfl (Nat.le_of_ble_eq_true rfl) ?_
  exact pm_run ((pq_X2_passGap_m a1 s l x y).symm.trans h) (pz_X2_passGap hT) (pm_bks_ok pb_X2_passGap) (pm_bks_ok pb_X2_passGap _ _ rfl) (pm_ndb_ok rfl) (fun _ _ h => by cases h)
abbrev ph_X2_passGap {A : Type} : List pj_V → pj_Z → (List pj_V → pj_Z → Option A) → Option A := fun st z K => pj_pl st fun a1 st => pj_pr st 58 0 fun st => pj_ps st (pj_b (pf_X2_passGap a1 z.1 z.2.1 z.2.2.1 z.2.2.2) fun r s l x y => K st (s, l, x, y))
set_option maxRecDepth 100000 in
theorem pc_X2_passGap {A : Type} {OK : A → Option Value → mj_M → Prop} {d j pc ix : Nat} {Y : mj_Y} {lf : pj_Z → mj_M} (hT : pj_Lt pj_TC lf) (hd : 2 ≤ d) (hl : mj_lk Y.2.2.2.2 pc = some (.invokevirtual ix, 3)) (hg : mj_pG ic_P j ix = some (2009, 1, some 2)) {lv : List (Nat × Value)} {st : List pj_V} {z : pj_Z} {K : List pj_V → pj_Z → Option A} {a : A} (hK : ∀ st z, K st z = some a → pj_Gd ic_P (mj_R ic_P d) j Y OK lf (pc + 3) lv (pj_es st) z a) (h : ph_X2_passGap st z K = some a) : pj_Gd ic_P (mj_R ic_P d) j Y OK lf pc lv (pj_es st) z a := by
  obtain ⟨a1, r1, e1, h⟩ := pj_pl_inv h
  obtain ⟨r0, e0, h⟩ := pj_pr_inv h
  obtain ⟨hs, h⟩ := pj_ps_inv h
  obtain ⟨q, hq, h⟩ := pj_b_inv h
  exact pm_cv (o := 58) hl hg [.long a1] rfl (by rw [e1, e0]; rfl) hs (by decide) ((hT.2 58 _ rfl).1.2 z 0 (by decide)) (pm_rU q.1) hd (pm_X2_passGap hT a1 z.1 z.2.1 z.2.2.1 z.2.2.2 q hq) rfl (hK _ _ h)
abbrev px_J9_min_f86c9 : pj_C (Int64 × pj_Z) := ((fun _ => none), (fun _ => none), (fun _ => none), (fun _ => none), (fun _ => none), ic_X, 4, 3, pj_mL, (fun _ => none), fun _ => false)
abbrev pk_J9_min_f86c9 : List (Nat × List (Nat × Instr × Nat)) := [(0, [(0, .lload_n 0, 1), (1, .lload_n 2, 1), (2, .lcmp, 1), (3, .ifCond .gt 7, 3)]), (6, [(6, .lload_n 0, 1), (7, .goto 4, 3)]), (10, [(10, .lload_n 2, 1)]), (11, [(11, .lreturn, 1)])]
set_option maxRecDepth 100000 in
theorem pq_J9_min_f86c9_m  (a0 : Int64) (a2 : Int64) (s : Nat → Int32) (l : Nat → Int64) (x : Nat → Int32) (y : Nat → Int64) : pf_J9_min_f86c9 a0 a2 s l x y = pj_bl px_J9_min_f86c9 (pj_rn px_J9_min_f86c9 (pj_as pk_J9_min_f86c9) (fun _ => none) 60) [(0, .lload_n 0, 1), (1, .lload_n 2, 1), (2, .lcmp, 1), (3, .ifCond .gt 7, 3)] 0 [(0, pj_L a0), (2, pj_L a2)] [] (s, l, x, y) := rfl
set_option maxRecDepth 100000 in
theorem pz_J9_min_f86c9 {lf : pj_Z → mj_M} (hT : pj_Lt (fun _ => none) lf) : pj_Cok ic_P (mj_R ic_P 0) 29007 ie_J9_min_f86c9.1 (pm_OK lf pm_rL) lf px_J9_min_f86c9 := by
  exact pm_cok (c := px_J9_min_f86c9) hT (fun _ _ h => by cases h) (fun _ _ h => by cases h) (fun _ _ h => by cases h) (fun _ _ h => by cases h) rfl rfl ⟨by decide, rfl⟩ pm_mL (fun _ _ h => by cases h) (fun _ h => by cases h)
set_option maxRecDepth 100000 in
theorem pb_J9_min_f86c9 : pm_bks ie_J9_min_f86c9.1.2.2.2.2 pk_J9_min_f86c9 = true := by decide +kernel
set_option maxRecDepth 100000 in
theorem pm_J9_min_f86c9 {lf : pj_Z → mj_M} (hT : pj_Lt (fun _ => none) lf) (a0 : Int64) (a2 : Int64) (s : Nat → Int32) (l : Nat → Int64) (x : Nat → Int32) (y : Nat → Int64) (a : Int64 × pj_Z) (h : pf_J9_min_f86c9 a0 a2 s l x y = some a) : mj_R ic_P 1 29007 [.long a0, .long a2] (lf (s, l, x, y)) (pm_rL a.1) (lf a.2) := by
  refine pm_main (Y := ie_J9_min_f86c9.1) rfl (Nat.le_of_ble_eq_true rfl) ?_
  exact pm_run ((pq_J9_min_f86c9_m a0 a2 s l x y).symm.trans h) (pz_J9_min_f86c9 hT) (pm_bks_ok pb_J9_min_f86c9) (pm_bks_ok pb_J9_min_f86c9 _ _ rfl) (pm_ndb_ok rfl) (fun _ _ h => by cases h)
abbrev ph_J9_min_f86c9 {A : Type} : List pj_V → pj_Z → (List pj_V → pj_Z → Option A) → Option A := fun st z K => pj_pl st fun a2 st => pj_pl st fun a0 st => pj_ps st (pj_b (pf_J9_min_f86c9 a0 a2 z.1 z.2.1 z.2.2.1 z.2.2.2) fun r s l x y => K (pj_L r :: st) (s, l, x, y))
set_option maxRecDepth 100000 in
theorem pc_J9_min_f86c9 {A : Type} {OK : A → Option Value → mj_M → Prop} {d j pc ix : Nat} {Y : mj_Y} {lf : pj_Z → mj_M} (hT : pj_Lt (fun _ => none) lf) (hd : 1 ≤ d) (hl : mj_lk Y.2.2.2.2 pc = some (.invokestatic ix, 3)) (hg : mj_pG ic_P j ix = some (29007, 2, none)) {lv : List (Nat × Value)} {st : List pj_V} {z : pj_Z} {K : List pj_V → pj_Z → Option A} {a : A} (hK : ∀ st z, K st z = some a → pj_Gd ic_P (mj_R ic_P d) j Y OK lf (pc + 3) lv (pj_es st) z a) (h : ph_J9_min_f86c9 st z K = some a) : pj_Gd ic_P (mj_R ic_P d) j Y OK lf pc lv (pj_es st) z a := by
  obtain ⟨a2, r2, e2, h⟩ := pj_pl_inv h
  obtain ⟨a0, r0, e0, h⟩ := pj_pl_inv h
  obtain ⟨hs, h⟩ := pj_ps_inv h
  obtain ⟨q, hq, h⟩ := pj_b_inv h
  exact pm_cs hl hg [.long a0, .long a2] rfl (by rw [e2, e0]; rfl) hs (pm_rL q.1) hd (pm_J9_min_f86c9 hT a0 a2 z.1 z.2.1 z.2.2.1 z.2.2.2 q hq) rfl (hK _ _ h)
abbrev pe_X2_seek_53 (f : Int64 → pj_F (Unit × pj_Z)) : pj_K (Unit × pj_Z) := fun lv st z => pj_xr lv 0 58 0 <| pj_xl lv 1 fun a1 => pj_pe st (f a1 z.1 z.2.1 z.2.2.1 z.2.2.2)
abbrev px_X2_seek : pj_C (Unit × pj_Z) := ((pj_as [(58, 2, 19, 1, 0, true, 0, [(0, 19), (0, 20), (1, 4), (1, 5), (1, 6), (1, 7), (0, 21), (0, 22), (0, 23), (0, 24), (0, 25), (2, 59), (2, 63), (0, 26), (1, 8), (1, 9), (1, 10), (0, 27), (0, 28)])]), (pj_as [(22, 2, 0, 0, false), (30, 2, 2, 0, false), (39, 2, 5, 0, false)]), (fun _ => none), (pj_as [(108, 1000000), (113, 2), (115, 5)]), (fun _ => none), ic_X, 3, 0, pj_mU, (pj_as [(47, ph_X2_passGap), (58, ph_J9_min_f86c9)]), fun _ => false)
abbrev pk_X2_seek : List (Nat × List (Nat × Instr × Nat)) := [(0, [(0, .aload_n 0, 1), (1, .getfield 30, 3), (4, .ifCond .le 49, 3)]), (7, [(7, .lload_n 1, 1), (8, .ldc2_w 113, 3), (11, .aload_n 0, 1), (12, .getfield 30, 3), (15, .i2l, 1), (16, .lmul, 1), (17, .lcmp, 1), (18, .ifCond .le 35, 3)]), (21, [(21, .lload_n 1, 1), (22, .ldc2_w 115, 3), (25, .aload_n 0, 1), (26, .getfield 30, 3), (29, .i2l, 1), (30, .lmul, 1), (31, .lcmp, 1), (32, .ifCond .gt 21, 3)]), (35, [(35, .aload_n 0, 1), (36, .iconst 2, 1), (37, .putfield 22, 3), (40, .aload_n 0, 1), (41, .iconst 0, 1), (42, .putfield 39, 3), (45, .aload_n 0, 1), (46, .lload_n 1, 1), (47, .invokevirtual 117, 3), (50, .goto 15, 3)]), (53, [(53, .aload_n 0, 1), (54, .ldc2_w 108, 3), (57, .lload_n 1, 1), (58, .invokestatic 110, 3), (61, .l2i, 1), (62, .putfield 30, 3)]), (65, [(65, .return_, 1)])]
set_option maxRecDepth 100000 in
theorem pq_X2_seek_53  (a1 : Int64) (s : Nat → Int32) (l : Nat → Int64) (x : Nat → Int32) (y : Nat → Int64) : pl_X2_seek_53 a1 s l x y = pj_bl px_X2_seek (pj_rn px_X2_seek (pj_as pk_X2_seek) (fun _ => none) 60) [(53, .aload_n 0, 1), (54, .ldc2_w 108, 3), (57, .lload_n 1, 1), (58, .invokestatic 110, 3), (61, .l2i, 1), (62, .putfield 30, 3)] 53 [(0, pj_O (58, 0)), (1, pj_L a1)] [] (s, l, x, y) := rfl
set_option maxRecDepth 100000 in
theorem pq_X2_seek_m  (a1 : Int64) (s : Nat → Int32) (l : Nat → Int64) (x : Nat → Int32) (y : Nat → Int64) : pf_X2_seek a1 s l x y = pj_bl px_X2_seek (pj_rn px_X2_seek (pj_as pk_X2_seek) (pj_as [(53, pe_X2_seek_53 (pl_X2_seek_53))]) 60) [(0, .aload_n 0, 1), (1, .getfield 30, 3), (4, .ifCond .le 49, 3)] 0 [(0, pj_O (58, 0)), (1, pj_L a1)] [] (s, l, x, y) := rfl
theorem pu_X2_seek_53 {lf : pj_Z → mj_M} {a : Unit × pj_Z} (f : Int64 → pj_F (Unit × pj_Z)) (hf : ∀ (a1 : Int64) (s : Nat → Int32) (l : Nat → Int64) (x : Nat → Int32) (y : Nat → Int64), f a1 s l x y = some a → pm_Gd 2 2006 ie_X2_seek.1 pm_rU lf 53 [(0, .ref 58), (1, .long a1)] [] (s, l, x, y) a) : pm_Ex 2 2006 ie_X2_seek.1 pm_rU lf a 53 (pe_X2_seek_53 f) := by
  intro lv st z hd h
  obtain ⟨g0, h⟩ := pj_xr_inv h
  obtain ⟨a1, g1, h⟩ := pj_xl_inv h
  obtain ⟨e9, h⟩ := pj_pe_inv h
  rw [e9]
  exact mj_wp_sub (mj_sub_cons g0 (mj_sub_cons g1 (mj_sub_nil hd))) (hf _ _ _ _ _ h)
set_option maxRecDepth 100000 in
theorem pz_X2_seek {lf : pj_Z → mj_M} (hT : pj_Lt pj_TC lf) : pj_Cok ic_P (mj_R ic_P 2) 2006 ie_X2_seek.1 (pm_OK lf pm_rU) lf px_X2_seek := by
  exact pm_cok (c := px_X2_seek) (pm_part hT (pj_as_all (p := fun b e => pj_TC b = some e) (List.forall_mem_cons.mpr ⟨rfl, (fun _ h => by cases h)⟩))) (pm_in_ok (L := [(22, 2, 0, 0, false), (30, 2, 2, 0, false), (39, 2, 5, 0, false)]) (f := mj_pF ic_P 2006) (by decide +kernel)) (fun _ _ h => by cases h) (pm_inL_ok (L := [(108, 1000000), (113, 2), (115, 5)]) (f := mj_pL ic_P 2006) (by decide +kernel)) (fun _ _ h => by cases h) rfl rfl ⟨by decide, rfl⟩ pm_mU (pj_as_all (p := pm_Cl 2 2006 ie_X2_seek.1 lf (pm_OK lf pm_rU)) (List.forall_mem_cons.mpr ⟨fun _ _ lv st z K a hK h => pc_X2_passGap hT (by decide) (ix := 117) rfl rfl hK h, (List.forall_mem_cons.mpr ⟨fun _ _ lv st z K a hK h => pc_J9_min_f86c9 (pm_none hT) (by decide) (ix := 110) rfl rfl hK h, (fun _ h => by cases h)⟩)⟩)) (fun _ h => by cases h)
set_option maxRecDepth 100000 in
theorem pb_X2_seek : pm_bks ie_X2_seek.1.2.2.2.2 pk_X2_seek = true := by decide +kernel
set_option maxRecDepth 100000 in
theorem pg_X2_seek_53 {lf : pj_Z → mj_M} (hT : pj_Lt pj_TC lf) : ∀ (a1 : Int64) (s : Nat → Int32) (l : Nat → Int64) (x : Nat → Int32) (y : Nat → Int64) (a : Unit × pj_Z), pl_X2_seek_53 a1 s l x y = some a → pm_Gd 2 2006 ie_X2_seek.1 pm_rU lf 53 [(0, .ref 58), (1, .long a1)] [] (s, l, x, y) a := by
  intro a1 s l x y a h
  exact pm_run ((pq_X2_seek_53  a1 s l x y).symm.trans h) (pz_X2_seek hT) (pm_bks_ok pb_X2_seek) (pm_bks_ok pb_X2_seek _ _ rfl) (pm_ndb_ok rfl) (fun _ _ h => by cases h)
set_option maxRecDepth 100000 in
theorem pm_X2_seek {lf : pj_Z → mj_M} (hT : pj_Lt pj_TC lf) (a1 : Int64) (s : Nat → Int32) (l : Nat → Int64) (x : Nat → Int32) (y : Nat → Int64) (a : Unit × pj_Z) (h : pf_X2_seek a1 s l x y = some a) : mj_R ic_P 3 2006 [.ref 58, .long a1] (lf (s, l, x, y)) (pm_rU a.1) (lf a.2) := by
  refine pm_main (Y := ie_X2_seek.1) rfl (Nat.le_of_ble_eq_true rfl) ?_
  exact pm_run ((pq_X2_seek_m a1 s l x y).symm.trans h) (pz_X2_seek hT) (pm_bks_ok pb_X2_seek) (pm_bks_ok pb_X2_seek _ _ rfl) (pm_ndb_ok rfl) (pj_as_all (p := pm_Ex 2 2006 ie_X2_seek.1 pm_rU lf a) (List.forall_mem_cons.mpr ⟨pu_X2_seek_53 _ (fun c0 s l x y h => pg_X2_seek_53 hT c0 s l x y _ h), (fun _ h => by cases h)⟩))
abbrev ph_X2_seek {A : Type} : List pj_V → pj_Z → (List pj_V → pj_Z → Option A) → Option A := fun st z K => pj_pl st fun a1 st => pj_pr st 58 0 fun st => pj_ps st (pj_b (pf_X2_seek a1 z.1 z.2.1 z.2.2.1 z.2.2.2) fun r s l x y => K st (s, l, x, y))
set_option maxRecDepth 100000 in
theorem pc_X2_seek {A : Type} {OK : A → Option Value → mj_M → Prop} {d j pc ix : Nat} {Y : mj_Y} {lf : pj_Z → mj_M} (hT : pj_Lt pj_TC lf) (hd : 3 ≤ d) (hl : mj_lk Y.2.2.2.2 pc = some (.invokevirtual ix, 3)) (hg : mj_pG ic_P j ix = some (2006, 1, some 2)) {lv : List (Nat × Value)} {st : List pj_V} {z : pj_Z} {K : List pj_V → pj_Z → Option A} {a : A} (hK : ∀ st z, K st z = some a → pj_Gd ic_P (mj_R ic_P d) j Y OK lf (pc + 3) lv (pj_es st) z a) (h : ph_X2_seek st z K = some a) : pj_Gd ic_P (mj_R ic_P d) j Y OK lf pc lv (pj_es st) z a := by
  obtain ⟨a1, r1, e1, h⟩ := pj_pl_inv h
  obtain ⟨r0, e0, h⟩ := pj_pr_inv h
  obtain ⟨hs, h⟩ := pj_ps_inv h
  obtain ⟨q, hq, h⟩ := pj_b_inv h
  exact pm_cv (o := 58) hl hg [.long a1] rfl (by rw [e1, e0]; rfl) hs (by decide) ((hT.2 58 _ rfl).1.2 z 0 (by decide)) (pm_rU q.1) hd (pm_X2_seek hT a1 z.1 z.2.1 z.2.2.1 z.2.2.2 q hq) rfl (hK _ _ h)
abbrev px_X2_isRight : pj_C (Int32 × pj_Z) := ((pj_as [(58, 2, 19, 1, 0, true, 0, [(0, 19), (0, 20), (1, 4), (1, 5), (1, 6), (1, 7), (0, 21), (0, 22), (0, 23), (0, 24), (0, 25), (2, 59), (2, 63), (0, 26), (1, 8), (1, 9), (1, 10), (0, 27), (0, 28)])]), (pj_as [(30, 2, 2, 0, false), (36, 2, 4, 0, false)]), (fun _ => none), (pj_as [(113, 2), (115, 5)]), (fun _ => none), ic_X, 3, 2, pj_mI, (fun _ => none), fun _ => false)
abbrev pk_X2_isRight : List (Nat × List (Nat × Instr × Nat)) := [(0, [(0, .aload_n 0, 1), (1, .getfield 36, 3), (4, .bipush 57, 2), (6, .if_icmp .ne 37, 3)]), (9, [(9, .lload_n 1, 1), (10, .ldc2_w 113, 3), (13, .aload_n 0, 1), (14, .getfield 30, 3), (17, .i2l, 1), (18, .lmul, 1), (19, .lcmp, 1), (20, .ifCond .le 21, 3)]), (23, [(23, .lload_n 1, 1), (24, .ldc2_w 115, 3), (27, .aload_n 0, 1), (28, .getfield 30, 3), (31, .i2l, 1), (32, .lmul, 1), (33, .lcmp, 1), (34, .ifCond .gt 7, 3)]), (37, [(37, .iconst 1, 1), (38, .goto 4, 3)]), (41, [(41, .iconst 0, 1)]), (42, [(42, .ireturn, 1)]), (43, [(43, .ldc2_w 113, 3), (46, .lload_n 1, 1), (47, .lmul, 1), (48, .aload_n 0, 1), (49, .getfield 30, 3), (52, .i2l, 1), (53, .lcmp, 1), (54, .ifCond .le 21, 3)]), (57, [(57, .lload_n 1, 1), (58, .ldc2_w 113, 3), (61, .aload_n 0, 1), (62, .getfield 30, 3), (65, .i2l, 1), (66, .lmul, 1), (67, .lcmp, 1), (68, .ifCond .gt 7, 3)]), (71, [(71, .iconst 1, 1), (72, .goto 4, 3)]), (75, [(75, .iconst 0, 1)]), (76, [(76, .ireturn, 1)])]
set_option maxRecDepth 100000 in
theorem pq_X2_isRight_m  (a1 : Int64) (s : Nat → Int32) (l : Nat → Int64) (x : Nat → Int32) (y : Nat → Int64) : pf_X2_isRight a1 s l x y = pj_bl px_X2_isRight (pj_rn px_X2_isRight (pj_as pk_X2_isRight) (fun _ => none) 60) [(0, .aload_n 0, 1), (1, .getfield 36, 3), (4, .bipush 57, 2), (6, .if_icmp .ne 37, 3)] 0 [(0, pj_O (58, 0)), (1, pj_L a1)] [] (s, l, x, y) := rfl
set_option maxRecDepth 100000 in
theorem pz_X2_isRight {lf : pj_Z → mj_M} (hT : pj_Lt pj_TC lf) : pj_Cok ic_P (mj_R ic_P 0) 2007 ie_X2_isRight.1 (pm_OK lf pm_rI) lf px_X2_isRight := by
  exact pm_cok (c := px_X2_isRight) (pm_part hT (pj_as_all (p := fun b e => pj_TC b = some e) (List.forall_mem_cons.mpr ⟨rfl, (fun _ h => by cases h)⟩))) (pm_in_ok (L := [(30, 2, 2, 0, false), (36, 2, 4, 0, false)]) (f := mj_pF ic_P 2007) (by decide +kernel)) (fun _ _ h => by cases h) (pm_inL_ok (L := [(113, 2), (115, 5)]) (f := mj_pL ic_P 2007) (by decide +kernel)) (fun _ _ h => by cases h) rfl rfl ⟨by decide, rfl⟩ pm_mI (fun _ _ h => by cases h) (fun _ h => by cases h)
set_option maxRecDepth 100000 in
theorem pb_X2_isRight : pm_bks ie_X2_isRight.1.2.2.2.2 pk_X2_isRight = true := by decide +kernel
set_option maxRecDepth 100000 in
theorem pm_X2_isRight {lf : pj_Z → mj_M} (hT : pj_Lt pj_TC lf) (a1 : Int64) (s : Nat → Int32) (l : Nat → Int64) (x : Nat → Int32) (y : Nat → Int64) (a : Int32 × pj_Z) (h : pf_X2_isRight a1 s l x y = some a) : mj_R ic_P 1 2007 [.ref 58, .long a1] (lf (s, l, x, y)) (pm_rI a.1) (lf a.2) := by
  refine pm_main (Y := ie_X2_isRight.1) rfl (Nat.le_of_ble_eq_true rfl) ?_
  exact pm_run ((pq_X2_isRight_m a1 s l x y).symm.trans h) (pz_X2_isRight hT) (pm_bks_ok pb_X2_isRight) (pm_bks_ok pb_X2_isRight _ _ rfl) (pm_ndb_ok rfl) (fun _ _ h => by cases h)
abbrev ph_X2_isRight {A : Type} : List pj_V → pj_Z → (List pj_V → pj_Z → Option A) → Option A := fun st z K => pj_pl st fun a1 st => pj_pr st 58 0 fun st => pj_ps st (pj_b (pf_X2_isRight a1 z.1 z.2.1 z.2.2.1 z.2.2.2) fun r s l x y => K (pj_I r :: st) (s, l, x, y))
set_option maxRecDepth 100000 in
theorem pc_X2_isRight {A : Type} {OK : A → Option Value → mj_M → Prop} {d j pc ix : Nat} {Y : mj_Y} {lf : pj_Z → mj_M} (hT : pj_Lt pj_TC lf) (hd : 1 ≤ d) (hl : mj_lk Y.2.2.2.2 pc = some (.invokevirtual ix, 3)) (hg : mj_pG ic_P j ix = some (2007, 1, some 2)) {lv : List (Nat × Value)} {st : List pj_V} {z : pj_Z} {K : List pj_V → pj_Z → Option A} {a : A} (hK : ∀ st z, K st z = some a → pj_Gd ic_P (mj_R ic_P d) j Y OK lf (pc + 3) lv (pj_es st) z a) (h : ph_X2_isRight st z K = some a) : pj_Gd ic_P (mj_R ic_P d) j Y OK lf pc lv (pj_es st) z a := by
  obtain ⟨a1, r1, e1, h⟩ := pj_pl_inv h
  obtain ⟨r0, e0, h⟩ := pj_pr_inv h
  obtain ⟨hs, h⟩ := pj_ps_inv h
  obtain ⟨q, hq, h⟩ := pj_b_inv h
  exact pm_cv (o := 58) hl hg [.long a1] rfl (by rw [e1, e0]; rfl) hs (by decide) ((hT.2 58 _ rfl).1.2 z 0 (by decide)) (pm_rI q.1) hd (pm_X2_isRight hT a1 z.1 z.2.1 z.2.2.1 z.2.2.2 q hq) rfl (hK _ _ h)
abbrev px_X2_goOn : pj_C (Unit × pj_Z) := ((pj_as [(58, 2, 19, 1, 0, true, 0, [(0, 19), (0, 20), (1, 4), (1, 5), (1, 6), (1, 7), (0, 21), (0, 22), (0, 23), (0, 24), (0, 25), (2, 59), (2, 63), (0, 26), (1, 8), (1, 9), (1, 10), (0, 27), (0, 28)])]), (pj_as [(22, 2, 0, 0, false), (30, 2, 2, 0, false), (36, 2, 4, 0, false), (39, 2, 5, 0, false), (45, 2, 7, 0, false), (51, 2, 9, 0, false), (54, 2, 10, 3, false)]), (fun _ => none), (fun _ => none), (fun _ => none), ic_X, 3, 0, pj_mU, (pj_as [(31, ph_X2_passGap), (91, ph_J9_min_7cf53)]), fun _ => false)
abbrev pk_X2_goOn : List (Nat × List (Nat × Instr × Nat)) := [(0, [(0, .aload_n 0, 1), (1, .getfield 36, 3), (4, .bipush 57, 2), (6, .if_icmp .ne 29, 3)]), (9, [(9, .aload_n 0, 1), (10, .iconst 1, 1), (11, .aload_n 0, 1), (12, .getfield 39, 3), (15, .isub, 1), (16, .putfield 39, 3), (19, .aload_n 0, 1), (20, .dup, 1), (21, .getfield 51, 3), (24, .iconst 1, 1), (25, .iadd, 1), (26, .putfield 51, 3), (29, .aload_n 0, 1), (30, .lload_n 1, 1), (31, .invokevirtual 117, 3), (34, .return_, 1)]), (35, [(35, .aload_n 0, 1), (36, .dup, 1), (37, .getfield 36, 3), (40, .iconst 1, 1), (41, .iadd, 1), (42, .putfield 36, 3), (45, .aload_n 0, 1), (46, .lload_n 1, 1), (47, .l2i, 1), (48, .putfield 30, 3), (51, .aload_n 0, 1), (52, .getfield 22, 3), (55, .iconst 3, 1), (56, .if_icmp .ne 41, 3)]), (59, [(59, .aload_n 0, 1), (60, .getfield 36, 3), (63, .bipush 21, 2), (65, .if_icmp .ne 32, 3)]), (68, [(68, .aload_n 0, 1), (69, .getfield 39, 3), (72, .ifCond .ne 25, 3)]), (75, [(75, .aload_n 0, 1), (76, .getfield 54, 3), (79, .ifCond .ne 18, 3)]), (82, [(82, .aload_n 0, 1), (83, .bipush 100, 2), (85, .aload_n 0, 1), (86, .getfield 45, 3), (89, .iconst 1, 1), (90, .iadd, 1), (91, .invokestatic 120, 3), (94, .putfield 45, 3)]), (97, [(97, .return_, 1)])]
set_option maxRecDepth 100000 in
theorem pq_X2_goOn_m  (a1 : Int64) (s : Nat → Int32) (l : Nat → Int64) (x : Nat → Int32) (y : Nat → Int64) : pf_X2_goOn a1 s l x y = pj_bl px_X2_goOn (pj_rn px_X2_goOn (pj_as pk_X2_goOn) (fun _ => none) 60) [(0, .aload_n 0, 1), (1, .getfield 36, 3), (4, .bipush 57, 2), (6, .if_icmp .ne 29, 3)] 0 [(0, pj_O (58, 0)), (1, pj_L a1)] [] (s, l, x, y) := rfl
set_option maxRecDepth 100000 in
theorem pz_X2_goOn {lf : pj_Z → mj_M} (hT : pj_Lt pj_TC lf) : pj_Cok ic_P (mj_R ic_P 2) 2008 ie_X2_goOn.1 (pm_OK lf pm_rU) lf px_X2_goOn := by
  exact pm_cok (c := px_X2_goOn) (pm_part hT (pj_as_all (p := fun b e => pj_TC b = some e) (List.forall_mem_cons.mpr ⟨rfl, (fun _ h => by cases h)⟩))) (pm_in_ok (L := [(22, 2, 0, 0, false), (30, 2, 2, 0, false), (36, 2, 4, 0, false), (39, 2, 5, 0, false), (45, 2, 7, 0, false), (51, 2, 9, 0, false), (54, 2, 10, 3, false)]) (f := mj_pF ic_P 2008) (by decide +kernel)) (fun _ _ h => by cases h) (fun _ _ h => by cases h) (fun _ _ h => by cases h) rfl rfl ⟨by decide, rfl⟩ pm_mU (pj_as_all (p := pm_Cl 2 2008 ie_X2_goOn.1 lf (pm_OK lf pm_rU)) (List.forall_mem_cons.mpr ⟨fun _ _ lv st z K a hK h => pc_X2_passGap hT (by decide) (ix := 117) rfl rfl hK h, (List.forall_mem_cons.mpr ⟨fun _ _ lv st z K a hK h => pc_J9_min_7cf53 (pm_none hT) (by decide) (ix := 120) rfl rfl hK h, (fun _ h => by cases h)⟩)⟩)) (fun _ h => by cases h)
set_option maxRecDepth 100000 in
theorem pb_X2_goOn : pm_bks ie_X2_goOn.1.2.2.2.2 pk_X2_goOn = true := by decide +kernel
set_option maxRecDepth 100000 in
theorem pm_X2_goOn {lf : pj_Z → mj_M} (hT : pj_Lt pj_TC lf) (a1 : Int64) (s : Nat → Int32) (l : Nat → Int64) (x : Nat → Int32) (y : Nat → Int64) (a : Unit × pj_Z) (h : pf_X2_goOn a1 s l x y = some a) : mj_R ic_P 3 2008 [.ref 58, .long a1] (lf (s, l, x, y)) (pm_rU a.1) (lf a.2) := by
  refine pm_main (Y := ie_X2_goOn.1) rfl (Nat.le_of_ble_eq_true rfl) ?_
  exact pm_run ((pq_X2_goOn_m a1 s l x y).symm.trans h) (pz_X2_goOn hT) (pm_bks_ok pb_X2_goOn) (pm_bks_ok pb_X2_goOn _ _ rfl) (pm_ndb_ok rfl) (fun _ _ h => by cases h)
abbrev ph_X2_goOn {A : Type} : List pj_V → pj_Z → (List pj_V → pj_Z → Option A) → Option A := fun st z K => pj_pl st fun a1 st => pj_pr st 58 0 fun st => pj_ps st (pj_b (pf_X2_goOn a1 z.1 z.2.1 z.2.2.1 z.2.2.2) fun r s l x y => K st (s, l, x, y))
set_option maxRecDepth 100000 in
theorem pc_X2_goOn {A : Type} {OK : A → Option Value → mj_M → Prop} {d j pc ix : Nat} {Y : mj_Y} {lf : pj_Z → mj_M} (hT : pj_Lt pj_TC lf) (hd : 3 ≤ d) (hl : mj_lk Y.2.2.2.2 pc = some (.invokevirtual ix, 3)) (hg : mj_pG ic_P j ix = some (2008, 1, some 2)) {lv : List (Nat × Value)} {st : List pj_V} {z : pj_Z} {K : List pj_V → pj_Z → Option A} {a : A} (hK : ∀ st z, K st z = some a → pj_Gd ic_P (mj_R ic_P d) j Y OK lf (pc + 3) lv (pj_es st) z a) (h : ph_X2_goOn st z K = some a) : pj_Gd ic_P (mj_R ic_P d) j Y OK lf pc lv (pj_es st) z a := by
  obtain ⟨a1, r1, e1, h⟩ := pj_pl_inv h
  obtain ⟨r0, e0, h⟩ := pj_pr_inv h
  obtain ⟨hs, h⟩ := pj_ps_inv h
  obtain ⟨q, hq, h⟩ := pj_b_inv h
  exact pm_cv (o := 58) hl hg [.long a1] rfl (by rw [e1, e0]; rfl) hs (by decide) ((hT.2 58 _ rfl).1.2 z 0 (by decide)) (pm_rU q.1) hd (pm_X2_goOn hT a1 z.1 z.2.1 z.2.2.1 z.2.2.2 q hq) rfl (hK _ _ h)
abbrev pe_X2_hearTooth_81 (f : Int32 → pj_F (Int32 × pj_Z)) : pj_K (Int32 × pj_Z) := fun lv st z => pj_xr lv 0 58 0 <| pj_pi st fun b0 st => pj_pe st (f b0 z.1 z.2.1 z.2.2.1 z.2.2.2)
abbrev pe_X2_hearTooth_116 (f : Int32 → pj_F (Int32 × pj_Z)) : pj_K (Int32 × pj_Z) := fun lv st z => pj_xr lv 0 58 0 <| pj_xi lv 5 fun a5 => pj_pe st (f a5 z.1 z.2.1 z.2.2.1 z.2.2.2)
abbrev px_X2_hearTooth : pj_C (Int32 × pj_Z) := ((pj_as [(58, 2, 19, 1, 0, true, 0, [(0, 19), (0, 20), (1, 4), (1, 5), (1, 6), (1, 7), (0, 21), (0, 22), (0, 23), (0, 24), (0, 25), (2, 59), (2, 63), (0, 26), (1, 8), (1, 9), (1, 10), (0, 27), (0, 28)])]), (pj_as [(22, 2, 0, 0, false), (26, 2, 1, 1, false), (30, 2, 2, 0, false), (42, 2, 6, 0, false)]), (fun _ => none), (pj_as [(108, 1000000)]), (fun _ => none), ic_X, 6, 1, pj_mI, (pj_as [(7, ph_J9_max_f86c9), (49, ph_X2_seek), (57, ph_X2_isRight), (65, ph_X2_goOn), (106, ph_J9_min_f86c9), (117, ph_X2_measure)]), fun _ => false)
abbrev pk_X2_hearTooth : List (Nat × List (Nat × Instr × Nat)) := [(0, [(0, .lconst 1, 1), (1, .lload_n 1, 1), (2, .aload_n 0, 1), (3, .getfield 26, 3), (6, .lsub, 1), (7, .invokestatic 91, 3), (10, .lstore_n 3, 1), (11, .aload_n 0, 1), (12, .lload_n 1, 1), (13, .putfield 26, 3), (16, .iconst 0, 1), (17, .istore 5, 2), (19, .aload_n 0, 1), (20, .getfield 22, 3), (23, .ifCond .ne 16, 3)]), (26, [(26, .aload_n 0, 1), (27, .iconst 1, 1), (28, .putfield 22, 3), (31, .aload_n 0, 1), (32, .iconst 0, 1), (33, .putfield 30, 3), (36, .goto 80, 3)]), (39, [(39, .aload_n 0, 1), (40, .getfield 22, 3), (43, .iconst 1, 1), (44, .if_icmp .ne 11, 3)]), (47, [(47, .aload_n 0, 1), (48, .lload_n 3, 1), (49, .invokevirtual 97, 3), (52, .goto 64, 3)]), (55, [(55, .aload_n 0, 1), (56, .lload_n 3, 1), (57, .invokevirtual 101, 3), (60, .ifCond .eq 26, 3)]), (63, [(63, .aload_n 0, 1), (64, .lload_n 3, 1), (65, .invokevirtual 105, 3), (68, .aload_n 0, 1), (69, .getfield 22, 3), (72, .iconst 3, 1), (73, .if_icmp .ne 7, 3)]), (76, [(76, .iconst 1, 1), (77, .goto 4, 3)]), (80, [(80, .iconst 0, 1)]), (81, [(81, .istore 5, 2), (83, .goto 33, 3)]), (86, [(86, .aload_n 0, 1), (87, .dup, 1), (88, .getfield 42, 3), (91, .iconst 1, 1), (92, .iadd, 1), (93, .putfield 42, 3), (96, .aload_n 0, 1), (97, .iconst 1, 1), (98, .putfield 22, 3), (101, .aload_n 0, 1), (102, .ldc2_w 108, 3), (105, .lload_n 3, 1), (106, .invokestatic 110, 3), (109, .l2i, 1), (110, .putfield 30, 3), (113, .iconst 2, 1), (114, .istore 5, 2)]), (116, [(116, .aload_n 0, 1), (117, .invokevirtual 87, 3), (120, .iload 5, 2), (122, .ireturn, 1)])]
set_option maxRecDepth 100000 in
theorem pq_X2_hearTooth_116  (a5 : Int32) (s : Nat → Int32) (l : Nat → Int64) (x : Nat → Int32) (y : Nat → Int64) : pl_X2_hearTooth_116 a5 s l x y = pj_bl px_X2_hearTooth (pj_rn px_X2_hearTooth (pj_as pk_X2_hearTooth) (fun _ => none) 60) [(116, .aload_n 0, 1), (117, .invokevirtual 87, 3), (120, .iload 5, 2), (122, .ireturn, 1)] 116 [(0, pj_O (58, 0)), (5, pj_I a5)] [] (s, l, x, y) := rfl
set_option maxRecDepth 100000 in
theorem pq_X2_hearTooth_81  (b0 : Int32) (s : Nat → Int32) (l : Nat → Int64) (x : Nat → Int32) (y : Nat → Int64) : pl_X2_hearTooth_81 b0 s l x y = pj_bl px_X2_hearTooth (pj_rn px_X2_hearTooth (pj_as pk_X2_hearTooth) (pj_as [(116, pe_X2_hearTooth_116 (pl_X2_hearTooth_116))]) 60) [(81, .istore 5, 2), (83, .goto 33, 3)] 81 [(0, pj_O (58, 0))] [pj_I b0] (s, l, x, y) := rfl
set_option maxRecDepth 100000 in
theorem pq_X2_hearTooth_m  (a1 : Int64) (s : Nat → Int32) (l : Nat → Int64) (x : Nat → Int32) (y : Nat → Int64) : pf_X2_hearTooth a1 s l x y = pj_bl px_X2_hearTooth (pj_rn px_X2_hearTooth (pj_as pk_X2_hearTooth) (pj_as [(81, pe_X2_hearTooth_81 (pl_X2_hearTooth_81)), (116, pe_X2_hearTooth_116 (pl_X2_hearTooth_116))]) 60) [(0, .lconst 1, 1), (1, .lload_n 1, 1), (2, .aload_n 0, 1), (3, .getfield 26, 3), (6, .lsub, 1), (7, .invokestatic 91, 3), (10, .lstore_n 3, 1), (11, .aload_n 0, 1), (12, .lload_n 1, 1), (13, .putfield 26, 3), (16, .iconst 0, 1), (17, .istore 5, 2), (19, .aload_n 0, 1), (20, .getfield 22, 3), (23, .ifCond .ne 16, 3)] 0 [(0, pj_O (58, 0)), (1, pj_L a1)] [] (s, l, x, y) := rfl
theorem pu_X2_hearTooth_81 {lf : pj_Z → mj_M} {a : Int32 × pj_Z} (f : Int32 → pj_F (Int32 × pj_Z)) (hf : ∀ (b0 : Int32) (s : Nat → Int32) (l : Nat → Int64) (x : Nat → Int32) (y : Nat → Int64), f b0 s l x y = some a → pm_Gd 3 2005 ie_X2_hearTooth.1 pm_rI lf 81 [(0, .ref 58)] [.int b0] (s, l, x, y) a) : pm_Ex 3 2005 ie_X2_hearTooth.1 pm_rI lf a 81 (pe_X2_hearTooth_81 f) := by
  intro lv st z hd h
  obtain ⟨g0, h⟩ := pj_xr_inv h
  obtain ⟨b0, r0, e0, h⟩ := pj_pi_inv h
  obtain ⟨e9, h⟩ := pj_pe_inv h
  rw [e0, e9]
  exact mj_wp_sub (mj_sub_cons g0 (mj_sub_nil hd)) (hf _ _ _ _ _ h)
theorem pu_X2_hearTooth_116 {lf : pj_Z → mj_M} {a : Int32 × pj_Z} (f : Int32 → pj_F (Int32 × pj_Z)) (hf : ∀ (a5 : Int32) (s : Nat → Int32) (l : Nat → Int64) (x : Nat → Int32) (y : Nat → Int64), f a5 s l x y = some a → pm_Gd 3 2005 ie_X2_hearTooth.1 pm_rI lf 116 [(0, .ref 58), (5, .int a5)] [] (s, l, x, y) a) : pm_Ex 3 2005 ie_X2_hearTooth.1 pm_rI lf a 116 (pe_X2_hearTooth_116 f) := by
  intro lv st z hd h
  obtain ⟨g0, h⟩ := pj_xr_inv h
  obtain ⟨a5, g5, h⟩ := pj_xi_inv h
  obtain ⟨e9, h⟩ := pj_pe_inv h
  rw [e9]
  exact mj_wp_sub (mj_sub_cons g0 (mj_sub_cons g5 (mj_sub_nil hd))) (hf _ _ _ _ _ h)
set_option maxRecDepth 100000 in
theorem pz_X2_hearTooth {lf : pj_Z → mj_M} (hT : pj_Lt pj_TC lf) : pj_Cok ic_P (mj_R ic_P 3) 2005 ie_X2_hearTooth.1 (pm_OK lf pm_rI) lf px_X2_hearTooth := by
  exact pm_cok (c := px_X2_hearTooth) (pm_part hT (pj_as_all (p := fun b e => pj_TC b = some e) (List.forall_mem_cons.mpr ⟨rfl, (fun _ h => by cases h)⟩))) (pm_in_ok (L := [(22, 2, 0, 0, false), (26, 2, 1, 1, false), (30, 2, 2, 0, false), (42, 2, 6, 0, false)]) (f := mj_pF ic_P 2005) (by decide +kernel)) (fun _ _ h => by cases h) (pm_inL_ok (L := [(108, 1000000)]) (f := mj_pL ic_P 2005) (by decide +kernel)) (fun _ _ h => by cases h) rfl rfl ⟨by decide, rfl⟩ pm_mI (pj_as_all (p := pm_Cl 3 2005 ie_X2_hearTooth.1 lf (pm_OK lf pm_rI)) (List.forall_mem_cons.mpr ⟨fun _ _ lv st z K a hK h => pc_J9_max_f86c9 (pm_none hT) (by decide) (ix := 91) rfl rfl hK h, (List.forall_mem_cons.mpr ⟨fun _ _ lv st z K a hK h => pc_X2_seek hT (by decide) (ix := 97) rfl rfl hK h, (List.forall_mem_cons.mpr ⟨fun _ _ lv st z K a hK h => pc_X2_isRight hT (by decide) (ix := 101) rfl rfl hK h, (List.forall_mem_cons.mpr ⟨fun _ _ lv st z K a hK h => pc_X2_goOn hT (by decide) (ix := 105) rfl rfl hK h, (List.forall_mem_cons.mpr ⟨fun _ _ lv st z K a hK h => pc_J9_min_f86c9 (pm_none hT) (by decide) (ix := 110) rfl rfl hK h, (List.forall_mem_cons.mpr ⟨fun _ _ lv st z K a hK h => pc_X2_measure hT (by decide) (ix := 87) rfl rfl hK h, (fun _ h => by cases h)⟩)⟩)⟩)⟩)⟩)⟩)) (fun _ h => by cases h)
set_option maxRecDepth 100000 in
theorem pb_X2_hearTooth : pm_bks ie_X2_hearTooth.1.2.2.2.2 pk_X2_hearTooth = true := by decide +kernel
set_option maxRecDepth 100000 in
theorem pg_X2_hearTooth_116 {lf : pj_Z → mj_M} (hT : pj_Lt pj_TC lf) : ∀ (a5 : Int32) (s : Nat → Int32) (l : Nat → Int64) (x : Nat → Int32) (y : Nat → Int64) (a : Int32 × pj_Z), pl_X2_hearTooth_116 a5 s l x y = some a → pm_Gd 3 2005 ie_X2_hearTooth.1 pm_rI lf 116 [(0, .ref 58), (5, .int a5)] [] (s, l, x, y) a := by
  intro a5 s l x y a h
  exact pm_run ((pq_X2_hearTooth_116  a5 s l x y).symm.trans h) (pz_X2_hearTooth hT) (pm_bks_ok pb_X2_hearTooth) (pm_bks_ok pb_X2_hearTooth _ _ rfl) (pm_ndb_ok rfl) (fun _ _ h => by cases h)
set_option maxRecDepth 100000 in
theorem pg_X2_hearTooth_81 {lf : pj_Z → mj_M} (hT : pj_Lt pj_TC lf) : ∀ (b0 : Int32) (s : Nat → Int32) (l : Nat → Int64) (x : Nat → Int32) (y : Nat → Int64) (a : Int32 × pj_Z), pl_X2_hearTooth_81 b0 s l x y = some a → pm_Gd 3 2005 ie_X2_hearTooth.1 pm_rI lf 81 [(0, .ref 58)] [.int b0] (s, l, x, y) a := by
  intro b0 s l x y a h
  exact pm_run ((pq_X2_hearTooth_81  b0 s l x y).symm.trans h) (pz_X2_hearTooth hT) (pm_bks_ok pb_X2_hearTooth) (pm_bks_ok pb_X2_hearTooth _ _ rfl) (pm_ndb_ok rfl) (pj_as_all (p := pm_Ex 3 2005 ie_X2_hearTooth.1 pm_rI lf a) (List.forall_mem_cons.mpr ⟨pu_X2_hearTooth_116 _ (fun c0 s l x y h => pg_X2_hearTooth_116 hT c0 s l x y _ h), (fun _ h => by cases h)⟩))
set_option maxRecDepth 100000 in
theorem pm_X2_hearTooth {lf : pj_Z → mj_M} (hT : pj_Lt pj_TC lf) (a1 : Int64) (s : Nat → Int32) (l : Nat → Int64) (x : Nat → Int32) (y : Nat → Int64) (a : Int32 × pj_Z) (h : pf_X2_hearTooth a1 s l x y = some a) : mj_R ic_P 4 2005 [.ref 58, .long a1] (lf (s, l, x, y)) (pm_rI a.1) (lf a.2) := by
  refine pm_main (Y := ie_X2_hearTooth.1) rfl (Nat.le_of_ble_eq_true rfl) ?_
  exact pm_run ((pq_X2_hearTooth_m a1 s l x y).symm.trans h) (pz_X2_hearTooth hT) (pm_bks_ok pb_X2_hearTooth) (pm_bks_ok pb_X2_hearTooth _ _ rfl) (pm_ndb_ok rfl) (pj_as_all (p := pm_Ex 3 2005 ie_X2_hearTooth.1 pm_rI lf a) (List.forall_mem_cons.mpr ⟨pu_X2_hearTooth_81 _ (fun c0 s l x y h => pg_X2_hearTooth_81 hT c0 s l x y _ h), (List.forall_mem_cons.mpr ⟨pu_X2_hearTooth_116 _ (fun c0 s l x y h => pg_X2_hearTooth_116 hT c0 s l x y _ h), (fun _ h => by cases h)⟩)⟩))
abbrev ph_X2_hearTooth {A : Type} : List pj_V → pj_Z → (List pj_V → pj_Z → Option A) → Option A := fun st z K => pj_pl st fun a1 st => pj_pr st 58 0 fun st => pj_ps st (pj_b (pf_X2_hearTooth a1 z.1 z.2.1 z.2.2.1 z.2.2.2) fun r s l x y => K (pj_I r :: st) (s, l, x, y))
set_option maxRecDepth 100000 in
theorem pc_X2_hearTooth {A : Type} {OK : A → Option Value → mj_M → Prop} {d j pc ix : Nat} {Y : mj_Y} {lf : pj_Z → mj_M} (hT : pj_Lt pj_TC lf) (hd : 4 ≤ d) (hl : mj_lk Y.2.2.2.2 pc = some (.invokevirtual ix, 3)) (hg : mj_pG ic_P j ix = some (2005, 1, some 2)) {lv : List (Nat × Value)} {st : List pj_V} {z : pj_Z} {K : List pj_V → pj_Z → Option A} {a : A} (hK : ∀ st z, K st z = some a → pj_Gd ic_P (mj_R ic_P d) j Y OK lf (pc + 3) lv (pj_es st) z a) (h : ph_X2_hearTooth st z K = some a) : pj_Gd ic_P (mj_R ic_P d) j Y OK lf pc lv (pj_es st) z a := by
  obtain ⟨a1, r1, e1, h⟩ := pj_pl_inv h
  obtain ⟨r0, e0, h⟩ := pj_pr_inv h
  obtain ⟨hs, h⟩ := pj_ps_inv h
  obtain ⟨q, hq, h⟩ := pj_b_inv h
  exact pm_cv (o := 58) hl hg [.long a1] rfl (by rw [e1, e0]; rfl) hs (by decide) ((hT.2 58 _ rfl).1.2 z 0 (by decide)) (pm_rI q.1) hd (pm_X2_hearTooth hT a1 z.1 z.2.1 z.2.2.1 z.2.2.2 q hq) rfl (hK _ _ h)
abbrev pe_X11_findLimit_31 (f : Int32 → pj_F (Unit × pj_Z)) : pj_K (Unit × pj_Z) := fun lv st z => pj_xr lv 0 0 0 <| pj_pi st fun b0 st => pj_pe st (f b0 z.1 z.2.1 z.2.2.1 z.2.2.2)
abbrev px_X11_findLimit : pj_C (Unit × pj_Z) := ((pj_as [(0, 11, 17, 1, 0, true, 0, [(2, 1), (2, 20), (2, 58), (2, 68), (2, 82), (2, 83), (2, 85), (2, 96), (2, 102), (2, 106), (2, 122), (0, 93), (0, 94), (0, 95), (1, 1), (1, 2), (0, 96)]), (1, 4, 10, 1, 0, true, 0, [(2, 2), (2, 3), (2, 8), (2, 11), (2, 14), (2, 17), (2, 18), (2, 19), (0, 44), (1, 3)]), (2, 100, 24, 1, 0, true, 10000, []), (58, 2, 19, 1, 0, true, 0, [(0, 19), (0, 20), (1, 4), (1, 5), (1, 6), (1, 7), (0, 21), (0, 22), (0, 23), (0, 24), (0, 25), (2, 59), (2, 63), (0, 26), (1, 8), (1, 9), (1, 10), (0, 27), (0, 28)]), (83, 3, 20, 1, 0, true, 0, [(0, 29), (0, 30), (1, 14), (1, 15), (0, 31), (0, 32), (0, 33), (0, 34), (0, 35), (0, 36), (0, 37), (0, 38), (0, 39), (0, 40), (1, 16), (1, 17), (0, 41), (0, 42), (0, 43), (2, 84)])]), (pj_as [(10, 11, 0, 2, true), (26, 11, 2, 2, true), (47, 11, 5, 2, true), (287, 4, 0, 2, true), (538, 3, 0, 3, false), (622, 3, 10, 3, false), (625, 2, 17, 0, false), (628, 2, 3, 0, false), (631, 2, 18, 3, false)]), (fun _ => none), (fun _ => none), (fun _ => none), ic_X, 2, 0, pj_mU, (fun _ => none), fun _ => false)
abbrev pk_X11_findLimit : List (Nat × List (Nat × Instr × Nat)) := [(0, [(0, .aload_n 0, 1), (1, .getfield 47, 3), (4, .getfield 538, 3), (7, .ifCond .eq 8, 3)]), (10, [(10, .bipush 7, 2), (12, .goto 19, 3)]), (15, [(15, .aload_n 0, 1), (16, .getfield 47, 3), (19, .getfield 622, 3), (22, .ifCond .eq 8, 3)]), (25, [(25, .bipush 6, 2), (27, .goto 4, 3)]), (30, [(30, .iconst 5, 1)]), (31, [(31, .istore_n 1, 1), (32, .aload_n 0, 1), (33, .getfield 26, 3), (36, .aload_n 0, 1), (37, .getfield 10, 3), (40, .getfield 287, 3), (43, .iload_n 1, 1), (44, .iaload, 1), (45, .putfield 625, 3), (48, .aload_n 0, 1), (49, .getfield 26, 3), (52, .getfield 628, 3), (55, .aload_n 0, 1), (56, .getfield 26, 3), (59, .getfield 625, 3), (62, .if_icmp .lt 14, 3)]), (65, [(65, .aload_n 0, 1), (66, .getfield 26, 3), (69, .iconst 1, 1), (70, .putfield 631, 3), (73, .goto 32, 3)]), (76, [(76, .aload_n 0, 1), (77, .getfield 26, 3), (80, .getfield 628, 3), (83, .aload_n 0, 1), (84, .getfield 26, 3), (87, .getfield 625, 3), (90, .sipush 200, 3), (93, .isub, 1), (94, .if_icmp .ge 11, 3)]), (97, [(97, .aload_n 0, 1), (98, .getfield 26, 3), (101, .iconst 0, 1), (102, .putfield 631, 3)]), (105, [(105, .return_, 1)])]
set_option maxRecDepth 100000 in
theorem pq_X11_findLimit_31  (b0 : Int32) (s : Nat → Int32) (l : Nat → Int64) (x : Nat → Int32) (y : Nat → Int64) : pl_X11_findLimit_31 b0 s l x y = pj_bl px_X11_findLimit (pj_rn px_X11_findLimit (pj_as pk_X11_findLimit) (fun _ => none) 60) [(31, .istore_n 1, 1), (32, .aload_n 0, 1), (33, .getfield 26, 3), (36, .aload_n 0, 1), (37, .getfield 10, 3), (40, .getfield 287, 3), (43, .iload_n 1, 1), (44, .iaload, 1), (45, .putfield 625, 3), (48, .aload_n 0, 1), (49, .getfield 26, 3), (52, .getfield 628, 3), (55, .aload_n 0, 1), (56, .getfield 26, 3), (59, .getfield 625, 3), (62, .if_icmp .lt 14, 3)] 31 [(0, pj_O (0, 0))] [pj_I b0] (s, l, x, y) := rfl
set_option maxRecDepth 100000 in
theorem pq_X11_findLimit_m   (s : Nat → Int32) (l : Nat → Int64) (x : Nat → Int32) (y : Nat → Int64) : pf_X11_findLimit  s l x y = pj_bl px_X11_findLimit (pj_rn px_X11_findLimit (pj_as pk_X11_findLimit) (pj_as [(31, pe_X11_findLimit_31 (pl_X11_findLimit_31))]) 60) [(0, .aload_n 0, 1), (1, .getfield 47, 3), (4, .getfield 538, 3), (7, .ifCond .eq 8, 3)] 0 [(0, pj_O (0, 0))] [] (s, l, x, y) := rfl
theorem pu_X11_findLimit_31 {lf : pj_Z → mj_M} {a : Unit × pj_Z} (f : Int32 → pj_F (Unit × pj_Z)) (hf : ∀ (b0 : Int32) (s : Nat → Int32) (l : Nat → Int64) (x : Nat → Int32) (y : Nat → Int64), f b0 s l x y = some a → pm_Gd 0 11060 ie_X11_findLimit.1 pm_rU lf 31 [(0, .ref 0)] [.int b0] (s, l, x, y) a) : pm_Ex 0 11060 ie_X11_findLimit.1 pm_rU lf a 31 (pe_X11_findLimit_31 f) := by
  intro lv st z hd h
  obtain ⟨g0, h⟩ := pj_xr_inv h
  obtain ⟨b0, r0, e0, h⟩ := pj_pi_inv h
  obtain ⟨e9, h⟩ := pj_pe_inv h
  rw [e0, e9]
  exact mj_wp_sub (mj_sub_cons g0 (mj_sub_nil hd)) (hf _ _ _ _ _ h)
set_option maxRecDepth 100000 in
theorem pz_X11_findLimit {lf : pj_Z → mj_M} (hT : pj_Lt pj_TC lf) : pj_Cok ic_P (mj_R ic_P 0) 11060 ie_X11_findLimit.1 (pm_OK lf pm_rU) lf px_X11_findLimit := by
  exact pm_cok (c := px_X11_findLimit) (pm_part hT (pj_as_all (p := fun b e => pj_TC b = some e) (List.forall_mem_cons.mpr ⟨rfl, (List.forall_mem_cons.mpr ⟨rfl, (List.forall_mem_cons.mpr ⟨rfl, (List.forall_mem_cons.mpr ⟨rfl, (List.forall_mem_cons.mpr ⟨rfl, (fun _ h => by cases h)⟩)⟩)⟩)⟩)⟩))) (pm_in_ok (L := [(10, 11, 0, 2, true), (26, 11, 2, 2, true), (47, 11, 5, 2, true), (287, 4, 0, 2, true), (538, 3, 0, 3, false), (622, 3, 10, 3, false), (625, 2, 17, 0, false), (628, 2, 3, 0, false), (631, 2, 18, 3, false)]) (f := mj_pF ic_P 11060) (by decide +kernel)) (fun _ _ h => by cases h) (fun _ _ h => by cases h) (fun _ _ h => by cases h) rfl rfl ⟨by decide, rfl⟩ pm_mU (fun _ _ h => by cases h) (fun _ h => by cases h)
set_option maxRecDepth 100000 in
theorem pb_X11_findLimit : pm_bks ie_X11_findLimit.1.2.2.2.2 pk_X11_findLimit = true := by decide +kernel
set_option maxRecDepth 100000 in
theorem pg_X11_findLimit_31 {lf : pj_Z → mj_M} (hT : pj_Lt pj_TC lf) : ∀ (b0 : Int32) (s : Nat → Int32) (l : Nat → Int64) (x : Nat → Int32) (y : Nat → Int64) (a : Unit × pj_Z), pl_X11_findLimit_31 b0 s l x y = some a → pm_Gd 0 11060 ie_X11_findLimit.1 pm_rU lf 31 [(0, .ref 0)] [.int b0] (s, l, x, y) a := by
  intro b0 s l x y a h
  exact pm_run ((pq_X11_findLimit_31  b0 s l x y).symm.trans h) (pz_X11_findLimit hT) (pm_bks_ok pb_X11_findLimit) (pm_bks_ok pb_X11_findLimit _ _ rfl) (pm_ndb_ok rfl) (fun _ _ h => by cases h)
set_option maxRecDepth 100000 in
theorem pm_X11_findLimit {lf : pj_Z → mj_M} (hT : pj_Lt pj_TC lf)  (s : Nat → Int32) (l : Nat → Int64) (x : Nat → Int32) (y : Nat → Int64) (a : Unit × pj_Z) (h : pf_X11_findLimit  s l x y = some a) : mj_R ic_P 1 11060 [.ref 0] (lf (s, l, x, y)) (pm_rU a.1) (lf a.2) := by
  refine pm_main (Y := ie_X11_findLimit.1) rfl (Nat.le_of_ble_eq_true rfl) ?_
  exact pm_run ((pq_X11_findLimit_m  s l x y).symm.trans h) (pz_X11_findLimit hT) (pm_bks_ok pb_X11_findLimit) (pm_bks_ok pb_X11_findLimit _ _ rfl) (pm_ndb_ok rfl) (pj_as_all (p := pm_Ex 0 11060 ie_X11_findLimit.1 pm_rU lf a) (List.forall_mem_cons.mpr ⟨pu_X11_findLimit_31 _ (fun c0 s l x y h => pg_X11_findLimit_31 hT c0 s l x y _ h), (fun _ h => by cases h)⟩))
abbrev ph_X11_findLimit {A : Type} : List pj_V → pj_Z → (List pj_V → pj_Z → Option A) → Option A := fun st z K => pj_pr st 0 0 fun st => pj_ps st (pj_b (pf_X11_findLimit  z.1 z.2.1 z.2.2.1 z.2.2.2) fun r s l x y => K st (s, l, x, y))
set_option maxRecDepth 100000 in
theorem pc_X11_findLimit {A : Type} {OK : A → Option Value → mj_M → Prop} {d j pc ix : Nat} {Y : mj_Y} {lf : pj_Z → mj_M} (hT : pj_Lt pj_TC lf) (hd : 1 ≤ d) (hl : mj_lk Y.2.2.2.2 pc = some (.invokevirtual ix, 3)) (hg : mj_pG ic_P j ix = some (11060, 0, some 11)) {lv : List (Nat × Value)} {st : List pj_V} {z : pj_Z} {K : List pj_V → pj_Z → Option A} {a : A} (hK : ∀ st z, K st z = some a → pj_Gd ic_P (mj_R ic_P d) j Y OK lf (pc + 3) lv (pj_es st) z a) (h : ph_X11_findLimit st z K = some a) : pj_Gd ic_P (mj_R ic_P d) j Y OK lf pc lv (pj_es st) z a := by
  obtain ⟨r0, e0, h⟩ := pj_pr_inv h
  obtain ⟨hs, h⟩ := pj_ps_inv h
  obtain ⟨q, hq, h⟩ := pj_b_inv h
  exact pm_cv (o := 0) hl hg [] rfl (by rw [e0]; rfl) hs (by decide) ((hT.2 0 _ rfl).1.2 z 0 (by decide)) (pm_rU q.1) hd (pm_X11_findLimit hT  z.1 z.2.1 z.2.2.1 z.2.2.2 q hq) rfl (hK _ _ h)
abbrev pe_X11_topOf_25 (f : Int32 → pj_F (Int32 × pj_Z)) : pj_K (Int32 × pj_Z) := fun lv st z => pj_xr lv 0 0 0 <| pj_pi st fun b0 st => pj_pe st (f b0 z.1 z.2.1 z.2.2.1 z.2.2.2)
abbrev px_X11_topOf : pj_C (Int32 × pj_Z) := ((pj_as [(0, 11, 17, 1, 0, true, 0, [(2, 1), (2, 20), (2, 58), (2, 68), (2, 82), (2, 83), (2, 85), (2, 96), (2, 102), (2, 106), (2, 122), (0, 93), (0, 94), (0, 95), (1, 1), (1, 2), (0, 96)]), (1, 4, 10, 1, 0, true, 0, [(2, 2), (2, 3), (2, 8), (2, 11), (2, 14), (2, 17), (2, 18), (2, 19), (0, 44), (1, 3)]), (2, 100, 24, 1, 0, true, 10000, [])]), (pj_as [(10, 11, 0, 2, true), (287, 4, 0, 2, true)]), (fun _ => none), (fun _ => none), (fun _ => none), ic_X, 4, 1, pj_mI, (fun _ => none), fun _ => false)
abbrev pk_X11_topOf : List (Nat × List (Nat × Instr × Nat)) := [(0, [(0, .aload_n 0, 1), (1, .getfield 10, 3), (4, .getfield 287, 3), (7, .iconst 0, 1), (8, .iaload, 1), (9, .istore_n 2, 1), (10, .iload_n 2, 1), (11, .ifCond .le 13, 3)]), (14, [(14, .sipush 7200, 3), (17, .iload_n 1, 1), (18, .imul, 1), (19, .iload_n 2, 1), (20, .idiv, 1), (21, .goto 4, 3)]), (24, [(24, .iconst 0, 1)]), (25, [(25, .istore_n 3, 1), (26, .aload_n 0, 1), (27, .getfield 10, 3), (30, .getfield 287, 3), (33, .iconst 1, 1), (34, .iaload, 1), (35, .iload_n 3, 1), (36, .iadd, 1), (37, .sipush 7200, 3), (40, .irem, 1), (41, .ireturn, 1)])]
set_option maxRecDepth 100000 in
theorem pq_X11_topOf_25  (b0 : Int32) (s : Nat → Int32) (l : Nat → Int64) (x : Nat → Int32) (y : Nat → Int64) : pl_X11_topOf_25 b0 s l x y = pj_bl px_X11_topOf (pj_rn px_X11_topOf (pj_as pk_X11_topOf) (fun _ => none) 60) [(25, .istore_n 3, 1), (26, .aload_n 0, 1), (27, .getfield 10, 3), (30, .getfield 287, 3), (33, .iconst 1, 1), (34, .iaload, 1), (35, .iload_n 3, 1), (36, .iadd, 1), (37, .sipush 7200, 3), (40, .irem, 1), (41, .ireturn, 1)] 25 [(0, pj_O (0, 0))] [pj_I b0] (s, l, x, y) := rfl
set_option maxRecDepth 100000 in
theorem pq_X11_topOf_m  (a1 : Int32) (s : Nat → Int32) (l : Nat → Int64) (x : Nat → Int32) (y : Nat → Int64) : pf_X11_topOf a1 s l x y = pj_bl px_X11_topOf (pj_rn px_X11_topOf (pj_as pk_X11_topOf) (pj_as [(25, pe_X11_topOf_25 (pl_X11_topOf_25))]) 60) [(0, .aload_n 0, 1), (1, .getfield 10, 3), (4, .getfield 287, 3), (7, .iconst 0, 1), (8, .iaload, 1), (9, .istore_n 2, 1), (10, .iload_n 2, 1), (11, .ifCond .le 13, 3)] 0 [(0, pj_O (0, 0)), (1, pj_I a1)] [] (s, l, x, y) := rfl
theorem pu_X11_topOf_25 {lf : pj_Z → mj_M} {a : Int32 × pj_Z} (f : Int32 → pj_F (Int32 × pj_Z)) (hf : ∀ (b0 : Int32) (s : Nat → Int32) (l : Nat → Int64) (x : Nat → Int32) (y : Nat → Int64), f b0 s l x y = some a → pm_Gd 0 11059 ie_X11_topOf.1 pm_rI lf 25 [(0, .ref 0)] [.int b0] (s, l, x, y) a) : pm_Ex 0 11059 ie_X11_topOf.1 pm_rI lf a 25 (pe_X11_topOf_25 f) := by
  intro lv st z hd h
  obtain ⟨g0, h⟩ := pj_xr_inv h
  obtain ⟨b0, r0, e0, h⟩ := pj_pi_inv h
  obtain ⟨e9, h⟩ := pj_pe_inv h
  rw [e0, e9]
  exact mj_wp_sub (mj_sub_cons g0 (mj_sub_nil hd)) (hf _ _ _ _ _ h)
set_option maxRecDepth 100000 in
theorem pz_X11_topOf {lf : pj_Z → mj_M} (hT : pj_Lt pj_TC lf) : pj_Cok ic_P (mj_R ic_P 0) 11059 ie_X11_topOf.1 (pm_OK lf pm_rI) lf px_X11_topOf := by
  exact pm_cok (c := px_X11_topOf) (pm_part hT (pj_as_all (p := fun b e => pj_TC b = some e) (List.forall_mem_cons.mpr ⟨rfl, (List.forall_mem_cons.mpr ⟨rfl, (List.forall_mem_cons.mpr ⟨rfl, (fun _ h => by cases h)⟩)⟩)⟩))) (pm_in_ok (L := [(10, 11, 0, 2, true), (287, 4, 0, 2, true)]) (f := mj_pF ic_P 11059) (by decide +kernel)) (fun _ _ h => by cases h) (fun _ _ h => by cases h) (fun _ _ h => by cases h) rfl rfl ⟨by decide, rfl⟩ pm_mI (fun _ _ h => by cases h) (fun _ h => by cases h)
set_option maxRecDepth 100000 in
theorem pb_X11_topOf : pm_bks ie_X11_topOf.1.2.2.2.2 pk_X11_topOf = true := by decide +kernel
set_option maxRecDepth 100000 in
theorem pg_X11_topOf_25 {lf : pj_Z → mj_M} (hT : pj_Lt pj_TC lf) : ∀ (b0 : Int32) (s : Nat → Int32) (l : Nat → Int64) (x : Nat → Int32) (y : Nat → Int64) (a : Int32 × pj_Z), pl_X11_topOf_25 b0 s l x y = some a → pm_Gd 0 11059 ie_X11_topOf.1 pm_rI lf 25 [(0, .ref 0)] [.int b0] (s, l, x, y) a := by
  intro b0 s l x y a h
  exact pm_run ((pq_X11_topOf_25  b0 s l x y).symm.trans h) (pz_X11_topOf hT) (pm_bks_ok pb_X11_topOf) (pm_bks_ok pb_X11_topOf _ _ rfl) (pm_ndb_ok rfl) (fun _ _ h => by cases h)
set_option maxRecDepth 100000 in
theorem pm_X11_topOf {lf : pj_Z → mj_M} (hT : pj_Lt pj_TC lf) (a1 : Int32) (s : Nat → Int32) (l : Nat → Int64) (x : Nat → Int32) (y : Nat → Int64) (a : Int32 × pj_Z) (h : pf_X11_topOf a1 s l x y = some a) : mj_R ic_P 1 11059 [.ref 0, .int a1] (lf (s, l, x, y)) (pm_rI a.1) (lf a.2) := by
  refine pm_main (Y := ie_X11_topOf.1) rfl (Nat.le_of_ble_eq_true rfl) ?_
  exact pm_run ((pq_X11_topOf_m a1 s l x y).symm.trans h) (pz_X11_topOf hT) (pm_bks_ok pb_X11_topOf) (pm_bks_ok pb_X11_topOf _ _ rfl) (pm_ndb_ok rfl) (pj_as_all (p := pm_Ex 0 11059 ie_X11_topOf.1 pm_rI lf a) (List.forall_mem_cons.mpr ⟨pu_X11_topOf_25 _ (fun c0 s l x y h => pg_X11_topOf_25 hT c0 s l x y _ h), (fun _ h => by cases h)⟩))
abbrev ph_X11_topOf {A : Type} : List pj_V → pj_Z → (List pj_V → pj_Z → Option A) → Option A := fun st z K => pj_pi st fun a1 st => pj_pr st 0 0 fun st => pj_ps st (pj_b (pf_X11_topOf a1 z.1 z.2.1 z.2.2.1 z.2.2.2) fun r s l x y => K (pj_I r :: st) (s, l, x, y))
set_option maxRecDepth 100000 in
theorem pc_X11_topOf {A : Type} {OK : A → Option Value → mj_M → Prop} {d j pc ix : Nat} {Y : mj_Y} {lf : pj_Z → mj_M} (hT : pj_Lt pj_TC lf) (hd : 1 ≤ d) (hl : mj_lk Y.2.2.2.2 pc = some (.invokevirtual ix, 3)) (hg : mj_pG ic_P j ix = some (11059, 1, some 11)) {lv : List (Nat × Value)} {st : List pj_V} {z : pj_Z} {K : List pj_V → pj_Z → Option A} {a : A} (hK : ∀ st z, K st z = some a → pj_Gd ic_P (mj_R ic_P d) j Y OK lf (pc + 3) lv (pj_es st) z a) (h : ph_X11_topOf st z K = some a) : pj_Gd ic_P (mj_R ic_P d) j Y OK lf pc lv (pj_es st) z a := by
  obtain ⟨a1, r1, e1, h⟩ := pj_pi_inv h
  obtain ⟨r0, e0, h⟩ := pj_pr_inv h
  obtain ⟨hs, h⟩ := pj_ps_inv h
  obtain ⟨q, hq, h⟩ := pj_b_inv h
  exact pm_cv (o := 0) hl hg [.int a1] rfl (by rw [e1, e0]; rfl) hs (by decide) ((hT.2 0 _ rfl).1.2 z 0 (by decide)) (pm_rI q.1) hd (pm_X11_topOf hT a1 z.1 z.2.1 z.2.2.1 z.2.2.2 q hq) rfl (hK _ _ h)
abbrev px_X2_angleNow : pj_C (Int32 × pj_Z) := ((pj_as [(58, 2, 19, 1, 0, true, 0, [(0, 19), (0, 20), (1, 4), (1, 5), (1, 6), (1, 7), (0, 21), (0, 22), (0, 23), (0, 24), (0, 25), (2, 59), (2, 63), (0, 26), (1, 8), (1, 9), (1, 10), (0, 27), (0, 28)])]), (pj_as [(36, 2, 4, 0, false), (39, 2, 5, 0, false)]), (fun _ => none), (fun _ => none), (fun _ => none), ic_X, 1, 1, pj_mI, (fun _ => none), fun _ => false)
abbrev pk_X2_angleNow : List (Nat × List (Nat × Instr × Nat)) := [(0, [(0, .sipush 3600, 3), (3, .aload_n 0, 1), (4, .getfield 39, 3), (7, .imul, 1), (8, .bipush 60, 2), (10, .aload_n 0, 1), (11, .getfield 36, 3), (14, .imul, 1), (15, .iadd, 1), (16, .ireturn, 1)])]
set_option maxRecDepth 100000 in
theorem pq_X2_angleNow_m   (s : Nat → Int32) (l : Nat → Int64) (x : Nat → Int32) (y : Nat → Int64) : pf_X2_angleNow  s l x y = pj_bl px_X2_angleNow (pj_rn px_X2_angleNow (pj_as pk_X2_angleNow) (fun _ => none) 60) [(0, .sipush 3600, 3), (3, .aload_n 0, 1), (4, .getfield 39, 3), (7, .imul, 1), (8, .bipush 60, 2), (10, .aload_n 0, 1), (11, .getfield 36, 3), (14, .imul, 1), (15, .iadd, 1), (16, .ireturn, 1)] 0 [(0, pj_O (58, 0))] [] (s, l, x, y) := rfl
set_option maxRecDepth 100000 in
theorem pz_X2_angleNow {lf : pj_Z → mj_M} (hT : pj_Lt pj_TC lf) : pj_Cok ic_P (mj_R ic_P 0) 2011 ie_X2_angleNow.1 (pm_OK lf pm_rI) lf px_X2_angleNow := by
  exact pm_cok (c := px_X2_angleNow) (pm_part hT (pj_as_all (p := fun b e => pj_TC b = some e) (List.forall_mem_cons.mpr ⟨rfl, (fun _ h => by cases h)⟩))) (pm_in_ok (L := [(36, 2, 4, 0, false), (39, 2, 5, 0, false)]) (f := mj_pF ic_P 2011) (by decide +kernel)) (fun _ _ h => by cases h) (fun _ _ h => by cases h) (fun _ _ h => by cases h) rfl rfl ⟨by decide, rfl⟩ pm_mI (fun _ _ h => by cases h) (fun _ h => by cases h)
set_option maxRecDepth 100000 in
theorem pb_X2_angleNow : pm_bks ie_X2_angleNow.1.2.2.2.2 pk_X2_angleNow = true := by decide +kernel
set_option maxRecDepth 100000 in
theorem pm_X2_angleNow {lf : pj_Z → mj_M} (hT : pj_Lt pj_TC lf)  (s : Nat → Int32) (l : Nat → Int64) (x : Nat → Int32) (y : Nat → Int64) (a : Int32 × pj_Z) (h : pf_X2_angleNow  s l x y = some a) : mj_R ic_P 1 2011 [.ref 58] (lf (s, l, x, y)) (pm_rI a.1) (lf a.2) := by
  refine pm_main (Y := ie_X2_angleNow.1) rfl (Nat.le_of_ble_eq_true rfl) ?_
  exact pm_run ((pq_X2_angleNow_m  s l x y).symm.trans h) (pz_X2_angleNow hT) (pm_bks_ok pb_X2_angleNow) (pm_bks_ok pb_X2_angleNow _ _ rfl) (pm_ndb_ok rfl) (fun _ _ h => by cases h)
abbrev ph_X2_angleNow {A : Type} : List pj_V → pj_Z → (List pj_V → pj_Z → Option A) → Option A := fun st z K => pj_pr st 58 0 fun st => pj_ps st (pj_b (pf_X2_angleNow  z.1 z.2.1 z.2.2.1 z.2.2.2) fun r s l x y => K (pj_I r :: st) (s, l, x, y))
set_option maxRecDepth 100000 in
theorem pc_X2_angleNow {A : Type} {OK : A → Option Value → mj_M → Prop} {d j pc ix : Nat} {Y : mj_Y} {lf : pj_Z → mj_M} (hT : pj_Lt pj_TC lf) (hd : 1 ≤ d) (hl : mj_lk Y.2.2.2.2 pc = some (.invokevirtual ix, 3)) (hg : mj_pG ic_P j ix = some (2011, 0, some 2)) {lv : List (Nat × Value)} {st : List pj_V} {z : pj_Z} {K : List pj_V → pj_Z → Option A} {a : A} (hK : ∀ st z, K st z = some a → pj_Gd ic_P (mj_R ic_P d) j Y OK lf (pc + 3) lv (pj_es st) z a) (h : ph_X2_angleNow st z K = some a) : pj_Gd ic_P (mj_R ic_P d) j Y OK lf pc lv (pj_es st) z a := by
  obtain ⟨r0, e0, h⟩ := pj_pr_inv h
  obtain ⟨hs, h⟩ := pj_ps_inv h
  obtain ⟨q, hq, h⟩ := pj_b_inv h
  exact pm_cv (o := 58) hl hg [] rfl (by rw [e0]; rfl) hs (by decide) ((hT.2 58 _ rfl).1.2 z 0 (by decide)) (pm_rI q.1) hd (pm_X2_angleNow hT  z.1 z.2.1 z.2.2.1 z.2.2.2 q hq) rfl (hK _ _ h)
abbrev pe_X2_standsFor_29 (f : Int32 → Int32 → pj_F (Int32 × pj_Z)) : pj_K (Int32 × pj_Z) := fun lv st z => pj_pi st fun b1 st => pj_pi st fun b0 st => pj_pe st (f b0 b1 z.1 z.2.1 z.2.2.1 z.2.2.2)
abbrev px_X2_standsFor : pj_C (Int32 × pj_Z) := ((pj_as [(58, 2, 19, 1, 0, true, 0, [(0, 19), (0, 20), (1, 4), (1, 5), (1, 6), (1, 7), (0, 21), (0, 22), (0, 23), (0, 24), (0, 25), (2, 59), (2, 63), (0, 26), (1, 8), (1, 9), (1, 10), (0, 27), (0, 28)])]), (pj_as [(36, 2, 4, 0, false)]), (fun _ => none), (fun _ => none), (fun _ => none), ic_X, 2, 2, pj_mI, (pj_as [(2, ph_X2_angleNow), (9, ph_J9_floorMod_7cf53)]), fun _ => false)
abbrev pk_X2_standsFor : List (Nat × List (Nat × Instr × Nat)) := [(0, [(0, .iload_n 1, 1), (1, .aload_n 0, 1), (2, .invokevirtual 125, 3), (5, .isub, 1), (6, .sipush 7200, 3), (9, .invokestatic 129, 3), (12, .aload_n 0, 1), (13, .getfield 36, 3), (16, .bipush 57, 2), (18, .if_icmp .ne 9, 3)]), (21, [(21, .sipush 180, 3), (24, .goto 5, 3)]), (27, [(27, .bipush 60, 2)]), (29, [(29, .if_icmp .ge 7, 3)]), (32, [(32, .iconst 1, 1), (33, .goto 4, 3)]), (36, [(36, .iconst 0, 1)]), (37, [(37, .ireturn, 1)])]
set_option maxRecDepth 100000 in
theorem pq_X2_standsFor_29  (b0 : Int32) (b1 : Int32) (s : Nat → Int32) (l : Nat → Int64) (x : Nat → Int32) (y : Nat → Int64) : pl_X2_standsFor_29 b0 b1 s l x y = pj_bl px_X2_standsFor (pj_rn px_X2_standsFor (pj_as pk_X2_standsFor) (fun _ => none) 60) [(29, .if_icmp .ge 7, 3)] 29 [] [pj_I b1, pj_I b0] (s, l, x, y) := rfl
set_option maxRecDepth 100000 in
theorem pq_X2_standsFor_m  (a1 : Int32) (s : Nat → Int32) (l : Nat → Int64) (x : Nat → Int32) (y : Nat → Int64) : pf_X2_standsFor a1 s l x y = pj_bl px_X2_standsFor (pj_rn px_X2_standsFor (pj_as pk_X2_standsFor) (pj_as [(29, pe_X2_standsFor_29 (pl_X2_standsFor_29))]) 60) [(0, .iload_n 1, 1), (1, .aload_n 0, 1), (2, .invokevirtual 125, 3), (5, .isub, 1), (6, .sipush 7200, 3), (9, .invokestatic 129, 3), (12, .aload_n 0, 1), (13, .getfield 36, 3), (16, .bipush 57, 2), (18, .if_icmp .ne 9, 3)] 0 [(0, pj_O (58, 0)), (1, pj_I a1)] [] (s, l, x, y) := rfl
theorem pu_X2_standsFor_29 {lf : pj_Z → mj_M} {a : Int32 × pj_Z} (f : Int32 → Int32 → pj_F (Int32 × pj_Z)) (hf : ∀ (b0 : Int32) (b1 : Int32) (s : Nat → Int32) (l : Nat → Int64) (x : Nat → Int32) (y : Nat → Int64), f b0 b1 s l x y = some a → pm_Gd 1 2012 ie_X2_standsFor.1 pm_rI lf 29 [] [.int b1, .int b0] (s, l, x, y) a) : pm_Ex 1 2012 ie_X2_standsFor.1 pm_rI lf a 29 (pe_X2_standsFor_29 f) := by
  intro lv st z hd h
  obtain ⟨b1, r1, e1, h⟩ := pj_pi_inv h
  obtain ⟨b0, r0, e0, h⟩ := pj_pi_inv h
  obtain ⟨e9, h⟩ := pj_pe_inv h
  rw [e1, e0, e9]
  exact mj_wp_sub (mj_sub_nil hd) (hf _ _ _ _ _ _ h)
set_option maxRecDepth 100000 in
theorem pz_X2_standsFor {lf : pj_Z → mj_M} (hT : pj_Lt pj_TC lf) : pj_Cok ic_P (mj_R ic_P 1) 2012 ie_X2_standsFor.1 (pm_OK lf pm_rI) lf px_X2_standsFor := by
  exact pm_cok (c := px_X2_standsFor) (pm_part hT (pj_as_all (p := fun b e => pj_TC b = some e) (List.forall_mem_cons.mpr ⟨rfl, (fun _ h => by cases h)⟩))) (pm_in_ok (L := [(36, 2, 4, 0, false)]) (f := mj_pF ic_P 2012) (by decide +kernel)) (fun _ _ h => by cases h) (fun _ _ h => by cases h) (fun _ _ h => by cases h) rfl rfl ⟨by decide, rfl⟩ pm_mI (pj_as_all (p := pm_Cl 1 2012 ie_X2_standsFor.1 lf (pm_OK lf pm_rI)) (List.forall_mem_cons.mpr ⟨fun _ _ lv st z K a hK h => pc_X2_angleNow hT (by decide) (ix := 125) rfl rfl hK h, (List.forall_mem_cons.mpr ⟨fun _ _ lv st z K a hK h => pc_J9_floorMod_7cf53 (pm_none hT) (by decide) (ix := 129) rfl rfl hK h, (fun _ h => by cases h)⟩)⟩)) (fun _ h => by cases h)
set_option maxRecDepth 100000 in
theorem pb_X2_standsFor : pm_bks ie_X2_standsFor.1.2.2.2.2 pk_X2_standsFor = true := by decide +kernel
set_option maxRecDepth 100000 in
theorem pg_X2_standsFor_29 {lf : pj_Z → mj_M} (hT : pj_Lt pj_TC lf) : ∀ (b0 : Int32) (b1 : Int32) (s : Nat → Int32) (l : Nat → Int64) (x : Nat → Int32) (y : Nat → Int64) (a : Int32 × pj_Z), pl_X2_standsFor_29 b0 b1 s l x y = some a → pm_Gd 1 2012 ie_X2_standsFor.1 pm_rI lf 29 [] [.int b1, .int b0] (s, l, x, y) a := by
  intro b0 b1 s l x y a h
  exact pm_run ((pq_X2_standsFor_29  b0 b1 s l x y).symm.trans h) (pz_X2_standsFor hT) (pm_bks_ok pb_X2_standsFor) (pm_bks_ok pb_X2_standsFor _ _ rfl) (pm_ndb_ok rfl) (fun _ _ h => by cases h)
set_option maxRecDepth 100000 in
theorem pm_X2_standsFor {lf : pj_Z → mj_M} (hT : pj_Lt pj_TC lf) (a1 : Int32) (s : Nat → Int32) (l : Nat → Int64) (x : Nat → Int32) (y : Nat → Int64) (a : Int32 × pj_Z) (h : pf_X2_standsFor a1 s l x y = some a) : mj_R ic_P 2 2012 [.ref 58, .int a1] (lf (s, l, x, y)) (pm_rI a.1) (lf a.2) := by
  refine pm_main (Y := ie_X2_standsFor.1) rfl (Nat.le_of_ble_eq_true rfl) ?_
  exact pm_run ((pq_X2_standsFor_m a1 s l x y).symm.trans h) (pz_X2_standsFor hT) (pm_bks_ok pb_X2_standsFor) (pm_bks_ok pb_X2_standsFor _ _ rfl) (pm_ndb_ok rfl) (pj_as_all (p := pm_Ex 1 2012 ie_X2_standsFor.1 pm_rI lf a) (List.forall_mem_cons.mpr ⟨pu_X2_standsFor_29 _ (fun c0 c1 s l x y h => pg_X2_standsFor_29 hT c0 c1 s l x y _ h), (fun _ h => by cases h)⟩))
abbrev ph_X2_standsFor {A : Type} : List pj_V → pj_Z → (List pj_V → pj_Z → Option A) → Option A := fun st z K => pj_pi st fun a1 st => pj_pr st 58 0 fun st => pj_ps st (pj_b (pf_X2_standsFor a1 z.1 z.2.1 z.2.2.1 z.2.2.2) fun r s l x y => K (pj_I r :: st) (s, l, x, y))
set_option maxRecDepth 100000 in
theorem pc_X2_standsFor {A : Type} {OK : A → Option Value → mj_M → Prop} {d j pc ix : Nat} {Y : mj_Y} {lf : pj_Z → mj_M} (hT : pj_Lt pj_TC lf) (hd : 2 ≤ d) (hl : mj_lk Y.2.2.2.2 pc = some (.invokevirtual ix, 3)) (hg : mj_pG ic_P j ix = some (2012, 1, some 2)) {lv : List (Nat × Value)} {st : List pj_V} {z : pj_Z} {K : List pj_V → pj_Z → Option A} {a : A} (hK : ∀ st z, K st z = some a → pj_Gd ic_P (mj_R ic_P d) j Y OK lf (pc + 3) lv (pj_es st) z a) (h : ph_X2_standsFor st z K = some a) : pj_Gd ic_P (mj_R ic_P d) j Y OK lf pc lv (pj_es st) z a := by
  obtain ⟨a1, r1, e1, h⟩ := pj_pi_inv h
  obtain ⟨r0, e0, h⟩ := pj_pr_inv h
  obtain ⟨hs, h⟩ := pj_ps_inv h
  obtain ⟨q, hq, h⟩ := pj_b_inv h
  exact pm_cv (o := 58) hl hg [.int a1] rfl (by rw [e1, e0]; rfl) hs (by decide) ((hT.2 58 _ rfl).1.2 z 0 (by decide)) (pm_rI q.1) hd (pm_X2_standsFor hT a1 z.1 z.2.1 z.2.2.1 z.2.2.2 q hq) rfl (hK _ _ h)
abbrev pe_X2_countMiss_23 (f : Int32 → Int64 → Int64 → pj_F (Unit × pj_Z)) : pj_K (Unit × pj_Z) := fun lv st z => pj_xr lv 0 58 0 <| pj_xi lv 1 fun a1 => pj_xl lv 2 fun a2 => pj_pl st fun b0 st => pj_pe st (f a1 a2 b0 z.1 z.2.1 z.2.2.1 z.2.2.2)
abbrev pe_X2_countMiss_95 (f : Int32 → Int64 → Int64 → pj_F (Unit × pj_Z)) : pj_K (Unit × pj_Z) := fun lv st z => pj_xr lv 0 58 0 <| pj_xi lv 1 fun a1 => pj_xl lv 2 fun a2 => pj_xl lv 4 fun a4 => pj_pe st (f a1 a2 a4 z.1 z.2.1 z.2.2.1 z.2.2.2)
abbrev px_X2_countMiss : pj_C (Unit × pj_Z) := ((pj_as [(58, 2, 19, 1, 0, true, 0, [(0, 19), (0, 20), (1, 4), (1, 5), (1, 6), (1, 7), (0, 21), (0, 22), (0, 23), (0, 24), (0, 25), (2, 59), (2, 63), (0, 26), (1, 8), (1, 9), (1, 10), (0, 27), (0, 28)]), (63, 103, 4, 1, 0, true, 64, []), (64, 100, 8, 4, 1, true, 8000, [])]), (pj_as [(16, 2, 12, 2, true), (64, 2, 13, 0, false), (67, 2, 16, 0, false), (81, 2, 14, 1, false), (84, 2, 15, 1, false)]), (fun _ => none), (pj_as [(79, (-1)), (134, 8)]), (fun _ => none), ic_X, 6, 0, pj_mU, (fun _ => none), fun _ => false)
abbrev pk_X2_countMiss : List (Nat × List (Nat × Instr × Nat)) := [(0, [(0, .aload_n 0, 1), (1, .getfield 81, 3), (4, .ldc2_w 79, 3), (7, .lcmp, 1), (8, .ifCond .ne 9, 3)]), (11, [(11, .ldc2_w 79, 3), (14, .goto 9, 3)]), (17, [(17, .lload_n 2, 1), (18, .aload_n 0, 1), (19, .getfield 81, 3), (22, .lsub, 1)]), (23, [(23, .lstore 4, 2), (25, .lload 4, 2), (27, .ldc2_w 79, 3), (30, .lcmp, 1), (31, .ifCond .eq 64, 3)]), (34, [(34, .aload_n 0, 1), (35, .getfield 84, 3), (38, .ldc2_w 79, 3), (41, .lcmp, 1), (42, .ifCond .eq 53, 3)]), (45, [(45, .lload 4, 2), (47, .aload_n 0, 1), (48, .getfield 84, 3), (51, .aload_n 0, 1), (52, .getfield 84, 3), (55, .ldc2_w 134, 3), (58, .ldiv, 1), (59, .ladd, 1), (60, .lcmp, 1), (61, .ifCond .le 34, 3)]), (64, [(64, .aload_n 0, 1), (65, .getfield 67, 3), (68, .ifCond .lt 27, 3)]), (71, [(71, .aload_n 0, 1), (72, .getfield 67, 3), (75, .bipush 8, 2), (77, .if_icmp .ge 18, 3)]), (80, [(80, .aload_n 0, 1), (81, .getfield 16, 3), (84, .iconst 1, 1), (85, .aaload, 1), (86, .aload_n 0, 1), (87, .getfield 67, 3), (90, .dup2, 1), (91, .iaload, 1), (92, .iconst 1, 1), (93, .iadd, 1), (94, .iastore, 1)]), (95, [(95, .aload_n 0, 1), (96, .lload 4, 2), (98, .putfield 84, 3), (101, .aload_n 0, 1), (102, .lload_n 2, 1), (103, .putfield 81, 3), (106, .aload_n 0, 1), (107, .iload_n 1, 1), (108, .putfield 67, 3), (111, .aload_n 0, 1), (112, .aload_n 0, 1), (113, .getfield 64, 3), (116, .iconst 1, 1), (117, .iadd, 1), (118, .sipush 200, 3), (121, .irem, 1), (122, .putfield 64, 3), (125, .return_, 1)])]
set_option maxRecDepth 100000 in
theorem pq_X2_countMiss_95  (a1 : Int32) (a2 : Int64) (a4 : Int64) (s : Nat → Int32) (l : Nat → Int64) (x : Nat → Int32) (y : Nat → Int64) : pl_X2_countMiss_95 a1 a2 a4 s l x y = pj_bl px_X2_countMiss (pj_rn px_X2_countMiss (pj_as pk_X2_countMiss) (fun _ => none) 60) [(95, .aload_n 0, 1), (96, .lload 4, 2), (98, .putfield 84, 3), (101, .aload_n 0, 1), (102, .lload_n 2, 1), (103, .putfield 81, 3), (106, .aload_n 0, 1), (107, .iload_n 1, 1), (108, .putfield 67, 3), (111, .aload_n 0, 1), (112, .aload_n 0, 1), (113, .getfield 64, 3), (116, .iconst 1, 1), (117, .iadd, 1), (118, .sipush 200, 3), (121, .irem, 1), (122, .putfield 64, 3), (125, .return_, 1)] 95 [(0, pj_O (58, 0)), (1, pj_I a1), (2, pj_L a2), (4, pj_L a4)] [] (s, l, x, y) := rfl
set_option maxRecDepth 100000 in
theorem pq_X2_countMiss_23  (a1 : Int32) (a2 : Int64) (b0 : Int64) (s : Nat → Int32) (l : Nat → Int64) (x : Nat → Int32) (y : Nat → Int64) : pl_X2_countMiss_23 a1 a2 b0 s l x y = pj_bl px_X2_countMiss (pj_rn px_X2_countMiss (pj_as pk_X2_countMiss) (pj_as [(95, pe_X2_countMiss_95 (pl_X2_countMiss_95))]) 60) [(23, .lstore 4, 2), (25, .lload 4, 2), (27, .ldc2_w 79, 3), (30, .lcmp, 1), (31, .ifCond .eq 64, 3)] 23 [(0, pj_O (58, 0)), (1, pj_I a1), (2, pj_L a2)] [pj_L b0] (s, l, x, y) := rfl
set_option maxRecDepth 100000 in
theorem pq_X2_countMiss_m  (a1 : Int32) (a2 : Int64) (s : Nat → Int32) (l : Nat → Int64) (x : Nat → Int32) (y : Nat → Int64) : pf_X2_countMiss a1 a2 s l x y = pj_bl px_X2_countMiss (pj_rn px_X2_countMiss (pj_as pk_X2_countMiss) (pj_as [(23, pe_X2_countMiss_23 (pl_X2_countMiss_23))]) 60) [(0, .aload_n 0, 1), (1, .getfield 81, 3), (4, .ldc2_w 79, 3), (7, .lcmp, 1), (8, .ifCond .ne 9, 3)] 0 [(0, pj_O (58, 0)), (1, pj_I a1), (2, pj_L a2)] [] (s, l, x, y) := rfl
theorem pu_X2_countMiss_23 {lf : pj_Z → mj_M} {a : Unit × pj_Z} (f : Int32 → Int64 → Int64 → pj_F (Unit × pj_Z)) (hf : ∀ (a1 : Int32) (a2 : Int64) (b0 : Int64) (s : Nat → Int32) (l : Nat → Int64) (x : Nat → Int32) (y : Nat → Int64), f a1 a2 b0 s l x y = some a → pm_Gd 0 2014 ie_X2_countMiss.1 pm_rU lf 23 [(0, .ref 58), (1, .int a1), (2, .long a2)] [.long b0] (s, l, x, y) a) : pm_Ex 0 2014 ie_X2_countMiss.1 pm_rU lf a 23 (pe_X2_countMiss_23 f) := by
  intro lv st z hd h
  obtain ⟨g0, h⟩ := pj_xr_inv h
  obtain ⟨a1, g1, h⟩ := pj_xi_inv h
  obtain ⟨a2, g2, h⟩ := pj_xl_inv h
  obtain ⟨b0, r0, e0, h⟩ := pj_pl_inv h
  obtain ⟨e9, h⟩ := pj_pe_inv h
  rw [e0, e9]
  exact mj_wp_sub (mj_sub_cons g0 (mj_sub_cons g1 (mj_sub_cons g2 (mj_sub_nil hd)))) (hf _ _ _ _ _ _ _ h)
theorem pu_X2_countMiss_95 {lf : pj_Z → mj_M} {a : Unit × pj_Z} (f : Int32 → Int64 → Int64 → pj_F (Unit × pj_Z)) (hf : ∀ (a1 : Int32) (a2 : Int64) (a4 : Int64) (s : Nat → Int32) (l : Nat → Int64) (x : Nat → Int32) (y : Nat → Int64), f a1 a2 a4 s l x y = some a → pm_Gd 0 2014 ie_X2_countMiss.1 pm_rU lf 95 [(0, .ref 58), (1, .int a1), (2, .long a2), (4, .long a4)] [] (s, l, x, y) a) : pm_Ex 0 2014 ie_X2_countMiss.1 pm_rU lf a 95 (pe_X2_countMiss_95 f) := by
  intro lv st z hd h
  obtain ⟨g0, h⟩ := pj_xr_inv h
  obtain ⟨a1, g1, h⟩ := pj_xi_inv h
  obtain ⟨a2, g2, h⟩ := pj_xl_inv h
  obtain ⟨a4, g4, h⟩ := pj_xl_inv h
  obtain ⟨e9, h⟩ := pj_pe_inv h
  rw [e9]
  exact mj_wp_sub (mj_sub_cons g0 (mj_sub_cons g1 (mj_sub_cons g2 (mj_sub_cons g4 (mj_sub_nil hd))))) (hf _ _ _ _ _ _ _ h)
set_option maxRecDepth 100000 in
theorem pz_X2_countMiss {lf : pj_Z → mj_M} (hT : pj_Lt pj_TC lf) : pj_Cok ic_P (mj_R ic_P 0) 2014 ie_X2_countMiss.1 (pm_OK lf pm_rU) lf px_X2_countMiss := by
  exact pm_cok (c := px_X2_countMiss) (pm_part hT (pj_as_all (p := fun b e => pj_TC b = some e) (List.forall_mem_cons.mpr ⟨rfl, (List.forall_mem_cons.mpr ⟨rfl, (List.forall_mem_cons.mpr ⟨rfl, (fun _ h => by cases h)⟩)⟩)⟩))) (pm_in_ok (L := [(16, 2, 12, 2, true), (64, 2, 13, 0, false), (67, 2, 16, 0, false), (81, 2, 14, 1, false), (84, 2, 15, 1, false)]) (f := mj_pF ic_P 2014) (by decide +kernel)) (fun _ _ h => by cases h) (pm_inL_ok (L := [(79, (-1)), (134, 8)]) (f := mj_pL ic_P 2014) (by decide +kernel)) (fun _ _ h => by cases h) rfl rfl ⟨by decide, rfl⟩ pm_mU (fun _ _ h => by cases h) (fun _ h => by cases h)
set_option maxRecDepth 100000 in
theorem pb_X2_countMiss : pm_bks ie_X2_countMiss.1.2.2.2.2 pk_X2_countMiss = true := by decide +kernel
set_option maxRecDepth 100000 in
theorem pg_X2_countMiss_95 {lf : pj_Z → mj_M} (hT : pj_Lt pj_TC lf) : ∀ (a1 : Int32) (a2 : Int64) (a4 : Int64) (s : Nat → Int32) (l : Nat → Int64) (x : Nat → Int32) (y : Nat → Int64) (a : Unit × pj_Z), pl_X2_countMiss_95 a1 a2 a4 s l x y = some a → pm_Gd 0 2014 ie_X2_countMiss.1 pm_rU lf 95 [(0, .ref 58), (1, .int a1), (2, .long a2), (4, .long a4)] [] (s, l, x, y) a := by
  intro a1 a2 a4 s l x y a h
  exact pm_run ((pq_X2_countMiss_95  a1 a2 a4 s l x y).symm.trans h) (pz_X2_countMiss hT) (pm_bks_ok pb_X2_countMiss) (pm_bks_ok pb_X2_countMiss _ _ rfl) (pm_ndb_ok rfl) (fun _ _ h => by cases h)
set_option maxRecDepth 100000 in
theorem pg_X2_countMiss_23 {lf : pj_Z → mj_M} (hT : pj_Lt pj_TC lf) : ∀ (a1 : Int32) (a2 : Int64) (b0 : Int64) (s : Nat → Int32) (l : Nat → Int64) (x : Nat → Int32) (y : Nat → Int64) (a : Unit × pj_Z), pl_X2_countMiss_23 a1 a2 b0 s l x y = some a → pm_Gd 0 2014 ie_X2_countMiss.1 pm_rU lf 23 [(0, .ref 58), (1, .int a1), (2, .long a2)] [.long b0] (s, l, x, y) a := by
  intro a1 a2 b0 s l x y a h
  exact pm_run ((pq_X2_countMiss_23  a1 a2 b0 s l x y).symm.trans h) (pz_X2_countMiss hT) (pm_bks_ok pb_X2_countMiss) (pm_bks_ok pb_X2_countMiss _ _ rfl) (pm_ndb_ok rfl) (pj_as_all (p := pm_Ex 0 2014 ie_X2_countMiss.1 pm_rU lf a) (List.forall_mem_cons.mpr ⟨pu_X2_countMiss_95 _ (fun c0 c1 c2 s l x y h => pg_X2_countMiss_95 hT c0 c1 c2 s l x y _ h), (fun _ h => by cases h)⟩))
set_option maxRecDepth 100000 in
theorem pm_X2_countMiss {lf : pj_Z → mj_M} (hT : pj_Lt pj_TC lf) (a1 : Int32) (a2 : Int64) (s : Nat → Int32) (l : Nat → Int64) (x : Nat → Int32) (y : Nat → Int64) (a : Unit × pj_Z) (h : pf_X2_countMiss a1 a2 s l x y = some a) : mj_R ic_P 1 2014 [.ref 58, .int a1, .long a2] (lf (s, l, x, y)) (pm_rU a.1) (lf a.2) := by
  refine pm_main (Y := ie_X2_countMiss.1) rfl (Nat.le_of_ble_eq_true rfl) ?_
  exact pm_run ((pq_X2_countMiss_m a1 a2 s l x y).symm.trans h) (pz_X2_countMiss hT) (pm_bks_ok pb_X2_countMiss) (pm_bks_ok pb_X2_countMiss _ _ rfl) (pm_ndb_ok rfl) (pj_as_all (p := pm_Ex 0 2014 ie_X2_countMiss.1 pm_rU lf a) (List.forall_mem_cons.mpr ⟨pu_X2_countMiss_23 _ (fun c0 c1 c2 s l x y h => pg_X2_countMiss_23 hT c0 c1 c2 s l x y _ h), (fun _ h => by cases h)⟩))
abbrev ph_X2_countMiss {A : Type} : List pj_V → pj_Z → (List pj_V → pj_Z → Option A) → Option A := fun st z K => pj_pl st fun a2 st => pj_pi st fun a1 st => pj_pr st 58 0 fun st => pj_ps st (pj_b (pf_X2_countMiss a1 a2 z.1 z.2.1 z.2.2.1 z.2.2.2) fun r s l x y => K st (s, l, x, y))
set_option maxRecDepth 100000 in
theorem pc_X2_countMiss {A : Type} {OK : A → Option Value → mj_M → Prop} {d j pc ix : Nat} {Y : mj_Y} {lf : pj_Z → mj_M} (hT : pj_Lt pj_TC lf) (hd : 1 ≤ d) (hl : mj_lk Y.2.2.2.2 pc = some (.invokevirtual ix, 3)) (hg : mj_pG ic_P j ix = some (2014, 2, some 2)) {lv : List (Nat × Value)} {st : List pj_V} {z : pj_Z} {K : List pj_V → pj_Z → Option A} {a : A} (hK : ∀ st z, K st z = some a → pj_Gd ic_P (mj_R ic_P d) j Y OK lf (pc + 3) lv (pj_es st) z a) (h : ph_X2_countMiss st z K = some a) : pj_Gd ic_P (mj_R ic_P d) j Y OK lf pc lv (pj_es st) z a := by
  obtain ⟨a2, r2, e2, h⟩ := pj_pl_inv h
  obtain ⟨a1, r1, e1, h⟩ := pj_pi_inv h
  obtain ⟨r0, e0, h⟩ := pj_pr_inv h
  obtain ⟨hs, h⟩ := pj_ps_inv h
  obtain ⟨q, hq, h⟩ := pj_b_inv h
  exact pm_cv (o := 58) hl hg [.int a1, .long a2] rfl (by rw [e2, e1, e0]; rfl) hs (by decide) ((hT.2 58 _ rfl).1.2 z 0 (by decide)) (pm_rU q.1) hd (pm_X2_countMiss hT a1 a2 z.1 z.2.1 z.2.2.1 z.2.2.2 q hq) rfl (hK _ _ h)
abbrev pe_J7_fill_53178_v9_5 (f : Int32 → Int32 → Int32 → pj_F (Unit × pj_Z)) : pj_K (Unit × pj_Z) := fun lv st z => pj_xr lv 0 64 1 <| pj_xi lv 1 fun a1 => pj_xi lv 2 fun a2 => pj_xi lv 3 fun a3 => pj_pe st (f a1 a2 a3 z.1 z.2.1 z.2.2.1 z.2.2.2)
abbrev px_J7_fill_53178_v9 : pj_C (Unit × pj_Z) := ((pj_as [(64, 100, 8, 4, 1, true, 8000, [])]), (fun _ => none), (fun _ => none), (fun _ => none), (fun _ => none), ic_X, 4, 0, pj_mU, (fun _ => none), fun _ => false)
abbrev pk_J7_fill_53178_v9 : List (Nat × List (Nat × Instr × Nat)) := [(0, [(0, .iconst 0, 1), (1, .istore_n 2, 1), (2, .aload_n 0, 1), (3, .arraylength, 1), (4, .istore_n 3, 1)]), (5, [(5, .iload_n 2, 1), (6, .iload_n 3, 1), (7, .if_icmp .ge 13, 3)]), (10, [(10, .aload_n 0, 1), (11, .iload_n 2, 1), (12, .iload_n 1, 1), (13, .iastore, 1), (14, .iinc 2 1, 3), (17, .goto (-12), 3)]), (20, [(20, .return_, 1)])]
set_option maxRecDepth 100000 in
theorem pq_J7_fill_53178_v9_5 (fu : Nat)  (n : Nat) (a1 : Int32) (a2 : Int32) (a3 : Int32) (s : Nat → Int32) (l : Nat → Int64) (x : Nat → Int32) (y : Nat → Int64) : pl_J7_fill_53178_v9_5 fu (n + 1) a1 a2 a3 s l x y = pj_bl px_J7_fill_53178_v9 (pj_rn px_J7_fill_53178_v9 (pj_as pk_J7_fill_53178_v9) (pj_as [(5, pe_J7_fill_53178_v9_5 (pl_J7_fill_53178_v9_5 fu n))]) 60) [(5, .iload_n 2, 1), (6, .iload_n 3, 1), (7, .if_icmp .ge 13, 3)] 5 [(0, pj_O (64, 1)), (1, pj_I a1), (2, pj_I a2), (3, pj_I a3)] [] (s, l, x, y) := rfl
set_option maxRecDepth 100000 in
theorem pq_J7_fill_53178_v9_m (fu : Nat)  (a1 : Int32) (s : Nat → Int32) (l : Nat → Int64) (x : Nat → Int32) (y : Nat → Int64) : po_J7_fill_53178_v9 fu a1 s l x y = pj_bl px_J7_fill_53178_v9 (pj_rn px_J7_fill_53178_v9 (pj_as pk_J7_fill_53178_v9) (pj_as [(5, pe_J7_fill_53178_v9_5 (pl_J7_fill_53178_v9_5 fu fu))]) 60) [(0, .iconst 0, 1), (1, .istore_n 2, 1), (2, .aload_n 0, 1), (3, .arraylength, 1), (4, .istore_n 3, 1)] 0 [(0, pj_O (64, 1)), (1, pj_I a1)] [] (s, l, x, y) := rfl
theorem pu_J7_fill_53178_v9_5 {lf : pj_Z → mj_M} {a : Unit × pj_Z} (f : Int32 → Int32 → Int32 → pj_F (Unit × pj_Z)) (hf : ∀ (a1 : Int32) (a2 : Int32) (a3 : Int32) (s : Nat → Int32) (l : Nat → Int64) (x : Nat → Int32) (y : Nat → Int64), f a1 a2 a3 s l x y = some a → pm_Gd 0 27000 ie_J7_fill_53178.1 pm_rU lf 5 [(0, .ref 65), (1, .int a1), (2, .int a2), (3, .int a3)] [] (s, l, x, y) a) : pm_Ex 0 27000 ie_J7_fill_53178.1 pm_rU lf a 5 (pe_J7_fill_53178_v9_5 f) := by
  intro lv st z hd h
  obtain ⟨g0, h⟩ := pj_xr_inv h
  obtain ⟨a1, g1, h⟩ := pj_xi_inv h
  obtain ⟨a2, g2, h⟩ := pj_xi_inv h
  obtain ⟨a3, g3, h⟩ := pj_xi_inv h
  obtain ⟨e9, h⟩ := pj_pe_inv h
  rw [e9]
  exact mj_wp_sub (mj_sub_cons g0 (mj_sub_cons g1 (mj_sub_cons g2 (mj_sub_cons g3 (mj_sub_nil hd))))) (hf _ _ _ _ _ _ _ h)
set_option maxRecDepth 100000 in
theorem pz_J7_fill_53178_v9 {lf : pj_Z → mj_M} (hT : pj_Lt pj_TC lf) : pj_Cok ic_P (mj_R ic_P 0) 27000 ie_J7_fill_53178.1 (pm_OK lf pm_rU) lf px_J7_fill_53178_v9 := by
  exact pm_cok (c := px_J7_fill_53178_v9) (pm_part hT (pj_as_all (p := fun b e => pj_TC b = some e) (List.forall_mem_cons.mpr ⟨rfl, (fun _ h => by cases h)⟩))) (fun _ _ h => by cases h) (fun _ _ h => by cases h) (fun _ _ h => by cases h) (fun _ _ h => by cases h) rfl rfl ⟨by decide, rfl⟩ pm_mU (fun _ _ h => by cases h) (fun _ h => by cases h)
set_option maxRecDepth 100000 in
theorem pb_J7_fill_53178_v9 : pm_bks ie_J7_fill_53178.1.2.2.2.2 pk_J7_fill_53178_v9 = true := by decide +kernel
set_option maxRecDepth 100000 in
theorem pg_J7_fill_53178_v9_5 {fu : Nat} {lf : pj_Z → mj_M} (hT : pj_Lt pj_TC lf) : ∀ (n : Nat), ∀ (a1 : Int32) (a2 : Int32) (a3 : Int32) (s : Nat → Int32) (l : Nat → Int64) (x : Nat → Int32) (y : Nat → Int64) (a : Unit × pj_Z), pl_J7_fill_53178_v9_5 fu n a1 a2 a3 s l x y = some a → pm_Gd 0 27000 ie_J7_fill_53178.1 pm_rU lf 5 [(0, .ref 65), (1, .int a1), (2, .int a2), (3, .int a3)] [] (s, l, x, y) a := by
  intro n
  induction n with
  | zero => intro a1 a2 a3 s l x y a h; cases (show (none : Option (Unit × pj_Z)) = some a from h)
  | succ n ih =>
    intro a1 a2 a3 s l x y a h
    exact pm_run ((pq_J7_fill_53178_v9_5 fu n a1 a2 a3 s l x y).symm.trans h) (pz_J7_fill_53178_v9 hT) (pm_bks_ok pb_J7_fill_53178_v9) (pm_bks_ok pb_J7_fill_53178_v9 _ _ rfl) (pm_ndb_ok rfl) (pj_as_all (p := pm_Ex 0 27000 ie_J7_fill_53178.1 pm_rU lf a) (List.forall_mem_cons.mpr ⟨pu_J7_fill_53178_v9_5 _ (fun c0 c1 c2 s l x y h => ih c0 c1 c2 s l x y _ h), (fun _ h => by cases h)⟩))
set_option maxRecDepth 100000 in
theorem pm_J7_fill_53178_v9 {lf : pj_Z → mj_M} (hT : pj_Lt pj_TC lf) (a1 : Int32) (s : Nat → Int32) (l : Nat → Int64) (x : Nat → Int32) (y : Nat → Int64) (a : Unit × pj_Z) (h : pf_J7_fill_53178_v9 a1 s l x y = some a) : mj_R ic_P 1 27000 [.ref 65, .int a1] (lf (s, l, x, y)) (pm_rU a.1) (lf a.2) := by
  refine pm_main (Y := ie_J7_fill_53178.1) rfl (Nat.le_of_ble_eq_true rfl) ?_
  exact pm_run ((pq_J7_fill_53178_v9_m 1000 a1 s l x y).symm.trans h) (pz_J7_fill_53178_v9 hT) (pm_bks_ok pb_J7_fill_53178_v9) (pm_bks_ok pb_J7_fill_53178_v9 _ _ rfl) (pm_ndb_ok rfl) (pj_as_all (p := pm_Ex 0 27000 ie_J7_fill_53178.1 pm_rU lf a) (List.forall_mem_cons.mpr ⟨pu_J7_fill_53178_v9_5 _ (fun c0 c1 c2 s l x y h => pg_J7_fill_53178_v9_5 hT _ c0 c1 c2 s l x y _ h), (fun _ h => by cases h)⟩))
abbrev ph_J7_fill_53178_v9 {A : Type} : List pj_V → pj_Z → (List pj_V → pj_Z → Option A) → Option A := fun st z K => pj_pi st fun a1 st => pj_pr st 64 1 fun st => pj_ps st (pj_b (pf_J7_fill_53178_v9 a1 z.1 z.2.1 z.2.2.1 z.2.2.2) fun r s l x y => K st (s, l, x, y))
set_option maxRecDepth 100000 in
theorem pc_J7_fill_53178_v9 {A : Type} {OK : A → Option Value → mj_M → Prop} {d j pc ix : Nat} {Y : mj_Y} {lf : pj_Z → mj_M} (hT : pj_Lt pj_TC lf) (hd : 1 ≤ d) (hl : mj_lk Y.2.2.2.2 pc = some (.invokestatic ix, 3)) (hg : mj_pG ic_P j ix = some (27000, 2, none)) {lv : List (Nat × Value)} {st : List pj_V} {z : pj_Z} {K : List pj_V → pj_Z → Option A} {a : A} (hK : ∀ st z, K st z = some a → pj_Gd ic_P (mj_R ic_P d) j Y OK lf (pc + 3) lv (pj_es st) z a) (h : ph_J7_fill_53178_v9 st z K = some a) : pj_Gd ic_P (mj_R ic_P d) j Y OK lf pc lv (pj_es st) z a := by
  obtain ⟨a1, r1, e1, h⟩ := pj_pi_inv h
  obtain ⟨r0, e0, h⟩ := pj_pr_inv h
  obtain ⟨hs, h⟩ := pj_ps_inv h
  obtain ⟨q, hq, h⟩ := pj_b_inv h
  exact pm_cs hl hg [.ref 65, .int a1] rfl (by rw [e1, e0]; rfl) hs (pm_rU q.1) hd (pm_J7_fill_53178_v9 hT a1 z.1 z.2.1 z.2.2.1 z.2.2.2 q hq) rfl (hK _ _ h)
abbrev pe_X11_testMisfires_12 (f : Int32 → Int32 → pj_F (Unit × pj_Z)) : pj_K (Unit × pj_Z) := fun lv st z => pj_xr lv 0 0 0 <| pj_xi lv 1 fun a1 => pj_xi lv 2 fun a2 => pj_pe st (f a1 a2 z.1 z.2.1 z.2.2.1 z.2.2.2)
abbrev pe_X11_testMisfires_52 (f : Int32 → Int32 → Int32 → pj_F (Unit × pj_Z)) : pj_K (Unit × pj_Z) := fun lv st z => pj_xr lv 0 0 0 <| pj_xi lv 1 fun a1 => pj_xi lv 2 fun a2 => pj_pi st fun b0 st => pj_pe st (f a1 a2 b0 z.1 z.2.1 z.2.2.1 z.2.2.2)
abbrev pe_X11_testMisfires_68 (f : Int32 → Int32 → Int32 → Int32 → Int32 → pj_F (Unit × pj_Z)) : pj_K (Unit × pj_Z) := fun lv st z => pj_xr lv 0 0 0 <| pj_xi lv 1 fun a1 => pj_xi lv 2 fun a2 => pj_pi st fun b3 st => pj_pi st fun b2 st => pj_pi st fun b1 st => pj_pr st 0 0 fun st => pj_pe st (f a1 a2 b1 b2 b3 z.1 z.2.1 z.2.2.1 z.2.2.2)
abbrev pe_X11_testMisfires_77 (f : pj_F (Unit × pj_Z)) : pj_K (Unit × pj_Z) := fun lv st z => pj_xr lv 0 0 0 <| pj_pe st (f  z.1 z.2.1 z.2.2.1 z.2.2.2)
abbrev px_X11_testMisfires : pj_C (Unit × pj_Z) := ((pj_as [(0, 11, 17, 1, 0, true, 0, [(2, 1), (2, 20), (2, 58), (2, 68), (2, 82), (2, 83), (2, 85), (2, 96), (2, 102), (2, 106), (2, 122), (0, 93), (0, 94), (0, 95), (1, 1), (1, 2), (0, 96)]), (1, 4, 10, 1, 0, true, 0, [(2, 2), (2, 3), (2, 8), (2, 11), (2, 14), (2, 17), (2, 18), (2, 19), (0, 44), (1, 3)]), (2, 100, 24, 1, 0, true, 10000, []), (58, 2, 19, 1, 0, true, 0, [(0, 19), (0, 20), (1, 4), (1, 5), (1, 6), (1, 7), (0, 21), (0, 22), (0, 23), (0, 24), (0, 25), (2, 59), (2, 63), (0, 26), (1, 8), (1, 9), (1, 10), (0, 27), (0, 28)]), (63, 103, 4, 1, 0, true, 64, []), (64, 100, 8, 4, 1, true, 8000, [])]), (pj_as [(10, 11, 0, 2, true), (26, 11, 2, 2, true), (287, 4, 0, 2, true), (418, 2, 12, 2, true)]), (fun _ => none), (fun _ => none), (fun _ => none), ic_X, 4, 0, pj_mU, (pj_as [(68, ph_X11_judge), (87, ph_J7_fill_53178_v9)]), fun _ => false)
abbrev pk_X11_testMisfires : List (Nat × List (Nat × Instr × Nat)) := [(0, [(0, .aload_n 0, 1), (1, .getfield 10, 3), (4, .getfield 287, 3), (7, .iconst 0, 1), (8, .iaload, 1), (9, .istore_n 1, 1), (10, .iconst 0, 1), (11, .istore_n 2, 1)]), (12, [(12, .iload_n 2, 1), (13, .iload_n 1, 1), (14, .if_icmp .ge 63, 3)]), (17, [(17, .iload_n 2, 1), (18, .bipush 8, 2), (20, .if_icmp .ge 57, 3)]), (23, [(23, .aload_n 0, 1), (24, .getfield 26, 3), (27, .getfield 418, 3), (30, .iconst 1, 1), (31, .aaload, 1), (32, .iload_n 2, 1), (33, .iaload, 1), (34, .aload_n 0, 1), (35, .getfield 10, 3), (38, .getfield 287, 3), (41, .bipush 20, 2), (43, .iaload, 1), (44, .if_icmp .le 7, 3)]), (47, [(47, .iconst 1, 1), (48, .goto 4, 3)]), (51, [(51, .iconst 0, 1)]), (52, [(52, .istore_n 3, 1), (53, .aload_n 0, 1), (54, .bipush 20, 2), (56, .iload_n 2, 1), (57, .iadd, 1), (58, .iload_n 3, 1), (59, .iload_n 3, 1), (60, .ifCond .ne 7, 3)]), (63, [(63, .iconst 1, 1), (64, .goto 4, 3)]), (67, [(67, .iconst 0, 1)]), (68, [(68, .invokevirtual 657, 3), (71, .iinc 2 1, 3), (74, .goto (-62), 3)]), (77, [(77, .aload_n 0, 1), (78, .getfield 26, 3), (81, .getfield 418, 3), (84, .iconst 1, 1), (85, .aaload, 1), (86, .iconst 0, 1), (87, .invokestatic 661, 3), (90, .return_, 1)])]
set_option maxRecDepth 100000 in
theorem pq_X11_testMisfires_68 (fu : Nat)  (k12 : Int32 → Int32 → pj_F (Unit × pj_Z)) (a1 : Int32) (a2 : Int32) (b1 : Int32) (b2 : Int32) (b3 : Int32) (s : Nat → Int32) (l : Nat → Int64) (x : Nat → Int32) (y : Nat → Int64) : pl_X11_testMisfires_68 fu k12 a1 a2 b1 b2 b3 s l x y = pj_bl px_X11_testMisfires (pj_rn px_X11_testMisfires (pj_as pk_X11_testMisfires) (pj_as [(12, pe_X11_testMisfires_12 k12)]) 60) [(68, .invokevirtual 657, 3), (71, .iinc 2 1, 3), (74, .goto (-62), 3)] 68 [(0, pj_O (0, 0)), (1, pj_I a1), (2, pj_I a2)] [pj_I b3, pj_I b2, pj_I b1, pj_O (0, 0)] (s, l, x, y) := rfl
set_option maxRecDepth 100000 in
theorem pq_X11_testMisfires_52 (fu : Nat)  (k12 : Int32 → Int32 → pj_F (Unit × pj_Z)) (a1 : Int32) (a2 : Int32) (b0 : Int32) (s : Nat → Int32) (l : Nat → Int64) (x : Nat → Int32) (y : Nat → Int64) : pl_X11_testMisfires_52 fu k12 a1 a2 b0 s l x y = pj_bl px_X11_testMisfires (pj_rn px_X11_testMisfires (pj_as pk_X11_testMisfires) (pj_as [(12, pe_X11_testMisfires_12 k12), (68, pe_X11_testMisfires_68 (pl_X11_testMisfires_68 fu k12))]) 60) [(52, .istore_n 3, 1), (53, .aload_n 0, 1), (54, .bipush 20, 2), (56, .iload_n 2, 1), (57, .iadd, 1), (58, .iload_n 3, 1), (59, .iload_n 3, 1), (60, .ifCond .ne 7, 3)] 52 [(0, pj_O (0, 0)), (1, pj_I a1), (2, pj_I a2)] [pj_I b0] (s, l, x, y) := rfl
set_option maxRecDepth 100000 in
theorem pq_X11_testMisfires_77 (fu : Nat)   (s : Nat → Int32) (l : Nat → Int64) (x : Nat → Int32) (y : Nat → Int64) : pl_X11_testMisfires_77 fu s l x y = pj_bl px_X11_testMisfires (pj_rn px_X11_testMisfires (pj_as pk_X11_testMisfires) (fun _ => none) 60) [(77, .aload_n 0, 1), (78, .getfield 26, 3), (81, .getfield 418, 3), (84, .iconst 1, 1), (85, .aaload, 1), (86, .iconst 0, 1), (87, .invokestatic 661, 3), (90, .return_, 1)] 77 [(0, pj_O (0, 0))] [] (s, l, x, y) := rfl
set_option maxRecDepth 100000 in
theorem pq_X11_testMisfires_12 (fu : Nat)  (n : Nat) (a1 : Int32) (a2 : Int32) (s : Nat → Int32) (l : Nat → Int64) (x : Nat → Int32) (y : Nat → Int64) : pl_X11_testMisfires_12 fu (n + 1) a1 a2 s l x y = pj_bl px_X11_testMisfires (pj_rn px_X11_testMisfires (pj_as pk_X11_testMisfires) (pj_as [(12, pe_X11_testMisfires_12 (pl_X11_testMisfires_12 fu n)), (52, pe_X11_testMisfires_52 (pl_X11_testMisfires_52 fu (pl_X11_testMisfires_12 fu n))), (77, pe_X11_testMisfires_77 (pl_X11_testMisfires_77 fu))]) 60) [(12, .iload_n 2, 1), (13, .iload_n 1, 1), (14, .if_icmp .ge 63, 3)] 12 [(0, pj_O (0, 0)), (1, pj_I a1), (2, pj_I a2)] [] (s, l, x, y) := rfl
set_option maxRecDepth 100000 in
theorem pq_X11_testMisfires_m (fu : Nat)   (s : Nat → Int32) (l : Nat → Int64) (x : Nat → Int32) (y : Nat → Int64) : po_X11_testMisfires fu  s l x y = pj_bl px_X11_testMisfires (pj_rn px_X11_testMisfires (pj_as pk_X11_testMisfires) (pj_as [(12, pe_X11_testMisfires_12 (pl_X11_testMisfires_12 fu fu))]) 60) [(0, .aload_n 0, 1), (1, .getfield 10, 3), (4, .getfield 287, 3), (7, .iconst 0, 1), (8, .iaload, 1), (9, .istore_n 1, 1), (10, .iconst 0, 1), (11, .istore_n 2, 1)] 0 [(0, pj_O (0, 0))] [] (s, l, x, y) := rfl
theorem pu_X11_testMisfires_12 {lf : pj_Z → mj_M} {a : Unit × pj_Z} (f : Int32 → Int32 → pj_F (Unit × pj_Z)) (hf : ∀ (a1 : Int32) (a2 : Int32) (s : Nat → Int32) (l : Nat → Int64) (x : Nat → Int32) (y : Nat → Int64), f a1 a2 s l x y = some a → pm_Gd 3 11062 ie_X11_testMisfires.1 pm_rU lf 12 [(0, .ref 0), (1, .int a1), (2, .int a2)] [] (s, l, x, y) a) : pm_Ex 3 11062 ie_X11_testMisfires.1 pm_rU lf a 12 (pe_X11_testMisfires_12 f) := by
  intro lv st z hd h
  obtain ⟨g0, h⟩ := pj_xr_inv h
  obtain ⟨a1, g1, h⟩ := pj_xi_inv h
  obtain ⟨a2, g2, h⟩ := pj_xi_inv h
  obtain ⟨e9, h⟩ := pj_pe_inv h
  rw [e9]
  exact mj_wp_sub (mj_sub_cons g0 (mj_sub_cons g1 (mj_sub_cons g2 (mj_sub_nil hd)))) (hf _ _ _ _ _ _ h)
theorem pu_X11_testMisfires_52 {lf : pj_Z → mj_M} {a : Unit × pj_Z} (f : Int32 → Int32 → Int32 → pj_F (Unit × pj_Z)) (hf : ∀ (a1 : Int32) (a2 : Int32) (b0 : Int32) (s : Nat → Int32) (l : Nat → Int64) (x : Nat → Int32) (y : Nat → Int64), f a1 a2 b0 s l x y = some a → pm_Gd 3 11062 ie_X11_testMisfires.1 pm_rU lf 52 [(0, .ref 0), (1, .int a1), (2, .int a2)] [.int b0] (s, l, x, y) a) : pm_Ex 3 11062 ie_X11_testMisfires.1 pm_rU lf a 52 (pe_X11_testMisfires_52 f) := by
  intro lv st z hd h
  obtain ⟨g0, h⟩ := pj_xr_inv h
  obtain ⟨a1, g1, h⟩ := pj_xi_inv h
  obtain ⟨a2, g2, h⟩ := pj_xi_inv h
  obtain ⟨b0, r0, e0, h⟩ := pj_pi_inv h
  obtain ⟨e9, h⟩ := pj_pe_inv h
  rw [e0, e9]
  exact mj_wp_sub (mj_sub_cons g0 (mj_sub_cons g1 (mj_sub_cons g2 (mj_sub_nil hd)))) (hf _ _ _ _ _ _ _ h)
theorem pu_X11_testMisfires_68 {lf : pj_Z → mj_M} {a : Unit × pj_Z} (f : Int32 → Int32 → Int32 → Int32 → Int32 → pj_F (Unit × pj_Z)) (hf : ∀ (a1 : Int32) (a2 : Int32) (b1 : Int32) (b2 : Int32) (b3 : Int32) (s : Nat → Int32) (l : Nat → Int64) (x : Nat → Int32) (y : Nat → Int64), f a1 a2 b1 b2 b3 s l x y = some a → pm_Gd 3 11062 ie_X11_testMisfires.1 pm_rU lf 68 [(0, .ref 0), (1, .int a1), (2, .int a2)] [.int b3, .int b2, .int b1, .ref 0] (s, l, x, y) a) : pm_Ex 3 11062 ie_X11_testMisfires.1 pm_rU lf a 68 (pe_X11_testMisfires_68 f) := by
  intro lv st z hd h
  obtain ⟨g0, h⟩ := pj_xr_inv h
  obtain ⟨a1, g1, h⟩ := pj_xi_inv h
  obtain ⟨a2, g2, h⟩ := pj_xi_inv h
  obtain ⟨b3, r3, e3, h⟩ := pj_pi_inv h
  obtain ⟨b2, r2, e2, h⟩ := pj_pi_inv h
  obtain ⟨b1, r1, e1, h⟩ := pj_pi_inv h
  obtain ⟨r0, e0, h⟩ := pj_pr_inv h
  obtain ⟨e9, h⟩ := pj_pe_inv h
  rw [e3, e2, e1, e0, e9]
  exact mj_wp_sub (mj_sub_cons g0 (mj_sub_cons g1 (mj_sub_cons g2 (mj_sub_nil hd)))) (hf _ _ _ _ _ _ _ _ _ h)
theorem pu_X11_testMisfires_77 {lf : pj_Z → mj_M} {a : Unit × pj_Z} (f : pj_F (Unit × pj_Z)) (hf : ∀  (s : Nat → Int32) (l : Nat → Int64) (x : Nat → Int32) (y : Nat → Int64), f  s l x y = some a → pm_Gd 3 11062 ie_X11_testMisfires.1 pm_rU lf 77 [(0, .ref 0)] [] (s, l, x, y) a) : pm_Ex 3 11062 ie_X11_testMisfires.1 pm_rU lf a 77 (pe_X11_testMisfires_77 f) := by
  intro lv st z hd h
  obtain ⟨g0, h⟩ := pj_xr_inv h
  obtain ⟨e9, h⟩ := pj_pe_inv h
  rw [e9]
  exact mj_wp_sub (mj_sub_cons g0 (mj_sub_nil hd)) (hf  _ _ _ _ h)
set_option maxRecDepth 100000 in
theorem pz_X11_testMisfires {lf : pj_Z → mj_M} (hT : pj_Lt pj_TC lf) : pj_Cok ic_P (mj_R ic_P 3) 11062 ie_X11_testMisfires.1 (pm_OK lf pm_rU) lf px_X11_testMisfires := by
  exact pm_cok (c := px_X11_testMisfires) (pm_part hT (pj_as_all (p := fun b e => pj_TC b = some e) (List.forall_mem_cons.mpr ⟨rfl, (List.forall_mem_cons.mpr ⟨rfl, (List.forall_mem_cons.mpr ⟨rfl, (List.forall_mem_cons.mpr ⟨rfl, (List.forall_mem_cons.mpr ⟨rfl, (List.forall_mem_cons.mpr ⟨rfl, (fun _ h => by cases h)⟩)⟩)⟩)⟩)⟩)⟩))) (pm_in_ok (L := [(10, 11, 0, 2, true), (26, 11, 2, 2, true), (287, 4, 0, 2, true), (418, 2, 12, 2, true)]) (f := mj_pF ic_P 11062) (by decide +kernel)) (fun _ _ h => by cases h) (fun _ _ h => by cases h) (fun _ _ h => by cases h) rfl rfl ⟨by decide, rfl⟩ pm_mU (pj_as_all (p := pm_Cl 3 11062 ie_X11_testMisfires.1 lf (pm_OK lf pm_rU)) (List.forall_mem_cons.mpr ⟨fun _ _ lv st z K a hK h => pc_X11_judge hT (by decide) (ix := 657) rfl rfl hK h, (List.forall_mem_cons.mpr ⟨fun _ _ lv st z K a hK h => pc_J7_fill_53178_v9 hT (by decide) (ix := 661) rfl rfl hK h, (fun _ h => by cases h)⟩)⟩)) (fun _ h => by cases h)
set_option maxRecDepth 100000 in
theorem pb_X11_testMisfires : pm_bks ie_X11_testMisfires.1.2.2.2.2 pk_X11_testMisfires = true := by decide +kernel
set_option maxRecDepth 100000 in
theorem pg_X11_testMisfires_68 {fu : Nat} {lf : pj_Z → mj_M} (hT : pj_Lt pj_TC lf) {k12 : Int32 → Int32 → pj_F (Unit × pj_Z)} (hk12 : ∀ (a1 : Int32) (a2 : Int32) (s : Nat → Int32) (l : Nat → Int64) (x : Nat → Int32) (y : Nat → Int64) (a : Unit × pj_Z), k12 a1 a2 s l x y = some a → pm_Gd 3 11062 ie_X11_testMisfires.1 pm_rU lf 12 [(0, .ref 0), (1, .int a1), (2, .int a2)] [] (s, l, x, y) a) : ∀ (a1 : Int32) (a2 : Int32) (b1 : Int32) (b2 : Int32) (b3 : Int32) (s : Nat → Int32) (l : Nat → Int64) (x : Nat → Int32) (y : Nat → Int64) (a : Unit × pj_Z), pl_X11_testMisfires_68 fu k12 a1 a2 b1 b2 b3 s l x y = some a → pm_Gd 3 11062 ie_X11_testMisfires.1 pm_rU lf 68 [(0, .ref 0), (1, .int a1), (2, .int a2)] [.int b3, .int b2, .int b1, .ref 0] (s, l, x, y) a := by
  intro a1 a2 b1 b2 b3 s l x y a h
  exact pm_run ((pq_X11_testMisfires_68 fu k12 a1 a2 b1 b2 b3 s l x y).symm.trans h) (pz_X11_testMisfires hT) (pm_bks_ok pb_X11_testMisfires) (pm_bks_ok pb_X11_testMisfires _ _ rfl) (pm_ndb_ok rfl) (pj_as_all (p := pm_Ex 3 11062 ie_X11_testMisfires.1 pm_rU lf a) (List.forall_mem_cons.mpr ⟨pu_X11_testMisfires_12 _ (fun c0 c1 s l x y h => hk12 c0 c1 s l x y _ h), (fun _ h => by cases h)⟩))
set_option maxRecDepth 100000 in
theorem pg_X11_testMisfires_52 {fu : Nat} {lf : pj_Z → mj_M} (hT : pj_Lt pj_TC lf) {k12 : Int32 → Int32 → pj_F (Unit × pj_Z)} (hk12 : ∀ (a1 : Int32) (a2 : Int32) (s : Nat → Int32) (l : Nat → Int64) (x : Nat → Int32) (y : Nat → Int64) (a : Unit × pj_Z), k12 a1 a2 s l x y = some a → pm_Gd 3 11062 ie_X11_testMisfires.1 pm_rU lf 12 [(0, .ref 0), (1, .int a1), (2, .int a2)] [] (s, l, x, y) a) : ∀ (a1 : Int32) (a2 : Int32) (b0 : Int32) (s : Nat → Int32) (l : Nat → Int64) (x : Nat → Int32) (y : Nat → Int64) (a : Unit × pj_Z), pl_X11_testMisfires_52 fu k12 a1 a2 b0 s l x y = some a → pm_Gd 3 11062 ie_X11_testMisfires.1 pm_rU lf 52 [(0, .ref 0), (1, .int a1), (2, .int a2)] [.int b0] (s, l, x, y) a := by
  intro a1 a2 b0 s l x y a h
  exact pm_run ((pq_X11_testMisfires_52 fu k12 a1 a2 b0 s l x y).symm.trans h) (pz_X11_testMisfires hT) (pm_bks_ok pb_X11_testMisfires) (pm_bks_ok pb_X11_testMisfires _ _ rfl) (pm_ndb_ok rfl) (pj_as_all (p := pm_Ex 3 11062 ie_X11_testMisfires.1 pm_rU lf a) (List.forall_mem_cons.mpr ⟨pu_X11_testMisfires_12 _ (fun c0 c1 s l x y h => hk12 c0 c1 s l x y _ h), (List.forall_mem_cons.mpr ⟨pu_X11_testMisfires_68 _ (fun c0 c1 c2 c3 c4 s l x y h => pg_X11_testMisfires_68 hT hk12 c0 c1 c2 c3 c4 s l x y _ h), (fun _ h => by cases h)⟩)⟩))
set_option maxRecDepth 100000 in
theorem pg_X11_testMisfires_77 {fu : Nat} {lf : pj_Z → mj_M} (hT : pj_Lt pj_TC lf) : ∀  (s : Nat → Int32) (l : Nat → Int64) (x : Nat → Int32) (y : Nat → Int64) (a : Unit × pj_Z), pl_X11_testMisfires_77 fu s l x y = some a → pm_Gd 3 11062 ie_X11_testMisfires.1 pm_rU lf 77 [(0, .ref 0)] [] (s, l, x, y) a := by
  intro  s l x y a h
  exact pm_run ((pq_X11_testMisfires_77 fu  s l x y).symm.trans h) (pz_X11_testMisfires hT) (pm_bks_ok pb_X11_testMisfires) (pm_bks_ok pb_X11_testMisfires _ _ rfl) (pm_ndb_ok rfl) (fun _ _ h => by cases h)
set_option maxRecDepth 100000 in
theorem pg_X11_testMisfires_12 {fu : Nat} {lf : pj_Z → mj_M} (hT : pj_Lt pj_TC lf) : ∀ (n : Nat), ∀ (a1 : Int32) (a2 : Int32) (s : Nat → Int32) (l : Nat → Int64) (x : Nat → Int32) (y : Nat → Int64) (a : Unit × pj_Z), pl_X11_testMisfires_12 fu n a1 a2 s l x y = some a → pm_Gd 3 11062 ie_X11_testMisfires.1 pm_rU lf 12 [(0, .ref 0), (1, .int a1), (2, .int a2)] [] (s, l, x, y) a := by
  intro n
  induction n with
  | zero => intro a1 a2 s l x y a h; cases (show (none : Option (Unit × pj_Z)) = some a from h)
  | succ n ih =>
    intro a1 a2 s l x y a h
    exact pm_run ((pq_X11_testMisfires_12 fu n a1 a2 s l x y).symm.trans h) (pz_X11_testMisfires hT) (pm_bks_ok pb_X11_testMisfires) (pm_bks_ok pb_X11_testMisfires _ _ rfl) (pm_ndb_ok rfl) (pj_as_all (p := pm_Ex 3 11062 ie_X11_testMisfires.1 pm_rU lf a) (List.forall_mem_cons.mpr ⟨pu_X11_testMisfires_12 _ (fun c0 c1 s l x y h => ih c0 c1 s l x y _ h), (List.forall_mem_cons.mpr ⟨pu_X11_testMisfires_52 _ (fun c0 c1 c2 s l x y h => pg_X11_testMisfires_52 hT (fun a1 a2 s l x y a h => ih a1 a2 s l x y a h) c0 c1 c2 s l x y _ h), (List.forall_mem_cons.mpr ⟨pu_X11_testMisfires_77 _ (fun  s l x y h => pg_X11_testMisfires_77 hT  s l x y _ h), (fun _ h => by cases h)⟩)⟩)⟩))
set_option maxRecDepth 100000 in
theorem pm_X11_testMisfires {lf : pj_Z → mj_M} (hT : pj_Lt pj_TC lf)  (s : Nat → Int32) (l : Nat → Int64) (x : Nat → Int32) (y : Nat → Int64) (a : Unit × pj_Z) (h : pf_X11_testMisfires  s l x y = some a) : mj_R ic_P 4 11062 [.ref 0] (lf (s, l, x, y)) (pm_rU a.1) (lf a.2) := by
  refine pm_main (Y := ie_X11_testMisfires.1) rfl (Nat.le_of_ble_eq_true rfl) ?_
  exact pm_run ((pq_X11_testMisfires_m 1000  s l x y).symm.trans h) (pz_X11_testMisfires hT) (pm_bks_ok pb_X11_testMisfires) (pm_bks_ok pb_X11_testMisfires _ _ rfl) (pm_ndb_ok rfl) (pj_as_all (p := pm_Ex 3 11062 ie_X11_testMisfires.1 pm_rU lf a) (List.forall_mem_cons.mpr ⟨pu_X11_testMisfires_12 _ (fun c0 c1 s l x y h => pg_X11_testMisfires_12 hT _ c0 c1 s l x y _ h), (fun _ h => by cases h)⟩))
abbrev ph_X11_testMisfires {A : Type} : List pj_V → pj_Z → (List pj_V → pj_Z → Option A) → Option A := fun st z K => pj_pr st 0 0 fun st => pj_ps st (pj_b (pf_X11_testMisfires  z.1 z.2.1 z.2.2.1 z.2.2.2) fun r s l x y => K st (s, l, x, y))
set_option maxRecDepth 100000 in
theorem pc_X11_testMisfires {A : Type} {OK : A → Option Value → mj_M → Prop} {d j pc ix : Nat} {Y : mj_Y} {lf : pj_Z → mj_M} (hT : pj_Lt pj_TC lf) (hd : 4 ≤ d) (hl : mj_lk Y.2.2.2.2 pc = some (.invokevirtual ix, 3)) (hg : mj_pG ic_P j ix = some (11062, 0, some 11)) {lv : List (Nat × Value)} {st : List pj_V} {z : pj_Z} {K : List pj_V → pj_Z → Option A} {a : A} (hK : ∀ st z, K st z = some a → pj_Gd ic_P (mj_R ic_P d) j Y OK lf (pc + 3) lv (pj_es st) z a) (h : ph_X11_testMisfires st z K = some a) : pj_Gd ic_P (mj_R ic_P d) j Y OK lf pc lv (pj_es st) z a := by
  obtain ⟨r0, e0, h⟩ := pj_pr_inv h
  obtain ⟨hs, h⟩ := pj_ps_inv h
  obtain ⟨q, hq, h⟩ := pj_b_inv h
  exact pm_cv (o := 0) hl hg [] rfl (by rw [e0]; rfl) hs (by decide) ((hT.2 0 _ rfl).1.2 z 0 (by decide)) (pm_rU q.1) hd (pm_X11_testMisfires hT  z.1 z.2.1 z.2.2.1 z.2.2.2 q hq) rfl (hK _ _ h)
abbrev pe_X4_mapValue_90 (f : Int32 → Nat → Nat → Int32 → Int32 → Int32 → pj_F (Int32 × pj_Z)) : pj_K (Int32 × pj_Z) := fun lv st z => pj_xr lv 0 1 0 <| pj_xi lv 1 fun a1 => pj_xw lv 4 4 fun a4 => pj_xw lv 5 4 fun a5 => pj_xi lv 6 fun a6 => pj_xi lv 7 fun a7 => pj_pi st fun b0 st => pj_pe st (f a1 a4 a5 a6 a7 b0 z.1 z.2.1 z.2.2.1 z.2.2.2)
abbrev pe_X4_mapValue_119 (f : Int32 → Nat → Nat → Int32 → Int32 → Int32 → Int32 → pj_F (Int32 × pj_Z)) : pj_K (Int32 × pj_Z) := fun lv st z => pj_xr lv 0 1 0 <| pj_xi lv 1 fun a1 => pj_xw lv 4 4 fun a4 => pj_xw lv 5 4 fun a5 => pj_xi lv 6 fun a6 => pj_xi lv 7 fun a7 => pj_xi lv 8 fun a8 => pj_pi st fun b0 st => pj_pe st (f a1 a4 a5 a6 a7 a8 b0 z.1 z.2.1 z.2.2.1 z.2.2.2)
abbrev px_X4_mapValue : pj_C (Int32 × pj_Z) := ((pj_as [(1, 4, 10, 1, 0, true, 0, [(2, 2), (2, 3), (2, 8), (2, 11), (2, 14), (2, 17), (2, 18), (2, 19), (0, 44), (1, 3)]), (3, 103, 4, 1, 0, true, 4, []), (4, 100, 4, 4, 1, true, 11000, []), (8, 103, 2, 1, 0, true, 9, []), (9, 100, 16, 2, 1, true, 12000, [])]), (pj_as [(17, 4, 1, 2, true), (20, 4, 2, 2, true)]), (fun _ => none), (fun _ => none), (fun _ => none), ic_X, 24, 1, pj_mI, (pj_as [(43, ph_X11_clip), (58, ph_X11_clip), (269, ph_J9_floorDiv_f86c9)]), fun _ => false)
abbrev pk_X4_mapValue : List (Nat × List (Nat × Instr × Nat)) := [(0, [(0, .iload_n 1, 1), (1, .ifCond .lt 8, 3)]), (4, [(4, .iload_n 1, 1), (5, .iconst 1, 1), (6, .if_icmp .le 5, 3)]), (9, [(9, .iconst 0, 1), (10, .ireturn, 1)]), (11, [(11, .aload_n 0, 1), (12, .getfield 17, 3), (15, .iconst 2, 1), (16, .iload_n 1, 1), (17, .imul, 1), (18, .aaload, 1), (19, .astore 4, 2), (21, .aload_n 0, 1), (22, .getfield 17, 3), (25, .iconst 2, 1), (26, .iload_n 1, 1), (27, .imul, 1), (28, .iconst 1, 1), (29, .iadd, 1), (30, .aaload, 1), (31, .astore 5, 2), (33, .iload_n 2, 1), (34, .i2l, 1), (35, .aload 4, 2), (37, .iconst 0, 1), (38, .iaload, 1), (39, .aload 4, 2), (41, .iconst 3, 1), (42, .iaload, 1), (43, .invokestatic 63, 3), (46, .istore 6, 2), (48, .iload_n 3, 1), (49, .i2l, 1), (50, .aload 5, 2), (52, .iconst 0, 1), (53, .iaload, 1), (54, .aload 5, 2), (56, .iconst 3, 1), (57, .iaload, 1), (58, .invokestatic 63, 3), (61, .istore 7, 2), (63, .iload 6, 2), (65, .aload 4, 2), (67, .iconst 2, 1), (68, .iaload, 1), (69, .if_icmp .lt 7, 3)]), (72, [(72, .iconst 2, 1), (73, .goto 17, 3)]), (76, [(76, .iload 6, 2), (78, .aload 4, 2), (80, .iconst 1, 1), (81, .iaload, 1), (82, .if_icmp .lt 7, 3)]), (85, [(85, .iconst 1, 1), (86, .goto 4, 3)]), (89, [(89, .iconst 0, 1)]), (90, [(90, .istore 8, 2), (92, .iload 7, 2), (94, .aload 5, 2), (96, .iconst 2, 1), (97, .iaload, 1), (98, .if_icmp .lt 7, 3)]), (101, [(101, .iconst 2, 1), (102, .goto 17, 3)]), (105, [(105, .iload 7, 2), (107, .aload 5, 2), (109, .iconst 1, 1), (110, .iaload, 1), (111, .if_icmp .lt 7, 3)]), (114, [(114, .iconst 1, 1), (115, .goto 4, 3)]), (118, [(118, .iconst 0, 1)]), (119, [(119, .istore 9, 2), (121, .iload 6, 2), (123, .aload 4, 2), (125, .iload 8, 2), (127, .iaload, 1), (128, .isub, 1), (129, .i2l, 1), (130, .lstore 10, 2), (132, .aload 4, 2), (134, .iload 8, 2), (136, .iconst 1, 1), (137, .iadd, 1), (138, .iaload, 1), (139, .iload 6, 2), (141, .isub, 1), (142, .i2l, 1), (143, .lstore 12, 2), (145, .iload 7, 2), (147, .aload 5, 2), (149, .iload 9, 2), (151, .iaload, 1), (152, .isub, 1), (153, .i2l, 1), (154, .lstore 14, 2), (156, .aload 5, 2), (158, .iload 9, 2), (160, .iconst 1, 1), (161, .iadd, 1), (162, .iaload, 1), (163, .iload 7, 2), (165, .isub, 1), (166, .i2l, 1), (167, .lstore 16, 2), (169, .lload 10, 2), (171, .lload 12, 2), (173, .ladd, 1), (174, .lload 14, 2), (176, .lload 16, 2), (178, .ladd, 1), (179, .lmul, 1), (180, .lstore 18, 2), (182, .aload_n 0, 1), (183, .getfield 20, 3), (186, .iload_n 1, 1), (187, .aaload, 1), (188, .astore 20, 2), (190, .iconst 4, 1), (191, .iload 8, 2), (193, .imul, 1), (194, .iload 9, 2), (196, .iadd, 1), (197, .istore 21, 2), (199, .aload 20, 2), (201, .iload 21, 2), (203, .iaload, 1), (204, .i2l, 1), (205, .lload 12, 2), (207, .lmul, 1), (208, .lload 16, 2), (210, .lmul, 1), (211, .aload 20, 2), (213, .iload 21, 2), (215, .iconst 4, 1), (216, .iadd, 1), (217, .iaload, 1), (218, .i2l, 1), (219, .lload 10, 2), (221, .lmul, 1), (222, .lload 16, 2), (224, .lmul, 1), (225, .ladd, 1), (226, .aload 20, 2), (228, .iload 21, 2), (230, .iconst 1, 1), (231, .iadd, 1), (232, .iaload, 1), (233, .i2l, 1), (234, .lload 12, 2), (236, .lmul, 1), (237, .lload 14, 2), (239, .lmul, 1), (240, .ladd, 1), (241, .aload 20, 2), (243, .iload 21, 2), (245, .iconst 5, 1), (246, .iadd, 1), (247, .iaload, 1), (248, .i2l, 1), (249, .lload 10, 2), (251, .lmul, 1), (252, .lload 14, 2), (254, .lmul, 1), (255, .ladd, 1), (256, .lstore 22, 2), (258, .lload 18, 2), (260, .lconst 0, 1), (261, .lcmp, 1), (262, .ifCond .le 14, 3)]), (265, [(265, .lload 22, 2), (267, .lload 18, 2), (269, .invokestatic 67, 3), (272, .l2i, 1), (273, .goto 4, 3)]), (276, [(276, .iconst 0, 1)]), (277, [(277, .ireturn, 1)])]
set_option maxRecDepth 100000 in
theorem pq_X4_mapValue_119  (a1 : Int32) (a4 : Nat) (a5 : Nat) (a6 : Int32) (a7 : Int32) (a8 : Int32) (b0 : Int32) (s : Nat → Int32) (l : Nat → Int64) (x : Nat → Int32) (y : Nat → Int64) : pl_X4_mapValue_119 a1 a4 a5 a6 a7 a8 b0 s l x y = pj_bl px_X4_mapValue (pj_rn px_X4_mapValue (pj_as pk_X4_mapValue) (fun _ => none) 60) [(119, .istore 9, 2), (121, .iload 6, 2), (123, .aload 4, 2), (125, .iload 8, 2), (127, .iaload, 1), (128, .isub, 1), (129, .i2l, 1), (130, .lstore 10, 2), (132, .aload 4, 2), (134, .iload 8, 2), (136, .iconst 1, 1), (137, .iadd, 1), (138, .iaload, 1), (139, .iload 6, 2), (141, .isub, 1), (142, .i2l, 1), (143, .lstore 12, 2), (145, .iload 7, 2), (147, .aload 5, 2), (149, .iload 9, 2), (151, .iaload, 1), (152, .isub, 1), (153, .i2l, 1), (154, .lstore 14, 2), (156, .aload 5, 2), (158, .iload 9, 2), (160, .iconst 1, 1), (161, .iadd, 1), (162, .iaload, 1), (163, .iload 7, 2), (165, .isub, 1), (166, .i2l, 1), (167, .lstore 16, 2), (169, .lload 10, 2), (171, .lload 12, 2), (173, .ladd, 1), (174, .lload 14, 2), (176, .lload 16, 2), (178, .ladd, 1), (179, .lmul, 1), (180, .lstore 18, 2), (182, .aload_n 0, 1), (183, .getfield 20, 3), (186, .iload_n 1, 1), (187, .aaload, 1), (188, .astore 20, 2), (190, .iconst 4, 1), (191, .iload 8, 2), (193, .imul, 1), (194, .iload 9, 2), (196, .iadd, 1), (197, .istore 21, 2), (199, .aload 20, 2), (201, .iload 21, 2), (203, .iaload, 1), (204, .i2l, 1), (205, .lload 12, 2), (207, .lmul, 1), (208, .lload 16, 2), (210, .lmul, 1), (211, .aload 20, 2), (213, .iload 21, 2), (215, .iconst 4, 1), (216, .iadd, 1), (217, .iaload, 1), (218, .i2l, 1), (219, .lload 10, 2), (221, .lmul, 1), (222, .lload 16, 2), (224, .lmul, 1), (225, .ladd, 1), (226, .aload 20, 2), (228, .iload 21, 2), (230, .iconst 1, 1), (231, .iadd, 1), (232, .iaload, 1), (233, .i2l, 1), (234, .lload 12, 2), (236, .lmul, 1), (237, .lload 14, 2), (239, .lmul, 1), (240, .ladd, 1), (241, .aload 20, 2), (243, .iload 21, 2), (245, .iconst 5, 1), (246, .iadd, 1), (247, .iaload, 1), (248, .i2l, 1), (249, .lload 10, 2), (251, .lmul, 1), (252, .lload 14, 2), (254, .lmul, 1), (255, .ladd, 1), (256, .lstore 22, 2), (258, .lload 18, 2), (260, .lconst 0, 1), (261, .lcmp, 1), (262, .ifCond .le 14, 3)] 119 [(0, pj_O (1, 0)), (1, pj_I a1), (4, pj_W (4, a4)), (5, pj_W (4, a5)), (6, pj_I a6), (7, pj_I a7), (8, pj_I a8)] [pj_I b0] (s, l, x, y) := rfl
set_option maxRecDepth 100000 in
theorem pq_X4_mapValue_90  (a1 : Int32) (a4 : Nat) (a5 : Nat) (a6 : Int32) (a7 : Int32) (b0 : Int32) (s : Nat → Int32) (l : Nat → Int64) (x : Nat → Int32) (y : Nat → Int64) : pl_X4_mapValue_90 a1 a4 a5 a6 a7 b0 s l x y = pj_bl px_X4_mapValue (pj_rn px_X4_mapValue (pj_as pk_X4_mapValue) (pj_as [(119, pe_X4_mapValue_119 (pl_X4_mapValue_119))]) 60) [(90, .istore 8, 2), (92, .iload 7, 2), (94, .aload 5, 2), (96, .iconst 2, 1), (97, .iaload, 1), (98, .if_icmp .lt 7, 3)] 90 [(0, pj_O (1, 0)), (1, pj_I a1), (4, pj_W (4, a4)), (5, pj_W (4, a5)), (6, pj_I a6), (7, pj_I a7)] [pj_I b0] (s, l, x, y) := rfl
set_option maxRecDepth 100000 in
theorem pq_X4_mapValue_m  (a1 : Int32) (a2 : Int32) (a3 : Int32) (s : Nat → Int32) (l : Nat → Int64) (x : Nat → Int32) (y : Nat → Int64) : pf_X4_mapValue a1 a2 a3 s l x y = pj_bl px_X4_mapValue (pj_rn px_X4_mapValue (pj_as pk_X4_mapValue) (pj_as [(90, pe_X4_mapValue_90 (pl_X4_mapValue_90))]) 60) [(0, .iload_n 1, 1), (1, .ifCond .lt 8, 3)] 0 [(0, pj_O (1, 0)), (1, pj_I a1), (2, pj_I a2), (3, pj_I a3)] [] (s, l, x, y) := rfl
theorem pu_X4_mapValue_90 {lf : pj_Z → mj_M} {a : Int32 × pj_Z} (f : Int32 → Nat → Nat → Int32 → Int32 → Int32 → pj_F (Int32 × pj_Z)) (hf : ∀ (a1 : Int32) (a4 : Nat) (a5 : Nat) (a6 : Int32) (a7 : Int32) (b0 : Int32) (s : Nat → Int32) (l : Nat → Int64) (x : Nat → Int32) (y : Nat → Int64), f a1 a4 a5 a6 a7 b0 s l x y = some a → pm_Gd 1 4004 ie_X4_mapValue.1 pm_rI lf 90 [(0, .ref 1), (1, .int a1), (4, .ref (4 + a4)), (5, .ref (4 + a5)), (6, .int a6), (7, .int a7)] [.int b0] (s, l, x, y) a) : pm_Ex 1 4004 ie_X4_mapValue.1 pm_rI lf a 90 (pe_X4_mapValue_90 f) := by
  intro lv st z hd h
  obtain ⟨g0, h⟩ := pj_xr_inv h
  obtain ⟨a1, g1, h⟩ := pj_xi_inv h
  obtain ⟨a4, g4, h⟩ := pj_xw_inv h
  obtain ⟨a5, g5, h⟩ := pj_xw_inv h
  obtain ⟨a6, g6, h⟩ := pj_xi_inv h
  obtain ⟨a7, g7, h⟩ := pj_xi_inv h
  obtain ⟨b0, r0, e0, h⟩ := pj_pi_inv h
  obtain ⟨e9, h⟩ := pj_pe_inv h
  rw [e0, e9]
  exact mj_wp_sub (mj_sub_cons g0 (mj_sub_cons g1 (mj_sub_cons g4 (mj_sub_cons g5 (mj_sub_cons g6 (mj_sub_cons g7 (mj_sub_nil hd))))))) (hf _ _ _ _ _ _ _ _ _ _ h)
theorem pu_X4_mapValue_119 {lf : pj_Z → mj_M} {a : Int32 × pj_Z} (f : Int32 → Nat → Nat → Int32 → Int32 → Int32 → Int32 → pj_F (Int32 × pj_Z)) (hf : ∀ (a1 : Int32) (a4 : Nat) (a5 : Nat) (a6 : Int32) (a7 : Int32) (a8 : Int32) (b0 : Int32) (s : Nat → Int32) (l : Nat → Int64) (x : Nat → Int32) (y : Nat → Int64), f a1 a4 a5 a6 a7 a8 b0 s l x y = some a → pm_Gd 1 4004 ie_X4_mapValue.1 pm_rI lf 119 [(0, .ref 1), (1, .int a1), (4, .ref (4 + a4)), (5, .ref (4 + a5)), (6, .int a6), (7, .int a7), (8, .int a8)] [.int b0] (s, l, x, y) a) : pm_Ex 1 4004 ie_X4_mapValue.1 pm_rI lf a 119 (pe_X4_mapValue_119 f) := by
  intro lv st z hd h
  obtain ⟨g0, h⟩ := pj_xr_inv h
  obtain ⟨a1, g1, h⟩ := pj_xi_inv h
  obtain ⟨a4, g4, h⟩ := pj_xw_inv h
  obtain ⟨a5, g5, h⟩ := pj_xw_inv h
  obtain ⟨a6, g6, h⟩ := pj_xi_inv h
  obtain ⟨a7, g7, h⟩ := pj_xi_inv h
  obtain ⟨a8, g8, h⟩ := pj_xi_inv h
  obtain ⟨b0, r0, e0, h⟩ := pj_pi_inv h
  obtain ⟨e9, h⟩ := pj_pe_inv h
  rw [e0, e9]
  exact mj_wp_sub (mj_sub_cons g0 (mj_sub_cons g1 (mj_sub_cons g4 (mj_sub_cons g5 (mj_sub_cons g6 (mj_sub_cons g7 (mj_sub_cons g8 (mj_sub_nil hd)))))))) (hf _ _ _ _ _ _ _ _ _ _ _ h)
set_option maxRecDepth 100000 in
theorem pz_X4_mapValue {lf : pj_Z → mj_M} (hT : pj_Lt pj_TC lf) : pj_Cok ic_P (mj_R ic_P 1) 4004 ie_X4_mapValue.1 (pm_OK lf pm_rI) lf px_X4_mapValue := by
  exact pm_cok (c := px_X4_mapValue) (pm_part hT (pj_as_all (p := fun b e => pj_TC b = some e) (List.forall_mem_cons.mpr ⟨rfl, (List.forall_mem_cons.mpr ⟨rfl, (List.forall_mem_cons.mpr ⟨rfl, (List.forall_mem_cons.mpr ⟨rfl, (List.forall_mem_cons.mpr ⟨rfl, (fun _ h => by cases h)⟩)⟩)⟩)⟩)⟩))) (pm_in_ok (L := [(17, 4, 1, 2, true), (20, 4, 2, 2, true)]) (f := mj_pF ic_P 4004) (by decide +kernel)) (fun _ _ h => by cases h) (fun _ _ h => by cases h) (fun _ _ h => by cases h) rfl rfl ⟨by decide, rfl⟩ pm_mI (pj_as_all (p := pm_Cl 1 4004 ie_X4_mapValue.1 lf (pm_OK lf pm_rI)) (List.forall_mem_cons.mpr ⟨fun _ _ lv st z K a hK h => pc_X11_clip hT (by decide) (ix := 63) rfl rfl hK h, (List.forall_mem_cons.mpr ⟨fun _ _ lv st z K a hK h => pc_X11_clip hT (by decide) (ix := 63) rfl rfl hK h, (List.forall_mem_cons.mpr ⟨fun _ _ lv st z K a hK h => pc_J9_floorDiv_f86c9 (pm_none hT) (by decide) (ix := 67) rfl rfl hK h, (fun _ h => by cases h)⟩)⟩)⟩)) (fun _ h => by cases h)
set_option maxRecDepth 100000 in
theorem pb_X4_mapValue : pm_bks ie_X4_mapValue.1.2.2.2.2 pk_X4_mapValue = true := by decide +kernel
set_option maxRecDepth 100000 in
theorem pg_X4_mapValue_119 {lf : pj_Z → mj_M} (hT : pj_Lt pj_TC lf) : ∀ (a1 : Int32) (a4 : Nat) (a5 : Nat) (a6 : Int32) (a7 : Int32) (a8 : Int32) (b0 : Int32) (s : Nat → Int32) (l : Nat → Int64) (x : Nat → Int32) (y : Nat → Int64) (a : Int32 × pj_Z), pl_X4_mapValue_119 a1 a4 a5 a6 a7 a8 b0 s l x y = some a → pm_Gd 1 4004 ie_X4_mapValue.1 pm_rI lf 119 [(0, .ref 1), (1, .int a1), (4, .ref (4 + a4)), (5, .ref (4 + a5)), (6, .int a6), (7, .int a7), (8, .int a8)] [.int b0] (s, l, x, y) a := by
  intro a1 a4 a5 a6 a7 a8 b0 s l x y a h
  exact pm_run ((pq_X4_mapValue_119  a1 a4 a5 a6 a7 a8 b0 s l x y).symm.trans h) (pz_X4_mapValue hT) (pm_bks_ok pb_X4_mapValue) (pm_bks_ok pb_X4_mapValue _ _ rfl) (pm_ndb_ok rfl) (fun _ _ h => by cases h)
set_option maxRecDepth 100000 in
theorem pg_X4_mapValue_90 {lf : pj_Z → mj_M} (hT : pj_Lt pj_TC lf) : ∀ (a1 : Int32) (a4 : Nat) (a5 : Nat) (a6 : Int32) (a7 : Int32) (b0 : Int32) (s : Nat → Int32) (l : Nat → Int64) (x : Nat → Int32) (y : Nat → Int64) (a : Int32 × pj_Z), pl_X4_mapValue_90 a1 a4 a5 a6 a7 b0 s l x y = some a → pm_Gd 1 4004 ie_X4_mapValue.1 pm_rI lf 90 [(0, .ref 1), (1, .int a1), (4, .ref (4 + a4)), (5, .ref (4 + a5)), (6, .int a6), (7, .int a7)] [.int b0] (s, l, x, y) a := by
  intro a1 a4 a5 a6 a7 b0 s l x y a h
  exact pm_run ((pq_X4_mapValue_90  a1 a4 a5 a6 a7 b0 s l x y).symm.trans h) (pz_X4_mapValue hT) (pm_bks_ok pb_X4_mapValue) (pm_bks_ok pb_X4_mapValue _ _ rfl) (pm_ndb_ok rfl) (pj_as_all (p := pm_Ex 1 4004 ie_X4_mapValue.1 pm_rI lf a) (List.forall_mem_cons.mpr ⟨pu_X4_mapValue_119 _ (fun c0 c1 c2 c3 c4 c5 c6 s l x y h => pg_X4_mapValue_119 hT c0 c1 c2 c3 c4 c5 c6 s l x y _ h), (fun _ h => by cases h)⟩))
set_option maxRecDepth 100000 in
theorem pm_X4_mapValue {lf : pj_Z → mj_M} (hT : pj_Lt pj_TC lf) (a1 : Int32) (a2 : Int32) (a3 : Int32) (s : Nat → Int32) (l : Nat → Int64) (x : Nat → Int32) (y : Nat → Int64) (a : Int32 × pj_Z) (h : pf_X4_mapValue a1 a2 a3 s l x y = some a) : mj_R ic_P 2 4004 [.ref 1, .int a1, .int a2, .int a3] (lf (s, l, x, y)) (pm_rI a.1) (lf a.2) := by
  refine pm_main (Y := ie_X4_mapValue.1) rfl (Nat.le_of_ble_eq_true rfl) ?_
  exact pm_run ((pq_X4_mapValue_m a1 a2 a3 s l x y).symm.trans h) (pz_X4_mapValue hT) (pm_bks_ok pb_X4_mapValue) (pm_bks_ok pb_X4_mapValue _ _ rfl) (pm_ndb_ok rfl) (pj_as_all (p := pm_Ex 1 4004 ie_X4_mapValue.1 pm_rI lf a) (List.forall_mem_cons.mpr ⟨pu_X4_mapValue_90 _ (fun c0 c1 c2 c3 c4 c5 s l x y h => pg_X4_mapValue_90 hT c0 c1 c2 c3 c4 c5 s l x y _ h), (fun _ h => by cases h)⟩))
abbrev ph_X4_mapValue {A : Type} : List pj_V → pj_Z → (List pj_V → pj_Z → Option A) → Option A := fun st z K => pj_pi st fun a3 st => pj_pi st fun a2 st => pj_pi st fun a1 st => pj_pr st 1 0 fun st => pj_ps st (pj_b (pf_X4_mapValue a1 a2 a3 z.1 z.2.1 z.2.2.1 z.2.2.2) fun r s l x y => K (pj_I r :: st) (s, l, x, y))
set_option maxRecDepth 100000 in
theorem pc_X4_mapValue {A : Type} {OK : A → Option Value → mj_M → Prop} {d j pc ix : Nat} {Y : mj_Y} {lf : pj_Z → mj_M} (hT : pj_Lt pj_TC lf) (hd : 2 ≤ d) (hl : mj_lk Y.2.2.2.2 pc = some (.invokevirtual ix, 3)) (hg : mj_pG ic_P j ix = some (4004, 3, some 4)) {lv : List (Nat × Value)} {st : List pj_V} {z : pj_Z} {K : List pj_V → pj_Z → Option A} {a : A} (hK : ∀ st z, K st z = some a → pj_Gd ic_P (mj_R ic_P d) j Y OK lf (pc + 3) lv (pj_es st) z a) (h : ph_X4_mapValue st z K = some a) : pj_Gd ic_P (mj_R ic_P d) j Y OK lf pc lv (pj_es st) z a := by
  obtain ⟨a3, r3, e3, h⟩ := pj_pi_inv h
  obtain ⟨a2, r2, e2, h⟩ := pj_pi_inv h
  obtain ⟨a1, r1, e1, h⟩ := pj_pi_inv h
  obtain ⟨r0, e0, h⟩ := pj_pr_inv h
  obtain ⟨hs, h⟩ := pj_ps_inv h
  obtain ⟨q, hq, h⟩ := pj_b_inv h
  exact pm_cv (o := 1) hl hg [.int a1, .int a2, .int a3] rfl (by rw [e3, e2, e1, e0]; rfl) hs (by decide) ((hT.2 1 _ rfl).1.2 z 0 (by decide)) (pm_rI q.1) hd (pm_X4_mapValue hT a1 a2 a3 z.1 z.2.1 z.2.2.1 z.2.2.2 q hq) rfl (hK _ _ h)

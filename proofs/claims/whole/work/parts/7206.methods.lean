/-! METHODS 6, printed by gen_meth.py -/
abbrev pe_J7_fill_53178_v2_5 (f : Int32 → Int32 → Int32 → pj_F (Unit × pj_Z)) : pj_K (Unit × pj_Z) := fun lv st z => pj_xr lv 0 95 0 <| pj_xi lv 1 fun a1 => pj_xi lv 2 fun a2 => pj_xi lv 3 fun a3 => pj_pe st (f a1 a2 a3 z.1 z.2.1 z.2.2.1 z.2.2.2)
abbrev px_J7_fill_53178_v2 : pj_C (Unit × pj_Z) := ((pj_as [(95, 100, 8, 1, 0, false, 8000, [])]), (fun _ => none), (fun _ => none), (fun _ => none), (fun _ => none), ic_X, 4, 0, pj_mU, (fun _ => none), fun _ => false)
abbrev pk_J7_fill_53178_v2 : List (Nat × List (Nat × Instr × Nat)) := [(0, [(0, .iconst 0, 1), (1, .istore_n 2, 1), (2, .aload_n 0, 1), (3, .arraylength, 1), (4, .istore_n 3, 1)]), (5, [(5, .iload_n 2, 1), (6, .iload_n 3, 1), (7, .if_icmp .ge 13, 3)]), (10, [(10, .aload_n 0, 1), (11, .iload_n 2, 1), (12, .iload_n 1, 1), (13, .iastore, 1), (14, .iinc 2 1, 3), (17, .goto (-12), 3)]), (20, [(20, .return_, 1)])]
set_option maxRecDepth 100000 in
theorem pq_J7_fill_53178_v2_5 (fu : Nat)  (n : Nat) (a1 : Int32) (a2 : Int32) (a3 : Int32) (s : Nat → Int32) (l : Nat → Int64) (x : Nat → Int32) (y : Nat → Int64) : pl_J7_fill_53178_v2_5 fu (n + 1) a1 a2 a3 s l x y = pj_bl px_J7_fill_53178_v2 (pj_rn px_J7_fill_53178_v2 (pj_as pk_J7_fill_53178_v2) (pj_as [(5, pe_J7_fill_53178_v2_5 (pl_J7_fill_53178_v2_5 fu n))]) 60) [(5, .iload_n 2, 1), (6, .iload_n 3, 1), (7, .if_icmp .ge 13, 3)] 5 [(0, pj_O (95, 0)), (1, pj_I a1), (2, pj_I a2), (3, pj_I a3)] [] (s, l, x, y) := rfl
set_option maxRecDepth 100000 in
theorem pq_J7_fill_53178_v2_m (fu : Nat)  (a1 : Int32) (s : Nat → Int32) (l : Nat → Int64) (x : Nat → Int32) (y : Nat → Int64) : po_J7_fill_53178_v2 fu a1 s l x y = pj_bl px_J7_fill_53178_v2 (pj_rn px_J7_fill_53178_v2 (pj_as pk_J7_fill_53178_v2) (pj_as [(5, pe_J7_fill_53178_v2_5 (pl_J7_fill_53178_v2_5 fu fu))]) 60) [(0, .iconst 0, 1), (1, .istore_n 2, 1), (2, .aload_n 0, 1), (3, .arraylength, 1), (4, .istore_n 3, 1)] 0 [(0, pj_O (95, 0)), (1, pj_I a1)] [] (s, l, x, y) := rfl
theorem pu_J7_fill_53178_v2_5 {lf : pj_Z → mj_M} {a : Unit × pj_Z} (f : Int32 → Int32 → Int32 → pj_F (Unit × pj_Z)) (hf : ∀ (a1 : Int32) (a2 : Int32) (a3 : Int32) (s : Nat → Int32) (l : Nat → Int64) (x : Nat → Int32) (y : Nat → Int64), f a1 a2 a3 s l x y = some a → pm_Gd 0 27000 ie_J7_fill_53178.1 pm_rU lf 5 [(0, .ref 95), (1, .int a1), (2, .int a2), (3, .int a3)] [] (s, l, x, y) a) : pm_Ex 0 27000 ie_J7_fill_53178.1 pm_rU lf a 5 (pe_J7_fill_53178_v2_5 f) := by
  intro lv st z hd h
  obtain ⟨g0, h⟩ := pj_xr_inv h
  obtain ⟨a1, g1, h⟩ := pj_xi_inv h
  obtain ⟨a2, g2, h⟩ := pj_xi_inv h
  obtain ⟨a3, g3, h⟩ := pj_xi_inv h
  obtain ⟨e9, h⟩ := pj_pe_inv h
  rw [e9]
  exact mj_wp_sub (mj_sub_cons g0 (mj_sub_cons g1 (mj_sub_cons g2 (mj_sub_cons g3 (mj_sub_nil hd))))) (hf _ _ _ _ _ _ _ h)
set_option maxRecDepth 100000 in
theorem pz_J7_fill_53178_v2 {lf : pj_Z → mj_M} (hT : pj_Lt pj_TC lf) : pj_Cok ic_P (mj_R ic_P 0) 27000 ie_J7_fill_53178.1 (pm_OK lf pm_rU) lf px_J7_fill_53178_v2 := by
  exact pm_cok (c := px_J7_fill_53178_v2) (pm_part hT (pj_as_all (p := fun b e => pj_TC b = some e) (List.forall_mem_cons.mpr ⟨rfl, (fun _ h => by cases h)⟩))) (fun _ _ h => by cases h) (fun _ _ h => by cases h) (fun _ _ h => by cases h) (fun _ _ h => by cases h) rfl rfl ⟨by decide, rfl⟩ pm_mU (fun _ _ h => by cases h) (fun _ h => by cases h)
set_option maxRecDepth 100000 in
theorem pb_J7_fill_53178_v2 : pm_bks ie_J7_fill_53178.1.2.2.2.2 pk_J7_fill_53178_v2 = true := by decide +kernel
set_option maxRecDepth 100000 in
theorem pg_J7_fill_53178_v2_5 {fu : Nat} {lf : pj_Z → mj_M} (hT : pj_Lt pj_TC lf) : ∀ (n : Nat), ∀ (a1 : Int32) (a2 : Int32) (a3 : Int32) (s : Nat → Int32) (l : Nat → Int64) (x : Nat → Int32) (y : Nat → Int64) (a : Unit × pj_Z), pl_J7_fill_53178_v2_5 fu n a1 a2 a3 s l x y = some a → pm_Gd 0 27000 ie_J7_fill_53178.1 pm_rU lf 5 [(0, .ref 95), (1, .int a1), (2, .int a2), (3, .int a3)] [] (s, l, x, y) a := by
  intro n
  induction n with
  | zero => intro a1 a2 a3 s l x y a h; cases (show (none : Option (Unit × pj_Z)) = some a from h)
  | succ n ih =>
    intro a1 a2 a3 s l x y a h
    exact pm_run ((pq_J7_fill_53178_v2_5 fu n a1 a2 a3 s l x y).symm.trans h) (pz_J7_fill_53178_v2 hT) (pm_bks_ok pb_J7_fill_53178_v2) (pm_bks_ok pb_J7_fill_53178_v2 _ _ rfl) (pm_ndb_ok rfl) (pj_as_all (p := pm_Ex 0 27000 ie_J7_fill_53178.1 pm_rU lf a) (List.forall_mem_cons.mpr ⟨pu_J7_fill_53178_v2_5 _ (fun c0 c1 c2 s l x y h => ih c0 c1 c2 s l x y _ h), (fun _ h => by cases h)⟩))
set_option maxRecDepth 100000 in
theorem pm_J7_fill_53178_v2 {lf : pj_Z → mj_M} (hT : pj_Lt pj_TC lf) (a1 : Int32) (s : Nat → Int32) (l : Nat → Int64) (x : Nat → Int32) (y : Nat → Int64) (a : Unit × pj_Z) (h : pf_J7_fill_53178_v2 a1 s l x y = some a) : mj_R ic_P 1 27000 [.ref 95, .int a1] (lf (s, l, x, y)) (pm_rU a.1) (lf a.2) := by
  refine pm_main (Y := ie_J7_fill_53178.1) rfl (Nat.le_of_ble_eq_true rfl) ?_
  exact pm_run ((pq_J7_fill_53178_v2_m 1000 a1 s l x y).symm.trans h) (pz_J7_fill_53178_v2 hT) (pm_bks_ok pb_J7_fill_53178_v2) (pm_bks_ok pb_J7_fill_53178_v2 _ _ rfl) (pm_ndb_ok rfl) (pj_as_all (p := pm_Ex 0 27000 ie_J7_fill_53178.1 pm_rU lf a) (List.forall_mem_cons.mpr ⟨pu_J7_fill_53178_v2_5 _ (fun c0 c1 c2 s l x y h => pg_J7_fill_53178_v2_5 hT _ c0 c1 c2 s l x y _ h), (fun _ h => by cases h)⟩))
abbrev ph_J7_fill_53178_v2 {A : Type} : List pj_V → pj_Z → (List pj_V → pj_Z → Option A) → Option A := fun st z K => pj_pi st fun a1 st => pj_pr st 95 0 fun st => pj_ps st (pj_b (pf_J7_fill_53178_v2 a1 z.1 z.2.1 z.2.2.1 z.2.2.2) fun r s l x y => K st (s, l, x, y))
set_option maxRecDepth 100000 in
theorem pc_J7_fill_53178_v2 {A : Type} {OK : A → Option Value → mj_M → Prop} {d j pc ix : Nat} {Y : mj_Y} {lf : pj_Z → mj_M} (hT : pj_Lt pj_TC lf) (hd : 1 ≤ d) (hl : mj_lk Y.2.2.2.2 pc = some (.invokestatic ix, 3)) (hg : mj_pG ic_P j ix = some (27000, 2, none)) {lv : List (Nat × Value)} {st : List pj_V} {z : pj_Z} {K : List pj_V → pj_Z → Option A} {a : A} (hK : ∀ st z, K st z = some a → pj_Gd ic_P (mj_R ic_P d) j Y OK lf (pc + 3) lv (pj_es st) z a) (h : ph_J7_fill_53178_v2 st z K = some a) : pj_Gd ic_P (mj_R ic_P d) j Y OK lf pc lv (pj_es st) z a := by
  obtain ⟨a1, r1, e1, h⟩ := pj_pi_inv h
  obtain ⟨r0, e0, h⟩ := pj_pr_inv h
  obtain ⟨hs, h⟩ := pj_ps_inv h
  obtain ⟨q, hq, h⟩ := pj_b_inv h
  exact pm_cs hl hg [.ref 95, .int a1] rfl (by rw [e1, e0]; rfl) hs (pm_rU q.1) hd (pm_J7_fill_53178_v2 hT a1 z.1 z.2.1 z.2.2.1 z.2.2.2 q hq) rfl (hK _ _ h)
abbrev pe_X10_endCycle_2 (f : Int32 → pj_F (Unit × pj_Z)) : pj_K (Unit × pj_Z) := fun lv st z => pj_xr lv 0 85 0 <| pj_xi lv 1 fun a1 => pj_pe st (f a1 z.1 z.2.1 z.2.2.1 z.2.2.2)
abbrev pe_X10_endCycle_40 (f : Int32 → pj_F (Unit × pj_Z)) : pj_K (Unit × pj_Z) := fun lv st z => pj_xr lv 0 85 0 <| pj_xi lv 1 fun a1 => pj_pe st (f a1 z.1 z.2.1 z.2.2.1 z.2.2.2)
abbrev pe_X10_endCycle_49 (f : Int32 → pj_F (Unit × pj_Z)) : pj_K (Unit × pj_Z) := fun lv st z => pj_xr lv 0 85 0 <| pj_xi lv 1 fun a1 => pj_pe st (f a1 z.1 z.2.1 z.2.2.1 z.2.2.2)
abbrev pe_X10_endCycle_77 (f : Int32 → pj_F (Unit × pj_Z)) : pj_K (Unit × pj_Z) := fun lv st z => pj_xr lv 0 85 0 <| pj_xi lv 1 fun a1 => pj_pe st (f a1 z.1 z.2.1 z.2.2.1 z.2.2.2)
abbrev px_X10_endCycle : pj_C (Unit × pj_Z) := ((pj_as [(85, 10, 8, 1, 0, true, 0, [(2, 86), (2, 95), (0, 87), (0, 88), (0, 89), (0, 90), (0, 91), (0, 92)]), (86, 103, 8, 1, 0, true, 87, []), (87, 100, 28, 8, 1, true, 40000, []), (95, 100, 8, 1, 0, false, 8000, [])]), (pj_as [(11, 10, 0, 2, true), (16, 10, 1, 2, true), (23, 10, 3, 0, false), (45, 10, 2, 3, false)]), (fun _ => none), (fun _ => none), (fun _ => none), ic_X, 2, 0, pj_mU, (pj_as [(74, ph_X10_heal), (149, ph_J7_fill_53178_v2)]), fun _ => false)
abbrev pk_X10_endCycle : List (Nat × List (Nat × Instr × Nat)) := [(0, [(0, .iconst 0, 1), (1, .istore_n 1, 1)]), (2, [(2, .iload_n 1, 1), (3, .bipush 28, 2), (5, .if_icmp .ge 78, 3)]), (8, [(8, .aload_n 0, 1), (9, .getfield 11, 3), (12, .iconst 5, 1), (13, .aaload, 1), (14, .iload_n 1, 1), (15, .iaload, 1), (16, .ifCond .eq 33, 3)]), (19, [(19, .aload_n 0, 1), (20, .getfield 11, 3), (23, .bipush 7, 2), (25, .aaload, 1), (26, .iload_n 1, 1), (27, .iaload, 1), (28, .ifCond .eq 21, 3)]), (31, [(31, .aload_n 0, 1), (32, .getfield 11, 3), (35, .iconst 3, 1), (36, .aaload, 1), (37, .iload_n 1, 1), (38, .iconst 1, 1), (39, .iastore, 1)]), (40, [(40, .aload_n 0, 1), (41, .getfield 11, 3), (44, .iconst 4, 1), (45, .aaload, 1), (46, .iload_n 1, 1), (47, .iconst 0, 1), (48, .iastore, 1)]), (49, [(49, .aload_n 0, 1), (50, .getfield 11, 3), (53, .iconst 5, 1), (54, .aaload, 1), (55, .iload_n 1, 1), (56, .iaload, 1), (57, .ifCond .ne 20, 3)]), (60, [(60, .aload_n 0, 1), (61, .getfield 11, 3), (64, .bipush 6, 2), (66, .aaload, 1), (67, .iload_n 1, 1), (68, .iaload, 1), (69, .ifCond .eq 8, 3)]), (72, [(72, .aload_n 0, 1), (73, .iload_n 1, 1), (74, .invokevirtual 58, 3)]), (77, [(77, .iinc 1 1, 3), (80, .goto (-78), 3)]), (83, [(83, .aload_n 0, 1), (84, .dup, 1), (85, .getfield 23, 3), (88, .iconst 1, 1), (89, .iadd, 1), (90, .putfield 23, 3), (93, .aload_n 0, 1), (94, .getfield 16, 3), (97, .iconst 0, 1), (98, .iaload, 1), (99, .istore_n 1, 1), (100, .aload_n 0, 1), (101, .getfield 45, 3), (104, .ifCond .eq 48, 3)]), (107, [(107, .iload_n 1, 1), (108, .ifCond .lt 44, 3)]), (111, [(111, .iload_n 1, 1), (112, .bipush 28, 2), (114, .if_icmp .ge 38, 3)]), (117, [(117, .aload_n 0, 1), (118, .getfield 11, 3), (121, .iconst 2, 1), (122, .aaload, 1), (123, .iload_n 1, 1), (124, .iaload, 1), (125, .ifCond .ne 27, 3)]), (128, [(128, .aload_n 0, 1), (129, .getfield 11, 3), (132, .iconst 3, 1), (133, .aaload, 1), (134, .iload_n 1, 1), (135, .iaload, 1), (136, .ifCond .ne 16, 3)]), (139, [(139, .aload_n 0, 1), (140, .iconst 0, 1), (141, .putfield 45, 3), (144, .aload_n 0, 1), (145, .getfield 16, 3), (148, .iconst 0, 1), (149, .invokestatic 39, 3)]), (152, [(152, .return_, 1)])]
set_option maxRecDepth 100000 in
theorem pq_X10_endCycle_77 (fu : Nat)  (k2 : Int32 → pj_F (Unit × pj_Z)) (a1 : Int32) (s : Nat → Int32) (l : Nat → Int64) (x : Nat → Int32) (y : Nat → Int64) : pl_X10_endCycle_77 fu k2 a1 s l x y = pj_bl px_X10_endCycle (pj_rn px_X10_endCycle (pj_as pk_X10_endCycle) (pj_as [(2, pe_X10_endCycle_2 k2)]) 60) [(77, .iinc 1 1, 3), (80, .goto (-78), 3)] 77 [(0, pj_O (85, 0)), (1, pj_I a1)] [] (s, l, x, y) := rfl
set_option maxRecDepth 100000 in
theorem pq_X10_endCycle_49 (fu : Nat)  (k2 : Int32 → pj_F (Unit × pj_Z)) (a1 : Int32) (s : Nat → Int32) (l : Nat → Int64) (x : Nat → Int32) (y : Nat → Int64) : pl_X10_endCycle_49 fu k2 a1 s l x y = pj_bl px_X10_endCycle (pj_rn px_X10_endCycle (pj_as pk_X10_endCycle) (pj_as [(2, pe_X10_endCycle_2 k2), (77, pe_X10_endCycle_77 (pl_X10_endCycle_77 fu k2))]) 60) [(49, .aload_n 0, 1), (50, .getfield 11, 3), (53, .iconst 5, 1), (54, .aaload, 1), (55, .iload_n 1, 1), (56, .iaload, 1), (57, .ifCond .ne 20, 3)] 49 [(0, pj_O (85, 0)), (1, pj_I a1)] [] (s, l, x, y) := rfl
set_option maxRecDepth 100000 in
theorem pq_X10_endCycle_40 (fu : Nat)  (k2 : Int32 → pj_F (Unit × pj_Z)) (a1 : Int32) (s : Nat → Int32) (l : Nat → Int64) (x : Nat → Int32) (y : Nat → Int64) : pl_X10_endCycle_40 fu k2 a1 s l x y = pj_bl px_X10_endCycle (pj_rn px_X10_endCycle (pj_as pk_X10_endCycle) (pj_as [(2, pe_X10_endCycle_2 k2), (49, pe_X10_endCycle_49 (pl_X10_endCycle_49 fu k2))]) 60) [(40, .aload_n 0, 1), (41, .getfield 11, 3), (44, .iconst 4, 1), (45, .aaload, 1), (46, .iload_n 1, 1), (47, .iconst 0, 1), (48, .iastore, 1)] 40 [(0, pj_O (85, 0)), (1, pj_I a1)] [] (s, l, x, y) := rfl
set_option maxRecDepth 100000 in
theorem pq_X10_endCycle_2 (fu : Nat)  (n : Nat) (a1 : Int32) (s : Nat → Int32) (l : Nat → Int64) (x : Nat → Int32) (y : Nat → Int64) : pl_X10_endCycle_2 fu (n + 1) a1 s l x y = pj_bl px_X10_endCycle (pj_rn px_X10_endCycle (pj_as pk_X10_endCycle) (pj_as [(2, pe_X10_endCycle_2 (pl_X10_endCycle_2 fu n)), (40, pe_X10_endCycle_40 (pl_X10_endCycle_40 fu (pl_X10_endCycle_2 fu n))), (49, pe_X10_endCycle_49 (pl_X10_endCycle_49 fu (pl_X10_endCycle_2 fu n)))]) 60) [(2, .iload_n 1, 1), (3, .bipush 28, 2), (5, .if_icmp .ge 78, 3)] 2 [(0, pj_O (85, 0)), (1, pj_I a1)] [] (s, l, x, y) := rfl
set_option maxRecDepth 100000 in
theorem pq_X10_endCycle_m (fu : Nat)   (s : Nat → Int32) (l : Nat → Int64) (x : Nat → Int32) (y : Nat → Int64) : po_X10_endCycle fu  s l x y = pj_bl px_X10_endCycle (pj_rn px_X10_endCycle (pj_as pk_X10_endCycle) (pj_as [(2, pe_X10_endCycle_2 (pl_X10_endCycle_2 fu fu))]) 60) [(0, .iconst 0, 1), (1, .istore_n 1, 1)] 0 [(0, pj_O (85, 0))] [] (s, l, x, y) := rfl
theorem pu_X10_endCycle_2 {lf : pj_Z → mj_M} {a : Unit × pj_Z} (f : Int32 → pj_F (Unit × pj_Z)) (hf : ∀ (a1 : Int32) (s : Nat → Int32) (l : Nat → Int64) (x : Nat → Int32) (y : Nat → Int64), f a1 s l x y = some a → pm_Gd 1 10006 ie_X10_endCycle.1 pm_rU lf 2 [(0, .ref 85), (1, .int a1)] [] (s, l, x, y) a) : pm_Ex 1 10006 ie_X10_endCycle.1 pm_rU lf a 2 (pe_X10_endCycle_2 f) := by
  intro lv st z hd h
  obtain ⟨g0, h⟩ := pj_xr_inv h
  obtain ⟨a1, g1, h⟩ := pj_xi_inv h
  obtain ⟨e9, h⟩ := pj_pe_inv h
  rw [e9]
  exact mj_wp_sub (mj_sub_cons g0 (mj_sub_cons g1 (mj_sub_nil hd))) (hf _ _ _ _ _ h)
theorem pu_X10_endCycle_40 {lf : pj_Z → mj_M} {a : Unit × pj_Z} (f : Int32 → pj_F (Unit × pj_Z)) (hf : ∀ (a1 : Int32) (s : Nat → Int32) (l : Nat → Int64) (x : Nat → Int32) (y : Nat → Int64), f a1 s l x y = some a → pm_Gd 1 10006 ie_X10_endCycle.1 pm_rU lf 40 [(0, .ref 85), (1, .int a1)] [] (s, l, x, y) a) : pm_Ex 1 10006 ie_X10_endCycle.1 pm_rU lf a 40 (pe_X10_endCycle_40 f) := by
  intro lv st z hd h
  obtain ⟨g0, h⟩ := pj_xr_inv h
  obtain ⟨a1, g1, h⟩ := pj_xi_inv h
  obtain ⟨e9, h⟩ := pj_pe_inv h
  rw [e9]
  exact mj_wp_sub (mj_sub_cons g0 (mj_sub_cons g1 (mj_sub_nil hd))) (hf _ _ _ _ _ h)
theorem pu_X10_endCycle_49 {lf : pj_Z → mj_M} {a : Unit × pj_Z} (f : Int32 → pj_F (Unit × pj_Z)) (hf : ∀ (a1 : Int32) (s : Nat → Int32) (l : Nat → Int64) (x : Nat → Int32) (y : Nat → Int64), f a1 s l x y = some a → pm_Gd 1 10006 ie_X10_endCycle.1 pm_rU lf 49 [(0, .ref 85), (1, .int a1)] [] (s, l, x, y) a) : pm_Ex 1 10006 ie_X10_endCycle.1 pm_rU lf a 49 (pe_X10_endCycle_49 f) := by
  intro lv st z hd h
  obtain ⟨g0, h⟩ := pj_xr_inv h
  obtain ⟨a1, g1, h⟩ := pj_xi_inv h
  obtain ⟨e9, h⟩ := pj_pe_inv h
  rw [e9]
  exact mj_wp_sub (mj_sub_cons g0 (mj_sub_cons g1 (mj_sub_nil hd))) (hf _ _ _ _ _ h)
theorem pu_X10_endCycle_77 {lf : pj_Z → mj_M} {a : Unit × pj_Z} (f : Int32 → pj_F (Unit × pj_Z)) (hf : ∀ (a1 : Int32) (s : Nat → Int32) (l : Nat → Int64) (x : Nat → Int32) (y : Nat → Int64), f a1 s l x y = some a → pm_Gd 1 10006 ie_X10_endCycle.1 pm_rU lf 77 [(0, .ref 85), (1, .int a1)] [] (s, l, x, y) a) : pm_Ex 1 10006 ie_X10_endCycle.1 pm_rU lf a 77 (pe_X10_endCycle_77 f) := by
  intro lv st z hd h
  obtain ⟨g0, h⟩ := pj_xr_inv h
  obtain ⟨a1, g1, h⟩ := pj_xi_inv h
  obtain ⟨e9, h⟩ := pj_pe_inv h
  rw [e9]
  exact mj_wp_sub (mj_sub_cons g0 (mj_sub_cons g1 (mj_sub_nil hd))) (hf _ _ _ _ _ h)
set_option maxRecDepth 100000 in
theorem pz_X10_endCycle {lf : pj_Z → mj_M} (hT : pj_Lt pj_TC lf) : pj_Cok ic_P (mj_R ic_P 1) 10006 ie_X10_endCycle.1 (pm_OK lf pm_rU) lf px_X10_endCycle := by
  exact pm_cok (c := px_X10_endCycle) (pm_part hT (pj_as_all (p := fun b e => pj_TC b = some e) (List.forall_mem_cons.mpr ⟨rfl, (List.forall_mem_cons.mpr ⟨rfl, (List.forall_mem_cons.mpr ⟨rfl, (List.forall_mem_cons.mpr ⟨rfl, (fun _ h => by cases h)⟩)⟩)⟩)⟩))) (pm_in_ok (L := [(11, 10, 0, 2, true), (16, 10, 1, 2, true), (23, 10, 3, 0, false), (45, 10, 2, 3, false)]) (f := mj_pF ic_P 10006) (by decide +kernel)) (fun _ _ h => by cases h) (fun _ _ h => by cases h) (fun _ _ h => by cases h) rfl rfl ⟨by decide, rfl⟩ pm_mU (pj_as_all (p := pm_Cl 1 10006 ie_X10_endCycle.1 lf (pm_OK lf pm_rU)) (List.forall_mem_cons.mpr ⟨fun _ _ lv st z K a hK h => pc_X10_heal hT (by decide) (ix := 58) rfl rfl hK h, (List.forall_mem_cons.mpr ⟨fun _ _ lv st z K a hK h => pc_J7_fill_53178_v2 hT (by decide) (ix := 39) rfl rfl hK h, (fun _ h => by cases h)⟩)⟩)) (fun _ h => by cases h)
set_option maxRecDepth 100000 in
theorem pb_X10_endCycle : pm_bks ie_X10_endCycle.1.2.2.2.2 pk_X10_endCycle = true := by decide +kernel
set_option maxRecDepth 100000 in
theorem pg_X10_endCycle_77 {fu : Nat} {lf : pj_Z → mj_M} (hT : pj_Lt pj_TC lf) {k2 : Int32 → pj_F (Unit × pj_Z)} (hk2 : ∀ (a1 : Int32) (s : Nat → Int32) (l : Nat → Int64) (x : Nat → Int32) (y : Nat → Int64) (a : Unit × pj_Z), k2 a1 s l x y = some a → pm_Gd 1 10006 ie_X10_endCycle.1 pm_rU lf 2 [(0, .ref 85), (1, .int a1)] [] (s, l, x, y) a) : ∀ (a1 : Int32) (s : Nat → Int32) (l : Nat → Int64) (x : Nat → Int32) (y : Nat → Int64) (a : Unit × pj_Z), pl_X10_endCycle_77 fu k2 a1 s l x y = some a → pm_Gd 1 10006 ie_X10_endCycle.1 pm_rU lf 77 [(0, .ref 85), (1, .int a1)] [] (s, l, x, y) a := by
  intro a1 s l x y a h
  exact pm_run ((pq_X10_endCycle_77 fu k2 a1 s l x y).symm.trans h) (pz_X10_endCycle hT) (pm_bks_ok pb_X10_endCycle) (pm_bks_ok pb_X10_endCycle _ _ rfl) (pm_ndb_ok rfl) (pj_as_all (p := pm_Ex 1 10006 ie_X10_endCycle.1 pm_rU lf a) (List.forall_mem_cons.mpr ⟨pu_X10_endCycle_2 _ (fun c0 s l x y h => hk2 c0 s l x y _ h), (fun _ h => by cases h)⟩))
set_option maxRecDepth 100000 in
theorem pg_X10_endCycle_49 {fu : Nat} {lf : pj_Z → mj_M} (hT : pj_Lt pj_TC lf) {k2 : Int32 → pj_F (Unit × pj_Z)} (hk2 : ∀ (a1 : Int32) (s : Nat → Int32) (l : Nat → Int64) (x : Nat → Int32) (y : Nat → Int64) (a : Unit × pj_Z), k2 a1 s l x y = some a → pm_Gd 1 10006 ie_X10_endCycle.1 pm_rU lf 2 [(0, .ref 85), (1, .int a1)] [] (s, l, x, y) a) : ∀ (a1 : Int32) (s : Nat → Int32) (l : Nat → Int64) (x : Nat → Int32) (y : Nat → Int64) (a : Unit × pj_Z), pl_X10_endCycle_49 fu k2 a1 s l x y = some a → pm_Gd 1 10006 ie_X10_endCycle.1 pm_rU lf 49 [(0, .ref 85), (1, .int a1)] [] (s, l, x, y) a := by
  intro a1 s l x y a h
  exact pm_run ((pq_X10_endCycle_49 fu k2 a1 s l x y).symm.trans h) (pz_X10_endCycle hT) (pm_bks_ok pb_X10_endCycle) (pm_bks_ok pb_X10_endCycle _ _ rfl) (pm_ndb_ok rfl) (pj_as_all (p := pm_Ex 1 10006 ie_X10_endCycle.1 pm_rU lf a) (List.forall_mem_cons.mpr ⟨pu_X10_endCycle_2 _ (fun c0 s l x y h => hk2 c0 s l x y _ h), (List.forall_mem_cons.mpr ⟨pu_X10_endCycle_77 _ (fun c0 s l x y h => pg_X10_endCycle_77 hT hk2 c0 s l x y _ h), (fun _ h => by cases h)⟩)⟩))
set_option maxRecDepth 100000 in
theorem pg_X10_endCycle_40 {fu : Nat} {lf : pj_Z → mj_M} (hT : pj_Lt pj_TC lf) {k2 : Int32 → pj_F (Unit × pj_Z)} (hk2 : ∀ (a1 : Int32) (s : Nat → Int32) (l : Nat → Int64) (x : Nat → Int32) (y : Nat → Int64) (a : Unit × pj_Z), k2 a1 s l x y = some a → pm_Gd 1 10006 ie_X10_endCycle.1 pm_rU lf 2 [(0, .ref 85), (1, .int a1)] [] (s, l, x, y) a) : ∀ (a1 : Int32) (s : Nat → Int32) (l : Nat → Int64) (x : Nat → Int32) (y : Nat → Int64) (a : Unit × pj_Z), pl_X10_endCycle_40 fu k2 a1 s l x y = some a → pm_Gd 1 10006 ie_X10_endCycle.1 pm_rU lf 40 [(0, .ref 85), (1, .int a1)] [] (s, l, x, y) a := by
  intro a1 s l x y a h
  exact pm_run ((pq_X10_endCycle_40 fu k2 a1 s l x y).symm.trans h) (pz_X10_endCycle hT) (pm_bks_ok pb_X10_endCycle) (pm_bks_ok pb_X10_endCycle _ _ rfl) (pm_ndb_ok rfl) (pj_as_all (p := pm_Ex 1 10006 ie_X10_endCycle.1 pm_rU lf a) (List.forall_mem_cons.mpr ⟨pu_X10_endCycle_2 _ (fun c0 s l x y h => hk2 c0 s l x y _ h), (List.forall_mem_cons.mpr ⟨pu_X10_endCycle_49 _ (fun c0 s l x y h => pg_X10_endCycle_49 hT hk2 c0 s l x y _ h), (fun _ h => by cases h)⟩)⟩))
set_option maxRecDepth 100000 in
theorem pg_X10_endCycle_2 {fu : Nat} {lf : pj_Z → mj_M} (hT : pj_Lt pj_TC lf) : ∀ (n : Nat), ∀ (a1 : Int32) (s : Nat → Int32) (l : Nat → Int64) (x : Nat → Int32) (y : Nat → Int64) (a : Unit × pj_Z), pl_X10_endCycle_2 fu n a1 s l x y = some a → pm_Gd 1 10006 ie_X10_endCycle.1 pm_rU lf 2 [(0, .ref 85), (1, .int a1)] [] (s, l, x, y) a := by
  intro n
  induction n with
  | zero => intro a1 s l x y a h; cases (show (none : Option (Unit × pj_Z)) = some a from h)
  | succ n ih =>
    intro a1 s l x y a h
    exact pm_run ((pq_X10_endCycle_2 fu n a1 s l x y).symm.trans h) (pz_X10_endCycle hT) (pm_bks_ok pb_X10_endCycle) (pm_bks_ok pb_X10_endCycle _ _ rfl) (pm_ndb_ok rfl) (pj_as_all (p := pm_Ex 1 10006 ie_X10_endCycle.1 pm_rU lf a) (List.forall_mem_cons.mpr ⟨pu_X10_endCycle_2 _ (fun c0 s l x y h => ih c0 s l x y _ h), (List.forall_mem_cons.mpr ⟨pu_X10_endCycle_40 _ (fun c0 s l x y h => pg_X10_endCycle_40 hT (fun a1 s l x y a h => ih a1 s l x y a h) c0 s l x y _ h), (List.forall_mem_cons.mpr ⟨pu_X10_endCycle_49 _ (fun c0 s l x y h => pg_X10_endCycle_49 hT (fun a1 s l x y a h => ih a1 s l x y a h) c0 s l x y _ h), (fun _ h => by cases h)⟩)⟩)⟩))
set_option maxRecDepth 100000 in
theorem pm_X10_endCycle {lf : pj_Z → mj_M} (hT : pj_Lt pj_TC lf)  (s : Nat → Int32) (l : Nat → Int64) (x : Nat → Int32) (y : Nat → Int64) (a : Unit × pj_Z) (h : pf_X10_endCycle  s l x y = some a) : mj_R ic_P 2 10006 [.ref 85] (lf (s, l, x, y)) (pm_rU a.1) (lf a.2) := by
  refine pm_main (Y := ie_X10_endCycle.1) rfl (Nat.le_of_ble_eq_true rfl) ?_
  exact pm_run ((pq_X10_endCycle_m 1000  s l x y).symm.trans h) (pz_X10_endCycle hT) (pm_bks_ok pb_X10_endCycle) (pm_bks_ok pb_X10_endCycle _ _ rfl) (pm_ndb_ok rfl) (pj_as_all (p := pm_Ex 1 10006 ie_X10_endCycle.1 pm_rU lf a) (List.forall_mem_cons.mpr ⟨pu_X10_endCycle_2 _ (fun c0 s l x y h => pg_X10_endCycle_2 hT _ c0 s l x y _ h), (fun _ h => by cases h)⟩))
abbrev ph_X10_endCycle {A : Type} : List pj_V → pj_Z → (List pj_V → pj_Z → Option A) → Option A := fun st z K => pj_pr st 85 0 fun st => pj_ps st (pj_b (pf_X10_endCycle  z.1 z.2.1 z.2.2.1 z.2.2.2) fun r s l x y => K st (s, l, x, y))
set_option maxRecDepth 100000 in
theorem pc_X10_endCycle {A : Type} {OK : A → Option Value → mj_M → Prop} {d j pc ix : Nat} {Y : mj_Y} {lf : pj_Z → mj_M} (hT : pj_Lt pj_TC lf) (hd : 2 ≤ d) (hl : mj_lk Y.2.2.2.2 pc = some (.invokevirtual ix, 3)) (hg : mj_pG ic_P j ix = some (10006, 0, some 10)) {lv : List (Nat × Value)} {st : List pj_V} {z : pj_Z} {K : List pj_V → pj_Z → Option A} {a : A} (hK : ∀ st z, K st z = some a → pj_Gd ic_P (mj_R ic_P d) j Y OK lf (pc + 3) lv (pj_es st) z a) (h : ph_X10_endCycle st z K = some a) : pj_Gd ic_P (mj_R ic_P d) j Y OK lf pc lv (pj_es st) z a := by
  obtain ⟨r0, e0, h⟩ := pj_pr_inv h
  obtain ⟨hs, h⟩ := pj_ps_inv h
  obtain ⟨q, hq, h⟩ := pj_b_inv h
  exact pm_cv (o := 85) hl hg [] rfl (by rw [e0]; rfl) hs (by decide) ((hT.2 85 _ rfl).1.2 z 0 (by decide)) (pm_rU q.1) hd (pm_X10_endCycle hT  z.1 z.2.1 z.2.2.1 z.2.2.2 q hq) rfl (hK _ _ h)
abbrev pe_X10_fill_10 (f : Int32 → pj_F (Unit × pj_Z)) : pj_K (Unit × pj_Z) := fun lv st z => pj_xr lv 0 85 0 <| pj_xr lv 1 17 0 <| pj_xi lv 2 fun a2 => pj_pe st (f a2 z.1 z.2.1 z.2.2.1 z.2.2.2)
abbrev pe_X10_fill_79 (f : Int32 → pj_F (Unit × pj_Z)) : pj_K (Unit × pj_Z) := fun lv st z => pj_xr lv 0 85 0 <| pj_xr lv 1 17 0 <| pj_pi st fun b2 st => pj_pc st 29 fun st => pj_pr st 17 0 fun st => pj_pe st (f b2 z.1 z.2.1 z.2.2.1 z.2.2.2)
abbrev pe_X10_fill_82 (f : Int32 → pj_F (Unit × pj_Z)) : pj_K (Unit × pj_Z) := fun lv st z => pj_xr lv 0 85 0 <| pj_xr lv 1 17 0 <| pj_xi lv 2 fun a2 => pj_pe st (f a2 z.1 z.2.1 z.2.2.1 z.2.2.2)
abbrev pe_X10_fill_110 (f : Int32 → Int32 → Int32 → pj_F (Unit × pj_Z)) : pj_K (Unit × pj_Z) := fun lv st z => pj_xr lv 0 85 0 <| pj_xr lv 1 17 0 <| pj_xi lv 2 fun a2 => pj_pi st fun b2 st => pj_pi st fun b1 st => pj_pr st 17 0 fun st => pj_pe st (f a2 b1 b2 z.1 z.2.1 z.2.2.1 z.2.2.2)
abbrev px_X10_fill : pj_C (Unit × pj_Z) := ((pj_as [(17, 100, 55, 1, 0, false, 1000, []), (85, 10, 8, 1, 0, true, 0, [(2, 86), (2, 95), (0, 87), (0, 88), (0, 89), (0, 90), (0, 91), (0, 92)]), (86, 103, 8, 1, 0, true, 87, []), (87, 100, 28, 8, 1, true, 40000, []), (95, 100, 8, 1, 0, false, 8000, [])]), (pj_as [(11, 10, 0, 2, true), (16, 10, 1, 2, true), (23, 10, 3, 0, false), (45, 10, 2, 3, false)]), (fun _ => none), (fun _ => none), (fun _ => none), ic_X, 3, 0, pj_mU, (fun _ => none), fun _ => false)
abbrev pk_X10_fill : List (Nat × List (Nat × Instr × Nat)) := [(0, [(0, .aload_n 1, 1), (1, .arraylength, 1), (2, .bipush 55, 2), (4, .if_icmp .ge 4, 3)]), (7, [(7, .return_, 1)]), (8, [(8, .iconst 0, 1), (9, .istore_n 2, 1)]), (10, [(10, .iload_n 2, 1), (11, .bipush 28, 2), (13, .if_icmp .ge 44, 3)]), (16, [(16, .aload_n 1, 1), (17, .iconst 1, 1), (18, .iload_n 2, 1), (19, .iadd, 1), (20, .aload_n 0, 1), (21, .getfield 11, 3), (24, .iconst 2, 1), (25, .aaload, 1), (26, .iload_n 2, 1), (27, .iaload, 1), (28, .iconst 2, 1), (29, .aload_n 0, 1), (30, .getfield 11, 3), (33, .iconst 3, 1), (34, .aaload, 1), (35, .iload_n 2, 1), (36, .iaload, 1), (37, .imul, 1), (38, .iadd, 1), (39, .iconst 4, 1), (40, .aload_n 0, 1), (41, .getfield 11, 3), (44, .iconst 4, 1), (45, .aaload, 1), (46, .iload_n 2, 1), (47, .iaload, 1), (48, .imul, 1), (49, .iadd, 1), (50, .iastore, 1), (51, .iinc 2 1, 3), (54, .goto (-44), 3)]), (57, [(57, .aload_n 1, 1), (58, .bipush 29, 2), (60, .aload_n 0, 1), (61, .getfield 45, 3), (64, .ifCond .eq 14, 3)]), (67, [(67, .iconst 1, 1), (68, .aload_n 0, 1), (69, .getfield 16, 3), (72, .iconst 0, 1), (73, .iaload, 1), (74, .iadd, 1), (75, .goto 4, 3)]), (78, [(78, .iconst 0, 1)]), (79, [(79, .iastore, 1), (80, .iconst 1, 1), (81, .istore_n 2, 1)]), (82, [(82, .iload_n 2, 1), (83, .bipush 8, 2), (85, .if_icmp .ge 32, 3)]), (88, [(88, .aload_n 1, 1), (89, .bipush 29, 2), (91, .iload_n 2, 1), (92, .iadd, 1), (93, .aload_n 0, 1), (94, .getfield 45, 3), (97, .ifCond .eq 12, 3)]), (100, [(100, .aload_n 0, 1), (101, .getfield 16, 3), (104, .iload_n 2, 1), (105, .iaload, 1), (106, .goto 4, 3)]), (109, [(109, .iconst 0, 1)]), (110, [(110, .iastore, 1), (111, .iinc 2 1, 3), (114, .goto (-32), 3)]), (117, [(117, .aload_n 1, 1), (118, .bipush 53, 2), (120, .aload_n 0, 1), (121, .getfield 23, 3), (124, .iastore, 1), (125, .return_, 1)])]
set_option maxRecDepth 100000 in
theorem pq_X10_fill_110 (fu : Nat)  (k82 : Int32 → pj_F (Unit × pj_Z)) (a2 : Int32) (b1 : Int32) (b2 : Int32) (s : Nat → Int32) (l : Nat → Int64) (x : Nat → Int32) (y : Nat → Int64) : pl_X10_fill_110 fu k82 a2 b1 b2 s l x y = pj_bl px_X10_fill (pj_rn px_X10_fill (pj_as pk_X10_fill) (pj_as [(82, pe_X10_fill_82 k82)]) 60) [(110, .iastore, 1), (111, .iinc 2 1, 3), (114, .goto (-32), 3)] 110 [(0, pj_O (85, 0)), (1, pj_O (17, 0)), (2, pj_I a2)] [pj_I b2, pj_I b1, pj_O (17, 0)] (s, l, x, y) := rfl
set_option maxRecDepth 100000 in
theorem pq_X10_fill_82 (fu : Nat)  (n : Nat) (a2 : Int32) (s : Nat → Int32) (l : Nat → Int64) (x : Nat → Int32) (y : Nat → Int64) : pl_X10_fill_82 fu (n + 1) a2 s l x y = pj_bl px_X10_fill (pj_rn px_X10_fill (pj_as pk_X10_fill) (pj_as [(82, pe_X10_fill_82 (pl_X10_fill_82 fu n)), (110, pe_X10_fill_110 (pl_X10_fill_110 fu (pl_X10_fill_82 fu n)))]) 60) [(82, .iload_n 2, 1), (83, .bipush 8, 2), (85, .if_icmp .ge 32, 3)] 82 [(0, pj_O (85, 0)), (1, pj_O (17, 0)), (2, pj_I a2)] [] (s, l, x, y) := rfl
set_option maxRecDepth 100000 in
theorem pq_X10_fill_79 (fu : Nat)  (b2 : Int32) (s : Nat → Int32) (l : Nat → Int64) (x : Nat → Int32) (y : Nat → Int64) : pl_X10_fill_79 fu b2 s l x y = pj_bl px_X10_fill (pj_rn px_X10_fill (pj_as pk_X10_fill) (pj_as [(82, pe_X10_fill_82 (pl_X10_fill_82 fu fu))]) 60) [(79, .iastore, 1), (80, .iconst 1, 1), (81, .istore_n 2, 1)] 79 [(0, pj_O (85, 0)), (1, pj_O (17, 0))] [pj_I b2, pj_N 29, pj_O (17, 0)] (s, l, x, y) := rfl
set_option maxRecDepth 100000 in
theorem pq_X10_fill_10 (fu : Nat)  (n : Nat) (a2 : Int32) (s : Nat → Int32) (l : Nat → Int64) (x : Nat → Int32) (y : Nat → Int64) : pl_X10_fill_10 fu (n + 1) a2 s l x y = pj_bl px_X10_fill (pj_rn px_X10_fill (pj_as pk_X10_fill) (pj_as [(10, pe_X10_fill_10 (pl_X10_fill_10 fu n)), (79, pe_X10_fill_79 (pl_X10_fill_79 fu))]) 60) [(10, .iload_n 2, 1), (11, .bipush 28, 2), (13, .if_icmp .ge 44, 3)] 10 [(0, pj_O (85, 0)), (1, pj_O (17, 0)), (2, pj_I a2)] [] (s, l, x, y) := rfl
set_option maxRecDepth 100000 in
theorem pq_X10_fill_m (fu : Nat)   (s : Nat → Int32) (l : Nat → Int64) (x : Nat → Int32) (y : Nat → Int64) : po_X10_fill fu  s l x y = pj_bl px_X10_fill (pj_rn px_X10_fill (pj_as pk_X10_fill) (pj_as [(10, pe_X10_fill_10 (pl_X10_fill_10 fu fu))]) 60) [(0, .aload_n 1, 1), (1, .arraylength, 1), (2, .bipush 55, 2), (4, .if_icmp .ge 4, 3)] 0 [(0, pj_O (85, 0)), (1, pj_O (17, 0))] [] (s, l, x, y) := rfl
theorem pu_X10_fill_10 {lf : pj_Z → mj_M} {a : Unit × pj_Z} (f : Int32 → pj_F (Unit × pj_Z)) (hf : ∀ (a2 : Int32) (s : Nat → Int32) (l : Nat → Int64) (x : Nat → Int32) (y : Nat → Int64), f a2 s l x y = some a → pm_Gd 0 10010 ie_X10_fill.1 pm_rU lf 10 [(0, .ref 85), (1, .ref 17), (2, .int a2)] [] (s, l, x, y) a) : pm_Ex 0 10010 ie_X10_fill.1 pm_rU lf a 10 (pe_X10_fill_10 f) := by
  intro lv st z hd h
  obtain ⟨g0, h⟩ := pj_xr_inv h
  obtain ⟨g1, h⟩ := pj_xr_inv h
  obtain ⟨a2, g2, h⟩ := pj_xi_inv h
  obtain ⟨e9, h⟩ := pj_pe_inv h
  rw [e9]
  exact mj_wp_sub (mj_sub_cons g0 (mj_sub_cons g1 (mj_sub_cons g2 (mj_sub_nil hd)))) (hf _ _ _ _ _ h)
theorem pu_X10_fill_79 {lf : pj_Z → mj_M} {a : Unit × pj_Z} (f : Int32 → pj_F (Unit × pj_Z)) (hf : ∀ (b2 : Int32) (s : Nat → Int32) (l : Nat → Int64) (x : Nat → Int32) (y : Nat → Int64), f b2 s l x y = some a → pm_Gd 0 10010 ie_X10_fill.1 pm_rU lf 79 [(0, .ref 85), (1, .ref 17)] [.int b2, .int (Int32.ofInt 29), .ref 17] (s, l, x, y) a) : pm_Ex 0 10010 ie_X10_fill.1 pm_rU lf a 79 (pe_X10_fill_79 f) := by
  intro lv st z hd h
  obtain ⟨g0, h⟩ := pj_xr_inv h
  obtain ⟨g1, h⟩ := pj_xr_inv h
  obtain ⟨b2, r2, e2, h⟩ := pj_pi_inv h
  obtain ⟨r1, e1, h⟩ := pj_pc_inv h
  obtain ⟨r0, e0, h⟩ := pj_pr_inv h
  obtain ⟨e9, h⟩ := pj_pe_inv h
  rw [e2, e1, e0, e9]
  exact mj_wp_sub (mj_sub_cons g0 (mj_sub_cons g1 (mj_sub_nil hd))) (hf _ _ _ _ _ h)
theorem pu_X10_fill_82 {lf : pj_Z → mj_M} {a : Unit × pj_Z} (f : Int32 → pj_F (Unit × pj_Z)) (hf : ∀ (a2 : Int32) (s : Nat → Int32) (l : Nat → Int64) (x : Nat → Int32) (y : Nat → Int64), f a2 s l x y = some a → pm_Gd 0 10010 ie_X10_fill.1 pm_rU lf 82 [(0, .ref 85), (1, .ref 17), (2, .int a2)] [] (s, l, x, y) a) : pm_Ex 0 10010 ie_X10_fill.1 pm_rU lf a 82 (pe_X10_fill_82 f) := by
  intro lv st z hd h
  obtain ⟨g0, h⟩ := pj_xr_inv h
  obtain ⟨g1, h⟩ := pj_xr_inv h
  obtain ⟨a2, g2, h⟩ := pj_xi_inv h
  obtain ⟨e9, h⟩ := pj_pe_inv h
  rw [e9]
  exact mj_wp_sub (mj_sub_cons g0 (mj_sub_cons g1 (mj_sub_cons g2 (mj_sub_nil hd)))) (hf _ _ _ _ _ h)
theorem pu_X10_fill_110 {lf : pj_Z → mj_M} {a : Unit × pj_Z} (f : Int32 → Int32 → Int32 → pj_F (Unit × pj_Z)) (hf : ∀ (a2 : Int32) (b1 : Int32) (b2 : Int32) (s : Nat → Int32) (l : Nat → Int64) (x : Nat → Int32) (y : Nat → Int64), f a2 b1 b2 s l x y = some a → pm_Gd 0 10010 ie_X10_fill.1 pm_rU lf 110 [(0, .ref 85), (1, .ref 17), (2, .int a2)] [.int b2, .int b1, .ref 17] (s, l, x, y) a) : pm_Ex 0 10010 ie_X10_fill.1 pm_rU lf a 110 (pe_X10_fill_110 f) := by
  intro lv st z hd h
  obtain ⟨g0, h⟩ := pj_xr_inv h
  obtain ⟨g1, h⟩ := pj_xr_inv h
  obtain ⟨a2, g2, h⟩ := pj_xi_inv h
  obtain ⟨b2, r2, e2, h⟩ := pj_pi_inv h
  obtain ⟨b1, r1, e1, h⟩ := pj_pi_inv h
  obtain ⟨r0, e0, h⟩ := pj_pr_inv h
  obtain ⟨e9, h⟩ := pj_pe_inv h
  rw [e2, e1, e0, e9]
  exact mj_wp_sub (mj_sub_cons g0 (mj_sub_cons g1 (mj_sub_cons g2 (mj_sub_nil hd)))) (hf _ _ _ _ _ _ _ h)
set_option maxRecDepth 100000 in
theorem pz_X10_fill {lf : pj_Z → mj_M} (hT : pj_Lt pj_TC lf) : pj_Cok ic_P (mj_R ic_P 0) 10010 ie_X10_fill.1 (pm_OK lf pm_rU) lf px_X10_fill := by
  exact pm_cok (c := px_X10_fill) (pm_part hT (pj_as_all (p := fun b e => pj_TC b = some e) (List.forall_mem_cons.mpr ⟨rfl, (List.forall_mem_cons.mpr ⟨rfl, (List.forall_mem_cons.mpr ⟨rfl, (List.forall_mem_cons.mpr ⟨rfl, (List.forall_mem_cons.mpr ⟨rfl, (fun _ h => by cases h)⟩)⟩)⟩)⟩)⟩))) (pm_in_ok (L := [(11, 10, 0, 2, true), (16, 10, 1, 2, true), (23, 10, 3, 0, false), (45, 10, 2, 3, false)]) (f := mj_pF ic_P 10010) (by decide +kernel)) (fun _ _ h => by cases h) (fun _ _ h => by cases h) (fun _ _ h => by cases h) rfl rfl ⟨by decide, rfl⟩ pm_mU (fun _ _ h => by cases h) (fun _ h => by cases h)
set_option maxRecDepth 100000 in
theorem pb_X10_fill : pm_bks ie_X10_fill.1.2.2.2.2 pk_X10_fill = true := by decide +kernel
set_option maxRecDepth 100000 in
theorem pg_X10_fill_110 {fu : Nat} {lf : pj_Z → mj_M} (hT : pj_Lt pj_TC lf) {k82 : Int32 → pj_F (Unit × pj_Z)} (hk82 : ∀ (a2 : Int32) (s : Nat → Int32) (l : Nat → Int64) (x : Nat → Int32) (y : Nat → Int64) (a : Unit × pj_Z), k82 a2 s l x y = some a → pm_Gd 0 10010 ie_X10_fill.1 pm_rU lf 82 [(0, .ref 85), (1, .ref 17), (2, .int a2)] [] (s, l, x, y) a) : ∀ (a2 : Int32) (b1 : Int32) (b2 : Int32) (s : Nat → Int32) (l : Nat → Int64) (x : Nat → Int32) (y : Nat → Int64) (a : Unit × pj_Z), pl_X10_fill_110 fu k82 a2 b1 b2 s l x y = some a → pm_Gd 0 10010 ie_X10_fill.1 pm_rU lf 110 [(0, .ref 85), (1, .ref 17), (2, .int a2)] [.int b2, .int b1, .ref 17] (s, l, x, y) a := by
  intro a2 b1 b2 s l x y a h
  exact pm_run ((pq_X10_fill_110 fu k82 a2 b1 b2 s l x y).symm.trans h) (pz_X10_fill hT) (pm_bks_ok pb_X10_fill) (pm_bks_ok pb_X10_fill _ _ rfl) (pm_ndb_ok rfl) (pj_as_all (p := pm_Ex 0 10010 ie_X10_fill.1 pm_rU lf a) (List.forall_mem_cons.mpr ⟨pu_X10_fill_82 _ (fun c0 s l x y h => hk82 c0 s l x y _ h), (fun _ h => by cases h)⟩))
set_option maxRecDepth 100000 in
theorem pg_X10_fill_82 {fu : Nat} {lf : pj_Z → mj_M} (hT : pj_Lt pj_TC lf) : ∀ (n : Nat), ∀ (a2 : Int32) (s : Nat → Int32) (l : Nat → Int64) (x : Nat → Int32) (y : Nat → Int64) (a : Unit × pj_Z), pl_X10_fill_82 fu n a2 s l x y = some a → pm_Gd 0 10010 ie_X10_fill.1 pm_rU lf 82 [(0, .ref 85), (1, .ref 17), (2, .int a2)] [] (s, l, x, y) a := by
  intro n
  induction n with
  | zero => intro a2 s l x y a h; cases (show (none : Option (Unit × pj_Z)) = some a from h)
  | succ n ih =>
    intro a2 s l x y a h
    exact pm_run ((pq_X10_fill_82 fu n a2 s l x y).symm.trans h) (pz_X10_fill hT) (pm_bks_ok pb_X10_fill) (pm_bks_ok pb_X10_fill _ _ rfl) (pm_ndb_ok rfl) (pj_as_all (p := pm_Ex 0 10010 ie_X10_fill.1 pm_rU lf a) (List.forall_mem_cons.mpr ⟨pu_X10_fill_82 _ (fun c0 s l x y h => ih c0 s l x y _ h), (List.forall_mem_cons.mpr ⟨pu_X10_fill_110 _ (fun c0 c1 c2 s l x y h => pg_X10_fill_110 hT (fun a2 s l x y a h => ih a2 s l x y a h) c0 c1 c2 s l x y _ h), (fun _ h => by cases h)⟩)⟩))
set_option maxRecDepth 100000 in
theorem pg_X10_fill_79 {fu : Nat} {lf : pj_Z → mj_M} (hT : pj_Lt pj_TC lf) : ∀ (b2 : Int32) (s : Nat → Int32) (l : Nat → Int64) (x : Nat → Int32) (y : Nat → Int64) (a : Unit × pj_Z), pl_X10_fill_79 fu b2 s l x y = some a → pm_Gd 0 10010 ie_X10_fill.1 pm_rU lf 79 [(0, .ref 85), (1, .ref 17)] [.int b2, .int (Int32.ofInt 29), .ref 17] (s, l, x, y) a := by
  intro b2 s l x y a h
  exact pm_run ((pq_X10_fill_79 fu b2 s l x y).symm.trans h) (pz_X10_fill hT) (pm_bks_ok pb_X10_fill) (pm_bks_ok pb_X10_fill _ _ rfl) (pm_ndb_ok rfl) (pj_as_all (p := pm_Ex 0 10010 ie_X10_fill.1 pm_rU lf a) (List.forall_mem_cons.mpr ⟨pu_X10_fill_82 _ (fun c0 s l x y h => pg_X10_fill_82 hT _ c0 s l x y _ h), (fun _ h => by cases h)⟩))
set_option maxRecDepth 100000 in
theorem pg_X10_fill_10 {fu : Nat} {lf : pj_Z → mj_M} (hT : pj_Lt pj_TC lf) : ∀ (n : Nat), ∀ (a2 : Int32) (s : Nat → Int32) (l : Nat → Int64) (x : Nat → Int32) (y : Nat → Int64) (a : Unit × pj_Z), pl_X10_fill_10 fu n a2 s l x y = some a → pm_Gd 0 10010 ie_X10_fill.1 pm_rU lf 10 [(0, .ref 85), (1, .ref 17), (2, .int a2)] [] (s, l, x, y) a := by
  intro n
  induction n with
  | zero => intro a2 s l x y a h; cases (show (none : Option (Unit × pj_Z)) = some a from h)
  | succ n ih =>
    intro a2 s l x y a h
    exact pm_run ((pq_X10_fill_10 fu n a2 s l x y).symm.trans h) (pz_X10_fill hT) (pm_bks_ok pb_X10_fill) (pm_bks_ok pb_X10_fill _ _ rfl) (pm_ndb_ok rfl) (pj_as_all (p := pm_Ex 0 10010 ie_X10_fill.1 pm_rU lf a) (List.forall_mem_cons.mpr ⟨pu_X10_fill_10 _ (fun c0 s l x y h => ih c0 s l x y _ h), (List.forall_mem_cons.mpr ⟨pu_X10_fill_79 _ (fun c0 s l x y h => pg_X10_fill_79 hT c0 s l x y _ h), (fun _ h => by cases h)⟩)⟩))
set_option maxRecDepth 100000 in
theorem pm_X10_fill {lf : pj_Z → mj_M} (hT : pj_Lt pj_TC lf)  (s : Nat → Int32) (l : Nat → Int64) (x : Nat → Int32) (y : Nat → Int64) (a : Unit × pj_Z) (h : pf_X10_fill  s l x y = some a) : mj_R ic_P 1 10010 [.ref 85, .ref 17] (lf (s, l, x, y)) (pm_rU a.1) (lf a.2) := by
  refine pm_main (Y := ie_X10_fill.1) rfl (Nat.le_of_ble_eq_true rfl) ?_
  exact pm_run ((pq_X10_fill_m 1000  s l x y).symm.trans h) (pz_X10_fill hT) (pm_bks_ok pb_X10_fill) (pm_bks_ok pb_X10_fill _ _ rfl) (pm_ndb_ok rfl) (pj_as_all (p := pm_Ex 0 10010 ie_X10_fill.1 pm_rU lf a) (List.forall_mem_cons.mpr ⟨pu_X10_fill_10 _ (fun c0 s l x y h => pg_X10_fill_10 hT _ c0 s l x y _ h), (fun _ h => by cases h)⟩))
abbrev ph_X10_fill {A : Type} : List pj_V → pj_Z → (List pj_V → pj_Z → Option A) → Option A := fun st z K => pj_pr st 17 0 fun st => pj_pr st 85 0 fun st => pj_ps st (pj_b (pf_X10_fill  z.1 z.2.1 z.2.2.1 z.2.2.2) fun r s l x y => K st (s, l, x, y))
set_option maxRecDepth 100000 in
theorem pc_X10_fill {A : Type} {OK : A → Option Value → mj_M → Prop} {d j pc ix : Nat} {Y : mj_Y} {lf : pj_Z → mj_M} (hT : pj_Lt pj_TC lf) (hd : 1 ≤ d) (hl : mj_lk Y.2.2.2.2 pc = some (.invokevirtual ix, 3)) (hg : mj_pG ic_P j ix = some (10010, 1, some 10)) {lv : List (Nat × Value)} {st : List pj_V} {z : pj_Z} {K : List pj_V → pj_Z → Option A} {a : A} (hK : ∀ st z, K st z = some a → pj_Gd ic_P (mj_R ic_P d) j Y OK lf (pc + 3) lv (pj_es st) z a) (h : ph_X10_fill st z K = some a) : pj_Gd ic_P (mj_R ic_P d) j Y OK lf pc lv (pj_es st) z a := by
  obtain ⟨r1, e1, h⟩ := pj_pr_inv h
  obtain ⟨r0, e0, h⟩ := pj_pr_inv h
  obtain ⟨hs, h⟩ := pj_ps_inv h
  obtain ⟨q, hq, h⟩ := pj_b_inv h
  exact pm_cv (o := 85) hl hg [.ref 17] rfl (by rw [e1, e0]; rfl) hs (by decide) ((hT.2 85 _ rfl).1.2 z 0 (by decide)) (pm_rU q.1) hd (pm_X10_fill hT  z.1 z.2.1 z.2.2.1 z.2.2.2 q hq) rfl (hK _ _ h)
abbrev px_X3_fill : pj_C (Unit × pj_Z) := ((pj_as [(17, 100, 55, 1, 0, false, 1000, []), (83, 3, 20, 1, 0, true, 0, [(0, 29), (0, 30), (1, 14), (1, 15), (0, 31), (0, 32), (0, 33), (0, 34), (0, 35), (0, 36), (0, 37), (0, 38), (0, 39), (0, 40), (1, 16), (1, 17), (0, 41), (0, 42), (0, 43), (2, 84)]), (84, 100, 16, 1, 0, true, 9000, [])]), (pj_as [(9, 3, 19, 2, true)]), (fun _ => none), (fun _ => none), (fun _ => none), ic_X, 2, 0, pj_mU, (fun _ => none), pj_mem [86])
abbrev pk_X3_fill : List (Nat × List (Nat × Instr × Nat)) := [(0, [(0, .aload_n 1, 1), (1, .arraylength, 1), (2, .bipush 55, 2), (4, .if_icmp .lt 16, 3)]), (7, [(7, .aload_n 0, 1), (8, .getfield 9, 3), (11, .iconst 0, 1), (12, .aload_n 1, 1), (13, .bipush 37, 2), (15, .bipush 16, 2), (17, .invokestatic 86, 3)]), (20, [(20, .return_, 1)])]
set_option maxRecDepth 100000 in
theorem pq_X3_fill_m   (s : Nat → Int32) (l : Nat → Int64) (x : Nat → Int32) (y : Nat → Int64) : pf_X3_fill  s l x y = pj_bl px_X3_fill (pj_rn px_X3_fill (pj_as pk_X3_fill) (fun _ => none) 60) [(0, .aload_n 1, 1), (1, .arraylength, 1), (2, .bipush 55, 2), (4, .if_icmp .lt 16, 3)] 0 [(0, pj_O (83, 0)), (1, pj_O (17, 0))] [] (s, l, x, y) := rfl
set_option maxRecDepth 100000 in
theorem pz_X3_fill {lf : pj_Z → mj_M} (hT : pj_Lt pj_TC lf) : pj_Cok ic_P (mj_R ic_P 0) 3003 ie_X3_fill.1 (pm_OK lf pm_rU) lf px_X3_fill := by
  exact pm_cok (c := px_X3_fill) (pm_part hT (pj_as_all (p := fun b e => pj_TC b = some e) (List.forall_mem_cons.mpr ⟨rfl, (List.forall_mem_cons.mpr ⟨rfl, (List.forall_mem_cons.mpr ⟨rfl, (fun _ h => by cases h)⟩)⟩)⟩))) (pm_in_ok (L := [(9, 3, 19, 2, true)]) (f := mj_pF ic_P 3003) (by decide +kernel)) (fun _ _ h => by cases h) (fun _ _ h => by cases h) (fun _ _ h => by cases h) rfl rfl ⟨by decide, rfl⟩ pm_mU (fun _ _ h => by cases h) (pj_mem_all (p := fun ix => mj_pC ic_P 3003 ix = true) (by simp only [List.mem_cons, List.not_mem_nil, or_false, forall_eq_or_imp, forall_eq]; exact rfl))
set_option maxRecDepth 100000 in
theorem pb_X3_fill : pm_bks ie_X3_fill.1.2.2.2.2 pk_X3_fill = true := by decide +kernel
set_option maxRecDepth 100000 in
theorem pm_X3_fill {lf : pj_Z → mj_M} (hT : pj_Lt pj_TC lf)  (s : Nat → Int32) (l : Nat → Int64) (x : Nat → Int32) (y : Nat → Int64) (a : Unit × pj_Z) (h : pf_X3_fill  s l x y = some a) : mj_R ic_P 1 3003 [.ref 83, .ref 17] (lf (s, l, x, y)) (pm_rU a.1) (lf a.2) := by
  refine pm_main (Y := ie_X3_fill.1) rfl (Nat.le_of_ble_eq_true rfl) ?_
  exact pm_run ((pq_X3_fill_m  s l x y).symm.trans h) (pz_X3_fill hT) (pm_bks_ok pb_X3_fill) (pm_bks_ok pb_X3_fill _ _ rfl) (pm_ndb_ok rfl) (fun _ _ h => by cases h)
abbrev ph_X3_fill {A : Type} : List pj_V → pj_Z → (List pj_V → pj_Z → Option A) → Option A := fun st z K => pj_pr st 17 0 fun st => pj_pr st 83 0 fun st => pj_ps st (pj_b (pf_X3_fill  z.1 z.2.1 z.2.2.1 z.2.2.2) fun r s l x y => K st (s, l, x, y))
set_option maxRecDepth 100000 in
theorem pc_X3_fill {A : Type} {OK : A → Option Value → mj_M → Prop} {d j pc ix : Nat} {Y : mj_Y} {lf : pj_Z → mj_M} (hT : pj_Lt pj_TC lf) (hd : 1 ≤ d) (hl : mj_lk Y.2.2.2.2 pc = some (.invokevirtual ix, 3)) (hg : mj_pG ic_P j ix = some (3003, 1, some 3)) {lv : List (Nat × Value)} {st : List pj_V} {z : pj_Z} {K : List pj_V → pj_Z → Option A} {a : A} (hK : ∀ st z, K st z = some a → pj_Gd ic_P (mj_R ic_P d) j Y OK lf (pc + 3) lv (pj_es st) z a) (h : ph_X3_fill st z K = some a) : pj_Gd ic_P (mj_R ic_P d) j Y OK lf pc lv (pj_es st) z a := by
  obtain ⟨r1, e1, h⟩ := pj_pr_inv h
  obtain ⟨r0, e0, h⟩ := pj_pr_inv h
  obtain ⟨hs, h⟩ := pj_ps_inv h
  obtain ⟨q, hq, h⟩ := pj_b_inv h
  exact pm_cv (o := 83) hl hg [.ref 17] rfl (by rw [e1, e0]; rfl) hs (by decide) ((hT.2 83 _ rfl).1.2 z 0 (by decide)) (pm_rU q.1) hd (pm_X3_fill hT  z.1 z.2.1 z.2.2.1 z.2.2.2 q hq) rfl (hK _ _ h)
abbrev pe_X4_sumOf_5 (f : Int32 → Int32 → Int32 → pj_F (Int32 × pj_Z)) : pj_K (Int32 × pj_Z) := fun lv st z => pj_xr lv 0 17 0 <| pj_xi lv 1 fun a1 => pj_xi lv 3 fun a3 => pj_xi lv 4 fun a4 => pj_pe st (f a1 a3 a4 z.1 z.2.1 z.2.2.1 z.2.2.2)
abbrev px_X4_sumOf : pj_C (Int32 × pj_Z) := ((pj_as [(17, 100, 55, 1, 0, false, 1000, [])]), (fun _ => none), (fun _ => none), (fun _ => none), (fun _ => none), ic_X, 5, 1, pj_mI, (fun _ => none), fun _ => false)
abbrev pk_X4_sumOf : List (Nat × List (Nat × Instr × Nat)) := [(0, [(0, .iload_n 2, 1), (1, .istore_n 3, 1), (2, .iconst 1, 1), (3, .istore 4, 2)]), (5, [(5, .iload 4, 2), (7, .iload_n 1, 1), (8, .if_icmp .ge 28, 3)]), (11, [(11, .iload 4, 2), (13, .aload_n 0, 1), (14, .arraylength, 1), (15, .if_icmp .ge 21, 3)]), (18, [(18, .iload_n 3, 1), (19, .iload 4, 2), (21, .iconst 1, 1), (22, .iadd, 1), (23, .aload_n 0, 1), (24, .iload 4, 2), (26, .iaload, 1), (27, .imul, 1), (28, .iadd, 1), (29, .istore_n 3, 1), (30, .iinc 4 1, 3), (33, .goto (-28), 3)]), (36, [(36, .iload_n 3, 1), (37, .ireturn, 1)])]
set_option maxRecDepth 100000 in
theorem pq_X4_sumOf_5 (fu : Nat)  (n : Nat) (a1 : Int32) (a3 : Int32) (a4 : Int32) (s : Nat → Int32) (l : Nat → Int64) (x : Nat → Int32) (y : Nat → Int64) : pl_X4_sumOf_5 fu (n + 1) a1 a3 a4 s l x y = pj_bl px_X4_sumOf (pj_rn px_X4_sumOf (pj_as pk_X4_sumOf) (pj_as [(5, pe_X4_sumOf_5 (pl_X4_sumOf_5 fu n))]) 60) [(5, .iload 4, 2), (7, .iload_n 1, 1), (8, .if_icmp .ge 28, 3)] 5 [(0, pj_O (17, 0)), (1, pj_I a1), (3, pj_I a3), (4, pj_I a4)] [] (s, l, x, y) := rfl
set_option maxRecDepth 100000 in
theorem pq_X4_sumOf_m (fu : Nat)  (a1 : Int32) (a2 : Int32) (s : Nat → Int32) (l : Nat → Int64) (x : Nat → Int32) (y : Nat → Int64) : po_X4_sumOf fu a1 a2 s l x y = pj_bl px_X4_sumOf (pj_rn px_X4_sumOf (pj_as pk_X4_sumOf) (pj_as [(5, pe_X4_sumOf_5 (pl_X4_sumOf_5 fu fu))]) 60) [(0, .iload_n 2, 1), (1, .istore_n 3, 1), (2, .iconst 1, 1), (3, .istore 4, 2)] 0 [(0, pj_O (17, 0)), (1, pj_I a1), (2, pj_I a2)] [] (s, l, x, y) := rfl
theorem pu_X4_sumOf_5 {lf : pj_Z → mj_M} {a : Int32 × pj_Z} (f : Int32 → Int32 → Int32 → pj_F (Int32 × pj_Z)) (hf : ∀ (a1 : Int32) (a3 : Int32) (a4 : Int32) (s : Nat → Int32) (l : Nat → Int64) (x : Nat → Int32) (y : Nat → Int64), f a1 a3 a4 s l x y = some a → pm_Gd 0 4008 ie_X4_sumOf.1 pm_rI lf 5 [(0, .ref 17), (1, .int a1), (3, .int a3), (4, .int a4)] [] (s, l, x, y) a) : pm_Ex 0 4008 ie_X4_sumOf.1 pm_rI lf a 5 (pe_X4_sumOf_5 f) := by
  intro lv st z hd h
  obtain ⟨g0, h⟩ := pj_xr_inv h
  obtain ⟨a1, g1, h⟩ := pj_xi_inv h
  obtain ⟨a3, g3, h⟩ := pj_xi_inv h
  obtain ⟨a4, g4, h⟩ := pj_xi_inv h
  obtain ⟨e9, h⟩ := pj_pe_inv h
  rw [e9]
  exact mj_wp_sub (mj_sub_cons g0 (mj_sub_cons g1 (mj_sub_cons g3 (mj_sub_cons g4 (mj_sub_nil hd))))) (hf _ _ _ _ _ _ _ h)
set_option maxRecDepth 100000 in
theorem pz_X4_sumOf {lf : pj_Z → mj_M} (hT : pj_Lt pj_TC lf) : pj_Cok ic_P (mj_R ic_P 0) 4008 ie_X4_sumOf.1 (pm_OK lf pm_rI) lf px_X4_sumOf := by
  exact pm_cok (c := px_X4_sumOf) (pm_part hT (pj_as_all (p := fun b e => pj_TC b = some e) (List.forall_mem_cons.mpr ⟨rfl, (fun _ h => by cases h)⟩))) (fun _ _ h => by cases h) (fun _ _ h => by cases h) (fun _ _ h => by cases h) (fun _ _ h => by cases h) rfl rfl ⟨by decide, rfl⟩ pm_mI (fun _ _ h => by cases h) (fun _ h => by cases h)
set_option maxRecDepth 100000 in
theorem pb_X4_sumOf : pm_bks ie_X4_sumOf.1.2.2.2.2 pk_X4_sumOf = true := by decide +kernel
set_option maxRecDepth 100000 in
theorem pg_X4_sumOf_5 {fu : Nat} {lf : pj_Z → mj_M} (hT : pj_Lt pj_TC lf) : ∀ (n : Nat), ∀ (a1 : Int32) (a3 : Int32) (a4 : Int32) (s : Nat → Int32) (l : Nat → Int64) (x : Nat → Int32) (y : Nat → Int64) (a : Int32 × pj_Z), pl_X4_sumOf_5 fu n a1 a3 a4 s l x y = some a → pm_Gd 0 4008 ie_X4_sumOf.1 pm_rI lf 5 [(0, .ref 17), (1, .int a1), (3, .int a3), (4, .int a4)] [] (s, l, x, y) a := by
  intro n
  induction n with
  | zero => intro a1 a3 a4 s l x y a h; cases (show (none : Option (Int32 × pj_Z)) = some a from h)
  | succ n ih =>
    intro a1 a3 a4 s l x y a h
    exact pm_run ((pq_X4_sumOf_5 fu n a1 a3 a4 s l x y).symm.trans h) (pz_X4_sumOf hT) (pm_bks_ok pb_X4_sumOf) (pm_bks_ok pb_X4_sumOf _ _ rfl) (pm_ndb_ok rfl) (pj_as_all (p := pm_Ex 0 4008 ie_X4_sumOf.1 pm_rI lf a) (List.forall_mem_cons.mpr ⟨pu_X4_sumOf_5 _ (fun c0 c1 c2 s l x y h => ih c0 c1 c2 s l x y _ h), (fun _ h => by cases h)⟩))
set_option maxRecDepth 100000 in
theorem pm_X4_sumOf {lf : pj_Z → mj_M} (hT : pj_Lt pj_TC lf) (a1 : Int32) (a2 : Int32) (s : Nat → Int32) (l : Nat → Int64) (x : Nat → Int32) (y : Nat → Int64) (a : Int32 × pj_Z) (h : pf_X4_sumOf a1 a2 s l x y = some a) : mj_R ic_P 1 4008 [.ref 17, .int a1, .int a2] (lf (s, l, x, y)) (pm_rI a.1) (lf a.2) := by
  refine pm_main (Y := ie_X4_sumOf.1) rfl (Nat.le_of_ble_eq_true rfl) ?_
  exact pm_run ((pq_X4_sumOf_m 1000 a1 a2 s l x y).symm.trans h) (pz_X4_sumOf hT) (pm_bks_ok pb_X4_sumOf) (pm_bks_ok pb_X4_sumOf _ _ rfl) (pm_ndb_ok rfl) (pj_as_all (p := pm_Ex 0 4008 ie_X4_sumOf.1 pm_rI lf a) (List.forall_mem_cons.mpr ⟨pu_X4_sumOf_5 _ (fun c0 c1 c2 s l x y h => pg_X4_sumOf_5 hT _ c0 c1 c2 s l x y _ h), (fun _ h => by cases h)⟩))
abbrev ph_X4_sumOf {A : Type} : List pj_V → pj_Z → (List pj_V → pj_Z → Option A) → Option A := fun st z K => pj_pi st fun a2 st => pj_pi st fun a1 st => pj_pr st 17 0 fun st => pj_ps st (pj_b (pf_X4_sumOf a1 a2 z.1 z.2.1 z.2.2.1 z.2.2.2) fun r s l x y => K (pj_I r :: st) (s, l, x, y))
set_option maxRecDepth 100000 in
theorem pc_X4_sumOf {A : Type} {OK : A → Option Value → mj_M → Prop} {d j pc ix : Nat} {Y : mj_Y} {lf : pj_Z → mj_M} (hT : pj_Lt pj_TC lf) (hd : 1 ≤ d) (hl : mj_lk Y.2.2.2.2 pc = some (.invokestatic ix, 3)) (hg : mj_pG ic_P j ix = some (4008, 3, none)) {lv : List (Nat × Value)} {st : List pj_V} {z : pj_Z} {K : List pj_V → pj_Z → Option A} {a : A} (hK : ∀ st z, K st z = some a → pj_Gd ic_P (mj_R ic_P d) j Y OK lf (pc + 3) lv (pj_es st) z a) (h : ph_X4_sumOf st z K = some a) : pj_Gd ic_P (mj_R ic_P d) j Y OK lf pc lv (pj_es st) z a := by
  obtain ⟨a2, r2, e2, h⟩ := pj_pi_inv h
  obtain ⟨a1, r1, e1, h⟩ := pj_pi_inv h
  obtain ⟨r0, e0, h⟩ := pj_pr_inv h
  obtain ⟨hs, h⟩ := pj_ps_inv h
  obtain ⟨q, hq, h⟩ := pj_b_inv h
  exact pm_cs hl hg [.ref 17, .int a1, .int a2] rfl (by rw [e2, e1, e0]; rfl) hs (pm_rI q.1) hd (pm_X4_sumOf hT a1 a2 z.1 z.2.1 z.2.2.1 z.2.2.2 q hq) rfl (hK _ _ h)
abbrev pe_X4_writeWord_16 (f : pj_F (Int32 × pj_Z)) : pj_K (Int32 × pj_Z) := fun lv st z => pj_xr lv 0 1 0 <| pj_pe st (f  z.1 z.2.1 z.2.2.1 z.2.2.2)
abbrev pe_X4_writeWord_43 (f : pj_F (Int32 × pj_Z)) : pj_K (Int32 × pj_Z) := fun lv st z => pj_xr lv 0 1 0 <| pj_pe st (f  z.1 z.2.1 z.2.2.1 z.2.2.2)
abbrev px_X4_writeWord : pj_C (Int32 × pj_Z) := ((pj_as [(1, 4, 10, 1, 0, true, 0, [(2, 2), (2, 3), (2, 8), (2, 11), (2, 14), (2, 17), (2, 18), (2, 19), (0, 44), (1, 3)]), (12, 100, 55, 2, 1, true, 13000, [])]), (pj_as [(38, 4, 8, 0, false), (89, 4, 9, 0, false)]), (fun _ => none), (fun _ => none), (fun _ => none), ic_X, 4, 2, pj_mI, (fun _ => none), fun _ => false)
abbrev pk_X4_writeWord : List (Nat × List (Nat × Instr × Nat)) := [(0, [(0, .iload_n 2, 1), (1, .ifCond .lt 9, 3)]), (4, [(4, .iload_n 2, 1), (5, .aload_n 1, 1), (6, .arraylength, 1), (7, .if_icmp .lt 5, 3)]), (10, [(10, .iconst 1, 1), (11, .ireturn, 1)]), (12, [(12, .aload_n 1, 1), (13, .iload_n 2, 1), (14, .iload_n 3, 1), (15, .iastore, 1)]), (16, [(16, .aload_n 0, 1), (17, .dup, 1), (18, .getfield 89, 3), (21, .iconst 1, 1), (22, .iadd, 1), (23, .putfield 89, 3), (26, .aload_n 0, 1), (27, .getfield 38, 3), (30, .ifCond .le 13, 3)]), (33, [(33, .aload_n 0, 1), (34, .dup, 1), (35, .getfield 38, 3), (38, .iconst 1, 1), (39, .isub, 1), (40, .putfield 38, 3)]), (43, [(43, .aload_n 0, 1), (44, .getfield 38, 3), (47, .ifCond .ne 10, 3)]), (50, [(50, .aload_n 0, 1), (51, .iconst (-1), 1), (52, .putfield 38, 3), (55, .iconst 0, 1), (56, .ireturn, 1)]), (57, [(57, .iconst 1, 1), (58, .ireturn, 1)])]
set_option maxRecDepth 100000 in
theorem pq_X4_writeWord_43   (s : Nat → Int32) (l : Nat → Int64) (x : Nat → Int32) (y : Nat → Int64) : pl_X4_writeWord_43 s l x y = pj_bl px_X4_writeWord (pj_rn px_X4_writeWord (pj_as pk_X4_writeWord) (fun _ => none) 60) [(43, .aload_n 0, 1), (44, .getfield 38, 3), (47, .ifCond .ne 10, 3)] 43 [(0, pj_O (1, 0))] [] (s, l, x, y) := rfl
set_option maxRecDepth 100000 in
theorem pq_X4_writeWord_16   (s : Nat → Int32) (l : Nat → Int64) (x : Nat → Int32) (y : Nat → Int64) : pl_X4_writeWord_16 s l x y = pj_bl px_X4_writeWord (pj_rn px_X4_writeWord (pj_as pk_X4_writeWord) (pj_as [(43, pe_X4_writeWord_43 (pl_X4_writeWord_43))]) 60) [(16, .aload_n 0, 1), (17, .dup, 1), (18, .getfield 89, 3), (21, .iconst 1, 1), (22, .iadd, 1), (23, .putfield 89, 3), (26, .aload_n 0, 1), (27, .getfield 38, 3), (30, .ifCond .le 13, 3)] 16 [(0, pj_O (1, 0))] [] (s, l, x, y) := rfl
set_option maxRecDepth 100000 in
theorem pq_X4_writeWord_m  (a2 : Int32) (a3 : Int32) (s : Nat → Int32) (l : Nat → Int64) (x : Nat → Int32) (y : Nat → Int64) : pf_X4_writeWord a2 a3 s l x y = pj_bl px_X4_writeWord (pj_rn px_X4_writeWord (pj_as pk_X4_writeWord) (pj_as [(16, pe_X4_writeWord_16 (pl_X4_writeWord_16))]) 60) [(0, .iload_n 2, 1), (1, .ifCond .lt 9, 3)] 0 [(0, pj_O (1, 0)), (1, pj_O (12, 1)), (2, pj_I a2), (3, pj_I a3)] [] (s, l, x, y) := rfl
theorem pu_X4_writeWord_16 {lf : pj_Z → mj_M} {a : Int32 × pj_Z} (f : pj_F (Int32 × pj_Z)) (hf : ∀  (s : Nat → Int32) (l : Nat → Int64) (x : Nat → Int32) (y : Nat → Int64), f  s l x y = some a → pm_Gd 0 4010 ie_X4_writeWord.1 pm_rI lf 16 [(0, .ref 1)] [] (s, l, x, y) a) : pm_Ex 0 4010 ie_X4_writeWord.1 pm_rI lf a 16 (pe_X4_writeWord_16 f) := by
  intro lv st z hd h
  obtain ⟨g0, h⟩ := pj_xr_inv h
  obtain ⟨e9, h⟩ := pj_pe_inv h
  rw [e9]
  exact mj_wp_sub (mj_sub_cons g0 (mj_sub_nil hd)) (hf  _ _ _ _ h)
theorem pu_X4_writeWord_43 {lf : pj_Z → mj_M} {a : Int32 × pj_Z} (f : pj_F (Int32 × pj_Z)) (hf : ∀  (s : Nat → Int32) (l : Nat → Int64) (x : Nat → Int32) (y : Nat → Int64), f  s l x y = some a → pm_Gd 0 4010 ie_X4_writeWord.1 pm_rI lf 43 [(0, .ref 1)] [] (s, l, x, y) a) : pm_Ex 0 4010 ie_X4_writeWord.1 pm_rI lf a 43 (pe_X4_writeWord_43 f) := by
  intro lv st z hd h
  obtain ⟨g0, h⟩ := pj_xr_inv h
  obtain ⟨e9, h⟩ := pj_pe_inv h
  rw [e9]
  exact mj_wp_sub (mj_sub_cons g0 (mj_sub_nil hd)) (hf  _ _ _ _ h)
set_option maxRecDepth 100000 in
theorem pz_X4_writeWord {lf : pj_Z → mj_M} (hT : pj_Lt pj_TC lf) : pj_Cok ic_P (mj_R ic_P 0) 4010 ie_X4_writeWord.1 (pm_OK lf pm_rI) lf px_X4_writeWord := by
  exact pm_cok (c := px_X4_writeWord) (pm_part hT (pj_as_all (p := fun b e => pj_TC b = some e) (List.forall_mem_cons.mpr ⟨rfl, (List.forall_mem_cons.mpr ⟨rfl, (fun _ h => by cases h)⟩)⟩))) (pm_in_ok (L := [(38, 4, 8, 0, false), (89, 4, 9, 0, false)]) (f := mj_pF ic_P 4010) (by decide +kernel)) (fun _ _ h => by cases h) (fun _ _ h => by cases h) (fun _ _ h => by cases h) rfl rfl ⟨by decide, rfl⟩ pm_mI (fun _ _ h => by cases h) (fun _ h => by cases h)
set_option maxRecDepth 100000 in
theorem pb_X4_writeWord : pm_bks ie_X4_writeWord.1.2.2.2.2 pk_X4_writeWord = true := by decide +kernel
set_option maxRecDepth 100000 in
theorem pg_X4_writeWord_43 {lf : pj_Z → mj_M} (hT : pj_Lt pj_TC lf) : ∀  (s : Nat → Int32) (l : Nat → Int64) (x : Nat → Int32) (y : Nat → Int64) (a : Int32 × pj_Z), pl_X4_writeWord_43 s l x y = some a → pm_Gd 0 4010 ie_X4_writeWord.1 pm_rI lf 43 [(0, .ref 1)] [] (s, l, x, y) a := by
  intro  s l x y a h
  exact pm_run ((pq_X4_writeWord_43   s l x y).symm.trans h) (pz_X4_writeWord hT) (pm_bks_ok pb_X4_writeWord) (pm_bks_ok pb_X4_writeWord _ _ rfl) (pm_ndb_ok rfl) (fun _ _ h => by cases h)
set_option maxRecDepth 100000 in
theorem pg_X4_writeWord_16 {lf : pj_Z → mj_M} (hT : pj_Lt pj_TC lf) : ∀  (s : Nat → Int32) (l : Nat → Int64) (x : Nat → Int32) (y : Nat → Int64) (a : Int32 × pj_Z), pl_X4_writeWord_16 s l x y = some a → pm_Gd 0 4010 ie_X4_writeWord.1 pm_rI lf 16 [(0, .ref 1)] [] (s, l, x, y) a := by
  intro  s l x y a h
  exact pm_run ((pq_X4_writeWord_16   s l x y).symm.trans h) (pz_X4_writeWord hT) (pm_bks_ok pb_X4_writeWord) (pm_bks_ok pb_X4_writeWord _ _ rfl) (pm_ndb_ok rfl) (pj_as_all (p := pm_Ex 0 4010 ie_X4_writeWord.1 pm_rI lf a) (List.forall_mem_cons.mpr ⟨pu_X4_writeWord_43 _ (fun  s l x y h => pg_X4_writeWord_43 hT  s l x y _ h), (fun _ h => by cases h)⟩))
set_option maxRecDepth 100000 in
theorem pm_X4_writeWord {lf : pj_Z → mj_M} (hT : pj_Lt pj_TC lf) (a2 : Int32) (a3 : Int32) (s : Nat → Int32) (l : Nat → Int64) (x : Nat → Int32) (y : Nat → Int64) (a : Int32 × pj_Z) (h : pf_X4_writeWord a2 a3 s l x y = some a) : mj_R ic_P 1 4010 [.ref 1, .ref 13, .int a2, .int a3] (lf (s, l, x, y)) (pm_rI a.1) (lf a.2) := by
  refine pm_main (Y := ie_X4_writeWord.1) rfl (Nat.le_of_ble_eq_true rfl) ?_
  exact pm_run ((pq_X4_writeWord_m a2 a3 s l x y).symm.trans h) (pz_X4_writeWord hT) (pm_bks_ok pb_X4_writeWord) (pm_bks_ok pb_X4_writeWord _ _ rfl) (pm_ndb_ok rfl) (pj_as_all (p := pm_Ex 0 4010 ie_X4_writeWord.1 pm_rI lf a) (List.forall_mem_cons.mpr ⟨pu_X4_writeWord_16 _ (fun  s l x y h => pg_X4_writeWord_16 hT  s l x y _ h), (fun _ h => by cases h)⟩))
abbrev ph_X4_writeWord {A : Type} : List pj_V → pj_Z → (List pj_V → pj_Z → Option A) → Option A := fun st z K => pj_pi st fun a3 st => pj_pi st fun a2 st => pj_pr st 12 1 fun st => pj_pr st 1 0 fun st => pj_ps st (pj_b (pf_X4_writeWord a2 a3 z.1 z.2.1 z.2.2.1 z.2.2.2) fun r s l x y => K (pj_I r :: st) (s, l, x, y))
set_option maxRecDepth 100000 in
theorem pc_X4_writeWord {A : Type} {OK : A → Option Value → mj_M → Prop} {d j pc ix : Nat} {Y : mj_Y} {lf : pj_Z → mj_M} (hT : pj_Lt pj_TC lf) (hd : 1 ≤ d) (hl : mj_lk Y.2.2.2.2 pc = some (.invokevirtual ix, 3)) (hg : mj_pG ic_P j ix = some (4010, 3, some 4)) {lv : List (Nat × Value)} {st : List pj_V} {z : pj_Z} {K : List pj_V → pj_Z → Option A} {a : A} (hK : ∀ st z, K st z = some a → pj_Gd ic_P (mj_R ic_P d) j Y OK lf (pc + 3) lv (pj_es st) z a) (h : ph_X4_writeWord st z K = some a) : pj_Gd ic_P (mj_R ic_P d) j Y OK lf pc lv (pj_es st) z a := by
  obtain ⟨a3, r3, e3, h⟩ := pj_pi_inv h
  obtain ⟨a2, r2, e2, h⟩ := pj_pi_inv h
  obtain ⟨r1, e1, h⟩ := pj_pr_inv h
  obtain ⟨r0, e0, h⟩ := pj_pr_inv h
  obtain ⟨hs, h⟩ := pj_ps_inv h
  obtain ⟨q, hq, h⟩ := pj_b_inv h
  exact pm_cv (o := 1) hl hg [.ref 13, .int a2, .int a3] rfl (by rw [e3, e2, e1, e0]; rfl) hs (by decide) ((hT.2 1 _ rfl).1.2 z 0 (by decide)) (pm_rI q.1) hd (pm_X4_writeWord hT a2 a3 z.1 z.2.1 z.2.2.1 z.2.2.2 q hq) rfl (hK _ _ h)
abbrev pe_X4_writeWord_v1_16 (f : pj_F (Int32 × pj_Z)) : pj_K (Int32 × pj_Z) := fun lv st z => pj_xr lv 0 1 0 <| pj_pe st (f  z.1 z.2.1 z.2.2.1 z.2.2.2)
abbrev pe_X4_writeWord_v1_43 (f : pj_F (Int32 × pj_Z)) : pj_K (Int32 × pj_Z) := fun lv st z => pj_xr lv 0 1 0 <| pj_pe st (f  z.1 z.2.1 z.2.2.1 z.2.2.2)
abbrev px_X4_writeWord_v1 : pj_C (Int32 × pj_Z) := ((pj_as [(1, 4, 10, 1, 0, true, 0, [(2, 2), (2, 3), (2, 8), (2, 11), (2, 14), (2, 17), (2, 18), (2, 19), (0, 44), (1, 3)]), (12, 100, 55, 2, 1, true, 13000, [])]), (pj_as [(38, 4, 8, 0, false), (89, 4, 9, 0, false)]), (fun _ => none), (fun _ => none), (fun _ => none), ic_X, 4, 2, pj_mI, (fun _ => none), fun _ => false)
abbrev pk_X4_writeWord_v1 : List (Nat × List (Nat × Instr × Nat)) := [(0, [(0, .iload_n 2, 1), (1, .ifCond .lt 9, 3)]), (4, [(4, .iload_n 2, 1), (5, .aload_n 1, 1), (6, .arraylength, 1), (7, .if_icmp .lt 5, 3)]), (10, [(10, .iconst 1, 1), (11, .ireturn, 1)]), (12, [(12, .aload_n 1, 1), (13, .iload_n 2, 1), (14, .iload_n 3, 1), (15, .iastore, 1)]), (16, [(16, .aload_n 0, 1), (17, .dup, 1), (18, .getfield 89, 3), (21, .iconst 1, 1), (22, .iadd, 1), (23, .putfield 89, 3), (26, .aload_n 0, 1), (27, .getfield 38, 3), (30, .ifCond .le 13, 3)]), (33, [(33, .aload_n 0, 1), (34, .dup, 1), (35, .getfield 38, 3), (38, .iconst 1, 1), (39, .isub, 1), (40, .putfield 38, 3)]), (43, [(43, .aload_n 0, 1), (44, .getfield 38, 3), (47, .ifCond .ne 10, 3)]), (50, [(50, .aload_n 0, 1), (51, .iconst (-1), 1), (52, .putfield 38, 3), (55, .iconst 0, 1), (56, .ireturn, 1)]), (57, [(57, .iconst 1, 1), (58, .ireturn, 1)])]
set_option maxRecDepth 100000 in
theorem pq_X4_writeWord_v1_43   (s : Nat → Int32) (l : Nat → Int64) (x : Nat → Int32) (y : Nat → Int64) : pl_X4_writeWord_v1_43 s l x y = pj_bl px_X4_writeWord_v1 (pj_rn px_X4_writeWord_v1 (pj_as pk_X4_writeWord_v1) (fun _ => none) 60) [(43, .aload_n 0, 1), (44, .getfield 38, 3), (47, .ifCond .ne 10, 3)] 43 [(0, pj_O (1, 0))] [] (s, l, x, y) := rfl
set_option maxRecDepth 100000 in
theorem pq_X4_writeWord_v1_16   (s : Nat → Int32) (l : Nat → Int64) (x : Nat → Int32) (y : Nat → Int64) : pl_X4_writeWord_v1_16 s l x y = pj_bl px_X4_writeWord_v1 (pj_rn px_X4_writeWord_v1 (pj_as pk_X4_writeWord_v1) (pj_as [(43, pe_X4_writeWord_v1_43 (pl_X4_writeWord_v1_43))]) 60) [(16, .aload_n 0, 1), (17, .dup, 1), (18, .getfield 89, 3), (21, .iconst 1, 1), (22, .iadd, 1), (23, .putfield 89, 3), (26, .aload_n 0, 1), (27, .getfield 38, 3), (30, .ifCond .le 13, 3)] 16 [(0, pj_O (1, 0))] [] (s, l, x, y) := rfl
set_option maxRecDepth 100000 in
theorem pq_X4_writeWord_v1_m  (a1 : Nat) (a2 : Int32) (a3 : Int32) (s : Nat → Int32) (l : Nat → Int64) (x : Nat → Int32) (y : Nat → Int64) : pf_X4_writeWord_v1 a1 a2 a3 s l x y = pj_bl px_X4_writeWord_v1 (pj_rn px_X4_writeWord_v1 (pj_as pk_X4_writeWord_v1) (pj_as [(16, pe_X4_writeWord_v1_16 (pl_X4_writeWord_v1_16))]) 60) [(0, .iload_n 2, 1), (1, .ifCond .lt 9, 3)] 0 [(0, pj_O (1, 0)), (1, pj_W (12, a1)), (2, pj_I a2), (3, pj_I a3)] [] (s, l, x, y) := rfl
theorem pu_X4_writeWord_v1_16 {lf : pj_Z → mj_M} {a : Int32 × pj_Z} (f : pj_F (Int32 × pj_Z)) (hf : ∀  (s : Nat → Int32) (l : Nat → Int64) (x : Nat → Int32) (y : Nat → Int64), f  s l x y = some a → pm_Gd 0 4010 ie_X4_writeWord.1 pm_rI lf 16 [(0, .ref 1)] [] (s, l, x, y) a) : pm_Ex 0 4010 ie_X4_writeWord.1 pm_rI lf a 16 (pe_X4_writeWord_v1_16 f) := by
  intro lv st z hd h
  obtain ⟨g0, h⟩ := pj_xr_inv h
  obtain ⟨e9, h⟩ := pj_pe_inv h
  rw [e9]
  exact mj_wp_sub (mj_sub_cons g0 (mj_sub_nil hd)) (hf  _ _ _ _ h)
theorem pu_X4_writeWord_v1_43 {lf : pj_Z → mj_M} {a : Int32 × pj_Z} (f : pj_F (Int32 × pj_Z)) (hf : ∀  (s : Nat → Int32) (l : Nat → Int64) (x : Nat → Int32) (y : Nat → Int64), f  s l x y = some a → pm_Gd 0 4010 ie_X4_writeWord.1 pm_rI lf 43 [(0, .ref 1)] [] (s, l, x, y) a) : pm_Ex 0 4010 ie_X4_writeWord.1 pm_rI lf a 43 (pe_X4_writeWord_v1_43 f) := by
  intro lv st z hd h
  obtain ⟨g0, h⟩ := pj_xr_inv h
  obtain ⟨e9, h⟩ := pj_pe_inv h
  rw [e9]
  exact mj_wp_sub (mj_sub_cons g0 (mj_sub_nil hd)) (hf  _ _ _ _ h)
set_option maxRecDepth 100000 in
theorem pz_X4_writeWord_v1 {lf : pj_Z → mj_M} (hT : pj_Lt pj_TC lf) : pj_Cok ic_P (mj_R ic_P 0) 4010 ie_X4_writeWord.1 (pm_OK lf pm_rI) lf px_X4_writeWord_v1 := by
  exact pm_cok (c := px_X4_writeWord_v1) (pm_part hT (pj_as_all (p := fun b e => pj_TC b = some e) (List.forall_mem_cons.mpr ⟨rfl, (List.forall_mem_cons.mpr ⟨rfl, (fun _ h => by cases h)⟩)⟩))) (pm_in_ok (L := [(38, 4, 8, 0, false), (89, 4, 9, 0, false)]) (f := mj_pF ic_P 4010) (by decide +kernel)) (fun _ _ h => by cases h) (fun _ _ h => by cases h) (fun _ _ h => by cases h) rfl rfl ⟨by decide, rfl⟩ pm_mI (fun _ _ h => by cases h) (fun _ h => by cases h)
set_option maxRecDepth 100000 in
theorem pb_X4_writeWord_v1 : pm_bks ie_X4_writeWord.1.2.2.2.2 pk_X4_writeWord_v1 = true := by decide +kernel
set_option maxRecDepth 100000 in
theorem pg_X4_writeWord_v1_43 {lf : pj_Z → mj_M} (hT : pj_Lt pj_TC lf) : ∀  (s : Nat → Int32) (l : Nat → Int64) (x : Nat → Int32) (y : Nat → Int64) (a : Int32 × pj_Z), pl_X4_writeWord_v1_43 s l x y = some a → pm_Gd 0 4010 ie_X4_writeWord.1 pm_rI lf 43 [(0, .ref 1)] [] (s, l, x, y) a := by
  intro  s l x y a h
  exact pm_run ((pq_X4_writeWord_v1_43   s l x y).symm.trans h) (pz_X4_writeWord_v1 hT) (pm_bks_ok pb_X4_writeWord_v1) (pm_bks_ok pb_X4_writeWord_v1 _ _ rfl) (pm_ndb_ok rfl) (fun _ _ h => by cases h)
set_option maxRecDepth 100000 in
theorem pg_X4_writeWord_v1_16 {lf : pj_Z → mj_M} (hT : pj_Lt pj_TC lf) : ∀  (s : Nat → Int32) (l : Nat → Int64) (x : Nat → Int32) (y : Nat → Int64) (a : Int32 × pj_Z), pl_X4_writeWord_v1_16 s l x y = some a → pm_Gd 0 4010 ie_X4_writeWord.1 pm_rI lf 16 [(0, .ref 1)] [] (s, l, x, y) a := by
  intro  s l x y a h
  exact pm_run ((pq_X4_writeWord_v1_16   s l x y).symm.trans h) (pz_X4_writeWord_v1 hT) (pm_bks_ok pb_X4_writeWord_v1) (pm_bks_ok pb_X4_writeWord_v1 _ _ rfl) (pm_ndb_ok rfl) (pj_as_all (p := pm_Ex 0 4010 ie_X4_writeWord.1 pm_rI lf a) (List.forall_mem_cons.mpr ⟨pu_X4_writeWord_v1_43 _ (fun  s l x y h => pg_X4_writeWord_v1_43 hT  s l x y _ h), (fun _ h => by cases h)⟩))
set_option maxRecDepth 100000 in
theorem pm_X4_writeWord_v1 {lf : pj_Z → mj_M} (hT : pj_Lt pj_TC lf) (a1 : Nat) (a2 : Int32) (a3 : Int32) (s : Nat → Int32) (l : Nat → Int64) (x : Nat → Int32) (y : Nat → Int64) (a : Int32 × pj_Z) (h : pf_X4_writeWord_v1 a1 a2 a3 s l x y = some a) : mj_R ic_P 1 4010 [.ref 1, .ref (12 + a1), .int a2, .int a3] (lf (s, l, x, y)) (pm_rI a.1) (lf a.2) := by
  refine pm_main (Y := ie_X4_writeWord.1) rfl (Nat.le_of_ble_eq_true rfl) ?_
  exact pm_run ((pq_X4_writeWord_v1_m a1 a2 a3 s l x y).symm.trans h) (pz_X4_writeWord_v1 hT) (pm_bks_ok pb_X4_writeWord_v1) (pm_bks_ok pb_X4_writeWord_v1 _ _ rfl) (pm_ndb_ok rfl) (pj_as_all (p := pm_Ex 0 4010 ie_X4_writeWord.1 pm_rI lf a) (List.forall_mem_cons.mpr ⟨pu_X4_writeWord_v1_16 _ (fun  s l x y h => pg_X4_writeWord_v1_16 hT  s l x y _ h), (fun _ h => by cases h)⟩))
abbrev ph_X4_writeWord_v1 {A : Type} : List pj_V → pj_Z → (List pj_V → pj_Z → Option A) → Option A := fun st z K => pj_pi st fun a3 st => pj_pi st fun a2 st => pj_pw st 12 fun a1 st => pj_pr st 1 0 fun st => pj_ps st (pj_b (pf_X4_writeWord_v1 a1 a2 a3 z.1 z.2.1 z.2.2.1 z.2.2.2) fun r s l x y => K (pj_I r :: st) (s, l, x, y))
set_option maxRecDepth 100000 in
theorem pc_X4_writeWord_v1 {A : Type} {OK : A → Option Value → mj_M → Prop} {d j pc ix : Nat} {Y : mj_Y} {lf : pj_Z → mj_M} (hT : pj_Lt pj_TC lf) (hd : 1 ≤ d) (hl : mj_lk Y.2.2.2.2 pc = some (.invokevirtual ix, 3)) (hg : mj_pG ic_P j ix = some (4010, 3, some 4)) {lv : List (Nat × Value)} {st : List pj_V} {z : pj_Z} {K : List pj_V → pj_Z → Option A} {a : A} (hK : ∀ st z, K st z = some a → pj_Gd ic_P (mj_R ic_P d) j Y OK lf (pc + 3) lv (pj_es st) z a) (h : ph_X4_writeWord_v1 st z K = some a) : pj_Gd ic_P (mj_R ic_P d) j Y OK lf pc lv (pj_es st) z a := by
  obtain ⟨a3, r3, e3, h⟩ := pj_pi_inv h
  obtain ⟨a2, r2, e2, h⟩ := pj_pi_inv h
  obtain ⟨a1, r1, e1, h⟩ := pj_pw_inv h
  obtain ⟨r0, e0, h⟩ := pj_pr_inv h
  obtain ⟨hs, h⟩ := pj_ps_inv h
  obtain ⟨q, hq, h⟩ := pj_b_inv h
  exact pm_cv (o := 1) hl hg [.ref (12 + a1), .int a2, .int a3] rfl (by rw [e3, e2, e1, e0]; rfl) hs (by decide) ((hT.2 1 _ rfl).1.2 z 0 (by decide)) (pm_rI q.1) hd (pm_X4_writeWord_v1 hT a1 a2 a3 z.1 z.2.1 z.2.2.1 z.2.2.2 q hq) rfl (hK _ _ h)
abbrev pe_X4_writeCopy_43 (f : Int32 → pj_F (Int32 × pj_Z)) : pj_K (Int32 × pj_Z) := fun lv st z => pj_xr lv 0 1 0 <| pj_xc lv 1 0 <| pj_pi st fun b1 st => pj_pr st 11 0 fun st => pj_pe st (f b1 z.1 z.2.1 z.2.2.1 z.2.2.2)
abbrev pe_X4_writeCopy_73 (f : Nat → Int32 → Int32 → pj_F (Int32 × pj_Z)) : pj_K (Int32 × pj_Z) := fun lv st z => pj_xr lv 0 1 0 <| pj_xw lv 3 12 fun a3 => pj_xi lv 4 fun a4 => pj_pi st fun b0 st => pj_pe st (f a3 a4 b0 z.1 z.2.1 z.2.2.1 z.2.2.2)
abbrev pe_X4_writeCopy_105 (f : Nat → Int32 → Int32 → Int32 → Int32 → pj_F (Int32 × pj_Z)) : pj_K (Int32 × pj_Z) := fun lv st z => pj_xr lv 0 1 0 <| pj_xw lv 3 12 fun a3 => pj_xi lv 4 fun a4 => pj_xi lv 5 fun a5 => pj_xi lv 6 fun a6 => pj_xi lv 7 fun a7 => pj_pe st (f a3 a4 a5 a6 a7 z.1 z.2.1 z.2.2.1 z.2.2.2)
abbrev pe_X4_writeCopy_139 (f : Nat → Int32 → Int32 → pj_F (Int32 × pj_Z)) : pj_K (Int32 × pj_Z) := fun lv st z => pj_xr lv 0 1 0 <| pj_xw lv 3 12 fun a3 => pj_xi lv 5 fun a5 => pj_xi lv 6 fun a6 => pj_pe st (f a3 a5 a6 z.1 z.2.1 z.2.2.1 z.2.2.2)
abbrev px_X4_writeCopy : pj_C (Int32 × pj_Z) := ((pj_as [(1, 4, 10, 1, 0, true, 0, [(2, 2), (2, 3), (2, 8), (2, 11), (2, 14), (2, 17), (2, 18), (2, 19), (0, 44), (1, 3)]), (11, 103, 2, 1, 0, true, 12, []), (12, 100, 55, 2, 1, true, 13000, []), (17, 100, 55, 1, 0, false, 1000, []), (18, 100, 2, 1, 0, false, 2000, []), (19, 100, 2, 1, 0, false, 3000, [])]), (pj_as [(23, 4, 3, 2, true), (29, 4, 5, 2, true), (32, 4, 6, 2, true), (35, 4, 7, 2, true)]), (fun _ => none), (fun _ => none), (fun _ => none), ic_X, 8, 2, pj_mI, (pj_as [(89, ph_X4_sumOf), (97, ph_X4_writeWord_v1), (128, ph_X4_writeWord_v1), (149, ph_X4_writeWord_v1)]), fun _ => false)
abbrev pk_X4_writeCopy : List (Nat × List (Nat × Instr × Nat)) := [(0, [(0, .iload_n 1, 1), (1, .ifCond .eq 10, 3)]), (11, [(11, .iload_n 1, 1), (12, .iconst 1, 1), (13, .if_icmp .ne 10, 3)]), (23, [(23, .aload_n 0, 1), (24, .getfield 23, 3), (27, .astore_n 2, 1), (28, .aload_n 2, 1), (29, .aload_n 0, 1), (30, .getfield 32, 3), (33, .iload_n 1, 1), (34, .iaload, 1), (35, .ifCond .ne 7, 3)]), (38, [(38, .iconst 1, 1), (39, .goto 4, 3)]), (42, [(42, .iconst 0, 1)]), (43, [(43, .aaload, 1), (44, .astore_n 3, 1), (45, .aload_n 3, 1), (46, .arraylength, 1), (47, .iconst 1, 1), (48, .isub, 1), (49, .istore 4, 2), (51, .aload_n 0, 1), (52, .getfield 32, 3), (55, .iload_n 1, 1), (56, .iaload, 1), (57, .iconst (-1), 1), (58, .if_icmp .ne 7, 3)]), (61, [(61, .iconst 1, 1), (62, .goto 11, 3)]), (65, [(65, .aload_n 0, 1), (66, .getfield 35, 3), (69, .iload_n 1, 1), (70, .iaload, 1), (71, .iconst 1, 1), (72, .iadd, 1)]), (73, [(73, .istore 5, 2), (75, .aload_n 0, 1), (76, .getfield 29, 3), (79, .iload 4, 2), (81, .aload_n 0, 1), (82, .getfield 29, 3), (85, .iload 4, 2), (87, .iload 5, 2), (89, .invokestatic 77, 3), (92, .iastore, 1), (93, .aload_n 0, 1), (94, .aload_n 3, 1), (95, .iconst 0, 1), (96, .iconst 0, 1), (97, .invokevirtual 85, 3), (100, .istore 6, 2), (102, .iconst 1, 1), (103, .istore 7, 2)]), (105, [(105, .iload 6, 2), (107, .ifCond .eq 32, 3)]), (110, [(110, .iload 7, 2), (112, .iload 4, 2), (114, .if_icmp .gt 25, 3)]), (117, [(117, .aload_n 0, 1), (118, .aload_n 3, 1), (119, .iload 7, 2), (121, .aload_n 0, 1), (122, .getfield 29, 3), (125, .iload 7, 2), (127, .iaload, 1), (128, .invokevirtual 85, 3), (131, .istore 6, 2), (133, .iinc 7 1, 3), (136, .goto (-31), 3)]), (139, [(139, .iload 6, 2), (141, .ifCond .eq 18, 3)]), (144, [(144, .aload_n 0, 1), (145, .aload_n 3, 1), (146, .iconst 0, 1), (147, .iload 5, 2), (149, .invokevirtual 85, 3), (152, .ifCond .eq 7, 3)]), (155, [(155, .iconst 1, 1), (156, .goto 4, 3)]), (159, [(159, .iconst 0, 1)]), (160, [(160, .ireturn, 1)])]
set_option maxRecDepth 100000 in
theorem pq_X4_writeCopy_139 (fu : Nat)  (a3 : Nat) (a5 : Int32) (a6 : Int32) (s : Nat → Int32) (l : Nat → Int64) (x : Nat → Int32) (y : Nat → Int64) : pl_X4_writeCopy_139 fu a3 a5 a6 s l x y = pj_bl px_X4_writeCopy (pj_rn px_X4_writeCopy (pj_as pk_X4_writeCopy) (fun _ => none) 60) [(139, .iload 6, 2), (141, .ifCond .eq 18, 3)] 139 [(0, pj_O (1, 0)), (3, pj_W (12, a3)), (5, pj_I a5), (6, pj_I a6)] [] (s, l, x, y) := rfl
set_option maxRecDepth 100000 in
theorem pq_X4_writeCopy_105 (fu : Nat)  (n : Nat) (a3 : Nat) (a4 : Int32) (a5 : Int32) (a6 : Int32) (a7 : Int32) (s : Nat → Int32) (l : Nat → Int64) (x : Nat → Int32) (y : Nat → Int64) : pl_X4_writeCopy_105 fu (n + 1) a3 a4 a5 a6 a7 s l x y = pj_bl px_X4_writeCopy (pj_rn px_X4_writeCopy (pj_as pk_X4_writeCopy) (pj_as [(105, pe_X4_writeCopy_105 (pl_X4_writeCopy_105 fu n)), (139, pe_X4_writeCopy_139 (pl_X4_writeCopy_139 fu))]) 60) [(105, .iload 6, 2), (107, .ifCond .eq 32, 3)] 105 [(0, pj_O (1, 0)), (3, pj_W (12, a3)), (4, pj_I a4), (5, pj_I a5), (6, pj_I a6), (7, pj_I a7)] [] (s, l, x, y) := rfl
set_option maxRecDepth 100000 in
theorem pq_X4_writeCopy_73 (fu : Nat)  (a3 : Nat) (a4 : Int32) (b0 : Int32) (s : Nat → Int32) (l : Nat → Int64) (x : Nat → Int32) (y : Nat → Int64) : pl_X4_writeCopy_73 fu a3 a4 b0 s l x y = pj_bl px_X4_writeCopy (pj_rn px_X4_writeCopy (pj_as pk_X4_writeCopy) (pj_as [(105, pe_X4_writeCopy_105 (pl_X4_writeCopy_105 fu fu))]) 60) [(73, .istore 5, 2), (75, .aload_n 0, 1), (76, .getfield 29, 3), (79, .iload 4, 2), (81, .aload_n 0, 1), (82, .getfield 29, 3), (85, .iload 4, 2), (87, .iload 5, 2), (89, .invokestatic 77, 3), (92, .iastore, 1), (93, .aload_n 0, 1), (94, .aload_n 3, 1), (95, .iconst 0, 1), (96, .iconst 0, 1), (97, .invokevirtual 85, 3), (100, .istore 6, 2), (102, .iconst 1, 1), (103, .istore 7, 2)] 73 [(0, pj_O (1, 0)), (3, pj_W (12, a3)), (4, pj_I a4)] [pj_I b0] (s, l, x, y) := rfl
set_option maxRecDepth 100000 in
theorem pq_X4_writeCopy_43 (fu : Nat)  (b1 : Int32) (s : Nat → Int32) (l : Nat → Int64) (x : Nat → Int32) (y : Nat → Int64) : pl_X4_writeCopy_43 fu b1 s l x y = pj_bl px_X4_writeCopy (pj_rn px_X4_writeCopy (pj_as pk_X4_writeCopy) (pj_as [(73, pe_X4_writeCopy_73 (pl_X4_writeCopy_73 fu))]) 60) [(43, .aaload, 1), (44, .astore_n 3, 1), (45, .aload_n 3, 1), (46, .arraylength, 1), (47, .iconst 1, 1), (48, .isub, 1), (49, .istore 4, 2), (51, .aload_n 0, 1), (52, .getfield 32, 3), (55, .iload_n 1, 1), (56, .iaload, 1), (57, .iconst (-1), 1), (58, .if_icmp .ne 7, 3)] 43 [(0, pj_O (1, 0)), (1, pj_N 0)] [pj_I b1, pj_O (11, 0)] (s, l, x, y) := rfl
set_option maxRecDepth 100000 in
theorem pq_X4_writeCopy_m (fu : Nat)   (s : Nat → Int32) (l : Nat → Int64) (x : Nat → Int32) (y : Nat → Int64) : po_X4_writeCopy fu  s l x y = pj_bl px_X4_writeCopy (pj_rn px_X4_writeCopy (pj_as pk_X4_writeCopy) (pj_as [(43, pe_X4_writeCopy_43 (pl_X4_writeCopy_43 fu))]) 60) [(0, .iload_n 1, 1), (1, .ifCond .eq 10, 3)] 0 [(0, pj_O (1, 0)), (1, pj_N 0)] [] (s, l, x, y) := rfl
theorem pu_X4_writeCopy_43 {lf : pj_Z → mj_M} {a : Int32 × pj_Z} (f : Int32 → pj_F (Int32 × pj_Z)) (hf : ∀ (b1 : Int32) (s : Nat → Int32) (l : Nat → Int64) (x : Nat → Int32) (y : Nat → Int64), f b1 s l x y = some a → pm_Gd 1 4009 ie_X4_writeCopy.1 pm_rI lf 43 [(0, .ref 1), (1, .int (Int32.ofInt 0))] [.int b1, .ref 11] (s, l, x, y) a) : pm_Ex 1 4009 ie_X4_writeCopy.1 pm_rI lf a 43 (pe_X4_writeCopy_43 f) := by
  intro lv st z hd h
  obtain ⟨g0, h⟩ := pj_xr_inv h
  obtain ⟨g1, h⟩ := pj_xc_inv h
  obtain ⟨b1, r1, e1, h⟩ := pj_pi_inv h
  obtain ⟨r0, e0, h⟩ := pj_pr_inv h
  obtain ⟨e9, h⟩ := pj_pe_inv h
  rw [e1, e0, e9]
  exact mj_wp_sub (mj_sub_cons g0 (mj_sub_cons g1 (mj_sub_nil hd))) (hf _ _ _ _ _ h)
theorem pu_X4_writeCopy_73 {lf : pj_Z → mj_M} {a : Int32 × pj_Z} (f : Nat → Int32 → Int32 → pj_F (Int32 × pj_Z)) (hf : ∀ (a3 : Nat) (a4 : Int32) (b0 : Int32) (s : Nat → Int32) (l : Nat → Int64) (x : Nat → Int32) (y : Nat → Int64), f a3 a4 b0 s l x y = some a → pm_Gd 1 4009 ie_X4_writeCopy.1 pm_rI lf 73 [(0, .ref 1), (3, .ref (12 + a3)), (4, .int a4)] [.int b0] (s, l, x, y) a) : pm_Ex 1 4009 ie_X4_writeCopy.1 pm_rI lf a 73 (pe_X4_writeCopy_73 f) := by
  intro lv st z hd h
  obtain ⟨g0, h⟩ := pj_xr_inv h
  obtain ⟨a3, g3, h⟩ := pj_xw_inv h
  obtain ⟨a4, g4, h⟩ := pj_xi_inv h
  obtain ⟨b0, r0, e0, h⟩ := pj_pi_inv h
  obtain ⟨e9, h⟩ := pj_pe_inv h
  rw [e0, e9]
  exact mj_wp_sub (mj_sub_cons g0 (mj_sub_cons g3 (mj_sub_cons g4 (mj_sub_nil hd)))) (hf _ _ _ _ _ _ _ h)
theorem pu_X4_writeCopy_105 {lf : pj_Z → mj_M} {a : Int32 × pj_Z} (f : Nat → Int32 → Int32 → Int32 → Int32 → pj_F (Int32 × pj_Z)) (hf : ∀ (a3 : Nat) (a4 : Int32) (a5 : Int32) (a6 : Int32) (a7 : Int32) (s : Nat → Int32) (l : Nat → Int64) (x : Nat → Int32) (y : Nat → Int64), f a3 a4 a5 a6 a7 s l x y = some a → pm_Gd 1 4009 ie_X4_writeCopy.1 pm_rI lf 105 [(0, .ref 1), (3, .ref (12 + a3)), (4, .int a4), (5, .int a5), (6, .int a6), (7, .int a7)] [] (s, l, x, y) a) : pm_Ex 1 4009 ie_X4_writeCopy.1 pm_rI lf a 105 (pe_X4_writeCopy_105 f) := by
  intro lv st z hd h
  obtain ⟨g0, h⟩ := pj_xr_inv h
  obtain ⟨a3, g3, h⟩ := pj_xw_inv h
  obtain ⟨a4, g4, h⟩ := pj_xi_inv h
  obtain ⟨a5, g5, h⟩ := pj_xi_inv h
  obtain ⟨a6, g6, h⟩ := pj_xi_inv h
  obtain ⟨a7, g7, h⟩ := pj_xi_inv h
  obtain ⟨e9, h⟩ := pj_pe_inv h
  rw [e9]
  exact mj_wp_sub (mj_sub_cons g0 (mj_sub_cons g3 (mj_sub_cons g4 (mj_sub_cons g5 (mj_sub_cons g6 (mj_sub_cons g7 (mj_sub_nil hd))))))) (hf _ _ _ _ _ _ _ _ _ h)
theorem pu_X4_writeCopy_139 {lf : pj_Z → mj_M} {a : Int32 × pj_Z} (f : Nat → Int32 → Int32 → pj_F (Int32 × pj_Z)) (hf : ∀ (a3 : Nat) (a5 : Int32) (a6 : Int32) (s : Nat → Int32) (l : Nat → Int64) (x : Nat → Int32) (y : Nat → Int64), f a3 a5 a6 s l x y = some a → pm_Gd 1 4009 ie_X4_writeCopy.1 pm_rI lf 139 [(0, .ref 1), (3, .ref (12 + a3)), (5, .int a5), (6, .int a6)] [] (s, l, x, y) a) : pm_Ex 1 4009 ie_X4_writeCopy.1 pm_rI lf a 139 (pe_X4_writeCopy_139 f) := by
  intro lv st z hd h
  obtain ⟨g0, h⟩ := pj_xr_inv h
  obtain ⟨a3, g3, h⟩ := pj_xw_inv h
  obtain ⟨a5, g5, h⟩ := pj_xi_inv h
  obtain ⟨a6, g6, h⟩ := pj_xi_inv h
  obtain ⟨e9, h⟩ := pj_pe_inv h
  rw [e9]
  exact mj_wp_sub (mj_sub_cons g0 (mj_sub_cons g3 (mj_sub_cons g5 (mj_sub_cons g6 (mj_sub_nil hd))))) (hf _ _ _ _ _ _ _ h)
set_option maxRecDepth 100000 in
theorem pz_X4_writeCopy {lf : pj_Z → mj_M} (hT : pj_Lt pj_TC lf) : pj_Cok ic_P (mj_R ic_P 1) 4009 ie_X4_writeCopy.1 (pm_OK lf pm_rI) lf px_X4_writeCopy := by
  exact pm_cok (c := px_X4_writeCopy) (pm_part hT (pj_as_all (p := fun b e => pj_TC b = some e) (List.forall_mem_cons.mpr ⟨rfl, (List.forall_mem_cons.mpr ⟨rfl, (List.forall_mem_cons.mpr ⟨rfl, (List.forall_mem_cons.mpr ⟨rfl, (List.forall_mem_cons.mpr ⟨rfl, (List.forall_mem_cons.mpr ⟨rfl, (fun _ h => by cases h)⟩)⟩)⟩)⟩)⟩)⟩))) (pm_in_ok (L := [(23, 4, 3, 2, true), (29, 4, 5, 2, true), (32, 4, 6, 2, true), (35, 4, 7, 2, true)]) (f := mj_pF ic_P 4009) (by decide +kernel)) (fun _ _ h => by cases h) (fun _ _ h => by cases h) (fun _ _ h => by cases h) rfl rfl ⟨by decide, rfl⟩ pm_mI (pj_as_all (p := pm_Cl 1 4009 ie_X4_writeCopy.1 lf (pm_OK lf pm_rI)) (List.forall_mem_cons.mpr ⟨fun _ _ lv st z K a hK h => pc_X4_sumOf hT (by decide) (ix := 77) rfl rfl hK h, (List.forall_mem_cons.mpr ⟨fun _ _ lv st z K a hK h => pc_X4_writeWord_v1 hT (by decide) (ix := 85) rfl rfl hK h, (List.forall_mem_cons.mpr ⟨fun _ _ lv st z K a hK h => pc_X4_writeWord_v1 hT (by decide) (ix := 85) rfl rfl hK h, (List.forall_mem_cons.mpr ⟨fun _ _ lv st z K a hK h => pc_X4_writeWord_v1 hT (by decide) (ix := 85) rfl rfl hK h, (fun _ h => by cases h)⟩)⟩)⟩)⟩)) (fun _ h => by cases h)
set_option maxRecDepth 100000 in
theorem pb_X4_writeCopy : pm_bks ie_X4_writeCopy.1.2.2.2.2 pk_X4_writeCopy = true := by decide +kernel
set_option maxRecDepth 100000 in
theorem pg_X4_writeCopy_139 {fu : Nat} {lf : pj_Z → mj_M} (hT : pj_Lt pj_TC lf) : ∀ (a3 : Nat) (a5 : Int32) (a6 : Int32) (s : Nat → Int32) (l : Nat → Int64) (x : Nat → Int32) (y : Nat → Int64) (a : Int32 × pj_Z), pl_X4_writeCopy_139 fu a3 a5 a6 s l x y = some a → pm_Gd 1 4009 ie_X4_writeCopy.1 pm_rI lf 139 [(0, .ref 1), (3, .ref (12 + a3)), (5, .int a5), (6, .int a6)] [] (s, l, x, y) a := by
  intro a3 a5 a6 s l x y a h
  exact pm_run ((pq_X4_writeCopy_139 fu a3 a5 a6 s l x y).symm.trans h) (pz_X4_writeCopy hT) (pm_bks_ok pb_X4_writeCopy) (pm_bks_ok pb_X4_writeCopy _ _ rfl) (pm_ndb_ok rfl) (fun _ _ h => by cases h)
set_option maxRecDepth 100000 in
theorem pg_X4_writeCopy_105 {fu : Nat} {lf : pj_Z → mj_M} (hT : pj_Lt pj_TC lf) : ∀ (n : Nat), ∀ (a3 : Nat) (a4 : Int32) (a5 : Int32) (a6 : Int32) (a7 : Int32) (s : Nat → Int32) (l : Nat → Int64) (x : Nat → Int32) (y : Nat → Int64) (a : Int32 × pj_Z), pl_X4_writeCopy_105 fu n a3 a4 a5 a6 a7 s l x y = some a → pm_Gd 1 4009 ie_X4_writeCopy.1 pm_rI lf 105 [(0, .ref 1), (3, .ref (12 + a3)), (4, .int a4), (5, .int a5), (6, .int a6), (7, .int a7)] [] (s, l, x, y) a := by
  intro n
  induction n with
  | zero => intro a3 a4 a5 a6 a7 s l x y a h; cases (show (none : Option (Int32 × pj_Z)) = some a from h)
  | succ n ih =>
    intro a3 a4 a5 a6 a7 s l x y a h
    exact pm_run ((pq_X4_writeCopy_105 fu n a3 a4 a5 a6 a7 s l x y).symm.trans h) (pz_X4_writeCopy hT) (pm_bks_ok pb_X4_writeCopy) (pm_bks_ok pb_X4_writeCopy _ _ rfl) (pm_ndb_ok rfl) (pj_as_all (p := pm_Ex 1 4009 ie_X4_writeCopy.1 pm_rI lf a) (List.forall_mem_cons.mpr ⟨pu_X4_writeCopy_105 _ (fun c0 c1 c2 c3 c4 s l x y h => ih c0 c1 c2 c3 c4 s l x y _ h), (List.forall_mem_cons.mpr ⟨pu_X4_writeCopy_139 _ (fun c0 c1 c2 s l x y h => pg_X4_writeCopy_139 hT c0 c1 c2 s l x y _ h), (fun _ h => by cases h)⟩)⟩))
set_option maxRecDepth 100000 in
theorem pg_X4_writeCopy_73 {fu : Nat} {lf : pj_Z → mj_M} (hT : pj_Lt pj_TC lf) : ∀ (a3 : Nat) (a4 : Int32) (b0 : Int32) (s : Nat → Int32) (l : Nat → Int64) (x : Nat → Int32) (y : Nat → Int64) (a : Int32 × pj_Z), pl_X4_writeCopy_73 fu a3 a4 b0 s l x y = some a → pm_Gd 1 4009 ie_X4_writeCopy.1 pm_rI lf 73 [(0, .ref 1), (3, .ref (12 + a3)), (4, .int a4)] [.int b0] (s, l, x, y) a := by
  intro a3 a4 b0 s l x y a h
  exact pm_run ((pq_X4_writeCopy_73 fu a3 a4 b0 s l x y).symm.trans h) (pz_X4_writeCopy hT) (pm_bks_ok pb_X4_writeCopy) (pm_bks_ok pb_X4_writeCopy _ _ rfl) (pm_ndb_ok rfl) (pj_as_all (p := pm_Ex 1 4009 ie_X4_writeCopy.1 pm_rI lf a) (List.forall_mem_cons.mpr ⟨pu_X4_writeCopy_105 _ (fun c0 c1 c2 c3 c4 s l x y h => pg_X4_writeCopy_105 hT _ c0 c1 c2 c3 c4 s l x y _ h), (fun _ h => by cases h)⟩))
set_option maxRecDepth 100000 in
theorem pg_X4_writeCopy_43 {fu : Nat} {lf : pj_Z → mj_M} (hT : pj_Lt pj_TC lf) : ∀ (b1 : Int32) (s : Nat → Int32) (l : Nat → Int64) (x : Nat → Int32) (y : Nat → Int64) (a : Int32 × pj_Z), pl_X4_writeCopy_43 fu b1 s l x y = some a → pm_Gd 1 4009 ie_X4_writeCopy.1 pm_rI lf 43 [(0, .ref 1), (1, .int (Int32.ofInt 0))] [.int b1, .ref 11] (s, l, x, y) a := by
  intro b1 s l x y a h
  exact pm_run ((pq_X4_writeCopy_43 fu b1 s l x y).symm.trans h) (pz_X4_writeCopy hT) (pm_bks_ok pb_X4_writeCopy) (pm_bks_ok pb_X4_writeCopy _ _ rfl) (pm_ndb_ok rfl) (pj_as_all (p := pm_Ex 1 4009 ie_X4_writeCopy.1 pm_rI lf a) (List.forall_mem_cons.mpr ⟨pu_X4_writeCopy_73 _ (fun c0 c1 c2 s l x y h => pg_X4_writeCopy_73 hT c0 c1 c2 s l x y _ h), (fun _ h => by cases h)⟩))
set_option maxRecDepth 100000 in
theorem pm_X4_writeCopy {lf : pj_Z → mj_M} (hT : pj_Lt pj_TC lf)  (s : Nat → Int32) (l : Nat → Int64) (x : Nat → Int32) (y : Nat → Int64) (a : Int32 × pj_Z) (h : pf_X4_writeCopy  s l x y = some a) : mj_R ic_P 2 4009 [.ref 1, .int (Int32.ofInt 0)] (lf (s, l, x, y)) (pm_rI a.1) (lf a.2) := by
  refine pm_main (Y := ie_X4_writeCopy.1) rfl (Nat.le_of_ble_eq_true rfl) ?_
  exact pm_run ((pq_X4_writeCopy_m 1000  s l x y).symm.trans h) (pz_X4_writeCopy hT) (pm_bks_ok pb_X4_writeCopy) (pm_bks_ok pb_X4_writeCopy _ _ rfl) (pm_ndb_ok rfl) (pj_as_all (p := pm_Ex 1 4009 ie_X4_writeCopy.1 pm_rI lf a) (List.forall_mem_cons.mpr ⟨pu_X4_writeCopy_43 _ (fun c0 s l x y h => pg_X4_writeCopy_43 hT c0 s l x y _ h), (fun _ h => by cases h)⟩))
abbrev ph_X4_writeCopy {A : Type} : List pj_V → pj_Z → (List pj_V → pj_Z → Option A) → Option A := fun st z K => pj_pc st 0 fun st => pj_pr st 1 0 fun st => pj_ps st (pj_b (pf_X4_writeCopy  z.1 z.2.1 z.2.2.1 z.2.2.2) fun r s l x y => K (pj_I r :: st) (s, l, x, y))
set_option maxRecDepth 100000 in
theorem pc_X4_writeCopy {A : Type} {OK : A → Option Value → mj_M → Prop} {d j pc ix : Nat} {Y : mj_Y} {lf : pj_Z → mj_M} (hT : pj_Lt pj_TC lf) (hd : 2 ≤ d) (hl : mj_lk Y.2.2.2.2 pc = some (.invokevirtual ix, 3)) (hg : mj_pG ic_P j ix = some (4009, 1, some 4)) {lv : List (Nat × Value)} {st : List pj_V} {z : pj_Z} {K : List pj_V → pj_Z → Option A} {a : A} (hK : ∀ st z, K st z = some a → pj_Gd ic_P (mj_R ic_P d) j Y OK lf (pc + 3) lv (pj_es st) z a) (h : ph_X4_writeCopy st z K = some a) : pj_Gd ic_P (mj_R ic_P d) j Y OK lf pc lv (pj_es st) z a := by
  obtain ⟨r1, e1, h⟩ := pj_pc_inv h
  obtain ⟨r0, e0, h⟩ := pj_pr_inv h
  obtain ⟨hs, h⟩ := pj_ps_inv h
  obtain ⟨q, hq, h⟩ := pj_b_inv h
  exact pm_cv (o := 1) hl hg [.int (Int32.ofInt 0)] rfl (by rw [e1, e0]; rfl) hs (by decide) ((hT.2 1 _ rfl).1.2 z 0 (by decide)) (pm_rI q.1) hd (pm_X4_writeCopy hT  z.1 z.2.1 z.2.2.1 z.2.2.2 q hq) rfl (hK _ _ h)
abbrev pe_X4_sumOf_v1_5 (f : Int32 → Int32 → Int32 → pj_F (Int32 × pj_Z)) : pj_K (Int32 × pj_Z) := fun lv st z => pj_xr lv 0 12 0 <| pj_xi lv 1 fun a1 => pj_xi lv 3 fun a3 => pj_xi lv 4 fun a4 => pj_pe st (f a1 a3 a4 z.1 z.2.1 z.2.2.1 z.2.2.2)
abbrev px_X4_sumOf_v1 : pj_C (Int32 × pj_Z) := ((pj_as [(12, 100, 55, 2, 1, true, 13000, [])]), (fun _ => none), (fun _ => none), (fun _ => none), (fun _ => none), ic_X, 5, 1, pj_mI, (fun _ => none), fun _ => false)
abbrev pk_X4_sumOf_v1 : List (Nat × List (Nat × Instr × Nat)) := [(0, [(0, .iload_n 2, 1), (1, .istore_n 3, 1), (2, .iconst 1, 1), (3, .istore 4, 2)]), (5, [(5, .iload 4, 2), (7, .iload_n 1, 1), (8, .if_icmp .ge 28, 3)]), (11, [(11, .iload 4, 2), (13, .aload_n 0, 1), (14, .arraylength, 1), (15, .if_icmp .ge 21, 3)]), (18, [(18, .iload_n 3, 1), (19, .iload 4, 2), (21, .iconst 1, 1), (22, .iadd, 1), (23, .aload_n 0, 1), (24, .iload 4, 2), (26, .iaload, 1), (27, .imul, 1), (28, .iadd, 1), (29, .istore_n 3, 1), (30, .iinc 4 1, 3), (33, .goto (-28), 3)]), (36, [(36, .iload_n 3, 1), (37, .ireturn, 1)])]
set_option maxRecDepth 100000 in
theorem pq_X4_sumOf_v1_5 (fu : Nat)  (n : Nat) (a1 : Int32) (a3 : Int32) (a4 : Int32) (s : Nat → Int32) (l : Nat → Int64) (x : Nat → Int32) (y : Nat → Int64) : pl_X4_sumOf_v1_5 fu (n + 1) a1 a3 a4 s l x y = pj_bl px_X4_sumOf_v1 (pj_rn px_X4_sumOf_v1 (pj_as pk_X4_sumOf_v1) (pj_as [(5, pe_X4_sumOf_v1_5 (pl_X4_sumOf_v1_5 fu n))]) 60) [(5, .iload 4, 2), (7, .iload_n 1, 1), (8, .if_icmp .ge 28, 3)] 5 [(0, pj_O (12, 0)), (1, pj_I a1), (3, pj_I a3), (4, pj_I a4)] [] (s, l, x, y) := rfl
set_option maxRecDepth 100000 in
theorem pq_X4_sumOf_v1_m (fu : Nat)  (a1 : Int32) (a2 : Int32) (s : Nat → Int32) (l : Nat → Int64) (x : Nat → Int32) (y : Nat → Int64) : po_X4_sumOf_v1 fu a1 a2 s l x y = pj_bl px_X4_sumOf_v1 (pj_rn px_X4_sumOf_v1 (pj_as pk_X4_sumOf_v1) (pj_as [(5, pe_X4_sumOf_v1_5 (pl_X4_sumOf_v1_5 fu fu))]) 60) [(0, .iload_n 2, 1), (1, .istore_n 3, 1), (2, .iconst 1, 1), (3, .istore 4, 2)] 0 [(0, pj_O (12, 0)), (1, pj_I a1), (2, pj_I a2)] [] (s, l, x, y) := rfl
theorem pu_X4_sumOf_v1_5 {lf : pj_Z → mj_M} {a : Int32 × pj_Z} (f : Int32 → Int32 → Int32 → pj_F (Int32 × pj_Z)) (hf : ∀ (a1 : Int32) (a3 : Int32) (a4 : Int32) (s : Nat → Int32) (l : Nat → Int64) (x : Nat → Int32) (y : Nat → Int64), f a1 a3 a4 s l x y = some a → pm_Gd 0 4008 ie_X4_sumOf.1 pm_rI lf 5 [(0, .ref 12), (1, .int a1), (3, .int a3), (4, .int a4)] [] (s, l, x, y) a) : pm_Ex 0 4008 ie_X4_sumOf.1 pm_rI lf a 5 (pe_X4_sumOf_v1_5 f) := by
  intro lv st z hd h
  obtain ⟨g0, h⟩ := pj_xr_inv h
  obtain ⟨a1, g1, h⟩ := pj_xi_inv h
  obtain ⟨a3, g3, h⟩ := pj_xi_inv h
  obtain ⟨a4, g4, h⟩ := pj_xi_inv h
  obtain ⟨e9, h⟩ := pj_pe_inv h
  rw [e9]
  exact mj_wp_sub (mj_sub_cons g0 (mj_sub_cons g1 (mj_sub_cons g3 (mj_sub_cons g4 (mj_sub_nil hd))))) (hf _ _ _ _ _ _ _ h)
set_option maxRecDepth 100000 in
theorem pz_X4_sumOf_v1 {lf : pj_Z → mj_M} (hT : pj_Lt pj_TC lf) : pj_Cok ic_P (mj_R ic_P 0) 4008 ie_X4_sumOf.1 (pm_OK lf pm_rI) lf px_X4_sumOf_v1 := by
  exact pm_cok (c := px_X4_sumOf_v1) (pm_part hT (pj_as_all (p := fun b e => pj_TC b = some e) (List.forall_mem_cons.mpr ⟨rfl, (fun _ h => by cases h)⟩))) (fun _ _ h => by cases h) (fun _ _ h => by cases h) (fun _ _ h => by cases h) (fun _ _ h => by cases h) rfl rfl ⟨by decide, rfl⟩ pm_mI (fun _ _ h => by cases h) (fun _ h => by cases h)
set_option maxRecDepth 100000 in
theorem pb_X4_sumOf_v1 : pm_bks ie_X4_sumOf.1.2.2.2.2 pk_X4_sumOf_v1 = true := by decide +kernel
set_option maxRecDepth 100000 in
theorem pg_X4_sumOf_v1_5 {fu : Nat} {lf : pj_Z → mj_M} (hT : pj_Lt pj_TC lf) : ∀ (n : Nat), ∀ (a1 : Int32) (a3 : Int32) (a4 : Int32) (s : Nat → Int32) (l : Nat → Int64) (x : Nat → Int32) (y : Nat → Int64) (a : Int32 × pj_Z), pl_X4_sumOf_v1_5 fu n a1 a3 a4 s l x y = some a → pm_Gd 0 4008 ie_X4_sumOf.1 pm_rI lf 5 [(0, .ref 12), (1, .int a1), (3, .int a3), (4, .int a4)] [] (s, l, x, y) a := by
  intro n
  induction n with
  | zero => intro a1 a3 a4 s l x y a h; cases (show (none : Option (Int32 × pj_Z)) = some a from h)
  | succ n ih =>
    intro a1 a3 a4 s l x y a h
    exact pm_run ((pq_X4_sumOf_v1_5 fu n a1 a3 a4 s l x y).symm.trans h) (pz_X4_sumOf_v1 hT) (pm_bks_ok pb_X4_sumOf_v1) (pm_bks_ok pb_X4_sumOf_v1 _ _ rfl) (pm_ndb_ok rfl) (pj_as_all (p := pm_Ex 0 4008 ie_X4_sumOf.1 pm_rI lf a) (List.forall_mem_cons.mpr ⟨pu_X4_sumOf_v1_5 _ (fun c0 c1 c2 s l x y h => ih c0 c1 c2 s l x y _ h), (fun _ h => by cases h)⟩))
set_option maxRecDepth 100000 in
theorem pm_X4_sumOf_v1 {lf : pj_Z → mj_M} (hT : pj_Lt pj_TC lf) (a1 : Int32) (a2 : Int32) (s : Nat → Int32) (l : Nat → Int64) (x : Nat → Int32) (y : Nat → Int64) (a : Int32 × pj_Z) (h : pf_X4_sumOf_v1 a1 a2 s l x y = some a) : mj_R ic_P 1 4008 [.ref 12, .int a1, .int a2] (lf (s, l, x, y)) (pm_rI a.1) (lf a.2) := by
  refine pm_main (Y := ie_X4_sumOf.1) rfl (Nat.le_of_ble_eq_true rfl) ?_
  exact pm_run ((pq_X4_sumOf_v1_m 1000 a1 a2 s l x y).symm.trans h) (pz_X4_sumOf_v1 hT) (pm_bks_ok pb_X4_sumOf_v1) (pm_bks_ok pb_X4_sumOf_v1 _ _ rfl) (pm_ndb_ok rfl) (pj_as_all (p := pm_Ex 0 4008 ie_X4_sumOf.1 pm_rI lf a) (List.forall_mem_cons.mpr ⟨pu_X4_sumOf_v1_5 _ (fun c0 c1 c2 s l x y h => pg_X4_sumOf_v1_5 hT _ c0 c1 c2 s l x y _ h), (fun _ h => by cases h)⟩))
abbrev ph_X4_sumOf_v1 {A : Type} : List pj_V → pj_Z → (List pj_V → pj_Z → Option A) → Option A := fun st z K => pj_pi st fun a2 st => pj_pi st fun a1 st => pj_pr st 12 0 fun st => pj_ps st (pj_b (pf_X4_sumOf_v1 a1 a2 z.1 z.2.1 z.2.2.1 z.2.2.2) fun r s l x y => K (pj_I r :: st) (s, l, x, y))
set_option maxRecDepth 100000 in
theorem pc_X4_sumOf_v1 {A : Type} {OK : A → Option Value → mj_M → Prop} {d j pc ix : Nat} {Y : mj_Y} {lf : pj_Z → mj_M} (hT : pj_Lt pj_TC lf) (hd : 1 ≤ d) (hl : mj_lk Y.2.2.2.2 pc = some (.invokestatic ix, 3)) (hg : mj_pG ic_P j ix = some (4008, 3, none)) {lv : List (Nat × Value)} {st : List pj_V} {z : pj_Z} {K : List pj_V → pj_Z → Option A} {a : A} (hK : ∀ st z, K st z = some a → pj_Gd ic_P (mj_R ic_P d) j Y OK lf (pc + 3) lv (pj_es st) z a) (h : ph_X4_sumOf_v1 st z K = some a) : pj_Gd ic_P (mj_R ic_P d) j Y OK lf pc lv (pj_es st) z a := by
  obtain ⟨a2, r2, e2, h⟩ := pj_pi_inv h
  obtain ⟨a1, r1, e1, h⟩ := pj_pi_inv h
  obtain ⟨r0, e0, h⟩ := pj_pr_inv h
  obtain ⟨hs, h⟩ := pj_ps_inv h
  obtain ⟨q, hq, h⟩ := pj_b_inv h
  exact pm_cs hl hg [.ref 12, .int a1, .int a2] rfl (by rw [e2, e1, e0]; rfl) hs (pm_rI q.1) hd (pm_X4_sumOf_v1 hT a1 a2 z.1 z.2.1 z.2.2.1 z.2.2.2 q hq) rfl (hK _ _ h)
abbrev px_X4_isValid : pj_C (Int32 × pj_Z) := ((pj_as [(12, 100, 55, 2, 1, true, 13000, [])]), (fun _ => none), (fun _ => none), (fun _ => none), (fun _ => none), ic_X, 4, 2, pj_mI, (pj_as [(24, ph_X4_sumOf_v1)]), fun _ => false)
abbrev pk_X4_isValid : List (Nat × List (Nat × Instr × Nat)) := [(0, [(0, .aload_n 1, 1), (1, .arraylength, 1), (2, .iconst 1, 1), (3, .isub, 1), (4, .istore_n 2, 1), (5, .iload_n 2, 1), (6, .iconst 1, 1), (7, .if_icmp .lt 23, 3)]), (10, [(10, .aload_n 1, 1), (11, .iconst 0, 1), (12, .iaload, 1), (13, .ifCond .le 17, 3)]), (16, [(16, .aload_n 1, 1), (17, .iload_n 2, 1), (18, .iaload, 1), (19, .aload_n 1, 1), (20, .iload_n 2, 1), (21, .aload_n 1, 1), (22, .iconst 0, 1), (23, .iaload, 1), (24, .invokestatic 77, 3), (27, .if_icmp .eq 5, 3)]), (30, [(30, .iconst 0, 1), (31, .ireturn, 1)]), (32, [(32, .iload_n 0, 1), (33, .ifCond .ne 5, 3)]), (36, [(36, .iconst 1, 1), (37, .ireturn, 1)])]
set_option maxRecDepth 100000 in
theorem pq_X4_isValid_m   (s : Nat → Int32) (l : Nat → Int64) (x : Nat → Int32) (y : Nat → Int64) : pf_X4_isValid  s l x y = pj_bl px_X4_isValid (pj_rn px_X4_isValid (pj_as pk_X4_isValid) (fun _ => none) 60) [(0, .aload_n 1, 1), (1, .arraylength, 1), (2, .iconst 1, 1), (3, .isub, 1), (4, .istore_n 2, 1), (5, .iload_n 2, 1), (6, .iconst 1, 1), (7, .if_icmp .lt 23, 3)] 0 [(0, pj_N 0), (1, pj_O (12, 0))] [] (s, l, x, y) := rfl
set_option maxRecDepth 100000 in
theorem pz_X4_isValid {lf : pj_Z → mj_M} (hT : pj_Lt pj_TC lf) : pj_Cok ic_P (mj_R ic_P 1) 4007 ie_X4_isValid.1 (pm_OK lf pm_rI) lf px_X4_isValid := by
  exact pm_cok (c := px_X4_isValid) (pm_part hT (pj_as_all (p := fun b e => pj_TC b = some e) (List.forall_mem_cons.mpr ⟨rfl, (fun _ h => by cases h)⟩))) (fun _ _ h => by cases h) (fun _ _ h => by cases h) (fun _ _ h => by cases h) (fun _ _ h => by cases h) rfl rfl ⟨by decide, rfl⟩ pm_mI (pj_as_all (p := pm_Cl 1 4007 ie_X4_isValid.1 lf (pm_OK lf pm_rI)) (List.forall_mem_cons.mpr ⟨fun _ _ lv st z K a hK h => pc_X4_sumOf_v1 hT (by decide) (ix := 77) rfl rfl hK h, (fun _ h => by cases h)⟩)) (fun _ h => by cases h)
set_option maxRecDepth 100000 in
theorem pb_X4_isValid : pm_bks ie_X4_isValid.1.2.2.2.2 pk_X4_isValid = true := by decide +kernel
set_option maxRecDepth 100000 in
theorem pm_X4_isValid {lf : pj_Z → mj_M} (hT : pj_Lt pj_TC lf)  (s : Nat → Int32) (l : Nat → Int64) (x : Nat → Int32) (y : Nat → Int64) (a : Int32 × pj_Z) (h : pf_X4_isValid  s l x y = some a) : mj_R ic_P 2 4007 [.int (Int32.ofInt 0), .ref 12] (lf (s, l, x, y)) (pm_rI a.1) (lf a.2) := by
  refine pm_main (Y := ie_X4_isValid.1) rfl (Nat.le_of_ble_eq_true rfl) ?_
  exact pm_run ((pq_X4_isValid_m  s l x y).symm.trans h) (pz_X4_isValid hT) (pm_bks_ok pb_X4_isValid) (pm_bks_ok pb_X4_isValid _ _ rfl) (pm_ndb_ok rfl) (fun _ _ h => by cases h)
abbrev ph_X4_isValid {A : Type} : List pj_V → pj_Z → (List pj_V → pj_Z → Option A) → Option A := fun st z K => pj_pr st 12 0 fun st => pj_pc st 0 fun st => pj_ps st (pj_b (pf_X4_isValid  z.1 z.2.1 z.2.2.1 z.2.2.2) fun r s l x y => K (pj_I r :: st) (s, l, x, y))
set_option maxRecDepth 100000 in
theorem pc_X4_isValid {A : Type} {OK : A → Option Value → mj_M → Prop} {d j pc ix : Nat} {Y : mj_Y} {lf : pj_Z → mj_M} (hT : pj_Lt pj_TC lf) (hd : 2 ≤ d) (hl : mj_lk Y.2.2.2.2 pc = some (.invokestatic ix, 3)) (hg : mj_pG ic_P j ix = some (4007, 2, none)) {lv : List (Nat × Value)} {st : List pj_V} {z : pj_Z} {K : List pj_V → pj_Z → Option A} {a : A} (hK : ∀ st z, K st z = some a → pj_Gd ic_P (mj_R ic_P d) j Y OK lf (pc + 3) lv (pj_es st) z a) (h : ph_X4_isValid st z K = some a) : pj_Gd ic_P (mj_R ic_P d) j Y OK lf pc lv (pj_es st) z a := by
  obtain ⟨r1, e1, h⟩ := pj_pr_inv h
  obtain ⟨r0, e0, h⟩ := pj_pc_inv h
  obtain ⟨hs, h⟩ := pj_ps_inv h
  obtain ⟨q, hq, h⟩ := pj_b_inv h
  exact pm_cs hl hg [.int (Int32.ofInt 0), .ref 12] rfl (by rw [e1, e0]; rfl) hs (pm_rI q.1) hd (pm_X4_isValid hT  z.1 z.2.1 z.2.2.1 z.2.2.2 q hq) rfl (hK _ _ h)
abbrev pe_X4_sumOf_v2_5 (f : Int32 → Int32 → Int32 → pj_F (Int32 × pj_Z)) : pj_K (Int32 × pj_Z) := fun lv st z => pj_xr lv 0 12 1 <| pj_xi lv 1 fun a1 => pj_xi lv 3 fun a3 => pj_xi lv 4 fun a4 => pj_pe st (f a1 a3 a4 z.1 z.2.1 z.2.2.1 z.2.2.2)
abbrev px_X4_sumOf_v2 : pj_C (Int32 × pj_Z) := ((pj_as [(12, 100, 55, 2, 1, true, 13000, [])]), (fun _ => none), (fun _ => none), (fun _ => none), (fun _ => none), ic_X, 5, 1, pj_mI, (fun _ => none), fun _ => false)
abbrev pk_X4_sumOf_v2 : List (Nat × List (Nat × Instr × Nat)) := [(0, [(0, .iload_n 2, 1), (1, .istore_n 3, 1), (2, .iconst 1, 1), (3, .istore 4, 2)]), (5, [(5, .iload 4, 2), (7, .iload_n 1, 1), (8, .if_icmp .ge 28, 3)]), (11, [(11, .iload 4, 2), (13, .aload_n 0, 1), (14, .arraylength, 1), (15, .if_icmp .ge 21, 3)]), (18, [(18, .iload_n 3, 1), (19, .iload 4, 2), (21, .iconst 1, 1), (22, .iadd, 1), (23, .aload_n 0, 1), (24, .iload 4, 2), (26, .iaload, 1), (27, .imul, 1), (28, .iadd, 1), (29, .istore_n 3, 1), (30, .iinc 4 1, 3), (33, .goto (-28), 3)]), (36, [(36, .iload_n 3, 1), (37, .ireturn, 1)])]
set_option maxRecDepth 100000 in
theorem pq_X4_sumOf_v2_5 (fu : Nat)  (n : Nat) (a1 : Int32) (a3 : Int32) (a4 : Int32) (s : Nat → Int32) (l : Nat → Int64) (x : Nat → Int32) (y : Nat → Int64) : pl_X4_sumOf_v2_5 fu (n + 1) a1 a3 a4 s l x y = pj_bl px_X4_sumOf_v2 (pj_rn px_X4_sumOf_v2 (pj_as pk_X4_sumOf_v2) (pj_as [(5, pe_X4_sumOf_v2_5 (pl_X4_sumOf_v2_5 fu n))]) 60) [(5, .iload 4, 2), (7, .iload_n 1, 1), (8, .if_icmp .ge 28, 3)] 5 [(0, pj_O (12, 1)), (1, pj_I a1), (3, pj_I a3), (4, pj_I a4)] [] (s, l, x, y) := rfl
set_option maxRecDepth 100000 in
theorem pq_X4_sumOf_v2_m (fu : Nat)  (a1 : Int32) (a2 : Int32) (s : Nat → Int32) (l : Nat → Int64) (x : Nat → Int32) (y : Nat → Int64) : po_X4_sumOf_v2 fu a1 a2 s l x y = pj_bl px_X4_sumOf_v2 (pj_rn px_X4_sumOf_v2 (pj_as pk_X4_sumOf_v2) (pj_as [(5, pe_X4_sumOf_v2_5 (pl_X4_sumOf_v2_5 fu fu))]) 60) [(0, .iload_n 2, 1), (1, .istore_n 3, 1), (2, .iconst 1, 1), (3, .istore 4, 2)] 0 [(0, pj_O (12, 1)), (1, pj_I a1), (2, pj_I a2)] [] (s, l, x, y) := rfl
theorem pu_X4_sumOf_v2_5 {lf : pj_Z → mj_M} {a : Int32 × pj_Z} (f : Int32 → Int32 → Int32 → pj_F (Int32 × pj_Z)) (hf : ∀ (a1 : Int32) (a3 : Int32) (a4 : Int32) (s : Nat → Int32) (l : Nat → Int64) (x : Nat → Int32) (y : Nat → Int64), f a1 a3 a4 s l x y = some a → pm_Gd 0 4008 ie_X4_sumOf.1 pm_rI lf 5 [(0, .ref 13), (1, .int a1), (3, .int a3), (4, .int a4)] [] (s, l, x, y) a) : pm_Ex 0 4008 ie_X4_sumOf.1 pm_rI lf a 5 (pe_X4_sumOf_v2_5 f) := by
  intro lv st z hd h
  obtain ⟨g0, h⟩ := pj_xr_inv h
  obtain ⟨a1, g1, h⟩ := pj_xi_inv h
  obtain ⟨a3, g3, h⟩ := pj_xi_inv h
  obtain ⟨a4, g4, h⟩ := pj_xi_inv h
  obtain ⟨e9, h⟩ := pj_pe_inv h
  rw [e9]
  exact mj_wp_sub (mj_sub_cons g0 (mj_sub_cons g1 (mj_sub_cons g3 (mj_sub_cons g4 (mj_sub_nil hd))))) (hf _ _ _ _ _ _ _ h)
set_option maxRecDepth 100000 in
theorem pz_X4_sumOf_v2 {lf : pj_Z → mj_M} (hT : pj_Lt pj_TC lf) : pj_Cok ic_P (mj_R ic_P 0) 4008 ie_X4_sumOf.1 (pm_OK lf pm_rI) lf px_X4_sumOf_v2 := by
  exact pm_cok (c := px_X4_sumOf_v2) (pm_part hT (pj_as_all (p := fun b e => pj_TC b = some e) (List.forall_mem_cons.mpr ⟨rfl, (fun _ h => by cases h)⟩))) (fun _ _ h => by cases h) (fun _ _ h => by cases h) (fun _ _ h => by cases h) (fun _ _ h => by cases h) rfl rfl ⟨by decide, rfl⟩ pm_mI (fun _ _ h => by cases h) (fun _ h => by cases h)
set_option maxRecDepth 100000 in
theorem pb_X4_sumOf_v2 : pm_bks ie_X4_sumOf.1.2.2.2.2 pk_X4_sumOf_v2 = true := by decide +kernel
set_option maxRecDepth 100000 in
theorem pg_X4_sumOf_v2_5 {fu : Nat} {lf : pj_Z → mj_M} (hT : pj_Lt pj_TC lf) : ∀ (n : Nat), ∀ (a1 : Int32) (a3 : Int32) (a4 : Int32) (s : Nat → Int32) (l : Nat → Int64) (x : Nat → Int32) (y : Nat → Int64) (a : Int32 × pj_Z), pl_X4_sumOf_v2_5 fu n a1 a3 a4 s l x y = some a → pm_Gd 0 4008 ie_X4_sumOf.1 pm_rI lf 5 [(0, .ref 13), (1, .int a1), (3, .int a3), (4, .int a4)] [] (s, l, x, y) a := by
  intro n
  induction n with
  | zero => intro a1 a3 a4 s l x y a h; cases (show (none : Option (Int32 × pj_Z)) = some a from h)
  | succ n ih =>
    intro a1 a3 a4 s l x y a h
    exact pm_run ((pq_X4_sumOf_v2_5 fu n a1 a3 a4 s l x y).symm.trans h) (pz_X4_sumOf_v2 hT) (pm_bks_ok pb_X4_sumOf_v2) (pm_bks_ok pb_X4_sumOf_v2 _ _ rfl) (pm_ndb_ok rfl) (pj_as_all (p := pm_Ex 0 4008 ie_X4_sumOf.1 pm_rI lf a) (List.forall_mem_cons.mpr ⟨pu_X4_sumOf_v2_5 _ (fun c0 c1 c2 s l x y h => ih c0 c1 c2 s l x y _ h), (fun _ h => by cases h)⟩))
set_option maxRecDepth 100000 in
theorem pm_X4_sumOf_v2 {lf : pj_Z → mj_M} (hT : pj_Lt pj_TC lf) (a1 : Int32) (a2 : Int32) (s : Nat → Int32) (l : Nat → Int64) (x : Nat → Int32) (y : Nat → Int64) (a : Int32 × pj_Z) (h : pf_X4_sumOf_v2 a1 a2 s l x y = some a) : mj_R ic_P 1 4008 [.ref 13, .int a1, .int a2] (lf (s, l, x, y)) (pm_rI a.1) (lf a.2) := by
  refine pm_main (Y := ie_X4_sumOf.1) rfl (Nat.le_of_ble_eq_true rfl) ?_
  exact pm_run ((pq_X4_sumOf_v2_m 1000 a1 a2 s l x y).symm.trans h) (pz_X4_sumOf_v2 hT) (pm_bks_ok pb_X4_sumOf_v2) (pm_bks_ok pb_X4_sumOf_v2 _ _ rfl) (pm_ndb_ok rfl) (pj_as_all (p := pm_Ex 0 4008 ie_X4_sumOf.1 pm_rI lf a) (List.forall_mem_cons.mpr ⟨pu_X4_sumOf_v2_5 _ (fun c0 c1 c2 s l x y h => pg_X4_sumOf_v2_5 hT _ c0 c1 c2 s l x y _ h), (fun _ h => by cases h)⟩))
abbrev ph_X4_sumOf_v2 {A : Type} : List pj_V → pj_Z → (List pj_V → pj_Z → Option A) → Option A := fun st z K => pj_pi st fun a2 st => pj_pi st fun a1 st => pj_pr st 12 1 fun st => pj_ps st (pj_b (pf_X4_sumOf_v2 a1 a2 z.1 z.2.1 z.2.2.1 z.2.2.2) fun r s l x y => K (pj_I r :: st) (s, l, x, y))
set_option maxRecDepth 100000 in
theorem pc_X4_sumOf_v2 {A : Type} {OK : A → Option Value → mj_M → Prop} {d j pc ix : Nat} {Y : mj_Y} {lf : pj_Z → mj_M} (hT : pj_Lt pj_TC lf) (hd : 1 ≤ d) (hl : mj_lk Y.2.2.2.2 pc = some (.invokestatic ix, 3)) (hg : mj_pG ic_P j ix = some (4008, 3, none)) {lv : List (Nat × Value)} {st : List pj_V} {z : pj_Z} {K : List pj_V → pj_Z → Option A} {a : A} (hK : ∀ st z, K st z = some a → pj_Gd ic_P (mj_R ic_P d) j Y OK lf (pc + 3) lv (pj_es st) z a) (h : ph_X4_sumOf_v2 st z K = some a) : pj_Gd ic_P (mj_R ic_P d) j Y OK lf pc lv (pj_es st) z a := by
  obtain ⟨a2, r2, e2, h⟩ := pj_pi_inv h
  obtain ⟨a1, r1, e1, h⟩ := pj_pi_inv h
  obtain ⟨r0, e0, h⟩ := pj_pr_inv h
  obtain ⟨hs, h⟩ := pj_ps_inv h
  obtain ⟨q, hq, h⟩ := pj_b_inv h
  exact pm_cs hl hg [.ref 13, .int a1, .int a2] rfl (by rw [e2, e1, e0]; rfl) hs (pm_rI q.1) hd (pm_X4_sumOf_v2 hT a1 a2 z.1 z.2.1 z.2.2.1 z.2.2.2 q hq) rfl (hK _ _ h)
abbrev px_X4_isValid_v1 : pj_C (Int32 × pj_Z) := ((pj_as [(12, 100, 55, 2, 1, true, 13000, [])]), (fun _ => none), (fun _ => none), (fun _ => none), (fun _ => none), ic_X, 4, 2, pj_mI, (pj_as [(24, ph_X4_sumOf_v2)]), fun _ => false)
abbrev pk_X4_isValid_v1 : List (Nat × List (Nat × Instr × Nat)) := [(0, [(0, .aload_n 1, 1), (1, .arraylength, 1), (2, .iconst 1, 1), (3, .isub, 1), (4, .istore_n 2, 1), (5, .iload_n 2, 1), (6, .iconst 1, 1), (7, .if_icmp .lt 23, 3)]), (10, [(10, .aload_n 1, 1), (11, .iconst 0, 1), (12, .iaload, 1), (13, .ifCond .le 17, 3)]), (16, [(16, .aload_n 1, 1), (17, .iload_n 2, 1), (18, .iaload, 1), (19, .aload_n 1, 1), (20, .iload_n 2, 1), (21, .aload_n 1, 1), (22, .iconst 0, 1), (23, .iaload, 1), (24, .invokestatic 77, 3), (27, .if_icmp .eq 5, 3)]), (30, [(30, .iconst 0, 1), (31, .ireturn, 1)]), (32, [(32, .iload_n 0, 1), (33, .ifCond .ne 5, 3)]), (36, [(36, .iconst 1, 1), (37, .ireturn, 1)])]
set_option maxRecDepth 100000 in
theorem pq_X4_isValid_v1_m   (s : Nat → Int32) (l : Nat → Int64) (x : Nat → Int32) (y : Nat → Int64) : pf_X4_isValid_v1  s l x y = pj_bl px_X4_isValid_v1 (pj_rn px_X4_isValid_v1 (pj_as pk_X4_isValid_v1) (fun _ => none) 60) [(0, .aload_n 1, 1), (1, .arraylength, 1), (2, .iconst 1, 1), (3, .isub, 1), (4, .istore_n 2, 1), (5, .iload_n 2, 1), (6, .iconst 1, 1), (7, .if_icmp .lt 23, 3)] 0 [(0, pj_N 0), (1, pj_O (12, 1))] [] (s, l, x, y) := rfl
set_option maxRecDepth 100000 in
theorem pz_X4_isValid_v1 {lf : pj_Z → mj_M} (hT : pj_Lt pj_TC lf) : pj_Cok ic_P (mj_R ic_P 1) 4007 ie_X4_isValid.1 (pm_OK lf pm_rI) lf px_X4_isValid_v1 := by
  exact pm_cok (c := px_X4_isValid_v1) (pm_part hT (pj_as_all (p := fun b e => pj_TC b = some e) (List.forall_mem_cons.mpr ⟨rfl, (fun _ h => by cases h)⟩))) (fun _ _ h => by cases h) (fun _ _ h => by cases h) (fun _ _ h => by cases h) (fun _ _ h => by cases h) rfl rfl ⟨by decide, rfl⟩ pm_mI (pj_as_all (p := pm_Cl 1 4007 ie_X4_isValid.1 lf (pm_OK lf pm_rI)) (List.forall_mem_cons.mpr ⟨fun _ _ lv st z K a hK h => pc_X4_sumOf_v2 hT (by decide) (ix := 77) rfl rfl hK h, (fun _ h => by cases h)⟩)) (fun _ h => by cases h)
set_option maxRecDepth 100000 in
theorem pb_X4_isValid_v1 : pm_bks ie_X4_isValid.1.2.2.2.2 pk_X4_isValid_v1 = true := by decide +kernel
set_option maxRecDepth 100000 in
theorem pm_X4_isValid_v1 {lf : pj_Z → mj_M} (hT : pj_Lt pj_TC lf)  (s : Nat → Int32) (l : Nat → Int64) (x : Nat → Int32) (y : Nat → Int64) (a : Int32 × pj_Z) (h : pf_X4_isValid_v1  s l x y = some a) : mj_R ic_P 2 4007 [.int (Int32.ofInt 0), .ref 13] (lf (s, l, x, y)) (pm_rI a.1) (lf a.2) := by
  refine pm_main (Y := ie_X4_isValid.1) rfl (Nat.le_of_ble_eq_true rfl) ?_
  exact pm_run ((pq_X4_isValid_v1_m  s l x y).symm.trans h) (pz_X4_isValid_v1 hT) (pm_bks_ok pb_X4_isValid_v1) (pm_bks_ok pb_X4_isValid_v1 _ _ rfl) (pm_ndb_ok rfl) (fun _ _ h => by cases h)
abbrev ph_X4_isValid_v1 {A : Type} : List pj_V → pj_Z → (List pj_V → pj_Z → Option A) → Option A := fun st z K => pj_pr st 12 1 fun st => pj_pc st 0 fun st => pj_ps st (pj_b (pf_X4_isValid_v1  z.1 z.2.1 z.2.2.1 z.2.2.2) fun r s l x y => K (pj_I r :: st) (s, l, x, y))
set_option maxRecDepth 100000 in
theorem pc_X4_isValid_v1 {A : Type} {OK : A → Option Value → mj_M → Prop} {d j pc ix : Nat} {Y : mj_Y} {lf : pj_Z → mj_M} (hT : pj_Lt pj_TC lf) (hd : 2 ≤ d) (hl : mj_lk Y.2.2.2.2 pc = some (.invokestatic ix, 3)) (hg : mj_pG ic_P j ix = some (4007, 2, none)) {lv : List (Nat × Value)} {st : List pj_V} {z : pj_Z} {K : List pj_V → pj_Z → Option A} {a : A} (hK : ∀ st z, K st z = some a → pj_Gd ic_P (mj_R ic_P d) j Y OK lf (pc + 3) lv (pj_es st) z a) (h : ph_X4_isValid_v1 st z K = some a) : pj_Gd ic_P (mj_R ic_P d) j Y OK lf pc lv (pj_es st) z a := by
  obtain ⟨r1, e1, h⟩ := pj_pr_inv h
  obtain ⟨r0, e0, h⟩ := pj_pc_inv h
  obtain ⟨hs, h⟩ := pj_ps_inv h
  obtain ⟨q, hq, h⟩ := pj_b_inv h
  exact pm_cs hl hg [.int (Int32.ofInt 0), .ref 13] rfl (by rw [e1, e0]; rfl) hs (pm_rI q.1) hd (pm_X4_isValid_v1 hT  z.1 z.2.1 z.2.2.1 z.2.2.2 q hq) rfl (hK _ _ h)
abbrev pe_X4_lookOver_66 (f : Int32 → pj_F (Unit × pj_Z)) : pj_K (Unit × pj_Z) := fun lv st z => pj_xr lv 0 1 0 <| pj_xc lv 1 0 <| pj_xr lv 2 11 0 <| pj_xi lv 3 fun a3 => pj_pe st (f a3 z.1 z.2.1 z.2.2.1 z.2.2.2)
abbrev pe_X4_lookOver_70 (f : Int32 → pj_F (Unit × pj_Z)) : pj_K (Unit × pj_Z) := fun lv st z => pj_xr lv 0 1 0 <| pj_xc lv 1 0 <| pj_xr lv 2 11 0 <| pj_xi lv 3 fun a3 => pj_pe st (f a3 z.1 z.2.1 z.2.2.1 z.2.2.2)
abbrev pe_X4_lookOver_71 (f : Int32 → Int32 → pj_F (Unit × pj_Z)) : pj_K (Unit × pj_Z) := fun lv st z => pj_xr lv 0 1 0 <| pj_xc lv 1 0 <| pj_xr lv 2 11 0 <| pj_xi lv 3 fun a3 => pj_pi st fun b0 st => pj_pe st (f a3 b0 z.1 z.2.1 z.2.2.1 z.2.2.2)
abbrev pe_X4_lookOver_96 (f : Int32 → Int32 → Int32 → pj_F (Unit × pj_Z)) : pj_K (Unit × pj_Z) := fun lv st z => pj_xr lv 0 1 0 <| pj_xc lv 1 0 <| pj_xr lv 2 11 0 <| pj_xi lv 3 fun a3 => pj_xi lv 5 fun a5 => pj_pi st fun b2 st => pj_pc st 0 fun st => pj_pr st 18 0 fun st => pj_pe st (f a3 a5 b2 z.1 z.2.1 z.2.2.1 z.2.2.2)
abbrev pe_X4_lookOver_128 (f : Int32 → pj_F (Unit × pj_Z)) : pj_K (Unit × pj_Z) := fun lv st z => pj_pi st fun b2 st => pj_pc st 0 fun st => pj_pr st 19 0 fun st => pj_pe st (f b2 z.1 z.2.1 z.2.2.1 z.2.2.2)
abbrev px_X4_lookOver : pj_C (Unit × pj_Z) := ((pj_as [(1, 4, 10, 1, 0, true, 0, [(2, 2), (2, 3), (2, 8), (2, 11), (2, 14), (2, 17), (2, 18), (2, 19), (0, 44), (1, 3)]), (11, 103, 2, 1, 0, true, 12, []), (12, 100, 55, 2, 1, true, 13000, []), (18, 100, 2, 1, 0, false, 2000, []), (19, 100, 2, 1, 0, false, 3000, [])]), (pj_as [(23, 4, 3, 2, true), (32, 4, 6, 2, true), (35, 4, 7, 2, true)]), (fun _ => none), (fun _ => none), (fun _ => none), ic_X, 6, 0, pj_mU, (pj_as [(31, ph_X4_isValid), (39, ph_X4_isValid_v1)]), fun _ => false)
abbrev pk_X4_lookOver : List (Nat × List (Nat × Instr × Nat)) := [(0, [(0, .iload_n 1, 1), (1, .ifCond .eq 9, 3)]), (10, [(10, .iload_n 1, 1), (11, .iconst 1, 1), (12, .if_icmp .ne 10, 3)]), (22, [(22, .aload_n 0, 1), (23, .getfield 23, 3), (26, .astore_n 2, 1), (27, .iload_n 1, 1), (28, .aload_n 2, 1), (29, .iconst 0, 1), (30, .aaload, 1), (31, .invokestatic 73, 3), (34, .istore_n 3, 1), (35, .iload_n 1, 1), (36, .aload_n 2, 1), (37, .iconst 1, 1), (38, .aaload, 1), (39, .invokestatic 73, 3), (42, .istore 4, 2), (44, .iload 4, 2), (46, .ifCond .eq 24, 3)]), (49, [(49, .iload_n 3, 1), (50, .ifCond .eq 16, 3)]), (53, [(53, .aload_n 2, 1), (54, .iconst 1, 1), (55, .aaload, 1), (56, .iconst 0, 1), (57, .iaload, 1), (58, .aload_n 2, 1), (59, .iconst 0, 1), (60, .aaload, 1), (61, .iconst 0, 1), (62, .iaload, 1), (63, .if_icmp .le 7, 3)]), (66, [(66, .iconst 1, 1), (67, .goto 4, 3)]), (70, [(70, .iconst 0, 1)]), (71, [(71, .istore 5, 2), (73, .aload_n 0, 1), (74, .getfield 32, 3), (77, .iload_n 1, 1), (78, .iload 5, 2), (80, .ifCond .eq 7, 3)]), (83, [(83, .iconst 1, 1), (84, .goto 12, 3)]), (87, [(87, .iload_n 3, 1), (88, .ifCond .eq 7, 3)]), (91, [(91, .iconst 0, 1), (92, .goto 4, 3)]), (95, [(95, .iconst (-1), 1)]), (96, [(96, .iastore, 1), (97, .aload_n 0, 1), (98, .getfield 35, 3), (101, .iload_n 1, 1), (102, .iload 5, 2), (104, .ifCond .eq 11, 3)]), (107, [(107, .aload_n 2, 1), (108, .iconst 1, 1), (109, .aaload, 1), (110, .iconst 0, 1), (111, .iaload, 1), (112, .goto 16, 3)]), (115, [(115, .iload_n 3, 1), (116, .ifCond .eq 11, 3)]), (119, [(119, .aload_n 2, 1), (120, .iconst 0, 1), (121, .aaload, 1), (122, .iconst 0, 1), (123, .iaload, 1), (124, .goto 4, 3)]), (127, [(127, .iconst 0, 1)]), (128, [(128, .iastore, 1), (129, .return_, 1)])]
set_option maxRecDepth 100000 in
theorem pq_X4_lookOver_128  (b2 : Int32) (s : Nat → Int32) (l : Nat → Int64) (x : Nat → Int32) (y : Nat → Int64) : pl_X4_lookOver_128 b2 s l x y = pj_bl px_X4_lookOver (pj_rn px_X4_lookOver (pj_as pk_X4_lookOver) (fun _ => none) 60) [(128, .iastore, 1), (129, .return_, 1)] 128 [] [pj_I b2, pj_N 0, pj_O (19, 0)] (s, l, x, y) := rfl
set_option maxRecDepth 100000 in
theorem pq_X4_lookOver_96  (a3 : Int32) (a5 : Int32) (b2 : Int32) (s : Nat → Int32) (l : Nat → Int64) (x : Nat → Int32) (y : Nat → Int64) : pl_X4_lookOver_96 a3 a5 b2 s l x y = pj_bl px_X4_lookOver (pj_rn px_X4_lookOver (pj_as pk_X4_lookOver) (pj_as [(128, pe_X4_lookOver_128 (pl_X4_lookOver_128))]) 60) [(96, .iastore, 1), (97, .aload_n 0, 1), (98, .getfield 35, 3), (101, .iload_n 1, 1), (102, .iload 5, 2), (104, .ifCond .eq 11, 3)] 96 [(0, pj_O (1, 0)), (1, pj_N 0), (2, pj_O (11, 0)), (3, pj_I a3), (5, pj_I a5)] [pj_I b2, pj_N 0, pj_O (18, 0)] (s, l, x, y) := rfl
set_option maxRecDepth 100000 in
theorem pq_X4_lookOver_71  (a3 : Int32) (b0 : Int32) (s : Nat → Int32) (l : Nat → Int64) (x : Nat → Int32) (y : Nat → Int64) : pl_X4_lookOver_71 a3 b0 s l x y = pj_bl px_X4_lookOver (pj_rn px_X4_lookOver (pj_as pk_X4_lookOver) (pj_as [(96, pe_X4_lookOver_96 (pl_X4_lookOver_96))]) 60) [(71, .istore 5, 2), (73, .aload_n 0, 1), (74, .getfield 32, 3), (77, .iload_n 1, 1), (78, .iload 5, 2), (80, .ifCond .eq 7, 3)] 71 [(0, pj_O (1, 0)), (1, pj_N 0), (2, pj_O (11, 0)), (3, pj_I a3)] [pj_I b0] (s, l, x, y) := rfl
set_option maxRecDepth 100000 in
theorem pq_X4_lookOver_66  (a3 : Int32) (s : Nat → Int32) (l : Nat → Int64) (x : Nat → Int32) (y : Nat → Int64) : pl_X4_lookOver_66 a3 s l x y = pj_bl px_X4_lookOver (pj_rn px_X4_lookOver (pj_as pk_X4_lookOver) (pj_as [(71, pe_X4_lookOver_71 (pl_X4_lookOver_71))]) 60) [(66, .iconst 1, 1), (67, .goto 4, 3)] 66 [(0, pj_O (1, 0)), (1, pj_N 0), (2, pj_O (11, 0)), (3, pj_I a3)] [] (s, l, x, y) := rfl
set_option maxRecDepth 100000 in
theorem pq_X4_lookOver_70  (a3 : Int32) (s : Nat → Int32) (l : Nat → Int64) (x : Nat → Int32) (y : Nat → Int64) : pl_X4_lookOver_70 a3 s l x y = pj_bl px_X4_lookOver (pj_rn px_X4_lookOver (pj_as pk_X4_lookOver) (pj_as [(71, pe_X4_lookOver_71 (pl_X4_lookOver_71))]) 60) [(70, .iconst 0, 1)] 70 [(0, pj_O (1, 0)), (1, pj_N 0), (2, pj_O (11, 0)), (3, pj_I a3)] [] (s, l, x, y) := rfl
set_option maxRecDepth 100000 in
theorem pq_X4_lookOver_m   (s : Nat → Int32) (l : Nat → Int64) (x : Nat → Int32) (y : Nat → Int64) : pf_X4_lookOver  s l x y = pj_bl px_X4_lookOver (pj_rn px_X4_lookOver (pj_as pk_X4_lookOver) (pj_as [(66, pe_X4_lookOver_66 (pl_X4_lookOver_66)), (70, pe_X4_lookOver_70 (pl_X4_lookOver_70))]) 60) [(0, .iload_n 1, 1), (1, .ifCond .eq 9, 3)] 0 [(0, pj_O (1, 0)), (1, pj_N 0)] [] (s, l, x, y) := rfl
theorem pu_X4_lookOver_66 {lf : pj_Z → mj_M} {a : Unit × pj_Z} (f : Int32 → pj_F (Unit × pj_Z)) (hf : ∀ (a3 : Int32) (s : Nat → Int32) (l : Nat → Int64) (x : Nat → Int32) (y : Nat → Int64), f a3 s l x y = some a → pm_Gd 2 4006 ie_X4_lookOver.1 pm_rU lf 66 [(0, .ref 1), (1, .int (Int32.ofInt 0)), (2, .ref 11), (3, .int a3)] [] (s, l, x, y) a) : pm_Ex 2 4006 ie_X4_lookOver.1 pm_rU lf a 66 (pe_X4_lookOver_66 f) := by
  intro lv st z hd h
  obtain ⟨g0, h⟩ := pj_xr_inv h
  obtain ⟨g1, h⟩ := pj_xc_inv h
  obtain ⟨g2, h⟩ := pj_xr_inv h
  obtain ⟨a3, g3, h⟩ := pj_xi_inv h
  obtain ⟨e9, h⟩ := pj_pe_inv h
  rw [e9]
  exact mj_wp_sub (mj_sub_cons g0 (mj_sub_cons g1 (mj_sub_cons g2 (mj_sub_cons g3 (mj_sub_nil hd))))) (hf _ _ _ _ _ h)
theorem pu_X4_lookOver_70 {lf : pj_Z → mj_M} {a : Unit × pj_Z} (f : Int32 → pj_F (Unit × pj_Z)) (hf : ∀ (a3 : Int32) (s : Nat → Int32) (l : Nat → Int64) (x : Nat → Int32) (y : Nat → Int64), f a3 s l x y = some a → pm_Gd 2 4006 ie_X4_lookOver.1 pm_rU lf 70 [(0, .ref 1), (1, .int (Int32.ofInt 0)), (2, .ref 11), (3, .int a3)] [] (s, l, x, y) a) : pm_Ex 2 4006 ie_X4_lookOver.1 pm_rU lf a 70 (pe_X4_lookOver_70 f) := by
  intro lv st z hd h
  obtain ⟨g0, h⟩ := pj_xr_inv h
  obtain ⟨g1, h⟩ := pj_xc_inv h
  obtain ⟨g2, h⟩ := pj_xr_inv h
  obtain ⟨a3, g3, h⟩ := pj_xi_inv h
  obtain ⟨e9, h⟩ := pj_pe_inv h
  rw [e9]
  exact mj_wp_sub (mj_sub_cons g0 (mj_sub_cons g1 (mj_sub_cons g2 (mj_sub_cons g3 (mj_sub_nil hd))))) (hf _ _ _ _ _ h)
theorem pu_X4_lookOver_71 {lf : pj_Z → mj_M} {a : Unit × pj_Z} (f : Int32 → Int32 → pj_F (Unit × pj_Z)) (hf : ∀ (a3 : Int32) (b0 : Int32) (s : Nat → Int32) (l : Nat → Int64) (x : Nat → Int32) (y : Nat → Int64), f a3 b0 s l x y = some a → pm_Gd 2 4006 ie_X4_lookOver.1 pm_rU lf 71 [(0, .ref 1), (1, .int (Int32.ofInt 0)), (2, .ref 11), (3, .int a3)] [.int b0] (s, l, x, y) a) : pm_Ex 2 4006 ie_X4_lookOver.1 pm_rU lf a 71 (pe_X4_lookOver_71 f) := by
  intro lv st z hd h
  obtain ⟨g0, h⟩ := pj_xr_inv h
  obtain ⟨g1, h⟩ := pj_xc_inv h
  obtain ⟨g2, h⟩ := pj_xr_inv h
  obtain ⟨a3, g3, h⟩ := pj_xi_inv h
  obtain ⟨b0, r0, e0, h⟩ := pj_pi_inv h
  obtain ⟨e9, h⟩ := pj_pe_inv h
  rw [e0, e9]
  exact mj_wp_sub (mj_sub_cons g0 (mj_sub_cons g1 (mj_sub_cons g2 (mj_sub_cons g3 (mj_sub_nil hd))))) (hf _ _ _ _ _ _ h)
theorem pu_X4_lookOver_96 {lf : pj_Z → mj_M} {a : Unit × pj_Z} (f : Int32 → Int32 → Int32 → pj_F (Unit × pj_Z)) (hf : ∀ (a3 : Int32) (a5 : Int32) (b2 : Int32) (s : Nat → Int32) (l : Nat → Int64) (x : Nat → Int32) (y : Nat → Int64), f a3 a5 b2 s l x y = some a → pm_Gd 2 4006 ie_X4_lookOver.1 pm_rU lf 96 [(0, .ref 1), (1, .int (Int32.ofInt 0)), (2, .ref 11), (3, .int a3), (5, .int a5)] [.int b2, .int (Int32.ofInt 0), .ref 18] (s, l, x, y) a) : pm_Ex 2 4006 ie_X4_lookOver.1 pm_rU lf a 96 (pe_X4_lookOver_96 f) := by
  intro lv st z hd h
  obtain ⟨g0, h⟩ := pj_xr_inv h
  obtain ⟨g1, h⟩ := pj_xc_inv h
  obtain ⟨g2, h⟩ := pj_xr_inv h
  obtain ⟨a3, g3, h⟩ := pj_xi_inv h
  obtain ⟨a5, g5, h⟩ := pj_xi_inv h
  obtain ⟨b2, r2, e2, h⟩ := pj_pi_inv h
  obtain ⟨r1, e1, h⟩ := pj_pc_inv h
  obtain ⟨r0, e0, h⟩ := pj_pr_inv h
  obtain ⟨e9, h⟩ := pj_pe_inv h
  rw [e2, e1, e0, e9]
  exact mj_wp_sub (mj_sub_cons g0 (mj_sub_cons g1 (mj_sub_cons g2 (mj_sub_cons g3 (mj_sub_cons g5 (mj_sub_nil hd)))))) (hf _ _ _ _ _ _ _ h)
theorem pu_X4_lookOver_128 {lf : pj_Z → mj_M} {a : Unit × pj_Z} (f : Int32 → pj_F (Unit × pj_Z)) (hf : ∀ (b2 : Int32) (s : Nat → Int32) (l : Nat → Int64) (x : Nat → Int32) (y : Nat → Int64), f b2 s l x y = some a → pm_Gd 2 4006 ie_X4_lookOver.1 pm_rU lf 128 [] [.int b2, .int (Int32.ofInt 0), .ref 19] (s, l, x, y) a) : pm_Ex 2 4006 ie_X4_lookOver.1 pm_rU lf a 128 (pe_X4_lookOver_128 f) := by
  intro lv st z hd h
  obtain ⟨b2, r2, e2, h⟩ := pj_pi_inv h
  obtain ⟨r1, e1, h⟩ := pj_pc_inv h
  obtain ⟨r0, e0, h⟩ := pj_pr_inv h
  obtain ⟨e9, h⟩ := pj_pe_inv h
  rw [e2, e1, e0, e9]
  exact mj_wp_sub (mj_sub_nil hd) (hf _ _ _ _ _ h)
set_option maxRecDepth 100000 in
theorem pz_X4_lookOver {lf : pj_Z → mj_M} (hT : pj_Lt pj_TC lf) : pj_Cok ic_P (mj_R ic_P 2) 4006 ie_X4_lookOver.1 (pm_OK lf pm_rU) lf px_X4_lookOver := by
  exact pm_cok (c := px_X4_lookOver) (pm_part hT (pj_as_all (p := fun b e => pj_TC b = some e) (List.forall_mem_cons.mpr ⟨rfl, (List.forall_mem_cons.mpr ⟨rfl, (List.forall_mem_cons.mpr ⟨rfl, (List.forall_mem_cons.mpr ⟨rfl, (List.forall_mem_cons.mpr ⟨rfl, (fun _ h => by cases h)⟩)⟩)⟩)⟩)⟩))) (pm_in_ok (L := [(23, 4, 3, 2, true), (32, 4, 6, 2, true), (35, 4, 7, 2, true)]) (f := mj_pF ic_P 4006) (by decide +kernel)) (fun _ _ h => by cases h) (fun _ _ h => by cases h) (fun _ _ h => by cases h) rfl rfl ⟨by decide, rfl⟩ pm_mU (pj_as_all (p := pm_Cl 2 4006 ie_X4_lookOver.1 lf (pm_OK lf pm_rU)) (List.forall_mem_cons.mpr ⟨fun _ _ lv st z K a hK h => pc_X4_isValid hT (by decide) (ix := 73) rfl rfl hK h, (List.forall_mem_cons.mpr ⟨fun _ _ lv st z K a hK h => pc_X4_isValid_v1 hT (by decide) (ix := 73) rfl rfl hK h, (fun _ h => by cases h)⟩)⟩)) (fun _ h => by cases h)
set_option maxRecDepth 100000 in
theorem pb_X4_lookOver : pm_bks ie_X4_lookOver.1.2.2.2.2 pk_X4_lookOver = true := by decide +kernel
set_option maxRecDepth 100000 in
theorem pg_X4_lookOver_128 {lf : pj_Z → mj_M} (hT : pj_Lt pj_TC lf) : ∀ (b2 : Int32) (s : Nat → Int32) (l : Nat → Int64) (x : Nat → Int32) (y : Nat → Int64) (a : Unit × pj_Z), pl_X4_lookOver_128 b2 s l x y = some a → pm_Gd 2 4006 ie_X4_lookOver.1 pm_rU lf 128 [] [.int b2, .int (Int32.ofInt 0), .ref 19] (s, l, x, y) a := by
  intro b2 s l x y a h
  exact pm_run ((pq_X4_lookOver_128  b2 s l x y).symm.trans h) (pz_X4_lookOver hT) (pm_bks_ok pb_X4_lookOver) (pm_bks_ok pb_X4_lookOver _ _ rfl) (pm_ndb_ok rfl) (fun _ _ h => by cases h)
set_option maxRecDepth 100000 in
theorem pg_X4_lookOver_96 {lf : pj_Z → mj_M} (hT : pj_Lt pj_TC lf) : ∀ (a3 : Int32) (a5 : Int32) (b2 : Int32) (s : Nat → Int32) (l : Nat → Int64) (x : Nat → Int32) (y : Nat → Int64) (a : Unit × pj_Z), pl_X4_lookOver_96 a3 a5 b2 s l x y = some a → pm_Gd 2 4006 ie_X4_lookOver.1 pm_rU lf 96 [(0, .ref 1), (1, .int (Int32.ofInt 0)), (2, .ref 11), (3, .int a3), (5, .int a5)] [.int b2, .int (Int32.ofInt 0), .ref 18] (s, l, x, y) a := by
  intro a3 a5 b2 s l x y a h
  exact pm_run ((pq_X4_lookOver_96  a3 a5 b2 s l x y).symm.trans h) (pz_X4_lookOver hT) (pm_bks_ok pb_X4_lookOver) (pm_bks_ok pb_X4_lookOver _ _ rfl) (pm_ndb_ok rfl) (pj_as_all (p := pm_Ex 2 4006 ie_X4_lookOver.1 pm_rU lf a) (List.forall_mem_cons.mpr ⟨pu_X4_lookOver_128 _ (fun c0 s l x y h => pg_X4_lookOver_128 hT c0 s l x y _ h), (fun _ h => by cases h)⟩))
set_option maxRecDepth 100000 in
theorem pg_X4_lookOver_71 {lf : pj_Z → mj_M} (hT : pj_Lt pj_TC lf) : ∀ (a3 : Int32) (b0 : Int32) (s : Nat → Int32) (l : Nat → Int64) (x : Nat → Int32) (y : Nat → Int64) (a : Unit × pj_Z), pl_X4_lookOver_71 a3 b0 s l x y = some a → pm_Gd 2 4006 ie_X4_lookOver.1 pm_rU lf 71 [(0, .ref 1), (1, .int (Int32.ofInt 0)), (2, .ref 11), (3, .int a3)] [.int b0] (s, l, x, y) a := by
  intro a3 b0 s l x y a h
  exact pm_run ((pq_X4_lookOver_71  a3 b0 s l x y).symm.trans h) (pz_X4_lookOver hT) (pm_bks_ok pb_X4_lookOver) (pm_bks_ok pb_X4_lookOver _ _ rfl) (pm_ndb_ok rfl) (pj_as_all (p := pm_Ex 2 4006 ie_X4_lookOver.1 pm_rU lf a) (List.forall_mem_cons.mpr ⟨pu_X4_lookOver_96 _ (fun c0 c1 c2 s l x y h => pg_X4_lookOver_96 hT c0 c1 c2 s l x y _ h), (fun _ h => by cases h)⟩))
set_option maxRecDepth 100000 in
theorem pg_X4_lookOver_66 {lf : pj_Z → mj_M} (hT : pj_Lt pj_TC lf) : ∀ (a3 : Int32) (s : Nat → Int32) (l : Nat → Int64) (x : Nat → Int32) (y : Nat → Int64) (a : Unit × pj_Z), pl_X4_lookOver_66 a3 s l x y = some a → pm_Gd 2 4006 ie_X4_lookOver.1 pm_rU lf 66 [(0, .ref 1), (1, .int (Int32.ofInt 0)), (2, .ref 11), (3, .int a3)] [] (s, l, x, y) a := by
  intro a3 s l x y a h
  exact pm_run ((pq_X4_lookOver_66  a3 s l x y).symm.trans h) (pz_X4_lookOver hT) (pm_bks_ok pb_X4_lookOver) (pm_bks_ok pb_X4_lookOver _ _ rfl) (pm_ndb_ok rfl) (pj_as_all (p := pm_Ex 2 4006 ie_X4_lookOver.1 pm_rU lf a) (List.forall_mem_cons.mpr ⟨pu_X4_lookOver_71 _ (fun c0 c1 s l x y h => pg_X4_lookOver_71 hT c0 c1 s l x y _ h), (fun _ h => by cases h)⟩))
set_option maxRecDepth 100000 in
theorem pg_X4_lookOver_70 {lf : pj_Z → mj_M} (hT : pj_Lt pj_TC lf) : ∀ (a3 : Int32) (s : Nat → Int32) (l : Nat → Int64) (x : Nat → Int32) (y : Nat → Int64) (a : Unit × pj_Z), pl_X4_lookOver_70 a3 s l x y = some a → pm_Gd 2 4006 ie_X4_lookOver.1 pm_rU lf 70 [(0, .ref 1), (1, .int (Int32.ofInt 0)), (2, .ref 11), (3, .int a3)] [] (s, l, x, y) a := by
  intro a3 s l x y a h
  exact pm_run ((pq_X4_lookOver_70  a3 s l x y).symm.trans h) (pz_X4_lookOver hT) (pm_bks_ok pb_X4_lookOver) (pm_bks_ok pb_X4_lookOver _ _ rfl) (pm_ndb_ok rfl) (pj_as_all (p := pm_Ex 2 4006 ie_X4_lookOver.1 pm_rU lf a) (List.forall_mem_cons.mpr ⟨pu_X4_lookOver_71 _ (fun c0 c1 s l x y h => pg_X4_lookOver_71 hT c0 c1 s l x y _ h), (fun _ h => by cases h)⟩))
set_option maxRecDepth 100000 in
theorem pm_X4_lookOver {lf : pj_Z → mj_M} (hT : pj_Lt pj_TC lf)  (s : Nat → Int32) (l : Nat → Int64) (x : Nat → Int32) (y : Nat → Int64) (a : Unit × pj_Z) (h : pf_X4_lookOver  s l x y = some a) : mj_R ic_P 3 4006 [.ref 1, .int (Int32.ofInt 0)] (lf (s, l, x, y)) (pm_rU a.1) (lf a.2) := by
  refine pm_main (Y := ie_X4_lookOver.1) rfl (Nat.le_of_ble_eq_true rfl) ?_
  exact pm_run ((pq_X4_lookOver_m  s l x y).symm.trans h) (pz_X4_lookOver hT) (pm_bks_ok pb_X4_lookOver) (pm_bks_ok pb_X4_lookOver _ _ rfl) (pm_ndb_ok rfl) (pj_as_all (p := pm_Ex 2 4006 ie_X4_lookOver.1 pm_rU lf a) (List.forall_mem_cons.mpr ⟨pu_X4_lookOver_66 _ (fun c0 s l x y h => pg_X4_lookOver_66 hT c0 s l x y _ h), (List.forall_mem_cons.mpr ⟨pu_X4_lookOver_70 _ (fun c0 s l x y h => pg_X4_lookOver_70 hT c0 s l x y _ h), (fun _ h => by cases h)⟩)⟩))
abbrev ph_X4_lookOver {A : Type} : List pj_V → pj_Z → (List pj_V → pj_Z → Option A) → Option A := fun st z K => pj_pc st 0 fun st => pj_pr st 1 0 fun st => pj_ps st (pj_b (pf_X4_lookOver  z.1 z.2.1 z.2.2.1 z.2.2.2) fun r s l x y => K st (s, l, x, y))
set_option maxRecDepth 100000 in
theorem pc_X4_lookOver {A : Type} {OK : A → Option Value → mj_M → Prop} {d j pc ix : Nat} {Y : mj_Y} {lf : pj_Z → mj_M} (hT : pj_Lt pj_TC lf) (hd : 3 ≤ d) (hl : mj_lk Y.2.2.2.2 pc = some (.invokevirtual ix, 3)) (hg : mj_pG ic_P j ix = some (4006, 1, some 4)) {lv : List (Nat × Value)} {st : List pj_V} {z : pj_Z} {K : List pj_V → pj_Z → Option A} {a : A} (hK : ∀ st z, K st z = some a → pj_Gd ic_P (mj_R ic_P d) j Y OK lf (pc + 3) lv (pj_es st) z a) (h : ph_X4_lookOver st z K = some a) : pj_Gd ic_P (mj_R ic_P d) j Y OK lf pc lv (pj_es st) z a := by
  obtain ⟨r1, e1, h⟩ := pj_pc_inv h
  obtain ⟨r0, e0, h⟩ := pj_pr_inv h
  obtain ⟨hs, h⟩ := pj_ps_inv h
  obtain ⟨q, hq, h⟩ := pj_b_inv h
  exact pm_cv (o := 1) hl hg [.int (Int32.ofInt 0)] rfl (by rw [e1, e0]; rfl) hs (by decide) ((hT.2 1 _ rfl).1.2 z 0 (by decide)) (pm_rU q.1) hd (pm_X4_lookOver hT  z.1 z.2.1 z.2.2.1 z.2.2.2 q hq) rfl (hK _ _ h)
abbrev px_X11_writeStore : pj_C (Int32 × pj_Z) := ((pj_as [(0, 11, 17, 1, 0, true, 0, [(2, 1), (2, 20), (2, 58), (2, 68), (2, 82), (2, 83), (2, 85), (2, 96), (2, 102), (2, 106), (2, 122), (0, 93), (0, 94), (0, 95), (1, 1), (1, 2), (0, 96)]), (1, 4, 10, 1, 0, true, 0, [(2, 2), (2, 3), (2, 8), (2, 11), (2, 14), (2, 17), (2, 18), (2, 19), (0, 44), (1, 3)])]), (pj_as [(10, 11, 0, 2, true), (47, 11, 5, 2, true), (54, 11, 6, 2, true), (861, 4, 5, 2, true)]), (fun _ => none), (fun _ => none), (fun _ => none), ic_X, 2, 2, pj_mI, (pj_as [(11, ph_X10_fill), (25, ph_X3_fill), (33, ph_X4_writeCopy), (42, ph_X4_lookOver)]), fun _ => false)
abbrev pk_X11_writeStore : List (Nat × List (Nat × Instr × Nat)) := [(0, [(0, .aload_n 0, 1), (1, .getfield 54, 3), (4, .aload_n 0, 1), (5, .getfield 10, 3), (8, .getfield 861, 3), (11, .invokevirtual 864, 3), (14, .aload_n 0, 1), (15, .getfield 47, 3), (18, .aload_n 0, 1), (19, .getfield 10, 3), (22, .getfield 861, 3), (25, .invokevirtual 866, 3), (28, .aload_n 0, 1), (29, .getfield 10, 3), (32, .iconst 0, 1), (33, .invokevirtual 867, 3), (36, .istore_n 1, 1), (37, .aload_n 0, 1), (38, .getfield 10, 3), (41, .iconst 0, 1), (42, .invokevirtual 295, 3), (45, .iload_n 1, 1), (46, .ireturn, 1)])]
set_option maxRecDepth 100000 in
theorem pq_X11_writeStore_m   (s : Nat → Int32) (l : Nat → Int64) (x : Nat → Int32) (y : Nat → Int64) : pf_X11_writeStore  s l x y = pj_bl px_X11_writeStore (pj_rn px_X11_writeStore (pj_as pk_X11_writeStore) (fun _ => none) 60) [(0, .aload_n 0, 1), (1, .getfield 54, 3), (4, .aload_n 0, 1), (5, .getfield 10, 3), (8, .getfield 861, 3), (11, .invokevirtual 864, 3), (14, .aload_n 0, 1), (15, .getfield 47, 3), (18, .aload_n 0, 1), (19, .getfield 10, 3), (22, .getfield 861, 3), (25, .invokevirtual 866, 3), (28, .aload_n 0, 1), (29, .getfield 10, 3), (32, .iconst 0, 1), (33, .invokevirtual 867, 3), (36, .istore_n 1, 1), (37, .aload_n 0, 1), (38, .getfield 10, 3), (41, .iconst 0, 1), (42, .invokevirtual 295, 3), (45, .iload_n 1, 1), (46, .ireturn, 1)] 0 [(0, pj_O (0, 0))] [] (s, l, x, y) := rfl
set_option maxRecDepth 100000 in
theorem pz_X11_writeStore {lf : pj_Z → mj_M} (hT : pj_Lt pj_TC lf) : pj_Cok ic_P (mj_R ic_P 3) 11082 ie_X11_writeStore.1 (pm_OK lf pm_rI) lf px_X11_writeStore := by
  exact pm_cok (c := px_X11_writeStore) (pm_part hT (pj_as_all (p := fun b e => pj_TC b = some e) (List.forall_mem_cons.mpr ⟨rfl, (List.forall_mem_cons.mpr ⟨rfl, (fun _ h => by cases h)⟩)⟩))) (pm_in_ok (L := [(10, 11, 0, 2, true), (47, 11, 5, 2, true), (54, 11, 6, 2, true), (861, 4, 5, 2, true)]) (f := mj_pF ic_P 11082) (by decide +kernel)) (fun _ _ h => by cases h) (fun _ _ h => by cases h) (fun _ _ h => by cases h) rfl rfl ⟨by decide, rfl⟩ pm_mI (pj_as_all (p := pm_Cl 3 11082 ie_X11_writeStore.1 lf (pm_OK lf pm_rI)) (List.forall_mem_cons.mpr ⟨fun _ _ lv st z K a hK h => pc_X10_fill hT (by decide) (ix := 864) rfl rfl hK h, (List.forall_mem_cons.mpr ⟨fun _ _ lv st z K a hK h => pc_X3_fill hT (by decide) (ix := 866) rfl rfl hK h, (List.forall_mem_cons.mpr ⟨fun _ _ lv st z K a hK h => pc_X4_writeCopy hT (by decide) (ix := 867) rfl rfl hK h, (List.forall_mem_cons.mpr ⟨fun _ _ lv st z K a hK h => pc_X4_lookOver hT (by decide) (ix := 295) rfl rfl hK h, (fun _ h => by cases h)⟩)⟩)⟩)⟩)) (fun _ h => by cases h)
set_option maxRecDepth 100000 in
theorem pb_X11_writeStore : pm_bks ie_X11_writeStore.1.2.2.2.2 pk_X11_writeStore = true := by decide +kernel
set_option maxRecDepth 100000 in
theorem pm_X11_writeStore {lf : pj_Z → mj_M} (hT : pj_Lt pj_TC lf)  (s : Nat → Int32) (l : Nat → Int64) (x : Nat → Int32) (y : Nat → Int64) (a : Int32 × pj_Z) (h : pf_X11_writeStore  s l x y = some a) : mj_R ic_P 4 11082 [.ref 0] (lf (s, l, x, y)) (pm_rI a.1) (lf a.2) := by
  refine pm_main (Y := ie_X11_writeStore.1) rfl (Nat.le_of_ble_eq_true rfl) ?_
  exact pm_run ((pq_X11_writeStore_m  s l x y).symm.trans h) (pz_X11_writeStore hT) (pm_bks_ok pb_X11_writeStore) (pm_bks_ok pb_X11_writeStore _ _ rfl) (pm_ndb_ok rfl) (fun _ _ h => by cases h)
abbrev ph_X11_writeStore {A : Type} : List pj_V → pj_Z → (List pj_V → pj_Z → Option A) → Option A := fun st z K => pj_pr st 0 0 fun st => pj_ps st (pj_b (pf_X11_writeStore  z.1 z.2.1 z.2.2.1 z.2.2.2) fun r s l x y => K (pj_I r :: st) (s, l, x, y))
set_option maxRecDepth 100000 in
theorem pc_X11_writeStore {A : Type} {OK : A → Option Value → mj_M → Prop} {d j pc ix : Nat} {Y : mj_Y} {lf : pj_Z → mj_M} (hT : pj_Lt pj_TC lf) (hd : 4 ≤ d) (hl : mj_lk Y.2.2.2.2 pc = some (.invokevirtual ix, 3)) (hg : mj_pG ic_P j ix = some (11082, 0, some 11)) {lv : List (Nat × Value)} {st : List pj_V} {z : pj_Z} {K : List pj_V → pj_Z → Option A} {a : A} (hK : ∀ st z, K st z = some a → pj_Gd ic_P (mj_R ic_P d) j Y OK lf (pc + 3) lv (pj_es st) z a) (h : ph_X11_writeStore st z K = some a) : pj_Gd ic_P (mj_R ic_P d) j Y OK lf pc lv (pj_es st) z a := by
  obtain ⟨r0, e0, h⟩ := pj_pr_inv h
  obtain ⟨hs, h⟩ := pj_ps_inv h
  obtain ⟨q, hq, h⟩ := pj_b_inv h
  exact pm_cv (o := 0) hl hg [] rfl (by rw [e0]; rfl) hs (by decide) ((hT.2 0 _ rfl).1.2 z 0 (by decide)) (pm_rI q.1) hd (pm_X11_writeStore hT  z.1 z.2.1 z.2.2.1 z.2.2.2 q hq) rfl (hK _ _ h)
abbrev pe_X7_reset_16 (f : Int32 → pj_F (Unit × pj_Z)) : pj_K (Unit × pj_Z) := fun lv st z => pj_xr lv 0 20 0 <| pj_xi lv 1 fun a1 => pj_pe st (f a1 z.1 z.2.1 z.2.2.1 z.2.2.2)
abbrev px_X7_reset : pj_C (Unit × pj_Z) := ((pj_as [(20, 7, 11, 1, 0, true, 0, [(2, 21), (2, 35), (2, 49), (2, 50), (2, 51), (2, 52), (2, 53), (2, 54), (2, 55), (2, 56), (2, 57)]), (51, 100, 10, 1, 0, true, 30000, []), (55, 100, 10, 1, 0, true, 34000, []), (56, 100, 10, 1, 0, true, 35000, []), (57, 102, 10, 1, 0, true, 36000, [])]), (pj_as [(26, 7, 4, 2, true), (38, 7, 8, 2, true), (41, 7, 9, 2, true), (44, 7, 10, 2, true)]), (fun _ => none), (fun _ => none), (pj_as [(64, 6)]), ic_X, 2, 0, pj_mU, (fun _ => none), pj_mem [67])
abbrev pk_X7_reset : List (Nat × List (Nat × Instr × Nat)) := [(0, [(0, .getstatic 64, 3), (3, .iconst 0, 1), (4, .aload_n 0, 1), (5, .getfield 38, 3), (8, .iconst 0, 1), (9, .bipush 10, 2), (11, .invokestatic 67, 3), (14, .iconst 0, 1), (15, .istore_n 1, 1)]), (16, [(16, .iload_n 1, 1), (17, .bipush 10, 2), (19, .if_icmp .ge 30, 3)]), (22, [(22, .aload_n 0, 1), (23, .getfield 26, 3), (26, .iload_n 1, 1), (27, .iconst 0, 1), (28, .iastore, 1), (29, .aload_n 0, 1), (30, .getfield 41, 3), (33, .iload_n 1, 1), (34, .iconst 0, 1), (35, .iastore, 1), (36, .aload_n 0, 1), (37, .getfield 44, 3), (40, .iload_n 1, 1), (41, .iconst 0, 1), (42, .bastore, 1), (43, .iinc 1 1, 3), (46, .goto (-30), 3)]), (49, [(49, .return_, 1)])]
set_option maxRecDepth 100000 in
theorem pq_X7_reset_16 (fu : Nat)  (n : Nat) (a1 : Int32) (s : Nat → Int32) (l : Nat → Int64) (x : Nat → Int32) (y : Nat → Int64) : pl_X7_reset_16 fu (n + 1) a1 s l x y = pj_bl px_X7_reset (pj_rn px_X7_reset (pj_as pk_X7_reset) (pj_as [(16, pe_X7_reset_16 (pl_X7_reset_16 fu n))]) 60) [(16, .iload_n 1, 1), (17, .bipush 10, 2), (19, .if_icmp .ge 30, 3)] 16 [(0, pj_O (20, 0)), (1, pj_I a1)] [] (s, l, x, y) := rfl
set_option maxRecDepth 100000 in
theorem pq_X7_reset_k (s : Nat → Int32) (l : Nat → Int64) (x : Nat → Int32) (y : Nat → Int64) (K : Nat → pj_K (Unit × pj_Z)) : pj_bl px_X7_reset K [(0, .getstatic 64, 3), (3, .iconst 0, 1), (4, .aload_n 0, 1), (5, .getfield 38, 3), (8, .iconst 0, 1), (9, .bipush 10, 2), (11, .invokestatic 67, 3), (14, .iconst 0, 1), (15, .istore_n 1, 1)] 0 [(0, pj_O (20, 0))] [] (s, l, x, y) = pj_c 0 0 10 10 10 (K 16 [(1, pj_N 0), (0, pj_O (20, 0))] [] (pj_y s 34000 10 (fun k => ([0, 0, 60, 60, 60, 90, 20, 450, 130, 0] : List Int32).getD k 0) 0, l, x, y)) := rfl
set_option maxRecDepth 100000 in
theorem pq_X7_reset_r (fu : Nat) (z : pj_Z) : pj_rn px_X7_reset (pj_as pk_X7_reset) (pj_as [(16, pe_X7_reset_16 (pl_X7_reset_16 fu fu))]) 60 16 [(1, pj_N 0), (0, pj_O (20, 0))] [] z = pl_X7_reset_16 fu fu 0 z.1 z.2.1 z.2.2.1 z.2.2.2 := rfl
set_option maxRecDepth 100000 in
theorem pq_X7_reset_m (fu : Nat)   (s : Nat → Int32) (l : Nat → Int64) (x : Nat → Int32) (y : Nat → Int64) : po_X7_reset fu  s l x y = pj_bl px_X7_reset (pj_rn px_X7_reset (pj_as pk_X7_reset) (pj_as [(16, pe_X7_reset_16 (pl_X7_reset_16 fu fu))]) 60) [(0, .getstatic 64, 3), (3, .iconst 0, 1), (4, .aload_n 0, 1), (5, .getfield 38, 3), (8, .iconst 0, 1), (9, .bipush 10, 2), (11, .invokestatic 67, 3), (14, .iconst 0, 1), (15, .istore_n 1, 1)] 0 [(0, pj_O (20, 0))] [] (s, l, x, y) := by
  rw [pq_X7_reset_k, pq_X7_reset_r]
  rfl
theorem pu_X7_reset_16 {lf : pj_Z → mj_M} {a : Unit × pj_Z} (f : Int32 → pj_F (Unit × pj_Z)) (hf : ∀ (a1 : Int32) (s : Nat → Int32) (l : Nat → Int64) (x : Nat → Int32) (y : Nat → Int64), f a1 s l x y = some a → pm_Gd 0 7001 ie_X7_reset.1 pm_rU lf 16 [(0, .ref 20), (1, .int a1)] [] (s, l, x, y) a) : pm_Ex 0 7001 ie_X7_reset.1 pm_rU lf a 16 (pe_X7_reset_16 f) := by
  intro lv st z hd h
  obtain ⟨g0, h⟩ := pj_xr_inv h
  obtain ⟨a1, g1, h⟩ := pj_xi_inv h
  obtain ⟨e9, h⟩ := pj_pe_inv h
  rw [e9]
  exact mj_wp_sub (mj_sub_cons g0 (mj_sub_cons g1 (mj_sub_nil hd))) (hf _ _ _ _ _ h)
set_option maxRecDepth 100000 in
theorem pz_X7_reset {lf : pj_Z → mj_M} (hT : pj_Lt pj_TC lf) : pj_Cok ic_P (mj_R ic_P 0) 7001 ie_X7_reset.1 (pm_OK lf pm_rU) lf px_X7_reset := by
  exact pm_cok (c := px_X7_reset) (pm_part hT (pj_as_all (p := fun b e => pj_TC b = some e) (List.forall_mem_cons.mpr ⟨rfl, (List.forall_mem_cons.mpr ⟨rfl, (List.forall_mem_cons.mpr ⟨rfl, (List.forall_mem_cons.mpr ⟨rfl, (List.forall_mem_cons.mpr ⟨rfl, (fun _ h => by cases h)⟩)⟩)⟩)⟩)⟩))) (pm_in_ok (L := [(26, 7, 4, 2, true), (38, 7, 8, 2, true), (41, 7, 9, 2, true), (44, 7, 10, 2, true)]) (f := mj_pF ic_P 7001) (by decide +kernel)) (fun _ _ h => by cases h) (fun _ _ h => by cases h) (pm_in_ok (L := [(64, 6)]) (f := mj_pS ic_P 7001) (by decide +kernel)) rfl rfl ⟨by decide, rfl⟩ pm_mU (fun _ _ h => by cases h) (pj_mem_all (p := fun ix => mj_pC ic_P 7001 ix = true) (by simp only [List.mem_cons, List.not_mem_nil, or_false, forall_eq_or_imp, forall_eq]; exact rfl))
set_option maxRecDepth 100000 in
theorem pb_X7_reset : pm_bks ie_X7_reset.1.2.2.2.2 pk_X7_reset = true := by decide +kernel
set_option maxRecDepth 100000 in
theorem pg_X7_reset_16 {fu : Nat} {lf : pj_Z → mj_M} (hT : pj_Lt pj_TC lf) : ∀ (n : Nat), ∀ (a1 : Int32) (s : Nat → Int32) (l : Nat → Int64) (x : Nat → Int32) (y : Nat → Int64) (a : Unit × pj_Z), pl_X7_reset_16 fu n a1 s l x y = some a → pm_Gd 0 7001 ie_X7_reset.1 pm_rU lf 16 [(0, .ref 20), (1, .int a1)] [] (s, l, x, y) a := by
  intro n
  induction n with
  | zero => intro a1 s l x y a h; cases (show (none : Option (Unit × pj_Z)) = some a from h)
  | succ n ih =>
    intro a1 s l x y a h
    exact pm_run ((pq_X7_reset_16 fu n a1 s l x y).symm.trans h) (pz_X7_reset hT) (pm_bks_ok pb_X7_reset) (pm_bks_ok pb_X7_reset _ _ rfl) (pm_ndb_ok rfl) (pj_as_all (p := pm_Ex 0 7001 ie_X7_reset.1 pm_rU lf a) (List.forall_mem_cons.mpr ⟨pu_X7_reset_16 _ (fun c0 s l x y h => ih c0 s l x y _ h), (fun _ h => by cases h)⟩))
set_option maxRecDepth 100000 in
theorem pm_X7_reset {lf : pj_Z → mj_M} (hT : pj_Lt pj_TC lf)  (s : Nat → Int32) (l : Nat → Int64) (x : Nat → Int32) (y : Nat → Int64) (a : Unit × pj_Z) (h : pf_X7_reset  s l x y = some a) : mj_R ic_P 1 7001 [.ref 20] (lf (s, l, x, y)) (pm_rU a.1) (lf a.2) := by
  refine pm_main (Y := ie_X7_reset.1) rfl (Nat.le_of_ble_eq_true rfl) ?_
  exact pm_run ((pq_X7_reset_m 1000  s l x y).symm.trans h) (pz_X7_reset hT) (pm_bks_ok pb_X7_reset) (pm_bks_ok pb_X7_reset _ _ rfl) (pm_ndb_ok rfl) (pj_as_all (p := pm_Ex 0 7001 ie_X7_reset.1 pm_rU lf a) (List.forall_mem_cons.mpr ⟨pu_X7_reset_16 _ (fun c0 s l x y h => pg_X7_reset_16 hT _ c0 s l x y _ h), (fun _ h => by cases h)⟩))
abbrev ph_X7_reset {A : Type} : List pj_V → pj_Z → (List pj_V → pj_Z → Option A) → Option A := fun st z K => pj_pr st 20 0 fun st => pj_ps st (pj_b (pf_X7_reset  z.1 z.2.1 z.2.2.1 z.2.2.2) fun r s l x y => K st (s, l, x, y))
set_option maxRecDepth 100000 in
theorem pc_X7_reset {A : Type} {OK : A → Option Value → mj_M → Prop} {d j pc ix : Nat} {Y : mj_Y} {lf : pj_Z → mj_M} (hT : pj_Lt pj_TC lf) (hd : 1 ≤ d) (hl : mj_lk Y.2.2.2.2 pc = some (.invokevirtual ix, 3)) (hg : mj_pG ic_P j ix = some (7001, 0, some 7)) {lv : List (Nat × Value)} {st : List pj_V} {z : pj_Z} {K : List pj_V → pj_Z → Option A} {a : A} (hK : ∀ st z, K st z = some a → pj_Gd ic_P (mj_R ic_P d) j Y OK lf (pc + 3) lv (pj_es st) z a) (h : ph_X7_reset st z K = some a) : pj_Gd ic_P (mj_R ic_P d) j Y OK lf pc lv (pj_es st) z a := by
  obtain ⟨r0, e0, h⟩ := pj_pr_inv h
  obtain ⟨hs, h⟩ := pj_ps_inv h
  obtain ⟨q, hq, h⟩ := pj_b_inv h
  exact pm_cv (o := 20) hl hg [] rfl (by rw [e0]; rfl) hs (by decide) ((hT.2 20 _ rfl).1.2 z 0 (by decide)) (pm_rU q.1) hd (pm_X7_reset hT  z.1 z.2.1 z.2.2.1 z.2.2.2 q hq) rfl (hK _ _ h)
abbrev pe_J7_fill_53178_v3_5 (f : Int32 → Int32 → Int32 → pj_F (Unit × pj_Z)) : pj_K (Unit × pj_Z) := fun lv st z => pj_xr lv 0 64 0 <| pj_xi lv 1 fun a1 => pj_xi lv 2 fun a2 => pj_xi lv 3 fun a3 => pj_pe st (f a1 a2 a3 z.1 z.2.1 z.2.2.1 z.2.2.2)
abbrev px_J7_fill_53178_v3 : pj_C (Unit × pj_Z) := ((pj_as [(64, 100, 8, 4, 1, true, 8000, [])]), (fun _ => none), (fun _ => none), (fun _ => none), (fun _ => none), ic_X, 4, 0, pj_mU, (fun _ => none), fun _ => false)
abbrev pk_J7_fill_53178_v3 : List (Nat × List (Nat × Instr × Nat)) := [(0, [(0, .iconst 0, 1), (1, .istore_n 2, 1), (2, .aload_n 0, 1), (3, .arraylength, 1), (4, .istore_n 3, 1)]), (5, [(5, .iload_n 2, 1), (6, .iload_n 3, 1), (7, .if_icmp .ge 13, 3)]), (10, [(10, .aload_n 0, 1), (11, .iload_n 2, 1), (12, .iload_n 1, 1), (13, .iastore, 1), (14, .iinc 2 1, 3), (17, .goto (-12), 3)]), (20, [(20, .return_, 1)])]
set_option maxRecDepth 100000 in
theorem pq_J7_fill_53178_v3_5 (fu : Nat)  (n : Nat) (a1 : Int32) (a2 : Int32) (a3 : Int32) (s : Nat → Int32) (l : Nat → Int64) (x : Nat → Int32) (y : Nat → Int64) : pl_J7_fill_53178_v3_5 fu (n + 1) a1 a2 a3 s l x y = pj_bl px_J7_fill_53178_v3 (pj_rn px_J7_fill_53178_v3 (pj_as pk_J7_fill_53178_v3) (pj_as [(5, pe_J7_fill_53178_v3_5 (pl_J7_fill_53178_v3_5 fu n))]) 60) [(5, .iload_n 2, 1), (6, .iload_n 3, 1), (7, .if_icmp .ge 13, 3)] 5 [(0, pj_O (64, 0)), (1, pj_I a1), (2, pj_I a2), (3, pj_I a3)] [] (s, l, x, y) := rfl
set_option maxRecDepth 100000 in
theorem pq_J7_fill_53178_v3_m (fu : Nat)  (a1 : Int32) (s : Nat → Int32) (l : Nat → Int64) (x : Nat → Int32) (y : Nat → Int64) : po_J7_fill_53178_v3 fu a1 s l x y = pj_bl px_J7_fill_53178_v3 (pj_rn px_J7_fill_53178_v3 (pj_as pk_J7_fill_53178_v3) (pj_as [(5, pe_J7_fill_53178_v3_5 (pl_J7_fill_53178_v3_5 fu fu))]) 60) [(0, .iconst 0, 1), (1, .istore_n 2, 1), (2, .aload_n 0, 1), (3, .arraylength, 1), (4, .istore_n 3, 1)] 0 [(0, pj_O (64, 0)), (1, pj_I a1)] [] (s, l, x, y) := rfl
theorem pu_J7_fill_53178_v3_5 {lf : pj_Z → mj_M} {a : Unit × pj_Z} (f : Int32 → Int32 → Int32 → pj_F (Unit × pj_Z)) (hf : ∀ (a1 : Int32) (a2 : Int32) (a3 : Int32) (s : Nat → Int32) (l : Nat → Int64) (x : Nat → Int32) (y : Nat → Int64), f a1 a2 a3 s l x y = some a → pm_Gd 0 27000 ie_J7_fill_53178.1 pm_rU lf 5 [(0, .ref 64), (1, .int a1), (2, .int a2), (3, .int a3)] [] (s, l, x, y) a) : pm_Ex 0 27000 ie_J7_fill_53178.1 pm_rU lf a 5 (pe_J7_fill_53178_v3_5 f) := by
  intro lv st z hd h
  obtain ⟨g0, h⟩ := pj_xr_inv h
  obtain ⟨a1, g1, h⟩ := pj_xi_inv h
  obtain ⟨a2, g2, h⟩ := pj_xi_inv h
  obtain ⟨a3, g3, h⟩ := pj_xi_inv h
  obtain ⟨e9, h⟩ := pj_pe_inv h
  rw [e9]
  exact mj_wp_sub (mj_sub_cons g0 (mj_sub_cons g1 (mj_sub_cons g2 (mj_sub_cons g3 (mj_sub_nil hd))))) (hf _ _ _ _ _ _ _ h)
set_option maxRecDepth 100000 in
theorem pz_J7_fill_53178_v3 {lf : pj_Z → mj_M} (hT : pj_Lt pj_TC lf) : pj_Cok ic_P (mj_R ic_P 0) 27000 ie_J7_fill_53178.1 (pm_OK lf pm_rU) lf px_J7_fill_53178_v3 := by
  exact pm_cok (c := px_J7_fill_53178_v3) (pm_part hT (pj_as_all (p := fun b e => pj_TC b = some e) (List.forall_mem_cons.mpr ⟨rfl, (fun _ h => by cases h)⟩))) (fun _ _ h => by cases h) (fun _ _ h => by cases h) (fun _ _ h => by cases h) (fun _ _ h => by cases h) rfl rfl ⟨by decide, rfl⟩ pm_mU (fun _ _ h => by cases h) (fun _ h => by cases h)
set_option maxRecDepth 100000 in
theorem pb_J7_fill_53178_v3 : pm_bks ie_J7_fill_53178.1.2.2.2.2 pk_J7_fill_53178_v3 = true := by decide +kernel
set_option maxRecDepth 100000 in
theorem pg_J7_fill_53178_v3_5 {fu : Nat} {lf : pj_Z → mj_M} (hT : pj_Lt pj_TC lf) : ∀ (n : Nat), ∀ (a1 : Int32) (a2 : Int32) (a3 : Int32) (s : Nat → Int32) (l : Nat → Int64) (x : Nat → Int32) (y : Nat → Int64) (a : Unit × pj_Z), pl_J7_fill_53178_v3_5 fu n a1 a2 a3 s l x y = some a → pm_Gd 0 27000 ie_J7_fill_53178.1 pm_rU lf 5 [(0, .ref 64), (1, .int a1), (2, .int a2), (3, .int a3)] [] (s, l, x, y) a := by
  intro n
  induction n with
  | zero => intro a1 a2 a3 s l x y a h; cases (show (none : Option (Unit × pj_Z)) = some a from h)
  | succ n ih =>
    intro a1 a2 a3 s l x y a h
    exact pm_run ((pq_J7_fill_53178_v3_5 fu n a1 a2 a3 s l x y).symm.trans h) (pz_J7_fill_53178_v3 hT) (pm_bks_ok pb_J7_fill_53178_v3) (pm_bks_ok pb_J7_fill_53178_v3 _ _ rfl) (pm_ndb_ok rfl) (pj_as_all (p := pm_Ex 0 27000 ie_J7_fill_53178.1 pm_rU lf a) (List.forall_mem_cons.mpr ⟨pu_J7_fill_53178_v3_5 _ (fun c0 c1 c2 s l x y h => ih c0 c1 c2 s l x y _ h), (fun _ h => by cases h)⟩))
set_option maxRecDepth 100000 in
theorem pm_J7_fill_53178_v3 {lf : pj_Z → mj_M} (hT : pj_Lt pj_TC lf) (a1 : Int32) (s : Nat → Int32) (l : Nat → Int64) (x : Nat → Int32) (y : Nat → Int64) (a : Unit × pj_Z) (h : pf_J7_fill_53178_v3 a1 s l x y = some a) : mj_R ic_P 1 27000 [.ref 64, .int a1] (lf (s, l, x, y)) (pm_rU a.1) (lf a.2) := by
  refine pm_main (Y := ie_J7_fill_53178.1) rfl (Nat.le_of_ble_eq_true rfl) ?_
  exact pm_run ((pq_J7_fill_53178_v3_m 1000 a1 s l x y).symm.trans h) (pz_J7_fill_53178_v3 hT) (pm_bks_ok pb_J7_fill_53178_v3) (pm_bks_ok pb_J7_fill_53178_v3 _ _ rfl) (pm_ndb_ok rfl) (pj_as_all (p := pm_Ex 0 27000 ie_J7_fill_53178.1 pm_rU lf a) (List.forall_mem_cons.mpr ⟨pu_J7_fill_53178_v3_5 _ (fun c0 c1 c2 s l x y h => pg_J7_fill_53178_v3_5 hT _ c0 c1 c2 s l x y _ h), (fun _ h => by cases h)⟩))
abbrev ph_J7_fill_53178_v3 {A : Type} : List pj_V → pj_Z → (List pj_V → pj_Z → Option A) → Option A := fun st z K => pj_pi st fun a1 st => pj_pr st 64 0 fun st => pj_ps st (pj_b (pf_J7_fill_53178_v3 a1 z.1 z.2.1 z.2.2.1 z.2.2.2) fun r s l x y => K st (s, l, x, y))
set_option maxRecDepth 100000 in
theorem pc_J7_fill_53178_v3 {A : Type} {OK : A → Option Value → mj_M → Prop} {d j pc ix : Nat} {Y : mj_Y} {lf : pj_Z → mj_M} (hT : pj_Lt pj_TC lf) (hd : 1 ≤ d) (hl : mj_lk Y.2.2.2.2 pc = some (.invokestatic ix, 3)) (hg : mj_pG ic_P j ix = some (27000, 2, none)) {lv : List (Nat × Value)} {st : List pj_V} {z : pj_Z} {K : List pj_V → pj_Z → Option A} {a : A} (hK : ∀ st z, K st z = some a → pj_Gd ic_P (mj_R ic_P d) j Y OK lf (pc + 3) lv (pj_es st) z a) (h : ph_J7_fill_53178_v3 st z K = some a) : pj_Gd ic_P (mj_R ic_P d) j Y OK lf pc lv (pj_es st) z a := by
  obtain ⟨a1, r1, e1, h⟩ := pj_pi_inv h
  obtain ⟨r0, e0, h⟩ := pj_pr_inv h
  obtain ⟨hs, h⟩ := pj_ps_inv h
  obtain ⟨q, hq, h⟩ := pj_b_inv h
  exact pm_cs hl hg [.ref 64, .int a1] rfl (by rw [e1, e0]; rfl) hs (pm_rU q.1) hd (pm_J7_fill_53178_v3 hT a1 z.1 z.2.1 z.2.2.1 z.2.2.2 q hq) rfl (hK _ _ h)

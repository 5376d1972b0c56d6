/-! METHODS 26, printed by gen_meth.py -/
abbrev pe_X12_handle_22 (f : Int32 → Int32 → pj_F (Unit × pj_Z)) : pj_K (Unit × pj_Z) := fun lv st z => pj_xr lv 0 124 0 <| pj_xi lv 1 fun a1 => pj_xi lv 2 fun a2 => pj_pe st (f a1 a2 z.1 z.2.1 z.2.2.1 z.2.2.2)
abbrev pe_X12_handle_348 (f : pj_F (Unit × pj_Z)) : pj_K (Unit × pj_Z) := fun lv st z => pj_xr lv 0 124 0 <| pj_pe st (f  z.1 z.2.1 z.2.2.1 z.2.2.2)
abbrev px_X12_handle : pj_C (Unit × pj_Z) := (pj_TR, (pj_as [(19, 12, 3, 2, true), (176, 12, 123, 2, true), (339, 12, 127, 3, false), (345, 12, 129, 0, false), (807, 12, 134, 0, false)]), (fun _ => none), (fun _ => none), (fun _ => none), ic_X, 3, 0, pj_mU, (pj_as [(173, ph_X12_refuse), (181, ph_X12_plain), (189, ph_X12_live), (197, ph_X12_frozen), (205, ph_X12_named), (221, ph_X12_refuse), (243, ph_X12_refuse), (252, ph_X12_say), (262, ph_X12_say), (280, ph_X12_say), (295, ph_X12_two), (303, ph_X12_unlock), (311, ph_X12_change), (319, ph_X12_loadMap), (327, ph_X12_loadCell), (335, ph_X12_loaded), (345, ph_X12_refuse), (349, ph_X12_send)]), fun _ => false)
abbrev pk_X12_handle : List (Nat × List (Nat × Instr × Nat)) := [(0, [(0, .aload_n 0, 1), (1, .getfield 176, 3), (4, .iconst 3, 1), (5, .iaload, 1), (6, .istore_n 2, 1), (7, .aload_n 0, 1), (8, .getfield 339, 3), (11, .ifCond .ne 11, 3)]), (14, [(14, .iload_n 2, 1), (15, .sipush 129, 3), (18, .if_icmp .eq 4, 3)]), (21, [(21, .return_, 1)]), (22, [(22, .aload_n 0, 1), (23, .iconst 0, 1), (24, .putfield 345, 3), (27, .aload_n 0, 1), (28, .iconst 0, 1), (29, .putfield 807, 3), (32, .iload_n 2, 1), (33, .lookupswitch 308 #[(1, 154), (2, 162), (3, 131), (4, 131), (7, 131), (9, 170), (33, 178), (39, 268), (52, 284), (54, 292), (55, 300), (59, 276), (62, 131), (129, 131), (130, 131)], 131)]), (164, [(164, .iload_n 1, 1), (165, .iconst 1, 1), (166, .if_icmp .eq 13, 3)]), (169, [(169, .aload_n 0, 1), (170, .iload_n 2, 1), (171, .bipush 18, 2), (173, .invokevirtual 823, 3), (176, .goto 172, 3)]), (179, [(179, .aload_n 0, 1), (180, .iload_n 2, 1), (181, .invokevirtual 826, 3), (184, .goto 164, 3)]), (187, [(187, .aload_n 0, 1), (188, .iload_n 1, 1), (189, .invokevirtual 829, 3), (192, .goto 156, 3)]), (195, [(195, .aload_n 0, 1), (196, .iload_n 1, 1), (197, .invokevirtual 832, 3), (200, .goto 148, 3)]), (203, [(203, .aload_n 0, 1), (204, .iload_n 1, 1), (205, .invokevirtual 835, 3), (208, .goto 140, 3)]), (211, [(211, .iload_n 1, 1), (212, .iconst 2, 1), (213, .if_icmp .eq 14, 3)]), (216, [(216, .aload_n 0, 1), (217, .bipush 33, 2), (219, .bipush 18, 2), (221, .invokevirtual 823, 3), (224, .goto 124, 3)]), (227, [(227, .aload_n 0, 1), (228, .getfield 176, 3), (231, .iconst 4, 1), (232, .iaload, 1), (233, .bipush 23, 2), (235, .if_icmp .le 14, 3)]), (238, [(238, .aload_n 0, 1), (239, .bipush 33, 2), (241, .bipush 49, 2), (243, .invokevirtual 823, 3), (246, .goto 102, 3)]), (249, [(249, .aload_n 0, 1), (250, .bipush 97, 2), (252, .invokevirtual 810, 3), (255, .aload_n 0, 1), (256, .aload_n 0, 1), (257, .getfield 176, 3), (260, .iconst 4, 1), (261, .iaload, 1), (262, .invokevirtual 810, 3), (265, .aload_n 0, 1), (266, .aload_n 0, 1), (267, .getfield 19, 3), (270, .aload_n 0, 1), (271, .getfield 176, 3), (274, .iconst 4, 1), (275, .iaload, 1), (276, .iaload, 1), (277, .bipush 16, 2), (279, .ishr, 1), (280, .invokevirtual 810, 3), (283, .aload_n 0, 1), (284, .aload_n 0, 1), (285, .getfield 19, 3), (288, .aload_n 0, 1), (289, .getfield 176, 3), (292, .iconst 4, 1), (293, .iaload, 1), (294, .iaload, 1), (295, .invokevirtual 817, 3), (298, .goto 50, 3)]), (301, [(301, .aload_n 0, 1), (302, .iload_n 1, 1), (303, .invokevirtual 838, 3), (306, .goto 42, 3)]), (309, [(309, .aload_n 0, 1), (310, .iload_n 1, 1), (311, .invokevirtual 841, 3), (314, .goto 34, 3)]), (317, [(317, .aload_n 0, 1), (318, .iload_n 1, 1), (319, .invokevirtual 844, 3), (322, .goto 26, 3)]), (325, [(325, .aload_n 0, 1), (326, .iload_n 1, 1), (327, .invokevirtual 847, 3), (330, .goto 18, 3)]), (333, [(333, .aload_n 0, 1), (334, .iload_n 1, 1), (335, .invokevirtual 850, 3), (338, .goto 10, 3)]), (341, [(341, .aload_n 0, 1), (342, .iload_n 2, 1), (343, .bipush 17, 2), (345, .invokevirtual 823, 3)]), (348, [(348, .aload_n 0, 1), (349, .invokevirtual 853, 3), (352, .return_, 1)])]
set_option maxRecDepth 100000 in
theorem pq_X12_handle_348  (s : Nat → Int32) (l : Nat → Int64) (x : Nat → Int32) (y : Nat → Int64) : pl_X12_handle_348 s l x y = pj_bl px_X12_handle (pj_rn px_X12_handle (pj_as pk_X12_handle) (fun _ => none) 60) [(348, .aload_n 0, 1), (349, .invokevirtual 853, 3), (352, .return_, 1)] 348 [(0, pj_O (124, 0))] [] (s, l, x, y) := rfl
set_option maxRecDepth 100000 in
theorem pq_X12_handle_22 (a1 : Int32) (a2 : Int32) (s : Nat → Int32) (l : Nat → Int64) (x : Nat → Int32) (y : Nat → Int64) : pl_X12_handle_22 a1 a2 s l x y = pj_bl px_X12_handle (pj_rn px_X12_handle (pj_as pk_X12_handle) (pj_as [(348, pe_X12_handle_348 (pl_X12_handle_348))]) 60) [(22, .aload_n 0, 1), (23, .iconst 0, 1), (24, .putfield 345, 3), (27, .aload_n 0, 1), (28, .iconst 0, 1), (29, .putfield 807, 3), (32, .iload_n 2, 1), (33, .lookupswitch 308 #[(1, 154), (2, 162), (3, 131), (4, 131), (7, 131), (9, 170), (33, 178), (39, 268), (52, 284), (54, 292), (55, 300), (59, 276), (62, 131), (129, 131), (130, 131)], 131)] 22 [(0, pj_O (124, 0)), (1, pj_I a1), (2, pj_I a2)] [] (s, l, x, y) := rfl
set_option maxRecDepth 100000 in
theorem pq_X12_handle_m (a1 : Int32) (s : Nat → Int32) (l : Nat → Int64) (x : Nat → Int32) (y : Nat → Int64) : pf_X12_handle a1 s l x y = pj_bl px_X12_handle (pj_rn px_X12_handle (pj_as pk_X12_handle) (pj_as [(22, pe_X12_handle_22 (pl_X12_handle_22))]) 60) [(0, .aload_n 0, 1), (1, .getfield 176, 3), (4, .iconst 3, 1), (5, .iaload, 1), (6, .istore_n 2, 1), (7, .aload_n 0, 1), (8, .getfield 339, 3), (11, .ifCond .ne 11, 3)] 0 [(0, pj_O (124, 0)), (1, pj_I a1)] [] (s, l, x, y) := rfl
theorem pu_X12_handle_22 {lf : pj_Z → mj_M} {a : Unit × pj_Z} (f : Int32 → Int32 → pj_F (Unit × pj_Z)) (hf : ∀ (a1 : Int32) (a2 : Int32) (s : Nat → Int32) (l : Nat → Int64) (x : Nat → Int32) (y : Nat → Int64), f a1 a2 s l x y = some a → pm_Gd 8 12072 ie_X12_handle.1 pm_rU lf 22 [(0, .ref 124), (1, .int a1), (2, .int a2)] [] (s, l, x, y) a) : pm_Ex 8 12072 ie_X12_handle.1 pm_rU lf a 22 (pe_X12_handle_22 f) := by
  intro lv st z hd h
  obtain ⟨g0, h⟩ := pj_xr_inv h
  obtain ⟨a1, g1, h⟩ := pj_xi_inv h
  obtain ⟨a2, g2, h⟩ := pj_xi_inv h
  obtain ⟨e9, h⟩ := pj_pe_inv h
  rw [e9]
  exact mj_wp_sub (mj_sub_cons g0 (mj_sub_cons g1 (mj_sub_cons g2 (mj_sub_nil hd)))) (hf _ _ _ _ _ _ h)
theorem pu_X12_handle_348 {lf : pj_Z → mj_M} {a : Unit × pj_Z} (f : pj_F (Unit × pj_Z)) (hf : ∀  (s : Nat → Int32) (l : Nat → Int64) (x : Nat → Int32) (y : Nat → Int64), f  s l x y = some a → pm_Gd 8 12072 ie_X12_handle.1 pm_rU lf 348 [(0, .ref 124)] [] (s, l, x, y) a) : pm_Ex 8 12072 ie_X12_handle.1 pm_rU lf a 348 (pe_X12_handle_348 f) := by
  intro lv st z hd h
  obtain ⟨g0, h⟩ := pj_xr_inv h
  obtain ⟨e9, h⟩ := pj_pe_inv h
  rw [e9]
  exact mj_wp_sub (mj_sub_cons g0 (mj_sub_nil hd)) (hf  _ _ _ _ h)
set_option maxRecDepth 100000 in
theorem pz_X12_handle {lf : pj_Z → mj_M} (hT : pj_Lt pj_TR lf) : pj_Cok ic_P (mj_R ic_P 8) 12072 ie_X12_handle.1 (pm_OK lf pm_rU) lf px_X12_handle := by
  exact pm_cok (c := px_X12_handle) hT (pm_in_ok (L := [(19, 12, 3, 2, true), (176, 12, 123, 2, true), (339, 12, 127, 3, false), (345, 12, 129, 0, false), (807, 12, 134, 0, false)]) (f := mj_pF ic_P 12072) (by decide +kernel)) (fun _ _ h => by cases h) (fun _ _ h => by cases h) (fun _ _ h => by cases h) rfl rfl ⟨by decide, rfl⟩ pm_mU (pj_as_all (p := pm_Cl 8 12072 ie_X12_handle.1 lf (pm_OK lf pm_rU)) (List.forall_mem_cons.mpr ⟨fun _ _ lv st z K a hK h => pc_X12_refuse hT (by decide) (ix := 823) rfl rfl hK h, (List.forall_mem_cons.mpr ⟨fun _ _ lv st z K a hK h => pc_X12_plain hT (by decide) (ix := 826) rfl rfl hK h, (List.forall_mem_cons.mpr ⟨fun _ _ lv st z K a hK h => pc_X12_live hT (by decide) (ix := 829) rfl rfl hK h, (List.forall_mem_cons.mpr ⟨fun _ _ lv st z K a hK h => pc_X12_frozen hT (by decide) (ix := 832) rfl rfl hK h, (List.forall_mem_cons.mpr ⟨fun _ _ lv st z K a hK h => pc_X12_named hT (by decide) (ix := 835) rfl rfl hK h, (List.forall_mem_cons.mpr ⟨fun _ _ lv st z K a hK h => pc_X12_refuse hT (by decide) (ix := 823) rfl rfl hK h, (List.forall_mem_cons.mpr ⟨fun _ _ lv st z K a hK h => pc_X12_refuse hT (by decide) (ix := 823) rfl rfl hK h, (List.forall_mem_cons.mpr ⟨fun _ _ lv st z K a hK h => pc_X12_say hT (by decide) (ix := 810) rfl rfl hK h, (List.forall_mem_cons.mpr ⟨fun _ _ lv st z K a hK h => pc_X12_say hT (by decide) (ix := 810) rfl rfl hK h, (List.forall_mem_cons.mpr ⟨fun _ _ lv st z K a hK h => pc_X12_say hT (by decide) (ix := 810) rfl rfl hK h, (List.forall_mem_cons.mpr ⟨fun _ _ lv st z K a hK h => pc_X12_two hT (by decide) (ix := 817) rfl rfl hK h, (List.forall_mem_cons.mpr ⟨fun _ _ lv st z K a hK h => pc_X12_unlock hT (by decide) (ix := 838) rfl rfl hK h, (List.forall_mem_cons.mpr ⟨fun _ _ lv st z K a hK h => pc_X12_change hT (by decide) (ix := 841) rfl rfl hK h, (List.forall_mem_cons.mpr ⟨fun _ _ lv st z K a hK h => pc_X12_loadMap hT (by decide) (ix := 844) rfl rfl hK h, (List.forall_mem_cons.mpr ⟨fun _ _ lv st z K a hK h => pc_X12_loadCell hT (by decide) (ix := 847) rfl rfl hK h, (List.forall_mem_cons.mpr ⟨fun _ _ lv st z K a hK h => pc_X12_loaded hT (by decide) (ix := 850) rfl rfl hK h, (List.forall_mem_cons.mpr ⟨fun _ _ lv st z K a hK h => pc_X12_refuse hT (by decide) (ix := 823) rfl rfl hK h, (List.forall_mem_cons.mpr ⟨fun _ _ lv st z K a hK h => pc_X12_send hT (by decide) (ix := 853) rfl rfl hK h, (fun _ h => by cases h)⟩)⟩)⟩)⟩)⟩)⟩)⟩)⟩)⟩)⟩)⟩)⟩)⟩)⟩)⟩)⟩)⟩)⟩)) (fun _ h => by cases h)
set_option maxRecDepth 100000 in
theorem pb_X12_handle : pm_bks ie_X12_handle.1.2.2.2.2 pk_X12_handle = true := by decide +kernel
set_option maxRecDepth 100000 in
theorem pg_X12_handle_348 {lf : pj_Z → mj_M} (hT : pj_Lt pj_TR lf) : ∀  (s : Nat → Int32) (l : Nat → Int64) (x : Nat → Int32) (y : Nat → Int64) (a : Unit × pj_Z), pl_X12_handle_348 s l x y = some a → pm_Gd 8 12072 ie_X12_handle.1 pm_rU lf 348 [(0, .ref 124)] [] (s, l, x, y) a := by
  intro  s l x y a h
  exact pj_bl_ok (pz_X12_handle hT) (fun t lv st z hd h => pj_rn_ok (pz_X12_handle hT) (pm_bks_ok pb_X12_handle) (fun _ _ h => by cases h) 60 t lv st z hd h) [(348, .aload_n 0, 1), (349, .invokevirtual 853, 3), (352, .return_, 1)] 348 [(0, pj_O (124, 0))] [] (s, l, x, y) (pm_bks_ok pb_X12_handle _ _ rfl) (pm_ndb_ok rfl) ((pq_X12_handle_348   s l x y).symm.trans h)
set_option maxRecDepth 100000 in
theorem pg_X12_handle_22 {lf : pj_Z → mj_M} (hT : pj_Lt pj_TR lf) : ∀ (a1 : Int32) (a2 : Int32) (s : Nat → Int32) (l : Nat → Int64) (x : Nat → Int32) (y : Nat → Int64) (a : Unit × pj_Z), pl_X12_handle_22 a1 a2 s l x y = some a → pm_Gd 8 12072 ie_X12_handle.1 pm_rU lf 22 [(0, .ref 124), (1, .int a1), (2, .int a2)] [] (s, l, x, y) a := by
  intro a1 a2 s l x y a h
  exact pj_bl_ok (pz_X12_handle hT) (fun t lv st z hd h => pj_rn_ok (pz_X12_handle hT) (pm_bks_ok pb_X12_handle) (pj_as_all (p := pm_Ex 8 12072 ie_X12_handle.1 pm_rU lf a) (List.forall_mem_cons.mpr ⟨pu_X12_handle_348 _ (fun  s l x y h => pg_X12_handle_348 hT  s l x y _ h), (fun _ h => by cases h)⟩)) 60 t lv st z hd h) [(22, .aload_n 0, 1), (23, .iconst 0, 1), (24, .putfield 345, 3), (27, .aload_n 0, 1), (28, .iconst 0, 1), (29, .putfield 807, 3), (32, .iload_n 2, 1), (33, .lookupswitch 308 #[(1, 154), (2, 162), (3, 131), (4, 131), (7, 131), (9, 170), (33, 178), (39, 268), (52, 284), (54, 292), (55, 300), (59, 276), (62, 131), (129, 131), (130, 131)], 131)] 22 [(0, pj_O (124, 0)), (1, pj_I a1), (2, pj_I a2)] [] (s, l, x, y) (pm_bks_ok pb_X12_handle _ _ rfl) (pm_ndb_ok rfl) ((pq_X12_handle_22  a1 a2 s l x y).symm.trans h)
set_option maxRecDepth 100000 in
theorem pm_X12_handle {lf : pj_Z → mj_M} (hT : pj_Lt pj_TR lf) (a1 : Int32) (s : Nat → Int32) (l : Nat → Int64) (x : Nat → Int32) (y : Nat → Int64) (a : Unit × pj_Z) (h : pf_X12_handle a1 s l x y = some a) : mj_R ic_P 9 12072 [.ref 124, .int a1] (lf (s, l, x, y)) (pm_rU a.1) (lf a.2) := by
  refine pm_main (Y := ie_X12_handle.1) rfl (Nat.le_of_ble_eq_true rfl) ?_
  exact pj_bl_ok (pz_X12_handle hT) (fun t lv st z hd h => pj_rn_ok (pz_X12_handle hT) (pm_bks_ok pb_X12_handle) (pj_as_all (p := pm_Ex 8 12072 ie_X12_handle.1 pm_rU lf a) (List.forall_mem_cons.mpr ⟨pu_X12_handle_22 _ (fun c0 c1 s l x y h => pg_X12_handle_22 hT c0 c1 s l x y _ h), (fun _ h => by cases h)⟩)) 60 t lv st z hd h) [(0, .aload_n 0, 1), (1, .getfield 176, 3), (4, .iconst 3, 1), (5, .iaload, 1), (6, .istore_n 2, 1), (7, .aload_n 0, 1), (8, .getfield 339, 3), (11, .ifCond .ne 11, 3)] 0 [(0, pj_O (124, 0)), (1, pj_I a1)] [] (s, l, x, y) (pm_bks_ok pb_X12_handle _ _ rfl) (pm_ndb_ok rfl) ((pq_X12_handle_m a1 s l x y).symm.trans h)
abbrev ph_X12_handle {A : Type} : List pj_V → pj_Z → (List pj_V → pj_Z → Option A) → Option A := fun st z K => pj_pi st fun a1 st => pj_pr st 124 0 fun st => pj_ps st (pj_b (pf_X12_handle a1 z.1 z.2.1 z.2.2.1 z.2.2.2) fun r s l x y => K st (s, l, x, y))
set_option maxRecDepth 100000 in
theorem pc_X12_handle {A : Type} {OK : A → Option Value → mj_M → Prop} {d j pc ix : Nat} {Y : mj_Y} {lf : pj_Z → mj_M} (hT : pj_Lt pj_TR lf) (hd : 9 ≤ d) (hl : mj_lk Y.2.2.2.2 pc = some (.invokevirtual ix, 3)) (hg : mj_pG ic_P j ix = some (12072, 1, some 12)) {lv : List (Nat × Value)} {st : List pj_V} {z : pj_Z} {K : List pj_V → pj_Z → Option A} {a : A} (hK : ∀ st z, K st z = some a → pj_Gd ic_P (mj_R ic_P d) j Y OK lf (pc + 3) lv (pj_es st) z a) (h : ph_X12_handle st z K = some a) : pj_Gd ic_P (mj_R ic_P d) j Y OK lf pc lv (pj_es st) z a := by
  obtain ⟨a1, r1, e1, h⟩ := pj_pi_inv h
  obtain ⟨r0, e0, h⟩ := pj_pr_inv h
  obtain ⟨hs, h⟩ := pj_ps_inv h
  obtain ⟨q, hq, h⟩ := pj_b_inv h
  exact pm_cv (o := 124) hl hg [.int a1] rfl (by rw [e1, e0]; rfl) hs (by decide) ((hT.2 124 _ rfl).1.2 z 0 (by decide)) (pm_rU q.1) hd (pm_X12_handle hT a1 z.1 z.2.1 z.2.2.1 z.2.2.2 q hq) rfl (hK _ _ h)
abbrev pe_X12_heard_36 (f : Int32 → pj_F (Unit × pj_Z)) : pj_K (Unit × pj_Z) := fun lv st z => pj_xr lv 0 124 0 <| pj_xi lv 1 fun a1 => pj_pe st (f a1 z.1 z.2.1 z.2.2.1 z.2.2.2)
abbrev pe_X12_heard_65 (f : pj_F (Unit × pj_Z)) : pj_K (Unit × pj_Z) := fun lv st z => pj_xr lv 0 124 0 <| pj_pe st (f  z.1 z.2.1 z.2.2.1 z.2.2.2)
abbrev pe_X12_heard_76 (f : Int32 → pj_F (Unit × pj_Z)) : pj_K (Unit × pj_Z) := fun lv st z => pj_xr lv 0 124 0 <| pj_xi lv 1 fun a1 => pj_pe st (f a1 z.1 z.2.1 z.2.2.1 z.2.2.2)
abbrev pe_X12_heard_122 (f : Int32 → Int32 → Int32 → pj_F (Unit × pj_Z)) : pj_K (Unit × pj_Z) := fun lv st z => pj_xr lv 0 124 0 <| pj_xi lv 2 fun a2 => pj_xi lv 3 fun a3 => pj_xi lv 4 fun a4 => pj_pe st (f a2 a3 a4 z.1 z.2.1 z.2.2.1 z.2.2.2)
abbrev pe_X12_heard_205 (f : Int32 → Int32 → Int32 → pj_F (Unit × pj_Z)) : pj_K (Unit × pj_Z) := fun lv st z => pj_xr lv 0 124 0 <| pj_xi lv 2 fun a2 => pj_pi st fun b1 st => pj_pi st fun b0 st => pj_pe st (f a2 b0 b1 z.1 z.2.1 z.2.2.1 z.2.2.2)
abbrev px_X12_heard : pj_C (Unit × pj_Z) := (pj_TR, (pj_as [(176, 12, 123, 2, true), (333, 12, 124, 0, false), (336, 12, 126, 0, false), (519, 12, 23, 0, false), (594, 12, 22, 1, false), (801, 12, 125, 1, false)]), (fun _ => none), (pj_as [(580, 20000)]), (fun _ => none), ic_X, 5, 0, pj_mU, (pj_as [(210, ph_X12_handle)]), fun _ => false)
abbrev pk_X12_heard : List (Nat × List (Nat × Instr × Nat)) := [(0, [(0, .aload_n 0, 1), (1, .getfield 519, 3), (4, .ifCond .ne 4, 3)]), (7, [(7, .return_, 1)]), (8, [(8, .aload_n 0, 1), (9, .getfield 333, 3), (12, .ifCond .le 24, 3)]), (15, [(15, .aload_n 0, 1), (16, .getfield 594, 3), (19, .aload_n 0, 1), (20, .getfield 801, 3), (23, .lsub, 1), (24, .ldc2_w 580, 3), (27, .lcmp, 1), (28, .ifCond .le 8, 3)]), (31, [(31, .aload_n 0, 1), (32, .iconst 0, 1), (33, .putfield 333, 3)]), (36, [(36, .aload_n 0, 1), (37, .aload_n 0, 1), (38, .getfield 594, 3), (41, .putfield 801, 3), (44, .aload_n 0, 1), (45, .getfield 333, 3), (48, .ifCond .ne 28, 3)]), (51, [(51, .iload_n 1, 1), (52, .sipush 128, 3), (55, .if_icmp .le 10, 3)]), (58, [(58, .iload_n 1, 1), (59, .sipush 192, 3), (62, .if_icmp .ne 14, 3)]), (65, [(65, .aload_n 0, 1), (66, .dup, 1), (67, .getfield 336, 3), (70, .iconst 1, 1), (71, .iadd, 1), (72, .putfield 336, 3), (75, .return_, 1)]), (76, [(76, .aload_n 0, 1), (77, .getfield 176, 3), (80, .aload_n 0, 1), (81, .getfield 333, 3), (84, .iload_n 1, 1), (85, .iastore, 1), (86, .aload_n 0, 1), (87, .dup, 1), (88, .getfield 333, 3), (91, .iconst 1, 1), (92, .iadd, 1), (93, .putfield 333, 3), (96, .aload_n 0, 1), (97, .getfield 176, 3), (100, .iconst 0, 1), (101, .iaload, 1), (102, .bipush 63, 2), (104, .iand, 1), (105, .istore_n 2, 1), (106, .aload_n 0, 1), (107, .getfield 333, 3), (110, .iload_n 2, 1), (111, .iconst 4, 1), (112, .iadd, 1), (113, .if_icmp .ge 4, 3)]), (116, [(116, .return_, 1)]), (117, [(117, .iconst 0, 1), (118, .istore_n 3, 1), (119, .iconst 0, 1), (120, .istore 4, 2)]), (122, [(122, .iload 4, 2), (124, .iload_n 2, 1), (125, .iconst 3, 1), (126, .iadd, 1), (127, .if_icmp .ge 19, 3)]), (130, [(130, .iload_n 3, 1), (131, .aload_n 0, 1), (132, .getfield 176, 3), (135, .iload 4, 2), (137, .iaload, 1), (138, .iadd, 1), (139, .istore_n 3, 1), (140, .iinc 4 1, 3), (143, .goto (-21), 3)]), (146, [(146, .aload_n 0, 1), (147, .iconst 0, 1), (148, .putfield 333, 3), (151, .iload_n 3, 1), (152, .sipush 255, 3), (155, .iand, 1), (156, .aload_n 0, 1), (157, .getfield 176, 3), (160, .iload_n 2, 1), (161, .iconst 3, 1), (162, .iadd, 1), (163, .iaload, 1), (164, .if_icmp .eq 16, 3)]), (167, [(167, .aload_n 0, 1), (168, .dup, 1), (169, .getfield 336, 3), (172, .iconst 1, 1), (173, .iadd, 1), (174, .putfield 336, 3), (177, .goto 36, 3)]), (180, [(180, .aload_n 0, 1), (181, .getfield 176, 3), (184, .iconst 1, 1), (185, .iaload, 1), (186, .aload_n 0, 1), (187, .getfield 176, 3), (190, .iconst 0, 1), (191, .iaload, 1), (192, .sipush 192, 3), (195, .if_icmp .ge 8, 3)]), (198, [(198, .bipush 17, 2), (200, .goto 5, 3)]), (203, [(203, .bipush 51, 2)]), (205, [(205, .if_icmp .ne 8, 3)]), (208, [(208, .aload_n 0, 1), (209, .iload_n 2, 1), (210, .invokevirtual 804, 3)]), (213, [(213, .return_, 1)])]
set_option maxRecDepth 100000 in
theorem pq_X12_heard_65  (s : Nat → Int32) (l : Nat → Int64) (x : Nat → Int32) (y : Nat → Int64) : pl_X12_heard_65 s l x y = pj_bl px_X12_heard (pj_rn px_X12_heard (pj_as pk_X12_heard) (fun _ => none) 60) [(65, .aload_n 0, 1), (66, .dup, 1), (67, .getfield 336, 3), (70, .iconst 1, 1), (71, .iadd, 1), (72, .putfield 336, 3), (75, .return_, 1)] 65 [(0, pj_O (124, 0))] [] (s, l, x, y) := rfl
set_option maxRecDepth 100000 in
theorem pq_X12_heard_205 (a2 : Int32) (b0 : Int32) (b1 : Int32) (s : Nat → Int32) (l : Nat → Int64) (x : Nat → Int32) (y : Nat → Int64) : pl_X12_heard_205 a2 b0 b1 s l x y = pj_bl px_X12_heard (pj_rn px_X12_heard (pj_as pk_X12_heard) (fun _ => none) 60) [(205, .if_icmp .ne 8, 3)] 205 [(0, pj_O (124, 0)), (2, pj_I a2)] [pj_I b1, pj_I b0] (s, l, x, y) := rfl
set_option maxRecDepth 100000 in
theorem pq_X12_heard_122 (n : Nat) (a2 : Int32) (a3 : Int32) (a4 : Int32) (s : Nat → Int32) (l : Nat → Int64) (x : Nat → Int32) (y : Nat → Int64) : pl_X12_heard_122 (n + 1) a2 a3 a4 s l x y = pj_bl px_X12_heard (pj_rn px_X12_heard (pj_as pk_X12_heard) (pj_as [(122, pe_X12_heard_122 (pl_X12_heard_122 n)), (205, pe_X12_heard_205 (pl_X12_heard_205))]) 60) [(122, .iload 4, 2), (124, .iload_n 2, 1), (125, .iconst 3, 1), (126, .iadd, 1), (127, .if_icmp .ge 19, 3)] 122 [(0, pj_O (124, 0)), (2, pj_I a2), (3, pj_I a3), (4, pj_I a4)] [] (s, l, x, y) := rfl
set_option maxRecDepth 100000 in
theorem pq_X12_heard_76 (a1 : Int32) (s : Nat → Int32) (l : Nat → Int64) (x : Nat → Int32) (y : Nat → Int64) : pl_X12_heard_76 a1 s l x y = pj_bl px_X12_heard (pj_rn px_X12_heard (pj_as pk_X12_heard) (pj_as [(122, pe_X12_heard_122 (pl_X12_heard_122 (pj_fu 0)))]) 60) [(76, .aload_n 0, 1), (77, .getfield 176, 3), (80, .aload_n 0, 1), (81, .getfield 333, 3), (84, .iload_n 1, 1), (85, .iastore, 1), (86, .aload_n 0, 1), (87, .dup, 1), (88, .getfield 333, 3), (91, .iconst 1, 1), (92, .iadd, 1), (93, .putfield 333, 3), (96, .aload_n 0, 1), (97, .getfield 176, 3), (100, .iconst 0, 1), (101, .iaload, 1), (102, .bipush 63, 2), (104, .iand, 1), (105, .istore_n 2, 1), (106, .aload_n 0, 1), (107, .getfield 333, 3), (110, .iload_n 2, 1), (111, .iconst 4, 1), (112, .iadd, 1), (113, .if_icmp .ge 4, 3)] 76 [(0, pj_O (124, 0)), (1, pj_I a1)] [] (s, l, x, y) := rfl
set_option maxRecDepth 100000 in
theorem pq_X12_heard_36 (a1 : Int32) (s : Nat → Int32) (l : Nat → Int64) (x : Nat → Int32) (y : Nat → Int64) : pl_X12_heard_36 a1 s l x y = pj_bl px_X12_heard (pj_rn px_X12_heard (pj_as pk_X12_heard) (pj_as [(65, pe_X12_heard_65 (pl_X12_heard_65)), (76, pe_X12_heard_76 (pl_X12_heard_76))]) 60) [(36, .aload_n 0, 1), (37, .aload_n 0, 1), (38, .getfield 594, 3), (41, .putfield 801, 3), (44, .aload_n 0, 1), (45, .getfield 333, 3), (48, .ifCond .ne 28, 3)] 36 [(0, pj_O (124, 0)), (1, pj_I a1)] [] (s, l, x, y) := rfl
set_option maxRecDepth 100000 in
theorem pq_X12_heard_m (a1 : Int32) (s : Nat → Int32) (l : Nat → Int64) (x : Nat → Int32) (y : Nat → Int64) : pf_X12_heard a1 s l x y = pj_bl px_X12_heard (pj_rn px_X12_heard (pj_as pk_X12_heard) (pj_as [(36, pe_X12_heard_36 (pl_X12_heard_36))]) 60) [(0, .aload_n 0, 1), (1, .getfield 519, 3), (4, .ifCond .ne 4, 3)] 0 [(0, pj_O (124, 0)), (1, pj_I a1)] [] (s, l, x, y) := rfl
theorem pu_X12_heard_36 {lf : pj_Z → mj_M} {a : Unit × pj_Z} (f : Int32 → pj_F (Unit × pj_Z)) (hf : ∀ (a1 : Int32) (s : Nat → Int32) (l : Nat → Int64) (x : Nat → Int32) (y : Nat → Int64), f a1 s l x y = some a → pm_Gd 9 12065 ie_X12_heard.1 pm_rU lf 36 [(0, .ref 124), (1, .int a1)] [] (s, l, x, y) a) : pm_Ex 9 12065 ie_X12_heard.1 pm_rU lf a 36 (pe_X12_heard_36 f) := by
  intro lv st z hd h
  obtain ⟨g0, h⟩ := pj_xr_inv h
  obtain ⟨a1, g1, h⟩ := pj_xi_inv h
  obtain ⟨e9, h⟩ := pj_pe_inv h
  rw [e9]
  exact mj_wp_sub (mj_sub_cons g0 (mj_sub_cons g1 (mj_sub_nil hd))) (hf _ _ _ _ _ h)
theorem pu_X12_heard_65 {lf : pj_Z → mj_M} {a : Unit × pj_Z} (f : pj_F (Unit × pj_Z)) (hf : ∀  (s : Nat → Int32) (l : Nat → Int64) (x : Nat → Int32) (y : Nat → Int64), f  s l x y = some a → pm_Gd 9 12065 ie_X12_heard.1 pm_rU lf 65 [(0, .ref 124)] [] (s, l, x, y) a) : pm_Ex 9 12065 ie_X12_heard.1 pm_rU lf a 65 (pe_X12_heard_65 f) := by
  intro lv st z hd h
  obtain ⟨g0, h⟩ := pj_xr_inv h
  obtain ⟨e9, h⟩ := pj_pe_inv h
  rw [e9]
  exact mj_wp_sub (mj_sub_cons g0 (mj_sub_nil hd)) (hf  _ _ _ _ h)
theorem pu_X12_heard_76 {lf : pj_Z → mj_M} {a : Unit × pj_Z} (f : Int32 → pj_F (Unit × pj_Z)) (hf : ∀ (a1 : Int32) (s : Nat → Int32) (l : Nat → Int64) (x : Nat → Int32) (y : Nat → Int64), f a1 s l x y = some a → pm_Gd 9 12065 ie_X12_heard.1 pm_rU lf 76 [(0, .ref 124), (1, .int a1)] [] (s, l, x, y) a) : pm_Ex 9 12065 ie_X12_heard.1 pm_rU lf a 76 (pe_X12_heard_76 f) := by
  intro lv st z hd h
  obtain ⟨g0, h⟩ := pj_xr_inv h
  obtain ⟨a1, g1, h⟩ := pj_xi_inv h
  obtain ⟨e9, h⟩ := pj_pe_inv h
  rw [e9]
  exact mj_wp_sub (mj_sub_cons g0 (mj_sub_cons g1 (mj_sub_nil hd))) (hf _ _ _ _ _ h)
theorem pu_X12_heard_122 {lf : pj_Z → mj_M} {a : Unit × pj_Z} (f : Int32 → Int32 → Int32 → pj_F (Unit × pj_Z)) (hf : ∀ (a2 : Int32) (a3 : Int32) (a4 : Int32) (s : Nat → Int32) (l : Nat → Int64) (x : Nat → Int32) (y : Nat → Int64), f a2 a3 a4 s l x y = some a → pm_Gd 9 12065 ie_X12_heard.1 pm_rU lf 122 [(0, .ref 124), (2, .int a2), (3, .int a3), (4, .int a4)] [] (s, l, x, y) a) : pm_Ex 9 12065 ie_X12_heard.1 pm_rU lf a 122 (pe_X12_heard_122 f) := by
  intro lv st z hd h
  obtain ⟨g0, h⟩ := pj_xr_inv h
  obtain ⟨a2, g2, h⟩ := pj_xi_inv h
  obtain ⟨a3, g3, h⟩ := pj_xi_inv h
  obtain ⟨a4, g4, h⟩ := pj_xi_inv h
  obtain ⟨e9, h⟩ := pj_pe_inv h
  rw [e9]
  exact mj_wp_sub (mj_sub_cons g0 (mj_sub_cons g2 (mj_sub_cons g3 (mj_sub_cons g4 (mj_sub_nil hd))))) (hf _ _ _ _ _ _ _ h)
theorem pu_X12_heard_205 {lf : pj_Z → mj_M} {a : Unit × pj_Z} (f : Int32 → Int32 → Int32 → pj_F (Unit × pj_Z)) (hf : ∀ (a2 : Int32) (b0 : Int32) (b1 : Int32) (s : Nat → Int32) (l : Nat → Int64) (x : Nat → Int32) (y : Nat → Int64), f a2 b0 b1 s l x y = some a → pm_Gd 9 12065 ie_X12_heard.1 pm_rU lf 205 [(0, .ref 124), (2, .int a2)] [.int b1, .int b0] (s, l, x, y) a) : pm_Ex 9 12065 ie_X12_heard.1 pm_rU lf a 205 (pe_X12_heard_205 f) := by
  intro lv st z hd h
  obtain ⟨g0, h⟩ := pj_xr_inv h
  obtain ⟨a2, g2, h⟩ := pj_xi_inv h
  obtain ⟨b1, r1, e1, h⟩ := pj_pi_inv h
  obtain ⟨b0, r0, e0, h⟩ := pj_pi_inv h
  obtain ⟨e9, h⟩ := pj_pe_inv h
  rw [e1, e0, e9]
  exact mj_wp_sub (mj_sub_cons g0 (mj_sub_cons g2 (mj_sub_nil hd))) (hf _ _ _ _ _ _ _ h)
set_option maxRecDepth 100000 in
theorem pz_X12_heard {lf : pj_Z → mj_M} (hT : pj_Lt pj_TR lf) : pj_Cok ic_P (mj_R ic_P 9) 12065 ie_X12_heard.1 (pm_OK lf pm_rU) lf px_X12_heard := by
  exact pm_cok (c := px_X12_heard) hT (pm_in_ok (L := [(176, 12, 123, 2, true), (333, 12, 124, 0, false), (336, 12, 126, 0, false), (519, 12, 23, 0, false), (594, 12, 22, 1, false), (801, 12, 125, 1, false)]) (f := mj_pF ic_P 12065) (by decide +kernel)) (fun _ _ h => by cases h) (pm_inL_ok (L := [(580, 20000)]) (f := mj_pL ic_P 12065) (by decide +kernel)) (fun _ _ h => by cases h) rfl rfl ⟨by decide, rfl⟩ pm_mU (pj_as_all (p := pm_Cl 9 12065 ie_X12_heard.1 lf (pm_OK lf pm_rU)) (List.forall_mem_cons.mpr ⟨fun _ _ lv st z K a hK h => pc_X12_handle hT (by decide) (ix := 804) rfl rfl hK h, (fun _ h => by cases h)⟩)) (fun _ h => by cases h)
set_option maxRecDepth 100000 in
theorem pb_X12_heard : pm_bks ie_X12_heard.1.2.2.2.2 pk_X12_heard = true := by decide +kernel
set_option maxRecDepth 100000 in
theorem pg_X12_heard_65 {lf : pj_Z → mj_M} (hT : pj_Lt pj_TR lf) : ∀  (s : Nat → Int32) (l : Nat → Int64) (x : Nat → Int32) (y : Nat → Int64) (a : Unit × pj_Z), pl_X12_heard_65 s l x y = some a → pm_Gd 9 12065 ie_X12_heard.1 pm_rU lf 65 [(0, .ref 124)] [] (s, l, x, y) a := by
  intro  s l x y a h
  exact pj_bl_ok (pz_X12_heard hT) (fun t lv st z hd h => pj_rn_ok (pz_X12_heard hT) (pm_bks_ok pb_X12_heard) (fun _ _ h => by cases h) 60 t lv st z hd h) [(65, .aload_n 0, 1), (66, .dup, 1), (67, .getfield 336, 3), (70, .iconst 1, 1), (71, .iadd, 1), (72, .putfield 336, 3), (75, .return_, 1)] 65 [(0, pj_O (124, 0))] [] (s, l, x, y) (pm_bks_ok pb_X12_heard _ _ rfl) (pm_ndb_ok rfl) ((pq_X12_heard_65   s l x y).symm.trans h)
set_option maxRecDepth 100000 in
theorem pg_X12_heard_205 {lf : pj_Z → mj_M} (hT : pj_Lt pj_TR lf) : ∀ (a2 : Int32) (b0 : Int32) (b1 : Int32) (s : Nat → Int32) (l : Nat → Int64) (x : Nat → Int32) (y : Nat → Int64) (a : Unit × pj_Z), pl_X12_heard_205 a2 b0 b1 s l x y = some a → pm_Gd 9 12065 ie_X12_heard.1 pm_rU lf 205 [(0, .ref 124), (2, .int a2)] [.int b1, .int b0] (s, l, x, y) a := by
  intro a2 b0 b1 s l x y a h
  exact pj_bl_ok (pz_X12_heard hT) (fun t lv st z hd h => pj_rn_ok (pz_X12_heard hT) (pm_bks_ok pb_X12_heard) (fun _ _ h => by cases h) 60 t lv st z hd h) [(205, .if_icmp .ne 8, 3)] 205 [(0, pj_O (124, 0)), (2, pj_I a2)] [pj_I b1, pj_I b0] (s, l, x, y) (pm_bks_ok pb_X12_heard _ _ rfl) (pm_ndb_ok rfl) ((pq_X12_heard_205  a2 b0 b1 s l x y).symm.trans h)
set_option maxRecDepth 100000 in
theorem pg_X12_heard_122 {lf : pj_Z → mj_M} (hT : pj_Lt pj_TR lf) : ∀ (n : Nat), ∀ (a2 : Int32) (a3 : Int32) (a4 : Int32) (s : Nat → Int32) (l : Nat → Int64) (x : Nat → Int32) (y : Nat → Int64) (a : Unit × pj_Z), pl_X12_heard_122 n a2 a3 a4 s l x y = some a → pm_Gd 9 12065 ie_X12_heard.1 pm_rU lf 122 [(0, .ref 124), (2, .int a2), (3, .int a3), (4, .int a4)] [] (s, l, x, y) a := by
  intro n
  induction n with
  | zero => intro a2 a3 a4 s l x y a h; cases (show (none : Option (Unit × pj_Z)) = some a from h)
  | succ n ih =>
    intro a2 a3 a4 s l x y a h
    exact pj_bl_ok (pz_X12_heard hT) (fun t lv st z hd h => pj_rn_ok (pz_X12_heard hT) (pm_bks_ok pb_X12_heard) (pj_as_all (p := pm_Ex 9 12065 ie_X12_heard.1 pm_rU lf a) (List.forall_mem_cons.mpr ⟨pu_X12_heard_122 _ (fun c0 c1 c2 s l x y h => ih c0 c1 c2 s l x y _ h), (List.forall_mem_cons.mpr ⟨pu_X12_heard_205 _ (fun c0 c1 c2 s l x y h => pg_X12_heard_205 hT c0 c1 c2 s l x y _ h), (fun _ h => by cases h)⟩)⟩)) 60 t lv st z hd h) [(122, .iload 4, 2), (124, .iload_n 2, 1), (125, .iconst 3, 1), (126, .iadd, 1), (127, .if_icmp .ge 19, 3)] 122 [(0, pj_O (124, 0)), (2, pj_I a2), (3, pj_I a3), (4, pj_I a4)] [] (s, l, x, y) (pm_bks_ok pb_X12_heard _ _ rfl) (pm_ndb_ok rfl) ((pq_X12_heard_122 n a2 a3 a4 s l x y).symm.trans h)
set_option maxRecDepth 100000 in
theorem pg_X12_heard_76 {lf : pj_Z → mj_M} (hT : pj_Lt pj_TR lf) : ∀ (a1 : Int32) (s : Nat → Int32) (l : Nat → Int64) (x : Nat → Int32) (y : Nat → Int64) (a : Unit × pj_Z), pl_X12_heard_76 a1 s l x y = some a → pm_Gd 9 12065 ie_X12_heard.1 pm_rU lf 76 [(0, .ref 124), (1, .int a1)] [] (s, l, x, y) a := by
  intro a1 s l x y a h
  exact pj_bl_ok (pz_X12_heard hT) (fun t lv st z hd h => pj_rn_ok (pz_X12_heard hT) (pm_bks_ok pb_X12_heard) (pj_as_all (p := pm_Ex 9 12065 ie_X12_heard.1 pm_rU lf a) (List.forall_mem_cons.mpr ⟨pu_X12_heard_122 _ (fun c0 c1 c2 s l x y h => pg_X12_heard_122 hT (pj_fu 0) c0 c1 c2 s l x y _ h), (fun _ h => by cases h)⟩)) 60 t lv st z hd h) [(76, .aload_n 0, 1), (77, .getfield 176, 3), (80, .aload_n 0, 1), (81, .getfield 333, 3), (84, .iload_n 1, 1), (85, .iastore, 1), (86, .aload_n 0, 1), (87, .dup, 1), (88, .getfield 333, 3), (91, .iconst 1, 1), (92, .iadd, 1), (93, .putfield 333, 3), (96, .aload_n 0, 1), (97, .getfield 176, 3), (100, .iconst 0, 1), (101, .iaload, 1), (102, .bipush 63, 2), (104, .iand, 1), (105, .istore_n 2, 1), (106, .aload_n 0, 1), (107, .getfield 333, 3), (110, .iload_n 2, 1), (111, .iconst 4, 1), (112, .iadd, 1), (113, .if_icmp .ge 4, 3)] 76 [(0, pj_O (124, 0)), (1, pj_I a1)] [] (s, l, x, y) (pm_bks_ok pb_X12_heard _ _ rfl) (pm_ndb_ok rfl) ((pq_X12_heard_76  a1 s l x y).symm.trans h)
set_option maxRecDepth 100000 in
theorem pg_X12_heard_36 {lf : pj_Z → mj_M} (hT : pj_Lt pj_TR lf) : ∀ (a1 : Int32) (s : Nat → Int32) (l : Nat → Int64) (x : Nat → Int32) (y : Nat → Int64) (a : Unit × pj_Z), pl_X12_heard_36 a1 s l x y = some a → pm_Gd 9 12065 ie_X12_heard.1 pm_rU lf 36 [(0, .ref 124), (1, .int a1)] [] (s, l, x, y) a := by
  intro a1 s l x y a h
  exact pj_bl_ok (pz_X12_heard hT) (fun t lv st z hd h => pj_rn_ok (pz_X12_heard hT) (pm_bks_ok pb_X12_heard) (pj_as_all (p := pm_Ex 9 12065 ie_X12_heard.1 pm_rU lf a) (List.forall_mem_cons.mpr ⟨pu_X12_heard_65 _ (fun  s l x y h => pg_X12_heard_65 hT  s l x y _ h), (List.forall_mem_cons.mpr ⟨pu_X12_heard_76 _ (fun c0 s l x y h => pg_X12_heard_76 hT c0 s l x y _ h), (fun _ h => by cases h)⟩)⟩)) 60 t lv st z hd h) [(36, .aload_n 0, 1), (37, .aload_n 0, 1), (38, .getfield 594, 3), (41, .putfield 801, 3), (44, .aload_n 0, 1), (45, .getfield 333, 3), (48, .ifCond .ne 28, 3)] 36 [(0, pj_O (124, 0)), (1, pj_I a1)] [] (s, l, x, y) (pm_bks_ok pb_X12_heard _ _ rfl) (pm_ndb_ok rfl) ((pq_X12_heard_36  a1 s l x y).symm.trans h)
set_option maxRecDepth 100000 in
theorem pm_X12_heard {lf : pj_Z → mj_M} (hT : pj_Lt pj_TR lf) (a1 : Int32) (s : Nat → Int32) (l : Nat → Int64) (x : Nat → Int32) (y : Nat → Int64) (a : Unit × pj_Z) (h : pf_X12_heard a1 s l x y = some a) : mj_R ic_P 10 12065 [.ref 124, .int a1] (lf (s, l, x, y)) (pm_rU a.1) (lf a.2) := by
  refine pm_main (Y := ie_X12_heard.1) rfl (Nat.le_of_ble_eq_true rfl) ?_
  exact pj_bl_ok (pz_X12_heard hT) (fun t lv st z hd h => pj_rn_ok (pz_X12_heard hT) (pm_bks_ok pb_X12_heard) (pj_as_all (p := pm_Ex 9 12065 ie_X12_heard.1 pm_rU lf a) (List.forall_mem_cons.mpr ⟨pu_X12_heard_36 _ (fun c0 s l x y h => pg_X12_heard_36 hT c0 s l x y _ h), (fun _ h => by cases h)⟩)) 60 t lv st z hd h) [(0, .aload_n 0, 1), (1, .getfield 519, 3), (4, .ifCond .ne 4, 3)] 0 [(0, pj_O (124, 0)), (1, pj_I a1)] [] (s, l, x, y) (pm_bks_ok pb_X12_heard _ _ rfl) (pm_ndb_ok rfl) ((pq_X12_heard_m a1 s l x y).symm.trans h)
abbrev ph_X12_heard {A : Type} : List pj_V → pj_Z → (List pj_V → pj_Z → Option A) → Option A := fun st z K => pj_pi st fun a1 st => pj_pr st 124 0 fun st => pj_ps st (pj_b (pf_X12_heard a1 z.1 z.2.1 z.2.2.1 z.2.2.2) fun r s l x y => K st (s, l, x, y))
set_option maxRecDepth 100000 in
theorem pc_X12_heard {A : Type} {OK : A → Option Value → mj_M → Prop} {d j pc ix : Nat} {Y : mj_Y} {lf : pj_Z → mj_M} (hT : pj_Lt pj_TR lf) (hd : 10 ≤ d) (hl : mj_lk Y.2.2.2.2 pc = some (.invokevirtual ix, 3)) (hg : mj_pG ic_P j ix = some (12065, 1, some 12)) {lv : List (Nat × Value)} {st : List pj_V} {z : pj_Z} {K : List pj_V → pj_Z → Option A} {a : A} (hK : ∀ st z, K st z = some a → pj_Gd ic_P (mj_R ic_P d) j Y OK lf (pc + 3) lv (pj_es st) z a) (h : ph_X12_heard st z K = some a) : pj_Gd ic_P (mj_R ic_P d) j Y OK lf pc lv (pj_es st) z a := by
  obtain ⟨a1, r1, e1, h⟩ := pj_pi_inv h
  obtain ⟨r0, e0, h⟩ := pj_pr_inv h
  obtain ⟨hs, h⟩ := pj_ps_inv h
  obtain ⟨q, hq, h⟩ := pj_b_inv h
  exact pm_cv (o := 124) hl hg [.int a1] rfl (by rw [e1, e0]; rfl) hs (by decide) ((hT.2 124 _ rfl).1.2 z 0 (by decide)) (pm_rU q.1) hd (pm_X12_heard hT a1 z.1 z.2.1 z.2.2.1 z.2.2.2 q hq) rfl (hK _ _ h)
abbrev pe_X12_step_39 (f : pj_F (Unit × pj_Z)) : pj_K (Unit × pj_Z) := fun lv st z => pj_xr lv 0 124 0 <| pj_pe st (f  z.1 z.2.1 z.2.2.1 z.2.2.2)
abbrev px_X12_step : pj_C (Unit × pj_Z) := (pj_TR, (pj_as [(594, 12, 22, 1, false), (897, 12, 24, 0, false)]), (fun _ => none), (fun _ => none), (fun _ => none), ic_X, 3, 0, pj_mU, (pj_as [(7, ph_X12_passTo), (36, ph_X12_crank), (49, ph_X12_camEdge)]), fun _ => false)
abbrev pk_X12_step : List (Nat × List (Nat × Instr × Nat)) := [(0, [(0, .aload_n 0, 1), (1, .aload_n 0, 1), (2, .getfield 594, 3), (5, .lload_n 1, 1), (6, .ladd, 1), (7, .invokevirtual 894, 3), (10, .aload_n 0, 1), (11, .aload_n 0, 1), (12, .getfield 897, 3), (15, .iconst 1, 1), (16, .iadd, 1), (17, .bipush 120, 2), (19, .irem, 1), (20, .putfield 897, 3), (23, .aload_n 0, 1), (24, .getfield 897, 3), (27, .bipush 60, 2), (29, .irem, 1), (30, .bipush 57, 2), (32, .if_icmp .gt 7, 3)]), (35, [(35, .aload_n 0, 1), (36, .invokevirtual 900, 3)]), (39, [(39, .aload_n 0, 1), (40, .getfield 897, 3), (43, .bipush 15, 2), (45, .if_icmp .ne 7, 3)]), (48, [(48, .aload_n 0, 1), (49, .invokevirtual 903, 3)]), (52, [(52, .return_, 1)])]
set_option maxRecDepth 100000 in
theorem pq_X12_step_39  (s : Nat → Int32) (l : Nat → Int64) (x : Nat → Int32) (y : Nat → Int64) : pl_X12_step_39 s l x y = pj_bl px_X12_step (pj_rn px_X12_step (pj_as pk_X12_step) (fun _ => none) 60) [(39, .aload_n 0, 1), (40, .getfield 897, 3), (43, .bipush 15, 2), (45, .if_icmp .ne 7, 3)] 39 [(0, pj_O (124, 0))] [] (s, l, x, y) := rfl
set_option maxRecDepth 100000 in
theorem pq_X12_step_m (a1 : Int64) (s : Nat → Int32) (l : Nat → Int64) (x : Nat → Int32) (y : Nat → Int64) : pf_X12_step a1 s l x y = pj_bl px_X12_step (pj_rn px_X12_step (pj_as pk_X12_step) (pj_as [(39, pe_X12_step_39 (pl_X12_step_39))]) 60) [(0, .aload_n 0, 1), (1, .aload_n 0, 1), (2, .getfield 594, 3), (5, .lload_n 1, 1), (6, .ladd, 1), (7, .invokevirtual 894, 3), (10, .aload_n 0, 1), (11, .aload_n 0, 1), (12, .getfield 897, 3), (15, .iconst 1, 1), (16, .iadd, 1), (17, .bipush 120, 2), (19, .irem, 1), (20, .putfield 897, 3), (23, .aload_n 0, 1), (24, .getfield 897, 3), (27, .bipush 60, 2), (29, .irem, 1), (30, .bipush 57, 2), (32, .if_icmp .gt 7, 3)] 0 [(0, pj_O (124, 0)), (1, pj_L a1)] [] (s, l, x, y) := rfl
theorem pu_X12_step_39 {lf : pj_Z → mj_M} {a : Unit × pj_Z} (f : pj_F (Unit × pj_Z)) (hf : ∀  (s : Nat → Int32) (l : Nat → Int64) (x : Nat → Int32) (y : Nat → Int64), f  s l x y = some a → pm_Gd 9 12083 ie_X12_step.1 pm_rU lf 39 [(0, .ref 124)] [] (s, l, x, y) a) : pm_Ex 9 12083 ie_X12_step.1 pm_rU lf a 39 (pe_X12_step_39 f) := by
  intro lv st z hd h
  obtain ⟨g0, h⟩ := pj_xr_inv h
  obtain ⟨e9, h⟩ := pj_pe_inv h
  rw [e9]
  exact mj_wp_sub (mj_sub_cons g0 (mj_sub_nil hd)) (hf  _ _ _ _ h)
set_option maxRecDepth 100000 in
theorem pz_X12_step {lf : pj_Z → mj_M} (hT : pj_Lt pj_TR lf) : pj_Cok ic_P (mj_R ic_P 9) 12083 ie_X12_step.1 (pm_OK lf pm_rU) lf px_X12_step := by
  exact pm_cok (c := px_X12_step) hT (pm_in_ok (L := [(594, 12, 22, 1, false), (897, 12, 24, 0, false)]) (f := mj_pF ic_P 12083) (by decide +kernel)) (fun _ _ h => by cases h) (fun _ _ h => by cases h) (fun _ _ h => by cases h) rfl rfl ⟨by decide, rfl⟩ pm_mU (pj_as_all (p := pm_Cl 9 12083 ie_X12_step.1 lf (pm_OK lf pm_rU)) (List.forall_mem_cons.mpr ⟨fun _ _ lv st z K a hK h => pc_X12_passTo hT (by decide) (ix := 894) rfl rfl hK h, (List.forall_mem_cons.mpr ⟨fun _ _ lv st z K a hK h => pc_X12_crank hT (by decide) (ix := 900) rfl rfl hK h, (List.forall_mem_cons.mpr ⟨fun _ _ lv st z K a hK h => pc_X12_camEdge hT (by decide) (ix := 903) rfl rfl hK h, (fun _ h => by cases h)⟩)⟩)⟩)) (fun _ h => by cases h)
set_option maxRecDepth 100000 in
theorem pb_X12_step : pm_bks ie_X12_step.1.2.2.2.2 pk_X12_step = true := by decide +kernel
set_option maxRecDepth 100000 in
theorem pg_X12_step_39 {lf : pj_Z → mj_M} (hT : pj_Lt pj_TR lf) : ∀  (s : Nat → Int32) (l : Nat → Int64) (x : Nat → Int32) (y : Nat → Int64) (a : Unit × pj_Z), pl_X12_step_39 s l x y = some a → pm_Gd 9 12083 ie_X12_step.1 pm_rU lf 39 [(0, .ref 124)] [] (s, l, x, y) a := by
  intro  s l x y a h
  exact pj_bl_ok (pz_X12_step hT) (fun t lv st z hd h => pj_rn_ok (pz_X12_step hT) (pm_bks_ok pb_X12_step) (fun _ _ h => by cases h) 60 t lv st z hd h) [(39, .aload_n 0, 1), (40, .getfield 897, 3), (43, .bipush 15, 2), (45, .if_icmp .ne 7, 3)] 39 [(0, pj_O (124, 0))] [] (s, l, x, y) (pm_bks_ok pb_X12_step _ _ rfl) (pm_ndb_ok rfl) ((pq_X12_step_39   s l x y).symm.trans h)
set_option maxRecDepth 100000 in
theorem pm_X12_step {lf : pj_Z → mj_M} (hT : pj_Lt pj_TR lf) (a1 : Int64) (s : Nat → Int32) (l : Nat → Int64) (x : Nat → Int32) (y : Nat → Int64) (a : Unit × pj_Z) (h : pf_X12_step a1 s l x y = some a) : mj_R ic_P 10 12083 [.ref 124, .long a1] (lf (s, l, x, y)) (pm_rU a.1) (lf a.2) := by
  refine pm_main (Y := ie_X12_step.1) rfl (Nat.le_of_ble_eq_true rfl) ?_
  exact pj_bl_ok (pz_X12_step hT) (fun t lv st z hd h => pj_rn_ok (pz_X12_step hT) (pm_bks_ok pb_X12_step) (pj_as_all (p := pm_Ex 9 12083 ie_X12_step.1 pm_rU lf a) (List.forall_mem_cons.mpr ⟨pu_X12_step_39 _ (fun  s l x y h => pg_X12_step_39 hT  s l x y _ h), (fun _ h => by cases h)⟩)) 60 t lv st z hd h) [(0, .aload_n 0, 1), (1, .aload_n 0, 1), (2, .getfield 594, 3), (5, .lload_n 1, 1), (6, .ladd, 1), (7, .invokevirtual 894, 3), (10, .aload_n 0, 1), (11, .aload_n 0, 1), (12, .getfield 897, 3), (15, .iconst 1, 1), (16, .iadd, 1), (17, .bipush 120, 2), (19, .irem, 1), (20, .putfield 897, 3), (23, .aload_n 0, 1), (24, .getfield 897, 3), (27, .bipush 60, 2), (29, .irem, 1), (30, .bipush 57, 2), (32, .if_icmp .gt 7, 3)] 0 [(0, pj_O (124, 0)), (1, pj_L a1)] [] (s, l, x, y) (pm_bks_ok pb_X12_step _ _ rfl) (pm_ndb_ok rfl) ((pq_X12_step_m a1 s l x y).symm.trans h)
abbrev ph_X12_step {A : Type} : List pj_V → pj_Z → (List pj_V → pj_Z → Option A) → Option A := fun st z K => pj_pl st fun a1 st => pj_pr st 124 0 fun st => pj_ps st (pj_b (pf_X12_step a1 z.1 z.2.1 z.2.2.1 z.2.2.2) fun r s l x y => K st (s, l, x, y))
set_option maxRecDepth 100000 in
theorem pc_X12_step {A : Type} {OK : A → Option Value → mj_M → Prop} {d j pc ix : Nat} {Y : mj_Y} {lf : pj_Z → mj_M} (hT : pj_Lt pj_TR lf) (hd : 10 ≤ d) (hl : mj_lk Y.2.2.2.2 pc = some (.invokevirtual ix, 3)) (hg : mj_pG ic_P j ix = some (12083, 1, some 12)) {lv : List (Nat × Value)} {st : List pj_V} {z : pj_Z} {K : List pj_V → pj_Z → Option A} {a : A} (hK : ∀ st z, K st z = some a → pj_Gd ic_P (mj_R ic_P d) j Y OK lf (pc + 3) lv (pj_es st) z a) (h : ph_X12_step st z K = some a) : pj_Gd ic_P (mj_R ic_P d) j Y OK lf pc lv (pj_es st) z a := by
  obtain ⟨a1, r1, e1, h⟩ := pj_pl_inv h
  obtain ⟨r0, e0, h⟩ := pj_pr_inv h
  obtain ⟨hs, h⟩ := pj_ps_inv h
  obtain ⟨q, hq, h⟩ := pj_b_inv h
  exact pm_cv (o := 124) hl hg [.long a1] rfl (by rw [e1, e0]; rfl) hs (by decide) ((hT.2 124 _ rfl).1.2 z 0 (by decide)) (pm_rU q.1) hd (pm_X12_step hT a1 z.1 z.2.1 z.2.2.1 z.2.2.2 q hq) rfl (hK _ _ h)
abbrev pe_X12_burn_2 (f : Int32 → pj_F (Unit × pj_Z)) : pj_K (Unit × pj_Z) := fun lv st z => pj_xr lv 0 124 0 <| pj_xi lv 1 fun a1 => pj_pe st (f a1 z.1 z.2.1 z.2.2.1 z.2.2.2)
abbrev pe_X12_burn_74 (f : Int32 → Int32 → Int32 → pj_F (Unit × pj_Z)) : pj_K (Unit × pj_Z) := fun lv st z => pj_xr lv 0 124 0 <| pj_xi lv 1 fun a1 => pj_pi st fun b2 st => pj_pi st fun b1 st => pj_pr st 124 0 fun st => pj_pe st (f a1 b1 b2 z.1 z.2.1 z.2.2.1 z.2.2.2)
abbrev pe_X12_burn_90 (f : Int32 → pj_F (Unit × pj_Z)) : pj_K (Unit × pj_Z) := fun lv st z => pj_xr lv 0 124 0 <| pj_xi lv 1 fun a1 => pj_pe st (f a1 z.1 z.2.1 z.2.2.1 z.2.2.2)
abbrev pe_X12_burn_104 (f : Int32 → pj_F (Unit × pj_Z)) : pj_K (Unit × pj_Z) := fun lv st z => pj_xr lv 0 124 0 <| pj_xi lv 1 fun a1 => pj_pe st (f a1 z.1 z.2.1 z.2.2.1 z.2.2.2)
abbrev px_X12_burn : pj_C (Unit × pj_Z) := (pj_TR, (pj_as [(19, 12, 3, 2, true), (75, 12, 31, 2, true), (79, 12, 32, 2, true), (82, 12, 33, 2, true), (709, 12, 25, 0, false), (897, 12, 24, 0, false), (908, 12, 28, 0, false)]), (fun _ => none), (pj_as [(906, 9000)]), (fun _ => none), ic_X, 2, 0, pj_mU, (pj_as [(18, ph_X12_topOf), (83, ph_X12_cutTo), (145, ph_X12_cutTo)]), fun _ => false)
abbrev pk_X12_burn : List (Nat × List (Nat × Instr × Nat)) := [(0, [(0, .iconst 0, 1), (1, .istore_n 1, 1)]), (2, [(2, .iload_n 1, 1), (3, .aload_n 0, 1), (4, .getfield 19, 3), (7, .iconst 0, 1), (8, .iaload, 1), (9, .if_icmp .ge 101, 3)]), (12, [(12, .aload_n 0, 1), (13, .getfield 897, 3), (16, .aload_n 0, 1), (17, .iload_n 1, 1), (18, .invokevirtual 652, 3), (21, .bipush 60, 2), (23, .idiv, 1), (24, .if_icmp .ne 80, 3)]), (27, [(27, .aload_n 0, 1), (28, .getfield 75, 3), (31, .iload_n 1, 1), (32, .baload, 1), (33, .ifCond .eq 57, 3)]), (36, [(36, .aload_n 0, 1), (37, .getfield 82, 3), (40, .iload_n 1, 1), (41, .baload, 1), (42, .ifCond .eq 48, 3)]), (45, [(45, .aload_n 0, 1), (46, .aload_n 0, 1), (47, .getfield 709, 3), (50, .aload_n 0, 1), (51, .getfield 79, 3), (54, .iload_n 1, 1), (55, .iaload, 1), (56, .sipush 12000, 3), (59, .if_icmp .ge 12, 3)]), (62, [(62, .aload_n 0, 1), (63, .getfield 79, 3), (66, .iload_n 1, 1), (67, .iaload, 1), (68, .goto 6, 3)]), (71, [(71, .sipush 12000, 3)]), (74, [(74, .bipush 64, 2), (76, .idiv, 1), (77, .iadd, 1), (78, .i2l, 1), (79, .lconst 0, 1), (80, .ldc2_w 906, 3), (83, .invokestatic 576, 3), (86, .l2i, 1), (87, .putfield 709, 3)]), (90, [(90, .aload_n 0, 1), (91, .getfield 75, 3), (94, .iload_n 1, 1), (95, .iconst 0, 1), (96, .bastore, 1), (97, .aload_n 0, 1), (98, .getfield 82, 3), (101, .iload_n 1, 1), (102, .iconst 0, 1), (103, .bastore, 1)]), (104, [(104, .iinc 1 1, 3), (107, .goto (-105), 3)]), (110, [(110, .aload_n 0, 1), (111, .getfield 897, 3), (114, .bipush 10, 2), (116, .irem, 1), (117, .ifCond .ne 35, 3)]), (120, [(120, .aload_n 0, 1), (121, .aload_n 0, 1), (122, .getfield 709, 3), (125, .aload_n 0, 1), (126, .getfield 709, 3), (129, .bipush 64, 2), (131, .idiv, 1), (132, .aload_n 0, 1), (133, .getfield 908, 3), (136, .iconst 4, 1), (137, .idiv, 1), (138, .iadd, 1), (139, .isub, 1), (140, .i2l, 1), (141, .lconst 0, 1), (142, .ldc2_w 906, 3), (145, .invokestatic 576, 3), (148, .l2i, 1), (149, .putfield 709, 3)]), (152, [(152, .return_, 1)])]
set_option maxRecDepth 100000 in
theorem pq_X12_burn_104 (k2 : Int32 → pj_F (Unit × pj_Z)) (a1 : Int32) (s : Nat → Int32) (l : Nat → Int64) (x : Nat → Int32) (y : Nat → Int64) : pl_X12_burn_104 k2 a1 s l x y = pj_bl px_X12_burn (pj_rn px_X12_burn (pj_as pk_X12_burn) (pj_as [(2, pe_X12_burn_2 k2)]) 60) [(104, .iinc 1 1, 3), (107, .goto (-105), 3)] 104 [(0, pj_O (124, 0)), (1, pj_I a1)] [] (s, l, x, y) := rfl
set_option maxRecDepth 100000 in
theorem pq_X12_burn_90 (k2 : Int32 → pj_F (Unit × pj_Z)) (a1 : Int32) (s : Nat → Int32) (l : Nat → Int64) (x : Nat → Int32) (y : Nat → Int64) : pl_X12_burn_90 k2 a1 s l x y = pj_bl px_X12_burn (pj_rn px_X12_burn (pj_as pk_X12_burn) (pj_as [(2, pe_X12_burn_2 k2), (104, pe_X12_burn_104 (pl_X12_burn_104 k2))]) 60) [(90, .aload_n 0, 1), (91, .getfield 75, 3), (94, .iload_n 1, 1), (95, .iconst 0, 1), (96, .bastore, 1), (97, .aload_n 0, 1), (98, .getfield 82, 3), (101, .iload_n 1, 1), (102, .iconst 0, 1), (103, .bastore, 1)] 90 [(0, pj_O (124, 0)), (1, pj_I a1)] [] (s, l, x, y) := rfl
set_option maxRecDepth 100000 in
theorem pq_X12_burn_74 (k2 : Int32 → pj_F (Unit × pj_Z)) (a1 : Int32) (b1 : Int32) (b2 : Int32) (s : Nat → Int32) (l : Nat → Int64) (x : Nat → Int32) (y : Nat → Int64) : pl_X12_burn_74 k2 a1 b1 b2 s l x y = pj_bl px_X12_burn (pj_rn px_X12_burn (pj_as pk_X12_burn) (pj_as [(2, pe_X12_burn_2 k2), (90, pe_X12_burn_90 (pl_X12_burn_90 k2))]) 60) [(74, .bipush 64, 2), (76, .idiv, 1), (77, .iadd, 1), (78, .i2l, 1), (79, .lconst 0, 1), (80, .ldc2_w 906, 3), (83, .invokestatic 576, 3), (86, .l2i, 1), (87, .putfield 709, 3)] 74 [(0, pj_O (124, 0)), (1, pj_I a1)] [pj_I b2, pj_I b1, pj_O (124, 0)] (s, l, x, y) := rfl
set_option maxRecDepth 100000 in
theorem pq_X12_burn_2 (n : Nat) (a1 : Int32) (s : Nat → Int32) (l : Nat → Int64) (x : Nat → Int32) (y : Nat → Int64) : pl_X12_burn_2 (n + 1) a1 s l x y = pj_bl px_X12_burn (pj_rn px_X12_burn (pj_as pk_X12_burn) (pj_as [(2, pe_X12_burn_2 (pl_X12_burn_2 n)), (74, pe_X12_burn_74 (pl_X12_burn_74 (pl_X12_burn_2 n))), (90, pe_X12_burn_90 (pl_X12_burn_90 (pl_X12_burn_2 n))), (104, pe_X12_burn_104 (pl_X12_burn_104 (pl_X12_burn_2 n)))]) 60) [(2, .iload_n 1, 1), (3, .aload_n 0, 1), (4, .getfield 19, 3), (7, .iconst 0, 1), (8, .iaload, 1), (9, .if_icmp .ge 101, 3)] 2 [(0, pj_O (124, 0)), (1, pj_I a1)] [] (s, l, x, y) := rfl
set_option maxRecDepth 100000 in
theorem pq_X12_burn_m  (s : Nat → Int32) (l : Nat → Int64) (x : Nat → Int32) (y : Nat → Int64) : pf_X12_burn  s l x y = pj_bl px_X12_burn (pj_rn px_X12_burn (pj_as pk_X12_burn) (pj_as [(2, pe_X12_burn_2 (pl_X12_burn_2 (pj_fu 0)))]) 60) [(0, .iconst 0, 1), (1, .istore_n 1, 1)] 0 [(0, pj_O (124, 0))] [] (s, l, x, y) := rfl
theorem pu_X12_burn_2 {lf : pj_Z → mj_M} {a : Unit × pj_Z} (f : Int32 → pj_F (Unit × pj_Z)) (hf : ∀ (a1 : Int32) (s : Nat → Int32) (l : Nat → Int64) (x : Nat → Int32) (y : Nat → Int64), f a1 s l x y = some a → pm_Gd 2 12084 ie_X12_burn.1 pm_rU lf 2 [(0, .ref 124), (1, .int a1)] [] (s, l, x, y) a) : pm_Ex 2 12084 ie_X12_burn.1 pm_rU lf a 2 (pe_X12_burn_2 f) := by
  intro lv st z hd h
  obtain ⟨g0, h⟩ := pj_xr_inv h
  obtain ⟨a1, g1, h⟩ := pj_xi_inv h
  obtain ⟨e9, h⟩ := pj_pe_inv h
  rw [e9]
  exact mj_wp_sub (mj_sub_cons g0 (mj_sub_cons g1 (mj_sub_nil hd))) (hf _ _ _ _ _ h)
theorem pu_X12_burn_74 {lf : pj_Z → mj_M} {a : Unit × pj_Z} (f : Int32 → Int32 → Int32 → pj_F (Unit × pj_Z)) (hf : ∀ (a1 : Int32) (b1 : Int32) (b2 : Int32) (s : Nat → Int32) (l : Nat → Int64) (x : Nat → Int32) (y : Nat → Int64), f a1 b1 b2 s l x y = some a → pm_Gd 2 12084 ie_X12_burn.1 pm_rU lf 74 [(0, .ref 124), (1, .int a1)] [.int b2, .int b1, .ref 124] (s, l, x, y) a) : pm_Ex 2 12084 ie_X12_burn.1 pm_rU lf a 74 (pe_X12_burn_74 f) := by
  intro lv st z hd h
  obtain ⟨g0, h⟩ := pj_xr_inv h
  obtain ⟨a1, g1, h⟩ := pj_xi_inv h
  obtain ⟨b2, r2, e2, h⟩ := pj_pi_inv h
  obtain ⟨b1, r1, e1, h⟩ := pj_pi_inv h
  obtain ⟨r0, e0, h⟩ := pj_pr_inv h
  obtain ⟨e9, h⟩ := pj_pe_inv h
  rw [e2, e1, e0, e9]
  exact mj_wp_sub (mj_sub_cons g0 (mj_sub_cons g1 (mj_sub_nil hd))) (hf _ _ _ _ _ _ _ h)
theorem pu_X12_burn_90 {lf : pj_Z → mj_M} {a : Unit × pj_Z} (f : Int32 → pj_F (Unit × pj_Z)) (hf : ∀ (a1 : Int32) (s : Nat → Int32) (l : Nat → Int64) (x : Nat → Int32) (y : Nat → Int64), f a1 s l x y = some a → pm_Gd 2 12084 ie_X12_burn.1 pm_rU lf 90 [(0, .ref 124), (1, .int a1)] [] (s, l, x, y) a) : pm_Ex 2 12084 ie_X12_burn.1 pm_rU lf a 90 (pe_X12_burn_90 f) := by
  intro lv st z hd h
  obtain ⟨g0, h⟩ := pj_xr_inv h
  obtain ⟨a1, g1, h⟩ := pj_xi_inv h
  obtain ⟨e9, h⟩ := pj_pe_inv h
  rw [e9]
  exact mj_wp_sub (mj_sub_cons g0 (mj_sub_cons g1 (mj_sub_nil hd))) (hf _ _ _ _ _ h)
theorem pu_X12_burn_104 {lf : pj_Z → mj_M} {a : Unit × pj_Z} (f : Int32 → pj_F (Unit × pj_Z)) (hf : ∀ (a1 : Int32) (s : Nat → Int32) (l : Nat → Int64) (x : Nat → Int32) (y : Nat → Int64), f a1 s l x y = some a → pm_Gd 2 12084 ie_X12_burn.1 pm_rU lf 104 [(0, .ref 124), (1, .int a1)] [] (s, l, x, y) a) : pm_Ex 2 12084 ie_X12_burn.1 pm_rU lf a 104 (pe_X12_burn_104 f) := by
  intro lv st z hd h
  obtain ⟨g0, h⟩ := pj_xr_inv h
  obtain ⟨a1, g1, h⟩ := pj_xi_inv h
  obtain ⟨e9, h⟩ := pj_pe_inv h
  rw [e9]
  exact mj_wp_sub (mj_sub_cons g0 (mj_sub_cons g1 (mj_sub_nil hd))) (hf _ _ _ _ _ h)
set_option maxRecDepth 100000 in
theorem pz_X12_burn {lf : pj_Z → mj_M} (hT : pj_Lt pj_TR lf) : pj_Cok ic_P (mj_R ic_P 2) 12084 ie_X12_burn.1 (pm_OK lf pm_rU) lf px_X12_burn := by
  exact pm_cok (c := px_X12_burn) hT (pm_in_ok (L := [(19, 12, 3, 2, true), (75, 12, 31, 2, true), (79, 12, 32, 2, true), (82, 12, 33, 2, true), (709, 12, 25, 0, false), (897, 12, 24, 0, false), (908, 12, 28, 0, false)]) (f := mj_pF ic_P 12084) (by decide +kernel)) (fun _ _ h => by cases h) (pm_inL_ok (L := [(906, 9000)]) (f := mj_pL ic_P 12084) (by decide +kernel)) (fun _ _ h => by cases h) rfl rfl ⟨by decide, rfl⟩ pm_mU (pj_as_all (p := pm_Cl 2 12084 ie_X12_burn.1 lf (pm_OK lf pm_rU)) (List.forall_mem_cons.mpr ⟨fun _ _ lv st z K a hK h => pc_X12_topOf hT (by decide) (ix := 652) rfl rfl hK h, (List.forall_mem_cons.mpr ⟨fun _ _ lv st z K a hK h => pc_X12_cutTo hT (by decide) (ix := 576) rfl rfl hK h, (List.forall_mem_cons.mpr ⟨fun _ _ lv st z K a hK h => pc_X12_cutTo hT (by decide) (ix := 576) rfl rfl hK h, (fun _ h => by cases h)⟩)⟩)⟩)) (fun _ h => by cases h)
set_option maxRecDepth 100000 in
theorem pb_X12_burn : pm_bks ie_X12_burn.1.2.2.2.2 pk_X12_burn = true := by decide +kernel
set_option maxRecDepth 100000 in
theorem pg_X12_burn_104 {lf : pj_Z → mj_M} (hT : pj_Lt pj_TR lf) {k2 : Int32 → pj_F (Unit × pj_Z)} (hk2 : ∀ (a1 : Int32) (s : Nat → Int32) (l : Nat → Int64) (x : Nat → Int32) (y : Nat → Int64) (a : Unit × pj_Z), k2 a1 s l x y = some a → pm_Gd 2 12084 ie_X12_burn.1 pm_rU lf 2 [(0, .ref 124), (1, .int a1)] [] (s, l, x, y) a) : ∀ (a1 : Int32) (s : Nat → Int32) (l : Nat → Int64) (x : Nat → Int32) (y : Nat → Int64) (a : Unit × pj_Z), pl_X12_burn_104 k2 a1 s l x y = some a → pm_Gd 2 12084 ie_X12_burn.1 pm_rU lf 104 [(0, .ref 124), (1, .int a1)] [] (s, l, x, y) a := by
  intro a1 s l x y a h
  exact pj_bl_ok (pz_X12_burn hT) (fun t lv st z hd h => pj_rn_ok (pz_X12_burn hT) (pm_bks_ok pb_X12_burn) (pj_as_all (p := pm_Ex 2 12084 ie_X12_burn.1 pm_rU lf a) (List.forall_mem_cons.mpr ⟨pu_X12_burn_2 _ (fun c0 s l x y h => hk2 c0 s l x y _ h), (fun _ h => by cases h)⟩)) 60 t lv st z hd h) [(104, .iinc 1 1, 3), (107, .goto (-105), 3)] 104 [(0, pj_O (124, 0)), (1, pj_I a1)] [] (s, l, x, y) (pm_bks_ok pb_X12_burn _ _ rfl) (pm_ndb_ok rfl) ((pq_X12_burn_104 k2 a1 s l x y).symm.trans h)
set_option maxRecDepth 100000 in
theorem pg_X12_burn_90 {lf : pj_Z → mj_M} (hT : pj_Lt pj_TR lf) {k2 : Int32 → pj_F (Unit × pj_Z)} (hk2 : ∀ (a1 : Int32) (s : Nat → Int32) (l : Nat → Int64) (x : Nat → Int32) (y : Nat → Int64) (a : Unit × pj_Z), k2 a1 s l x y = some a → pm_Gd 2 12084 ie_X12_burn.1 pm_rU lf 2 [(0, .ref 124), (1, .int a1)] [] (s, l, x, y) a) : ∀ (a1 : Int32) (s : Nat → Int32) (l : Nat → Int64) (x : Nat → Int32) (y : Nat → Int64) (a : Unit × pj_Z), pl_X12_burn_90 k2 a1 s l x y = some a → pm_Gd 2 12084 ie_X12_burn.1 pm_rU lf 90 [(0, .ref 124), (1, .int a1)] [] (s, l, x, y) a := by
  intro a1 s l x y a h
  exact pj_bl_ok (pz_X12_burn hT) (fun t lv st z hd h => pj_rn_ok (pz_X12_burn hT) (pm_bks_ok pb_X12_burn) (pj_as_all (p := pm_Ex 2 12084 ie_X12_burn.1 pm_rU lf a) (List.forall_mem_cons.mpr ⟨pu_X12_burn_2 _ (fun c0 s l x y h => hk2 c0 s l x y _ h), (List.forall_mem_cons.mpr ⟨pu_X12_burn_104 _ (fun c0 s l x y h => pg_X12_burn_104 hT hk2 c0 s l x y _ h), (fun _ h => by cases h)⟩)⟩)) 60 t lv st z hd h) [(90, .aload_n 0, 1), (91, .getfield 75, 3), (94, .iload_n 1, 1), (95, .iconst 0, 1), (96, .bastore, 1), (97, .aload_n 0, 1), (98, .getfield 82, 3), (101, .iload_n 1, 1), (102, .iconst 0, 1), (103, .bastore, 1)] 90 [(0, pj_O (124, 0)), (1, pj_I a1)] [] (s, l, x, y) (pm_bks_ok pb_X12_burn _ _ rfl) (pm_ndb_ok rfl) ((pq_X12_burn_90 k2 a1 s l x y).symm.trans h)
set_option maxRecDepth 100000 in
theorem pg_X12_burn_74 {lf : pj_Z → mj_M} (hT : pj_Lt pj_TR lf) {k2 : Int32 → pj_F (Unit × pj_Z)} (hk2 : ∀ (a1 : Int32) (s : Nat → Int32) (l : Nat → Int64) (x : Nat → Int32) (y : Nat → Int64) (a : Unit × pj_Z), k2 a1 s l x y = some a → pm_Gd 2 12084 ie_X12_burn.1 pm_rU lf 2 [(0, .ref 124), (1, .int a1)] [] (s, l, x, y) a) : ∀ (a1 : Int32) (b1 : Int32) (b2 : Int32) (s : Nat → Int32) (l : Nat → Int64) (x : Nat → Int32) (y : Nat → Int64) (a : Unit × pj_Z), pl_X12_burn_74 k2 a1 b1 b2 s l x y = some a → pm_Gd 2 12084 ie_X12_burn.1 pm_rU lf 74 [(0, .ref 124), (1, .int a1)] [.int b2, .int b1, .ref 124] (s, l, x, y) a := by
  intro a1 b1 b2 s l x y a h
  exact pj_bl_ok (pz_X12_burn hT) (fun t lv st z hd h => pj_rn_ok (pz_X12_burn hT) (pm_bks_ok pb_X12_burn) (pj_as_all (p := pm_Ex 2 12084 ie_X12_burn.1 pm_rU lf a) (List.forall_mem_cons.mpr ⟨pu_X12_burn_2 _ (fun c0 s l x y h => hk2 c0 s l x y _ h), (List.forall_mem_cons.mpr ⟨pu_X12_burn_90 _ (fun c0 s l x y h => pg_X12_burn_90 hT hk2 c0 s l x y _ h), (fun _ h => by cases h)⟩)⟩)) 60 t lv st z hd h) [(74, .bipush 64, 2), (76, .idiv, 1), (77, .iadd, 1), (78, .i2l, 1), (79, .lconst 0, 1), (80, .ldc2_w 906, 3), (83, .invokestatic 576, 3), (86, .l2i, 1), (87, .putfield 709, 3)] 74 [(0, pj_O (124, 0)), (1, pj_I a1)] [pj_I b2, pj_I b1, pj_O (124, 0)] (s, l, x, y) (pm_bks_ok pb_X12_burn _ _ rfl) (pm_ndb_ok rfl) ((pq_X12_burn_74 k2 a1 b1 b2 s l x y).symm.trans h)
set_option maxRecDepth 100000 in
theorem pg_X12_burn_2 {lf : pj_Z → mj_M} (hT : pj_Lt pj_TR lf) : ∀ (n : Nat), ∀ (a1 : Int32) (s : Nat → Int32) (l : Nat → Int64) (x : Nat → Int32) (y : Nat → Int64) (a : Unit × pj_Z), pl_X12_burn_2 n a1 s l x y = some a → pm_Gd 2 12084 ie_X12_burn.1 pm_rU lf 2 [(0, .ref 124), (1, .int a1)] [] (s, l, x, y) a := by
  intro n
  induction n with
  | zero => intro a1 s l x y a h; cases (show (none : Option (Unit × pj_Z)) = some a from h)
  | succ n ih =>
    intro a1 s l x y a h
    exact pj_bl_ok (pz_X12_burn hT) (fun t lv st z hd h => pj_rn_ok (pz_X12_burn hT) (pm_bks_ok pb_X12_burn) (pj_as_all (p := pm_Ex 2 12084 ie_X12_burn.1 pm_rU lf a) (List.forall_mem_cons.mpr ⟨pu_X12_burn_2 _ (fun c0 s l x y h => ih c0 s l x y _ h), (List.forall_mem_cons.mpr ⟨pu_X12_burn_74 _ (fun c0 c1 c2 s l x y h => pg_X12_burn_74 hT (fun a1 s l x y a h => ih a1 s l x y a h) c0 c1 c2 s l x y _ h), (List.forall_mem_cons.mpr ⟨pu_X12_burn_90 _ (fun c0 s l x y h => pg_X12_burn_90 hT (fun a1 s l x y a h => ih a1 s l x y a h) c0 s l x y _ h), (List.forall_mem_cons.mpr ⟨pu_X12_burn_104 _ (fun c0 s l x y h => pg_X12_burn_104 hT (fun a1 s l x y a h => ih a1 s l x y a h) c0 s l x y _ h), (fun _ h => by cases h)⟩)⟩)⟩)⟩)) 60 t lv st z hd h) [(2, .iload_n 1, 1), (3, .aload_n 0, 1), (4, .getfield 19, 3), (7, .iconst 0, 1), (8, .iaload, 1), (9, .if_icmp .ge 101, 3)] 2 [(0, pj_O (124, 0)), (1, pj_I a1)] [] (s, l, x, y) (pm_bks_ok pb_X12_burn _ _ rfl) (pm_ndb_ok rfl) ((pq_X12_burn_2 n a1 s l x y).symm.trans h)
set_option maxRecDepth 100000 in
theorem pm_X12_burn {lf : pj_Z → mj_M} (hT : pj_Lt pj_TR lf)  (s : Nat → Int32) (l : Nat → Int64) (x : Nat → Int32) (y : Nat → Int64) (a : Unit × pj_Z) (h : pf_X12_burn  s l x y = some a) : mj_R ic_P 3 12084 [.ref 124] (lf (s, l, x, y)) (pm_rU a.1) (lf a.2) := by
  refine pm_main (Y := ie_X12_burn.1) rfl (Nat.le_of_ble_eq_true rfl) ?_
  exact pj_bl_ok (pz_X12_burn hT) (fun t lv st z hd h => pj_rn_ok (pz_X12_burn hT) (pm_bks_ok pb_X12_burn) (pj_as_all (p := pm_Ex 2 12084 ie_X12_burn.1 pm_rU lf a) (List.forall_mem_cons.mpr ⟨pu_X12_burn_2 _ (fun c0 s l x y h => pg_X12_burn_2 hT (pj_fu 0) c0 s l x y _ h), (fun _ h => by cases h)⟩)) 60 t lv st z hd h) [(0, .iconst 0, 1), (1, .istore_n 1, 1)] 0 [(0, pj_O (124, 0))] [] (s, l, x, y) (pm_bks_ok pb_X12_burn _ _ rfl) (pm_ndb_ok rfl) ((pq_X12_burn_m  s l x y).symm.trans h)
abbrev ph_X12_burn {A : Type} : List pj_V → pj_Z → (List pj_V → pj_Z → Option A) → Option A := fun st z K => pj_pr st 124 0 fun st => pj_ps st (pj_b (pf_X12_burn  z.1 z.2.1 z.2.2.1 z.2.2.2) fun r s l x y => K st (s, l, x, y))
set_option maxRecDepth 100000 in
theorem pc_X12_burn {A : Type} {OK : A → Option Value → mj_M → Prop} {d j pc ix : Nat} {Y : mj_Y} {lf : pj_Z → mj_M} (hT : pj_Lt pj_TR lf) (hd : 3 ≤ d) (hl : mj_lk Y.2.2.2.2 pc = some (.invokevirtual ix, 3)) (hg : mj_pG ic_P j ix = some (12084, 0, some 12)) {lv : List (Nat × Value)} {st : List pj_V} {z : pj_Z} {K : List pj_V → pj_Z → Option A} {a : A} (hK : ∀ st z, K st z = some a → pj_Gd ic_P (mj_R ic_P d) j Y OK lf (pc + 3) lv (pj_es st) z a) (h : ph_X12_burn st z K = some a) : pj_Gd ic_P (mj_R ic_P d) j Y OK lf pc lv (pj_es st) z a := by
  obtain ⟨r0, e0, h⟩ := pj_pr_inv h
  obtain ⟨hs, h⟩ := pj_ps_inv h
  obtain ⟨q, hq, h⟩ := pj_b_inv h
  exact pm_cv (o := 124) hl hg [] rfl (by rw [e0]; rfl) hs (by decide) ((hT.2 124 _ rfl).1.2 z 0 (by decide)) (pm_rU q.1) hd (pm_X12_burn hT  z.1 z.2.1 z.2.2.1 z.2.2.2 q hq) rfl (hK _ _ h)
abbrev pe_X12_pass_18 (f : Int32 → Int32 → pj_F (Int32 × pj_Z)) : pj_K (Int32 × pj_Z) := fun lv st z => pj_xr lv 0 124 0 <| pj_xi lv 1 fun a1 => pj_pi st fun b1 st => pj_pr st 124 0 fun st => pj_pe st (f a1 b1 z.1 z.2.1 z.2.2.1 z.2.2.2)
abbrev px_X12_pass : pj_C (Int32 × pj_Z) := (pj_TR, (pj_as [(259, 12, 0, 0, false), (594, 12, 22, 1, false), (609, 12, 21, 1, false)]), (fun _ => none), (pj_as [(911, 2000000)]), (fun _ => none), ic_X, 4, 1, pj_mI, (pj_as [(7, ph_X12_isIn), (43, ph_X12_passTo)]), fun _ => false)
abbrev pk_X12_pass : List (Nat × List (Nat × Instr × Nat)) := [(0, [(0, .aload_n 0, 1), (1, .iload_n 1, 1), (2, .i2l, 1), (3, .lconst 0, 1), (4, .ldc2_w 911, 3), (7, .invokestatic 568, 3), (10, .ifCond .ne 7, 3)]), (13, [(13, .iconst 1, 1), (14, .goto 4, 3)]), (17, [(17, .iconst 0, 1)]), (18, [(18, .putfield 259, 3), (21, .aload_n 0, 1), (22, .getfield 259, 3), (25, .ifCond .le 5, 3)]), (28, [(28, .iconst 0, 1), (29, .ireturn, 1)]), (30, [(30, .aload_n 0, 1), (31, .getfield 609, 3), (34, .lstore_n 2, 1), (35, .aload_n 0, 1), (36, .aload_n 0, 1), (37, .getfield 594, 3), (40, .iload_n 1, 1), (41, .i2l, 1), (42, .ladd, 1), (43, .invokevirtual 894, 3), (46, .aload_n 0, 1), (47, .getfield 609, 3), (50, .lload_n 2, 1), (51, .lsub, 1), (52, .l2i, 1), (53, .ireturn, 1)])]
set_option maxRecDepth 100000 in
theorem pq_X12_pass_18 (a1 : Int32) (b1 : Int32) (s : Nat → Int32) (l : Nat → Int64) (x : Nat → Int32) (y : Nat → Int64) : pl_X12_pass_18 a1 b1 s l x y = pj_bl px_X12_pass (pj_rn px_X12_pass (pj_as pk_X12_pass) (fun _ => none) 60) [(18, .putfield 259, 3), (21, .aload_n 0, 1), (22, .getfield 259, 3), (25, .ifCond .le 5, 3)] 18 [(0, pj_O (124, 0)), (1, pj_I a1)] [pj_I b1, pj_O (124, 0)] (s, l, x, y) := rfl
set_option maxRecDepth 100000 in
theorem pq_X12_pass_m (a1 : Int32) (s : Nat → Int32) (l : Nat → Int64) (x : Nat → Int32) (y : Nat → Int64) : pf_X12_pass a1 s l x y = pj_bl px_X12_pass (pj_rn px_X12_pass (pj_as pk_X12_pass) (pj_as [(18, pe_X12_pass_18 (pl_X12_pass_18))]) 60) [(0, .aload_n 0, 1), (1, .iload_n 1, 1), (2, .i2l, 1), (3, .lconst 0, 1), (4, .ldc2_w 911, 3), (7, .invokestatic 568, 3), (10, .ifCond .ne 7, 3)] 0 [(0, pj_O (124, 0)), (1, pj_I a1)] [] (s, l, x, y) := rfl
theorem pu_X12_pass_18 {lf : pj_Z → mj_M} {a : Int32 × pj_Z} (f : Int32 → Int32 → pj_F (Int32 × pj_Z)) (hf : ∀ (a1 : Int32) (b1 : Int32) (s : Nat → Int32) (l : Nat → Int64) (x : Nat → Int32) (y : Nat → Int64), f a1 b1 s l x y = some a → pm_Gd 9 12085 ie_X12_pass.1 pm_rI lf 18 [(0, .ref 124), (1, .int a1)] [.int b1, .ref 124] (s, l, x, y) a) : pm_Ex 9 12085 ie_X12_pass.1 pm_rI lf a 18 (pe_X12_pass_18 f) := by
  intro lv st z hd h
  obtain ⟨g0, h⟩ := pj_xr_inv h
  obtain ⟨a1, g1, h⟩ := pj_xi_inv h
  obtain ⟨b1, r1, e1, h⟩ := pj_pi_inv h
  obtain ⟨r0, e0, h⟩ := pj_pr_inv h
  obtain ⟨e9, h⟩ := pj_pe_inv h
  rw [e1, e0, e9]
  exact mj_wp_sub (mj_sub_cons g0 (mj_sub_cons g1 (mj_sub_nil hd))) (hf _ _ _ _ _ _ h)
set_option maxRecDepth 100000 in
theorem pz_X12_pass {lf : pj_Z → mj_M} (hT : pj_Lt pj_TR lf) : pj_Cok ic_P (mj_R ic_P 9) 12085 ie_X12_pass.1 (pm_OK lf pm_rI) lf px_X12_pass := by
  exact pm_cok (c := px_X12_pass) hT (pm_in_ok (L := [(259, 12, 0, 0, false), (594, 12, 22, 1, false), (609, 12, 21, 1, false)]) (f := mj_pF ic_P 12085) (by decide +kernel)) (fun _ _ h => by cases h) (pm_inL_ok (L := [(911, 2000000)]) (f := mj_pL ic_P 12085) (by decide +kernel)) (fun _ _ h => by cases h) rfl rfl ⟨by decide, rfl⟩ pm_mI (pj_as_all (p := pm_Cl 9 12085 ie_X12_pass.1 lf (pm_OK lf pm_rI)) (List.forall_mem_cons.mpr ⟨fun _ _ lv st z K a hK h => pc_X12_isIn hT (by decide) (ix := 568) rfl rfl hK h, (List.forall_mem_cons.mpr ⟨fun _ _ lv st z K a hK h => pc_X12_passTo hT (by decide) (ix := 894) rfl rfl hK h, (fun _ h => by cases h)⟩)⟩)) (fun _ h => by cases h)
set_option maxRecDepth 100000 in
theorem pb_X12_pass : pm_bks ie_X12_pass.1.2.2.2.2 pk_X12_pass = true := by decide +kernel
set_option maxRecDepth 100000 in
theorem pg_X12_pass_18 {lf : pj_Z → mj_M} (hT : pj_Lt pj_TR lf) : ∀ (a1 : Int32) (b1 : Int32) (s : Nat → Int32) (l : Nat → Int64) (x : Nat → Int32) (y : Nat → Int64) (a : Int32 × pj_Z), pl_X12_pass_18 a1 b1 s l x y = some a → pm_Gd 9 12085 ie_X12_pass.1 pm_rI lf 18 [(0, .ref 124), (1, .int a1)] [.int b1, .ref 124] (s, l, x, y) a := by
  intro a1 b1 s l x y a h
  exact pj_bl_ok (pz_X12_pass hT) (fun t lv st z hd h => pj_rn_ok (pz_X12_pass hT) (pm_bks_ok pb_X12_pass) (fun _ _ h => by cases h) 60 t lv st z hd h) [(18, .putfield 259, 3), (21, .aload_n 0, 1), (22, .getfield 259, 3), (25, .ifCond .le 5, 3)] 18 [(0, pj_O (124, 0)), (1, pj_I a1)] [pj_I b1, pj_O (124, 0)] (s, l, x, y) (pm_bks_ok pb_X12_pass _ _ rfl) (pm_ndb_ok rfl) ((pq_X12_pass_18  a1 b1 s l x y).symm.trans h)
set_option maxRecDepth 100000 in
theorem pm_X12_pass {lf : pj_Z → mj_M} (hT : pj_Lt pj_TR lf) (a1 : Int32) (s : Nat → Int32) (l : Nat → Int64) (x : Nat → Int32) (y : Nat → Int64) (a : Int32 × pj_Z) (h : pf_X12_pass a1 s l x y = some a) : mj_R ic_P 10 12085 [.ref 124, .int a1] (lf (s, l, x, y)) (pm_rI a.1) (lf a.2) := by
  refine pm_main (Y := ie_X12_pass.1) rfl (Nat.le_of_ble_eq_true rfl) ?_
  exact pj_bl_ok (pz_X12_pass hT) (fun t lv st z hd h => pj_rn_ok (pz_X12_pass hT) (pm_bks_ok pb_X12_pass) (pj_as_all (p := pm_Ex 9 12085 ie_X12_pass.1 pm_rI lf a) (List.forall_mem_cons.mpr ⟨pu_X12_pass_18 _ (fun c0 c1 s l x y h => pg_X12_pass_18 hT c0 c1 s l x y _ h), (fun _ h => by cases h)⟩)) 60 t lv st z hd h) [(0, .aload_n 0, 1), (1, .iload_n 1, 1), (2, .i2l, 1), (3, .lconst 0, 1), (4, .ldc2_w 911, 3), (7, .invokestatic 568, 3), (10, .ifCond .ne 7, 3)] 0 [(0, pj_O (124, 0)), (1, pj_I a1)] [] (s, l, x, y) (pm_bks_ok pb_X12_pass _ _ rfl) (pm_ndb_ok rfl) ((pq_X12_pass_m a1 s l x y).symm.trans h)
abbrev ph_X12_pass {A : Type} : List pj_V → pj_Z → (List pj_V → pj_Z → Option A) → Option A := fun st z K => pj_pi st fun a1 st => pj_pr st 124 0 fun st => pj_ps st (pj_b (pf_X12_pass a1 z.1 z.2.1 z.2.2.1 z.2.2.2) fun r s l x y => K (pj_I r :: st) (s, l, x, y))
set_option maxRecDepth 100000 in
theorem pc_X12_pass {A : Type} {OK : A → Option Value → mj_M → Prop} {d j pc ix : Nat} {Y : mj_Y} {lf : pj_Z → mj_M} (hT : pj_Lt pj_TR lf) (hd : 10 ≤ d) (hl : mj_lk Y.2.2.2.2 pc = some (.invokevirtual ix, 3)) (hg : mj_pG ic_P j ix = some (12085, 1, some 12)) {lv : List (Nat × Value)} {st : List pj_V} {z : pj_Z} {K : List pj_V → pj_Z → Option A} {a : A} (hK : ∀ st z, K st z = some a → pj_Gd ic_P (mj_R ic_P d) j Y OK lf (pc + 3) lv (pj_es st) z a) (h : ph_X12_pass st z K = some a) : pj_Gd ic_P (mj_R ic_P d) j Y OK lf pc lv (pj_es st) z a := by
  obtain ⟨a1, r1, e1, h⟩ := pj_pi_inv h
  obtain ⟨r0, e0, h⟩ := pj_pr_inv h
  obtain ⟨hs, h⟩ := pj_ps_inv h
  obtain ⟨q, hq, h⟩ := pj_b_inv h
  exact pm_cv (o := 124) hl hg [.int a1] rfl (by rw [e1, e0]; rfl) hs (by decide) ((hT.2 124 _ rfl).1.2 z 0 (by decide)) (pm_rI q.1) hd (pm_X12_pass hT a1 z.1 z.2.1 z.2.2.1 z.2.2.2 q hq) rfl (hK _ _ h)
abbrev pe_X12_tooth_18 (f : Int32 → Int32 → pj_F (Int32 × pj_Z)) : pj_K (Int32 × pj_Z) := fun lv st z => pj_xr lv 0 124 0 <| pj_xi lv 1 fun a1 => pj_pi st fun b1 st => pj_pr st 124 0 fun st => pj_pe st (f a1 b1 z.1 z.2.1 z.2.2.1 z.2.2.2)
abbrev px_X12_tooth : pj_C (Int32 × pj_Z) := (pj_TR, (pj_as [(259, 12, 0, 0, false), (262, 12, 34, 0, false), (594, 12, 22, 1, false)]), (fun _ => none), (pj_as [(630, 1000000)]), (fun _ => none), ic_X, 2, 1, pj_mI, (pj_as [(7, ph_X12_isIn), (38, ph_X12_passTo), (42, ph_X12_crank)]), fun _ => false)
abbrev pk_X12_tooth : List (Nat × List (Nat × Instr × Nat)) := [(0, [(0, .aload_n 0, 1), (1, .iload_n 1, 1), (2, .i2l, 1), (3, .lconst 1, 1), (4, .ldc2_w 630, 3), (7, .invokestatic 568, 3), (10, .ifCond .ne 7, 3)]), (13, [(13, .iconst 1, 1), (14, .goto 4, 3)]), (17, [(17, .iconst 0, 1)]), (18, [(18, .putfield 259, 3), (21, .aload_n 0, 1), (22, .getfield 259, 3), (25, .ifCond .le 5, 3)]), (28, [(28, .iconst 0, 1), (29, .ireturn, 1)]), (30, [(30, .aload_n 0, 1), (31, .aload_n 0, 1), (32, .getfield 594, 3), (35, .iload_n 1, 1), (36, .i2l, 1), (37, .ladd, 1), (38, .invokevirtual 894, 3), (41, .aload_n 0, 1), (42, .invokevirtual 900, 3), (45, .aload_n 0, 1), (46, .getfield 262, 3), (49, .ireturn, 1)])]
set_option maxRecDepth 100000 in
theorem pq_X12_tooth_18 (a1 : Int32) (b1 : Int32) (s : Nat → Int32) (l : Nat → Int64) (x : Nat → Int32) (y : Nat → Int64) : pl_X12_tooth_18 a1 b1 s l x y = pj_bl px_X12_tooth (pj_rn px_X12_tooth (pj_as pk_X12_tooth) (fun _ => none) 60) [(18, .putfield 259, 3), (21, .aload_n 0, 1), (22, .getfield 259, 3), (25, .ifCond .le 5, 3)] 18 [(0, pj_O (124, 0)), (1, pj_I a1)] [pj_I b1, pj_O (124, 0)] (s, l, x, y) := rfl
set_option maxRecDepth 100000 in
theorem pq_X12_tooth_m (a1 : Int32) (s : Nat → Int32) (l : Nat → Int64) (x : Nat → Int32) (y : Nat → Int64) : pf_X12_tooth a1 s l x y = pj_bl px_X12_tooth (pj_rn px_X12_tooth (pj_as pk_X12_tooth) (pj_as [(18, pe_X12_tooth_18 (pl_X12_tooth_18))]) 60) [(0, .aload_n 0, 1), (1, .iload_n 1, 1), (2, .i2l, 1), (3, .lconst 1, 1), (4, .ldc2_w 630, 3), (7, .invokestatic 568, 3), (10, .ifCond .ne 7, 3)] 0 [(0, pj_O (124, 0)), (1, pj_I a1)] [] (s, l, x, y) := rfl
theorem pu_X12_tooth_18 {lf : pj_Z → mj_M} {a : Int32 × pj_Z} (f : Int32 → Int32 → pj_F (Int32 × pj_Z)) (hf : ∀ (a1 : Int32) (b1 : Int32) (s : Nat → Int32) (l : Nat → Int64) (x : Nat → Int32) (y : Nat → Int64), f a1 b1 s l x y = some a → pm_Gd 9 12086 ie_X12_tooth.1 pm_rI lf 18 [(0, .ref 124), (1, .int a1)] [.int b1, .ref 124] (s, l, x, y) a) : pm_Ex 9 12086 ie_X12_tooth.1 pm_rI lf a 18 (pe_X12_tooth_18 f) := by
  intro lv st z hd h
  obtain ⟨g0, h⟩ := pj_xr_inv h
  obtain ⟨a1, g1, h⟩ := pj_xi_inv h
  obtain ⟨b1, r1, e1, h⟩ := pj_pi_inv h
  obtain ⟨r0, e0, h⟩ := pj_pr_inv h
  obtain ⟨e9, h⟩ := pj_pe_inv h
  rw [e1, e0, e9]
  exact mj_wp_sub (mj_sub_cons g0 (mj_sub_cons g1 (mj_sub_nil hd))) (hf _ _ _ _ _ _ h)
set_option maxRecDepth 100000 in
theorem pz_X12_tooth {lf : pj_Z → mj_M} (hT : pj_Lt pj_TR lf) : pj_Cok ic_P (mj_R ic_P 9) 12086 ie_X12_tooth.1 (pm_OK lf pm_rI) lf px_X12_tooth := by
  exact pm_cok (c := px_X12_tooth) hT (pm_in_ok (L := [(259, 12, 0, 0, false), (262, 12, 34, 0, false), (594, 12, 22, 1, false)]) (f := mj_pF ic_P 12086) (by decide +kernel)) (fun _ _ h => by cases h) (pm_inL_ok (L := [(630, 1000000)]) (f := mj_pL ic_P 12086) (by decide +kernel)) (fun _ _ h => by cases h) rfl rfl ⟨by decide, rfl⟩ pm_mI (pj_as_all (p := pm_Cl 9 12086 ie_X12_tooth.1 lf (pm_OK lf pm_rI)) (List.forall_mem_cons.mpr ⟨fun _ _ lv st z K a hK h => pc_X12_isIn hT (by decide) (ix := 568) rfl rfl hK h, (List.forall_mem_cons.mpr ⟨fun _ _ lv st z K a hK h => pc_X12_passTo hT (by decide) (ix := 894) rfl rfl hK h, (List.forall_mem_cons.mpr ⟨fun _ _ lv st z K a hK h => pc_X12_crank hT (by decide) (ix := 900) rfl rfl hK h, (fun _ h => by cases h)⟩)⟩)⟩)) (fun _ h => by cases h)
set_option maxRecDepth 100000 in
theorem pb_X12_tooth : pm_bks ie_X12_tooth.1.2.2.2.2 pk_X12_tooth = true := by decide +kernel
set_option maxRecDepth 100000 in
theorem pg_X12_tooth_18 {lf : pj_Z → mj_M} (hT : pj_Lt pj_TR lf) : ∀ (a1 : Int32) (b1 : Int32) (s : Nat → Int32) (l : Nat → Int64) (x : Nat → Int32) (y : Nat → Int64) (a : Int32 × pj_Z), pl_X12_tooth_18 a1 b1 s l x y = some a → pm_Gd 9 12086 ie_X12_tooth.1 pm_rI lf 18 [(0, .ref 124), (1, .int a1)] [.int b1, .ref 124] (s, l, x, y) a := by
  intro a1 b1 s l x y a h
  exact pj_bl_ok (pz_X12_tooth hT) (fun t lv st z hd h => pj_rn_ok (pz_X12_tooth hT) (pm_bks_ok pb_X12_tooth) (fun _ _ h => by cases h) 60 t lv st z hd h) [(18, .putfield 259, 3), (21, .aload_n 0, 1), (22, .getfield 259, 3), (25, .ifCond .le 5, 3)] 18 [(0, pj_O (124, 0)), (1, pj_I a1)] [pj_I b1, pj_O (124, 0)] (s, l, x, y) (pm_bks_ok pb_X12_tooth _ _ rfl) (pm_ndb_ok rfl) ((pq_X12_tooth_18  a1 b1 s l x y).symm.trans h)
set_option maxRecDepth 100000 in
theorem pm_X12_tooth {lf : pj_Z → mj_M} (hT : pj_Lt pj_TR lf) (a1 : Int32) (s : Nat → Int32) (l : Nat → Int64) (x : Nat → Int32) (y : Nat → Int64) (a : Int32 × pj_Z) (h : pf_X12_tooth a1 s l x y = some a) : mj_R ic_P 10 12086 [.ref 124, .int a1] (lf (s, l, x, y)) (pm_rI a.1) (lf a.2) := by
  refine pm_main (Y := ie_X12_tooth.1) rfl (Nat.le_of_ble_eq_true rfl) ?_
  exact pj_bl_ok (pz_X12_tooth hT) (fun t lv st z hd h => pj_rn_ok (pz_X12_tooth hT) (pm_bks_ok pb_X12_tooth) (pj_as_all (p := pm_Ex 9 12086 ie_X12_tooth.1 pm_rI lf a) (List.forall_mem_cons.mpr ⟨pu_X12_tooth_18 _ (fun c0 c1 s l x y h => pg_X12_tooth_18 hT c0 c1 s l x y _ h), (fun _ h => by cases h)⟩)) 60 t lv st z hd h) [(0, .aload_n 0, 1), (1, .iload_n 1, 1), (2, .i2l, 1), (3, .lconst 1, 1), (4, .ldc2_w 630, 3), (7, .invokestatic 568, 3), (10, .ifCond .ne 7, 3)] 0 [(0, pj_O (124, 0)), (1, pj_I a1)] [] (s, l, x, y) (pm_bks_ok pb_X12_tooth _ _ rfl) (pm_ndb_ok rfl) ((pq_X12_tooth_m a1 s l x y).symm.trans h)
abbrev ph_X12_tooth {A : Type} : List pj_V → pj_Z → (List pj_V → pj_Z → Option A) → Option A := fun st z K => pj_pi st fun a1 st => pj_pr st 124 0 fun st => pj_ps st (pj_b (pf_X12_tooth a1 z.1 z.2.1 z.2.2.1 z.2.2.2) fun r s l x y => K (pj_I r :: st) (s, l, x, y))
set_option maxRecDepth 100000 in
theorem pc_X12_tooth {A : Type} {OK : A → Option Value → mj_M → Prop} {d j pc ix : Nat} {Y : mj_Y} {lf : pj_Z → mj_M} (hT : pj_Lt pj_TR lf) (hd : 10 ≤ d) (hl : mj_lk Y.2.2.2.2 pc = some (.invokevirtual ix, 3)) (hg : mj_pG ic_P j ix = some (12086, 1, some 12)) {lv : List (Nat × Value)} {st : List pj_V} {z : pj_Z} {K : List pj_V → pj_Z → Option A} {a : A} (hK : ∀ st z, K st z = some a → pj_Gd ic_P (mj_R ic_P d) j Y OK lf (pc + 3) lv (pj_es st) z a) (h : ph_X12_tooth st z K = some a) : pj_Gd ic_P (mj_R ic_P d) j Y OK lf pc lv (pj_es st) z a := by
  obtain ⟨a1, r1, e1, h⟩ := pj_pi_inv h
  obtain ⟨r0, e0, h⟩ := pj_pr_inv h
  obtain ⟨hs, h⟩ := pj_ps_inv h
  obtain ⟨q, hq, h⟩ := pj_b_inv h
  exact pm_cv (o := 124) hl hg [.int a1] rfl (by rw [e1, e0]; rfl) hs (by decide) ((hT.2 124 _ rfl).1.2 z 0 (by decide)) (pm_rI q.1) hd (pm_X12_tooth hT a1 z.1 z.2.1 z.2.2.1 z.2.2.2 q hq) rfl (hK _ _ h)
abbrev pe_X12_cam_18 (f : Int32 → Int32 → pj_F (Int32 × pj_Z)) : pj_K (Int32 × pj_Z) := fun lv st z => pj_xr lv 0 124 0 <| pj_xi lv 1 fun a1 => pj_pi st fun b1 st => pj_pr st 124 0 fun st => pj_pe st (f a1 b1 z.1 z.2.1 z.2.2.1 z.2.2.2)
abbrev px_X12_cam : pj_C (Int32 × pj_Z) := (pj_TR, (pj_as [(259, 12, 0, 0, false), (262, 12, 34, 0, false), (594, 12, 22, 1, false)]), (fun _ => none), (pj_as [(630, 1000000)]), (fun _ => none), ic_X, 2, 1, pj_mI, (pj_as [(7, ph_X12_isIn), (38, ph_X12_passTo), (42, ph_X12_camEdge)]), fun _ => false)
abbrev pk_X12_cam : List (Nat × List (Nat × Instr × Nat)) := [(0, [(0, .aload_n 0, 1), (1, .iload_n 1, 1), (2, .i2l, 1), (3, .lconst 0, 1), (4, .ldc2_w 630, 3), (7, .invokestatic 568, 3), (10, .ifCond .ne 7, 3)]), (13, [(13, .iconst 1, 1), (14, .goto 4, 3)]), (17, [(17, .iconst 0, 1)]), (18, [(18, .putfield 259, 3), (21, .aload_n 0, 1), (22, .getfield 259, 3), (25, .ifCond .le 5, 3)]), (28, [(28, .iconst 0, 1), (29, .ireturn, 1)]), (30, [(30, .aload_n 0, 1), (31, .aload_n 0, 1), (32, .getfield 594, 3), (35, .iload_n 1, 1), (36, .i2l, 1), (37, .ladd, 1), (38, .invokevirtual 894, 3), (41, .aload_n 0, 1), (42, .invokevirtual 903, 3), (45, .aload_n 0, 1), (46, .getfield 262, 3), (49, .ireturn, 1)])]
set_option maxRecDepth 100000 in
theorem pq_X12_cam_18 (a1 : Int32) (b1 : Int32) (s : Nat → Int32) (l : Nat → Int64) (x : Nat → Int32) (y : Nat → Int64) : pl_X12_cam_18 a1 b1 s l x y = pj_bl px_X12_cam (pj_rn px_X12_cam (pj_as pk_X12_cam) (fun _ => none) 60) [(18, .putfield 259, 3), (21, .aload_n 0, 1), (22, .getfield 259, 3), (25, .ifCond .le 5, 3)] 18 [(0, pj_O (124, 0)), (1, pj_I a1)] [pj_I b1, pj_O (124, 0)] (s, l, x, y) := rfl
set_option maxRecDepth 100000 in
theorem pq_X12_cam_m (a1 : Int32) (s : Nat → Int32) (l : Nat → Int64) (x : Nat → Int32) (y : Nat → Int64) : pf_X12_cam a1 s l x y = pj_bl px_X12_cam (pj_rn px_X12_cam (pj_as pk_X12_cam) (pj_as [(18, pe_X12_cam_18 (pl_X12_cam_18))]) 60) [(0, .aload_n 0, 1), (1, .iload_n 1, 1), (2, .i2l, 1), (3, .lconst 0, 1), (4, .ldc2_w 630, 3), (7, .invokestatic 568, 3), (10, .ifCond .ne 7, 3)] 0 [(0, pj_O (124, 0)), (1, pj_I a1)] [] (s, l, x, y) := rfl
theorem pu_X12_cam_18 {lf : pj_Z → mj_M} {a : Int32 × pj_Z} (f : Int32 → Int32 → pj_F (Int32 × pj_Z)) (hf : ∀ (a1 : Int32) (b1 : Int32) (s : Nat → Int32) (l : Nat → Int64) (x : Nat → Int32) (y : Nat → Int64), f a1 b1 s l x y = some a → pm_Gd 9 12087 ie_X12_cam.1 pm_rI lf 18 [(0, .ref 124), (1, .int a1)] [.int b1, .ref 124] (s, l, x, y) a) : pm_Ex 9 12087 ie_X12_cam.1 pm_rI lf a 18 (pe_X12_cam_18 f) := by
  intro lv st z hd h
  obtain ⟨g0, h⟩ := pj_xr_inv h
  obtain ⟨a1, g1, h⟩ := pj_xi_inv h
  obtain ⟨b1, r1, e1, h⟩ := pj_pi_inv h
  obtain ⟨r0, e0, h⟩ := pj_pr_inv h
  obtain ⟨e9, h⟩ := pj_pe_inv h
  rw [e1, e0, e9]
  exact mj_wp_sub (mj_sub_cons g0 (mj_sub_cons g1 (mj_sub_nil hd))) (hf _ _ _ _ _ _ h)
set_option maxRecDepth 100000 in
theorem pz_X12_cam {lf : pj_Z → mj_M} (hT : pj_Lt pj_TR lf) : pj_Cok ic_P (mj_R ic_P 9) 12087 ie_X12_cam.1 (pm_OK lf pm_rI) lf px_X12_cam := by
  exact pm_cok (c := px_X12_cam) hT (pm_in_ok (L := [(259, 12, 0, 0, false), (262, 12, 34, 0, false), (594, 12, 22, 1, false)]) (f := mj_pF ic_P 12087) (by decide +kernel)) (fun _ _ h => by cases h) (pm_inL_ok (L := [(630, 1000000)]) (f := mj_pL ic_P 12087) (by decide +kernel)) (fun _ _ h => by cases h) rfl rfl ⟨by decide, rfl⟩ pm_mI (pj_as_all (p := pm_Cl 9 12087 ie_X12_cam.1 lf (pm_OK lf pm_rI)) (List.forall_mem_cons.mpr ⟨fun _ _ lv st z K a hK h => pc_X12_isIn hT (by decide) (ix := 568) rfl rfl hK h, (List.forall_mem_cons.mpr ⟨fun _ _ lv st z K a hK h => pc_X12_passTo hT (by decide) (ix := 894) rfl rfl hK h, (List.forall_mem_cons.mpr ⟨fun _ _ lv st z K a hK h => pc_X12_camEdge hT (by decide) (ix := 903) rfl rfl hK h, (fun _ h => by cases h)⟩)⟩)⟩)) (fun _ h => by cases h)
set_option maxRecDepth 100000 in
theorem pb_X12_cam : pm_bks ie_X12_cam.1.2.2.2.2 pk_X12_cam = true := by decide +kernel
set_option maxRecDepth 100000 in
theorem pg_X12_cam_18 {lf : pj_Z → mj_M} (hT : pj_Lt pj_TR lf) : ∀ (a1 : Int32) (b1 : Int32) (s : Nat → Int32) (l : Nat → Int64) (x : Nat → Int32) (y : Nat → Int64) (a : Int32 × pj_Z), pl_X12_cam_18 a1 b1 s l x y = some a → pm_Gd 9 12087 ie_X12_cam.1 pm_rI lf 18 [(0, .ref 124), (1, .int a1)] [.int b1, .ref 124] (s, l, x, y) a := by
  intro a1 b1 s l x y a h
  exact pj_bl_ok (pz_X12_cam hT) (fun t lv st z hd h => pj_rn_ok (pz_X12_cam hT) (pm_bks_ok pb_X12_cam) (fun _ _ h => by cases h) 60 t lv st z hd h) [(18, .putfield 259, 3), (21, .aload_n 0, 1), (22, .getfield 259, 3), (25, .ifCond .le 5, 3)] 18 [(0, pj_O (124, 0)), (1, pj_I a1)] [pj_I b1, pj_O (124, 0)] (s, l, x, y) (pm_bks_ok pb_X12_cam _ _ rfl) (pm_ndb_ok rfl) ((pq_X12_cam_18  a1 b1 s l x y).symm.trans h)
set_option maxRecDepth 100000 in
theorem pm_X12_cam {lf : pj_Z → mj_M} (hT : pj_Lt pj_TR lf) (a1 : Int32) (s : Nat → Int32) (l : Nat → Int64) (x : Nat → Int32) (y : Nat → Int64) (a : Int32 × pj_Z) (h : pf_X12_cam a1 s l x y = some a) : mj_R ic_P 10 12087 [.ref 124, .int a1] (lf (s, l, x, y)) (pm_rI a.1) (lf a.2) := by
  refine pm_main (Y := ie_X12_cam.1) rfl (Nat.le_of_ble_eq_true rfl) ?_
  exact pj_bl_ok (pz_X12_cam hT) (fun t lv st z hd h => pj_rn_ok (pz_X12_cam hT) (pm_bks_ok pb_X12_cam) (pj_as_all (p := pm_Ex 9 12087 ie_X12_cam.1 pm_rI lf a) (List.forall_mem_cons.mpr ⟨pu_X12_cam_18 _ (fun c0 c1 s l x y h => pg_X12_cam_18 hT c0 c1 s l x y _ h), (fun _ h => by cases h)⟩)) 60 t lv st z hd h) [(0, .aload_n 0, 1), (1, .iload_n 1, 1), (2, .i2l, 1), (3, .lconst 0, 1), (4, .ldc2_w 630, 3), (7, .invokestatic 568, 3), (10, .ifCond .ne 7, 3)] 0 [(0, pj_O (124, 0)), (1, pj_I a1)] [] (s, l, x, y) (pm_bks_ok pb_X12_cam _ _ rfl) (pm_ndb_ok rfl) ((pq_X12_cam_m a1 s l x y).symm.trans h)
abbrev ph_X12_cam {A : Type} : List pj_V → pj_Z → (List pj_V → pj_Z → Option A) → Option A := fun st z K => pj_pi st fun a1 st => pj_pr st 124 0 fun st => pj_ps st (pj_b (pf_X12_cam a1 z.1 z.2.1 z.2.2.1 z.2.2.2) fun r s l x y => K (pj_I r :: st) (s, l, x, y))
set_option maxRecDepth 100000 in
theorem pc_X12_cam {A : Type} {OK : A → Option Value → mj_M → Prop} {d j pc ix : Nat} {Y : mj_Y} {lf : pj_Z → mj_M} (hT : pj_Lt pj_TR lf) (hd : 10 ≤ d) (hl : mj_lk Y.2.2.2.2 pc = some (.invokevirtual ix, 3)) (hg : mj_pG ic_P j ix = some (12087, 1, some 12)) {lv : List (Nat × Value)} {st : List pj_V} {z : pj_Z} {K : List pj_V → pj_Z → Option A} {a : A} (hK : ∀ st z, K st z = some a → pj_Gd ic_P (mj_R ic_P d) j Y OK lf (pc + 3) lv (pj_es st) z a) (h : ph_X12_cam st z K = some a) : pj_Gd ic_P (mj_R ic_P d) j Y OK lf pc lv (pj_es st) z a := by
  obtain ⟨a1, r1, e1, h⟩ := pj_pi_inv h
  obtain ⟨r0, e0, h⟩ := pj_pr_inv h
  obtain ⟨hs, h⟩ := pj_ps_inv h
  obtain ⟨q, hq, h⟩ := pj_b_inv h
  exact pm_cv (o := 124) hl hg [.int a1] rfl (by rw [e1, e0]; rfl) hs (by decide) ((hT.2 124 _ rfl).1.2 z 0 (by decide)) (pm_rI q.1) hd (pm_X12_cam hT a1 z.1 z.2.1 z.2.2.1 z.2.2.2 q hq) rfl (hK _ _ h)
abbrev pe_X12_turn_27 (f : Int32 → Int32 → pj_F (Int32 × pj_Z)) : pj_K (Int32 × pj_Z) := fun lv st z => pj_xr lv 0 124 0 <| pj_xi lv 1 fun a1 => pj_xi lv 2 fun a2 => pj_pr st 124 0 fun st => pj_pe st (f a1 a2 z.1 z.2.1 z.2.2.1 z.2.2.2)
abbrev pe_X12_turn_32 (f : Int32 → Int32 → Int32 → pj_F (Int32 × pj_Z)) : pj_K (Int32 × pj_Z) := fun lv st z => pj_xr lv 0 124 0 <| pj_xi lv 1 fun a1 => pj_xi lv 2 fun a2 => pj_pi st fun b1 st => pj_pr st 124 0 fun st => pj_pe st (f a1 a2 b1 z.1 z.2.1 z.2.2.1 z.2.2.2)
abbrev pe_X12_turn_37 (f : Int32 → Int32 → Int32 → pj_F (Int32 × pj_Z)) : pj_K (Int32 × pj_Z) := fun lv st z => pj_xr lv 0 124 0 <| pj_xi lv 1 fun a1 => pj_xi lv 2 fun a2 => pj_xi lv 3 fun a3 => pj_pe st (f a1 a2 a3 z.1 z.2.1 z.2.2.1 z.2.2.2)
abbrev pe_X12_turn_61 (f : pj_F (Int32 × pj_Z)) : pj_K (Int32 × pj_Z) := fun lv st z => pj_xr lv 0 124 0 <| pj_pe st (f  z.1 z.2.1 z.2.2.1 z.2.2.2)
abbrev px_X12_turn : pj_C (Int32 × pj_Z) := (pj_TR, (pj_as [(259, 12, 0, 0, false), (262, 12, 34, 0, false)]), (fun _ => none), (pj_as [(717, 20), (913, 240), (915, 100000)]), (fun _ => none), ic_X, 4, 1, pj_mI, (pj_as [(7, ph_X12_isIn), (21, ph_X12_isIn), (52, ph_X12_step)]), fun _ => false)
abbrev pk_X12_turn : List (Nat × List (Nat × Instr × Nat)) := [(0, [(0, .aload_n 0, 1), (1, .iload_n 1, 1), (2, .i2l, 1), (3, .lconst 1, 1), (4, .ldc2_w 913, 3), (7, .invokestatic 568, 3), (10, .ifCond .eq 17, 3)]), (13, [(13, .iload_n 2, 1), (14, .i2l, 1), (15, .ldc2_w 717, 3), (18, .ldc2_w 915, 3), (21, .invokestatic 568, 3), (24, .ifCond .ne 7, 3)]), (27, [(27, .iconst 1, 1), (28, .goto 4, 3)]), (31, [(31, .iconst 0, 1)]), (32, [(32, .putfield 259, 3), (35, .iconst 0, 1), (36, .istore_n 3, 1)]), (37, [(37, .iload_n 3, 1), (38, .iload_n 1, 1), (39, .if_icmp .ge 22, 3)]), (42, [(42, .aload_n 0, 1), (43, .getfield 259, 3), (46, .ifCond .ne 15, 3)]), (49, [(49, .aload_n 0, 1), (50, .iload_n 2, 1), (51, .i2l, 1), (52, .invokevirtual 917, 3), (55, .iinc 3 1, 3), (58, .goto (-21), 3)]), (61, [(61, .aload_n 0, 1), (62, .getfield 259, 3), (65, .ifCond .le 7, 3)]), (68, [(68, .iconst 0, 1), (69, .goto 7, 3)]), (72, [(72, .aload_n 0, 1), (73, .getfield 262, 3)]), (76, [(76, .ireturn, 1)])]
set_option maxRecDepth 100000 in
theorem pq_X12_turn_61  (s : Nat → Int32) (l : Nat → Int64) (x : Nat → Int32) (y : Nat → Int64) : pl_X12_turn_61 s l x y = pj_bl px_X12_turn (pj_rn px_X12_turn (pj_as pk_X12_turn) (fun _ => none) 60) [(61, .aload_n 0, 1), (62, .getfield 259, 3), (65, .ifCond .le 7, 3)] 61 [(0, pj_O (124, 0))] [] (s, l, x, y) := rfl
set_option maxRecDepth 100000 in
theorem pq_X12_turn_37 (n : Nat) (a1 : Int32) (a2 : Int32) (a3 : Int32) (s : Nat → Int32) (l : Nat → Int64) (x : Nat → Int32) (y : Nat → Int64) : pl_X12_turn_37 (n + 1) a1 a2 a3 s l x y = pj_bl px_X12_turn (pj_rn px_X12_turn (pj_as pk_X12_turn) (pj_as [(37, pe_X12_turn_37 (pl_X12_turn_37 n)), (61, pe_X12_turn_61 (pl_X12_turn_61))]) 60) [(37, .iload_n 3, 1), (38, .iload_n 1, 1), (39, .if_icmp .ge 22, 3)] 37 [(0, pj_O (124, 0)), (1, pj_I a1), (2, pj_I a2), (3, pj_I a3)] [] (s, l, x, y) := rfl
set_option maxRecDepth 100000 in
theorem pq_X12_turn_32 (a1 : Int32) (a2 : Int32) (b1 : Int32) (s : Nat → Int32) (l : Nat → Int64) (x : Nat → Int32) (y : Nat → Int64) : pl_X12_turn_32 a1 a2 b1 s l x y = pj_bl px_X12_turn (pj_rn px_X12_turn (pj_as pk_X12_turn) (pj_as [(37, pe_X12_turn_37 (pl_X12_turn_37 (pj_fu 0)))]) 60) [(32, .putfield 259, 3), (35, .iconst 0, 1), (36, .istore_n 3, 1)] 32 [(0, pj_O (124, 0)), (1, pj_I a1), (2, pj_I a2)] [pj_I b1, pj_O (124, 0)] (s, l, x, y) := rfl
set_option maxRecDepth 100000 in
theorem pq_X12_turn_27 (a1 : Int32) (a2 : Int32) (s : Nat → Int32) (l : Nat → Int64) (x : Nat → Int32) (y : Nat → Int64) : pl_X12_turn_27 a1 a2 s l x y = pj_bl px_X12_turn (pj_rn px_X12_turn (pj_as pk_X12_turn) (pj_as [(32, pe_X12_turn_32 (pl_X12_turn_32))]) 60) [(27, .iconst 1, 1), (28, .goto 4, 3)] 27 [(0, pj_O (124, 0)), (1, pj_I a1), (2, pj_I a2)] [pj_O (124, 0)] (s, l, x, y) := rfl
set_option maxRecDepth 100000 in
theorem pq_X12_turn_m (a1 : Int32) (a2 : Int32) (s : Nat → Int32) (l : Nat → Int64) (x : Nat → Int32) (y : Nat → Int64) : pf_X12_turn a1 a2 s l x y = pj_bl px_X12_turn (pj_rn px_X12_turn (pj_as pk_X12_turn) (pj_as [(27, pe_X12_turn_27 (pl_X12_turn_27)), (32, pe_X12_turn_32 (pl_X12_turn_32))]) 60) [(0, .aload_n 0, 1), (1, .iload_n 1, 1), (2, .i2l, 1), (3, .lconst 1, 1), (4, .ldc2_w 913, 3), (7, .invokestatic 568, 3), (10, .ifCond .eq 17, 3)] 0 [(0, pj_O (124, 0)), (1, pj_I a1), (2, pj_I a2)] [] (s, l, x, y) := rfl
theorem pu_X12_turn_27 {lf : pj_Z → mj_M} {a : Int32 × pj_Z} (f : Int32 → Int32 → pj_F (Int32 × pj_Z)) (hf : ∀ (a1 : Int32) (a2 : Int32) (s : Nat → Int32) (l : Nat → Int64) (x : Nat → Int32) (y : Nat → Int64), f a1 a2 s l x y = some a → pm_Gd 10 12088 ie_X12_turn.1 pm_rI lf 27 [(0, .ref 124), (1, .int a1), (2, .int a2)] [.ref 124] (s, l, x, y) a) : pm_Ex 10 12088 ie_X12_turn.1 pm_rI lf a 27 (pe_X12_turn_27 f) := by
  intro lv st z hd h
  obtain ⟨g0, h⟩ := pj_xr_inv h
  obtain ⟨a1, g1, h⟩ := pj_xi_inv h
  obtain ⟨a2, g2, h⟩ := pj_xi_inv h
  obtain ⟨r0, e0, h⟩ := pj_pr_inv h
  obtain ⟨e9, h⟩ := pj_pe_inv h
  rw [e0, e9]
  exact mj_wp_sub (mj_sub_cons g0 (mj_sub_cons g1 (mj_sub_cons g2 (mj_sub_nil hd)))) (hf _ _ _ _ _ _ h)
theorem pu_X12_turn_32 {lf : pj_Z → mj_M} {a : Int32 × pj_Z} (f : Int32 → Int32 → Int32 → pj_F (Int32 × pj_Z)) (hf : ∀ (a1 : Int32) (a2 : Int32) (b1 : Int32) (s : Nat → Int32) (l : Nat → Int64) (x : Nat → Int32) (y : Nat → Int64), f a1 a2 b1 s l x y = some a → pm_Gd 10 12088 ie_X12_turn.1 pm_rI lf 32 [(0, .ref 124), (1, .int a1), (2, .int a2)] [.int b1, .ref 124] (s, l, x, y) a) : pm_Ex 10 12088 ie_X12_turn.1 pm_rI lf a 32 (pe_X12_turn_32 f) := by
  intro lv st z hd h
  obtain ⟨g0, h⟩ := pj_xr_inv h
  obtain ⟨a1, g1, h⟩ := pj_xi_inv h
  obtain ⟨a2, g2, h⟩ := pj_xi_inv h
  obtain ⟨b1, r1, e1, h⟩ := pj_pi_inv h
  obtain ⟨r0, e0, h⟩ := pj_pr_inv h
  obtain ⟨e9, h⟩ := pj_pe_inv h
  rw [e1, e0, e9]
  exact mj_wp_sub (mj_sub_cons g0 (mj_sub_cons g1 (mj_sub_cons g2 (mj_sub_nil hd)))) (hf _ _ _ _ _ _ _ h)
theorem pu_X12_turn_37 {lf : pj_Z → mj_M} {a : Int32 × pj_Z} (f : Int32 → Int32 → Int32 → pj_F (Int32 × pj_Z)) (hf : ∀ (a1 : Int32) (a2 : Int32) (a3 : Int32) (s : Nat → Int32) (l : Nat → Int64) (x : Nat → Int32) (y : Nat → Int64), f a1 a2 a3 s l x y = some a → pm_Gd 10 12088 ie_X12_turn.1 pm_rI lf 37 [(0, .ref 124), (1, .int a1), (2, .int a2), (3, .int a3)] [] (s, l, x, y) a) : pm_Ex 10 12088 ie_X12_turn.1 pm_rI lf a 37 (pe_X12_turn_37 f) := by
  intro lv st z hd h
  obtain ⟨g0, h⟩ := pj_xr_inv h
  obtain ⟨a1, g1, h⟩ := pj_xi_inv h
  obtain ⟨a2, g2, h⟩ := pj_xi_inv h
  obtain ⟨a3, g3, h⟩ := pj_xi_inv h
  obtain ⟨e9, h⟩ := pj_pe_inv h
  rw [e9]
  exact mj_wp_sub (mj_sub_cons g0 (mj_sub_cons g1 (mj_sub_cons g2 (mj_sub_cons g3 (mj_sub_nil hd))))) (hf _ _ _ _ _ _ _ h)
theorem pu_X12_turn_61 {lf : pj_Z → mj_M} {a : Int32 × pj_Z} (f : pj_F (Int32 × pj_Z)) (hf : ∀  (s : Nat → Int32) (l : Nat → Int64) (x : Nat → Int32) (y : Nat → Int64), f  s l x y = some a → pm_Gd 10 12088 ie_X12_turn.1 pm_rI lf 61 [(0, .ref 124)] [] (s, l, x, y) a) : pm_Ex 10 12088 ie_X12_turn.1 pm_rI lf a 61 (pe_X12_turn_61 f) := by
  intro lv st z hd h
  obtain ⟨g0, h⟩ := pj_xr_inv h
  obtain ⟨e9, h⟩ := pj_pe_inv h
  rw [e9]
  exact mj_wp_sub (mj_sub_cons g0 (mj_sub_nil hd)) (hf  _ _ _ _ h)
set_option maxRecDepth 100000 in
theorem pz_X12_turn {lf : pj_Z → mj_M} (hT : pj_Lt pj_TR lf) : pj_Cok ic_P (mj_R ic_P 10) 12088 ie_X12_turn.1 (pm_OK lf pm_rI) lf px_X12_turn := by
  exact pm_cok (c := px_X12_turn) hT (pm_in_ok (L := [(259, 12, 0, 0, false), (262, 12, 34, 0, false)]) (f := mj_pF ic_P 12088) (by decide +kernel)) (fun _ _ h => by cases h) (pm_inL_ok (L := [(717, 20), (913, 240), (915, 100000)]) (f := mj_pL ic_P 12088) (by decide +kernel)) (fun _ _ h => by cases h) rfl rfl ⟨by decide, rfl⟩ pm_mI (pj_as_all (p := pm_Cl 10 12088 ie_X12_turn.1 lf (pm_OK lf pm_rI)) (List.forall_mem_cons.mpr ⟨fun _ _ lv st z K a hK h => pc_X12_isIn hT (by decide) (ix := 568) rfl rfl hK h, (List.forall_mem_cons.mpr ⟨fun _ _ lv st z K a hK h => pc_X12_isIn hT (by decide) (ix := 568) rfl rfl hK h, (List.forall_mem_cons.mpr ⟨fun _ _ lv st z K a hK h => pc_X12_step hT (by decide) (ix := 917) rfl rfl hK h, (fun _ h => by cases h)⟩)⟩)⟩)) (fun _ h => by cases h)
set_option maxRecDepth 100000 in
theorem pb_X12_turn : pm_bks ie_X12_turn.1.2.2.2.2 pk_X12_turn = true := by decide +kernel
set_option maxRecDepth 100000 in
theorem pg_X12_turn_61 {lf : pj_Z → mj_M} (hT : pj_Lt pj_TR lf) : ∀  (s : Nat → Int32) (l : Nat → Int64) (x : Nat → Int32) (y : Nat → Int64) (a : Int32 × pj_Z), pl_X12_turn_61 s l x y = some a → pm_Gd 10 12088 ie_X12_turn.1 pm_rI lf 61 [(0, .ref 124)] [] (s, l, x, y) a := by
  intro  s l x y a h
  exact pj_bl_ok (pz_X12_turn hT) (fun t lv st z hd h => pj_rn_ok (pz_X12_turn hT) (pm_bks_ok pb_X12_turn) (fun _ _ h => by cases h) 60 t lv st z hd h) [(61, .aload_n 0, 1), (62, .getfield 259, 3), (65, .ifCond .le 7, 3)] 61 [(0, pj_O (124, 0))] [] (s, l, x, y) (pm_bks_ok pb_X12_turn _ _ rfl) (pm_ndb_ok rfl) ((pq_X12_turn_61   s l x y).symm.trans h)
set_option maxRecDepth 100000 in
theorem pg_X12_turn_37 {lf : pj_Z → mj_M} (hT : pj_Lt pj_TR lf) : ∀ (n : Nat), ∀ (a1 : Int32) (a2 : Int32) (a3 : Int32) (s : Nat → Int32) (l : Nat → Int64) (x : Nat → Int32) (y : Nat → Int64) (a : Int32 × pj_Z), pl_X12_turn_37 n a1 a2 a3 s l x y = some a → pm_Gd 10 12088 ie_X12_turn.1 pm_rI lf 37 [(0, .ref 124), (1, .int a1), (2, .int a2), (3, .int a3)] [] (s, l, x, y) a := by
  intro n
  induction n with
  | zero => intro a1 a2 a3 s l x y a h; cases (show (none : Option (Int32 × pj_Z)) = some a from h)
  | succ n ih =>
    intro a1 a2 a3 s l x y a h
    exact pj_bl_ok (pz_X12_turn hT) (fun t lv st z hd h => pj_rn_ok (pz_X12_turn hT) (pm_bks_ok pb_X12_turn) (pj_as_all (p := pm_Ex 10 12088 ie_X12_turn.1 pm_rI lf a) (List.forall_mem_cons.mpr ⟨pu_X12_turn_37 _ (fun c0 c1 c2 s l x y h => ih c0 c1 c2 s l x y _ h), (List.forall_mem_cons.mpr ⟨pu_X12_turn_61 _ (fun  s l x y h => pg_X12_turn_61 hT  s l x y _ h), (fun _ h => by cases h)⟩)⟩)) 60 t lv st z hd h) [(37, .iload_n 3, 1), (38, .iload_n 1, 1), (39, .if_icmp .ge 22, 3)] 37 [(0, pj_O (124, 0)), (1, pj_I a1), (2, pj_I a2), (3, pj_I a3)] [] (s, l, x, y) (pm_bks_ok pb_X12_turn _ _ rfl) (pm_ndb_ok rfl) ((pq_X12_turn_37 n a1 a2 a3 s l x y).symm.trans h)
set_option maxRecDepth 100000 in
theorem pg_X12_turn_32 {lf : pj_Z → mj_M} (hT : pj_Lt pj_TR lf) : ∀ (a1 : Int32) (a2 : Int32) (b1 : Int32) (s : Nat → Int32) (l : Nat → Int64) (x : Nat → Int32) (y : Nat → Int64) (a : Int32 × pj_Z), pl_X12_turn_32 a1 a2 b1 s l x y = some a → pm_Gd 10 12088 ie_X12_turn.1 pm_rI lf 32 [(0, .ref 124), (1, .int a1), (2, .int a2)] [.int b1, .ref 124] (s, l, x, y) a := by
  intro a1 a2 b1 s l x y a h
  exact pj_bl_ok (pz_X12_turn hT) (fun t lv st z hd h => pj_rn_ok (pz_X12_turn hT) (pm_bks_ok pb_X12_turn) (pj_as_all (p := pm_Ex 10 12088 ie_X12_turn.1 pm_rI lf a) (List.forall_mem_cons.mpr ⟨pu_X12_turn_37 _ (fun c0 c1 c2 s l x y h => pg_X12_turn_37 hT (pj_fu 0) c0 c1 c2 s l x y _ h), (fun _ h => by cases h)⟩)) 60 t lv st z hd h) [(32, .putfield 259, 3), (35, .iconst 0, 1), (36, .istore_n 3, 1)] 32 [(0, pj_O (124, 0)), (1, pj_I a1), (2, pj_I a2)] [pj_I b1, pj_O (124, 0)] (s, l, x, y) (pm_bks_ok pb_X12_turn _ _ rfl) (pm_ndb_ok rfl) ((pq_X12_turn_32  a1 a2 b1 s l x y).symm.trans h)
set_option maxRecDepth 100000 in
theorem pg_X12_turn_27 {lf : pj_Z → mj_M} (hT : pj_Lt pj_TR lf) : ∀ (a1 : Int32) (a2 : Int32) (s : Nat → Int32) (l : Nat → Int64) (x : Nat → Int32) (y : Nat → Int64) (a : Int32 × pj_Z), pl_X12_turn_27 a1 a2 s l x y = some a → pm_Gd 10 12088 ie_X12_turn.1 pm_rI lf 27 [(0, .ref 124), (1, .int a1), (2, .int a2)] [.ref 124] (s, l, x, y) a := by
  intro a1 a2 s l x y a h
  exact pj_bl_ok (pz_X12_turn hT) (fun t lv st z hd h => pj_rn_ok (pz_X12_turn hT) (pm_bks_ok pb_X12_turn) (pj_as_all (p := pm_Ex 10 12088 ie_X12_turn.1 pm_rI lf a) (List.forall_mem_cons.mpr ⟨pu_X12_turn_32 _ (fun c0 c1 c2 s l x y h => pg_X12_turn_32 hT c0 c1 c2 s l x y _ h), (fun _ h => by cases h)⟩)) 60 t lv st z hd h) [(27, .iconst 1, 1), (28, .goto 4, 3)] 27 [(0, pj_O (124, 0)), (1, pj_I a1), (2, pj_I a2)] [pj_O (124, 0)] (s, l, x, y) (pm_bks_ok pb_X12_turn _ _ rfl) (pm_ndb_ok rfl) ((pq_X12_turn_27  a1 a2 s l x y).symm.trans h)
set_option maxRecDepth 100000 in
theorem pm_X12_turn {lf : pj_Z → mj_M} (hT : pj_Lt pj_TR lf) (a1 : Int32) (a2 : Int32) (s : Nat → Int32) (l : Nat → Int64) (x : Nat → Int32) (y : Nat → Int64) (a : Int32 × pj_Z) (h : pf_X12_turn a1 a2 s l x y = some a) : mj_R ic_P 11 12088 [.ref 124, .int a1, .int a2] (lf (s, l, x, y)) (pm_rI a.1) (lf a.2) := by
  refine pm_main (Y := ie_X12_turn.1) rfl (Nat.le_of_ble_eq_true rfl) ?_
  exact pj_bl_ok (pz_X12_turn hT) (fun t lv st z hd h => pj_rn_ok (pz_X12_turn hT) (pm_bks_ok pb_X12_turn) (pj_as_all (p := pm_Ex 10 12088 ie_X12_turn.1 pm_rI lf a) (List.forall_mem_cons.mpr ⟨pu_X12_turn_27 _ (fun c0 c1 s l x y h => pg_X12_turn_27 hT c0 c1 s l x y _ h), (List.forall_mem_cons.mpr ⟨pu_X12_turn_32 _ (fun c0 c1 c2 s l x y h => pg_X12_turn_32 hT c0 c1 c2 s l x y _ h), (fun _ h => by cases h)⟩)⟩)) 60 t lv st z hd h) [(0, .aload_n 0, 1), (1, .iload_n 1, 1), (2, .i2l, 1), (3, .lconst 1, 1), (4, .ldc2_w 913, 3), (7, .invokestatic 568, 3), (10, .ifCond .eq 17, 3)] 0 [(0, pj_O (124, 0)), (1, pj_I a1), (2, pj_I a2)] [] (s, l, x, y) (pm_bks_ok pb_X12_turn _ _ rfl) (pm_ndb_ok rfl) ((pq_X12_turn_m a1 a2 s l x y).symm.trans h)
abbrev ph_X12_turn {A : Type} : List pj_V → pj_Z → (List pj_V → pj_Z → Option A) → Option A := fun st z K => pj_pi st fun a2 st => pj_pi st fun a1 st => pj_pr st 124 0 fun st => pj_ps st (pj_b (pf_X12_turn a1 a2 z.1 z.2.1 z.2.2.1 z.2.2.2) fun r s l x y => K (pj_I r :: st) (s, l, x, y))
set_option maxRecDepth 100000 in
theorem pc_X12_turn {A : Type} {OK : A → Option Value → mj_M → Prop} {d j pc ix : Nat} {Y : mj_Y} {lf : pj_Z → mj_M} (hT : pj_Lt pj_TR lf) (hd : 11 ≤ d) (hl : mj_lk Y.2.2.2.2 pc = some (.invokevirtual ix, 3)) (hg : mj_pG ic_P j ix = some (12088, 2, some 12)) {lv : List (Nat × Value)} {st : List pj_V} {z : pj_Z} {K : List pj_V → pj_Z → Option A} {a : A} (hK : ∀ st z, K st z = some a → pj_Gd ic_P (mj_R ic_P d) j Y OK lf (pc + 3) lv (pj_es st) z a) (h : ph_X12_turn st z K = some a) : pj_Gd ic_P (mj_R ic_P d) j Y OK lf pc lv (pj_es st) z a := by
  obtain ⟨a2, r2, e2, h⟩ := pj_pi_inv h
  obtain ⟨a1, r1, e1, h⟩ := pj_pi_inv h
  obtain ⟨r0, e0, h⟩ := pj_pr_inv h
  obtain ⟨hs, h⟩ := pj_ps_inv h
  obtain ⟨q, hq, h⟩ := pj_b_inv h
  exact pm_cv (o := 124) hl hg [.int a1, .int a2] rfl (by rw [e2, e1, e0]; rfl) hs (by decide) ((hT.2 124 _ rfl).1.2 z 0 (by decide)) (pm_rI q.1) hd (pm_X12_turn hT a1 a2 z.1 z.2.1 z.2.2.1 z.2.2.2 q hq) rfl (hK _ _ h)
abbrev pe_X12_run_18 (f : Int32 → Int32 → pj_F (Int32 × pj_Z)) : pj_K (Int32 × pj_Z) := fun lv st z => pj_xr lv 0 124 0 <| pj_xi lv 1 fun a1 => pj_pi st fun b1 st => pj_pr st 124 0 fun st => pj_pe st (f a1 b1 z.1 z.2.1 z.2.2.1 z.2.2.2)
abbrev pe_X12_run_35 (f : Int32 → Int32 → pj_F (Int32 × pj_Z)) : pj_K (Int32 × pj_Z) := fun lv st z => pj_xr lv 0 124 0 <| pj_xi lv 1 fun a1 => pj_xc lv 2 0 <| pj_pi st fun b0 st => pj_pe st (f a1 b0 z.1 z.2.1 z.2.2.1 z.2.2.2)
abbrev pe_X12_run_36 (f : Int32 → Int32 → Int32 → pj_F (Int32 × pj_Z)) : pj_K (Int32 × pj_Z) := fun lv st z => pj_xr lv 0 124 0 <| pj_xi lv 1 fun a1 => pj_xi lv 2 fun a2 => pj_xi lv 3 fun a3 => pj_pe st (f a1 a2 a3 z.1 z.2.1 z.2.2.1 z.2.2.2)
abbrev pe_X12_run_69 (f : Int32 → Int32 → Int32 → pj_F (Int32 × pj_Z)) : pj_K (Int32 × pj_Z) := fun lv st z => pj_xr lv 0 124 0 <| pj_xi lv 1 fun a1 => pj_xi lv 2 fun a2 => pj_xi lv 3 fun a3 => pj_pr st 124 0 fun st => pj_pe st (f a1 a2 a3 z.1 z.2.1 z.2.2.1 z.2.2.2)
abbrev pe_X12_run_73 (f : Int32 → Int32 → Int32 → Int32 → pj_F (Int32 × pj_Z)) : pj_K (Int32 × pj_Z) := fun lv st z => pj_xr lv 0 124 0 <| pj_xi lv 1 fun a1 => pj_xi lv 2 fun a2 => pj_xi lv 3 fun a3 => pj_pi st fun b1 st => pj_pr st 124 0 fun st => pj_pe st (f a1 a2 a3 b1 z.1 z.2.1 z.2.2.1 z.2.2.2)
abbrev px_X12_run : pj_C (Int32 × pj_Z) := (pj_TR, (pj_as [(259, 12, 0, 0, false), (709, 12, 25, 0, false), (920, 12, 26, 3, false)]), (pj_as [(923, 1000000)]), (pj_as [(913, 240)]), (fun _ => none), ic_X, 4, 1, pj_mI, (pj_as [(7, ph_X12_isIn), (105, ph_X12_step), (109, ph_X12_burn)]), fun _ => false)
abbrev pk_X12_run : List (Nat × List (Nat × Instr × Nat)) := [(0, [(0, .aload_n 0, 1), (1, .iload_n 1, 1), (2, .i2l, 1), (3, .lconst 1, 1), (4, .ldc2_w 913, 3), (7, .invokestatic 568, 3), (10, .ifCond .ne 7, 3)]), (13, [(13, .iconst 1, 1), (14, .goto 4, 3)]), (17, [(17, .iconst 0, 1)]), (18, [(18, .putfield 259, 3), (21, .iconst 0, 1), (22, .istore_n 2, 1), (23, .aload_n 0, 1), (24, .getfield 259, 3), (27, .ifCond .ne 7, 3)]), (30, [(30, .iconst 1, 1), (31, .goto 4, 3)]), (34, [(34, .iconst 0, 1)]), (35, [(35, .istore_n 3, 1)]), (36, [(36, .iload_n 3, 1), (37, .ifCond .eq 81, 3)]), (40, [(40, .iload_n 2, 1), (41, .iload_n 1, 1), (42, .if_icmp .ge 76, 3)]), (45, [(45, .aload_n 0, 1), (46, .aload_n 0, 1), (47, .getfield 920, 3), (50, .ifCond .eq 19, 3)]), (53, [(53, .aload_n 0, 1), (54, .getfield 709, 3), (57, .sipush 250, 3), (60, .if_icmp .ge 9, 3)]), (63, [(63, .sipush 250, 3), (66, .goto 7, 3)]), (69, [(69, .aload_n 0, 1), (70, .getfield 709, 3)]), (73, [(73, .putfield 709, 3), (76, .aload_n 0, 1), (77, .getfield 709, 3), (80, .bipush 50, 2), (82, .if_icmp .ge 13, 3)]), (85, [(85, .aload_n 0, 1), (86, .iconst 0, 1), (87, .putfield 709, 3), (90, .iconst 0, 1), (91, .istore_n 3, 1), (92, .goto (-56), 3)]), (95, [(95, .aload_n 0, 1), (96, .ldc_w 923, 3), (99, .aload_n 0, 1), (100, .getfield 709, 3), (103, .idiv, 1), (104, .i2l, 1), (105, .invokevirtual 917, 3), (108, .aload_n 0, 1), (109, .invokevirtual 924, 3), (112, .iinc 2 1, 3), (115, .goto (-79), 3)]), (118, [(118, .iload_n 2, 1), (119, .ireturn, 1)])]
set_option maxRecDepth 100000 in
theorem pq_X12_run_73 (k36 : Int32 → Int32 → Int32 → pj_F (Int32 × pj_Z)) (a1 : Int32) (a2 : Int32) (a3 : Int32) (b1 : Int32) (s : Nat → Int32) (l : Nat → Int64) (x : Nat → Int32) (y : Nat → Int64) : pl_X12_run_73 k36 a1 a2 a3 b1 s l x y = pj_bl px_X12_run (pj_rn px_X12_run (pj_as pk_X12_run) (pj_as [(36, pe_X12_run_36 k36)]) 60) [(73, .putfield 709, 3), (76, .aload_n 0, 1), (77, .getfield 709, 3), (80, .bipush 50, 2), (82, .if_icmp .ge 13, 3)] 73 [(0, pj_O (124, 0)), (1, pj_I a1), (2, pj_I a2), (3, pj_I a3)] [pj_I b1, pj_O (124, 0)] (s, l, x, y) := rfl
set_option maxRecDepth 100000 in
theorem pq_X12_run_69 (k36 : Int32 → Int32 → Int32 → pj_F (Int32 × pj_Z)) (a1 : Int32) (a2 : Int32) (a3 : Int32) (s : Nat → Int32) (l : Nat → Int64) (x : Nat → Int32) (y : Nat → Int64) : pl_X12_run_69 k36 a1 a2 a3 s l x y = pj_bl px_X12_run (pj_rn px_X12_run (pj_as pk_X12_run) (pj_as [(36, pe_X12_run_36 k36), (73, pe_X12_run_73 (pl_X12_run_73 k36))]) 60) [(69, .aload_n 0, 1), (70, .getfield 709, 3)] 69 [(0, pj_O (124, 0)), (1, pj_I a1), (2, pj_I a2), (3, pj_I a3)] [pj_O (124, 0)] (s, l, x, y) := rfl
set_option maxRecDepth 100000 in
theorem pq_X12_run_36 (n : Nat) (a1 : Int32) (a2 : Int32) (a3 : Int32) (s : Nat → Int32) (l : Nat → Int64) (x : Nat → Int32) (y : Nat → Int64) : pl_X12_run_36 (n + 1) a1 a2 a3 s l x y = pj_bl px_X12_run (pj_rn px_X12_run (pj_as pk_X12_run) (pj_as [(36, pe_X12_run_36 (pl_X12_run_36 n)), (69, pe_X12_run_69 (pl_X12_run_69 (pl_X12_run_36 n))), (73, pe_X12_run_73 (pl_X12_run_73 (pl_X12_run_36 n)))]) 60) [(36, .iload_n 3, 1), (37, .ifCond .eq 81, 3)] 36 [(0, pj_O (124, 0)), (1, pj_I a1), (2, pj_I a2), (3, pj_I a3)] [] (s, l, x, y) := rfl
set_option maxRecDepth 100000 in
theorem pq_X12_run_35 (a1 : Int32) (b0 : Int32) (s : Nat → Int32) (l : Nat → Int64) (x : Nat → Int32) (y : Nat → Int64) : pl_X12_run_35 a1 b0 s l x y = pj_bl px_X12_run (pj_rn px_X12_run (pj_as pk_X12_run) (pj_as [(36, pe_X12_run_36 (pl_X12_run_36 (pj_fu 0)))]) 60) [(35, .istore_n 3, 1)] 35 [(0, pj_O (124, 0)), (1, pj_I a1), (2, pj_N 0)] [pj_I b0] (s, l, x, y) := rfl
set_option maxRecDepth 100000 in
theorem pq_X12_run_18 (a1 : Int32) (b1 : Int32) (s : Nat → Int32) (l : Nat → Int64) (x : Nat → Int32) (y : Nat → Int64) : pl_X12_run_18 a1 b1 s l x y = pj_bl px_X12_run (pj_rn px_X12_run (pj_as pk_X12_run) (pj_as [(35, pe_X12_run_35 (pl_X12_run_35))]) 60) [(18, .putfield 259, 3), (21, .iconst 0, 1), (22, .istore_n 2, 1), (23, .aload_n 0, 1), (24, .getfield 259, 3), (27, .ifCond .ne 7, 3)] 18 [(0, pj_O (124, 0)), (1, pj_I a1)] [pj_I b1, pj_O (124, 0)] (s, l, x, y) := rfl
set_option maxRecDepth 100000 in
theorem pq_X12_run_m (a1 : Int32) (s : Nat → Int32) (l : Nat → Int64) (x : Nat → Int32) (y : Nat → Int64) : pf_X12_run a1 s l x y = pj_bl px_X12_run (pj_rn px_X12_run (pj_as pk_X12_run) (pj_as [(18, pe_X12_run_18 (pl_X12_run_18))]) 60) [(0, .aload_n 0, 1), (1, .iload_n 1, 1), (2, .i2l, 1), (3, .lconst 1, 1), (4, .ldc2_w 913, 3), (7, .invokestatic 568, 3), (10, .ifCond .ne 7, 3)] 0 [(0, pj_O (124, 0)), (1, pj_I a1)] [] (s, l, x, y) := rfl
theorem pu_X12_run_18 {lf : pj_Z → mj_M} {a : Int32 × pj_Z} (f : Int32 → Int32 → pj_F (Int32 × pj_Z)) (hf : ∀ (a1 : Int32) (b1 : Int32) (s : Nat → Int32) (l : Nat → Int64) (x : Nat → Int32) (y : Nat → Int64), f a1 b1 s l x y = some a → pm_Gd 10 12089 ie_X12_run.1 pm_rI lf 18 [(0, .ref 124), (1, .int a1)] [.int b1, .ref 124] (s, l, x, y) a) : pm_Ex 10 12089 ie_X12_run.1 pm_rI lf a 18 (pe_X12_run_18 f) := by
  intro lv st z hd h
  obtain ⟨g0, h⟩ := pj_xr_inv h
  obtain ⟨a1, g1, h⟩ := pj_xi_inv h
  obtain ⟨b1, r1, e1, h⟩ := pj_pi_inv h
  obtain ⟨r0, e0, h⟩ := pj_pr_inv h
  obtain ⟨e9, h⟩ := pj_pe_inv h
  rw [e1, e0, e9]
  exact mj_wp_sub (mj_sub_cons g0 (mj_sub_cons g1 (mj_sub_nil hd))) (hf _ _ _ _ _ _ h)
theorem pu_X12_run_35 {lf : pj_Z → mj_M} {a : Int32 × pj_Z} (f : Int32 → Int32 → pj_F (Int32 × pj_Z)) (hf : ∀ (a1 : Int32) (b0 : Int32) (s : Nat → Int32) (l : Nat → Int64) (x : Nat → Int32) (y : Nat → Int64), f a1 b0 s l x y = some a → pm_Gd 10 12089 ie_X12_run.1 pm_rI lf 35 [(0, .ref 124), (1, .int a1), (2, .int (Int32.ofInt 0))] [.int b0] (s, l, x, y) a) : pm_Ex 10 12089 ie_X12_run.1 pm_rI lf a 35 (pe_X12_run_35 f) := by
  intro lv st z hd h
  obtain ⟨g0, h⟩ := pj_xr_inv h
  obtain ⟨a1, g1, h⟩ := pj_xi_inv h
  obtain ⟨g2, h⟩ := pj_xc_inv h
  obtain ⟨b0, r0, e0, h⟩ := pj_pi_inv h
  obtain ⟨e9, h⟩ := pj_pe_inv h
  rw [e0, e9]
  exact mj_wp_sub (mj_sub_cons g0 (mj_sub_cons g1 (mj_sub_cons g2 (mj_sub_nil hd)))) (hf _ _ _ _ _ _ h)
theorem pu_X12_run_36 {lf : pj_Z → mj_M} {a : Int32 × pj_Z} (f : Int32 → Int32 → Int32 → pj_F (Int32 × pj_Z)) (hf : ∀ (a1 : Int32) (a2 : Int32) (a3 : Int32) (s : Nat → Int32) (l : Nat → Int64) (x : Nat → Int32) (y : Nat → Int64), f a1 a2 a3 s l x y = some a → pm_Gd 10 12089 ie_X12_run.1 pm_rI lf 36 [(0, .ref 124), (1, .int a1), (2, .int a2), (3, .int a3)] [] (s, l, x, y) a) : pm_Ex 10 12089 ie_X12_run.1 pm_rI lf a 36 (pe_X12_run_36 f) := by
  intro lv st z hd h
  obtain ⟨g0, h⟩ := pj_xr_inv h
  obtain ⟨a1, g1, h⟩ := pj_xi_inv h
  obtain ⟨a2, g2, h⟩ := pj_xi_inv h
  obtain ⟨a3, g3, h⟩ := pj_xi_inv h
  obtain ⟨e9, h⟩ := pj_pe_inv h
  rw [e9]
  exact mj_wp_sub (mj_sub_cons g0 (mj_sub_cons g1 (mj_sub_cons g2 (mj_sub_cons g3 (mj_sub_nil hd))))) (hf _ _ _ _ _ _ _ h)
theorem pu_X12_run_69 {lf : pj_Z → mj_M} {a : Int32 × pj_Z} (f : Int32 → Int32 → Int32 → pj_F (Int32 × pj_Z)) (hf : ∀ (a1 : Int32) (a2 : Int32) (a3 : Int32) (s : Nat → Int32) (l : Nat → Int64) (x : Nat → Int32) (y : Nat → Int64), f a1 a2 a3 s l x y = some a → pm_Gd 10 12089 ie_X12_run.1 pm_rI lf 69 [(0, .ref 124), (1, .int a1), (2, .int a2), (3, .int a3)] [.ref 124] (s, l, x, y) a) : pm_Ex 10 12089 ie_X12_run.1 pm_rI lf a 69 (pe_X12_run_69 f) := by
  intro lv st z hd h
  obtain ⟨g0, h⟩ := pj_xr_inv h
  obtain ⟨a1, g1, h⟩ := pj_xi_inv h
  obtain ⟨a2, g2, h⟩ := pj_xi_inv h
  obtain ⟨a3, g3, h⟩ := pj_xi_inv h
  obtain ⟨r0, e0, h⟩ := pj_pr_inv h
  obtain ⟨e9, h⟩ := pj_pe_inv h
  rw [e0, e9]
  exact mj_wp_sub (mj_sub_cons g0 (mj_sub_cons g1 (mj_sub_cons g2 (mj_sub_cons g3 (mj_sub_nil hd))))) (hf _ _ _ _ _ _ _ h)
theorem pu_X12_run_73 {lf : pj_Z → mj_M} {a : Int32 × pj_Z} (f : Int32 → Int32 → Int32 → Int32 → pj_F (Int32 × pj_Z)) (hf : ∀ (a1 : Int32) (a2 : Int32) (a3 : Int32) (b1 : Int32) (s : Nat → Int32) (l : Nat → Int64) (x : Nat → Int32) (y : Nat → Int64), f a1 a2 a3 b1 s l x y = some a → pm_Gd 10 12089 ie_X12_run.1 pm_rI lf 73 [(0, .ref 124), (1, .int a1), (2, .int a2), (3, .int a3)] [.int b1, .ref 124] (s, l, x, y) a) : pm_Ex 10 12089 ie_X12_run.1 pm_rI lf a 73 (pe_X12_run_73 f) := by
  intro lv st z hd h
  obtain ⟨g0, h⟩ := pj_xr_inv h
  obtain ⟨a1, g1, h⟩ := pj_xi_inv h
  obtain ⟨a2, g2, h⟩ := pj_xi_inv h
  obtain ⟨a3, g3, h⟩ := pj_xi_inv h
  obtain ⟨b1, r1, e1, h⟩ := pj_pi_inv h
  obtain ⟨r0, e0, h⟩ := pj_pr_inv h
  obtain ⟨e9, h⟩ := pj_pe_inv h
  rw [e1, e0, e9]
  exact mj_wp_sub (mj_sub_cons g0 (mj_sub_cons g1 (mj_sub_cons g2 (mj_sub_cons g3 (mj_sub_nil hd))))) (hf _ _ _ _ _ _ _ _ h)
set_option maxRecDepth 100000 in
theorem pz_X12_run {lf : pj_Z → mj_M} (hT : pj_Lt pj_TR lf) : pj_Cok ic_P (mj_R ic_P 10) 12089 ie_X12_run.1 (pm_OK lf pm_rI) lf px_X12_run := by
  exact pm_cok (c := px_X12_run) hT (pm_in_ok (L := [(259, 12, 0, 0, false), (709, 12, 25, 0, false), (920, 12, 26, 3, false)]) (f := mj_pF ic_P 12089) (by decide +kernel)) (pm_inI_ok (L := [(923, 1000000)]) (f := mj_pK ic_P 12089) (by decide +kernel)) (pm_inL_ok (L := [(913, 240)]) (f := mj_pL ic_P 12089) (by decide +kernel)) (fun _ _ h => by cases h) rfl rfl ⟨by decide, rfl⟩ pm_mI (pj_as_all (p := pm_Cl 10 12089 ie_X12_run.1 lf (pm_OK lf pm_rI)) (List.forall_mem_cons.mpr ⟨fun _ _ lv st z K a hK h => pc_X12_isIn hT (by decide) (ix := 568) rfl rfl hK h, (List.forall_mem_cons.mpr ⟨fun _ _ lv st z K a hK h => pc_X12_step hT (by decide) (ix := 917) rfl rfl hK h, (List.forall_mem_cons.mpr ⟨fun _ _ lv st z K a hK h => pc_X12_burn hT (by decide) (ix := 924) rfl rfl hK h, (fun _ h => by cases h)⟩)⟩)⟩)) (fun _ h => by cases h)
set_option maxRecDepth 100000 in
theorem pb_X12_run : pm_bks ie_X12_run.1.2.2.2.2 pk_X12_run = true := by decide +kernel
set_option maxRecDepth 100000 in
theorem pg_X12_run_73 {lf : pj_Z → mj_M} (hT : pj_Lt pj_TR lf) {k36 : Int32 → Int32 → Int32 → pj_F (Int32 × pj_Z)} (hk36 : ∀ (a1 : Int32) (a2 : Int32) (a3 : Int32) (s : Nat → Int32) (l : Nat → Int64) (x : Nat → Int32) (y : Nat → Int64) (a : Int32 × pj_Z), k36 a1 a2 a3 s l x y = some a → pm_Gd 10 12089 ie_X12_run.1 pm_rI lf 36 [(0, .ref 124), (1, .int a1), (2, .int a2), (3, .int a3)] [] (s, l, x, y) a) : ∀ (a1 : Int32) (a2 : Int32) (a3 : Int32) (b1 : Int32) (s : Nat → Int32) (l : Nat → Int64) (x : Nat → Int32) (y : Nat → Int64) (a : Int32 × pj_Z), pl_X12_run_73 k36 a1 a2 a3 b1 s l x y = some a → pm_Gd 10 12089 ie_X12_run.1 pm_rI lf 73 [(0, .ref 124), (1, .int a1), (2, .int a2), (3, .int a3)] [.int b1, .ref 124] (s, l, x, y) a := by
  intro a1 a2 a3 b1 s l x y a h
  exact pj_bl_ok (pz_X12_run hT) (fun t lv st z hd h => pj_rn_ok (pz_X12_run hT) (pm_bks_ok pb_X12_run) (pj_as_all (p := pm_Ex 10 12089 ie_X12_run.1 pm_rI lf a) (List.forall_mem_cons.mpr ⟨pu_X12_run_36 _ (fun c0 c1 c2 s l x y h => hk36 c0 c1 c2 s l x y _ h), (fun _ h => by cases h)⟩)) 60 t lv st z hd h) [(73, .putfield 709, 3), (76, .aload_n 0, 1), (77, .getfield 709, 3), (80, .bipush 50, 2), (82, .if_icmp .ge 13, 3)] 73 [(0, pj_O (124, 0)), (1, pj_I a1), (2, pj_I a2), (3, pj_I a3)] [pj_I b1, pj_O (124, 0)] (s, l, x, y) (pm_bks_ok pb_X12_run _ _ rfl) (pm_ndb_ok rfl) ((pq_X12_run_73 k36 a1 a2 a3 b1 s l x y).symm.trans h)
set_option maxRecDepth 100000 in
theorem pg_X12_run_69 {lf : pj_Z → mj_M} (hT : pj_Lt pj_TR lf) {k36 : Int32 → Int32 → Int32 → pj_F (Int32 × pj_Z)} (hk36 : ∀ (a1 : Int32) (a2 : Int32) (a3 : Int32) (s : Nat → Int32) (l : Nat → Int64) (x : Nat → Int32) (y : Nat → Int64) (a : Int32 × pj_Z), k36 a1 a2 a3 s l x y = some a → pm_Gd 10 12089 ie_X12_run.1 pm_rI lf 36 [(0, .ref 124), (1, .int a1), (2, .int a2), (3, .int a3)] [] (s, l, x, y) a) : ∀ (a1 : Int32) (a2 : Int32) (a3 : Int32) (s : Nat → Int32) (l : Nat → Int64) (x : Nat → Int32) (y : Nat → Int64) (a : Int32 × pj_Z), pl_X12_run_69 k36 a1 a2 a3 s l x y = some a → pm_Gd 10 12089 ie_X12_run.1 pm_rI lf 69 [(0, .ref 124), (1, .int a1), (2, .int a2), (3, .int a3)] [.ref 124] (s, l, x, y) a := by
  intro a1 a2 a3 s l x y a h
  exact pj_bl_ok (pz_X12_run hT) (fun t lv st z hd h => pj_rn_ok (pz_X12_run hT) (pm_bks_ok pb_X12_run) (pj_as_all (p := pm_Ex 10 12089 ie_X12_run.1 pm_rI lf a) (List.forall_mem_cons.mpr ⟨pu_X12_run_36 _ (fun c0 c1 c2 s l x y h => hk36 c0 c1 c2 s l x y _ h), (List.forall_mem_cons.mpr ⟨pu_X12_run_73 _ (fun c0 c1 c2 c3 s l x y h => pg_X12_run_73 hT hk36 c0 c1 c2 c3 s l x y _ h), (fun _ h => by cases h)⟩)⟩)) 60 t lv st z hd h) [(69, .aload_n 0, 1), (70, .getfield 709, 3)] 69 [(0, pj_O (124, 0)), (1, pj_I a1), (2, pj_I a2), (3, pj_I a3)] [pj_O (124, 0)] (s, l, x, y) (pm_bks_ok pb_X12_run _ _ rfl) (pm_ndb_ok rfl) ((pq_X12_run_69 k36 a1 a2 a3 s l x y).symm.trans h)
set_option maxRecDepth 100000 in
theorem pg_X12_run_36 {lf : pj_Z → mj_M} (hT : pj_Lt pj_TR lf) : ∀ (n : Nat), ∀ (a1 : Int32) (a2 : Int32) (a3 : Int32) (s : Nat → Int32) (l : Nat → Int64) (x : Nat → Int32) (y : Nat → Int64) (a : Int32 × pj_Z), pl_X12_run_36 n a1 a2 a3 s l x y = some a → pm_Gd 10 12089 ie_X12_run.1 pm_rI lf 36 [(0, .ref 124), (1, .int a1), (2, .int a2), (3, .int a3)] [] (s, l, x, y) a := by
  intro n
  induction n with
  | zero => intro a1 a2 a3 s l x y a h; cases (show (none : Option (Int32 × pj_Z)) = some a from h)
  | succ n ih =>
    intro a1 a2 a3 s l x y a h
    exact pj_bl_ok (pz_X12_run hT) (fun t lv st z hd h => pj_rn_ok (pz_X12_run hT) (pm_bks_ok pb_X12_run) (pj_as_all (p := pm_Ex 10 12089 ie_X12_run.1 pm_rI lf a) (List.forall_mem_cons.mpr ⟨pu_X12_run_36 _ (fun c0 c1 c2 s l x y h => ih c0 c1 c2 s l x y _ h), (List.forall_mem_cons.mpr ⟨pu_X12_run_69 _ (fun c0 c1 c2 s l x y h => pg_X12_run_69 hT (fun a1 a2 a3 s l x y a h => ih a1 a2 a3 s l x y a h) c0 c1 c2 s l x y _ h), (List.forall_mem_cons.mpr ⟨pu_X12_run_73 _ (fun c0 c1 c2 c3 s l x y h => pg_X12_run_73 hT (fun a1 a2 a3 s l x y a h => ih a1 a2 a3 s l x y a h) c0 c1 c2 c3 s l x y _ h), (fun _ h => by cases h)⟩)⟩)⟩)) 60 t lv st z hd h) [(36, .iload_n 3, 1), (37, .ifCond .eq 81, 3)] 36 [(0, pj_O (124, 0)), (1, pj_I a1), (2, pj_I a2), (3, pj_I a3)] [] (s, l, x, y) (pm_bks_ok pb_X12_run _ _ rfl) (pm_ndb_ok rfl) ((pq_X12_run_36 n a1 a2 a3 s l x y).symm.trans h)
set_option maxRecDepth 100000 in
theorem pg_X12_run_35 {lf : pj_Z → mj_M} (hT : pj_Lt pj_TR lf) : ∀ (a1 : Int32) (b0 : Int32) (s : Nat → Int32) (l : Nat → Int64) (x : Nat → Int32) (y : Nat → Int64) (a : Int32 × pj_Z), pl_X12_run_35 a1 b0 s l x y = some a → pm_Gd 10 12089 ie_X12_run.1 pm_rI lf 35 [(0, .ref 124), (1, .int a1), (2, .int (Int32.ofInt 0))] [.int b0] (s, l, x, y) a := by
  intro a1 b0 s l x y a h
  exact pj_bl_ok (pz_X12_run hT) (fun t lv st z hd h => pj_rn_ok (pz_X12_run hT) (pm_bks_ok pb_X12_run) (pj_as_all (p := pm_Ex 10 12089 ie_X12_run.1 pm_rI lf a) (List.forall_mem_cons.mpr ⟨pu_X12_run_36 _ (fun c0 c1 c2 s l x y h => pg_X12_run_36 hT (pj_fu 0) c0 c1 c2 s l x y _ h), (fun _ h => by cases h)⟩)) 60 t lv st z hd h) [(35, .istore_n 3, 1)] 35 [(0, pj_O (124, 0)), (1, pj_I a1), (2, pj_N 0)] [pj_I b0] (s, l, x, y) (pm_bks_ok pb_X12_run _ _ rfl) (pm_ndb_ok rfl) ((pq_X12_run_35  a1 b0 s l x y).symm.trans h)
set_option maxRecDepth 100000 in
theorem pg_X12_run_18 {lf : pj_Z → mj_M} (hT : pj_Lt pj_TR lf) : ∀ (a1 : Int32) (b1 : Int32) (s : Nat → Int32) (l : Nat → Int64) (x : Nat → Int32) (y : Nat → Int64) (a : Int32 × pj_Z), pl_X12_run_18 a1 b1 s l x y = some a → pm_Gd 10 12089 ie_X12_run.1 pm_rI lf 18 [(0, .ref 124), (1, .int a1)] [.int b1, .ref 124] (s, l, x, y) a := by
  intro a1 b1 s l x y a h
  exact pj_bl_ok (pz_X12_run hT) (fun t lv st z hd h => pj_rn_ok (pz_X12_run hT) (pm_bks_ok pb_X12_run) (pj_as_all (p := pm_Ex 10 12089 ie_X12_run.1 pm_rI lf a) (List.forall_mem_cons.mpr ⟨pu_X12_run_35 _ (fun c0 c1 s l x y h => pg_X12_run_35 hT c0 c1 s l x y _ h), (fun _ h => by cases h)⟩)) 60 t lv st z hd h) [(18, .putfield 259, 3), (21, .iconst 0, 1), (22, .istore_n 2, 1), (23, .aload_n 0, 1), (24, .getfield 259, 3), (27, .ifCond .ne 7, 3)] 18 [(0, pj_O (124, 0)), (1, pj_I a1)] [pj_I b1, pj_O (124, 0)] (s, l, x, y) (pm_bks_ok pb_X12_run _ _ rfl) (pm_ndb_ok rfl) ((pq_X12_run_18  a1 b1 s l x y).symm.trans h)
set_option maxRecDepth 100000 in
theorem pm_X12_run {lf : pj_Z → mj_M} (hT : pj_Lt pj_TR lf) (a1 : Int32) (s : Nat → Int32) (l : Nat → Int64) (x : Nat → Int32) (y : Nat → Int64) (a : Int32 × pj_Z) (h : pf_X12_run a1 s l x y = some a) : mj_R ic_P 11 12089 [.ref 124, .int a1] (lf (s, l, x, y)) (pm_rI a.1) (lf a.2) := by
  refine pm_main (Y := ie_X12_run.1) rfl (Nat.le_of_ble_eq_true rfl) ?_
  exact pj_bl_ok (pz_X12_run hT) (fun t lv st z hd h => pj_rn_ok (pz_X12_run hT) (pm_bks_ok pb_X12_run) (pj_as_all (p := pm_Ex 10 12089 ie_X12_run.1 pm_rI lf a) (List.forall_mem_cons.mpr ⟨pu_X12_run_18 _ (fun c0 c1 s l x y h => pg_X12_run_18 hT c0 c1 s l x y _ h), (fun _ h => by cases h)⟩)) 60 t lv st z hd h) [(0, .aload_n 0, 1), (1, .iload_n 1, 1), (2, .i2l, 1), (3, .lconst 1, 1), (4, .ldc2_w 913, 3), (7, .invokestatic 568, 3), (10, .ifCond .ne 7, 3)] 0 [(0, pj_O (124, 0)), (1, pj_I a1)] [] (s, l, x, y) (pm_bks_ok pb_X12_run _ _ rfl) (pm_ndb_ok rfl) ((pq_X12_run_m a1 s l x y).symm.trans h)
abbrev ph_X12_run {A : Type} : List pj_V → pj_Z → (List pj_V → pj_Z → Option A) → Option A := fun st z K => pj_pi st fun a1 st => pj_pr st 124 0 fun st => pj_ps st (pj_b (pf_X12_run a1 z.1 z.2.1 z.2.2.1 z.2.2.2) fun r s l x y => K (pj_I r :: st) (s, l, x, y))
set_option maxRecDepth 100000 in
theorem pc_X12_run {A : Type} {OK : A → Option Value → mj_M → Prop} {d j pc ix : Nat} {Y : mj_Y} {lf : pj_Z → mj_M} (hT : pj_Lt pj_TR lf) (hd : 11 ≤ d) (hl : mj_lk Y.2.2.2.2 pc = some (.invokevirtual ix, 3)) (hg : mj_pG ic_P j ix = some (12089, 1, some 12)) {lv : List (Nat × Value)} {st : List pj_V} {z : pj_Z} {K : List pj_V → pj_Z → Option A} {a : A} (hK : ∀ st z, K st z = some a → pj_Gd ic_P (mj_R ic_P d) j Y OK lf (pc + 3) lv (pj_es st) z a) (h : ph_X12_run st z K = some a) : pj_Gd ic_P (mj_R ic_P d) j Y OK lf pc lv (pj_es st) z a := by
  obtain ⟨a1, r1, e1, h⟩ := pj_pi_inv h
  obtain ⟨r0, e0, h⟩ := pj_pr_inv h
  obtain ⟨hs, h⟩ := pj_ps_inv h
  obtain ⟨q, hq, h⟩ := pj_b_inv h
  exact pm_cv (o := 124) hl hg [.int a1] rfl (by rw [e1, e0]; rfl) hs (by decide) ((hT.2 124 _ rfl).1.2 z 0 (by decide)) (pm_rI q.1) hd (pm_X12_run hT a1 z.1 z.2.1 z.2.2.1 z.2.2.2 q hq) rfl (hK _ _ h)
abbrev pe_X12_set_16 (f : Int32 → Int32 → Int32 → pj_F (Int32 × pj_Z)) : pj_K (Int32 × pj_Z) := fun lv st z => pj_xr lv 0 124 0 <| pj_xi lv 1 fun a1 => pj_xi lv 2 fun a2 => pj_pi st fun b1 st => pj_pr st 124 0 fun st => pj_pe st (f a1 a2 b1 z.1 z.2.1 z.2.2.1 z.2.2.2)
abbrev pe_X12_set_43 (f : Int32 → Int32 → Int32 → pj_F (Int32 × pj_Z)) : pj_K (Int32 × pj_Z) := fun lv st z => pj_xr lv 0 124 0 <| pj_xi lv 1 fun a1 => pj_xi lv 2 fun a2 => pj_pi st fun b0 st => pj_pe st (f a1 a2 b0 z.1 z.2.1 z.2.2.1 z.2.2.2)
abbrev pe_X12_set_57 (f : Int32 → Int32 → Int32 → Int32 → pj_F (Int32 × pj_Z)) : pj_K (Int32 × pj_Z) := fun lv st z => pj_xr lv 0 124 0 <| pj_xi lv 1 fun a1 => pj_xi lv 2 fun a2 => pj_xi lv 3 fun a3 => pj_pi st fun b1 st => pj_pr st 124 0 fun st => pj_pe st (f a1 a2 a3 b1 z.1 z.2.1 z.2.2.1 z.2.2.2)
abbrev pe_X12_set_74 (f : Int32 → Int32 → Int32 → pj_F (Int32 × pj_Z)) : pj_K (Int32 × pj_Z) := fun lv st z => pj_xi lv 2 fun a2 => pj_xi lv 3 fun a3 => pj_pi st fun b1 st => pj_pr st 124 0 fun st => pj_pe st (f a2 a3 b1 z.1 z.2.1 z.2.2.1 z.2.2.2)
abbrev px_X12_set : pj_C (Int32 × pj_Z) := (pj_TR, (pj_as [(259, 12, 0, 0, false), (747, 12, 27, 3, false), (920, 12, 26, 3, false)]), (fun _ => none), (fun _ => none), (fun _ => none), ic_X, 4, 2, pj_mI, (pj_as [(5, ph_X12_isIn)]), fun _ => false)
abbrev pk_X12_set : List (Nat × List (Nat × Instr × Nat)) := [(0, [(0, .aload_n 0, 1), (1, .iload_n 1, 1), (2, .i2l, 1), (3, .lconst 0, 1), (4, .lconst 1, 1), (5, .invokestatic 568, 3), (8, .ifCond .ne 7, 3)]), (11, [(11, .iconst 1, 1), (12, .goto 4, 3)]), (15, [(15, .iconst 0, 1)]), (16, [(16, .putfield 259, 3), (19, .aload_n 0, 1), (20, .getfield 259, 3), (23, .ifCond .le 5, 3)]), (26, [(26, .iconst 0, 1), (27, .ireturn, 1)]), (28, [(28, .iload_n 1, 1), (29, .ifCond .ne 10, 3)]), (32, [(32, .aload_n 0, 1), (33, .getfield 920, 3), (36, .goto 7, 3)]), (39, [(39, .aload_n 0, 1), (40, .getfield 747, 3)]), (43, [(43, .istore_n 3, 1), (44, .aload_n 0, 1), (45, .iload_n 1, 1), (46, .ifCond .ne 7, 3)]), (49, [(49, .iload_n 2, 1), (50, .goto 7, 3)]), (53, [(53, .aload_n 0, 1), (54, .getfield 920, 3)]), (57, [(57, .putfield 920, 3), (60, .aload_n 0, 1), (61, .iload_n 1, 1), (62, .iconst 1, 1), (63, .if_icmp .ne 7, 3)]), (66, [(66, .iload_n 2, 1), (67, .goto 7, 3)]), (70, [(70, .aload_n 0, 1), (71, .getfield 747, 3)]), (74, [(74, .putfield 747, 3), (77, .iload_n 3, 1), (78, .iload_n 2, 1), (79, .if_icmp .eq 7, 3)]), (82, [(82, .iconst 1, 1), (83, .goto 4, 3)]), (86, [(86, .iconst 0, 1)]), (87, [(87, .ireturn, 1)])]
set_option maxRecDepth 100000 in
theorem pq_X12_set_74 (a2 : Int32) (a3 : Int32) (b1 : Int32) (s : Nat → Int32) (l : Nat → Int64) (x : Nat → Int32) (y : Nat → Int64) : pl_X12_set_74 a2 a3 b1 s l x y = pj_bl px_X12_set (pj_rn px_X12_set (pj_as pk_X12_set) (fun _ => none) 60) [(74, .putfield 747, 3), (77, .iload_n 3, 1), (78, .iload_n 2, 1), (79, .if_icmp .eq 7, 3)] 74 [(2, pj_I a2), (3, pj_I a3)] [pj_I b1, pj_O (124, 0)] (s, l, x, y) := rfl
set_option maxRecDepth 100000 in
theorem pq_X12_set_57 (a1 : Int32) (a2 : Int32) (a3 : Int32) (b1 : Int32) (s : Nat → Int32) (l : Nat → Int64) (x : Nat → Int32) (y : Nat → Int64) : pl_X12_set_57 a1 a2 a3 b1 s l x y = pj_bl px_X12_set (pj_rn px_X12_set (pj_as pk_X12_set) (pj_as [(74, pe_X12_set_74 (pl_X12_set_74))]) 60) [(57, .putfield 920, 3), (60, .aload_n 0, 1), (61, .iload_n 1, 1), (62, .iconst 1, 1), (63, .if_icmp .ne 7, 3)] 57 [(0, pj_O (124, 0)), (1, pj_I a1), (2, pj_I a2), (3, pj_I a3)] [pj_I b1, pj_O (124, 0)] (s, l, x, y) := rfl
set_option maxRecDepth 100000 in
theorem pq_X12_set_43 (a1 : Int32) (a2 : Int32) (b0 : Int32) (s : Nat → Int32) (l : Nat → Int64) (x : Nat → Int32) (y : Nat → Int64) : pl_X12_set_43 a1 a2 b0 s l x y = pj_bl px_X12_set (pj_rn px_X12_set (pj_as pk_X12_set) (pj_as [(57, pe_X12_set_57 (pl_X12_set_57))]) 60) [(43, .istore_n 3, 1), (44, .aload_n 0, 1), (45, .iload_n 1, 1), (46, .ifCond .ne 7, 3)] 43 [(0, pj_O (124, 0)), (1, pj_I a1), (2, pj_I a2)] [pj_I b0] (s, l, x, y) := rfl
set_option maxRecDepth 100000 in
theorem pq_X12_set_16 (a1 : Int32) (a2 : Int32) (b1 : Int32) (s : Nat → Int32) (l : Nat → Int64) (x : Nat → Int32) (y : Nat → Int64) : pl_X12_set_16 a1 a2 b1 s l x y = pj_bl px_X12_set (pj_rn px_X12_set (pj_as pk_X12_set) (pj_as [(43, pe_X12_set_43 (pl_X12_set_43))]) 60) [(16, .putfield 259, 3), (19, .aload_n 0, 1), (20, .getfield 259, 3), (23, .ifCond .le 5, 3)] 16 [(0, pj_O (124, 0)), (1, pj_I a1), (2, pj_I a2)] [pj_I b1, pj_O (124, 0)] (s, l, x, y) := rfl
set_option maxRecDepth 100000 in
theorem pq_X12_set_m (a1 : Int32) (a2 : Int32) (s : Nat → Int32) (l : Nat → Int64) (x : Nat → Int32) (y : Nat → Int64) : pf_X12_set a1 a2 s l x y = pj_bl px_X12_set (pj_rn px_X12_set (pj_as pk_X12_set) (pj_as [(16, pe_X12_set_16 (pl_X12_set_16))]) 60) [(0, .aload_n 0, 1), (1, .iload_n 1, 1), (2, .i2l, 1), (3, .lconst 0, 1), (4, .lconst 1, 1), (5, .invokestatic 568, 3), (8, .ifCond .ne 7, 3)] 0 [(0, pj_O (124, 0)), (1, pj_I a1), (2, pj_I a2)] [] (s, l, x, y) := rfl
theorem pu_X12_set_16 {lf : pj_Z → mj_M} {a : Int32 × pj_Z} (f : Int32 → Int32 → Int32 → pj_F (Int32 × pj_Z)) (hf : ∀ (a1 : Int32) (a2 : Int32) (b1 : Int32) (s : Nat → Int32) (l : Nat → Int64) (x : Nat → Int32) (y : Nat → Int64), f a1 a2 b1 s l x y = some a → pm_Gd 1 12090 ie_X12_set.1 pm_rI lf 16 [(0, .ref 124), (1, .int a1), (2, .int a2)] [.int b1, .ref 124] (s, l, x, y) a) : pm_Ex 1 12090 ie_X12_set.1 pm_rI lf a 16 (pe_X12_set_16 f) := by
  intro lv st z hd h
  obtain ⟨g0, h⟩ := pj_xr_inv h
  obtain ⟨a1, g1, h⟩ := pj_xi_inv h
  obtain ⟨a2, g2, h⟩ := pj_xi_inv h
  obtain ⟨b1, r1, e1, h⟩ := pj_pi_inv h
  obtain ⟨r0, e0, h⟩ := pj_pr_inv h
  obtain ⟨e9, h⟩ := pj_pe_inv h
  rw [e1, e0, e9]
  exact mj_wp_sub (mj_sub_cons g0 (mj_sub_cons g1 (mj_sub_cons g2 (mj_sub_nil hd)))) (hf _ _ _ _ _ _ _ h)
theorem pu_X12_set_43 {lf : pj_Z → mj_M} {a : Int32 × pj_Z} (f : Int32 → Int32 → Int32 → pj_F (Int32 × pj_Z)) (hf : ∀ (a1 : Int32) (a2 : Int32) (b0 : Int32) (s : Nat → Int32) (l : Nat → Int64) (x : Nat → Int32) (y : Nat → Int64), f a1 a2 b0 s l x y = some a → pm_Gd 1 12090 ie_X12_set.1 pm_rI lf 43 [(0, .ref 124), (1, .int a1), (2, .int a2)] [.int b0] (s, l, x, y) a) : pm_Ex 1 12090 ie_X12_set.1 pm_rI lf a 43 (pe_X12_set_43 f) := by
  intro lv st z hd h
  obtain ⟨g0, h⟩ := pj_xr_inv h
  obtain ⟨a1, g1, h⟩ := pj_xi_inv h
  obtain ⟨a2, g2, h⟩ := pj_xi_inv h
  obtain ⟨b0, r0, e0, h⟩ := pj_pi_inv h
  obtain ⟨e9, h⟩ := pj_pe_inv h
  rw [e0, e9]
  exact mj_wp_sub (mj_sub_cons g0 (mj_sub_cons g1 (mj_sub_cons g2 (mj_sub_nil hd)))) (hf _ _ _ _ _ _ _ h)
theorem pu_X12_set_57 {lf : pj_Z → mj_M} {a : Int32 × pj_Z} (f : Int32 → Int32 → Int32 → Int32 → pj_F (Int32 × pj_Z)) (hf : ∀ (a1 : Int32) (a2 : Int32) (a3 : Int32) (b1 : Int32) (s : Nat → Int32) (l : Nat → Int64) (x : Nat → Int32) (y : Nat → Int64), f a1 a2 a3 b1 s l x y = some a → pm_Gd 1 12090 ie_X12_set.1 pm_rI lf 57 [(0, .ref 124), (1, .int a1), (2, .int a2), (3, .int a3)] [.int b1, .ref 124] (s, l, x, y) a) : pm_Ex 1 12090 ie_X12_set.1 pm_rI lf a 57 (pe_X12_set_57 f) := by
  intro lv st z hd h
  obtain ⟨g0, h⟩ := pj_xr_inv h
  obtain ⟨a1, g1, h⟩ := pj_xi_inv h
  obtain ⟨a2, g2, h⟩ := pj_xi_inv h
  obtain ⟨a3, g3, h⟩ := pj_xi_inv h
  obtain ⟨b1, r1, e1, h⟩ := pj_pi_inv h
  obtain ⟨r0, e0, h⟩ := pj_pr_inv h
  obtain ⟨e9, h⟩ := pj_pe_inv h
  rw [e1, e0, e9]
  exact mj_wp_sub (mj_sub_cons g0 (mj_sub_cons g1 (mj_sub_cons g2 (mj_sub_cons g3 (mj_sub_nil hd))))) (hf _ _ _ _ _ _ _ _ h)
theorem pu_X12_set_74 {lf : pj_Z → mj_M} {a : Int32 × pj_Z} (f : Int32 → Int32 → Int32 → pj_F (Int32 × pj_Z)) (hf : ∀ (a2 : Int32) (a3 : Int32) (b1 : Int32) (s : Nat → Int32) (l : Nat → Int64) (x : Nat → Int32) (y : Nat → Int64), f a2 a3 b1 s l x y = some a → pm_Gd 1 12090 ie_X12_set.1 pm_rI lf 74 [(2, .int a2), (3, .int a3)] [.int b1, .ref 124] (s, l, x, y) a) : pm_Ex 1 12090 ie_X12_set.1 pm_rI lf a 74 (pe_X12_set_74 f) := by
  intro lv st z hd h
  obtain ⟨a2, g2, h⟩ := pj_xi_inv h
  obtain ⟨a3, g3, h⟩ := pj_xi_inv h
  obtain ⟨b1, r1, e1, h⟩ := pj_pi_inv h
  obtain ⟨r0, e0, h⟩ := pj_pr_inv h
  obtain ⟨e9, h⟩ := pj_pe_inv h
  rw [e1, e0, e9]
  exact mj_wp_sub (mj_sub_cons g2 (mj_sub_cons g3 (mj_sub_nil hd))) (hf _ _ _ _ _ _ _ h)
set_option maxRecDepth 100000 in
theorem pz_X12_set {lf : pj_Z → mj_M} (hT : pj_Lt pj_TR lf) : pj_Cok ic_P (mj_R ic_P 1) 12090 ie_X12_set.1 (pm_OK lf pm_rI) lf px_X12_set := by
  exact pm_cok (c := px_X12_set) hT (pm_in_ok (L := [(259, 12, 0, 0, false), (747, 12, 27, 3, false), (920, 12, 26, 3, false)]) (f := mj_pF ic_P 12090) (by decide +kernel)) (fun _ _ h => by cases h) (fun _ _ h => by cases h) (fun _ _ h => by cases h) rfl rfl ⟨by decide, rfl⟩ pm_mI (pj_as_all (p := pm_Cl 1 12090 ie_X12_set.1 lf (pm_OK lf pm_rI)) (List.forall_mem_cons.mpr ⟨fun _ _ lv st z K a hK h => pc_X12_isIn hT (by decide) (ix := 568) rfl rfl hK h, (fun _ h => by cases h)⟩)) (fun _ h => by cases h)
set_option maxRecDepth 100000 in
theorem pb_X12_set : pm_bks ie_X12_set.1.2.2.2.2 pk_X12_set = true := by decide +kernel
set_option maxRecDepth 100000 in
theorem pg_X12_set_74 {lf : pj_Z → mj_M} (hT : pj_Lt pj_TR lf) : ∀ (a2 : Int32) (a3 : Int32) (b1 : Int32) (s : Nat → Int32) (l : Nat → Int64) (x : Nat → Int32) (y : Nat → Int64) (a : Int32 × pj_Z), pl_X12_set_74 a2 a3 b1 s l x y = some a → pm_Gd 1 12090 ie_X12_set.1 pm_rI lf 74 [(2, .int a2), (3, .int a3)] [.int b1, .ref 124] (s, l, x, y) a := by
  intro a2 a3 b1 s l x y a h
  exact pj_bl_ok (pz_X12_set hT) (fun t lv st z hd h => pj_rn_ok (pz_X12_set hT) (pm_bks_ok pb_X12_set) (fun _ _ h => by cases h) 60 t lv st z hd h) [(74, .putfield 747, 3), (77, .iload_n 3, 1), (78, .iload_n 2, 1), (79, .if_icmp .eq 7, 3)] 74 [(2, pj_I a2), (3, pj_I a3)] [pj_I b1, pj_O (124, 0)] (s, l, x, y) (pm_bks_ok pb_X12_set _ _ rfl) (pm_ndb_ok rfl) ((pq_X12_set_74  a2 a3 b1 s l x y).symm.trans h)
set_option maxRecDepth 100000 in
theorem pg_X12_set_57 {lf : pj_Z → mj_M} (hT : pj_Lt pj_TR lf) : ∀ (a1 : Int32) (a2 : Int32) (a3 : Int32) (b1 : Int32) (s : Nat → Int32) (l : Nat → Int64) (x : Nat → Int32) (y : Nat → Int64) (a : Int32 × pj_Z), pl_X12_set_57 a1 a2 a3 b1 s l x y = some a → pm_Gd 1 12090 ie_X12_set.1 pm_rI lf 57 [(0, .ref 124), (1, .int a1), (2, .int a2), (3, .int a3)] [.int b1, .ref 124] (s, l, x, y) a := by
  intro a1 a2 a3 b1 s l x y a h
  exact pj_bl_ok (pz_X12_set hT) (fun t lv st z hd h => pj_rn_ok (pz_X12_set hT) (pm_bks_ok pb_X12_set) (pj_as_all (p := pm_Ex 1 12090 ie_X12_set.1 pm_rI lf a) (List.forall_mem_cons.mpr ⟨pu_X12_set_74 _ (fun c0 c1 c2 s l x y h => pg_X12_set_74 hT c0 c1 c2 s l x y _ h), (fun _ h => by cases h)⟩)) 60 t lv st z hd h) [(57, .putfield 920, 3), (60, .aload_n 0, 1), (61, .iload_n 1, 1), (62, .iconst 1, 1), (63, .if_icmp .ne 7, 3)] 57 [(0, pj_O (124, 0)), (1, pj_I a1), (2, pj_I a2), (3, pj_I a3)] [pj_I b1, pj_O (124, 0)] (s, l, x, y) (pm_bks_ok pb_X12_set _ _ rfl) (pm_ndb_ok rfl) ((pq_X12_set_57  a1 a2 a3 b1 s l x y).symm.trans h)
set_option maxRecDepth 100000 in
theorem pg_X12_set_43 {lf : pj_Z → mj_M} (hT : pj_Lt pj_TR lf) : ∀ (a1 : Int32) (a2 : Int32) (b0 : Int32) (s : Nat → Int32) (l : Nat → Int64) (x : Nat → Int32) (y : Nat → Int64) (a : Int32 × pj_Z), pl_X12_set_43 a1 a2 b0 s l x y = some a → pm_Gd 1 12090 ie_X12_set.1 pm_rI lf 43 [(0, .ref 124), (1, .int a1), (2, .int a2)] [.int b0] (s, l, x, y) a := by
  intro a1 a2 b0 s l x y a h
  exact pj_bl_ok (pz_X12_set hT) (fun t lv st z hd h => pj_rn_ok (pz_X12_set hT) (pm_bks_ok pb_X12_set) (pj_as_all (p := pm_Ex 1 12090 ie_X12_set.1 pm_rI lf a) (List.forall_mem_cons.mpr ⟨pu_X12_set_57 _ (fun c0 c1 c2 c3 s l x y h => pg_X12_set_57 hT c0 c1 c2 c3 s l x y _ h), (fun _ h => by cases h)⟩)) 60 t lv st z hd h) [(43, .istore_n 3, 1), (44, .aload_n 0, 1), (45, .iload_n 1, 1), (46, .ifCond .ne 7, 3)] 43 [(0, pj_O (124, 0)), (1, pj_I a1), (2, pj_I a2)] [pj_I b0] (s, l, x, y) (pm_bks_ok pb_X12_set _ _ rfl) (pm_ndb_ok rfl) ((pq_X12_set_43  a1 a2 b0 s l x y).symm.trans h)
set_option maxRecDepth 100000 in
theorem pg_X12_set_16 {lf : pj_Z → mj_M} (hT : pj_Lt pj_TR lf) : ∀ (a1 : Int32) (a2 : Int32) (b1 : Int32) (s : Nat → Int32) (l : Nat → Int64) (x : Nat → Int32) (y : Nat → Int64) (a : Int32 × pj_Z), pl_X12_set_16 a1 a2 b1 s l x y = some a → pm_Gd 1 12090 ie_X12_set.1 pm_rI lf 16 [(0, .ref 124), (1, .int a1), (2, .int a2)] [.int b1, .ref 124] (s, l, x, y) a := by
  intro a1 a2 b1 s l x y a h
  exact pj_bl_ok (pz_X12_set hT) (fun t lv st z hd h => pj_rn_ok (pz_X12_set hT) (pm_bks_ok pb_X12_set) (pj_as_all (p := pm_Ex 1 12090 ie_X12_set.1 pm_rI lf a) (List.forall_mem_cons.mpr ⟨pu_X12_set_43 _ (fun c0 c1 c2 s l x y h => pg_X12_set_43 hT c0 c1 c2 s l x y _ h), (fun _ h => by cases h)⟩)) 60 t lv st z hd h) [(16, .putfield 259, 3), (19, .aload_n 0, 1), (20, .getfield 259, 3), (23, .ifCond .le 5, 3)] 16 [(0, pj_O (124, 0)), (1, pj_I a1), (2, pj_I a2)] [pj_I b1, pj_O (124, 0)] (s, l, x, y) (pm_bks_ok pb_X12_set _ _ rfl) (pm_ndb_ok rfl) ((pq_X12_set_16  a1 a2 b1 s l x y).symm.trans h)
set_option maxRecDepth 100000 in
theorem pm_X12_set {lf : pj_Z → mj_M} (hT : pj_Lt pj_TR lf) (a1 : Int32) (a2 : Int32) (s : Nat → Int32) (l : Nat → Int64) (x : Nat → Int32) (y : Nat → Int64) (a : Int32 × pj_Z) (h : pf_X12_set a1 a2 s l x y = some a) : mj_R ic_P 2 12090 [.ref 124, .int a1, .int a2] (lf (s, l, x, y)) (pm_rI a.1) (lf a.2) := by
  refine pm_main (Y := ie_X12_set.1) rfl (Nat.le_of_ble_eq_true rfl) ?_
  exact pj_bl_ok (pz_X12_set hT) (fun t lv st z hd h => pj_rn_ok (pz_X12_set hT) (pm_bks_ok pb_X12_set) (pj_as_all (p := pm_Ex 1 12090 ie_X12_set.1 pm_rI lf a) (List.forall_mem_cons.mpr ⟨pu_X12_set_16 _ (fun c0 c1 c2 s l x y h => pg_X12_set_16 hT c0 c1 c2 s l x y _ h), (fun _ h => by cases h)⟩)) 60 t lv st z hd h) [(0, .aload_n 0, 1), (1, .iload_n 1, 1), (2, .i2l, 1), (3, .lconst 0, 1), (4, .lconst 1, 1), (5, .invokestatic 568, 3), (8, .ifCond .ne 7, 3)] 0 [(0, pj_O (124, 0)), (1, pj_I a1), (2, pj_I a2)] [] (s, l, x, y) (pm_bks_ok pb_X12_set _ _ rfl) (pm_ndb_ok rfl) ((pq_X12_set_m a1 a2 s l x y).symm.trans h)
abbrev ph_X12_set {A : Type} : List pj_V → pj_Z → (List pj_V → pj_Z → Option A) → Option A := fun st z K => pj_pi st fun a2 st => pj_pi st fun a1 st => pj_pr st 124 0 fun st => pj_ps st (pj_b (pf_X12_set a1 a2 z.1 z.2.1 z.2.2.1 z.2.2.2) fun r s l x y => K (pj_I r :: st) (s, l, x, y))
set_option maxRecDepth 100000 in
theorem pc_X12_set {A : Type} {OK : A → Option Value → mj_M → Prop} {d j pc ix : Nat} {Y : mj_Y} {lf : pj_Z → mj_M} (hT : pj_Lt pj_TR lf) (hd : 2 ≤ d) (hl : mj_lk Y.2.2.2.2 pc = some (.invokevirtual ix, 3)) (hg : mj_pG ic_P j ix = some (12090, 2, some 12)) {lv : List (Nat × Value)} {st : List pj_V} {z : pj_Z} {K : List pj_V → pj_Z → Option A} {a : A} (hK : ∀ st z, K st z = some a → pj_Gd ic_P (mj_R ic_P d) j Y OK lf (pc + 3) lv (pj_es st) z a) (h : ph_X12_set st z K = some a) : pj_Gd ic_P (mj_R ic_P d) j Y OK lf pc lv (pj_es st) z a := by
  obtain ⟨a2, r2, e2, h⟩ := pj_pi_inv h
  obtain ⟨a1, r1, e1, h⟩ := pj_pi_inv h
  obtain ⟨r0, e0, h⟩ := pj_pr_inv h
  obtain ⟨hs, h⟩ := pj_ps_inv h
  obtain ⟨q, hq, h⟩ := pj_b_inv h
  exact pm_cv (o := 124) hl hg [.int a1, .int a2] rfl (by rw [e2, e1, e0]; rfl) hs (by decide) ((hT.2 124 _ rfl).1.2 z 0 (by decide)) (pm_rI q.1) hd (pm_X12_set hT a1 a2 z.1 z.2.1 z.2.2.1 z.2.2.2 q hq) rfl (hK _ _ h)
abbrev pe_X12_load_18 (f : Int32 → Int32 → pj_F (Int32 × pj_Z)) : pj_K (Int32 × pj_Z) := fun lv st z => pj_xr lv 0 124 0 <| pj_xi lv 1 fun a1 => pj_pi st fun b1 st => pj_pr st 124 0 fun st => pj_pe st (f a1 b1 z.1 z.2.1 z.2.2.1 z.2.2.2)
abbrev pe_X12_load_42 (f : Int32 → Int32 → pj_F (Int32 × pj_Z)) : pj_K (Int32 × pj_Z) := fun lv st z => pj_xr lv 0 124 0 <| pj_xi lv 2 fun a2 => pj_pi st fun b1 st => pj_pr st 124 0 fun st => pj_pe st (f a2 b1 z.1 z.2.1 z.2.2.1 z.2.2.2)
abbrev px_X12_load : pj_C (Int32 × pj_Z) := (pj_TR, (pj_as [(259, 12, 0, 0, false), (908, 12, 28, 0, false)]), (fun _ => none), (pj_as [(927, 400)]), (fun _ => none), ic_X, 3, 1, pj_mI, (pj_as [(7, ph_X12_isIn)]), fun _ => false)
abbrev pk_X12_load : List (Nat × List (Nat × Instr × Nat)) := [(0, [(0, .aload_n 0, 1), (1, .iload_n 1, 1), (2, .i2l, 1), (3, .lconst 0, 1), (4, .ldc2_w 927, 3), (7, .invokestatic 568, 3), (10, .ifCond .ne 7, 3)]), (13, [(13, .iconst 1, 1), (14, .goto 4, 3)]), (17, [(17, .iconst 0, 1)]), (18, [(18, .putfield 259, 3), (21, .aload_n 0, 1), (22, .getfield 908, 3), (25, .istore_n 2, 1), (26, .aload_n 0, 1), (27, .aload_n 0, 1), (28, .getfield 259, 3), (31, .ifCond .ne 7, 3)]), (34, [(34, .iload_n 1, 1), (35, .goto 7, 3)]), (38, [(38, .aload_n 0, 1), (39, .getfield 908, 3)]), (42, [(42, .putfield 908, 3), (45, .aload_n 0, 1), (46, .getfield 259, 3), (49, .ifCond .le 7, 3)]), (52, [(52, .iconst 0, 1), (53, .goto 4, 3)]), (56, [(56, .iload_n 2, 1)]), (57, [(57, .ireturn, 1)])]
set_option maxRecDepth 100000 in
theorem pq_X12_load_42 (a2 : Int32) (b1 : Int32) (s : Nat → Int32) (l : Nat → Int64) (x : Nat → Int32) (y : Nat → Int64) : pl_X12_load_42 a2 b1 s l x y = pj_bl px_X12_load (pj_rn px_X12_load (pj_as pk_X12_load) (fun _ => none) 60) [(42, .putfield 908, 3), (45, .aload_n 0, 1), (46, .getfield 259, 3), (49, .ifCond .le 7, 3)] 42 [(0, pj_O (124, 0)), (2, pj_I a2)] [pj_I b1, pj_O (124, 0)] (s, l, x, y) := rfl
set_option maxRecDepth 100000 in
theorem pq_X12_load_18 (a1 : Int32) (b1 : Int32) (s : Nat → Int32) (l : Nat → Int64) (x : Nat → Int32) (y : Nat → Int64) : pl_X12_load_18 a1 b1 s l x y = pj_bl px_X12_load (pj_rn px_X12_load (pj_as pk_X12_load) (pj_as [(42, pe_X12_load_42 (pl_X12_load_42))]) 60) [(18, .putfield 259, 3), (21, .aload_n 0, 1), (22, .getfield 908, 3), (25, .istore_n 2, 1), (26, .aload_n 0, 1), (27, .aload_n 0, 1), (28, .getfield 259, 3), (31, .ifCond .ne 7, 3)] 18 [(0, pj_O (124, 0)), (1, pj_I a1)] [pj_I b1, pj_O (124, 0)] (s, l, x, y) := rfl
set_option maxRecDepth 100000 in
theorem pq_X12_load_m (a1 : Int32) (s : Nat → Int32) (l : Nat → Int64) (x : Nat → Int32) (y : Nat → Int64) : pf_X12_load a1 s l x y = pj_bl px_X12_load (pj_rn px_X12_load (pj_as pk_X12_load) (pj_as [(18, pe_X12_load_18 (pl_X12_load_18))]) 60) [(0, .aload_n 0, 1), (1, .iload_n 1, 1), (2, .i2l, 1), (3, .lconst 0, 1), (4, .ldc2_w 927, 3), (7, .invokestatic 568, 3), (10, .ifCond .ne 7, 3)] 0 [(0, pj_O (124, 0)), (1, pj_I a1)] [] (s, l, x, y) := rfl
theorem pu_X12_load_18 {lf : pj_Z → mj_M} {a : Int32 × pj_Z} (f : Int32 → Int32 → pj_F (Int32 × pj_Z)) (hf : ∀ (a1 : Int32) (b1 : Int32) (s : Nat → Int32) (l : Nat → Int64) (x : Nat → Int32) (y : Nat → Int64), f a1 b1 s l x y = some a → pm_Gd 1 12091 ie_X12_load.1 pm_rI lf 18 [(0, .ref 124), (1, .int a1)] [.int b1, .ref 124] (s, l, x, y) a) : pm_Ex 1 12091 ie_X12_load.1 pm_rI lf a 18 (pe_X12_load_18 f) := by
  intro lv st z hd h
  obtain ⟨g0, h⟩ := pj_xr_inv h
  obtain ⟨a1, g1, h⟩ := pj_xi_inv h
  obtain ⟨b1, r1, e1, h⟩ := pj_pi_inv h
  obtain ⟨r0, e0, h⟩ := pj_pr_inv h
  obtain ⟨e9, h⟩ := pj_pe_inv h
  rw [e1, e0, e9]
  exact mj_wp_sub (mj_sub_cons g0 (mj_sub_cons g1 (mj_sub_nil hd))) (hf _ _ _ _ _ _ h)
theorem pu_X12_load_42 {lf : pj_Z → mj_M} {a : Int32 × pj_Z} (f : Int32 → Int32 → pj_F (Int32 × pj_Z)) (hf : ∀ (a2 : Int32) (b1 : Int32) (s : Nat → Int32) (l : Nat → Int64) (x : Nat → Int32) (y : Nat → Int64), f a2 b1 s l x y = some a → pm_Gd 1 12091 ie_X12_load.1 pm_rI lf 42 [(0, .ref 124), (2, .int a2)] [.int b1, .ref 124] (s, l, x, y) a) : pm_Ex 1 12091 ie_X12_load.1 pm_rI lf a 42 (pe_X12_load_42 f) := by
  intro lv st z hd h
  obtain ⟨g0, h⟩ := pj_xr_inv h
  obtain ⟨a2, g2, h⟩ := pj_xi_inv h
  obtain ⟨b1, r1, e1, h⟩ := pj_pi_inv h
  obtain ⟨r0, e0, h⟩ := pj_pr_inv h
  obtain ⟨e9, h⟩ := pj_pe_inv h
  rw [e1, e0, e9]
  exact mj_wp_sub (mj_sub_cons g0 (mj_sub_cons g2 (mj_sub_nil hd))) (hf _ _ _ _ _ _ h)
set_option maxRecDepth 100000 in
theorem pz_X12_load {lf : pj_Z → mj_M} (hT : pj_Lt pj_TR lf) : pj_Cok ic_P (mj_R ic_P 1) 12091 ie_X12_load.1 (pm_OK lf pm_rI) lf px_X12_load := by
  exact pm_cok (c := px_X12_load) hT (pm_in_ok (L := [(259, 12, 0, 0, false), (908, 12, 28, 0, false)]) (f := mj_pF ic_P 12091) (by decide +kernel)) (fun _ _ h => by cases h) (pm_inL_ok (L := [(927, 400)]) (f := mj_pL ic_P 12091) (by decide +kernel)) (fun _ _ h => by cases h) rfl rfl ⟨by decide, rfl⟩ pm_mI (pj_as_all (p := pm_Cl 1 12091 ie_X12_load.1 lf (pm_OK lf pm_rI)) (List.forall_mem_cons.mpr ⟨fun _ _ lv st z K a hK h => pc_X12_isIn hT (by decide) (ix := 568) rfl rfl hK h, (fun _ h => by cases h)⟩)) (fun _ h => by cases h)
set_option maxRecDepth 100000 in
theorem pb_X12_load : pm_bks ie_X12_load.1.2.2.2.2 pk_X12_load = true := by decide +kernel
set_option maxRecDepth 100000 in
theorem pg_X12_load_42 {lf : pj_Z → mj_M} (hT : pj_Lt pj_TR lf) : ∀ (a2 : Int32) (b1 : Int32) (s : Nat → Int32) (l : Nat → Int64) (x : Nat → Int32) (y : Nat → Int64) (a : Int32 × pj_Z), pl_X12_load_42 a2 b1 s l x y = some a → pm_Gd 1 12091 ie_X12_load.1 pm_rI lf 42 [(0, .ref 124), (2, .int a2)] [.int b1, .ref 124] (s, l, x, y) a := by
  intro a2 b1 s l x y a h
  exact pj_bl_ok (pz_X12_load hT) (fun t lv st z hd h => pj_rn_ok (pz_X12_load hT) (pm_bks_ok pb_X12_load) (fun _ _ h => by cases h) 60 t lv st z hd h) [(42, .putfield 908, 3), (45, .aload_n 0, 1), (46, .getfield 259, 3), (49, .ifCond .le 7, 3)] 42 [(0, pj_O (124, 0)), (2, pj_I a2)] [pj_I b1, pj_O (124, 0)] (s, l, x, y) (pm_bks_ok pb_X12_load _ _ rfl) (pm_ndb_ok rfl) ((pq_X12_load_42  a2 b1 s l x y).symm.trans h)
set_option maxRecDepth 100000 in
theorem pg_X12_load_18 {lf : pj_Z → mj_M} (hT : pj_Lt pj_TR lf) : ∀ (a1 : Int32) (b1 : Int32) (s : Nat → Int32) (l : Nat → Int64) (x : Nat → Int32) (y : Nat → Int64) (a : Int32 × pj_Z), pl_X12_load_18 a1 b1 s l x y = some a → pm_Gd 1 12091 ie_X12_load.1 pm_rI lf 18 [(0, .ref 124), (1, .int a1)] [.int b1, .ref 124] (s, l, x, y) a := by
  intro a1 b1 s l x y a h
  exact pj_bl_ok (pz_X12_load hT) (fun t lv st z hd h => pj_rn_ok (pz_X12_load hT) (pm_bks_ok pb_X12_load) (pj_as_all (p := pm_Ex 1 12091 ie_X12_load.1 pm_rI lf a) (List.forall_mem_cons.mpr ⟨pu_X12_load_42 _ (fun c0 c1 s l x y h => pg_X12_load_42 hT c0 c1 s l x y _ h), (fun _ h => by cases h)⟩)) 60 t lv st z hd h) [(18, .putfield 259, 3), (21, .aload_n 0, 1), (22, .getfield 908, 3), (25, .istore_n 2, 1), (26, .aload_n 0, 1), (27, .aload_n 0, 1), (28, .getfield 259, 3), (31, .ifCond .ne 7, 3)] 18 [(0, pj_O (124, 0)), (1, pj_I a1)] [pj_I b1, pj_O (124, 0)] (s, l, x, y) (pm_bks_ok pb_X12_load _ _ rfl) (pm_ndb_ok rfl) ((pq_X12_load_18  a1 b1 s l x y).symm.trans h)
set_option maxRecDepth 100000 in
theorem pm_X12_load {lf : pj_Z → mj_M} (hT : pj_Lt pj_TR lf) (a1 : Int32) (s : Nat → Int32) (l : Nat → Int64) (x : Nat → Int32) (y : Nat → Int64) (a : Int32 × pj_Z) (h : pf_X12_load a1 s l x y = some a) : mj_R ic_P 2 12091 [.ref 124, .int a1] (lf (s, l, x, y)) (pm_rI a.1) (lf a.2) := by
  refine pm_main (Y := ie_X12_load.1) rfl (Nat.le_of_ble_eq_true rfl) ?_
  exact pj_bl_ok (pz_X12_load hT) (fun t lv st z hd h => pj_rn_ok (pz_X12_load hT) (pm_bks_ok pb_X12_load) (pj_as_all (p := pm_Ex 1 12091 ie_X12_load.1 pm_rI lf a) (List.forall_mem_cons.mpr ⟨pu_X12_load_18 _ (fun c0 c1 s l x y h => pg_X12_load_18 hT c0 c1 s l x y _ h), (fun _ h => by cases h)⟩)) 60 t lv st z hd h) [(0, .aload_n 0, 1), (1, .iload_n 1, 1), (2, .i2l, 1), (3, .lconst 0, 1), (4, .ldc2_w 927, 3), (7, .invokestatic 568, 3), (10, .ifCond .ne 7, 3)] 0 [(0, pj_O (124, 0)), (1, pj_I a1)] [] (s, l, x, y) (pm_bks_ok pb_X12_load _ _ rfl) (pm_ndb_ok rfl) ((pq_X12_load_m a1 s l x y).symm.trans h)
abbrev ph_X12_load {A : Type} : List pj_V → pj_Z → (List pj_V → pj_Z → Option A) → Option A := fun st z K => pj_pi st fun a1 st => pj_pr st 124 0 fun st => pj_ps st (pj_b (pf_X12_load a1 z.1 z.2.1 z.2.2.1 z.2.2.2) fun r s l x y => K (pj_I r :: st) (s, l, x, y))
set_option maxRecDepth 100000 in
theorem pc_X12_load {A : Type} {OK : A → Option Value → mj_M → Prop} {d j pc ix : Nat} {Y : mj_Y} {lf : pj_Z → mj_M} (hT : pj_Lt pj_TR lf) (hd : 2 ≤ d) (hl : mj_lk Y.2.2.2.2 pc = some (.invokevirtual ix, 3)) (hg : mj_pG ic_P j ix = some (12091, 1, some 12)) {lv : List (Nat × Value)} {st : List pj_V} {z : pj_Z} {K : List pj_V → pj_Z → Option A} {a : A} (hK : ∀ st z, K st z = some a → pj_Gd ic_P (mj_R ic_P d) j Y OK lf (pc + 3) lv (pj_es st) z a) (h : ph_X12_load st z K = some a) : pj_Gd ic_P (mj_R ic_P d) j Y OK lf pc lv (pj_es st) z a := by
  obtain ⟨a1, r1, e1, h⟩ := pj_pi_inv h
  obtain ⟨r0, e0, h⟩ := pj_pr_inv h
  obtain ⟨hs, h⟩ := pj_ps_inv h
  obtain ⟨q, hq, h⟩ := pj_b_inv h
  exact pm_cv (o := 124) hl hg [.int a1] rfl (by rw [e1, e0]; rfl) hs (by decide) ((hT.2 124 _ rfl).1.2 z 0 (by decide)) (pm_rI q.1) hd (pm_X12_load hT a1 z.1 z.2.1 z.2.2.1 z.2.2.2 q hq) rfl (hK _ _ h)

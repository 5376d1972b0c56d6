/-! METHODS 9, printed by gen_meth.py -/
abbrev pe_X11_fuelNow_170 (f : Int64 → pj_F (Int32 × pj_Z)) : pj_K (Int32 × pj_Z) := fun lv st z => pj_xl lv 1 fun a1 => pj_pe st (f a1 z.1 z.2.1 z.2.2.1 z.2.2.2)
abbrev px_X11_fuelNow : pj_C (Int32 × pj_Z) := ((pj_as [(0, 11, 17, 1, 0, true, 0, [(2, 1), (2, 20), (2, 58), (2, 68), (2, 82), (2, 83), (2, 85), (2, 96), (2, 102), (2, 106), (2, 122), (0, 93), (0, 94), (0, 95), (1, 1), (1, 2), (0, 96)]), (20, 7, 11, 1, 0, true, 0, [(2, 21), (2, 35), (2, 49), (2, 50), (2, 51), (2, 52), (2, 53), (2, 54), (2, 55), (2, 56), (2, 57)]), (55, 100, 10, 1, 0, true, 34000, []), (58, 2, 19, 1, 0, true, 0, [(0, 19), (0, 20), (1, 4), (1, 5), (1, 6), (1, 7), (0, 21), (0, 22), (0, 23), (0, 24), (0, 25), (2, 59), (2, 63), (0, 26), (1, 8), (1, 9), (1, 10), (0, 27), (0, 28)]), (82, 9, 18, 1, 0, true, 0, [(0, 71), (0, 72), (1, 12), (0, 73), (0, 74), (0, 75), (0, 76), (0, 77), (0, 78), (0, 79), (0, 80), (1, 13), (0, 81), (0, 82), (0, 83), (0, 84), (0, 85), (0, 86)]), (83, 3, 20, 1, 0, true, 0, [(0, 29), (0, 30), (1, 14), (1, 15), (0, 31), (0, 32), (0, 33), (0, 34), (0, 35), (0, 36), (0, 37), (0, 38), (0, 39), (0, 40), (1, 16), (1, 17), (0, 41), (0, 42), (0, 43), (2, 84)]), (84, 100, 16, 1, 0, true, 9000, []), (102, 1, 18, 1, 0, true, 0, [(2, 103), (2, 104), (2, 105), (1, 22), (0, 16), (0, 17), (0, 6), (0, 7), (0, 8), (0, 9), (0, 10), (1, 23), (0, 11), (0, 12), (0, 13), (0, 18), (0, 14), (0, 15)])]), (pj_as [(10, 11, 0, 2, true), (19, 11, 1, 2, true), (26, 11, 2, 2, true), (40, 11, 4, 2, true), (47, 11, 5, 2, true), (68, 11, 8, 2, true), (400, 7, 8, 2, true), (628, 2, 3, 0, false), (631, 2, 18, 3, false), (667, 3, 9, 3, false), (670, 1, 14, 3, false), (679, 9, 5, 0, false), (682, 3, 18, 0, false), (685, 3, 19, 2, true)]), (fun _ => none), (pj_as [(673, 1000)]), (fun _ => none), ic_X, 3, 1, pj_mI, (pj_as [(53, ph_X4_mapValue), (74, ph_X7_lineValue), (82, ph_J9_floorDiv_f86c9), (103, ph_J9_floorDiv_f86c9), (127, ph_X11_cellAtHand), (137, ph_J9_floorDiv_f86c9), (164, ph_X7_lineValue), (175, ph_X11_clip)]), fun _ => false)
abbrev pk_X11_fuelNow : List (Nat × List (Nat × Instr × Nat)) := [(0, [(0, .aload_n 0, 1), (1, .getfield 26, 3), (4, .getfield 631, 3), (7, .ifCond .ne 23, 3)]), (10, [(10, .aload_n 0, 1), (11, .getfield 47, 3), (14, .getfield 667, 3), (17, .ifCond .ne 13, 3)]), (20, [(20, .aload_n 0, 1), (21, .getfield 68, 3), (24, .getfield 670, 3), (27, .ifCond .eq 5, 3)]), (30, [(30, .iconst 0, 1), (31, .ireturn, 1)]), (32, [(32, .aload_n 0, 1), (33, .getfield 10, 3), (36, .iconst 0, 1), (37, .aload_n 0, 1), (38, .getfield 26, 3), (41, .getfield 628, 3), (44, .aload_n 0, 1), (45, .getfield 19, 3), (48, .getfield 400, 3), (51, .iconst 4, 1), (52, .iaload, 1), (53, .invokevirtual 276, 3), (56, .i2l, 1), (57, .lstore_n 1, 1), (58, .lload_n 1, 1), (59, .aload_n 0, 1), (60, .getfield 19, 3), (63, .bipush 10, 2), (65, .aload_n 0, 1), (66, .getfield 19, 3), (69, .getfield 400, 3), (72, .iconst 5, 1), (73, .iaload, 1), (74, .invokevirtual 251, 3), (77, .i2l, 1), (78, .lmul, 1), (79, .ldc2_w 673, 3), (82, .invokestatic 675, 3), (85, .lstore_n 1, 1), (86, .lload_n 1, 1), (87, .sipush 1000, 3), (90, .aload_n 0, 1), (91, .getfield 40, 3), (94, .getfield 679, 3), (97, .iadd, 1), (98, .i2l, 1), (99, .lmul, 1), (100, .ldc2_w 673, 3), (103, .invokestatic 675, 3), (106, .lstore_n 1, 1), (107, .lload_n 1, 1), (108, .sipush 1000, 3), (111, .aload_n 0, 1), (112, .getfield 47, 3), (115, .getfield 682, 3), (118, .iadd, 1), (119, .aload_n 0, 1), (120, .getfield 47, 3), (123, .getfield 685, 3), (126, .aload_n 0, 1), (127, .invokevirtual 688, 3), (130, .iaload, 1), (131, .iadd, 1), (132, .i2l, 1), (133, .lmul, 1), (134, .ldc2_w 673, 3), (137, .invokestatic 675, 3), (140, .lstore_n 1, 1), (141, .lload_n 1, 1), (142, .lconst 0, 1), (143, .lcmp, 1), (144, .ifCond .le 26, 3)]), (147, [(147, .lload_n 1, 1), (148, .aload_n 0, 1), (149, .getfield 19, 3), (152, .bipush 11, 2), (154, .aload_n 0, 1), (155, .getfield 19, 3), (158, .getfield 400, 3), (161, .bipush 8, 2), (163, .iaload, 1), (164, .invokevirtual 251, 3), (167, .i2l, 1), (168, .ladd, 1), (169, .lstore_n 1, 1)]), (170, [(170, .lload_n 1, 1), (171, .iconst 0, 1), (172, .sipush 25000, 3), (175, .invokestatic 644, 3), (178, .ireturn, 1)])]
set_option maxRecDepth 100000 in
theorem pq_X11_fuelNow_170  (a1 : Int64) (s : Nat → Int32) (l : Nat → Int64) (x : Nat → Int32) (y : Nat → Int64) : pl_X11_fuelNow_170 a1 s l x y = pj_bl px_X11_fuelNow (pj_rn px_X11_fuelNow (pj_as pk_X11_fuelNow) (fun _ => none) 60) [(170, .lload_n 1, 1), (171, .iconst 0, 1), (172, .sipush 25000, 3), (175, .invokestatic 644, 3), (178, .ireturn, 1)] 170 [(1, pj_L a1)] [] (s, l, x, y) := rfl
set_option maxRecDepth 100000 in
theorem pq_X11_fuelNow_m   (s : Nat → Int32) (l : Nat → Int64) (x : Nat → Int32) (y : Nat → Int64) : pf_X11_fuelNow  s l x y = pj_bl px_X11_fuelNow (pj_rn px_X11_fuelNow (pj_as pk_X11_fuelNow) (pj_as [(170, pe_X11_fuelNow_170 (pl_X11_fuelNow_170))]) 60) [(0, .aload_n 0, 1), (1, .getfield 26, 3), (4, .getfield 631, 3), (7, .ifCond .ne 23, 3)] 0 [(0, pj_O (0, 0))] [] (s, l, x, y) := rfl
theorem pu_X11_fuelNow_170 {lf : pj_Z → mj_M} {a : Int32 × pj_Z} (f : Int64 → pj_F (Int32 × pj_Z)) (hf : ∀ (a1 : Int64) (s : Nat → Int32) (l : Nat → Int64) (x : Nat → Int32) (y : Nat → Int64), f a1 s l x y = some a → pm_Gd 2 11063 ie_X11_fuelNow.1 pm_rI lf 170 [(1, .long a1)] [] (s, l, x, y) a) : pm_Ex 2 11063 ie_X11_fuelNow.1 pm_rI lf a 170 (pe_X11_fuelNow_170 f) := by
  intro lv st z hd h
  obtain ⟨a1, g1, h⟩ := pj_xl_inv h
  obtain ⟨e9, h⟩ := pj_pe_inv h
  rw [e9]
  exact mj_wp_sub (mj_sub_cons g1 (mj_sub_nil hd)) (hf _ _ _ _ _ h)
set_option maxRecDepth 100000 in
theorem pz_X11_fuelNow {lf : pj_Z → mj_M} (hT : pj_Lt pj_TC lf) : pj_Cok ic_P (mj_R ic_P 2) 11063 ie_X11_fuelNow.1 (pm_OK lf pm_rI) lf px_X11_fuelNow := by
  exact pm_cok (c := px_X11_fuelNow) (pm_part hT (pj_as_all (p := fun b e => pj_TC b = some e) (List.forall_mem_cons.mpr ⟨rfl, (List.forall_mem_cons.mpr ⟨rfl, (List.forall_mem_cons.mpr ⟨rfl, (List.forall_mem_cons.mpr ⟨rfl, (List.forall_mem_cons.mpr ⟨rfl, (List.forall_mem_cons.mpr ⟨rfl, (List.forall_mem_cons.mpr ⟨rfl, (List.forall_mem_cons.mpr ⟨rfl, (fun _ h => by cases h)⟩)⟩)⟩)⟩)⟩)⟩)⟩)⟩))) (pm_in_ok (L := [(10, 11, 0, 2, true), (19, 11, 1, 2, true), (26, 11, 2, 2, true), (40, 11, 4, 2, true), (47, 11, 5, 2, true), (68, 11, 8, 2, true), (400, 7, 8, 2, true), (628, 2, 3, 0, false), (631, 2, 18, 3, false), (667, 3, 9, 3, false), (670, 1, 14, 3, false), (679, 9, 5, 0, false), (682, 3, 18, 0, false), (685, 3, 19, 2, true)]) (f := mj_pF ic_P 11063) (by decide +kernel)) (fun _ _ h => by cases h) (pm_inL_ok (L := [(673, 1000)]) (f := mj_pL ic_P 11063) (by decide +kernel)) (fun _ _ h => by cases h) rfl rfl ⟨by decide, rfl⟩ pm_mI (pj_as_all (p := pm_Cl 2 11063 ie_X11_fuelNow.1 lf (pm_OK lf pm_rI)) (List.forall_mem_cons.mpr ⟨fun _ _ lv st z K a hK h => pc_X4_mapValue hT (by decide) (ix := 276) rfl rfl hK h, (List.forall_mem_cons.mpr ⟨fun _ _ lv st z K a hK h => pc_X7_lineValue hT (by decide) (ix := 251) rfl rfl hK h, (List.forall_mem_cons.mpr ⟨fun _ _ lv st z K a hK h => pc_J9_floorDiv_f86c9 (pm_none hT) (by decide) (ix := 675) rfl rfl hK h, (List.forall_mem_cons.mpr ⟨fun _ _ lv st z K a hK h => pc_J9_floorDiv_f86c9 (pm_none hT) (by decide) (ix := 675) rfl rfl hK h, (List.forall_mem_cons.mpr ⟨fun _ _ lv st z K a hK h => pc_X11_cellAtHand hT (by decide) (ix := 688) rfl rfl hK h, (List.forall_mem_cons.mpr ⟨fun _ _ lv st z K a hK h => pc_J9_floorDiv_f86c9 (pm_none hT) (by decide) (ix := 675) rfl rfl hK h, (List.forall_mem_cons.mpr ⟨fun _ _ lv st z K a hK h => pc_X7_lineValue hT (by decide) (ix := 251) rfl rfl hK h, (List.forall_mem_cons.mpr ⟨fun _ _ lv st z K a hK h => pc_X11_clip hT (by decide) (ix := 644) rfl rfl hK h, (fun _ h => by cases h)⟩)⟩)⟩)⟩)⟩)⟩)⟩)⟩)) (fun _ h => by cases h)
set_option maxRecDepth 100000 in
theorem pb_X11_fuelNow : pm_bks ie_X11_fuelNow.1.2.2.2.2 pk_X11_fuelNow = true := by decide +kernel
set_option maxRecDepth 100000 in
theorem pg_X11_fuelNow_170 {lf : pj_Z → mj_M} (hT : pj_Lt pj_TC lf) : ∀ (a1 : Int64) (s : Nat → Int32) (l : Nat → Int64) (x : Nat → Int32) (y : Nat → Int64) (a : Int32 × pj_Z), pl_X11_fuelNow_170 a1 s l x y = some a → pm_Gd 2 11063 ie_X11_fuelNow.1 pm_rI lf 170 [(1, .long a1)] [] (s, l, x, y) a := by
  intro a1 s l x y a h
  exact pm_run ((pq_X11_fuelNow_170  a1 s l x y).symm.trans h) (pz_X11_fuelNow hT) (pm_bks_ok pb_X11_fuelNow) (pm_bks_ok pb_X11_fuelNow _ _ rfl) (pm_ndb_ok rfl) (fun _ _ h => by cases h)
set_option maxRecDepth 100000 in
theorem pm_X11_fuelNow {lf : pj_Z → mj_M} (hT : pj_Lt pj_TC lf)  (s : Nat → Int32) (l : Nat → Int64) (x : Nat → Int32) (y : Nat → Int64) (a : Int32 × pj_Z) (h : pf_X11_fuelNow  s l x y = some a) : mj_R ic_P 3 11063 [.ref 0] (lf (s, l, x, y)) (pm_rI a.1) (lf a.2) := by
  refine pm_main (Y := ie_X11_fuelNow.1) rfl (Nat.le_of_ble_eq_true rfl) ?_
  exact pm_run ((pq_X11_fuelNow_m  s l x y).symm.trans h) (pz_X11_fuelNow hT) (pm_bks_ok pb_X11_fuelNow) (pm_bks_ok pb_X11_fuelNow _ _ rfl) (pm_ndb_ok rfl) (pj_as_all (p := pm_Ex 2 11063 ie_X11_fuelNow.1 pm_rI lf a) (List.forall_mem_cons.mpr ⟨pu_X11_fuelNow_170 _ (fun c0 s l x y h => pg_X11_fuelNow_170 hT c0 s l x y _ h), (fun _ h => by cases h)⟩))
abbrev ph_X11_fuelNow {A : Type} : List pj_V → pj_Z → (List pj_V → pj_Z → Option A) → Option A := fun st z K => pj_pr st 0 0 fun st => pj_ps st (pj_b (pf_X11_fuelNow  z.1 z.2.1 z.2.2.1 z.2.2.2) fun r s l x y => K (pj_I r :: st) (s, l, x, y))
set_option maxRecDepth 100000 in
theorem pc_X11_fuelNow {A : Type} {OK : A → Option Value → mj_M → Prop} {d j pc ix : Nat} {Y : mj_Y} {lf : pj_Z → mj_M} (hT : pj_Lt pj_TC lf) (hd : 3 ≤ d) (hl : mj_lk Y.2.2.2.2 pc = some (.invokevirtual ix, 3)) (hg : mj_pG ic_P j ix = some (11063, 0, some 11)) {lv : List (Nat × Value)} {st : List pj_V} {z : pj_Z} {K : List pj_V → pj_Z → Option A} {a : A} (hK : ∀ st z, K st z = some a → pj_Gd ic_P (mj_R ic_P d) j Y OK lf (pc + 3) lv (pj_es st) z a) (h : ph_X11_fuelNow st z K = some a) : pj_Gd ic_P (mj_R ic_P d) j Y OK lf pc lv (pj_es st) z a := by
  obtain ⟨r0, e0, h⟩ := pj_pr_inv h
  obtain ⟨hs, h⟩ := pj_ps_inv h
  obtain ⟨q, hq, h⟩ := pj_b_inv h
  exact pm_cv (o := 0) hl hg [] rfl (by rw [e0]; rfl) hs (by decide) ((hT.2 0 _ rfl).1.2 z 0 (by decide)) (pm_rI q.1) hd (pm_X11_fuelNow hT  z.1 z.2.1 z.2.2.1 z.2.2.2 q hq) rfl (hK _ _ h)
abbrev pe_X11_advanceNow_85 (f : Int64 → pj_F (Int32 × pj_Z)) : pj_K (Int32 × pj_Z) := fun lv st z => pj_xl lv 2 fun a2 => pj_pe st (f a2 z.1 z.2.1 z.2.2.1 z.2.2.2)
abbrev px_X11_advanceNow : pj_C (Int32 × pj_Z) := ((pj_as [(0, 11, 17, 1, 0, true, 0, [(2, 1), (2, 20), (2, 58), (2, 68), (2, 82), (2, 83), (2, 85), (2, 96), (2, 102), (2, 106), (2, 122), (0, 93), (0, 94), (0, 95), (1, 1), (1, 2), (0, 96)]), (20, 7, 11, 1, 0, true, 0, [(2, 21), (2, 35), (2, 49), (2, 50), (2, 51), (2, 52), (2, 53), (2, 54), (2, 55), (2, 56), (2, 57)]), (55, 100, 10, 1, 0, true, 34000, []), (58, 2, 19, 1, 0, true, 0, [(0, 19), (0, 20), (1, 4), (1, 5), (1, 6), (1, 7), (0, 21), (0, 22), (0, 23), (0, 24), (0, 25), (2, 59), (2, 63), (0, 26), (1, 8), (1, 9), (1, 10), (0, 27), (0, 28)]), (106, 0, 19, 1, 0, true, 0, [(2, 107), (0, 1), (2, 108), (1, 24), (0, 2), (2, 111), (1, 25), (1, 26), (2, 114), (2, 115), (2, 116), (0, 3), (2, 117), (2, 118), (1, 27), (1, 28), (0, 4), (0, 5), (1, 29)]), (114, 100, 4, 1, 0, true, 2000, [])]), (pj_as [(10, 11, 0, 2, true), (19, 11, 1, 2, true), (26, 11, 2, 2, true), (75, 11, 9, 2, true), (400, 7, 8, 2, true), (625, 2, 17, 0, false), (628, 2, 3, 0, false), (693, 0, 8, 2, true)]), (fun _ => none), (fun _ => none), (fun _ => none), ic_X, 5, 1, pj_mI, (pj_as [(21, ph_X4_mapValue), (46, ph_J9_floorDiv_7cf53), (67, ph_X11_clip), (91, ph_X11_clip)]), fun _ => false)
abbrev pk_X11_advanceNow : List (Nat × List (Nat × Instr × Nat)) := [(0, [(0, .aload_n 0, 1), (1, .getfield 10, 3), (4, .iconst 1, 1), (5, .aload_n 0, 1), (6, .getfield 26, 3), (9, .getfield 628, 3), (12, .aload_n 0, 1), (13, .getfield 19, 3), (16, .getfield 400, 3), (19, .iconst 4, 1), (20, .iaload, 1), (21, .invokevirtual 276, 3), (24, .i2l, 1), (25, .lstore_n 2, 1), (26, .aload_n 0, 1), (27, .getfield 26, 3), (30, .getfield 628, 3), (33, .aload_n 0, 1), (34, .getfield 26, 3), (37, .getfield 625, 3), (40, .isub, 1), (41, .sipush 300, 3), (44, .iadd, 1), (45, .iconst 4, 1), (46, .invokestatic 691, 3), (49, .istore 4, 2), (51, .lload_n 2, 1), (52, .iload_n 1, 1), (53, .aload_n 0, 1), (54, .getfield 75, 3), (57, .getfield 693, 3), (60, .iconst 1, 1), (61, .iaload, 1), (62, .i2l, 1), (63, .iconst 0, 1), (64, .sipush 200, 3), (67, .invokestatic 644, 3), (70, .iadd, 1), (71, .i2l, 1), (72, .lsub, 1), (73, .lstore_n 2, 1), (74, .iload 4, 2), (76, .ifCond .le 9, 3)]), (79, [(79, .lload_n 2, 1), (80, .iload 4, 2), (82, .i2l, 1), (83, .lsub, 1), (84, .lstore_n 2, 1)]), (85, [(85, .lload_n 2, 1), (86, .bipush (-100), 2), (88, .sipush 450, 3), (91, .invokestatic 644, 3), (94, .ireturn, 1)])]
set_option maxRecDepth 100000 in
theorem pq_X11_advanceNow_85  (a2 : Int64) (s : Nat → Int32) (l : Nat → Int64) (x : Nat → Int32) (y : Nat → Int64) : pl_X11_advanceNow_85 a2 s l x y = pj_bl px_X11_advanceNow (pj_rn px_X11_advanceNow (pj_as pk_X11_advanceNow) (fun _ => none) 60) [(85, .lload_n 2, 1), (86, .bipush (-100), 2), (88, .sipush 450, 3), (91, .invokestatic 644, 3), (94, .ireturn, 1)] 85 [(2, pj_L a2)] [] (s, l, x, y) := rfl
set_option maxRecDepth 100000 in
theorem pq_X11_advanceNow_m  (a1 : Int32) (s : Nat → Int32) (l : Nat → Int64) (x : Nat → Int32) (y : Nat → Int64) : pf_X11_advanceNow a1 s l x y = pj_bl px_X11_advanceNow (pj_rn px_X11_advanceNow (pj_as pk_X11_advanceNow) (pj_as [(85, pe_X11_advanceNow_85 (pl_X11_advanceNow_85))]) 60) [(0, .aload_n 0, 1), (1, .getfield 10, 3), (4, .iconst 1, 1), (5, .aload_n 0, 1), (6, .getfield 26, 3), (9, .getfield 628, 3), (12, .aload_n 0, 1), (13, .getfield 19, 3), (16, .getfield 400, 3), (19, .iconst 4, 1), (20, .iaload, 1), (21, .invokevirtual 276, 3), (24, .i2l, 1), (25, .lstore_n 2, 1), (26, .aload_n 0, 1), (27, .getfield 26, 3), (30, .getfield 628, 3), (33, .aload_n 0, 1), (34, .getfield 26, 3), (37, .getfield 625, 3), (40, .isub, 1), (41, .sipush 300, 3), (44, .iadd, 1), (45, .iconst 4, 1), (46, .invokestatic 691, 3), (49, .istore 4, 2), (51, .lload_n 2, 1), (52, .iload_n 1, 1), (53, .aload_n 0, 1), (54, .getfield 75, 3), (57, .getfield 693, 3), (60, .iconst 1, 1), (61, .iaload, 1), (62, .i2l, 1), (63, .iconst 0, 1), (64, .sipush 200, 3), (67, .invokestatic 644, 3), (70, .iadd, 1), (71, .i2l, 1), (72, .lsub, 1), (73, .lstore_n 2, 1), (74, .iload 4, 2), (76, .ifCond .le 9, 3)] 0 [(0, pj_O (0, 0)), (1, pj_I a1)] [] (s, l, x, y) := rfl
theorem pu_X11_advanceNow_85 {lf : pj_Z → mj_M} {a : Int32 × pj_Z} (f : Int64 → pj_F (Int32 × pj_Z)) (hf : ∀ (a2 : Int64) (s : Nat → Int32) (l : Nat → Int64) (x : Nat → Int32) (y : Nat → Int64), f a2 s l x y = some a → pm_Gd 2 11064 ie_X11_advanceNow.1 pm_rI lf 85 [(2, .long a2)] [] (s, l, x, y) a) : pm_Ex 2 11064 ie_X11_advanceNow.1 pm_rI lf a 85 (pe_X11_advanceNow_85 f) := by
  intro lv st z hd h
  obtain ⟨a2, g2, h⟩ := pj_xl_inv h
  obtain ⟨e9, h⟩ := pj_pe_inv h
  rw [e9]
  exact mj_wp_sub (mj_sub_cons g2 (mj_sub_nil hd)) (hf _ _ _ _ _ h)
set_option maxRecDepth 100000 in
theorem pz_X11_advanceNow {lf : pj_Z → mj_M} (hT : pj_Lt pj_TC lf) : pj_Cok ic_P (mj_R ic_P 2) 11064 ie_X11_advanceNow.1 (pm_OK lf pm_rI) lf px_X11_advanceNow := by
  exact pm_cok (c := px_X11_advanceNow) (pm_part hT (pj_as_all (p := fun b e => pj_TC b = some e) (List.forall_mem_cons.mpr ⟨rfl, (List.forall_mem_cons.mpr ⟨rfl, (List.forall_mem_cons.mpr ⟨rfl, (List.forall_mem_cons.mpr ⟨rfl, (List.forall_mem_cons.mpr ⟨rfl, (List.forall_mem_cons.mpr ⟨rfl, (fun _ h => by cases h)⟩)⟩)⟩)⟩)⟩)⟩))) (pm_in_ok (L := [(10, 11, 0, 2, true), (19, 11, 1, 2, true), (26, 11, 2, 2, true), (75, 11, 9, 2, true), (400, 7, 8, 2, true), (625, 2, 17, 0, false), (628, 2, 3, 0, false), (693, 0, 8, 2, true)]) (f := mj_pF ic_P 11064) (by decide +kernel)) (fun _ _ h => by cases h) (fun _ _ h => by cases h) (fun _ _ h => by cases h) rfl rfl ⟨by decide, rfl⟩ pm_mI (pj_as_all (p := pm_Cl 2 11064 ie_X11_advanceNow.1 lf (pm_OK lf pm_rI)) (List.forall_mem_cons.mpr ⟨fun _ _ lv st z K a hK h => pc_X4_mapValue hT (by decide) (ix := 276) rfl rfl hK h, (List.forall_mem_cons.mpr ⟨fun _ _ lv st z K a hK h => pc_J9_floorDiv_7cf53 (pm_none hT) (by decide) (ix := 691) rfl rfl hK h, (List.forall_mem_cons.mpr ⟨fun _ _ lv st z K a hK h => pc_X11_clip hT (by decide) (ix := 644) rfl rfl hK h, (List.forall_mem_cons.mpr ⟨fun _ _ lv st z K a hK h => pc_X11_clip hT (by decide) (ix := 644) rfl rfl hK h, (fun _ h => by cases h)⟩)⟩)⟩)⟩)) (fun _ h => by cases h)
set_option maxRecDepth 100000 in
theorem pb_X11_advanceNow : pm_bks ie_X11_advanceNow.1.2.2.2.2 pk_X11_advanceNow = true := by decide +kernel
set_option maxRecDepth 100000 in
theorem pg_X11_advanceNow_85 {lf : pj_Z → mj_M} (hT : pj_Lt pj_TC lf) : ∀ (a2 : Int64) (s : Nat → Int32) (l : Nat → Int64) (x : Nat → Int32) (y : Nat → Int64) (a : Int32 × pj_Z), pl_X11_advanceNow_85 a2 s l x y = some a → pm_Gd 2 11064 ie_X11_advanceNow.1 pm_rI lf 85 [(2, .long a2)] [] (s, l, x, y) a := by
  intro a2 s l x y a h
  exact pm_run ((pq_X11_advanceNow_85  a2 s l x y).symm.trans h) (pz_X11_advanceNow hT) (pm_bks_ok pb_X11_advanceNow) (pm_bks_ok pb_X11_advanceNow _ _ rfl) (pm_ndb_ok rfl) (fun _ _ h => by cases h)
set_option maxRecDepth 100000 in
theorem pm_X11_advanceNow {lf : pj_Z → mj_M} (hT : pj_Lt pj_TC lf) (a1 : Int32) (s : Nat → Int32) (l : Nat → Int64) (x : Nat → Int32) (y : Nat → Int64) (a : Int32 × pj_Z) (h : pf_X11_advanceNow a1 s l x y = some a) : mj_R ic_P 3 11064 [.ref 0, .int a1] (lf (s, l, x, y)) (pm_rI a.1) (lf a.2) := by
  refine pm_main (Y := ie_X11_advanceNow.1) rfl (Nat.le_of_ble_eq_true rfl) ?_
  exact pm_run ((pq_X11_advanceNow_m a1 s l x y).symm.trans h) (pz_X11_advanceNow hT) (pm_bks_ok pb_X11_advanceNow) (pm_bks_ok pb_X11_advanceNow _ _ rfl) (pm_ndb_ok rfl) (pj_as_all (p := pm_Ex 2 11064 ie_X11_advanceNow.1 pm_rI lf a) (List.forall_mem_cons.mpr ⟨pu_X11_advanceNow_85 _ (fun c0 s l x y h => pg_X11_advanceNow_85 hT c0 s l x y _ h), (fun _ h => by cases h)⟩))
abbrev ph_X11_advanceNow {A : Type} : List pj_V → pj_Z → (List pj_V → pj_Z → Option A) → Option A := fun st z K => pj_pi st fun a1 st => pj_pr st 0 0 fun st => pj_ps st (pj_b (pf_X11_advanceNow a1 z.1 z.2.1 z.2.2.1 z.2.2.2) fun r s l x y => K (pj_I r :: st) (s, l, x, y))
set_option maxRecDepth 100000 in
theorem pc_X11_advanceNow {A : Type} {OK : A → Option Value → mj_M → Prop} {d j pc ix : Nat} {Y : mj_Y} {lf : pj_Z → mj_M} (hT : pj_Lt pj_TC lf) (hd : 3 ≤ d) (hl : mj_lk Y.2.2.2.2 pc = some (.invokevirtual ix, 3)) (hg : mj_pG ic_P j ix = some (11064, 1, some 11)) {lv : List (Nat × Value)} {st : List pj_V} {z : pj_Z} {K : List pj_V → pj_Z → Option A} {a : A} (hK : ∀ st z, K st z = some a → pj_Gd ic_P (mj_R ic_P d) j Y OK lf (pc + 3) lv (pj_es st) z a) (h : ph_X11_advanceNow st z K = some a) : pj_Gd ic_P (mj_R ic_P d) j Y OK lf pc lv (pj_es st) z a := by
  obtain ⟨a1, r1, e1, h⟩ := pj_pi_inv h
  obtain ⟨r0, e0, h⟩ := pj_pr_inv h
  obtain ⟨hs, h⟩ := pj_ps_inv h
  obtain ⟨q, hq, h⟩ := pj_b_inv h
  exact pm_cv (o := 0) hl hg [.int a1] rfl (by rw [e1, e0]; rfl) hs (by decide) ((hT.2 0 _ rfl).1.2 z 0 (by decide)) (pm_rI q.1) hd (pm_X11_advanceNow hT a1 z.1 z.2.1 z.2.2.1 z.2.2.2 q hq) rfl (hK _ _ h)
abbrev pe_X2_awaitAngles_100 (f : Int32 → Int32 → Int32 → Int32 → Int32 → pj_F (Unit × pj_Z)) : pj_K (Unit × pj_Z) := fun lv st z => pj_xr lv 0 58 0 <| pj_xi lv 1 fun a1 => pj_xi lv 5 fun a5 => pj_xi lv 6 fun a6 => pj_pi st fun b2 st => pj_pi st fun b1 st => pj_pr st 60 0 fun st => pj_pe st (f a1 a5 a6 b1 b2 z.1 z.2.1 z.2.2.1 z.2.2.2)
abbrev px_X2_awaitAngles : pj_C (Unit × pj_Z) := ((pj_as [(58, 2, 19, 1, 0, true, 0, [(0, 19), (0, 20), (1, 4), (1, 5), (1, 6), (1, 7), (0, 21), (0, 22), (0, 23), (0, 24), (0, 25), (2, 59), (2, 63), (0, 26), (1, 8), (1, 9), (1, 10), (0, 27), (0, 28)]), (59, 103, 3, 1, 0, true, 60, []), (60, 100, 8, 3, 1, false, 4000, []), (63, 103, 4, 1, 0, true, 64, []), (64, 100, 8, 4, 1, true, 8000, [])]), (pj_as [(11, 2, 11, 2, true), (16, 2, 12, 2, true), (30, 2, 2, 0, false)]), (fun _ => none), (pj_as [(132, 60), (136, 1200)]), (fun _ => none), ic_X, 8, 0, pj_mU, (pj_as [(32, ph_J9_floorMod_7cf53), (52, ph_J9_floorDiv_f86c9), (55, ph_J9_min_f86c9), (71, ph_J9_floorMod_7cf53), (126, ph_J9_floorMod_7cf53)]), fun _ => false)
abbrev pk_X2_awaitAngles : List (Nat × List (Nat × Instr × Nat)) := [(0, [(0, .iload_n 1, 1), (1, .ifCond .lt 17, 3)]), (4, [(4, .iload_n 1, 1), (5, .bipush 8, 2), (7, .if_icmp .ge 11, 3)]), (10, [(10, .aload_n 0, 1), (11, .getfield 30, 3), (14, .iconst 1, 1), (15, .if_icmp .ge 4, 3)]), (18, [(18, .return_, 1)]), (19, [(19, .iload_n 2, 1), (20, .aload_n 0, 1), (21, .getfield 16, 3), (24, .iconst 3, 1), (25, .aaload, 1), (26, .iload_n 1, 1), (27, .iaload, 1), (28, .isub, 1), (29, .sipush 7200, 3), (32, .invokestatic 129, 3), (35, .istore 5, 2), (37, .ldc2_w 136, 3), (40, .iload 4, 2), (42, .i2l, 1), (43, .ldc2_w 132, 3), (46, .lmul, 1), (47, .aload_n 0, 1), (48, .getfield 30, 3), (51, .i2l, 1), (52, .invokestatic 138, 3), (55, .invokestatic 110, 3), (58, .l2i, 1), (59, .istore 6, 2), (61, .iload_n 2, 1), (62, .sipush 1800, 3), (65, .isub, 1), (66, .iload_n 3, 1), (67, .iadd, 1), (68, .sipush 7200, 3), (71, .invokestatic 129, 3), (74, .istore 7, 2), (76, .aload_n 0, 1), (77, .getfield 11, 3), (80, .iconst 0, 1), (81, .aaload, 1), (82, .iload_n 1, 1), (83, .aload_n 0, 1), (84, .getfield 16, 3), (87, .iconst 2, 1), (88, .aaload, 1), (89, .iload_n 1, 1), (90, .iaload, 1), (91, .ifCond .le 8, 3)]), (94, [(94, .iload 7, 2), (96, .goto 4, 3)]), (99, [(99, .iconst (-1), 1)]), (100, [(100, .iastore, 1), (101, .aload_n 0, 1), (102, .getfield 11, 3), (105, .iconst 2, 1), (106, .aaload, 1), (107, .iload_n 1, 1), (108, .iload 5, 2), (110, .iastore, 1), (111, .aload_n 0, 1), (112, .getfield 11, 3), (115, .iconst 1, 1), (116, .aaload, 1), (117, .iload_n 1, 1), (118, .iload 5, 2), (120, .iload 6, 2), (122, .isub, 1), (123, .sipush 7200, 3), (126, .invokestatic 129, 3), (129, .iastore, 1), (130, .return_, 1)])]
set_option maxRecDepth 100000 in
theorem pq_X2_awaitAngles_100  (a1 : Int32) (a5 : Int32) (a6 : Int32) (b1 : Int32) (b2 : Int32) (s : Nat → Int32) (l : Nat → Int64) (x : Nat → Int32) (y : Nat → Int64) : pl_X2_awaitAngles_100 a1 a5 a6 b1 b2 s l x y = pj_bl px_X2_awaitAngles (pj_rn px_X2_awaitAngles (pj_as pk_X2_awaitAngles) (fun _ => none) 60) [(100, .iastore, 1), (101, .aload_n 0, 1), (102, .getfield 11, 3), (105, .iconst 2, 1), (106, .aaload, 1), (107, .iload_n 1, 1), (108, .iload 5, 2), (110, .iastore, 1), (111, .aload_n 0, 1), (112, .getfield 11, 3), (115, .iconst 1, 1), (116, .aaload, 1), (117, .iload_n 1, 1), (118, .iload 5, 2), (120, .iload 6, 2), (122, .isub, 1), (123, .sipush 7200, 3), (126, .invokestatic 129, 3), (129, .iastore, 1), (130, .return_, 1)] 100 [(0, pj_O (58, 0)), (1, pj_I a1), (5, pj_I a5), (6, pj_I a6)] [pj_I b2, pj_I b1, pj_O (60, 0)] (s, l, x, y) := rfl
set_option maxRecDepth 100000 in
theorem pq_X2_awaitAngles_m  (a1 : Int32) (a2 : Int32) (a3 : Int32) (a4 : Int32) (s : Nat → Int32) (l : Nat → Int64) (x : Nat → Int32) (y : Nat → Int64) : pf_X2_awaitAngles a1 a2 a3 a4 s l x y = pj_bl px_X2_awaitAngles (pj_rn px_X2_awaitAngles (pj_as pk_X2_awaitAngles) (pj_as [(100, pe_X2_awaitAngles_100 (pl_X2_awaitAngles_100))]) 60) [(0, .iload_n 1, 1), (1, .ifCond .lt 17, 3)] 0 [(0, pj_O (58, 0)), (1, pj_I a1), (2, pj_I a2), (3, pj_I a3), (4, pj_I a4)] [] (s, l, x, y) := rfl
theorem pu_X2_awaitAngles_100 {lf : pj_Z → mj_M} {a : Unit × pj_Z} (f : Int32 → Int32 → Int32 → Int32 → Int32 → pj_F (Unit × pj_Z)) (hf : ∀ (a1 : Int32) (a5 : Int32) (a6 : Int32) (b1 : Int32) (b2 : Int32) (s : Nat → Int32) (l : Nat → Int64) (x : Nat → Int32) (y : Nat → Int64), f a1 a5 a6 b1 b2 s l x y = some a → pm_Gd 1 2015 ie_X2_awaitAngles.1 pm_rU lf 100 [(0, .ref 58), (1, .int a1), (5, .int a5), (6, .int a6)] [.int b2, .int b1, .ref 60] (s, l, x, y) a) : pm_Ex 1 2015 ie_X2_awaitAngles.1 pm_rU lf a 100 (pe_X2_awaitAngles_100 f) := by
  intro lv st z hd h
  obtain ⟨g0, h⟩ := pj_xr_inv h
  obtain ⟨a1, g1, h⟩ := pj_xi_inv h
  obtain ⟨a5, g5, h⟩ := pj_xi_inv h
  obtain ⟨a6, g6, h⟩ := pj_xi_inv h
  obtain ⟨b2, r2, e2, h⟩ := pj_pi_inv h
  obtain ⟨b1, r1, e1, h⟩ := pj_pi_inv h
  obtain ⟨r0, e0, h⟩ := pj_pr_inv h
  obtain ⟨e9, h⟩ := pj_pe_inv h
  rw [e2, e1, e0, e9]
  exact mj_wp_sub (mj_sub_cons g0 (mj_sub_cons g1 (mj_sub_cons g5 (mj_sub_cons g6 (mj_sub_nil hd))))) (hf _ _ _ _ _ _ _ _ _ h)
set_option maxRecDepth 100000 in
theorem pz_X2_awaitAngles {lf : pj_Z → mj_M} (hT : pj_Lt pj_TC lf) : pj_Cok ic_P (mj_R ic_P 1) 2015 ie_X2_awaitAngles.1 (pm_OK lf pm_rU) lf px_X2_awaitAngles := by
  exact pm_cok (c := px_X2_awaitAngles) (pm_part hT (pj_as_all (p := fun b e => pj_TC b = some e) (List.forall_mem_cons.mpr ⟨rfl, (List.forall_mem_cons.mpr ⟨rfl, (List.forall_mem_cons.mpr ⟨rfl, (List.forall_mem_cons.mpr ⟨rfl, (List.forall_mem_cons.mpr ⟨rfl, (fun _ h => by cases h)⟩)⟩)⟩)⟩)⟩))) (pm_in_ok (L := [(11, 2, 11, 2, true), (16, 2, 12, 2, true), (30, 2, 2, 0, false)]) (f := mj_pF ic_P 2015) (by decide +kernel)) (fun _ _ h => by cases h) (pm_inL_ok (L := [(132, 60), (136, 1200)]) (f := mj_pL ic_P 2015) (by decide +kernel)) (fun _ _ h => by cases h) rfl rfl ⟨by decide, rfl⟩ pm_mU (pj_as_all (p := pm_Cl 1 2015 ie_X2_awaitAngles.1 lf (pm_OK lf pm_rU)) (List.forall_mem_cons.mpr ⟨fun _ _ lv st z K a hK h => pc_J9_floorMod_7cf53 (pm_none hT) (by decide) (ix := 129) rfl rfl hK h, (List.forall_mem_cons.mpr ⟨fun _ _ lv st z K a hK h => pc_J9_floorDiv_f86c9 (pm_none hT) (by decide) (ix := 138) rfl rfl hK h, (List.forall_mem_cons.mpr ⟨fun _ _ lv st z K a hK h => pc_J9_min_f86c9 (pm_none hT) (by decide) (ix := 110) rfl rfl hK h, (List.forall_mem_cons.mpr ⟨fun _ _ lv st z K a hK h => pc_J9_floorMod_7cf53 (pm_none hT) (by decide) (ix := 129) rfl rfl hK h, (List.forall_mem_cons.mpr ⟨fun _ _ lv st z K a hK h => pc_J9_floorMod_7cf53 (pm_none hT) (by decide) (ix := 129) rfl rfl hK h, (fun _ h => by cases h)⟩)⟩)⟩)⟩)⟩)) (fun _ h => by cases h)
set_option maxRecDepth 100000 in
theorem pb_X2_awaitAngles : pm_bks ie_X2_awaitAngles.1.2.2.2.2 pk_X2_awaitAngles = true := by decide +kernel
set_option maxRecDepth 100000 in
theorem pg_X2_awaitAngles_100 {lf : pj_Z → mj_M} (hT : pj_Lt pj_TC lf) : ∀ (a1 : Int32) (a5 : Int32) (a6 : Int32) (b1 : Int32) (b2 : Int32) (s : Nat → Int32) (l : Nat → Int64) (x : Nat → Int32) (y : Nat → Int64) (a : Unit × pj_Z), pl_X2_awaitAngles_100 a1 a5 a6 b1 b2 s l x y = some a → pm_Gd 1 2015 ie_X2_awaitAngles.1 pm_rU lf 100 [(0, .ref 58), (1, .int a1), (5, .int a5), (6, .int a6)] [.int b2, .int b1, .ref 60] (s, l, x, y) a := by
  intro a1 a5 a6 b1 b2 s l x y a h
  exact pm_run ((pq_X2_awaitAngles_100  a1 a5 a6 b1 b2 s l x y).symm.trans h) (pz_X2_awaitAngles hT) (pm_bks_ok pb_X2_awaitAngles) (pm_bks_ok pb_X2_awaitAngles _ _ rfl) (pm_ndb_ok rfl) (fun _ _ h => by cases h)
set_option maxRecDepth 100000 in
theorem pm_X2_awaitAngles {lf : pj_Z → mj_M} (hT : pj_Lt pj_TC lf) (a1 : Int32) (a2 : Int32) (a3 : Int32) (a4 : Int32) (s : Nat → Int32) (l : Nat → Int64) (x : Nat → Int32) (y : Nat → Int64) (a : Unit × pj_Z) (h : pf_X2_awaitAngles a1 a2 a3 a4 s l x y = some a) : mj_R ic_P 2 2015 [.ref 58, .int a1, .int a2, .int a3, .int a4] (lf (s, l, x, y)) (pm_rU a.1) (lf a.2) := by
  refine pm_main (Y := ie_X2_awaitAngles.1) rfl (Nat.le_of_ble_eq_true rfl) ?_
  exact pm_run ((pq_X2_awaitAngles_m a1 a2 a3 a4 s l x y).symm.trans h) (pz_X2_awaitAngles hT) (pm_bks_ok pb_X2_awaitAngles) (pm_bks_ok pb_X2_awaitAngles _ _ rfl) (pm_ndb_ok rfl) (pj_as_all (p := pm_Ex 1 2015 ie_X2_awaitAngles.1 pm_rU lf a) (List.forall_mem_cons.mpr ⟨pu_X2_awaitAngles_100 _ (fun c0 c1 c2 c3 c4 s l x y h => pg_X2_awaitAngles_100 hT c0 c1 c2 c3 c4 s l x y _ h), (fun _ h => by cases h)⟩))
abbrev ph_X2_awaitAngles {A : Type} : List pj_V → pj_Z → (List pj_V → pj_Z → Option A) → Option A := fun st z K => pj_pi st fun a4 st => pj_pi st fun a3 st => pj_pi st fun a2 st => pj_pi st fun a1 st => pj_pr st 58 0 fun st => pj_ps st (pj_b (pf_X2_awaitAngles a1 a2 a3 a4 z.1 z.2.1 z.2.2.1 z.2.2.2) fun r s l x y => K st (s, l, x, y))
set_option maxRecDepth 100000 in
theorem pc_X2_awaitAngles {A : Type} {OK : A → Option Value → mj_M → Prop} {d j pc ix : Nat} {Y : mj_Y} {lf : pj_Z → mj_M} (hT : pj_Lt pj_TC lf) (hd : 2 ≤ d) (hl : mj_lk Y.2.2.2.2 pc = some (.invokevirtual ix, 3)) (hg : mj_pG ic_P j ix = some (2015, 4, some 2)) {lv : List (Nat × Value)} {st : List pj_V} {z : pj_Z} {K : List pj_V → pj_Z → Option A} {a : A} (hK : ∀ st z, K st z = some a → pj_Gd ic_P (mj_R ic_P d) j Y OK lf (pc + 3) lv (pj_es st) z a) (h : ph_X2_awaitAngles st z K = some a) : pj_Gd ic_P (mj_R ic_P d) j Y OK lf pc lv (pj_es st) z a := by
  obtain ⟨a4, r4, e4, h⟩ := pj_pi_inv h
  obtain ⟨a3, r3, e3, h⟩ := pj_pi_inv h
  obtain ⟨a2, r2, e2, h⟩ := pj_pi_inv h
  obtain ⟨a1, r1, e1, h⟩ := pj_pi_inv h
  obtain ⟨r0, e0, h⟩ := pj_pr_inv h
  obtain ⟨hs, h⟩ := pj_ps_inv h
  obtain ⟨q, hq, h⟩ := pj_b_inv h
  exact pm_cv (o := 58) hl hg [.int a1, .int a2, .int a3, .int a4] rfl (by rw [e4, e3, e2, e1, e0]; rfl) hs (by decide) ((hT.2 58 _ rfl).1.2 z 0 (by decide)) (pm_rU q.1) hd (pm_X2_awaitAngles hT a1 a2 a3 a4 z.1 z.2.1 z.2.2.1 z.2.2.2 q hq) rfl (hK _ _ h)
abbrev pe_X11_planCylinder_34 (f : Int32 → pj_F (Unit × pj_Z)) : pj_K (Unit × pj_Z) := fun lv st z => pj_xr lv 0 0 0 <| pj_xi lv 1 fun a1 => pj_xr lv 2 2 0 <| pj_pe st (f a1 z.1 z.2.1 z.2.2.1 z.2.2.2)
abbrev pe_X11_planCylinder_68 (f : Int32 → Int32 → Int32 → pj_F (Unit × pj_Z)) : pj_K (Unit × pj_Z) := fun lv st z => pj_xr lv 0 0 0 <| pj_xi lv 1 fun a1 => pj_xr lv 2 2 0 <| pj_xi lv 3 fun a3 => pj_pi st fun b0 st => pj_pe st (f a1 a3 b0 z.1 z.2.1 z.2.2.1 z.2.2.2)
abbrev pe_X11_planCylinder_99 (f : Int32 → Int32 → Int64 → pj_F (Unit × pj_Z)) : pj_K (Unit × pj_Z) := fun lv st z => pj_xr lv 0 0 0 <| pj_xi lv 1 fun a1 => pj_xr lv 2 2 0 <| pj_pl st fun b2 st => pj_pi st fun b1 st => pj_pr st 64 0 fun st => pj_pe st (f a1 b1 b2 z.1 z.2.1 z.2.2.1 z.2.2.2)
abbrev pe_X11_planCylinder_122 (f : Int32 → pj_F (Unit × pj_Z)) : pj_K (Unit × pj_Z) := fun lv st z => pj_xr lv 0 0 0 <| pj_xi lv 1 fun a1 => pj_xr lv 2 2 0 <| pj_pe st (f a1 z.1 z.2.1 z.2.2.1 z.2.2.2)
abbrev pe_X11_planCylinder_148 (f : Int32 → pj_F (Unit × pj_Z)) : pj_K (Unit × pj_Z) := fun lv st z => pj_xr lv 0 0 0 <| pj_xi lv 1 fun a1 => pj_xr lv 2 2 0 <| pj_pe st (f a1 z.1 z.2.1 z.2.2.1 z.2.2.2)
abbrev px_X11_planCylinder : pj_C (Unit × pj_Z) := ((pj_as [(0, 11, 17, 1, 0, true, 0, [(2, 1), (2, 20), (2, 58), (2, 68), (2, 82), (2, 83), (2, 85), (2, 96), (2, 102), (2, 106), (2, 122), (0, 93), (0, 94), (0, 95), (1, 1), (1, 2), (0, 96)]), (1, 4, 10, 1, 0, true, 0, [(2, 2), (2, 3), (2, 8), (2, 11), (2, 14), (2, 17), (2, 18), (2, 19), (0, 44), (1, 3)]), (2, 100, 24, 1, 0, true, 10000, []), (20, 7, 11, 1, 0, true, 0, [(2, 21), (2, 35), (2, 49), (2, 50), (2, 51), (2, 52), (2, 53), (2, 54), (2, 55), (2, 56), (2, 57)]), (55, 100, 10, 1, 0, true, 34000, []), (58, 2, 19, 1, 0, true, 0, [(0, 19), (0, 20), (1, 4), (1, 5), (1, 6), (1, 7), (0, 21), (0, 22), (0, 23), (0, 24), (0, 25), (2, 59), (2, 63), (0, 26), (1, 8), (1, 9), (1, 10), (0, 27), (0, 28)]), (63, 103, 4, 1, 0, true, 64, []), (64, 100, 8, 4, 1, true, 8000, [])]), (pj_as [(10, 11, 0, 2, true), (19, 11, 1, 2, true), (26, 11, 2, 2, true), (86, 11, 11, 1, false), (287, 4, 0, 2, true), (400, 7, 8, 2, true), (418, 2, 12, 2, true), (638, 2, 13, 0, false)]), (fun _ => none), (fun _ => none), (fun _ => none), ic_X, 6, 0, pj_mU, (pj_as [(17, ph_X2_countMiss), (31, ph_X11_testMisfires), (103, ph_X11_clip), (118, ph_X11_fuelNow), (144, ph_X11_advanceNow), (164, ph_X7_lineValue), (176, ph_X11_topOf), (184, ph_X2_awaitAngles)]), fun _ => false)
abbrev pk_X11_planCylinder : List (Nat × List (Nat × Instr × Nat)) := [(0, [(0, .aload_n 0, 1), (1, .getfield 10, 3), (4, .getfield 287, 3), (7, .astore_n 2, 1), (8, .aload_n 0, 1), (9, .getfield 26, 3), (12, .iload_n 1, 1), (13, .aload_n 0, 1), (14, .getfield 86, 3), (17, .invokevirtual 634, 3), (20, .aload_n 0, 1), (21, .getfield 26, 3), (24, .getfield 638, 3), (27, .ifCond .ne 7, 3)]), (30, [(30, .aload_n 0, 1), (31, .invokevirtual 641, 3)]), (34, [(34, .aload_n 0, 1), (35, .getfield 26, 3), (38, .getfield 418, 3), (41, .iconst 0, 1), (42, .aaload, 1), (43, .iload_n 1, 1), (44, .iaload, 1), (45, .istore_n 3, 1), (46, .aload_n 0, 1), (47, .getfield 19, 3), (50, .getfield 400, 3), (53, .bipush 9, 2), (55, .iaload, 1), (56, .aload_n 2, 1), (57, .bipush 21, 2), (59, .iaload, 1), (60, .if_icmp .lt 7, 3)]), (63, [(63, .iconst 1, 1), (64, .goto 4, 3)]), (67, [(67, .iconst 0, 1)]), (68, [(68, .istore 4, 2), (70, .aload_n 0, 1), (71, .getfield 26, 3), (74, .getfield 418, 3), (77, .iconst 0, 1), (78, .aaload, 1), (79, .iload_n 1, 1), (80, .iload 4, 2), (82, .ifCond .eq 13, 3)]), (85, [(85, .iload_n 3, 1), (86, .aload_n 2, 1), (87, .bipush 22, 2), (89, .iaload, 1), (90, .iadd, 1), (91, .i2l, 1), (92, .goto 7, 3)]), (95, [(95, .iload_n 3, 1), (96, .iconst 1, 1), (97, .isub, 1), (98, .i2l, 1)]), (99, [(99, .iconst 0, 1), (100, .sipush 150, 3), (103, .invokestatic 644, 3), (106, .iastore, 1), (107, .aload_n 0, 1), (108, .getfield 26, 3), (111, .getfield 418, 3), (114, .iconst 2, 1), (115, .aaload, 1), (116, .iload_n 1, 1), (117, .aload_n 0, 1), (118, .invokevirtual 648, 3), (121, .iastore, 1)]), (122, [(122, .aload_n 0, 1), (123, .getfield 26, 3), (126, .getfield 418, 3), (129, .iconst 3, 1), (130, .aaload, 1), (131, .iload_n 1, 1), (132, .aload_n 0, 1), (133, .aload_n 0, 1), (134, .getfield 26, 3), (137, .getfield 418, 3), (140, .iconst 0, 1), (141, .aaload, 1), (142, .iload_n 1, 1), (143, .iaload, 1), (144, .invokevirtual 651, 3), (147, .iastore, 1)]), (148, [(148, .aload_n 0, 1), (149, .getfield 19, 3), (152, .bipush 12, 2), (154, .aload_n 0, 1), (155, .getfield 19, 3), (158, .getfield 400, 3), (161, .bipush 8, 2), (163, .iaload, 1), (164, .invokevirtual 251, 3), (167, .istore 5, 2), (169, .aload_n 0, 1), (170, .getfield 26, 3), (173, .iload_n 1, 1), (174, .aload_n 0, 1), (175, .iload_n 1, 1), (176, .invokevirtual 415, 3), (179, .aload_n 2, 1), (180, .iconst 3, 1), (181, .iaload, 1), (182, .iload 5, 2), (184, .invokevirtual 654, 3), (187, .return_, 1)])]
set_option maxRecDepth 100000 in
theorem pq_X11_planCylinder_148  (a1 : Int32) (s : Nat → Int32) (l : Nat → Int64) (x : Nat → Int32) (y : Nat → Int64) : pl_X11_planCylinder_148 a1 s l x y = pj_bl px_X11_planCylinder (pj_rn px_X11_planCylinder (pj_as pk_X11_planCylinder) (fun _ => none) 60) [(148, .aload_n 0, 1), (149, .getfield 19, 3), (152, .bipush 12, 2), (154, .aload_n 0, 1), (155, .getfield 19, 3), (158, .getfield 400, 3), (161, .bipush 8, 2), (163, .iaload, 1), (164, .invokevirtual 251, 3), (167, .istore 5, 2), (169, .aload_n 0, 1), (170, .getfield 26, 3), (173, .iload_n 1, 1), (174, .aload_n 0, 1), (175, .iload_n 1, 1), (176, .invokevirtual 415, 3), (179, .aload_n 2, 1), (180, .iconst 3, 1), (181, .iaload, 1), (182, .iload 5, 2), (184, .invokevirtual 654, 3), (187, .return_, 1)] 148 [(0, pj_O (0, 0)), (1, pj_I a1), (2, pj_O (2, 0))] [] (s, l, x, y) := rfl
set_option maxRecDepth 100000 in
theorem pq_X11_planCylinder_122  (a1 : Int32) (s : Nat → Int32) (l : Nat → Int64) (x : Nat → Int32) (y : Nat → Int64) : pl_X11_planCylinder_122 a1 s l x y = pj_bl px_X11_planCylinder (pj_rn px_X11_planCylinder (pj_as pk_X11_planCylinder) (pj_as [(148, pe_X11_planCylinder_148 (pl_X11_planCylinder_148))]) 60) [(122, .aload_n 0, 1), (123, .getfield 26, 3), (126, .getfield 418, 3), (129, .iconst 3, 1), (130, .aaload, 1), (131, .iload_n 1, 1), (132, .aload_n 0, 1), (133, .aload_n 0, 1), (134, .getfield 26, 3), (137, .getfield 418, 3), (140, .iconst 0, 1), (141, .aaload, 1), (142, .iload_n 1, 1), (143, .iaload, 1), (144, .invokevirtual 651, 3), (147, .iastore, 1)] 122 [(0, pj_O (0, 0)), (1, pj_I a1), (2, pj_O (2, 0))] [] (s, l, x, y) := rfl
set_option maxRecDepth 100000 in
theorem pq_X11_planCylinder_99  (a1 : Int32) (b1 : Int32) (b2 : Int64) (s : Nat → Int32) (l : Nat → Int64) (x : Nat → Int32) (y : Nat → Int64) : pl_X11_planCylinder_99 a1 b1 b2 s l x y = pj_bl px_X11_planCylinder (pj_rn px_X11_planCylinder (pj_as pk_X11_planCylinder) (pj_as [(122, pe_X11_planCylinder_122 (pl_X11_planCylinder_122))]) 60) [(99, .iconst 0, 1), (100, .sipush 150, 3), (103, .invokestatic 644, 3), (106, .iastore, 1), (107, .aload_n 0, 1), (108, .getfield 26, 3), (111, .getfield 418, 3), (114, .iconst 2, 1), (115, .aaload, 1), (116, .iload_n 1, 1), (117, .aload_n 0, 1), (118, .invokevirtual 648, 3), (121, .iastore, 1)] 99 [(0, pj_O (0, 0)), (1, pj_I a1), (2, pj_O (2, 0))] [pj_L b2, pj_I b1, pj_O (64, 0)] (s, l, x, y) := rfl
set_option maxRecDepth 100000 in
theorem pq_X11_planCylinder_68  (a1 : Int32) (a3 : Int32) (b0 : Int32) (s : Nat → Int32) (l : Nat → Int64) (x : Nat → Int32) (y : Nat → Int64) : pl_X11_planCylinder_68 a1 a3 b0 s l x y = pj_bl px_X11_planCylinder (pj_rn px_X11_planCylinder (pj_as pk_X11_planCylinder) (pj_as [(99, pe_X11_planCylinder_99 (pl_X11_planCylinder_99))]) 60) [(68, .istore 4, 2), (70, .aload_n 0, 1), (71, .getfield 26, 3), (74, .getfield 418, 3), (77, .iconst 0, 1), (78, .aaload, 1), (79, .iload_n 1, 1), (80, .iload 4, 2), (82, .ifCond .eq 13, 3)] 68 [(0, pj_O (0, 0)), (1, pj_I a1), (2, pj_O (2, 0)), (3, pj_I a3)] [pj_I b0] (s, l, x, y) := rfl
set_option maxRecDepth 100000 in
theorem pq_X11_planCylinder_34  (a1 : Int32) (s : Nat → Int32) (l : Nat → Int64) (x : Nat → Int32) (y : Nat → Int64) : pl_X11_planCylinder_34 a1 s l x y = pj_bl px_X11_planCylinder (pj_rn px_X11_planCylinder (pj_as pk_X11_planCylinder) (pj_as [(68, pe_X11_planCylinder_68 (pl_X11_planCylinder_68))]) 60) [(34, .aload_n 0, 1), (35, .getfield 26, 3), (38, .getfield 418, 3), (41, .iconst 0, 1), (42, .aaload, 1), (43, .iload_n 1, 1), (44, .iaload, 1), (45, .istore_n 3, 1), (46, .aload_n 0, 1), (47, .getfield 19, 3), (50, .getfield 400, 3), (53, .bipush 9, 2), (55, .iaload, 1), (56, .aload_n 2, 1), (57, .bipush 21, 2), (59, .iaload, 1), (60, .if_icmp .lt 7, 3)] 34 [(0, pj_O (0, 0)), (1, pj_I a1), (2, pj_O (2, 0))] [] (s, l, x, y) := rfl
set_option maxRecDepth 100000 in
theorem pq_X11_planCylinder_m  (a1 : Int32) (s : Nat → Int32) (l : Nat → Int64) (x : Nat → Int32) (y : Nat → Int64) : pf_X11_planCylinder a1 s l x y = pj_bl px_X11_planCylinder (pj_rn px_X11_planCylinder (pj_as pk_X11_planCylinder) (pj_as [(34, pe_X11_planCylinder_34 (pl_X11_planCylinder_34))]) 60) [(0, .aload_n 0, 1), (1, .getfield 10, 3), (4, .getfield 287, 3), (7, .astore_n 2, 1), (8, .aload_n 0, 1), (9, .getfield 26, 3), (12, .iload_n 1, 1), (13, .aload_n 0, 1), (14, .getfield 86, 3), (17, .invokevirtual 634, 3), (20, .aload_n 0, 1), (21, .getfield 26, 3), (24, .getfield 638, 3), (27, .ifCond .ne 7, 3)] 0 [(0, pj_O (0, 0)), (1, pj_I a1)] [] (s, l, x, y) := rfl
theorem pu_X11_planCylinder_34 {lf : pj_Z → mj_M} {a : Unit × pj_Z} (f : Int32 → pj_F (Unit × pj_Z)) (hf : ∀ (a1 : Int32) (s : Nat → Int32) (l : Nat → Int64) (x : Nat → Int32) (y : Nat → Int64), f a1 s l x y = some a → pm_Gd 4 11061 ie_X11_planCylinder.1 pm_rU lf 34 [(0, .ref 0), (1, .int a1), (2, .ref 2)] [] (s, l, x, y) a) : pm_Ex 4 11061 ie_X11_planCylinder.1 pm_rU lf a 34 (pe_X11_planCylinder_34 f) := by
  intro lv st z hd h
  obtain ⟨g0, h⟩ := pj_xr_inv h
  obtain ⟨a1, g1, h⟩ := pj_xi_inv h
  obtain ⟨g2, h⟩ := pj_xr_inv h
  obtain ⟨e9, h⟩ := pj_pe_inv h
  rw [e9]
  exact mj_wp_sub (mj_sub_cons g0 (mj_sub_cons g1 (mj_sub_cons g2 (mj_sub_nil hd)))) (hf _ _ _ _ _ h)
theorem pu_X11_planCylinder_68 {lf : pj_Z → mj_M} {a : Unit × pj_Z} (f : Int32 → Int32 → Int32 → pj_F (Unit × pj_Z)) (hf : ∀ (a1 : Int32) (a3 : Int32) (b0 : Int32) (s : Nat → Int32) (l : Nat → Int64) (x : Nat → Int32) (y : Nat → Int64), f a1 a3 b0 s l x y = some a → pm_Gd 4 11061 ie_X11_planCylinder.1 pm_rU lf 68 [(0, .ref 0), (1, .int a1), (2, .ref 2), (3, .int a3)] [.int b0] (s, l, x, y) a) : pm_Ex 4 11061 ie_X11_planCylinder.1 pm_rU lf a 68 (pe_X11_planCylinder_68 f) := by
  intro lv st z hd h
  obtain ⟨g0, h⟩ := pj_xr_inv h
  obtain ⟨a1, g1, h⟩ := pj_xi_inv h
  obtain ⟨g2, h⟩ := pj_xr_inv h
  obtain ⟨a3, g3, h⟩ := pj_xi_inv h
  obtain ⟨b0, r0, e0, h⟩ := pj_pi_inv h
  obtain ⟨e9, h⟩ := pj_pe_inv h
  rw [e0, e9]
  exact mj_wp_sub (mj_sub_cons g0 (mj_sub_cons g1 (mj_sub_cons g2 (mj_sub_cons g3 (mj_sub_nil hd))))) (hf _ _ _ _ _ _ _ h)
theorem pu_X11_planCylinder_99 {lf : pj_Z → mj_M} {a : Unit × pj_Z} (f : Int32 → Int32 → Int64 → pj_F (Unit × pj_Z)) (hf : ∀ (a1 : Int32) (b1 : Int32) (b2 : Int64) (s : Nat → Int32) (l : Nat → Int64) (x : Nat → Int32) (y : Nat → Int64), f a1 b1 b2 s l x y = some a → pm_Gd 4 11061 ie_X11_planCylinder.1 pm_rU lf 99 [(0, .ref 0), (1, .int a1), (2, .ref 2)] [.long b2, .int b1, .ref 64] (s, l, x, y) a) : pm_Ex 4 11061 ie_X11_planCylinder.1 pm_rU lf a 99 (pe_X11_planCylinder_99 f) := by
  intro lv st z hd h
  obtain ⟨g0, h⟩ := pj_xr_inv h
  obtain ⟨a1, g1, h⟩ := pj_xi_inv h
  obtain ⟨g2, h⟩ := pj_xr_inv h
  obtain ⟨b2, r2, e2, h⟩ := pj_pl_inv h
  obtain ⟨b1, r1, e1, h⟩ := pj_pi_inv h
  obtain ⟨r0, e0, h⟩ := pj_pr_inv h
  obtain ⟨e9, h⟩ := pj_pe_inv h
  rw [e2, e1, e0, e9]
  exact mj_wp_sub (mj_sub_cons g0 (mj_sub_cons g1 (mj_sub_cons g2 (mj_sub_nil hd)))) (hf _ _ _ _ _ _ _ h)
theorem pu_X11_planCylinder_122 {lf : pj_Z → mj_M} {a : Unit × pj_Z} (f : Int32 → pj_F (Unit × pj_Z)) (hf : ∀ (a1 : Int32) (s : Nat → Int32) (l : Nat → Int64) (x : Nat → Int32) (y : Nat → Int64), f a1 s l x y = some a → pm_Gd 4 11061 ie_X11_planCylinder.1 pm_rU lf 122 [(0, .ref 0), (1, .int a1), (2, .ref 2)] [] (s, l, x, y) a) : pm_Ex 4 11061 ie_X11_planCylinder.1 pm_rU lf a 122 (pe_X11_planCylinder_122 f) := by
  intro lv st z hd h
  obtain ⟨g0, h⟩ := pj_xr_inv h
  obtain ⟨a1, g1, h⟩ := pj_xi_inv h
  obtain ⟨g2, h⟩ := pj_xr_inv h
  obtain ⟨e9, h⟩ := pj_pe_inv h
  rw [e9]
  exact mj_wp_sub (mj_sub_cons g0 (mj_sub_cons g1 (mj_sub_cons g2 (mj_sub_nil hd)))) (hf _ _ _ _ _ h)
theorem pu_X11_planCylinder_148 {lf : pj_Z → mj_M} {a : Unit × pj_Z} (f : Int32 → pj_F (Unit × pj_Z)) (hf : ∀ (a1 : Int32) (s : Nat → Int32) (l : Nat → Int64) (x : Nat → Int32) (y : Nat → Int64), f a1 s l x y = some a → pm_Gd 4 11061 ie_X11_planCylinder.1 pm_rU lf 148 [(0, .ref 0), (1, .int a1), (2, .ref 2)] [] (s, l, x, y) a) : pm_Ex 4 11061 ie_X11_planCylinder.1 pm_rU lf a 148 (pe_X11_planCylinder_148 f) := by
  intro lv st z hd h
  obtain ⟨g0, h⟩ := pj_xr_inv h
  obtain ⟨a1, g1, h⟩ := pj_xi_inv h
  obtain ⟨g2, h⟩ := pj_xr_inv h
  obtain ⟨e9, h⟩ := pj_pe_inv h
  rw [e9]
  exact mj_wp_sub (mj_sub_cons g0 (mj_sub_cons g1 (mj_sub_cons g2 (mj_sub_nil hd)))) (hf _ _ _ _ _ h)
set_option maxRecDepth 100000 in
theorem pz_X11_planCylinder {lf : pj_Z → mj_M} (hT : pj_Lt pj_TC lf) : pj_Cok ic_P (mj_R ic_P 4) 11061 ie_X11_planCylinder.1 (pm_OK lf pm_rU) lf px_X11_planCylinder := by
  exact pm_cok (c := px_X11_planCylinder) (pm_part hT (pj_as_all (p := fun b e => pj_TC b = some e) (List.forall_mem_cons.mpr ⟨rfl, (List.forall_mem_cons.mpr ⟨rfl, (List.forall_mem_cons.mpr ⟨rfl, (List.forall_mem_cons.mpr ⟨rfl, (List.forall_mem_cons.mpr ⟨rfl, (List.forall_mem_cons.mpr ⟨rfl, (List.forall_mem_cons.mpr ⟨rfl, (List.forall_mem_cons.mpr ⟨rfl, (fun _ h => by cases h)⟩)⟩)⟩)⟩)⟩)⟩)⟩)⟩))) (pm_in_ok (L := [(10, 11, 0, 2, true), (19, 11, 1, 2, true), (26, 11, 2, 2, true), (86, 11, 11, 1, false), (287, 4, 0, 2, true), (400, 7, 8, 2, true), (418, 2, 12, 2, true), (638, 2, 13, 0, false)]) (f := mj_pF ic_P 11061) (by decide +kernel)) (fun _ _ h => by cases h) (fun _ _ h => by cases h) (fun _ _ h => by cases h) rfl rfl ⟨by decide, rfl⟩ pm_mU (pj_as_all (p := pm_Cl 4 11061 ie_X11_planCylinder.1 lf (pm_OK lf pm_rU)) (List.forall_mem_cons.mpr ⟨fun _ _ lv st z K a hK h => pc_X2_countMiss hT (by decide) (ix := 634) rfl rfl hK h, (List.forall_mem_cons.mpr ⟨fun _ _ lv st z K a hK h => pc_X11_testMisfires hT (by decide) (ix := 641) rfl rfl hK h, (List.forall_mem_cons.mpr ⟨fun _ _ lv st z K a hK h => pc_X11_clip hT (by decide) (ix := 644) rfl rfl hK h, (List.forall_mem_cons.mpr ⟨fun _ _ lv st z K a hK h => pc_X11_fuelNow hT (by decide) (ix := 648) rfl rfl hK h, (List.forall_mem_cons.mpr ⟨fun _ _ lv st z K a hK h => pc_X11_advanceNow hT (by decide) (ix := 651) rfl rfl hK h, (List.forall_mem_cons.mpr ⟨fun _ _ lv st z K a hK h => pc_X7_lineValue hT (by decide) (ix := 251) rfl rfl hK h, (List.forall_mem_cons.mpr ⟨fun _ _ lv st z K a hK h => pc_X11_topOf hT (by decide) (ix := 415) rfl rfl hK h, (List.forall_mem_cons.mpr ⟨fun _ _ lv st z K a hK h => pc_X2_awaitAngles hT (by decide) (ix := 654) rfl rfl hK h, (fun _ h => by cases h)⟩)⟩)⟩)⟩)⟩)⟩)⟩)⟩)) (fun _ h => by cases h)
set_option maxRecDepth 100000 in
theorem pb_X11_planCylinder : pm_bks ie_X11_planCylinder.1.2.2.2.2 pk_X11_planCylinder = true := by decide +kernel
set_option maxRecDepth 100000 in
theorem pg_X11_planCylinder_148 {lf : pj_Z → mj_M} (hT : pj_Lt pj_TC lf) : ∀ (a1 : Int32) (s : Nat → Int32) (l : Nat → Int64) (x : Nat → Int32) (y : Nat → Int64) (a : Unit × pj_Z), pl_X11_planCylinder_148 a1 s l x y = some a → pm_Gd 4 11061 ie_X11_planCylinder.1 pm_rU lf 148 [(0, .ref 0), (1, .int a1), (2, .ref 2)] [] (s, l, x, y) a := by
  intro a1 s l x y a h
  exact pm_run ((pq_X11_planCylinder_148  a1 s l x y).symm.trans h) (pz_X11_planCylinder hT) (pm_bks_ok pb_X11_planCylinder) (pm_bks_ok pb_X11_planCylinder _ _ rfl) (pm_ndb_ok rfl) (fun _ _ h => by cases h)
set_option maxRecDepth 100000 in
theorem pg_X11_planCylinder_122 {lf : pj_Z → mj_M} (hT : pj_Lt pj_TC lf) : ∀ (a1 : Int32) (s : Nat → Int32) (l : Nat → Int64) (x : Nat → Int32) (y : Nat → Int64) (a : Unit × pj_Z), pl_X11_planCylinder_122 a1 s l x y = some a → pm_Gd 4 11061 ie_X11_planCylinder.1 pm_rU lf 122 [(0, .ref 0), (1, .int a1), (2, .ref 2)] [] (s, l, x, y) a := by
  intro a1 s l x y a h
  exact pm_run ((pq_X11_planCylinder_122  a1 s l x y).symm.trans h) (pz_X11_planCylinder hT) (pm_bks_ok pb_X11_planCylinder) (pm_bks_ok pb_X11_planCylinder _ _ rfl) (pm_ndb_ok rfl) (pj_as_all (p := pm_Ex 4 11061 ie_X11_planCylinder.1 pm_rU lf a) (List.forall_mem_cons.mpr ⟨pu_X11_planCylinder_148 _ (fun c0 s l x y h => pg_X11_planCylinder_148 hT c0 s l x y _ h), (fun _ h => by cases h)⟩))
set_option maxRecDepth 100000 in
theorem pg_X11_planCylinder_99 {lf : pj_Z → mj_M} (hT : pj_Lt pj_TC lf) : ∀ (a1 : Int32) (b1 : Int32) (b2 : Int64) (s : Nat → Int32) (l : Nat → Int64) (x : Nat → Int32) (y : Nat → Int64) (a : Unit × pj_Z), pl_X11_planCylinder_99 a1 b1 b2 s l x y = some a → pm_Gd 4 11061 ie_X11_planCylinder.1 pm_rU lf 99 [(0, .ref 0), (1, .int a1), (2, .ref 2)] [.long b2, .int b1, .ref 64] (s, l, x, y) a := by
  intro a1 b1 b2 s l x y a h
  exact pm_run ((pq_X11_planCylinder_99  a1 b1 b2 s l x y).symm.trans h) (pz_X11_planCylinder hT) (pm_bks_ok pb_X11_planCylinder) (pm_bks_ok pb_X11_planCylinder _ _ rfl) (pm_ndb_ok rfl) (pj_as_all (p := pm_Ex 4 11061 ie_X11_planCylinder.1 pm_rU lf a) (List.forall_mem_cons.mpr ⟨pu_X11_planCylinder_122 _ (fun c0 s l x y h => pg_X11_planCylinder_122 hT c0 s l x y _ h), (fun _ h => by cases h)⟩))
set_option maxRecDepth 100000 in
theorem pg_X11_planCylinder_68 {lf : pj_Z → mj_M} (hT : pj_Lt pj_TC lf) : ∀ (a1 : Int32) (a3 : Int32) (b0 : Int32) (s : Nat → Int32) (l : Nat → Int64) (x : Nat → Int32) (y : Nat → Int64) (a : Unit × pj_Z), pl_X11_planCylinder_68 a1 a3 b0 s l x y = some a → pm_Gd 4 11061 ie_X11_planCylinder.1 pm_rU lf 68 [(0, .ref 0), (1, .int a1), (2, .ref 2), (3, .int a3)] [.int b0] (s, l, x, y) a := by
  intro a1 a3 b0 s l x y a h
  exact pm_run ((pq_X11_planCylinder_68  a1 a3 b0 s l x y).symm.trans h) (pz_X11_planCylinder hT) (pm_bks_ok pb_X11_planCylinder) (pm_bks_ok pb_X11_planCylinder _ _ rfl) (pm_ndb_ok rfl) (pj_as_all (p := pm_Ex 4 11061 ie_X11_planCylinder.1 pm_rU lf a) (List.forall_mem_cons.mpr ⟨pu_X11_planCylinder_99 _ (fun c0 c1 c2 s l x y h => pg_X11_planCylinder_99 hT c0 c1 c2 s l x y _ h), (fun _ h => by cases h)⟩))
set_option maxRecDepth 100000 in
theorem pg_X11_planCylinder_34 {lf : pj_Z → mj_M} (hT : pj_Lt pj_TC lf) : ∀ (a1 : Int32) (s : Nat → Int32) (l : Nat → Int64) (x : Nat → Int32) (y : Nat → Int64) (a : Unit × pj_Z), pl_X11_planCylinder_34 a1 s l x y = some a → pm_Gd 4 11061 ie_X11_planCylinder.1 pm_rU lf 34 [(0, .ref 0), (1, .int a1), (2, .ref 2)] [] (s, l, x, y) a := by
  intro a1 s l x y a h
  exact pm_run ((pq_X11_planCylinder_34  a1 s l x y).symm.trans h) (pz_X11_planCylinder hT) (pm_bks_ok pb_X11_planCylinder) (pm_bks_ok pb_X11_planCylinder _ _ rfl) (pm_ndb_ok rfl) (pj_as_all (p := pm_Ex 4 11061 ie_X11_planCylinder.1 pm_rU lf a) (List.forall_mem_cons.mpr ⟨pu_X11_planCylinder_68 _ (fun c0 c1 c2 s l x y h => pg_X11_planCylinder_68 hT c0 c1 c2 s l x y _ h), (fun _ h => by cases h)⟩))
set_option maxRecDepth 100000 in
theorem pm_X11_planCylinder {lf : pj_Z → mj_M} (hT : pj_Lt pj_TC lf) (a1 : Int32) (s : Nat → Int32) (l : Nat → Int64) (x : Nat → Int32) (y : Nat → Int64) (a : Unit × pj_Z) (h : pf_X11_planCylinder a1 s l x y = some a) : mj_R ic_P 5 11061 [.ref 0, .int a1] (lf (s, l, x, y)) (pm_rU a.1) (lf a.2) := by
  refine pm_main (Y := ie_X11_planCylinder.1) rfl (Nat.le_of_ble_eq_true rfl) ?_
  exact pm_run ((pq_X11_planCylinder_m a1 s l x y).symm.trans h) (pz_X11_planCylinder hT) (pm_bks_ok pb_X11_planCylinder) (pm_bks_ok pb_X11_planCylinder _ _ rfl) (pm_ndb_ok rfl) (pj_as_all (p := pm_Ex 4 11061 ie_X11_planCylinder.1 pm_rU lf a) (List.forall_mem_cons.mpr ⟨pu_X11_planCylinder_34 _ (fun c0 s l x y h => pg_X11_planCylinder_34 hT c0 s l x y _ h), (fun _ h => by cases h)⟩))
abbrev ph_X11_planCylinder {A : Type} : List pj_V → pj_Z → (List pj_V → pj_Z → Option A) → Option A := fun st z K => pj_pi st fun a1 st => pj_pr st 0 0 fun st => pj_ps st (pj_b (pf_X11_planCylinder a1 z.1 z.2.1 z.2.2.1 z.2.2.2) fun r s l x y => K st (s, l, x, y))
set_option maxRecDepth 100000 in
theorem pc_X11_planCylinder {A : Type} {OK : A → Option Value → mj_M → Prop} {d j pc ix : Nat} {Y : mj_Y} {lf : pj_Z → mj_M} (hT : pj_Lt pj_TC lf) (hd : 5 ≤ d) (hl : mj_lk Y.2.2.2.2 pc = some (.invokevirtual ix, 3)) (hg : mj_pG ic_P j ix = some (11061, 1, some 11)) {lv : List (Nat × Value)} {st : List pj_V} {z : pj_Z} {K : List pj_V → pj_Z → Option A} {a : A} (hK : ∀ st z, K st z = some a → pj_Gd ic_P (mj_R ic_P d) j Y OK lf (pc + 3) lv (pj_es st) z a) (h : ph_X11_planCylinder st z K = some a) : pj_Gd ic_P (mj_R ic_P d) j Y OK lf pc lv (pj_es st) z a := by
  obtain ⟨a1, r1, e1, h⟩ := pj_pi_inv h
  obtain ⟨r0, e0, h⟩ := pj_pr_inv h
  obtain ⟨hs, h⟩ := pj_ps_inv h
  obtain ⟨q, hq, h⟩ := pj_b_inv h
  exact pm_cv (o := 0) hl hg [.int a1] rfl (by rw [e1, e0]; rfl) hs (by decide) ((hT.2 0 _ rfl).1.2 z 0 (by decide)) (pm_rU q.1) hd (pm_X11_planCylinder hT a1 z.1 z.2.1 z.2.2.1 z.2.2.2 q hq) rfl (hK _ _ h)
abbrev px_X2_comesAt : pj_C (Int64 × pj_Z) := ((pj_as [(58, 2, 19, 1, 0, true, 0, [(0, 19), (0, 20), (1, 4), (1, 5), (1, 6), (1, 7), (0, 21), (0, 22), (0, 23), (0, 24), (0, 25), (2, 59), (2, 63), (0, 26), (1, 8), (1, 9), (1, 10), (0, 27), (0, 28)])]), (pj_as [(26, 2, 1, 1, false), (30, 2, 2, 0, false)]), (fun _ => none), (pj_as [(132, 60)]), (fun _ => none), ic_X, 4, 3, pj_mL, (pj_as [(2, ph_X2_angleNow), (9, ph_J9_floorMod_7cf53)]), fun _ => false)
abbrev pk_X2_comesAt : List (Nat × List (Nat × Instr × Nat)) := [(0, [(0, .iload_n 1, 1), (1, .aload_n 0, 1), (2, .invokevirtual 125, 3), (5, .isub, 1), (6, .sipush 7200, 3), (9, .invokestatic 129, 3), (12, .i2l, 1), (13, .lstore_n 2, 1), (14, .aload_n 0, 1), (15, .getfield 26, 3), (18, .lload_n 2, 1), (19, .aload_n 0, 1), (20, .getfield 30, 3), (23, .i2l, 1), (24, .lmul, 1), (25, .ldc2_w 132, 3), (28, .ldiv, 1), (29, .ladd, 1), (30, .lreturn, 1)])]
set_option maxRecDepth 100000 in
theorem pq_X2_comesAt_m  (a1 : Int32) (s : Nat → Int32) (l : Nat → Int64) (x : Nat → Int32) (y : Nat → Int64) : pf_X2_comesAt a1 s l x y = pj_bl px_X2_comesAt (pj_rn px_X2_comesAt (pj_as pk_X2_comesAt) (fun _ => none) 60) [(0, .iload_n 1, 1), (1, .aload_n 0, 1), (2, .invokevirtual 125, 3), (5, .isub, 1), (6, .sipush 7200, 3), (9, .invokestatic 129, 3), (12, .i2l, 1), (13, .lstore_n 2, 1), (14, .aload_n 0, 1), (15, .getfield 26, 3), (18, .lload_n 2, 1), (19, .aload_n 0, 1), (20, .getfield 30, 3), (23, .i2l, 1), (24, .lmul, 1), (25, .ldc2_w 132, 3), (28, .ldiv, 1), (29, .ladd, 1), (30, .lreturn, 1)] 0 [(0, pj_O (58, 0)), (1, pj_I a1)] [] (s, l, x, y) := rfl
set_option maxRecDepth 100000 in
theorem pz_X2_comesAt {lf : pj_Z → mj_M} (hT : pj_Lt pj_TC lf) : pj_Cok ic_P (mj_R ic_P 1) 2013 ie_X2_comesAt.1 (pm_OK lf pm_rL) lf px_X2_comesAt := by
  exact pm_cok (c := px_X2_comesAt) (pm_part hT (pj_as_all (p := fun b e => pj_TC b = some e) (List.forall_mem_cons.mpr ⟨rfl, (fun _ h => by cases h)⟩))) (pm_in_ok (L := [(26, 2, 1, 1, false), (30, 2, 2, 0, false)]) (f := mj_pF ic_P 2013) (by decide +kernel)) (fun _ _ h => by cases h) (pm_inL_ok (L := [(132, 60)]) (f := mj_pL ic_P 2013) (by decide +kernel)) (fun _ _ h => by cases h) rfl rfl ⟨by decide, rfl⟩ pm_mL (pj_as_all (p := pm_Cl 1 2013 ie_X2_comesAt.1 lf (pm_OK lf pm_rL)) (List.forall_mem_cons.mpr ⟨fun _ _ lv st z K a hK h => pc_X2_angleNow hT (by decide) (ix := 125) rfl rfl hK h, (List.forall_mem_cons.mpr ⟨fun _ _ lv st z K a hK h => pc_J9_floorMod_7cf53 (pm_none hT) (by decide) (ix := 129) rfl rfl hK h, (fun _ h => by cases h)⟩)⟩)) (fun _ h => by cases h)
set_option maxRecDepth 100000 in
theorem pb_X2_comesAt : pm_bks ie_X2_comesAt.1.2.2.2.2 pk_X2_comesAt = true := by decide +kernel
set_option maxRecDepth 100000 in
theorem pm_X2_comesAt {lf : pj_Z → mj_M} (hT : pj_Lt pj_TC lf) (a1 : Int32) (s : Nat → Int32) (l : Nat → Int64) (x : Nat → Int32) (y : Nat → Int64) (a : Int64 × pj_Z) (h : pf_X2_comesAt a1 s l x y = some a) : mj_R ic_P 2 2013 [.ref 58, .int a1] (lf (s, l, x, y)) (pm_rL a.1) (lf a.2) := by
  refine pm_main (Y := ie_X2_comesAt.1) rfl (Nat.le_of_ble_eq_true rfl) ?_
  exact pm_run ((pq_X2_comesAt_m a1 s l x y).symm.trans h) (pz_X2_comesAt hT) (pm_bks_ok pb_X2_comesAt) (pm_bks_ok pb_X2_comesAt _ _ rfl) (pm_ndb_ok rfl) (fun _ _ h => by cases h)
abbrev ph_X2_comesAt {A : Type} : List pj_V → pj_Z → (List pj_V → pj_Z → Option A) → Option A := fun st z K => pj_pi st fun a1 st => pj_pr st 58 0 fun st => pj_ps st (pj_b (pf_X2_comesAt a1 z.1 z.2.1 z.2.2.1 z.2.2.2) fun r s l x y => K (pj_L r :: st) (s, l, x, y))
set_option maxRecDepth 100000 in
theorem pc_X2_comesAt {A : Type} {OK : A → Option Value → mj_M → Prop} {d j pc ix : Nat} {Y : mj_Y} {lf : pj_Z → mj_M} (hT : pj_Lt pj_TC lf) (hd : 2 ≤ d) (hl : mj_lk Y.2.2.2.2 pc = some (.invokevirtual ix, 3)) (hg : mj_pG ic_P j ix = some (2013, 1, some 2)) {lv : List (Nat × Value)} {st : List pj_V} {z : pj_Z} {K : List pj_V → pj_Z → Option A} {a : A} (hK : ∀ st z, K st z = some a → pj_Gd ic_P (mj_R ic_P d) j Y OK lf (pc + 3) lv (pj_es st) z a) (h : ph_X2_comesAt st z K = some a) : pj_Gd ic_P (mj_R ic_P d) j Y OK lf pc lv (pj_es st) z a := by
  obtain ⟨a1, r1, e1, h⟩ := pj_pi_inv h
  obtain ⟨r0, e0, h⟩ := pj_pr_inv h
  obtain ⟨hs, h⟩ := pj_ps_inv h
  obtain ⟨q, hq, h⟩ := pj_b_inv h
  exact pm_cv (o := 58) hl hg [.int a1] rfl (by rw [e1, e0]; rfl) hs (by decide) ((hT.2 58 _ rfl).1.2 z 0 (by decide)) (pm_rL q.1) hd (pm_X2_comesAt hT a1 z.1 z.2.1 z.2.2.1 z.2.2.2 q hq) rfl (hK _ _ h)
abbrev pe_X11_putWaiting_2 (f : Int32 → Int32 → pj_F (Unit × pj_Z)) : pj_K (Unit × pj_Z) := fun lv st z => pj_xr lv 0 0 0 <| pj_xi lv 1 fun a1 => pj_xi lv 2 fun a2 => pj_pe st (f a1 a2 z.1 z.2.1 z.2.2.1 z.2.2.2)
abbrev pe_X11_putWaiting_75 (f : Int32 → Int32 → pj_F (Unit × pj_Z)) : pj_K (Unit × pj_Z) := fun lv st z => pj_xr lv 0 0 0 <| pj_xi lv 1 fun a1 => pj_xi lv 2 fun a2 => pj_pe st (f a1 a2 z.1 z.2.1 z.2.2.1 z.2.2.2)
abbrev px_X11_putWaiting : pj_C (Unit × pj_Z) := ((pj_as [(0, 11, 17, 1, 0, true, 0, [(2, 1), (2, 20), (2, 58), (2, 68), (2, 82), (2, 83), (2, 85), (2, 96), (2, 102), (2, 106), (2, 122), (0, 93), (0, 94), (0, 95), (1, 1), (1, 2), (0, 96)]), (58, 2, 19, 1, 0, true, 0, [(0, 19), (0, 20), (1, 4), (1, 5), (1, 6), (1, 7), (0, 21), (0, 22), (0, 23), (0, 24), (0, 25), (2, 59), (2, 63), (0, 26), (1, 8), (1, 9), (1, 10), (0, 27), (0, 28)]), (59, 103, 3, 1, 0, true, 60, []), (60, 100, 8, 3, 1, false, 4000, []), (63, 103, 4, 1, 0, true, 64, []), (64, 100, 8, 4, 1, true, 8000, [])]), (pj_as [(26, 11, 2, 2, true), (33, 11, 3, 2, true), (418, 2, 12, 2, true), (696, 2, 11, 2, true)]), (fun _ => none), (fun _ => none), (fun _ => none), ic_X, 4, 0, pj_mU, (pj_as [(29, ph_X2_standsFor), (56, ph_X2_comesAt), (72, ph_X6_put)]), fun _ => false)
abbrev pk_X11_putWaiting : List (Nat × List (Nat × Instr × Nat)) := [(0, [(0, .iconst 0, 1), (1, .istore_n 2, 1)]), (2, [(2, .iload_n 2, 1), (3, .iconst 2, 1), (4, .if_icmp .gt 77, 3)]), (7, [(7, .aload_n 0, 1), (8, .getfield 26, 3), (11, .getfield 696, 3), (14, .iload_n 2, 1), (15, .aaload, 1), (16, .iload_n 1, 1), (17, .iaload, 1), (18, .istore_n 3, 1), (19, .iload_n 3, 1), (20, .iconst (-1), 1), (21, .if_icmp .eq 54, 3)]), (24, [(24, .aload_n 0, 1), (25, .getfield 26, 3), (28, .iload_n 3, 1), (29, .invokevirtual 613, 3), (32, .ifCond .eq 43, 3)]), (35, [(35, .aload_n 0, 1), (36, .getfield 26, 3), (39, .getfield 696, 3), (42, .iload_n 2, 1), (43, .aaload, 1), (44, .iload_n 1, 1), (45, .iconst (-1), 1), (46, .iastore, 1), (47, .aload_n 0, 1), (48, .getfield 33, 3), (51, .aload_n 0, 1), (52, .getfield 26, 3), (55, .iload_n 3, 1), (56, .invokevirtual 451, 3), (59, .iload_n 2, 1), (60, .iload_n 1, 1), (61, .aload_n 0, 1), (62, .getfield 26, 3), (65, .getfield 418, 3), (68, .iconst 2, 1), (69, .aaload, 1), (70, .iload_n 1, 1), (71, .iaload, 1), (72, .invokevirtual 699, 3)]), (75, [(75, .iinc 2 1, 3), (78, .goto (-76), 3)]), (81, [(81, .return_, 1)])]
set_option maxRecDepth 100000 in
theorem pq_X11_putWaiting_75 (fu : Nat)  (k2 : Int32 → Int32 → pj_F (Unit × pj_Z)) (a1 : Int32) (a2 : Int32) (s : Nat → Int32) (l : Nat → Int64) (x : Nat → Int32) (y : Nat → Int64) : pl_X11_putWaiting_75 fu k2 a1 a2 s l x y = pj_bl px_X11_putWaiting (pj_rn px_X11_putWaiting (pj_as pk_X11_putWaiting) (pj_as [(2, pe_X11_putWaiting_2 k2)]) 60) [(75, .iinc 2 1, 3), (78, .goto (-76), 3)] 75 [(0, pj_O (0, 0)), (1, pj_I a1), (2, pj_I a2)] [] (s, l, x, y) := rfl
set_option maxRecDepth 100000 in
theorem pq_X11_putWaiting_2 (fu : Nat)  (n : Nat) (a1 : Int32) (a2 : Int32) (s : Nat → Int32) (l : Nat → Int64) (x : Nat → Int32) (y : Nat → Int64) : pl_X11_putWaiting_2 fu (n + 1) a1 a2 s l x y = pj_bl px_X11_putWaiting (pj_rn px_X11_putWaiting (pj_as pk_X11_putWaiting) (pj_as [(2, pe_X11_putWaiting_2 (pl_X11_putWaiting_2 fu n)), (75, pe_X11_putWaiting_75 (pl_X11_putWaiting_75 fu (pl_X11_putWaiting_2 fu n)))]) 60) [(2, .iload_n 2, 1), (3, .iconst 2, 1), (4, .if_icmp .gt 77, 3)] 2 [(0, pj_O (0, 0)), (1, pj_I a1), (2, pj_I a2)] [] (s, l, x, y) := rfl
set_option maxRecDepth 100000 in
theorem pq_X11_putWaiting_m (fu : Nat)  (a1 : Int32) (s : Nat → Int32) (l : Nat → Int64) (x : Nat → Int32) (y : Nat → Int64) : po_X11_putWaiting fu a1 s l x y = pj_bl px_X11_putWaiting (pj_rn px_X11_putWaiting (pj_as pk_X11_putWaiting) (pj_as [(2, pe_X11_putWaiting_2 (pl_X11_putWaiting_2 fu fu))]) 60) [(0, .iconst 0, 1), (1, .istore_n 2, 1)] 0 [(0, pj_O (0, 0)), (1, pj_I a1)] [] (s, l, x, y) := rfl
theorem pu_X11_putWaiting_2 {lf : pj_Z → mj_M} {a : Unit × pj_Z} (f : Int32 → Int32 → pj_F (Unit × pj_Z)) (hf : ∀ (a1 : Int32) (a2 : Int32) (s : Nat → Int32) (l : Nat → Int64) (x : Nat → Int32) (y : Nat → Int64), f a1 a2 s l x y = some a → pm_Gd 2 11065 ie_X11_putWaiting.1 pm_rU lf 2 [(0, .ref 0), (1, .int a1), (2, .int a2)] [] (s, l, x, y) a) : pm_Ex 2 11065 ie_X11_putWaiting.1 pm_rU lf a 2 (pe_X11_putWaiting_2 f) := by
  intro lv st z hd h
  obtain ⟨g0, h⟩ := pj_xr_inv h
  obtain ⟨a1, g1, h⟩ := pj_xi_inv h
  obtain ⟨a2, g2, h⟩ := pj_xi_inv h
  obtain ⟨e9, h⟩ := pj_pe_inv h
  rw [e9]
  exact mj_wp_sub (mj_sub_cons g0 (mj_sub_cons g1 (mj_sub_cons g2 (mj_sub_nil hd)))) (hf _ _ _ _ _ _ h)
theorem pu_X11_putWaiting_75 {lf : pj_Z → mj_M} {a : Unit × pj_Z} (f : Int32 → Int32 → pj_F (Unit × pj_Z)) (hf : ∀ (a1 : Int32) (a2 : Int32) (s : Nat → Int32) (l : Nat → Int64) (x : Nat → Int32) (y : Nat → Int64), f a1 a2 s l x y = some a → pm_Gd 2 11065 ie_X11_putWaiting.1 pm_rU lf 75 [(0, .ref 0), (1, .int a1), (2, .int a2)] [] (s, l, x, y) a) : pm_Ex 2 11065 ie_X11_putWaiting.1 pm_rU lf a 75 (pe_X11_putWaiting_75 f) := by
  intro lv st z hd h
  obtain ⟨g0, h⟩ := pj_xr_inv h
  obtain ⟨a1, g1, h⟩ := pj_xi_inv h
  obtain ⟨a2, g2, h⟩ := pj_xi_inv h
  obtain ⟨e9, h⟩ := pj_pe_inv h
  rw [e9]
  exact mj_wp_sub (mj_sub_cons g0 (mj_sub_cons g1 (mj_sub_cons g2 (mj_sub_nil hd)))) (hf _ _ _ _ _ _ h)
set_option maxRecDepth 100000 in
theorem pz_X11_putWaiting {lf : pj_Z → mj_M} (hT : pj_Lt pj_TC lf) : pj_Cok ic_P (mj_R ic_P 2) 11065 ie_X11_putWaiting.1 (pm_OK lf pm_rU) lf px_X11_putWaiting := by
  exact pm_cok (c := px_X11_putWaiting) (pm_part hT (pj_as_all (p := fun b e => pj_TC b = some e) (List.forall_mem_cons.mpr ⟨rfl, (List.forall_mem_cons.mpr ⟨rfl, (List.forall_mem_cons.mpr ⟨rfl, (List.forall_mem_cons.mpr ⟨rfl, (List.forall_mem_cons.mpr ⟨rfl, (List.forall_mem_cons.mpr ⟨rfl, (fun _ h => by cases h)⟩)⟩)⟩)⟩)⟩)⟩))) (pm_in_ok (L := [(26, 11, 2, 2, true), (33, 11, 3, 2, true), (418, 2, 12, 2, true), (696, 2, 11, 2, true)]) (f := mj_pF ic_P 11065) (by decide +kernel)) (fun _ _ h => by cases h) (fun _ _ h => by cases h) (fun _ _ h => by cases h) rfl rfl ⟨by decide, rfl⟩ pm_mU (pj_as_all (p := pm_Cl 2 11065 ie_X11_putWaiting.1 lf (pm_OK lf pm_rU)) (List.forall_mem_cons.mpr ⟨fun _ _ lv st z K a hK h => pc_X2_standsFor hT (by decide) (ix := 613) rfl rfl hK h, (List.forall_mem_cons.mpr ⟨fun _ _ lv st z K a hK h => pc_X2_comesAt hT (by decide) (ix := 451) rfl rfl hK h, (List.forall_mem_cons.mpr ⟨fun _ _ lv st z K a hK h => pc_X6_put hT (by decide) (ix := 699) rfl rfl hK h, (fun _ h => by cases h)⟩)⟩)⟩)) (fun _ h => by cases h)
set_option maxRecDepth 100000 in
theorem pb_X11_putWaiting : pm_bks ie_X11_putWaiting.1.2.2.2.2 pk_X11_putWaiting = true := by decide +kernel
set_option maxRecDepth 100000 in
theorem pg_X11_putWaiting_75 {fu : Nat} {lf : pj_Z → mj_M} (hT : pj_Lt pj_TC lf) {k2 : Int32 → Int32 → pj_F (Unit × pj_Z)} (hk2 : ∀ (a1 : Int32) (a2 : Int32) (s : Nat → Int32) (l : Nat → Int64) (x : Nat → Int32) (y : Nat → Int64) (a : Unit × pj_Z), k2 a1 a2 s l x y = some a → pm_Gd 2 11065 ie_X11_putWaiting.1 pm_rU lf 2 [(0, .ref 0), (1, .int a1), (2, .int a2)] [] (s, l, x, y) a) : ∀ (a1 : Int32) (a2 : Int32) (s : Nat → Int32) (l : Nat → Int64) (x : Nat → Int32) (y : Nat → Int64) (a : Unit × pj_Z), pl_X11_putWaiting_75 fu k2 a1 a2 s l x y = some a → pm_Gd 2 11065 ie_X11_putWaiting.1 pm_rU lf 75 [(0, .ref 0), (1, .int a1), (2, .int a2)] [] (s, l, x, y) a := by
  intro a1 a2 s l x y a h
  exact pm_run ((pq_X11_putWaiting_75 fu k2 a1 a2 s l x y).symm.trans h) (pz_X11_putWaiting hT) (pm_bks_ok pb_X11_putWaiting) (pm_bks_ok pb_X11_putWaiting _ _ rfl) (pm_ndb_ok rfl) (pj_as_all (p := pm_Ex 2 11065 ie_X11_putWaiting.1 pm_rU lf a) (List.forall_mem_cons.mpr ⟨pu_X11_putWaiting_2 _ (fun c0 c1 s l x y h => hk2 c0 c1 s l x y _ h), (fun _ h => by cases h)⟩))
set_option maxRecDepth 100000 in
theorem pg_X11_putWaiting_2 {fu : Nat} {lf : pj_Z → mj_M} (hT : pj_Lt pj_TC lf) : ∀ (n : Nat), ∀ (a1 : Int32) (a2 : Int32) (s : Nat → Int32) (l : Nat → Int64) (x : Nat → Int32) (y : Nat → Int64) (a : Unit × pj_Z), pl_X11_putWaiting_2 fu n a1 a2 s l x y = some a → pm_Gd 2 11065 ie_X11_putWaiting.1 pm_rU lf 2 [(0, .ref 0), (1, .int a1), (2, .int a2)] [] (s, l, x, y) a := by
  intro n
  induction n with
  | zero => intro a1 a2 s l x y a h; cases (show (none : Option (Unit × pj_Z)) = some a from h)
  | succ n ih =>
    intro a1 a2 s l x y a h
    exact pm_run ((pq_X11_putWaiting_2 fu n a1 a2 s l x y).symm.trans h) (pz_X11_putWaiting hT) (pm_bks_ok pb_X11_putWaiting) (pm_bks_ok pb_X11_putWaiting _ _ rfl) (pm_ndb_ok rfl) (pj_as_all (p := pm_Ex 2 11065 ie_X11_putWaiting.1 pm_rU lf a) (List.forall_mem_cons.mpr ⟨pu_X11_putWaiting_2 _ (fun c0 c1 s l x y h => ih c0 c1 s l x y _ h), (List.forall_mem_cons.mpr ⟨pu_X11_putWaiting_75 _ (fun c0 c1 s l x y h => pg_X11_putWaiting_75 hT (fun a1 a2 s l x y a h => ih a1 a2 s l x y a h) c0 c1 s l x y _ h), (fun _ h => by cases h)⟩)⟩))
set_option maxRecDepth 100000 in
theorem pm_X11_putWaiting {lf : pj_Z → mj_M} (hT : pj_Lt pj_TC lf) (a1 : Int32) (s : Nat → Int32) (l : Nat → Int64) (x : Nat → Int32) (y : Nat → Int64) (a : Unit × pj_Z) (h : pf_X11_putWaiting a1 s l x y = some a) : mj_R ic_P 3 11065 [.ref 0, .int a1] (lf (s, l, x, y)) (pm_rU a.1) (lf a.2) := by
  refine pm_main (Y := ie_X11_putWaiting.1) rfl (Nat.le_of_ble_eq_true rfl) ?_
  exact pm_run ((pq_X11_putWaiting_m 1000 a1 s l x y).symm.trans h) (pz_X11_putWaiting hT) (pm_bks_ok pb_X11_putWaiting) (pm_bks_ok pb_X11_putWaiting _ _ rfl) (pm_ndb_ok rfl) (pj_as_all (p := pm_Ex 2 11065 ie_X11_putWaiting.1 pm_rU lf a) (List.forall_mem_cons.mpr ⟨pu_X11_putWaiting_2 _ (fun c0 c1 s l x y h => pg_X11_putWaiting_2 hT _ c0 c1 s l x y _ h), (fun _ h => by cases h)⟩))
abbrev ph_X11_putWaiting {A : Type} : List pj_V → pj_Z → (List pj_V → pj_Z → Option A) → Option A := fun st z K => pj_pi st fun a1 st => pj_pr st 0 0 fun st => pj_ps st (pj_b (pf_X11_putWaiting a1 z.1 z.2.1 z.2.2.1 z.2.2.2) fun r s l x y => K st (s, l, x, y))
set_option maxRecDepth 100000 in
theorem pc_X11_putWaiting {A : Type} {OK : A → Option Value → mj_M → Prop} {d j pc ix : Nat} {Y : mj_Y} {lf : pj_Z → mj_M} (hT : pj_Lt pj_TC lf) (hd : 3 ≤ d) (hl : mj_lk Y.2.2.2.2 pc = some (.invokevirtual ix, 3)) (hg : mj_pG ic_P j ix = some (11065, 1, some 11)) {lv : List (Nat × Value)} {st : List pj_V} {z : pj_Z} {K : List pj_V → pj_Z → Option A} {a : A} (hK : ∀ st z, K st z = some a → pj_Gd ic_P (mj_R ic_P d) j Y OK lf (pc + 3) lv (pj_es st) z a) (h : ph_X11_putWaiting st z K = some a) : pj_Gd ic_P (mj_R ic_P d) j Y OK lf pc lv (pj_es st) z a := by
  obtain ⟨a1, r1, e1, h⟩ := pj_pi_inv h
  obtain ⟨r0, e0, h⟩ := pj_pr_inv h
  obtain ⟨hs, h⟩ := pj_ps_inv h
  obtain ⟨q, hq, h⟩ := pj_b_inv h
  exact pm_cv (o := 0) hl hg [.int a1] rfl (by rw [e1, e0]; rfl) hs (by decide) ((hT.2 0 _ rfl).1.2 z 0 (by decide)) (pm_rU q.1) hd (pm_X11_putWaiting hT a1 z.1 z.2.1 z.2.2.1 z.2.2.2 q hq) rfl (hK _ _ h)
abbrev pe_X11_crankEdge_29 (f : Int32 → pj_F (Unit × pj_Z)) : pj_K (Unit × pj_Z) := fun lv st z => pj_xr lv 0 0 0 <| pj_xi lv 1 fun a1 => pj_pe st (f a1 z.1 z.2.1 z.2.2.1 z.2.2.2)
abbrev pe_X11_crankEdge_59 (f : Int32 → Int32 → pj_F (Unit × pj_Z)) : pj_K (Unit × pj_Z) := fun lv st z => pj_xr lv 0 0 0 <| pj_xi lv 2 fun a2 => pj_xi lv 3 fun a3 => pj_pe st (f a2 a3 z.1 z.2.1 z.2.2.1 z.2.2.2)
abbrev pe_X11_crankEdge_94 (f : Int32 → Int32 → pj_F (Unit × pj_Z)) : pj_K (Unit × pj_Z) := fun lv st z => pj_xr lv 0 0 0 <| pj_xi lv 2 fun a2 => pj_xi lv 3 fun a3 => pj_pe st (f a2 a3 z.1 z.2.1 z.2.2.1 z.2.2.2)
abbrev pe_X11_crankEdge_100 (f : Int32 → pj_F (Unit × pj_Z)) : pj_K (Unit × pj_Z) := fun lv st z => pj_xr lv 0 0 0 <| pj_xi lv 2 fun a2 => pj_pe st (f a2 z.1 z.2.1 z.2.2.1 z.2.2.2)
abbrev pe_X11_crankEdge_102 (f : Int32 → Int32 → pj_F (Unit × pj_Z)) : pj_K (Unit × pj_Z) := fun lv st z => pj_xr lv 0 0 0 <| pj_xi lv 2 fun a2 => pj_xi lv 3 fun a3 => pj_pe st (f a2 a3 z.1 z.2.1 z.2.2.1 z.2.2.2)
abbrev px_X11_crankEdge : pj_C (Unit × pj_Z) := ((pj_as [(0, 11, 17, 1, 0, true, 0, [(2, 1), (2, 20), (2, 58), (2, 68), (2, 82), (2, 83), (2, 85), (2, 96), (2, 102), (2, 106), (2, 122), (0, 93), (0, 94), (0, 95), (1, 1), (1, 2), (0, 96)]), (1, 4, 10, 1, 0, true, 0, [(2, 2), (2, 3), (2, 8), (2, 11), (2, 14), (2, 17), (2, 18), (2, 19), (0, 44), (1, 3)]), (2, 100, 24, 1, 0, true, 10000, [])]), (pj_as [(10, 11, 0, 2, true), (26, 11, 2, 2, true), (86, 11, 11, 1, false), (90, 11, 12, 0, false), (287, 4, 0, 2, true)]), (fun _ => none), (fun _ => none), (fun _ => none), ic_X, 4, 0, pj_mU, (pj_as [(16, ph_X2_hearTooth), (26, ph_X11_allOff), (44, ph_X11_findLimit), (76, ph_X11_topOf), (83, ph_X2_standsFor), (91, ph_X11_planCylinder), (115, ph_X11_putWaiting)]), fun _ => false)
abbrev pk_X11_crankEdge : List (Nat × List (Nat × Instr × Nat)) := [(0, [(0, .aload_n 0, 1), (1, .getfield 90, 3), (4, .ifCond .ne 4, 3)]), (7, [(7, .return_, 1)]), (8, [(8, .aload_n 0, 1), (9, .getfield 26, 3), (12, .aload_n 0, 1), (13, .getfield 86, 3), (16, .invokevirtual 606, 3), (19, .istore_n 1, 1), (20, .iload_n 1, 1), (21, .iconst 2, 1), (22, .if_icmp .ne 7, 3)]), (25, [(25, .aload_n 0, 1), (26, .invokevirtual 94, 3)]), (29, [(29, .iload_n 1, 1), (30, .iconst 1, 1), (31, .if_icmp .ne 11, 3)]), (34, [(34, .aload_n 0, 1), (35, .getfield 90, 3), (38, .iconst 1, 1), (39, .if_icmp .eq 4, 3)]), (42, [(42, .return_, 1)]), (43, [(43, .aload_n 0, 1), (44, .invokevirtual 610, 3), (47, .aload_n 0, 1), (48, .getfield 10, 3), (51, .getfield 287, 3), (54, .iconst 0, 1), (55, .iaload, 1), (56, .istore_n 2, 1), (57, .iconst 0, 1), (58, .istore_n 3, 1)]), (59, [(59, .iload_n 3, 1), (60, .iload_n 2, 1), (61, .if_icmp .ge 39, 3)]), (64, [(64, .iload_n 3, 1), (65, .bipush 8, 2), (67, .if_icmp .ge 33, 3)]), (70, [(70, .aload_n 0, 1), (71, .getfield 26, 3), (74, .aload_n 0, 1), (75, .iload_n 3, 1), (76, .invokevirtual 415, 3), (79, .sipush 1800, 3), (82, .isub, 1), (83, .invokevirtual 613, 3), (86, .ifCond .eq 8, 3)]), (89, [(89, .aload_n 0, 1), (90, .iload_n 3, 1), (91, .invokevirtual 616, 3)]), (94, [(94, .iinc 3 1, 3), (97, .goto (-38), 3)]), (100, [(100, .iconst 0, 1), (101, .istore_n 3, 1)]), (102, [(102, .iload_n 3, 1), (103, .iload_n 2, 1), (104, .if_icmp .ge 20, 3)]), (107, [(107, .iload_n 3, 1), (108, .bipush 8, 2), (110, .if_icmp .ge 14, 3)]), (113, [(113, .aload_n 0, 1), (114, .iload_n 3, 1), (115, .invokevirtual 619, 3), (118, .iinc 3 1, 3), (121, .goto (-19), 3)]), (124, [(124, .return_, 1)])]
set_option maxRecDepth 100000 in
theorem pq_X11_crankEdge_94 (fu : Nat)  (k59 : Int32 → Int32 → pj_F (Unit × pj_Z)) (a2 : Int32) (a3 : Int32) (s : Nat → Int32) (l : Nat → Int64) (x : Nat → Int32) (y : Nat → Int64) : pl_X11_crankEdge_94 fu k59 a2 a3 s l x y = pj_bl px_X11_crankEdge (pj_rn px_X11_crankEdge (pj_as pk_X11_crankEdge) (pj_as [(59, pe_X11_crankEdge_59 k59)]) 60) [(94, .iinc 3 1, 3), (97, .goto (-38), 3)] 94 [(0, pj_O (0, 0)), (2, pj_I a2), (3, pj_I a3)] [] (s, l, x, y) := rfl
set_option maxRecDepth 100000 in
theorem pq_X11_crankEdge_102 (fu : Nat)  (n : Nat) (a2 : Int32) (a3 : Int32) (s : Nat → Int32) (l : Nat → Int64) (x : Nat → Int32) (y : Nat → Int64) : pl_X11_crankEdge_102 fu (n + 1) a2 a3 s l x y = pj_bl px_X11_crankEdge (pj_rn px_X11_crankEdge (pj_as pk_X11_crankEdge) (pj_as [(102, pe_X11_crankEdge_102 (pl_X11_crankEdge_102 fu n))]) 60) [(102, .iload_n 3, 1), (103, .iload_n 2, 1), (104, .if_icmp .ge 20, 3)] 102 [(0, pj_O (0, 0)), (2, pj_I a2), (3, pj_I a3)] [] (s, l, x, y) := rfl
set_option maxRecDepth 100000 in
theorem pq_X11_crankEdge_100 (fu : Nat)  (a2 : Int32) (s : Nat → Int32) (l : Nat → Int64) (x : Nat → Int32) (y : Nat → Int64) : pl_X11_crankEdge_100 fu a2 s l x y = pj_bl px_X11_crankEdge (pj_rn px_X11_crankEdge (pj_as pk_X11_crankEdge) (pj_as [(102, pe_X11_crankEdge_102 (pl_X11_crankEdge_102 fu fu))]) 60) [(100, .iconst 0, 1), (101, .istore_n 3, 1)] 100 [(0, pj_O (0, 0)), (2, pj_I a2)] [] (s, l, x, y) := rfl
set_option maxRecDepth 100000 in
theorem pq_X11_crankEdge_59 (fu : Nat)  (n : Nat) (a2 : Int32) (a3 : Int32) (s : Nat → Int32) (l : Nat → Int64) (x : Nat → Int32) (y : Nat → Int64) : pl_X11_crankEdge_59 fu (n + 1) a2 a3 s l x y = pj_bl px_X11_crankEdge (pj_rn px_X11_crankEdge (pj_as pk_X11_crankEdge) (pj_as [(59, pe_X11_crankEdge_59 (pl_X11_crankEdge_59 fu n)), (94, pe_X11_crankEdge_94 (pl_X11_crankEdge_94 fu (pl_X11_crankEdge_59 fu n))), (100, pe_X11_crankEdge_100 (pl_X11_crankEdge_100 fu))]) 60) [(59, .iload_n 3, 1), (60, .iload_n 2, 1), (61, .if_icmp .ge 39, 3)] 59 [(0, pj_O (0, 0)), (2, pj_I a2), (3, pj_I a3)] [] (s, l, x, y) := rfl
set_option maxRecDepth 100000 in
theorem pq_X11_crankEdge_29 (fu : Nat)  (a1 : Int32) (s : Nat → Int32) (l : Nat → Int64) (x : Nat → Int32) (y : Nat → Int64) : pl_X11_crankEdge_29 fu a1 s l x y = pj_bl px_X11_crankEdge (pj_rn px_X11_crankEdge (pj_as pk_X11_crankEdge) (pj_as [(59, pe_X11_crankEdge_59 (pl_X11_crankEdge_59 fu fu))]) 60) [(29, .iload_n 1, 1), (30, .iconst 1, 1), (31, .if_icmp .ne 11, 3)] 29 [(0, pj_O (0, 0)), (1, pj_I a1)] [] (s, l, x, y) := rfl
set_option maxRecDepth 100000 in
theorem pq_X11_crankEdge_m (fu : Nat)   (s : Nat → Int32) (l : Nat → Int64) (x : Nat → Int32) (y : Nat → Int64) : po_X11_crankEdge fu  s l x y = pj_bl px_X11_crankEdge (pj_rn px_X11_crankEdge (pj_as pk_X11_crankEdge) (pj_as [(29, pe_X11_crankEdge_29 (pl_X11_crankEdge_29 fu))]) 60) [(0, .aload_n 0, 1), (1, .getfield 90, 3), (4, .ifCond .ne 4, 3)] 0 [(0, pj_O (0, 0))] [] (s, l, x, y) := rfl
theorem pu_X11_crankEdge_29 {lf : pj_Z → mj_M} {a : Unit × pj_Z} (f : Int32 → pj_F (Unit × pj_Z)) (hf : ∀ (a1 : Int32) (s : Nat → Int32) (l : Nat → Int64) (x : Nat → Int32) (y : Nat → Int64), f a1 s l x y = some a → pm_Gd 5 11058 ie_X11_crankEdge.1 pm_rU lf 29 [(0, .ref 0), (1, .int a1)] [] (s, l, x, y) a) : pm_Ex 5 11058 ie_X11_crankEdge.1 pm_rU lf a 29 (pe_X11_crankEdge_29 f) := by
  intro lv st z hd h
  obtain ⟨g0, h⟩ := pj_xr_inv h
  obtain ⟨a1, g1, h⟩ := pj_xi_inv h
  obtain ⟨e9, h⟩ := pj_pe_inv h
  rw [e9]
  exact mj_wp_sub (mj_sub_cons g0 (mj_sub_cons g1 (mj_sub_nil hd))) (hf _ _ _ _ _ h)
theorem pu_X11_crankEdge_59 {lf : pj_Z → mj_M} {a : Unit × pj_Z} (f : Int32 → Int32 → pj_F (Unit × pj_Z)) (hf : ∀ (a2 : Int32) (a3 : Int32) (s : Nat → Int32) (l : Nat → Int64) (x : Nat → Int32) (y : Nat → Int64), f a2 a3 s l x y = some a → pm_Gd 5 11058 ie_X11_crankEdge.1 pm_rU lf 59 [(0, .ref 0), (2, .int a2), (3, .int a3)] [] (s, l, x, y) a) : pm_Ex 5 11058 ie_X11_crankEdge.1 pm_rU lf a 59 (pe_X11_crankEdge_59 f) := by
  intro lv st z hd h
  obtain ⟨g0, h⟩ := pj_xr_inv h
  obtain ⟨a2, g2, h⟩ := pj_xi_inv h
  obtain ⟨a3, g3, h⟩ := pj_xi_inv h
  obtain ⟨e9, h⟩ := pj_pe_inv h
  rw [e9]
  exact mj_wp_sub (mj_sub_cons g0 (mj_sub_cons g2 (mj_sub_cons g3 (mj_sub_nil hd)))) (hf _ _ _ _ _ _ h)
theorem pu_X11_crankEdge_94 {lf : pj_Z → mj_M} {a : Unit × pj_Z} (f : Int32 → Int32 → pj_F (Unit × pj_Z)) (hf : ∀ (a2 : Int32) (a3 : Int32) (s : Nat → Int32) (l : Nat → Int64) (x : Nat → Int32) (y : Nat → Int64), f a2 a3 s l x y = some a → pm_Gd 5 11058 ie_X11_crankEdge.1 pm_rU lf 94 [(0, .ref 0), (2, .int a2), (3, .int a3)] [] (s, l, x, y) a) : pm_Ex 5 11058 ie_X11_crankEdge.1 pm_rU lf a 94 (pe_X11_crankEdge_94 f) := by
  intro lv st z hd h
  obtain ⟨g0, h⟩ := pj_xr_inv h
  obtain ⟨a2, g2, h⟩ := pj_xi_inv h
  obtain ⟨a3, g3, h⟩ := pj_xi_inv h
  obtain ⟨e9, h⟩ := pj_pe_inv h
  rw [e9]
  exact mj_wp_sub (mj_sub_cons g0 (mj_sub_cons g2 (mj_sub_cons g3 (mj_sub_nil hd)))) (hf _ _ _ _ _ _ h)
theorem pu_X11_crankEdge_100 {lf : pj_Z → mj_M} {a : Unit × pj_Z} (f : Int32 → pj_F (Unit × pj_Z)) (hf : ∀ (a2 : Int32) (s : Nat → Int32) (l : Nat → Int64) (x : Nat → Int32) (y : Nat → Int64), f a2 s l x y = some a → pm_Gd 5 11058 ie_X11_crankEdge.1 pm_rU lf 100 [(0, .ref 0), (2, .int a2)] [] (s, l, x, y) a) : pm_Ex 5 11058 ie_X11_crankEdge.1 pm_rU lf a 100 (pe_X11_crankEdge_100 f) := by
  intro lv st z hd h
  obtain ⟨g0, h⟩ := pj_xr_inv h
  obtain ⟨a2, g2, h⟩ := pj_xi_inv h
  obtain ⟨e9, h⟩ := pj_pe_inv h
  rw [e9]
  exact mj_wp_sub (mj_sub_cons g0 (mj_sub_cons g2 (mj_sub_nil hd))) (hf _ _ _ _ _ h)
theorem pu_X11_crankEdge_102 {lf : pj_Z → mj_M} {a : Unit × pj_Z} (f : Int32 → Int32 → pj_F (Unit × pj_Z)) (hf : ∀ (a2 : Int32) (a3 : Int32) (s : Nat → Int32) (l : Nat → Int64) (x : Nat → Int32) (y : Nat → Int64), f a2 a3 s l x y = some a → pm_Gd 5 11058 ie_X11_crankEdge.1 pm_rU lf 102 [(0, .ref 0), (2, .int a2), (3, .int a3)] [] (s, l, x, y) a) : pm_Ex 5 11058 ie_X11_crankEdge.1 pm_rU lf a 102 (pe_X11_crankEdge_102 f) := by
  intro lv st z hd h
  obtain ⟨g0, h⟩ := pj_xr_inv h
  obtain ⟨a2, g2, h⟩ := pj_xi_inv h
  obtain ⟨a3, g3, h⟩ := pj_xi_inv h
  obtain ⟨e9, h⟩ := pj_pe_inv h
  rw [e9]
  exact mj_wp_sub (mj_sub_cons g0 (mj_sub_cons g2 (mj_sub_cons g3 (mj_sub_nil hd)))) (hf _ _ _ _ _ _ h)
set_option maxRecDepth 100000 in
theorem pz_X11_crankEdge {lf : pj_Z → mj_M} (hT : pj_Lt pj_TC lf) : pj_Cok ic_P (mj_R ic_P 5) 11058 ie_X11_crankEdge.1 (pm_OK lf pm_rU) lf px_X11_crankEdge := by
  exact pm_cok (c := px_X11_crankEdge) (pm_part hT (pj_as_all (p := fun b e => pj_TC b = some e) (List.forall_mem_cons.mpr ⟨rfl, (List.forall_mem_cons.mpr ⟨rfl, (List.forall_mem_cons.mpr ⟨rfl, (fun _ h => by cases h)⟩)⟩)⟩))) (pm_in_ok (L := [(10, 11, 0, 2, true), (26, 11, 2, 2, true), (86, 11, 11, 1, false), (90, 11, 12, 0, false), (287, 4, 0, 2, true)]) (f := mj_pF ic_P 11058) (by decide +kernel)) (fun _ _ h => by cases h) (fun _ _ h => by cases h) (fun _ _ h => by cases h) rfl rfl ⟨by decide, rfl⟩ pm_mU (pj_as_all (p := pm_Cl 5 11058 ie_X11_crankEdge.1 lf (pm_OK lf pm_rU)) (List.forall_mem_cons.mpr ⟨fun _ _ lv st z K a hK h => pc_X2_hearTooth hT (by decide) (ix := 606) rfl rfl hK h, (List.forall_mem_cons.mpr ⟨fun _ _ lv st z K a hK h => pc_X11_allOff hT (by decide) (ix := 94) rfl rfl hK h, (List.forall_mem_cons.mpr ⟨fun _ _ lv st z K a hK h => pc_X11_findLimit hT (by decide) (ix := 610) rfl rfl hK h, (List.forall_mem_cons.mpr ⟨fun _ _ lv st z K a hK h => pc_X11_topOf hT (by decide) (ix := 415) rfl rfl hK h, (List.forall_mem_cons.mpr ⟨fun _ _ lv st z K a hK h => pc_X2_standsFor hT (by decide) (ix := 613) rfl rfl hK h, (List.forall_mem_cons.mpr ⟨fun _ _ lv st z K a hK h => pc_X11_planCylinder hT (by decide) (ix := 616) rfl rfl hK h, (List.forall_mem_cons.mpr ⟨fun _ _ lv st z K a hK h => pc_X11_putWaiting hT (by decide) (ix := 619) rfl rfl hK h, (fun _ h => by cases h)⟩)⟩)⟩)⟩)⟩)⟩)⟩)) (fun _ h => by cases h)
set_option maxRecDepth 100000 in
theorem pb_X11_crankEdge : pm_bks ie_X11_crankEdge.1.2.2.2.2 pk_X11_crankEdge = true := by decide +kernel
set_option maxRecDepth 100000 in
theorem pg_X11_crankEdge_94 {fu : Nat} {lf : pj_Z → mj_M} (hT : pj_Lt pj_TC lf) {k59 : Int32 → Int32 → pj_F (Unit × pj_Z)} (hk59 : ∀ (a2 : Int32) (a3 : Int32) (s : Nat → Int32) (l : Nat → Int64) (x : Nat → Int32) (y : Nat → Int64) (a : Unit × pj_Z), k59 a2 a3 s l x y = some a → pm_Gd 5 11058 ie_X11_crankEdge.1 pm_rU lf 59 [(0, .ref 0), (2, .int a2), (3, .int a3)] [] (s, l, x, y) a) : ∀ (a2 : Int32) (a3 : Int32) (s : Nat → Int32) (l : Nat → Int64) (x : Nat → Int32) (y : Nat → Int64) (a : Unit × pj_Z), pl_X11_crankEdge_94 fu k59 a2 a3 s l x y = some a → pm_Gd 5 11058 ie_X11_crankEdge.1 pm_rU lf 94 [(0, .ref 0), (2, .int a2), (3, .int a3)] [] (s, l, x, y) a := by
  intro a2 a3 s l x y a h
  exact pm_run ((pq_X11_crankEdge_94 fu k59 a2 a3 s l x y).symm.trans h) (pz_X11_crankEdge hT) (pm_bks_ok pb_X11_crankEdge) (pm_bks_ok pb_X11_crankEdge _ _ rfl) (pm_ndb_ok rfl) (pj_as_all (p := pm_Ex 5 11058 ie_X11_crankEdge.1 pm_rU lf a) (List.forall_mem_cons.mpr ⟨pu_X11_crankEdge_59 _ (fun c0 c1 s l x y h => hk59 c0 c1 s l x y _ h), (fun _ h => by cases h)⟩))
set_option maxRecDepth 100000 in
theorem pg_X11_crankEdge_102 {fu : Nat} {lf : pj_Z → mj_M} (hT : pj_Lt pj_TC lf) : ∀ (n : Nat), ∀ (a2 : Int32) (a3 : Int32) (s : Nat → Int32) (l : Nat → Int64) (x : Nat → Int32) (y : Nat → Int64) (a : Unit × pj_Z), pl_X11_crankEdge_102 fu n a2 a3 s l x y = some a → pm_Gd 5 11058 ie_X11_crankEdge.1 pm_rU lf 102 [(0, .ref 0), (2, .int a2), (3, .int a3)] [] (s, l, x, y) a := by
  intro n
  induction n with
  | zero => intro a2 a3 s l x y a h; cases (show (none : Option (Unit × pj_Z)) = some a from h)
  | succ n ih =>
    intro a2 a3 s l x y a h
    exact pm_run ((pq_X11_crankEdge_102 fu n a2 a3 s l x y).symm.trans h) (pz_X11_crankEdge hT) (pm_bks_ok pb_X11_crankEdge) (pm_bks_ok pb_X11_crankEdge _ _ rfl) (pm_ndb_ok rfl) (pj_as_all (p := pm_Ex 5 11058 ie_X11_crankEdge.1 pm_rU lf a) (List.forall_mem_cons.mpr ⟨pu_X11_crankEdge_102 _ (fun c0 c1 s l x y h => ih c0 c1 s l x y _ h), (fun _ h => by cases h)⟩))
set_option maxRecDepth 100000 in
theorem pg_X11_crankEdge_100 {fu : Nat} {lf : pj_Z → mj_M} (hT : pj_Lt pj_TC lf) : ∀ (a2 : Int32) (s : Nat → Int32) (l : Nat → Int64) (x : Nat → Int32) (y : Nat → Int64) (a : Unit × pj_Z), pl_X11_crankEdge_100 fu a2 s l x y = some a → pm_Gd 5 11058 ie_X11_crankEdge.1 pm_rU lf 100 [(0, .ref 0), (2, .int a2)] [] (s, l, x, y) a := by
  intro a2 s l x y a h
  exact pm_run ((pq_X11_crankEdge_100 fu a2 s l x y).symm.trans h) (pz_X11_crankEdge hT) (pm_bks_ok pb_X11_crankEdge) (pm_bks_ok pb_X11_crankEdge _ _ rfl) (pm_ndb_ok rfl) (pj_as_all (p := pm_Ex 5 11058 ie_X11_crankEdge.1 pm_rU lf a) (List.forall_mem_cons.mpr ⟨pu_X11_crankEdge_102 _ (fun c0 c1 s l x y h => pg_X11_crankEdge_102 hT _ c0 c1 s l x y _ h), (fun _ h => by cases h)⟩))
set_option maxRecDepth 100000 in
theorem pg_X11_crankEdge_59 {fu : Nat} {lf : pj_Z → mj_M} (hT : pj_Lt pj_TC lf) : ∀ (n : Nat), ∀ (a2 : Int32) (a3 : Int32) (s : Nat → Int32) (l : Nat → Int64) (x : Nat → Int32) (y : Nat → Int64) (a : Unit × pj_Z), pl_X11_crankEdge_59 fu n a2 a3 s l x y = some a → pm_Gd 5 11058 ie_X11_crankEdge.1 pm_rU lf 59 [(0, .ref 0), (2, .int a2), (3, .int a3)] [] (s, l, x, y) a := by
  intro n
  induction n with
  | zero => intro a2 a3 s l x y a h; cases (show (none : Option (Unit × pj_Z)) = some a from h)
  | succ n ih =>
    intro a2 a3 s l x y a h
    exact pm_run ((pq_X11_crankEdge_59 fu n a2 a3 s l x y).symm.trans h) (pz_X11_crankEdge hT) (pm_bks_ok pb_X11_crankEdge) (pm_bks_ok pb_X11_crankEdge _ _ rfl) (pm_ndb_ok rfl) (pj_as_all (p := pm_Ex 5 11058 ie_X11_crankEdge.1 pm_rU lf a) (List.forall_mem_cons.mpr ⟨pu_X11_crankEdge_59 _ (fun c0 c1 s l x y h => ih c0 c1 s l x y _ h), (List.forall_mem_cons.mpr ⟨pu_X11_crankEdge_94 _ (fun c0 c1 s l x y h => pg_X11_crankEdge_94 hT (fun a2 a3 s l x y a h => ih a2 a3 s l x y a h) c0 c1 s l x y _ h), (List.forall_mem_cons.mpr ⟨pu_X11_crankEdge_100 _ (fun c0 s l x y h => pg_X11_crankEdge_100 hT c0 s l x y _ h), (fun _ h => by cases h)⟩)⟩)⟩))
set_option maxRecDepth 100000 in
theorem pg_X11_crankEdge_29 {fu : Nat} {lf : pj_Z → mj_M} (hT : pj_Lt pj_TC lf) : ∀ (a1 : Int32) (s : Nat → Int32) (l : Nat → Int64) (x : Nat → Int32) (y : Nat → Int64) (a : Unit × pj_Z), pl_X11_crankEdge_29 fu a1 s l x y = some a → pm_Gd 5 11058 ie_X11_crankEdge.1 pm_rU lf 29 [(0, .ref 0), (1, .int a1)] [] (s, l, x, y) a := by
  intro a1 s l x y a h
  exact pm_run ((pq_X11_crankEdge_29 fu a1 s l x y).symm.trans h) (pz_X11_crankEdge hT) (pm_bks_ok pb_X11_crankEdge) (pm_bks_ok pb_X11_crankEdge _ _ rfl) (pm_ndb_ok rfl) (pj_as_all (p := pm_Ex 5 11058 ie_X11_crankEdge.1 pm_rU lf a) (List.forall_mem_cons.mpr ⟨pu_X11_crankEdge_59 _ (fun c0 c1 s l x y h => pg_X11_crankEdge_59 hT _ c0 c1 s l x y _ h), (fun _ h => by cases h)⟩))
set_option maxRecDepth 100000 in
theorem pm_X11_crankEdge {lf : pj_Z → mj_M} (hT : pj_Lt pj_TC lf)  (s : Nat → Int32) (l : Nat → Int64) (x : Nat → Int32) (y : Nat → Int64) (a : Unit × pj_Z) (h : pf_X11_crankEdge  s l x y = some a) : mj_R ic_P 6 11058 [.ref 0] (lf (s, l, x, y)) (pm_rU a.1) (lf a.2) := by
  refine pm_main (Y := ie_X11_crankEdge.1) rfl (Nat.le_of_ble_eq_true rfl) ?_
  exact pm_run ((pq_X11_crankEdge_m 1000  s l x y).symm.trans h) (pz_X11_crankEdge hT) (pm_bks_ok pb_X11_crankEdge) (pm_bks_ok pb_X11_crankEdge _ _ rfl) (pm_ndb_ok rfl) (pj_as_all (p := pm_Ex 5 11058 ie_X11_crankEdge.1 pm_rU lf a) (List.forall_mem_cons.mpr ⟨pu_X11_crankEdge_29 _ (fun c0 s l x y h => pg_X11_crankEdge_29 hT c0 s l x y _ h), (fun _ h => by cases h)⟩))
abbrev ph_X11_crankEdge {A : Type} : List pj_V → pj_Z → (List pj_V → pj_Z → Option A) → Option A := fun st z K => pj_pr st 0 0 fun st => pj_ps st (pj_b (pf_X11_crankEdge  z.1 z.2.1 z.2.2.1 z.2.2.2) fun r s l x y => K st (s, l, x, y))
set_option maxRecDepth 100000 in
theorem pc_X11_crankEdge {A : Type} {OK : A → Option Value → mj_M → Prop} {d j pc ix : Nat} {Y : mj_Y} {lf : pj_Z → mj_M} (hT : pj_Lt pj_TC lf) (hd : 6 ≤ d) (hl : mj_lk Y.2.2.2.2 pc = some (.invokevirtual ix, 3)) (hg : mj_pG ic_P j ix = some (11058, 0, some 11)) {lv : List (Nat × Value)} {st : List pj_V} {z : pj_Z} {K : List pj_V → pj_Z → Option A} {a : A} (hK : ∀ st z, K st z = some a → pj_Gd ic_P (mj_R ic_P d) j Y OK lf (pc + 3) lv (pj_es st) z a) (h : ph_X11_crankEdge st z K = some a) : pj_Gd ic_P (mj_R ic_P d) j Y OK lf pc lv (pj_es st) z a := by
  obtain ⟨r0, e0, h⟩ := pj_pr_inv h
  obtain ⟨hs, h⟩ := pj_ps_inv h
  obtain ⟨q, hq, h⟩ := pj_b_inv h
  exact pm_cv (o := 0) hl hg [] rfl (by rw [e0]; rfl) hs (by decide) ((hT.2 0 _ rfl).1.2 z 0 (by decide)) (pm_rU q.1) hd (pm_X11_crankEdge hT  z.1 z.2.1 z.2.2.1 z.2.2.2 q hq) rfl (hK _ _ h)
abbrev pe_X11_tooth_11 (f : pj_F (Int32 × pj_Z)) : pj_K (Int32 × pj_Z) := fun lv st z => pj_pe st (f  z.1 z.2.1 z.2.2.1 z.2.2.2)
abbrev px_X11_tooth : pj_C (Int32 × pj_Z) := ((pj_as [(0, 11, 17, 1, 0, true, 0, [(2, 1), (2, 20), (2, 58), (2, 68), (2, 82), (2, 83), (2, 85), (2, 96), (2, 102), (2, 106), (2, 122), (0, 93), (0, 94), (0, 95), (1, 1), (1, 2), (0, 96)]), (58, 2, 19, 1, 0, true, 0, [(0, 19), (0, 20), (1, 4), (1, 5), (1, 6), (1, 7), (0, 21), (0, 22), (0, 23), (0, 24), (0, 25), (2, 59), (2, 63), (0, 26), (1, 8), (1, 9), (1, 10), (0, 27), (0, 28)])]), (pj_as [(26, 11, 2, 2, true), (86, 11, 11, 1, false), (127, 2, 0, 0, false)]), (pj_as [(121, 1000000)]), (fun _ => none), (fun _ => none), ic_X, 2, 1, pj_mI, (pj_as [(29, ph_X11_passTo), (33, ph_X11_crankEdge)]), fun _ => false)
abbrev pk_X11_tooth : List (Nat × List (Nat × Instr × Nat)) := [(0, [(0, .iload_n 1, 1), (1, .iconst 1, 1), (2, .if_icmp .lt 9, 3)]), (5, [(5, .iload_n 1, 1), (6, .ldc 121, 2), (8, .if_icmp .le 13, 3)]), (11, [(11, .new 107, 3)]), (21, [(21, .aload_n 0, 1), (22, .aload_n 0, 1), (23, .getfield 86, 3), (26, .iload_n 1, 1), (27, .i2l, 1), (28, .ladd, 1), (29, .invokevirtual 117, 3), (32, .aload_n 0, 1), (33, .invokevirtual 124, 3), (36, .aload_n 0, 1), (37, .getfield 26, 3), (40, .getfield 127, 3), (43, .ireturn, 1)])]
set_option maxRecDepth 100000 in
theorem pq_X11_tooth_11   (s : Nat → Int32) (l : Nat → Int64) (x : Nat → Int32) (y : Nat → Int64) : pl_X11_tooth_11 s l x y = pj_bl px_X11_tooth (pj_rn px_X11_tooth (pj_as pk_X11_tooth) (fun _ => none) 60) [(11, .new 107, 3)] 11 [] [] (s, l, x, y) := rfl
set_option maxRecDepth 100000 in
theorem pq_X11_tooth_m  (a1 : Int32) (s : Nat → Int32) (l : Nat → Int64) (x : Nat → Int32) (y : Nat → Int64) : pf_X11_tooth a1 s l x y = pj_bl px_X11_tooth (pj_rn px_X11_tooth (pj_as pk_X11_tooth) (pj_as [(11, pe_X11_tooth_11 (pl_X11_tooth_11))]) 60) [(0, .iload_n 1, 1), (1, .iconst 1, 1), (2, .if_icmp .lt 9, 3)] 0 [(0, pj_O (0, 0)), (1, pj_I a1)] [] (s, l, x, y) := rfl
theorem pu_X11_tooth_11 {lf : pj_Z → mj_M} {a : Int32 × pj_Z} (f : pj_F (Int32 × pj_Z)) (hf : ∀  (s : Nat → Int32) (l : Nat → Int64) (x : Nat → Int32) (y : Nat → Int64), f  s l x y = some a → pm_Gd 7 11003 ie_X11_tooth.1 pm_rI lf 11 [] [] (s, l, x, y) a) : pm_Ex 7 11003 ie_X11_tooth.1 pm_rI lf a 11 (pe_X11_tooth_11 f) := by
  intro lv st z hd h
  obtain ⟨e9, h⟩ := pj_pe_inv h
  rw [e9]
  exact mj_wp_sub (mj_sub_nil hd) (hf  _ _ _ _ h)
set_option maxRecDepth 100000 in
theorem pz_X11_tooth {lf : pj_Z → mj_M} (hT : pj_Lt pj_TC lf) : pj_Cok ic_P (mj_R ic_P 7) 11003 ie_X11_tooth.1 (pm_OK lf pm_rI) lf px_X11_tooth := by
  exact pm_cok (c := px_X11_tooth) (pm_part hT (pj_as_all (p := fun b e => pj_TC b = some e) (List.forall_mem_cons.mpr ⟨rfl, (List.forall_mem_cons.mpr ⟨rfl, (fun _ h => by cases h)⟩)⟩))) (pm_in_ok (L := [(26, 11, 2, 2, true), (86, 11, 11, 1, false), (127, 2, 0, 0, false)]) (f := mj_pF ic_P 11003) (by decide +kernel)) (pm_inI_ok (L := [(121, 1000000)]) (f := mj_pK ic_P 11003) (by decide +kernel)) (fun _ _ h => by cases h) (fun _ _ h => by cases h) rfl rfl ⟨by decide, rfl⟩ pm_mI (pj_as_all (p := pm_Cl 7 11003 ie_X11_tooth.1 lf (pm_OK lf pm_rI)) (List.forall_mem_cons.mpr ⟨fun _ _ lv st z K a hK h => pc_X11_passTo hT (by decide) (ix := 117) rfl rfl hK h, (List.forall_mem_cons.mpr ⟨fun _ _ lv st z K a hK h => pc_X11_crankEdge hT (by decide) (ix := 124) rfl rfl hK h, (fun _ h => by cases h)⟩)⟩)) (fun _ h => by cases h)
set_option maxRecDepth 100000 in
theorem pb_X11_tooth : pm_bks ie_X11_tooth.1.2.2.2.2 pk_X11_tooth = true := by decide +kernel
set_option maxRecDepth 100000 in
theorem pg_X11_tooth_11 {lf : pj_Z → mj_M} (hT : pj_Lt pj_TC lf) : ∀  (s : Nat → Int32) (l : Nat → Int64) (x : Nat → Int32) (y : Nat → Int64) (a : Int32 × pj_Z), pl_X11_tooth_11 s l x y = some a → pm_Gd 7 11003 ie_X11_tooth.1 pm_rI lf 11 [] [] (s, l, x, y) a := by
  intro  s l x y a h
  exact pm_run ((pq_X11_tooth_11   s l x y).symm.trans h) (pz_X11_tooth hT) (pm_bks_ok pb_X11_tooth) (pm_bks_ok pb_X11_tooth _ _ rfl) (pm_ndb_ok rfl) (fun _ _ h => by cases h)
set_option maxRecDepth 100000 in
theorem pm_X11_tooth {lf : pj_Z → mj_M} (hT : pj_Lt pj_TC lf) (a1 : Int32) (s : Nat → Int32) (l : Nat → Int64) (x : Nat → Int32) (y : Nat → Int64) (a : Int32 × pj_Z) (h : pf_X11_tooth a1 s l x y = some a) : mj_R ic_P 8 11003 [.ref 0, .int a1] (lf (s, l, x, y)) (pm_rI a.1) (lf a.2) := by
  refine pm_main (Y := ie_X11_tooth.1) rfl (Nat.le_of_ble_eq_true rfl) ?_
  exact pm_run ((pq_X11_tooth_m a1 s l x y).symm.trans h) (pz_X11_tooth hT) (pm_bks_ok pb_X11_tooth) (pm_bks_ok pb_X11_tooth _ _ rfl) (pm_ndb_ok rfl) (pj_as_all (p := pm_Ex 7 11003 ie_X11_tooth.1 pm_rI lf a) (List.forall_mem_cons.mpr ⟨pu_X11_tooth_11 _ (fun  s l x y h => pg_X11_tooth_11 hT  s l x y _ h), (fun _ h => by cases h)⟩))
abbrev ph_X11_tooth {A : Type} : List pj_V → pj_Z → (List pj_V → pj_Z → Option A) → Option A := fun st z K => pj_pi st fun a1 st => pj_pr st 0 0 fun st => pj_ps st (pj_b (pf_X11_tooth a1 z.1 z.2.1 z.2.2.1 z.2.2.2) fun r s l x y => K (pj_I r :: st) (s, l, x, y))
set_option maxRecDepth 100000 in
theorem pc_X11_tooth {A : Type} {OK : A → Option Value → mj_M → Prop} {d j pc ix : Nat} {Y : mj_Y} {lf : pj_Z → mj_M} (hT : pj_Lt pj_TC lf) (hd : 8 ≤ d) (hl : mj_lk Y.2.2.2.2 pc = some (.invokevirtual ix, 3)) (hg : mj_pG ic_P j ix = some (11003, 1, some 11)) {lv : List (Nat × Value)} {st : List pj_V} {z : pj_Z} {K : List pj_V → pj_Z → Option A} {a : A} (hK : ∀ st z, K st z = some a → pj_Gd ic_P (mj_R ic_P d) j Y OK lf (pc + 3) lv (pj_es st) z a) (h : ph_X11_tooth st z K = some a) : pj_Gd ic_P (mj_R ic_P d) j Y OK lf pc lv (pj_es st) z a := by
  obtain ⟨a1, r1, e1, h⟩ := pj_pi_inv h
  obtain ⟨r0, e0, h⟩ := pj_pr_inv h
  obtain ⟨hs, h⟩ := pj_ps_inv h
  obtain ⟨q, hq, h⟩ := pj_b_inv h
  exact pm_cv (o := 0) hl hg [.int a1] rfl (by rw [e1, e0]; rfl) hs (by decide) ((hT.2 0 _ rfl).1.2 z 0 (by decide)) (pm_rI q.1) hd (pm_X11_tooth hT a1 z.1 z.2.1 z.2.2.1 z.2.2.2 q hq) rfl (hK _ _ h)
abbrev pe_X2_hearCam_22 (f : pj_F (Int32 × pj_Z)) : pj_K (Int32 × pj_Z) := fun lv st z => pj_xr lv 0 58 0 <| pj_pe st (f  z.1 z.2.1 z.2.2.1 z.2.2.2)
abbrev pe_X2_hearCam_23 (f : Int32 → pj_F (Int32 × pj_Z)) : pj_K (Int32 × pj_Z) := fun lv st z => pj_xr lv 0 58 0 <| pj_pi st fun b0 st => pj_pe st (f b0 z.1 z.2.1 z.2.2.1 z.2.2.2)
abbrev pe_X2_hearCam_43 (f : pj_F (Int32 × pj_Z)) : pj_K (Int32 × pj_Z) := fun lv st z => pj_xr lv 0 58 0 <| pj_pe st (f  z.1 z.2.1 z.2.2.1 z.2.2.2)
abbrev pe_X2_hearCam_60 (f : Int32 → pj_F (Int32 × pj_Z)) : pj_K (Int32 × pj_Z) := fun lv st z => pj_xr lv 0 58 0 <| pj_xi lv 1 fun a1 => pj_pe st (f a1 z.1 z.2.1 z.2.2.1 z.2.2.2)
abbrev px_X2_hearCam : pj_C (Int32 × pj_Z) := ((pj_as [(58, 2, 19, 1, 0, true, 0, [(0, 19), (0, 20), (1, 4), (1, 5), (1, 6), (1, 7), (0, 21), (0, 22), (0, 23), (0, 24), (0, 25), (2, 59), (2, 63), (0, 26), (1, 8), (1, 9), (1, 10), (0, 27), (0, 28)])]), (pj_as [(22, 2, 0, 0, false), (36, 2, 4, 0, false), (39, 2, 5, 0, false), (45, 2, 7, 0, false), (48, 2, 8, 0, false), (54, 2, 10, 3, false)]), (fun _ => none), (fun _ => none), (fun _ => none), ic_X, 2, 2, pj_mI, (fun _ => none), fun _ => false)
abbrev pk_X2_hearCam : List (Nat × List (Nat × Instr × Nat)) := [(0, [(0, .aload_n 0, 1), (1, .getfield 36, 3), (4, .bipush 10, 2), (6, .if_icmp .lt 16, 3)]), (9, [(9, .aload_n 0, 1), (10, .getfield 36, 3), (13, .bipush 20, 2), (15, .if_icmp .gt 7, 3)]), (18, [(18, .iconst 1, 1), (19, .goto 4, 3)]), (22, [(22, .iconst 0, 1)]), (23, [(23, .istore_n 1, 1), (24, .aload_n 0, 1), (25, .getfield 22, 3), (28, .iconst 3, 1), (29, .if_icmp .ne 31, 3)]), (32, [(32, .iload_n 1, 1), (33, .ifCond .eq 10, 3)]), (36, [(36, .aload_n 0, 1), (37, .getfield 39, 3), (40, .ifCond .eq 20, 3)]), (43, [(43, .aload_n 0, 1), (44, .dup, 1), (45, .getfield 48, 3), (48, .iconst 1, 1), (49, .iadd, 1), (50, .putfield 48, 3), (53, .aload_n 0, 1), (54, .iconst 2, 1), (55, .putfield 22, 3), (58, .iconst 1, 1), (59, .ireturn, 1)]), (60, [(60, .iload_n 1, 1), (61, .ifCond .eq 31, 3)]), (64, [(64, .aload_n 0, 1), (65, .getfield 22, 3), (68, .iconst 2, 1), (69, .if_icmp .lt 23, 3)]), (72, [(72, .aload_n 0, 1), (73, .iconst 3, 1), (74, .putfield 22, 3), (77, .aload_n 0, 1), (78, .iconst 0, 1), (79, .putfield 39, 3), (82, .aload_n 0, 1), (83, .iconst 0, 1), (84, .putfield 45, 3), (87, .aload_n 0, 1), (88, .iconst 1, 1), (89, .putfield 54, 3)]), (92, [(92, .iconst 0, 1), (93, .ireturn, 1)])]
set_option maxRecDepth 100000 in
theorem pq_X2_hearCam_43   (s : Nat → Int32) (l : Nat → Int64) (x : Nat → Int32) (y : Nat → Int64) : pl_X2_hearCam_43 s l x y = pj_bl px_X2_hearCam (pj_rn px_X2_hearCam (pj_as pk_X2_hearCam) (fun _ => none) 60) [(43, .aload_n 0, 1), (44, .dup, 1), (45, .getfield 48, 3), (48, .iconst 1, 1), (49, .iadd, 1), (50, .putfield 48, 3), (53, .aload_n 0, 1), (54, .iconst 2, 1), (55, .putfield 22, 3), (58, .iconst 1, 1), (59, .ireturn, 1)] 43 [(0, pj_O (58, 0))] [] (s, l, x, y) := rfl
set_option maxRecDepth 100000 in
theorem pq_X2_hearCam_60  (a1 : Int32) (s : Nat → Int32) (l : Nat → Int64) (x : Nat → Int32) (y : Nat → Int64) : pl_X2_hearCam_60 a1 s l x y = pj_bl px_X2_hearCam (pj_rn px_X2_hearCam (pj_as pk_X2_hearCam) (fun _ => none) 60) [(60, .iload_n 1, 1), (61, .ifCond .eq 31, 3)] 60 [(0, pj_O (58, 0)), (1, pj_I a1)] [] (s, l, x, y) := rfl
set_option maxRecDepth 100000 in
theorem pq_X2_hearCam_23  (b0 : Int32) (s : Nat → Int32) (l : Nat → Int64) (x : Nat → Int32) (y : Nat → Int64) : pl_X2_hearCam_23 b0 s l x y = pj_bl px_X2_hearCam (pj_rn px_X2_hearCam (pj_as pk_X2_hearCam) (pj_as [(43, pe_X2_hearCam_43 (pl_X2_hearCam_43)), (60, pe_X2_hearCam_60 (pl_X2_hearCam_60))]) 60) [(23, .istore_n 1, 1), (24, .aload_n 0, 1), (25, .getfield 22, 3), (28, .iconst 3, 1), (29, .if_icmp .ne 31, 3)] 23 [(0, pj_O (58, 0))] [pj_I b0] (s, l, x, y) := rfl
set_option maxRecDepth 100000 in
theorem pq_X2_hearCam_22   (s : Nat → Int32) (l : Nat → Int64) (x : Nat → Int32) (y : Nat → Int64) : pl_X2_hearCam_22 s l x y = pj_bl px_X2_hearCam (pj_rn px_X2_hearCam (pj_as pk_X2_hearCam) (pj_as [(23, pe_X2_hearCam_23 (pl_X2_hearCam_23))]) 60) [(22, .iconst 0, 1)] 22 [(0, pj_O (58, 0))] [] (s, l, x, y) := rfl
set_option maxRecDepth 100000 in
theorem pq_X2_hearCam_m   (s : Nat → Int32) (l : Nat → Int64) (x : Nat → Int32) (y : Nat → Int64) : pf_X2_hearCam  s l x y = pj_bl px_X2_hearCam (pj_rn px_X2_hearCam (pj_as pk_X2_hearCam) (pj_as [(22, pe_X2_hearCam_22 (pl_X2_hearCam_22)), (23, pe_X2_hearCam_23 (pl_X2_hearCam_23))]) 60) [(0, .aload_n 0, 1), (1, .getfield 36, 3), (4, .bipush 10, 2), (6, .if_icmp .lt 16, 3)] 0 [(0, pj_O (58, 0))] [] (s, l, x, y) := rfl
theorem pu_X2_hearCam_22 {lf : pj_Z → mj_M} {a : Int32 × pj_Z} (f : pj_F (Int32 × pj_Z)) (hf : ∀  (s : Nat → Int32) (l : Nat → Int64) (x : Nat → Int32) (y : Nat → Int64), f  s l x y = some a → pm_Gd 0 2010 ie_X2_hearCam.1 pm_rI lf 22 [(0, .ref 58)] [] (s, l, x, y) a) : pm_Ex 0 2010 ie_X2_hearCam.1 pm_rI lf a 22 (pe_X2_hearCam_22 f) := by
  intro lv st z hd h
  obtain ⟨g0, h⟩ := pj_xr_inv h
  obtain ⟨e9, h⟩ := pj_pe_inv h
  rw [e9]
  exact mj_wp_sub (mj_sub_cons g0 (mj_sub_nil hd)) (hf  _ _ _ _ h)
theorem pu_X2_hearCam_23 {lf : pj_Z → mj_M} {a : Int32 × pj_Z} (f : Int32 → pj_F (Int32 × pj_Z)) (hf : ∀ (b0 : Int32) (s : Nat → Int32) (l : Nat → Int64) (x : Nat → Int32) (y : Nat → Int64), f b0 s l x y = some a → pm_Gd 0 2010 ie_X2_hearCam.1 pm_rI lf 23 [(0, .ref 58)] [.int b0] (s, l, x, y) a) : pm_Ex 0 2010 ie_X2_hearCam.1 pm_rI lf a 23 (pe_X2_hearCam_23 f) := by
  intro lv st z hd h
  obtain ⟨g0, h⟩ := pj_xr_inv h
  obtain ⟨b0, r0, e0, h⟩ := pj_pi_inv h
  obtain ⟨e9, h⟩ := pj_pe_inv h
  rw [e0, e9]
  exact mj_wp_sub (mj_sub_cons g0 (mj_sub_nil hd)) (hf _ _ _ _ _ h)
theorem pu_X2_hearCam_43 {lf : pj_Z → mj_M} {a : Int32 × pj_Z} (f : pj_F (Int32 × pj_Z)) (hf : ∀  (s : Nat → Int32) (l : Nat → Int64) (x : Nat → Int32) (y : Nat → Int64), f  s l x y = some a → pm_Gd 0 2010 ie_X2_hearCam.1 pm_rI lf 43 [(0, .ref 58)] [] (s, l, x, y) a) : pm_Ex 0 2010 ie_X2_hearCam.1 pm_rI lf a 43 (pe_X2_hearCam_43 f) := by
  intro lv st z hd h
  obtain ⟨g0, h⟩ := pj_xr_inv h
  obtain ⟨e9, h⟩ := pj_pe_inv h
  rw [e9]
  exact mj_wp_sub (mj_sub_cons g0 (mj_sub_nil hd)) (hf  _ _ _ _ h)
theorem pu_X2_hearCam_60 {lf : pj_Z → mj_M} {a : Int32 × pj_Z} (f : Int32 → pj_F (Int32 × pj_Z)) (hf : ∀ (a1 : Int32) (s : Nat → Int32) (l : Nat → Int64) (x : Nat → Int32) (y : Nat → Int64), f a1 s l x y = some a → pm_Gd 0 2010 ie_X2_hearCam.1 pm_rI lf 60 [(0, .ref 58), (1, .int a1)] [] (s, l, x, y) a) : pm_Ex 0 2010 ie_X2_hearCam.1 pm_rI lf a 60 (pe_X2_hearCam_60 f) := by
  intro lv st z hd h
  obtain ⟨g0, h⟩ := pj_xr_inv h
  obtain ⟨a1, g1, h⟩ := pj_xi_inv h
  obtain ⟨e9, h⟩ := pj_pe_inv h
  rw [e9]
  exact mj_wp_sub (mj_sub_cons g0 (mj_sub_cons g1 (mj_sub_nil hd))) (hf _ _ _ _ _ h)
set_option maxRecDepth 100000 in
theorem pz_X2_hearCam {lf : pj_Z → mj_M} (hT : pj_Lt pj_TC lf) : pj_Cok ic_P (mj_R ic_P 0) 2010 ie_X2_hearCam.1 (pm_OK lf pm_rI) lf px_X2_hearCam := by
  exact pm_cok (c := px_X2_hearCam) (pm_part hT (pj_as_all (p := fun b e => pj_TC b = some e) (List.forall_mem_cons.mpr ⟨rfl, (fun _ h => by cases h)⟩))) (pm_in_ok (L := [(22, 2, 0, 0, false), (36, 2, 4, 0, false), (39, 2, 5, 0, false), (45, 2, 7, 0, false), (48, 2, 8, 0, false), (54, 2, 10, 3, false)]) (f := mj_pF ic_P 2010) (by decide +kernel)) (fun _ _ h => by cases h) (fun _ _ h => by cases h) (fun _ _ h => by cases h) rfl rfl ⟨by decide, rfl⟩ pm_mI (fun _ _ h => by cases h) (fun _ h => by cases h)
set_option maxRecDepth 100000 in
theorem pb_X2_hearCam : pm_bks ie_X2_hearCam.1.2.2.2.2 pk_X2_hearCam = true := by decide +kernel
set_option maxRecDepth 100000 in
theorem pg_X2_hearCam_43 {lf : pj_Z → mj_M} (hT : pj_Lt pj_TC lf) : ∀  (s : Nat → Int32) (l : Nat → Int64) (x : Nat → Int32) (y : Nat → Int64) (a : Int32 × pj_Z), pl_X2_hearCam_43 s l x y = some a → pm_Gd 0 2010 ie_X2_hearCam.1 pm_rI lf 43 [(0, .ref 58)] [] (s, l, x, y) a := by
  intro  s l x y a h
  exact pm_run ((pq_X2_hearCam_43   s l x y).symm.trans h) (pz_X2_hearCam hT) (pm_bks_ok pb_X2_hearCam) (pm_bks_ok pb_X2_hearCam _ _ rfl) (pm_ndb_ok rfl) (fun _ _ h => by cases h)
set_option maxRecDepth 100000 in
theorem pg_X2_hearCam_60 {lf : pj_Z → mj_M} (hT : pj_Lt pj_TC lf) : ∀ (a1 : Int32) (s : Nat → Int32) (l : Nat → Int64) (x : Nat → Int32) (y : Nat → Int64) (a : Int32 × pj_Z), pl_X2_hearCam_60 a1 s l x y = some a → pm_Gd 0 2010 ie_X2_hearCam.1 pm_rI lf 60 [(0, .ref 58), (1, .int a1)] [] (s, l, x, y) a := by
  intro a1 s l x y a h
  exact pm_run ((pq_X2_hearCam_60  a1 s l x y).symm.trans h) (pz_X2_hearCam hT) (pm_bks_ok pb_X2_hearCam) (pm_bks_ok pb_X2_hearCam _ _ rfl) (pm_ndb_ok rfl) (fun _ _ h => by cases h)
set_option maxRecDepth 100000 in
theorem pg_X2_hearCam_23 {lf : pj_Z → mj_M} (hT : pj_Lt pj_TC lf) : ∀ (b0 : Int32) (s : Nat → Int32) (l : Nat → Int64) (x : Nat → Int32) (y : Nat → Int64) (a : Int32 × pj_Z), pl_X2_hearCam_23 b0 s l x y = some a → pm_Gd 0 2010 ie_X2_hearCam.1 pm_rI lf 23 [(0, .ref 58)] [.int b0] (s, l, x, y) a := by
  intro b0 s l x y a h
  exact pm_run ((pq_X2_hearCam_23  b0 s l x y).symm.trans h) (pz_X2_hearCam hT) (pm_bks_ok pb_X2_hearCam) (pm_bks_ok pb_X2_hearCam _ _ rfl) (pm_ndb_ok rfl) (pj_as_all (p := pm_Ex 0 2010 ie_X2_hearCam.1 pm_rI lf a) (List.forall_mem_cons.mpr ⟨pu_X2_hearCam_43 _ (fun  s l x y h => pg_X2_hearCam_43 hT  s l x y _ h), (List.forall_mem_cons.mpr ⟨pu_X2_hearCam_60 _ (fun c0 s l x y h => pg_X2_hearCam_60 hT c0 s l x y _ h), (fun _ h => by cases h)⟩)⟩))
set_option maxRecDepth 100000 in
theorem pg_X2_hearCam_22 {lf : pj_Z → mj_M} (hT : pj_Lt pj_TC lf) : ∀  (s : Nat → Int32) (l : Nat → Int64) (x : Nat → Int32) (y : Nat → Int64) (a : Int32 × pj_Z), pl_X2_hearCam_22 s l x y = some a → pm_Gd 0 2010 ie_X2_hearCam.1 pm_rI lf 22 [(0, .ref 58)] [] (s, l, x, y) a := by
  intro  s l x y a h
  exact pm_run ((pq_X2_hearCam_22   s l x y).symm.trans h) (pz_X2_hearCam hT) (pm_bks_ok pb_X2_hearCam) (pm_bks_ok pb_X2_hearCam _ _ rfl) (pm_ndb_ok rfl) (pj_as_all (p := pm_Ex 0 2010 ie_X2_hearCam.1 pm_rI lf a) (List.forall_mem_cons.mpr ⟨pu_X2_hearCam_23 _ (fun c0 s l x y h => pg_X2_hearCam_23 hT c0 s l x y _ h), (fun _ h => by cases h)⟩))
set_option maxRecDepth 100000 in
theorem pm_X2_hearCam {lf : pj_Z → mj_M} (hT : pj_Lt pj_TC lf)  (s : Nat → Int32) (l : Nat → Int64) (x : Nat → Int32) (y : Nat → Int64) (a : Int32 × pj_Z) (h : pf_X2_hearCam  s l x y = some a) : mj_R ic_P 1 2010 [.ref 58] (lf (s, l, x, y)) (pm_rI a.1) (lf a.2) := by
  refine pm_main (Y := ie_X2_hearCam.1) rfl (Nat.le_of_ble_eq_true rfl) ?_
  exact pm_run ((pq_X2_hearCam_m  s l x y).symm.trans h) (pz_X2_hearCam hT) (pm_bks_ok pb_X2_hearCam) (pm_bks_ok pb_X2_hearCam _ _ rfl) (pm_ndb_ok rfl) (pj_as_all (p := pm_Ex 0 2010 ie_X2_hearCam.1 pm_rI lf a) (List.forall_mem_cons.mpr ⟨pu_X2_hearCam_22 _ (fun  s l x y h => pg_X2_hearCam_22 hT  s l x y _ h), (List.forall_mem_cons.mpr ⟨pu_X2_hearCam_23 _ (fun c0 s l x y h => pg_X2_hearCam_23 hT c0 s l x y _ h), (fun _ h => by cases h)⟩)⟩))
abbrev ph_X2_hearCam {A : Type} : List pj_V → pj_Z → (List pj_V → pj_Z → Option A) → Option A := fun st z K => pj_pr st 58 0 fun st => pj_ps st (pj_b (pf_X2_hearCam  z.1 z.2.1 z.2.2.1 z.2.2.2) fun r s l x y => K (pj_I r :: st) (s, l, x, y))
set_option maxRecDepth 100000 in
theorem pc_X2_hearCam {A : Type} {OK : A → Option Value → mj_M → Prop} {d j pc ix : Nat} {Y : mj_Y} {lf : pj_Z → mj_M} (hT : pj_Lt pj_TC lf) (hd : 1 ≤ d) (hl : mj_lk Y.2.2.2.2 pc = some (.invokevirtual ix, 3)) (hg : mj_pG ic_P j ix = some (2010, 0, some 2)) {lv : List (Nat × Value)} {st : List pj_V} {z : pj_Z} {K : List pj_V → pj_Z → Option A} {a : A} (hK : ∀ st z, K st z = some a → pj_Gd ic_P (mj_R ic_P d) j Y OK lf (pc + 3) lv (pj_es st) z a) (h : ph_X2_hearCam st z K = some a) : pj_Gd ic_P (mj_R ic_P d) j Y OK lf pc lv (pj_es st) z a := by
  obtain ⟨r0, e0, h⟩ := pj_pr_inv h
  obtain ⟨hs, h⟩ := pj_ps_inv h
  obtain ⟨q, hq, h⟩ := pj_b_inv h
  exact pm_cv (o := 58) hl hg [] rfl (by rw [e0]; rfl) hs (by decide) ((hT.2 58 _ rfl).1.2 z 0 (by decide)) (pm_rI q.1) hd (pm_X2_hearCam hT  z.1 z.2.1 z.2.2.1 z.2.2.2 q hq) rfl (hK _ _ h)
abbrev px_X11_camEdge : pj_C (Unit × pj_Z) := ((pj_as [(0, 11, 17, 1, 0, true, 0, [(2, 1), (2, 20), (2, 58), (2, 68), (2, 82), (2, 83), (2, 85), (2, 96), (2, 102), (2, 106), (2, 122), (0, 93), (0, 94), (0, 95), (1, 1), (1, 2), (0, 96)])]), (pj_as [(26, 11, 2, 2, true), (90, 11, 12, 0, false)]), (fun _ => none), (fun _ => none), (fun _ => none), ic_X, 1, 0, pj_mU, (pj_as [(11, ph_X2_hearCam), (18, ph_X11_allOff)]), fun _ => false)
abbrev pk_X11_camEdge : List (Nat × List (Nat × Instr × Nat)) := [(0, [(0, .aload_n 0, 1), (1, .getfield 90, 3), (4, .ifCond .eq 17, 3)]), (7, [(7, .aload_n 0, 1), (8, .getfield 26, 3), (11, .invokevirtual 603, 3), (14, .ifCond .eq 7, 3)]), (17, [(17, .aload_n 0, 1), (18, .invokevirtual 94, 3)]), (21, [(21, .return_, 1)])]
set_option maxRecDepth 100000 in
theorem pq_X11_camEdge_m   (s : Nat → Int32) (l : Nat → Int64) (x : Nat → Int32) (y : Nat → Int64) : pf_X11_camEdge  s l x y = pj_bl px_X11_camEdge (pj_rn px_X11_camEdge (pj_as pk_X11_camEdge) (fun _ => none) 60) [(0, .aload_n 0, 1), (1, .getfield 90, 3), (4, .ifCond .eq 17, 3)] 0 [(0, pj_O (0, 0))] [] (s, l, x, y) := rfl
set_option maxRecDepth 100000 in
theorem pz_X11_camEdge {lf : pj_Z → mj_M} (hT : pj_Lt pj_TC lf) : pj_Cok ic_P (mj_R ic_P 3) 11057 ie_X11_camEdge.1 (pm_OK lf pm_rU) lf px_X11_camEdge := by
  exact pm_cok (c := px_X11_camEdge) (pm_part hT (pj_as_all (p := fun b e => pj_TC b = some e) (List.forall_mem_cons.mpr ⟨rfl, (fun _ h => by cases h)⟩))) (pm_in_ok (L := [(26, 11, 2, 2, true), (90, 11, 12, 0, false)]) (f := mj_pF ic_P 11057) (by decide +kernel)) (fun _ _ h => by cases h) (fun _ _ h => by cases h) (fun _ _ h => by cases h) rfl rfl ⟨by decide, rfl⟩ pm_mU (pj_as_all (p := pm_Cl 3 11057 ie_X11_camEdge.1 lf (pm_OK lf pm_rU)) (List.forall_mem_cons.mpr ⟨fun _ _ lv st z K a hK h => pc_X2_hearCam hT (by decide) (ix := 603) rfl rfl hK h, (List.forall_mem_cons.mpr ⟨fun _ _ lv st z K a hK h => pc_X11_allOff hT (by decide) (ix := 94) rfl rfl hK h, (fun _ h => by cases h)⟩)⟩)) (fun _ h => by cases h)
set_option maxRecDepth 100000 in
theorem pb_X11_camEdge : pm_bks ie_X11_camEdge.1.2.2.2.2 pk_X11_camEdge = true := by decide +kernel
set_option maxRecDepth 100000 in
theorem pm_X11_camEdge {lf : pj_Z → mj_M} (hT : pj_Lt pj_TC lf)  (s : Nat → Int32) (l : Nat → Int64) (x : Nat → Int32) (y : Nat → Int64) (a : Unit × pj_Z) (h : pf_X11_camEdge  s l x y = some a) : mj_R ic_P 4 11057 [.ref 0] (lf (s, l, x, y)) (pm_rU a.1) (lf a.2) := by
  refine pm_main (Y := ie_X11_camEdge.1) rfl (Nat.le_of_ble_eq_true rfl) ?_
  exact pm_run ((pq_X11_camEdge_m  s l x y).symm.trans h) (pz_X11_camEdge hT) (pm_bks_ok pb_X11_camEdge) (pm_bks_ok pb_X11_camEdge _ _ rfl) (pm_ndb_ok rfl) (fun _ _ h => by cases h)
abbrev ph_X11_camEdge {A : Type} : List pj_V → pj_Z → (List pj_V → pj_Z → Option A) → Option A := fun st z K => pj_pr st 0 0 fun st => pj_ps st (pj_b (pf_X11_camEdge  z.1 z.2.1 z.2.2.1 z.2.2.2) fun r s l x y => K st (s, l, x, y))
set_option maxRecDepth 100000 in
theorem pc_X11_camEdge {A : Type} {OK : A → Option Value → mj_M → Prop} {d j pc ix : Nat} {Y : mj_Y} {lf : pj_Z → mj_M} (hT : pj_Lt pj_TC lf) (hd : 4 ≤ d) (hl : mj_lk Y.2.2.2.2 pc = some (.invokevirtual ix, 3)) (hg : mj_pG ic_P j ix = some (11057, 0, some 11)) {lv : List (Nat × Value)} {st : List pj_V} {z : pj_Z} {K : List pj_V → pj_Z → Option A} {a : A} (hK : ∀ st z, K st z = some a → pj_Gd ic_P (mj_R ic_P d) j Y OK lf (pc + 3) lv (pj_es st) z a) (h : ph_X11_camEdge st z K = some a) : pj_Gd ic_P (mj_R ic_P d) j Y OK lf pc lv (pj_es st) z a := by
  obtain ⟨r0, e0, h⟩ := pj_pr_inv h
  obtain ⟨hs, h⟩ := pj_ps_inv h
  obtain ⟨q, hq, h⟩ := pj_b_inv h
  exact pm_cv (o := 0) hl hg [] rfl (by rw [e0]; rfl) hs (by decide) ((hT.2 0 _ rfl).1.2 z 0 (by decide)) (pm_rU q.1) hd (pm_X11_camEdge hT  z.1 z.2.1 z.2.2.1 z.2.2.2 q hq) rfl (hK _ _ h)
abbrev pe_X11_cam_10 (f : pj_F (Int32 × pj_Z)) : pj_K (Int32 × pj_Z) := fun lv st z => pj_pe st (f  z.1 z.2.1 z.2.2.1 z.2.2.2)
abbrev px_X11_cam : pj_C (Int32 × pj_Z) := ((pj_as [(0, 11, 17, 1, 0, true, 0, [(2, 1), (2, 20), (2, 58), (2, 68), (2, 82), (2, 83), (2, 85), (2, 96), (2, 102), (2, 106), (2, 122), (0, 93), (0, 94), (0, 95), (1, 1), (1, 2), (0, 96)]), (58, 2, 19, 1, 0, true, 0, [(0, 19), (0, 20), (1, 4), (1, 5), (1, 6), (1, 7), (0, 21), (0, 22), (0, 23), (0, 24), (0, 25), (2, 59), (2, 63), (0, 26), (1, 8), (1, 9), (1, 10), (0, 27), (0, 28)])]), (pj_as [(26, 11, 2, 2, true), (86, 11, 11, 1, false), (127, 2, 0, 0, false)]), (pj_as [(121, 1000000)]), (fun _ => none), (fun _ => none), ic_X, 2, 1, pj_mI, (pj_as [(28, ph_X11_passTo), (32, ph_X11_camEdge)]), fun _ => false)
abbrev pk_X11_cam : List (Nat × List (Nat × Instr × Nat)) := [(0, [(0, .iload_n 1, 1), (1, .ifCond .lt 9, 3)]), (4, [(4, .iload_n 1, 1), (5, .ldc 121, 2), (7, .if_icmp .le 13, 3)]), (10, [(10, .new 107, 3)]), (20, [(20, .aload_n 0, 1), (21, .aload_n 0, 1), (22, .getfield 86, 3), (25, .iload_n 1, 1), (26, .i2l, 1), (27, .ladd, 1), (28, .invokevirtual 117, 3), (31, .aload_n 0, 1), (32, .invokevirtual 132, 3), (35, .aload_n 0, 1), (36, .getfield 26, 3), (39, .getfield 127, 3), (42, .ireturn, 1)])]
set_option maxRecDepth 100000 in
theorem pq_X11_cam_10   (s : Nat → Int32) (l : Nat → Int64) (x : Nat → Int32) (y : Nat → Int64) : pl_X11_cam_10 s l x y = pj_bl px_X11_cam (pj_rn px_X11_cam (pj_as pk_X11_cam) (fun _ => none) 60) [(10, .new 107, 3)] 10 [] [] (s, l, x, y) := rfl
set_option maxRecDepth 100000 in
theorem pq_X11_cam_m  (a1 : Int32) (s : Nat → Int32) (l : Nat → Int64) (x : Nat → Int32) (y : Nat → Int64) : pf_X11_cam a1 s l x y = pj_bl px_X11_cam (pj_rn px_X11_cam (pj_as pk_X11_cam) (pj_as [(10, pe_X11_cam_10 (pl_X11_cam_10))]) 60) [(0, .iload_n 1, 1), (1, .ifCond .lt 9, 3)] 0 [(0, pj_O (0, 0)), (1, pj_I a1)] [] (s, l, x, y) := rfl
theorem pu_X11_cam_10 {lf : pj_Z → mj_M} {a : Int32 × pj_Z} (f : pj_F (Int32 × pj_Z)) (hf : ∀  (s : Nat → Int32) (l : Nat → Int64) (x : Nat → Int32) (y : Nat → Int64), f  s l x y = some a → pm_Gd 7 11004 ie_X11_cam.1 pm_rI lf 10 [] [] (s, l, x, y) a) : pm_Ex 7 11004 ie_X11_cam.1 pm_rI lf a 10 (pe_X11_cam_10 f) := by
  intro lv st z hd h
  obtain ⟨e9, h⟩ := pj_pe_inv h
  rw [e9]
  exact mj_wp_sub (mj_sub_nil hd) (hf  _ _ _ _ h)
set_option maxRecDepth 100000 in
theorem pz_X11_cam {lf : pj_Z → mj_M} (hT : pj_Lt pj_TC lf) : pj_Cok ic_P (mj_R ic_P 7) 11004 ie_X11_cam.1 (pm_OK lf pm_rI) lf px_X11_cam := by
  exact pm_cok (c := px_X11_cam) (pm_part hT (pj_as_all (p := fun b e => pj_TC b = some e) (List.forall_mem_cons.mpr ⟨rfl, (List.forall_mem_cons.mpr ⟨rfl, (fun _ h => by cases h)⟩)⟩))) (pm_in_ok (L := [(26, 11, 2, 2, true), (86, 11, 11, 1, false), (127, 2, 0, 0, false)]) (f := mj_pF ic_P 11004) (by decide +kernel)) (pm_inI_ok (L := [(121, 1000000)]) (f := mj_pK ic_P 11004) (by decide +kernel)) (fun _ _ h => by cases h) (fun _ _ h => by cases h) rfl rfl ⟨by decide, rfl⟩ pm_mI (pj_as_all (p := pm_Cl 7 11004 ie_X11_cam.1 lf (pm_OK lf pm_rI)) (List.forall_mem_cons.mpr ⟨fun _ _ lv st z K a hK h => pc_X11_passTo hT (by decide) (ix := 117) rfl rfl hK h, (List.forall_mem_cons.mpr ⟨fun _ _ lv st z K a hK h => pc_X11_camEdge hT (by decide) (ix := 132) rfl rfl hK h, (fun _ h => by cases h)⟩)⟩)) (fun _ h => by cases h)
set_option maxRecDepth 100000 in
theorem pb_X11_cam : pm_bks ie_X11_cam.1.2.2.2.2 pk_X11_cam = true := by decide +kernel
set_option maxRecDepth 100000 in
theorem pg_X11_cam_10 {lf : pj_Z → mj_M} (hT : pj_Lt pj_TC lf) : ∀  (s : Nat → Int32) (l : Nat → Int64) (x : Nat → Int32) (y : Nat → Int64) (a : Int32 × pj_Z), pl_X11_cam_10 s l x y = some a → pm_Gd 7 11004 ie_X11_cam.1 pm_rI lf 10 [] [] (s, l, x, y) a := by
  intro  s l x y a h
  exact pm_run ((pq_X11_cam_10   s l x y).symm.trans h) (pz_X11_cam hT) (pm_bks_ok pb_X11_cam) (pm_bks_ok pb_X11_cam _ _ rfl) (pm_ndb_ok rfl) (fun _ _ h => by cases h)
set_option maxRecDepth 100000 in
theorem pm_X11_cam {lf : pj_Z → mj_M} (hT : pj_Lt pj_TC lf) (a1 : Int32) (s : Nat → Int32) (l : Nat → Int64) (x : Nat → Int32) (y : Nat → Int64) (a : Int32 × pj_Z) (h : pf_X11_cam a1 s l x y = some a) : mj_R ic_P 8 11004 [.ref 0, .int a1] (lf (s, l, x, y)) (pm_rI a.1) (lf a.2) := by
  refine pm_main (Y := ie_X11_cam.1) rfl (Nat.le_of_ble_eq_true rfl) ?_
  exact pm_run ((pq_X11_cam_m a1 s l x y).symm.trans h) (pz_X11_cam hT) (pm_bks_ok pb_X11_cam) (pm_bks_ok pb_X11_cam _ _ rfl) (pm_ndb_ok rfl) (pj_as_all (p := pm_Ex 7 11004 ie_X11_cam.1 pm_rI lf a) (List.forall_mem_cons.mpr ⟨pu_X11_cam_10 _ (fun  s l x y h => pg_X11_cam_10 hT  s l x y _ h), (fun _ h => by cases h)⟩))
abbrev ph_X11_cam {A : Type} : List pj_V → pj_Z → (List pj_V → pj_Z → Option A) → Option A := fun st z K => pj_pi st fun a1 st => pj_pr st 0 0 fun st => pj_ps st (pj_b (pf_X11_cam a1 z.1 z.2.1 z.2.2.1 z.2.2.2) fun r s l x y => K (pj_I r :: st) (s, l, x, y))
set_option maxRecDepth 100000 in
theorem pc_X11_cam {A : Type} {OK : A → Option Value → mj_M → Prop} {d j pc ix : Nat} {Y : mj_Y} {lf : pj_Z → mj_M} (hT : pj_Lt pj_TC lf) (hd : 8 ≤ d) (hl : mj_lk Y.2.2.2.2 pc = some (.invokevirtual ix, 3)) (hg : mj_pG ic_P j ix = some (11004, 1, some 11)) {lv : List (Nat × Value)} {st : List pj_V} {z : pj_Z} {K : List pj_V → pj_Z → Option A} {a : A} (hK : ∀ st z, K st z = some a → pj_Gd ic_P (mj_R ic_P d) j Y OK lf (pc + 3) lv (pj_es st) z a) (h : ph_X11_cam st z K = some a) : pj_Gd ic_P (mj_R ic_P d) j Y OK lf pc lv (pj_es st) z a := by
  obtain ⟨a1, r1, e1, h⟩ := pj_pi_inv h
  obtain ⟨r0, e0, h⟩ := pj_pr_inv h
  obtain ⟨hs, h⟩ := pj_ps_inv h
  obtain ⟨q, hq, h⟩ := pj_b_inv h
  exact pm_cv (o := 0) hl hg [.int a1] rfl (by rw [e1, e0]; rfl) hs (by decide) ((hT.2 0 _ rfl).1.2 z 0 (by decide)) (pm_rI q.1) hd (pm_X11_cam hT a1 z.1 z.2.1 z.2.2.1 z.2.2.2 q hq) rfl (hK _ _ h)
abbrev pe_X11_arrive_38 (f : pj_F (Unit × pj_Z)) : pj_K (Unit × pj_Z) := fun lv st z => pj_xr lv 0 0 0 <| pj_pe st (f  z.1 z.2.1 z.2.2.1 z.2.2.2)
abbrev px_X11_arrive : pj_C (Unit × pj_Z) := ((pj_as [(0, 11, 17, 1, 0, true, 0, [(2, 1), (2, 20), (2, 58), (2, 68), (2, 82), (2, 83), (2, 85), (2, 96), (2, 102), (2, 106), (2, 122), (0, 93), (0, 94), (0, 95), (1, 1), (1, 2), (0, 96)]), (122, 5, 13, 1, 0, true, 0, [(0, 45), (0, 46), (0, 47), (0, 48), (0, 49), (0, 50), (0, 51), (0, 52), (0, 53), (0, 54), (0, 55), (2, 123), (0, 56)])]), (pj_as [(82, 11, 10, 2, true), (600, 5, 0, 0, false)]), (fun _ => none), (fun _ => none), (fun _ => none), ic_X, 1, 0, pj_mU, (pj_as [(35, ph_X11_crankEdge), (51, ph_X11_camEdge)]), fun _ => false)
abbrev pk_X11_arrive : List (Nat × List (Nat × Instr × Nat)) := [(0, [(0, .aload_n 0, 1), (1, .getfield 82, 3), (4, .aload_n 0, 1), (5, .getfield 82, 3), (8, .getfield 600, 3), (11, .iconst 1, 1), (12, .iadd, 1), (13, .bipush 120, 2), (15, .irem, 1), (16, .putfield 600, 3), (19, .aload_n 0, 1), (20, .getfield 82, 3), (23, .getfield 600, 3), (26, .bipush 60, 2), (28, .irem, 1), (29, .bipush 57, 2), (31, .if_icmp .gt 7, 3)]), (34, [(34, .aload_n 0, 1), (35, .invokevirtual 124, 3)]), (38, [(38, .aload_n 0, 1), (39, .getfield 82, 3), (42, .getfield 600, 3), (45, .bipush 15, 2), (47, .if_icmp .ne 7, 3)]), (50, [(50, .aload_n 0, 1), (51, .invokevirtual 132, 3)]), (54, [(54, .return_, 1)])]
set_option maxRecDepth 100000 in
theorem pq_X11_arrive_38   (s : Nat → Int32) (l : Nat → Int64) (x : Nat → Int32) (y : Nat → Int64) : pl_X11_arrive_38 s l x y = pj_bl px_X11_arrive (pj_rn px_X11_arrive (pj_as pk_X11_arrive) (fun _ => none) 60) [(38, .aload_n 0, 1), (39, .getfield 82, 3), (42, .getfield 600, 3), (45, .bipush 15, 2), (47, .if_icmp .ne 7, 3)] 38 [(0, pj_O (0, 0))] [] (s, l, x, y) := rfl
set_option maxRecDepth 100000 in
theorem pq_X11_arrive_m   (s : Nat → Int32) (l : Nat → Int64) (x : Nat → Int32) (y : Nat → Int64) : pf_X11_arrive  s l x y = pj_bl px_X11_arrive (pj_rn px_X11_arrive (pj_as pk_X11_arrive) (pj_as [(38, pe_X11_arrive_38 (pl_X11_arrive_38))]) 60) [(0, .aload_n 0, 1), (1, .getfield 82, 3), (4, .aload_n 0, 1), (5, .getfield 82, 3), (8, .getfield 600, 3), (11, .iconst 1, 1), (12, .iadd, 1), (13, .bipush 120, 2), (15, .irem, 1), (16, .putfield 600, 3), (19, .aload_n 0, 1), (20, .getfield 82, 3), (23, .getfield 600, 3), (26, .bipush 60, 2), (28, .irem, 1), (29, .bipush 57, 2), (31, .if_icmp .gt 7, 3)] 0 [(0, pj_O (0, 0))] [] (s, l, x, y) := rfl
theorem pu_X11_arrive_38 {lf : pj_Z → mj_M} {a : Unit × pj_Z} (f : pj_F (Unit × pj_Z)) (hf : ∀  (s : Nat → Int32) (l : Nat → Int64) (x : Nat → Int32) (y : Nat → Int64), f  s l x y = some a → pm_Gd 6 11056 ie_X11_arrive.1 pm_rU lf 38 [(0, .ref 0)] [] (s, l, x, y) a) : pm_Ex 6 11056 ie_X11_arrive.1 pm_rU lf a 38 (pe_X11_arrive_38 f) := by
  intro lv st z hd h
  obtain ⟨g0, h⟩ := pj_xr_inv h
  obtain ⟨e9, h⟩ := pj_pe_inv h
  rw [e9]
  exact mj_wp_sub (mj_sub_cons g0 (mj_sub_nil hd)) (hf  _ _ _ _ h)
set_option maxRecDepth 100000 in
theorem pz_X11_arrive {lf : pj_Z → mj_M} (hT : pj_Lt pj_TC lf) : pj_Cok ic_P (mj_R ic_P 6) 11056 ie_X11_arrive.1 (pm_OK lf pm_rU) lf px_X11_arrive := by
  exact pm_cok (c := px_X11_arrive) (pm_part hT (pj_as_all (p := fun b e => pj_TC b = some e) (List.forall_mem_cons.mpr ⟨rfl, (List.forall_mem_cons.mpr ⟨rfl, (fun _ h => by cases h)⟩)⟩))) (pm_in_ok (L := [(82, 11, 10, 2, true), (600, 5, 0, 0, false)]) (f := mj_pF ic_P 11056) (by decide +kernel)) (fun _ _ h => by cases h) (fun _ _ h => by cases h) (fun _ _ h => by cases h) rfl rfl ⟨by decide, rfl⟩ pm_mU (pj_as_all (p := pm_Cl 6 11056 ie_X11_arrive.1 lf (pm_OK lf pm_rU)) (List.forall_mem_cons.mpr ⟨fun _ _ lv st z K a hK h => pc_X11_crankEdge hT (by decide) (ix := 124) rfl rfl hK h, (List.forall_mem_cons.mpr ⟨fun _ _ lv st z K a hK h => pc_X11_camEdge hT (by decide) (ix := 132) rfl rfl hK h, (fun _ h => by cases h)⟩)⟩)) (fun _ h => by cases h)
set_option maxRecDepth 100000 in
theorem pb_X11_arrive : pm_bks ie_X11_arrive.1.2.2.2.2 pk_X11_arrive = true := by decide +kernel
set_option maxRecDepth 100000 in
theorem pg_X11_arrive_38 {lf : pj_Z → mj_M} (hT : pj_Lt pj_TC lf) : ∀  (s : Nat → Int32) (l : Nat → Int64) (x : Nat → Int32) (y : Nat → Int64) (a : Unit × pj_Z), pl_X11_arrive_38 s l x y = some a → pm_Gd 6 11056 ie_X11_arrive.1 pm_rU lf 38 [(0, .ref 0)] [] (s, l, x, y) a := by
  intro  s l x y a h
  exact pm_run ((pq_X11_arrive_38   s l x y).symm.trans h) (pz_X11_arrive hT) (pm_bks_ok pb_X11_arrive) (pm_bks_ok pb_X11_arrive _ _ rfl) (pm_ndb_ok rfl) (fun _ _ h => by cases h)
set_option maxRecDepth 100000 in
theorem pm_X11_arrive {lf : pj_Z → mj_M} (hT : pj_Lt pj_TC lf)  (s : Nat → Int32) (l : Nat → Int64) (x : Nat → Int32) (y : Nat → Int64) (a : Unit × pj_Z) (h : pf_X11_arrive  s l x y = some a) : mj_R ic_P 7 11056 [.ref 0] (lf (s, l, x, y)) (pm_rU a.1) (lf a.2) := by
  refine pm_main (Y := ie_X11_arrive.1) rfl (Nat.le_of_ble_eq_true rfl) ?_
  exact pm_run ((pq_X11_arrive_m  s l x y).symm.trans h) (pz_X11_arrive hT) (pm_bks_ok pb_X11_arrive) (pm_bks_ok pb_X11_arrive _ _ rfl) (pm_ndb_ok rfl) (pj_as_all (p := pm_Ex 6 11056 ie_X11_arrive.1 pm_rU lf a) (List.forall_mem_cons.mpr ⟨pu_X11_arrive_38 _ (fun  s l x y h => pg_X11_arrive_38 hT  s l x y _ h), (fun _ h => by cases h)⟩))
abbrev ph_X11_arrive {A : Type} : List pj_V → pj_Z → (List pj_V → pj_Z → Option A) → Option A := fun st z K => pj_pr st 0 0 fun st => pj_ps st (pj_b (pf_X11_arrive  z.1 z.2.1 z.2.2.1 z.2.2.2) fun r s l x y => K st (s, l, x, y))
set_option maxRecDepth 100000 in
theorem pc_X11_arrive {A : Type} {OK : A → Option Value → mj_M → Prop} {d j pc ix : Nat} {Y : mj_Y} {lf : pj_Z → mj_M} (hT : pj_Lt pj_TC lf) (hd : 7 ≤ d) (hl : mj_lk Y.2.2.2.2 pc = some (.invokevirtual ix, 3)) (hg : mj_pG ic_P j ix = some (11056, 0, some 11)) {lv : List (Nat × Value)} {st : List pj_V} {z : pj_Z} {K : List pj_V → pj_Z → Option A} {a : A} (hK : ∀ st z, K st z = some a → pj_Gd ic_P (mj_R ic_P d) j Y OK lf (pc + 3) lv (pj_es st) z a) (h : ph_X11_arrive st z K = some a) : pj_Gd ic_P (mj_R ic_P d) j Y OK lf pc lv (pj_es st) z a := by
  obtain ⟨r0, e0, h⟩ := pj_pr_inv h
  obtain ⟨hs, h⟩ := pj_ps_inv h
  obtain ⟨q, hq, h⟩ := pj_b_inv h
  exact pm_cv (o := 0) hl hg [] rfl (by rw [e0]; rfl) hs (by decide) ((hT.2 0 _ rfl).1.2 z 0 (by decide)) (pm_rU q.1) hd (pm_X11_arrive hT  z.1 z.2.1 z.2.2.1 z.2.2.2 q hq) rfl (hK _ _ h)
abbrev pe_X11_turn_12 (f : pj_F (Int32 × pj_Z)) : pj_K (Int32 × pj_Z) := fun lv st z => pj_pe st (f  z.1 z.2.1 z.2.2.1 z.2.2.2)
abbrev pe_X11_turn_34 (f : pj_F (Int32 × pj_Z)) : pj_K (Int32 × pj_Z) := fun lv st z => pj_pe st (f  z.1 z.2.1 z.2.2.1 z.2.2.2)
abbrev pe_X11_turn_46 (f : Int32 → Int32 → Int32 → pj_F (Int32 × pj_Z)) : pj_K (Int32 × pj_Z) := fun lv st z => pj_xr lv 0 0 0 <| pj_xi lv 1 fun a1 => pj_xi lv 2 fun a2 => pj_xi lv 3 fun a3 => pj_pe st (f a1 a2 a3 z.1 z.2.1 z.2.2.1 z.2.2.2)
abbrev px_X11_turn : pj_C (Int32 × pj_Z) := ((pj_as [(0, 11, 17, 1, 0, true, 0, [(2, 1), (2, 20), (2, 58), (2, 68), (2, 82), (2, 83), (2, 85), (2, 96), (2, 102), (2, 106), (2, 122), (0, 93), (0, 94), (0, 95), (1, 1), (1, 2), (0, 96)]), (58, 2, 19, 1, 0, true, 0, [(0, 19), (0, 20), (1, 4), (1, 5), (1, 6), (1, 7), (0, 21), (0, 22), (0, 23), (0, 24), (0, 25), (2, 59), (2, 63), (0, 26), (1, 8), (1, 9), (1, 10), (0, 27), (0, 28)])]), (pj_as [(26, 11, 2, 2, true), (86, 11, 11, 1, false), (127, 2, 0, 0, false)]), (pj_as [(137, 100000)]), (fun _ => none), (fun _ => none), ic_X, 4, 1, pj_mI, (pj_as [(59, ph_X11_passTo), (63, ph_X11_arrive)]), fun _ => false)
abbrev pk_X11_turn : List (Nat × List (Nat × Instr × Nat)) := [(0, [(0, .iload_n 1, 1), (1, .iconst 1, 1), (2, .if_icmp .lt 10, 3)]), (5, [(5, .iload_n 1, 1), (6, .sipush 240, 3), (9, .if_icmp .le 13, 3)]), (12, [(12, .new 107, 3)]), (22, [(22, .iload_n 2, 1), (23, .bipush 20, 2), (25, .if_icmp .lt 9, 3)]), (28, [(28, .iload_n 2, 1), (29, .ldc 137, 2), (31, .if_icmp .le 13, 3)]), (34, [(34, .new 107, 3)]), (44, [(44, .iconst 0, 1), (45, .istore_n 3, 1)]), (46, [(46, .iload_n 3, 1), (47, .iload_n 1, 1), (48, .if_icmp .ge 24, 3)]), (51, [(51, .aload_n 0, 1), (52, .aload_n 0, 1), (53, .getfield 86, 3), (56, .iload_n 2, 1), (57, .i2l, 1), (58, .ladd, 1), (59, .invokevirtual 117, 3), (62, .aload_n 0, 1), (63, .invokevirtual 140, 3), (66, .iinc 3 1, 3), (69, .goto (-23), 3)]), (72, [(72, .aload_n 0, 1), (73, .getfield 26, 3), (76, .getfield 127, 3), (79, .ireturn, 1)])]
set_option maxRecDepth 100000 in
theorem pq_X11_turn_12 (fu : Nat)   (s : Nat → Int32) (l : Nat → Int64) (x : Nat → Int32) (y : Nat → Int64) : pl_X11_turn_12 fu s l x y = pj_bl px_X11_turn (pj_rn px_X11_turn (pj_as pk_X11_turn) (fun _ => none) 60) [(12, .new 107, 3)] 12 [] [] (s, l, x, y) := rfl
set_option maxRecDepth 100000 in
theorem pq_X11_turn_34 (fu : Nat)   (s : Nat → Int32) (l : Nat → Int64) (x : Nat → Int32) (y : Nat → Int64) : pl_X11_turn_34 fu s l x y = pj_bl px_X11_turn (pj_rn px_X11_turn (pj_as pk_X11_turn) (fun _ => none) 60) [(34, .new 107, 3)] 34 [] [] (s, l, x, y) := rfl
set_option maxRecDepth 100000 in
theorem pq_X11_turn_46 (fu : Nat)  (n : Nat) (a1 : Int32) (a2 : Int32) (a3 : Int32) (s : Nat → Int32) (l : Nat → Int64) (x : Nat → Int32) (y : Nat → Int64) : pl_X11_turn_46 fu (n + 1) a1 a2 a3 s l x y = pj_bl px_X11_turn (pj_rn px_X11_turn (pj_as pk_X11_turn) (pj_as [(46, pe_X11_turn_46 (pl_X11_turn_46 fu n))]) 60) [(46, .iload_n 3, 1), (47, .iload_n 1, 1), (48, .if_icmp .ge 24, 3)] 46 [(0, pj_O (0, 0)), (1, pj_I a1), (2, pj_I a2), (3, pj_I a3)] [] (s, l, x, y) := rfl
set_option maxRecDepth 100000 in
theorem pq_X11_turn_m (fu : Nat)  (a1 : Int32) (a2 : Int32) (s : Nat → Int32) (l : Nat → Int64) (x : Nat → Int32) (y : Nat → Int64) : po_X11_turn fu a1 a2 s l x y = pj_bl px_X11_turn (pj_rn px_X11_turn (pj_as pk_X11_turn) (pj_as [(12, pe_X11_turn_12 (pl_X11_turn_12 fu)), (34, pe_X11_turn_34 (pl_X11_turn_34 fu)), (46, pe_X11_turn_46 (pl_X11_turn_46 fu fu))]) 60) [(0, .iload_n 1, 1), (1, .iconst 1, 1), (2, .if_icmp .lt 10, 3)] 0 [(0, pj_O (0, 0)), (1, pj_I a1), (2, pj_I a2)] [] (s, l, x, y) := rfl
theorem pu_X11_turn_12 {lf : pj_Z → mj_M} {a : Int32 × pj_Z} (f : pj_F (Int32 × pj_Z)) (hf : ∀  (s : Nat → Int32) (l : Nat → Int64) (x : Nat → Int32) (y : Nat → Int64), f  s l x y = some a → pm_Gd 7 11005 ie_X11_turn.1 pm_rI lf 12 [] [] (s, l, x, y) a) : pm_Ex 7 11005 ie_X11_turn.1 pm_rI lf a 12 (pe_X11_turn_12 f) := by
  intro lv st z hd h
  obtain ⟨e9, h⟩ := pj_pe_inv h
  rw [e9]
  exact mj_wp_sub (mj_sub_nil hd) (hf  _ _ _ _ h)
theorem pu_X11_turn_34 {lf : pj_Z → mj_M} {a : Int32 × pj_Z} (f : pj_F (Int32 × pj_Z)) (hf : ∀  (s : Nat → Int32) (l : Nat → Int64) (x : Nat → Int32) (y : Nat → Int64), f  s l x y = some a → pm_Gd 7 11005 ie_X11_turn.1 pm_rI lf 34 [] [] (s, l, x, y) a) : pm_Ex 7 11005 ie_X11_turn.1 pm_rI lf a 34 (pe_X11_turn_34 f) := by
  intro lv st z hd h
  obtain ⟨e9, h⟩ := pj_pe_inv h
  rw [e9]
  exact mj_wp_sub (mj_sub_nil hd) (hf  _ _ _ _ h)
theorem pu_X11_turn_46 {lf : pj_Z → mj_M} {a : Int32 × pj_Z} (f : Int32 → Int32 → Int32 → pj_F (Int32 × pj_Z)) (hf : ∀ (a1 : Int32) (a2 : Int32) (a3 : Int32) (s : Nat → Int32) (l : Nat → Int64) (x : Nat → Int32) (y : Nat → Int64), f a1 a2 a3 s l x y = some a → pm_Gd 7 11005 ie_X11_turn.1 pm_rI lf 46 [(0, .ref 0), (1, .int a1), (2, .int a2), (3, .int a3)] [] (s, l, x, y) a) : pm_Ex 7 11005 ie_X11_turn.1 pm_rI lf a 46 (pe_X11_turn_46 f) := by
  intro lv st z hd h
  obtain ⟨g0, h⟩ := pj_xr_inv h
  obtain ⟨a1, g1, h⟩ := pj_xi_inv h
  obtain ⟨a2, g2, h⟩ := pj_xi_inv h
  obtain ⟨a3, g3, h⟩ := pj_xi_inv h
  obtain ⟨e9, h⟩ := pj_pe_inv h
  rw [e9]
  exact mj_wp_sub (mj_sub_cons g0 (mj_sub_cons g1 (mj_sub_cons g2 (mj_sub_cons g3 (mj_sub_nil hd))))) (hf _ _ _ _ _ _ _ h)
set_option maxRecDepth 100000 in
theorem pz_X11_turn {lf : pj_Z → mj_M} (hT : pj_Lt pj_TC lf) : pj_Cok ic_P (mj_R ic_P 7) 11005 ie_X11_turn.1 (pm_OK lf pm_rI) lf px_X11_turn := by
  exact pm_cok (c := px_X11_turn) (pm_part hT (pj_as_all (p := fun b e => pj_TC b = some e) (List.forall_mem_cons.mpr ⟨rfl, (List.forall_mem_cons.mpr ⟨rfl, (fun _ h => by cases h)⟩)⟩))) (pm_in_ok (L := [(26, 11, 2, 2, true), (86, 11, 11, 1, false), (127, 2, 0, 0, false)]) (f := mj_pF ic_P 11005) (by decide +kernel)) (pm_inI_ok (L := [(137, 100000)]) (f := mj_pK ic_P 11005) (by decide +kernel)) (fun _ _ h => by cases h) (fun _ _ h => by cases h) rfl rfl ⟨by decide, rfl⟩ pm_mI (pj_as_all (p := pm_Cl 7 11005 ie_X11_turn.1 lf (pm_OK lf pm_rI)) (List.forall_mem_cons.mpr ⟨fun _ _ lv st z K a hK h => pc_X11_passTo hT (by decide) (ix := 117) rfl rfl hK h, (List.forall_mem_cons.mpr ⟨fun _ _ lv st z K a hK h => pc_X11_arrive hT (by decide) (ix := 140) rfl rfl hK h, (fun _ h => by cases h)⟩)⟩)) (fun _ h => by cases h)
set_option maxRecDepth 100000 in
theorem pb_X11_turn : pm_bks ie_X11_turn.1.2.2.2.2 pk_X11_turn = true := by decide +kernel
set_option maxRecDepth 100000 in
theorem pg_X11_turn_12 {fu : Nat} {lf : pj_Z → mj_M} (hT : pj_Lt pj_TC lf) : ∀  (s : Nat → Int32) (l : Nat → Int64) (x : Nat → Int32) (y : Nat → Int64) (a : Int32 × pj_Z), pl_X11_turn_12 fu s l x y = some a → pm_Gd 7 11005 ie_X11_turn.1 pm_rI lf 12 [] [] (s, l, x, y) a := by
  intro  s l x y a h
  exact pm_run ((pq_X11_turn_12 fu  s l x y).symm.trans h) (pz_X11_turn hT) (pm_bks_ok pb_X11_turn) (pm_bks_ok pb_X11_turn _ _ rfl) (pm_ndb_ok rfl) (fun _ _ h => by cases h)
set_option maxRecDepth 100000 in
theorem pg_X11_turn_34 {fu : Nat} {lf : pj_Z → mj_M} (hT : pj_Lt pj_TC lf) : ∀  (s : Nat → Int32) (l : Nat → Int64) (x : Nat → Int32) (y : Nat → Int64) (a : Int32 × pj_Z), pl_X11_turn_34 fu s l x y = some a → pm_Gd 7 11005 ie_X11_turn.1 pm_rI lf 34 [] [] (s, l, x, y) a := by
  intro  s l x y a h
  exact pm_run ((pq_X11_turn_34 fu  s l x y).symm.trans h) (pz_X11_turn hT) (pm_bks_ok pb_X11_turn) (pm_bks_ok pb_X11_turn _ _ rfl) (pm_ndb_ok rfl) (fun _ _ h => by cases h)
set_option maxRecDepth 100000 in
theorem pg_X11_turn_46 {fu : Nat} {lf : pj_Z → mj_M} (hT : pj_Lt pj_TC lf) : ∀ (n : Nat), ∀ (a1 : Int32) (a2 : Int32) (a3 : Int32) (s : Nat → Int32) (l : Nat → Int64) (x : Nat → Int32) (y : Nat → Int64) (a : Int32 × pj_Z), pl_X11_turn_46 fu n a1 a2 a3 s l x y = some a → pm_Gd 7 11005 ie_X11_turn.1 pm_rI lf 46 [(0, .ref 0), (1, .int a1), (2, .int a2), (3, .int a3)] [] (s, l, x, y) a := by
  intro n
  induction n with
  | zero => intro a1 a2 a3 s l x y a h; cases (show (none : Option (Int32 × pj_Z)) = some a from h)
  | succ n ih =>
    intro a1 a2 a3 s l x y a h
    exact pm_run ((pq_X11_turn_46 fu n a1 a2 a3 s l x y).symm.trans h) (pz_X11_turn hT) (pm_bks_ok pb_X11_turn) (pm_bks_ok pb_X11_turn _ _ rfl) (pm_ndb_ok rfl) (pj_as_all (p := pm_Ex 7 11005 ie_X11_turn.1 pm_rI lf a) (List.forall_mem_cons.mpr ⟨pu_X11_turn_46 _ (fun c0 c1 c2 s l x y h => ih c0 c1 c2 s l x y _ h), (fun _ h => by cases h)⟩))
set_option maxRecDepth 100000 in
theorem pm_X11_turn {lf : pj_Z → mj_M} (hT : pj_Lt pj_TC lf) (a1 : Int32) (a2 : Int32) (s : Nat → Int32) (l : Nat → Int64) (x : Nat → Int32) (y : Nat → Int64) (a : Int32 × pj_Z) (h : pf_X11_turn a1 a2 s l x y = some a) : mj_R ic_P 8 11005 [.ref 0, .int a1, .int a2] (lf (s, l, x, y)) (pm_rI a.1) (lf a.2) := by
  refine pm_main (Y := ie_X11_turn.1) rfl (Nat.le_of_ble_eq_true rfl) ?_
  exact pm_run ((pq_X11_turn_m 1000 a1 a2 s l x y).symm.trans h) (pz_X11_turn hT) (pm_bks_ok pb_X11_turn) (pm_bks_ok pb_X11_turn _ _ rfl) (pm_ndb_ok rfl) (pj_as_all (p := pm_Ex 7 11005 ie_X11_turn.1 pm_rI lf a) (List.forall_mem_cons.mpr ⟨pu_X11_turn_12 _ (fun  s l x y h => pg_X11_turn_12 hT  s l x y _ h), (List.forall_mem_cons.mpr ⟨pu_X11_turn_34 _ (fun  s l x y h => pg_X11_turn_34 hT  s l x y _ h), (List.forall_mem_cons.mpr ⟨pu_X11_turn_46 _ (fun c0 c1 c2 s l x y h => pg_X11_turn_46 hT _ c0 c1 c2 s l x y _ h), (fun _ h => by cases h)⟩)⟩)⟩))
abbrev ph_X11_turn {A : Type} : List pj_V → pj_Z → (List pj_V → pj_Z → Option A) → Option A := fun st z K => pj_pi st fun a2 st => pj_pi st fun a1 st => pj_pr st 0 0 fun st => pj_ps st (pj_b (pf_X11_turn a1 a2 z.1 z.2.1 z.2.2.1 z.2.2.2) fun r s l x y => K (pj_I r :: st) (s, l, x, y))
set_option maxRecDepth 100000 in
theorem pc_X11_turn {A : Type} {OK : A → Option Value → mj_M → Prop} {d j pc ix : Nat} {Y : mj_Y} {lf : pj_Z → mj_M} (hT : pj_Lt pj_TC lf) (hd : 8 ≤ d) (hl : mj_lk Y.2.2.2.2 pc = some (.invokevirtual ix, 3)) (hg : mj_pG ic_P j ix = some (11005, 2, some 11)) {lv : List (Nat × Value)} {st : List pj_V} {z : pj_Z} {K : List pj_V → pj_Z → Option A} {a : A} (hK : ∀ st z, K st z = some a → pj_Gd ic_P (mj_R ic_P d) j Y OK lf (pc + 3) lv (pj_es st) z a) (h : ph_X11_turn st z K = some a) : pj_Gd ic_P (mj_R ic_P d) j Y OK lf pc lv (pj_es st) z a := by
  obtain ⟨a2, r2, e2, h⟩ := pj_pi_inv h
  obtain ⟨a1, r1, e1, h⟩ := pj_pi_inv h
  obtain ⟨r0, e0, h⟩ := pj_pr_inv h
  obtain ⟨hs, h⟩ := pj_ps_inv h
  obtain ⟨q, hq, h⟩ := pj_b_inv h
  exact pm_cv (o := 0) hl hg [.int a1, .int a2] rfl (by rw [e2, e1, e0]; rfl) hs (by decide) ((hT.2 0 _ rfl).1.2 z 0 (by decide)) (pm_rI q.1) hd (pm_X11_turn hT a1 a2 z.1 z.2.1 z.2.2.1 z.2.2.2 q hq) rfl (hK _ _ h)
abbrev pe_X5_stepTicks_24 (f : pj_F (Int32 × pj_Z)) : pj_K (Int32 × pj_Z) := fun lv st z => pj_xr lv 0 122 0 <| pj_pe st (f  z.1 z.2.1 z.2.2.1 z.2.2.2)
abbrev px_X5_stepTicks : pj_C (Int32 × pj_Z) := ((pj_as [(122, 5, 13, 1, 0, true, 0, [(0, 45), (0, 46), (0, 47), (0, 48), (0, 49), (0, 50), (0, 51), (0, 52), (0, 53), (0, 54), (0, 55), (2, 123), (0, 56)])]), (pj_as [(22, 5, 3, 3, false), (26, 5, 1, 0, false)]), (pj_as [(29, 1000000)]), (fun _ => none), (fun _ => none), ic_X, 1, 1, pj_mI, (fun _ => none), fun _ => false)
abbrev pk_X5_stepTicks : List (Nat × List (Nat × Instr × Nat)) := [(0, [(0, .aload_n 0, 1), (1, .getfield 22, 3), (4, .ifCond .eq 20, 3)]), (7, [(7, .aload_n 0, 1), (8, .getfield 26, 3), (11, .sipush 250, 3), (14, .if_icmp .ge 10, 3)]), (17, [(17, .aload_n 0, 1), (18, .sipush 250, 3), (21, .putfield 26, 3)]), (24, [(24, .aload_n 0, 1), (25, .getfield 26, 3), (28, .bipush 50, 2), (30, .if_icmp .ge 10, 3)]), (33, [(33, .aload_n 0, 1), (34, .iconst 0, 1), (35, .putfield 26, 3), (38, .iconst (-1), 1), (39, .ireturn, 1)]), (40, [(40, .ldc 29, 2), (42, .aload_n 0, 1), (43, .getfield 26, 3), (46, .idiv, 1), (47, .ireturn, 1)])]
set_option maxRecDepth 100000 in
theorem pq_X5_stepTicks_24   (s : Nat → Int32) (l : Nat → Int64) (x : Nat → Int32) (y : Nat → Int64) : pl_X5_stepTicks_24 s l x y = pj_bl px_X5_stepTicks (pj_rn px_X5_stepTicks (pj_as pk_X5_stepTicks) (fun _ => none) 60) [(24, .aload_n 0, 1), (25, .getfield 26, 3), (28, .bipush 50, 2), (30, .if_icmp .ge 10, 3)] 24 [(0, pj_O (122, 0))] [] (s, l, x, y) := rfl
set_option maxRecDepth 100000 in
theorem pq_X5_stepTicks_m   (s : Nat → Int32) (l : Nat → Int64) (x : Nat → Int32) (y : Nat → Int64) : pf_X5_stepTicks  s l x y = pj_bl px_X5_stepTicks (pj_rn px_X5_stepTicks (pj_as pk_X5_stepTicks) (pj_as [(24, pe_X5_stepTicks_24 (pl_X5_stepTicks_24))]) 60) [(0, .aload_n 0, 1), (1, .getfield 22, 3), (4, .ifCond .eq 20, 3)] 0 [(0, pj_O (122, 0))] [] (s, l, x, y) := rfl
theorem pu_X5_stepTicks_24 {lf : pj_Z → mj_M} {a : Int32 × pj_Z} (f : pj_F (Int32 × pj_Z)) (hf : ∀  (s : Nat → Int32) (l : Nat → Int64) (x : Nat → Int32) (y : Nat → Int64), f  s l x y = some a → pm_Gd 0 5001 ie_X5_stepTicks.1 pm_rI lf 24 [(0, .ref 122)] [] (s, l, x, y) a) : pm_Ex 0 5001 ie_X5_stepTicks.1 pm_rI lf a 24 (pe_X5_stepTicks_24 f) := by
  intro lv st z hd h
  obtain ⟨g0, h⟩ := pj_xr_inv h
  obtain ⟨e9, h⟩ := pj_pe_inv h
  rw [e9]
  exact mj_wp_sub (mj_sub_cons g0 (mj_sub_nil hd)) (hf  _ _ _ _ h)
set_option maxRecDepth 100000 in
theorem pz_X5_stepTicks {lf : pj_Z → mj_M} (hT : pj_Lt pj_TC lf) : pj_Cok ic_P (mj_R ic_P 0) 5001 ie_X5_stepTicks.1 (pm_OK lf pm_rI) lf px_X5_stepTicks := by
  exact pm_cok (c := px_X5_stepTicks) (pm_part hT (pj_as_all (p := fun b e => pj_TC b = some e) (List.forall_mem_cons.mpr ⟨rfl, (fun _ h => by cases h)⟩))) (pm_in_ok (L := [(22, 5, 3, 3, false), (26, 5, 1, 0, false)]) (f := mj_pF ic_P 5001) (by decide +kernel)) (pm_inI_ok (L := [(29, 1000000)]) (f := mj_pK ic_P 5001) (by decide +kernel)) (fun _ _ h => by cases h) (fun _ _ h => by cases h) rfl rfl ⟨by decide, rfl⟩ pm_mI (fun _ _ h => by cases h) (fun _ h => by cases h)
set_option maxRecDepth 100000 in
theorem pb_X5_stepTicks : pm_bks ie_X5_stepTicks.1.2.2.2.2 pk_X5_stepTicks = true := by decide +kernel
set_option maxRecDepth 100000 in
theorem pg_X5_stepTicks_24 {lf : pj_Z → mj_M} (hT : pj_Lt pj_TC lf) : ∀  (s : Nat → Int32) (l : Nat → Int64) (x : Nat → Int32) (y : Nat → Int64) (a : Int32 × pj_Z), pl_X5_stepTicks_24 s l x y = some a → pm_Gd 0 5001 ie_X5_stepTicks.1 pm_rI lf 24 [(0, .ref 122)] [] (s, l, x, y) a := by
  intro  s l x y a h
  exact pm_run ((pq_X5_stepTicks_24   s l x y).symm.trans h) (pz_X5_stepTicks hT) (pm_bks_ok pb_X5_stepTicks) (pm_bks_ok pb_X5_stepTicks _ _ rfl) (pm_ndb_ok rfl) (fun _ _ h => by cases h)
set_option maxRecDepth 100000 in
theorem pm_X5_stepTicks {lf : pj_Z → mj_M} (hT : pj_Lt pj_TC lf)  (s : Nat → Int32) (l : Nat → Int64) (x : Nat → Int32) (y : Nat → Int64) (a : Int32 × pj_Z) (h : pf_X5_stepTicks  s l x y = some a) : mj_R ic_P 1 5001 [.ref 122] (lf (s, l, x, y)) (pm_rI a.1) (lf a.2) := by
  refine pm_main (Y := ie_X5_stepTicks.1) rfl (Nat.le_of_ble_eq_true rfl) ?_
  exact pm_run ((pq_X5_stepTicks_m  s l x y).symm.trans h) (pz_X5_stepTicks hT) (pm_bks_ok pb_X5_stepTicks) (pm_bks_ok pb_X5_stepTicks _ _ rfl) (pm_ndb_ok rfl) (pj_as_all (p := pm_Ex 0 5001 ie_X5_stepTicks.1 pm_rI lf a) (List.forall_mem_cons.mpr ⟨pu_X5_stepTicks_24 _ (fun  s l x y h => pg_X5_stepTicks_24 hT  s l x y _ h), (fun _ h => by cases h)⟩))
abbrev ph_X5_stepTicks {A : Type} : List pj_V → pj_Z → (List pj_V → pj_Z → Option A) → Option A := fun st z K => pj_pr st 122 0 fun st => pj_ps st (pj_b (pf_X5_stepTicks  z.1 z.2.1 z.2.2.1 z.2.2.2) fun r s l x y => K (pj_I r :: st) (s, l, x, y))
set_option maxRecDepth 100000 in
theorem pc_X5_stepTicks {A : Type} {OK : A → Option Value → mj_M → Prop} {d j pc ix : Nat} {Y : mj_Y} {lf : pj_Z → mj_M} (hT : pj_Lt pj_TC lf) (hd : 1 ≤ d) (hl : mj_lk Y.2.2.2.2 pc = some (.invokevirtual ix, 3)) (hg : mj_pG ic_P j ix = some (5001, 0, some 5)) {lv : List (Nat × Value)} {st : List pj_V} {z : pj_Z} {K : List pj_V → pj_Z → Option A} {a : A} (hK : ∀ st z, K st z = some a → pj_Gd ic_P (mj_R ic_P d) j Y OK lf (pc + 3) lv (pj_es st) z a) (h : ph_X5_stepTicks st z K = some a) : pj_Gd ic_P (mj_R ic_P d) j Y OK lf pc lv (pj_es st) z a := by
  obtain ⟨r0, e0, h⟩ := pj_pr_inv h
  obtain ⟨hs, h⟩ := pj_ps_inv h
  obtain ⟨q, hq, h⟩ := pj_b_inv h
  exact pm_cv (o := 122) hl hg [] rfl (by rw [e0]; rfl) hs (by decide) ((hT.2 122 _ rfl).1.2 z 0 (by decide)) (pm_rI q.1) hd (pm_X5_stepTicks hT  z.1 z.2.1 z.2.2.1 z.2.2.2 q hq) rfl (hK _ _ h)

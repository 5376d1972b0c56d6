/-! METHODS 19, printed by gen_meth.py -/
abbrev pe_X12_braking_25 (f : pj_F (Int32 × pj_Z)) : pj_K (Int32 × pj_Z) := fun lv st z => pj_pe st (f  z.1 z.2.1 z.2.2.1 z.2.2.2)
abbrev px_X12_braking : pj_C (Int32 × pj_Z) := ((pj_as [(124, 12, 195, 1, 0, true, 0, [(1, 1), (2, 125), (2, 126), (2, 127), (2, 128), (2, 129), (2, 130), (2, 131), (2, 132), (2, 133), (1, 2), (0, 44), (2, 134), (2, 135), (2, 136), (2, 137), (2, 138), (0, 69), (2, 139), (2, 140), (2, 141), (1, 3), (0, 93), (0, 94), (0, 45), (0, 46), (0, 48), (0, 49), (0, 47), (0, 50), (0, 51), (2, 142), (2, 143), (2, 144), (0, 19), (1, 4), (1, 5), (1, 6), (0, 20), (0, 21), (0, 22), (0, 23), (0, 24), (0, 25), (0, 27), (0, 28), (1, 7), (1, 8), (1, 9), (1, 10), (1, 11), (0, 26), (2, 145), (2, 146), (2, 147), (2, 148), (2, 149), (2, 150), (2, 151), (2, 152), (2, 153), (2, 154), (2, 155), (2, 156), (2, 157), (2, 158), (2, 159), (0, 57), (0, 58), (0, 59), (0, 60), (2, 160), (2, 161), (2, 162), (2, 163), (1, 12), (1, 13), (0, 95), (0, 73), (0, 74), (0, 71), (0, 72), (0, 75), (0, 76), (0, 77), (0, 80), (0, 78), (0, 79), (1, 14), (0, 29), (0, 30), (0, 31), (0, 34), (0, 35), (0, 32), (0, 33), (0, 36), (0, 37), (0, 38), (0, 39), (0, 40), (1, 15), (1, 16), (0, 43), (0, 41), (0, 42), (2, 164), (0, 96), (0, 89), (0, 90), (0, 91), (0, 92), (2, 165), (2, 166), (2, 167), (2, 168), (2, 169), (2, 170), (2, 171), (2, 172), (0, 87), (2, 173), (0, 88), (2, 174), (0, 62), (1, 17), (0, 66), (0, 63), (0, 64), (0, 65), (0, 67), (1, 18), (0, 68), (2, 175), (1, 19), (0, 52), (0, 53), (0, 54), (0, 55), (2, 176), (0, 56), (0, 85), (0, 86), (0, 81), (0, 82), (0, 83), (0, 84), (2, 177), (2, 178), (2, 179), (1, 20), (2, 180), (0, 6), (0, 7), (0, 8), (0, 16), (0, 17), (0, 61), (0, 9), (0, 10), (1, 21), (1, 22), (0, 11), (0, 12), (0, 13), (0, 18), (0, 14), (0, 15), (2, 181), (0, 70), (1, 23), (2, 182), (2, 183), (0, 1), (1, 24), (2, 184), (2, 185), (1, 25), (0, 2), (2, 186), (2, 187), (1, 26), (2, 188), (2, 189), (1, 27), (1, 28), (2, 190), (2, 191), (1, 29), (0, 3), (2, 192), (0, 4), (0, 5), (1, 30), (2, 193)]), (176, 102, 2, 1, 0, true, 15000, [])]), (pj_as [(182, 12, 139, 2, true), (360, 12, 142, 3, false)]), (fun _ => none), (fun _ => none), (fun _ => none), ic_X, 1, 2, pj_mI, (fun _ => none), fun _ => false)
abbrev pk_X12_braking : List (Nat × List (Nat × Instr × Nat)) := [(0, [(0, .aload_n 0, 1), (1, .getfield 182, 3), (4, .iconst 0, 1), (5, .baload, 1), (6, .ifCond .ne 19, 3)]), (9, [(9, .aload_n 0, 1), (10, .getfield 182, 3), (13, .iconst 1, 1), (14, .baload, 1), (15, .ifCond .ne 10, 3)]), (18, [(18, .aload_n 0, 1), (19, .getfield 360, 3), (22, .ifCond .eq 7, 3)]), (25, [(25, .iconst 1, 1), (26, .goto 4, 3)]), (29, [(29, .iconst 0, 1)]), (30, [(30, .ireturn, 1)])]
set_option maxRecDepth 100000 in
theorem pq_X12_braking_25   (s : Nat → Int32) (l : Nat → Int64) (x : Nat → Int32) (y : Nat → Int64) : pl_X12_braking_25 s l x y = pj_bl px_X12_braking (pj_rn px_X12_braking (pj_as pk_X12_braking) (fun _ => none) 60) [(25, .iconst 1, 1), (26, .goto 4, 3)] 25 [] [] (s, l, x, y) := rfl
set_option maxRecDepth 100000 in
theorem pq_X12_braking_m   (s : Nat → Int32) (l : Nat → Int64) (x : Nat → Int32) (y : Nat → Int64) : pf_X12_braking  s l x y = pj_bl px_X12_braking (pj_rn px_X12_braking (pj_as pk_X12_braking) (pj_as [(25, pe_X12_braking_25 (pl_X12_braking_25))]) 60) [(0, .aload_n 0, 1), (1, .getfield 182, 3), (4, .iconst 0, 1), (5, .baload, 1), (6, .ifCond .ne 19, 3)] 0 [(0, pj_O (124, 0))] [] (s, l, x, y) := rfl
theorem pu_X12_braking_25 {lf : pj_Z → mj_M} {a : Int32 × pj_Z} (f : pj_F (Int32 × pj_Z)) (hf : ∀  (s : Nat → Int32) (l : Nat → Int64) (x : Nat → Int32) (y : Nat → Int64), f  s l x y = some a → pm_Gd 0 12126 ie_X12_braking.1 pm_rI lf 25 [] [] (s, l, x, y) a) : pm_Ex 0 12126 ie_X12_braking.1 pm_rI lf a 25 (pe_X12_braking_25 f) := by
  intro lv st z hd h
  obtain ⟨e9, h⟩ := pj_pe_inv h
  rw [e9]
  exact mj_wp_sub (mj_sub_nil hd) (hf  _ _ _ _ h)
set_option maxRecDepth 100000 in
theorem pz_X12_braking {lf : pj_Z → mj_M} (hT : pj_Lt pj_TR lf) : pj_Cok ic_P (mj_R ic_P 0) 12126 ie_X12_braking.1 (pm_OK lf pm_rI) lf px_X12_braking := by
  exact pm_cok (c := px_X12_braking) (pm_part hT (pj_as_all (p := fun b e => pj_TR b = some e) (List.forall_mem_cons.mpr ⟨rfl, (List.forall_mem_cons.mpr ⟨rfl, (fun _ h => by cases h)⟩)⟩))) (pm_in_ok (L := [(182, 12, 139, 2, true), (360, 12, 142, 3, false)]) (f := mj_pF ic_P 12126) (by decide +kernel)) (fun _ _ h => by cases h) (fun _ _ h => by cases h) (fun _ _ h => by cases h) rfl rfl ⟨by decide, rfl⟩ pm_mI (fun _ _ h => by cases h) (fun _ h => by cases h)
set_option maxRecDepth 100000 in
theorem pb_X12_braking : pm_bks ie_X12_braking.1.2.2.2.2 pk_X12_braking = true := by decide +kernel
set_option maxRecDepth 100000 in
theorem pg_X12_braking_25 {lf : pj_Z → mj_M} (hT : pj_Lt pj_TR lf) : ∀  (s : Nat → Int32) (l : Nat → Int64) (x : Nat → Int32) (y : Nat → Int64) (a : Int32 × pj_Z), pl_X12_braking_25 s l x y = some a → pm_Gd 0 12126 ie_X12_braking.1 pm_rI lf 25 [] [] (s, l, x, y) a := by
  intro  s l x y a h
  exact pm_run ((pq_X12_braking_25   s l x y).symm.trans h) (pz_X12_braking hT) (pm_bks_ok pb_X12_braking) (pm_bks_ok pb_X12_braking _ _ rfl) (pm_ndb_ok rfl) (fun _ _ h => by cases h)
set_option maxRecDepth 100000 in
theorem pm_X12_braking {lf : pj_Z → mj_M} (hT : pj_Lt pj_TR lf)  (s : Nat → Int32) (l : Nat → Int64) (x : Nat → Int32) (y : Nat → Int64) (a : Int32 × pj_Z) (h : pf_X12_braking  s l x y = some a) : mj_R ic_P 1 12126 [.ref 124] (lf (s, l, x, y)) (pm_rI a.1) (lf a.2) := by
  refine pm_main (Y := ie_X12_braking.1) rfl (Nat.le_of_ble_eq_true rfl) ?_
  exact pm_run ((pq_X12_braking_m  s l x y).symm.trans h) (pz_X12_braking hT) (pm_bks_ok pb_X12_braking) (pm_bks_ok pb_X12_braking _ _ rfl) (pm_ndb_ok rfl) (pj_as_all (p := pm_Ex 0 12126 ie_X12_braking.1 pm_rI lf a) (List.forall_mem_cons.mpr ⟨pu_X12_braking_25 _ (fun  s l x y h => pg_X12_braking_25 hT  s l x y _ h), (fun _ h => by cases h)⟩))
abbrev ph_X12_braking {A : Type} : List pj_V → pj_Z → (List pj_V → pj_Z → Option A) → Option A := fun st z K => pj_pr st 124 0 fun st => pj_ps st (pj_b (pf_X12_braking  z.1 z.2.1 z.2.2.1 z.2.2.2) fun r s l x y => K (pj_I r :: st) (s, l, x, y))
set_option maxRecDepth 100000 in
theorem pc_X12_braking {A : Type} {OK : A → Option Value → mj_M → Prop} {d j pc ix : Nat} {Y : mj_Y} {lf : pj_Z → mj_M} (hT : pj_Lt pj_TR lf) (hd : 1 ≤ d) (hl : mj_lk Y.2.2.2.2 pc = some (.invokevirtual ix, 3)) (hg : mj_pG ic_P j ix = some (12126, 0, some 12)) {lv : List (Nat × Value)} {st : List pj_V} {z : pj_Z} {K : List pj_V → pj_Z → Option A} {a : A} (hK : ∀ st z, K st z = some a → pj_Gd ic_P (mj_R ic_P d) j Y OK lf (pc + 3) lv (pj_es st) z a) (h : ph_X12_braking st z K = some a) : pj_Gd ic_P (mj_R ic_P d) j Y OK lf pc lv (pj_es st) z a := by
  obtain ⟨r0, e0, h⟩ := pj_pr_inv h
  obtain ⟨hs, h⟩ := pj_ps_inv h
  obtain ⟨q, hq, h⟩ := pj_b_inv h
  exact pm_cv (o := 124) hl hg [] rfl (by rw [e0]; rfl) hs (by decide) ((hT.2 124 _ rfl).1.2 z 0 (by decide)) (pm_rI q.1) hd (pm_X12_braking hT  z.1 z.2.1 z.2.2.1 z.2.2.2 q hq) rfl (hK _ _ h)
abbrev pe_X12_hold_55 (f : pj_F (Unit × pj_Z)) : pj_K (Unit × pj_Z) := fun lv st z => pj_xr lv 0 124 0 <| pj_pe st (f  z.1 z.2.1 z.2.2.1 z.2.2.2)
abbrev pe_X12_hold_60 (f : pj_F (Unit × pj_Z)) : pj_K (Unit × pj_Z) := fun lv st z => pj_xr lv 0 124 0 <| pj_pe st (f  z.1 z.2.1 z.2.2.1 z.2.2.2)
abbrev px_X12_hold : pj_C (Unit × pj_Z) := ((pj_as [(124, 12, 195, 1, 0, true, 0, [(1, 1), (2, 125), (2, 126), (2, 127), (2, 128), (2, 129), (2, 130), (2, 131), (2, 132), (2, 133), (1, 2), (0, 44), (2, 134), (2, 135), (2, 136), (2, 137), (2, 138), (0, 69), (2, 139), (2, 140), (2, 141), (1, 3), (0, 93), (0, 94), (0, 45), (0, 46), (0, 48), (0, 49), (0, 47), (0, 50), (0, 51), (2, 142), (2, 143), (2, 144), (0, 19), (1, 4), (1, 5), (1, 6), (0, 20), (0, 21), (0, 22), (0, 23), (0, 24), (0, 25), (0, 27), (0, 28), (1, 7), (1, 8), (1, 9), (1, 10), (1, 11), (0, 26), (2, 145), (2, 146), (2, 147), (2, 148), (2, 149), (2, 150), (2, 151), (2, 152), (2, 153), (2, 154), (2, 155), (2, 156), (2, 157), (2, 158), (2, 159), (0, 57), (0, 58), (0, 59), (0, 60), (2, 160), (2, 161), (2, 162), (2, 163), (1, 12), (1, 13), (0, 95), (0, 73), (0, 74), (0, 71), (0, 72), (0, 75), (0, 76), (0, 77), (0, 80), (0, 78), (0, 79), (1, 14), (0, 29), (0, 30), (0, 31), (0, 34), (0, 35), (0, 32), (0, 33), (0, 36), (0, 37), (0, 38), (0, 39), (0, 40), (1, 15), (1, 16), (0, 43), (0, 41), (0, 42), (2, 164), (0, 96), (0, 89), (0, 90), (0, 91), (0, 92), (2, 165), (2, 166), (2, 167), (2, 168), (2, 169), (2, 170), (2, 171), (2, 172), (0, 87), (2, 173), (0, 88), (2, 174), (0, 62), (1, 17), (0, 66), (0, 63), (0, 64), (0, 65), (0, 67), (1, 18), (0, 68), (2, 175), (1, 19), (0, 52), (0, 53), (0, 54), (0, 55), (2, 176), (0, 56), (0, 85), (0, 86), (0, 81), (0, 82), (0, 83), (0, 84), (2, 177), (2, 178), (2, 179), (1, 20), (2, 180), (0, 6), (0, 7), (0, 8), (0, 16), (0, 17), (0, 61), (0, 9), (0, 10), (1, 21), (1, 22), (0, 11), (0, 12), (0, 13), (0, 18), (0, 14), (0, 15), (2, 181), (0, 70), (1, 23), (2, 182), (2, 183), (0, 1), (1, 24), (2, 184), (2, 185), (1, 25), (0, 2), (2, 186), (2, 187), (1, 26), (2, 188), (2, 189), (1, 27), (1, 28), (2, 190), (2, 191), (1, 29), (0, 3), (2, 192), (0, 4), (0, 5), (1, 30), (2, 193)])]), (pj_as [(363, 12, 143, 0, false), (366, 12, 144, 0, false), (369, 12, 145, 0, false), (372, 12, 146, 0, false), (456, 12, 89, 3, false), (477, 12, 96, 3, false), (519, 12, 23, 0, false), (984, 12, 136, 0, false), (990, 12, 135, 0, false)]), (fun _ => none), (pj_as [(671, 8), (702, 4), (730, 16000), (732, 16), (1003, 800)]), (fun _ => none), ic_X, 2, 0, pj_mU, (pj_as [(35, ph_X12_braking), (89, ph_X12_down), (97, ph_X12_cutTo), (110, ph_X12_down), (121, ph_X12_down), (129, ph_X12_cutTo)]), fun _ => false)
abbrev pk_X12_hold : List (Nat × List (Nat × Instr × Nat)) := [(0, [(0, .aload_n 0, 1), (1, .getfield 363, 3), (4, .iconst 2, 1), (5, .if_icmp .ne 55, 3)]), (8, [(8, .aload_n 0, 1), (9, .getfield 519, 3), (12, .iconst 1, 1), (13, .if_icmp .ne 42, 3)]), (16, [(16, .aload_n 0, 1), (17, .getfield 990, 3), (20, .sipush 2500, 3), (23, .if_icmp .lt 32, 3)]), (26, [(26, .aload_n 0, 1), (27, .getfield 984, 3), (30, .iconst 3, 1), (31, .if_icmp .lt 24, 3)]), (34, [(34, .aload_n 0, 1), (35, .invokevirtual 1000, 3), (38, .ifCond .ne 17, 3)]), (41, [(41, .aload_n 0, 1), (42, .getfield 456, 3), (45, .ifCond .ne 10, 3)]), (48, [(48, .aload_n 0, 1), (49, .getfield 477, 3), (52, .ifCond .eq 8, 3)]), (55, [(55, .aload_n 0, 1), (56, .iconst 1, 1), (57, .putfield 363, 3)]), (60, [(60, .aload_n 0, 1), (61, .getfield 363, 3), (64, .iconst 2, 1), (65, .if_icmp .ne 74, 3)]), (68, [(68, .aload_n 0, 1), (69, .getfield 366, 3), (72, .aload_n 0, 1), (73, .getfield 990, 3), (76, .isub, 1), (77, .istore_n 1, 1), (78, .aload_n 0, 1), (79, .aload_n 0, 1), (80, .getfield 369, 3), (83, .i2l, 1), (84, .iload_n 1, 1), (85, .i2l, 1), (86, .ldc2_w 671, 3), (89, .invokestatic 622, 3), (92, .ladd, 1), (93, .lconst 0, 1), (94, .ldc2_w 730, 3), (97, .invokestatic 576, 3), (100, .l2i, 1), (101, .putfield 369, 3), (104, .aload_n 0, 1), (105, .iload_n 1, 1), (106, .i2l, 1), (107, .ldc2_w 702, 3), (110, .invokestatic 622, 3), (113, .aload_n 0, 1), (114, .getfield 369, 3), (117, .i2l, 1), (118, .ldc2_w 732, 3), (121, .invokestatic 622, 3), (124, .ladd, 1), (125, .lconst 0, 1), (126, .ldc2_w 1003, 3), (129, .invokestatic 576, 3), (132, .l2i, 1), (133, .putfield 372, 3), (136, .goto 13, 3)]), (139, [(139, .aload_n 0, 1), (140, .iconst 0, 1), (141, .putfield 369, 3), (144, .aload_n 0, 1), (145, .iconst 0, 1), (146, .putfield 372, 3)]), (149, [(149, .return_, 1)])]
set_option maxRecDepth 100000 in
theorem pq_X12_hold_60   (s : Nat → Int32) (l : Nat → Int64) (x : Nat → Int32) (y : Nat → Int64) : pl_X12_hold_60 s l x y = pj_bl px_X12_hold (pj_rn px_X12_hold (pj_as pk_X12_hold) (fun _ => none) 60) [(60, .aload_n 0, 1), (61, .getfield 363, 3), (64, .iconst 2, 1), (65, .if_icmp .ne 74, 3)] 60 [(0, pj_O (124, 0))] [] (s, l, x, y) := rfl
set_option maxRecDepth 100000 in
theorem pq_X12_hold_55   (s : Nat → Int32) (l : Nat → Int64) (x : Nat → Int32) (y : Nat → Int64) : pl_X12_hold_55 s l x y = pj_bl px_X12_hold (pj_rn px_X12_hold (pj_as pk_X12_hold) (pj_as [(60, pe_X12_hold_60 (pl_X12_hold_60))]) 60) [(55, .aload_n 0, 1), (56, .iconst 1, 1), (57, .putfield 363, 3)] 55 [(0, pj_O (124, 0))] [] (s, l, x, y) := rfl
set_option maxRecDepth 100000 in
theorem pq_X12_hold_m   (s : Nat → Int32) (l : Nat → Int64) (x : Nat → Int32) (y : Nat → Int64) : pf_X12_hold  s l x y = pj_bl px_X12_hold (pj_rn px_X12_hold (pj_as pk_X12_hold) (pj_as [(55, pe_X12_hold_55 (pl_X12_hold_55)), (60, pe_X12_hold_60 (pl_X12_hold_60))]) 60) [(0, .aload_n 0, 1), (1, .getfield 363, 3), (4, .iconst 2, 1), (5, .if_icmp .ne 55, 3)] 0 [(0, pj_O (124, 0))] [] (s, l, x, y) := rfl
theorem pu_X12_hold_55 {lf : pj_Z → mj_M} {a : Unit × pj_Z} (f : pj_F (Unit × pj_Z)) (hf : ∀  (s : Nat → Int32) (l : Nat → Int64) (x : Nat → Int32) (y : Nat → Int64), f  s l x y = some a → pm_Gd 1 12128 ie_X12_hold.1 pm_rU lf 55 [(0, .ref 124)] [] (s, l, x, y) a) : pm_Ex 1 12128 ie_X12_hold.1 pm_rU lf a 55 (pe_X12_hold_55 f) := by
  intro lv st z hd h
  obtain ⟨g0, h⟩ := pj_xr_inv h
  obtain ⟨e9, h⟩ := pj_pe_inv h
  rw [e9]
  exact mj_wp_sub (mj_sub_cons g0 (mj_sub_nil hd)) (hf  _ _ _ _ h)
theorem pu_X12_hold_60 {lf : pj_Z → mj_M} {a : Unit × pj_Z} (f : pj_F (Unit × pj_Z)) (hf : ∀  (s : Nat → Int32) (l : Nat → Int64) (x : Nat → Int32) (y : Nat → Int64), f  s l x y = some a → pm_Gd 1 12128 ie_X12_hold.1 pm_rU lf 60 [(0, .ref 124)] [] (s, l, x, y) a) : pm_Ex 1 12128 ie_X12_hold.1 pm_rU lf a 60 (pe_X12_hold_60 f) := by
  intro lv st z hd h
  obtain ⟨g0, h⟩ := pj_xr_inv h
  obtain ⟨e9, h⟩ := pj_pe_inv h
  rw [e9]
  exact mj_wp_sub (mj_sub_cons g0 (mj_sub_nil hd)) (hf  _ _ _ _ h)
set_option maxRecDepth 100000 in
theorem pz_X12_hold {lf : pj_Z → mj_M} (hT : pj_Lt pj_TR lf) : pj_Cok ic_P (mj_R ic_P 1) 12128 ie_X12_hold.1 (pm_OK lf pm_rU) lf px_X12_hold := by
  exact pm_cok (c := px_X12_hold) (pm_part hT (pj_as_all (p := fun b e => pj_TR b = some e) (List.forall_mem_cons.mpr ⟨rfl, (fun _ h => by cases h)⟩))) (pm_in_ok (L := [(363, 12, 143, 0, false), (366, 12, 144, 0, false), (369, 12, 145, 0, false), (372, 12, 146, 0, false), (456, 12, 89, 3, false), (477, 12, 96, 3, false), (519, 12, 23, 0, false), (984, 12, 136, 0, false), (990, 12, 135, 0, false)]) (f := mj_pF ic_P 12128) (by decide +kernel)) (fun _ _ h => by cases h) (pm_inL_ok (L := [(671, 8), (702, 4), (730, 16000), (732, 16), (1003, 800)]) (f := mj_pL ic_P 12128) (by decide +kernel)) (fun _ _ h => by cases h) rfl rfl ⟨by decide, rfl⟩ pm_mU (pj_as_all (p := pm_Cl 1 12128 ie_X12_hold.1 lf (pm_OK lf pm_rU)) (List.forall_mem_cons.mpr ⟨fun _ _ lv st z K a hK h => pc_X12_braking hT (by decide) (ix := 1000) rfl rfl hK h, (List.forall_mem_cons.mpr ⟨fun _ _ lv st z K a hK h => pc_X12_down hT (by decide) (ix := 622) rfl rfl hK h, (List.forall_mem_cons.mpr ⟨fun _ _ lv st z K a hK h => pc_X12_cutTo hT (by decide) (ix := 576) rfl rfl hK h, (List.forall_mem_cons.mpr ⟨fun _ _ lv st z K a hK h => pc_X12_down hT (by decide) (ix := 622) rfl rfl hK h, (List.forall_mem_cons.mpr ⟨fun _ _ lv st z K a hK h => pc_X12_down hT (by decide) (ix := 622) rfl rfl hK h, (List.forall_mem_cons.mpr ⟨fun _ _ lv st z K a hK h => pc_X12_cutTo hT (by decide) (ix := 576) rfl rfl hK h, (fun _ h => by cases h)⟩)⟩)⟩)⟩)⟩)⟩)) (fun _ h => by cases h)
set_option maxRecDepth 100000 in
theorem pb_X12_hold : pm_bks ie_X12_hold.1.2.2.2.2 pk_X12_hold = true := by decide +kernel
set_option maxRecDepth 100000 in
theorem pg_X12_hold_60 {lf : pj_Z → mj_M} (hT : pj_Lt pj_TR lf) : ∀  (s : Nat → Int32) (l : Nat → Int64) (x : Nat → Int32) (y : Nat → Int64) (a : Unit × pj_Z), pl_X12_hold_60 s l x y = some a → pm_Gd 1 12128 ie_X12_hold.1 pm_rU lf 60 [(0, .ref 124)] [] (s, l, x, y) a := by
  intro  s l x y a h
  exact pm_run ((pq_X12_hold_60   s l x y).symm.trans h) (pz_X12_hold hT) (pm_bks_ok pb_X12_hold) (pm_bks_ok pb_X12_hold _ _ rfl) (pm_ndb_ok rfl) (fun _ _ h => by cases h)
set_option maxRecDepth 100000 in
theorem pg_X12_hold_55 {lf : pj_Z → mj_M} (hT : pj_Lt pj_TR lf) : ∀  (s : Nat → Int32) (l : Nat → Int64) (x : Nat → Int32) (y : Nat → Int64) (a : Unit × pj_Z), pl_X12_hold_55 s l x y = some a → pm_Gd 1 12128 ie_X12_hold.1 pm_rU lf 55 [(0, .ref 124)] [] (s, l, x, y) a := by
  intro  s l x y a h
  exact pm_run ((pq_X12_hold_55   s l x y).symm.trans h) (pz_X12_hold hT) (pm_bks_ok pb_X12_hold) (pm_bks_ok pb_X12_hold _ _ rfl) (pm_ndb_ok rfl) (pj_as_all (p := pm_Ex 1 12128 ie_X12_hold.1 pm_rU lf a) (List.forall_mem_cons.mpr ⟨pu_X12_hold_60 _ (fun  s l x y h => pg_X12_hold_60 hT  s l x y _ h), (fun _ h => by cases h)⟩))
set_option maxRecDepth 100000 in
theorem pm_X12_hold {lf : pj_Z → mj_M} (hT : pj_Lt pj_TR lf)  (s : Nat → Int32) (l : Nat → Int64) (x : Nat → Int32) (y : Nat → Int64) (a : Unit × pj_Z) (h : pf_X12_hold  s l x y = some a) : mj_R ic_P 2 12128 [.ref 124] (lf (s, l, x, y)) (pm_rU a.1) (lf a.2) := by
  refine pm_main (Y := ie_X12_hold.1) rfl (Nat.le_of_ble_eq_true rfl) ?_
  exact pm_run ((pq_X12_hold_m  s l x y).symm.trans h) (pz_X12_hold hT) (pm_bks_ok pb_X12_hold) (pm_bks_ok pb_X12_hold _ _ rfl) (pm_ndb_ok rfl) (pj_as_all (p := pm_Ex 1 12128 ie_X12_hold.1 pm_rU lf a) (List.forall_mem_cons.mpr ⟨pu_X12_hold_55 _ (fun  s l x y h => pg_X12_hold_55 hT  s l x y _ h), (List.forall_mem_cons.mpr ⟨pu_X12_hold_60 _ (fun  s l x y h => pg_X12_hold_60 hT  s l x y _ h), (fun _ h => by cases h)⟩)⟩))
abbrev ph_X12_hold {A : Type} : List pj_V → pj_Z → (List pj_V → pj_Z → Option A) → Option A := fun st z K => pj_pr st 124 0 fun st => pj_ps st (pj_b (pf_X12_hold  z.1 z.2.1 z.2.2.1 z.2.2.2) fun r s l x y => K st (s, l, x, y))
set_option maxRecDepth 100000 in
theorem pc_X12_hold {A : Type} {OK : A → Option Value → mj_M → Prop} {d j pc ix : Nat} {Y : mj_Y} {lf : pj_Z → mj_M} (hT : pj_Lt pj_TR lf) (hd : 2 ≤ d) (hl : mj_lk Y.2.2.2.2 pc = some (.invokevirtual ix, 3)) (hg : mj_pG ic_P j ix = some (12128, 0, some 12)) {lv : List (Nat × Value)} {st : List pj_V} {z : pj_Z} {K : List pj_V → pj_Z → Option A} {a : A} (hK : ∀ st z, K st z = some a → pj_Gd ic_P (mj_R ic_P d) j Y OK lf (pc + 3) lv (pj_es st) z a) (h : ph_X12_hold st z K = some a) : pj_Gd ic_P (mj_R ic_P d) j Y OK lf pc lv (pj_es st) z a := by
  obtain ⟨r0, e0, h⟩ := pj_pr_inv h
  obtain ⟨hs, h⟩ := pj_ps_inv h
  obtain ⟨q, hq, h⟩ := pj_b_inv h
  exact pm_cv (o := 124) hl hg [] rfl (by rw [e0]; rfl) hs (by decide) ((hT.2 124 _ rfl).1.2 z 0 (by decide)) (pm_rU q.1) hd (pm_X12_hold hT  z.1 z.2.1 z.2.2.1 z.2.2.2 q hq) rfl (hK _ _ h)
abbrev pe_X12_drive_95 (f : pj_F (Unit × pj_Z)) : pj_K (Unit × pj_Z) := fun lv st z => pj_xr lv 0 124 0 <| pj_pe st (f  z.1 z.2.1 z.2.2.1 z.2.2.2)
abbrev pe_X12_drive_113 (f : Int32 → pj_F (Unit × pj_Z)) : pj_K (Unit × pj_Z) := fun lv st z => pj_xr lv 0 124 0 <| pj_pi st fun b1 st => pj_pr st 124 0 fun st => pj_pe st (f b1 z.1 z.2.1 z.2.2.1 z.2.2.2)
abbrev pe_X12_drive_116 (f : pj_F (Unit × pj_Z)) : pj_K (Unit × pj_Z) := fun lv st z => pj_xr lv 0 124 0 <| pj_pe st (f  z.1 z.2.1 z.2.2.1 z.2.2.2)
abbrev pe_X12_drive_143 (f : pj_F (Unit × pj_Z)) : pj_K (Unit × pj_Z) := fun lv st z => pj_xr lv 0 124 0 <| pj_pr st 124 0 fun st => pj_pe st (f  z.1 z.2.1 z.2.2.1 z.2.2.2)
abbrev pe_X12_drive_148 (f : Int32 → pj_F (Unit × pj_Z)) : pj_K (Unit × pj_Z) := fun lv st z => pj_xr lv 0 124 0 <| pj_pi st fun b1 st => pj_pr st 124 0 fun st => pj_pe st (f b1 z.1 z.2.1 z.2.2.1 z.2.2.2)
abbrev pe_X12_drive_202 (f : Int32 → Int32 → pj_F (Unit × pj_Z)) : pj_K (Unit × pj_Z) := fun lv st z => pj_xr lv 0 124 0 <| pj_pi st fun b2 st => pj_pi st fun b1 st => pj_pr st 124 0 fun st => pj_pe st (f b1 b2 z.1 z.2.1 z.2.2.1 z.2.2.2)
abbrev pe_X12_drive_227 (f : Int32 → pj_F (Unit × pj_Z)) : pj_K (Unit × pj_Z) := fun lv st z => pj_xr lv 0 124 0 <| pj_pi st fun b1 st => pj_pr st 124 0 fun st => pj_pe st (f b1 z.1 z.2.1 z.2.2.1 z.2.2.2)
abbrev pe_X12_drive_253 (f : Int32 → pj_F (Unit × pj_Z)) : pj_K (Unit × pj_Z) := fun lv st z => pj_xr lv 0 124 0 <| pj_pi st fun b1 st => pj_pr st 124 0 fun st => pj_pe st (f b1 z.1 z.2.1 z.2.2.1 z.2.2.2)
abbrev px_X12_drive : pj_C (Unit × pj_Z) := ((pj_as [(124, 12, 195, 1, 0, true, 0, [(1, 1), (2, 125), (2, 126), (2, 127), (2, 128), (2, 129), (2, 130), (2, 131), (2, 132), (2, 133), (1, 2), (0, 44), (2, 134), (2, 135), (2, 136), (2, 137), (2, 138), (0, 69), (2, 139), (2, 140), (2, 141), (1, 3), (0, 93), (0, 94), (0, 45), (0, 46), (0, 48), (0, 49), (0, 47), (0, 50), (0, 51), (2, 142), (2, 143), (2, 144), (0, 19), (1, 4), (1, 5), (1, 6), (0, 20), (0, 21), (0, 22), (0, 23), (0, 24), (0, 25), (0, 27), (0, 28), (1, 7), (1, 8), (1, 9), (1, 10), (1, 11), (0, 26), (2, 145), (2, 146), (2, 147), (2, 148), (2, 149), (2, 150), (2, 151), (2, 152), (2, 153), (2, 154), (2, 155), (2, 156), (2, 157), (2, 158), (2, 159), (0, 57), (0, 58), (0, 59), (0, 60), (2, 160), (2, 161), (2, 162), (2, 163), (1, 12), (1, 13), (0, 95), (0, 73), (0, 74), (0, 71), (0, 72), (0, 75), (0, 76), (0, 77), (0, 80), (0, 78), (0, 79), (1, 14), (0, 29), (0, 30), (0, 31), (0, 34), (0, 35), (0, 32), (0, 33), (0, 36), (0, 37), (0, 38), (0, 39), (0, 40), (1, 15), (1, 16), (0, 43), (0, 41), (0, 42), (2, 164), (0, 96), (0, 89), (0, 90), (0, 91), (0, 92), (2, 165), (2, 166), (2, 167), (2, 168), (2, 169), (2, 170), (2, 171), (2, 172), (0, 87), (2, 173), (0, 88), (2, 174), (0, 62), (1, 17), (0, 66), (0, 63), (0, 64), (0, 65), (0, 67), (1, 18), (0, 68), (2, 175), (1, 19), (0, 52), (0, 53), (0, 54), (0, 55), (2, 176), (0, 56), (0, 85), (0, 86), (0, 81), (0, 82), (0, 83), (0, 84), (2, 177), (2, 178), (2, 179), (1, 20), (2, 180), (0, 6), (0, 7), (0, 8), (0, 16), (0, 17), (0, 61), (0, 9), (0, 10), (1, 21), (1, 22), (0, 11), (0, 12), (0, 13), (0, 18), (0, 14), (0, 15), (2, 181), (0, 70), (1, 23), (2, 182), (2, 183), (0, 1), (1, 24), (2, 184), (2, 185), (1, 25), (0, 2), (2, 186), (2, 187), (1, 26), (2, 188), (2, 189), (1, 27), (1, 28), (2, 190), (2, 191), (1, 29), (0, 3), (2, 192), (0, 4), (0, 5), (1, 30), (2, 193)]), (127, 100, 24, 1, 0, true, 10000, []), (191, 100, 4, 1, 0, true, 2000, [])]), (pj_as [(19, 12, 3, 2, true), (142, 12, 88, 3, false), (197, 12, 158, 0, false), (236, 12, 187, 2, true), (262, 12, 34, 0, false), (372, 12, 146, 0, false), (432, 12, 80, 0, false), (435, 12, 81, 0, false), (441, 12, 83, 0, false), (444, 12, 84, 0, false), (447, 12, 85, 0, false), (450, 12, 86, 0, false), (453, 12, 87, 0, false), (456, 12, 89, 3, false), (477, 12, 96, 3, false), (519, 12, 23, 0, false)]), (fun _ => none), (pj_as [(612, 200), (687, 1000), (719, (-200)), (721, 32), (723, 250), (728, (-16000)), (730, 16000), (732, 16), (734, (-1000))]), (fun _ => none), ic_X, 1, 0, pj_mU, (pj_as [(64, ph_X12_cutTo), (69, ph_X12_speed), (77, ph_X12_down), (85, ph_X12_cutTo), (117, ph_X12_hold), (294, ph_X12_cutTo), (323, ph_X12_down), (333, ph_X12_cutTo)]), fun _ => false)
abbrev pk_X12_drive : List (Nat × List (Nat × Instr × Nat)) := [(0, [(0, .aload_n 0, 1), (1, .getfield 519, 3), (4, .iconst 1, 1), (5, .if_icmp .ne 90, 3)]), (8, [(8, .aload_n 0, 1), (9, .getfield 432, 3), (12, .aload_n 0, 1), (13, .getfield 19, 3), (16, .bipush 23, 2), (18, .iaload, 1), (19, .if_icmp .gt 76, 3)]), (22, [(22, .aload_n 0, 1), (23, .getfield 262, 3), (26, .iconst 2, 1), (27, .if_icmp .lt 68, 3)]), (30, [(30, .aload_n 0, 1), (31, .getfield 456, 3), (34, .ifCond .ne 61, 3)]), (37, [(37, .aload_n 0, 1), (38, .aload_n 0, 1), (39, .getfield 441, 3), (42, .i2l, 1), (43, .aload_n 0, 1), (44, .getfield 19, 3), (47, .bipush 9, 2), (49, .iaload, 1), (50, .i2l, 1), (51, .aload_n 0, 1), (52, .getfield 236, 3), (55, .iconst 0, 1), (56, .iaload, 1), (57, .i2l, 1), (58, .ldc2_w 719, 3), (61, .ldc2_w 612, 3), (64, .invokestatic 576, 3), (67, .ladd, 1), (68, .aload_n 0, 1), (69, .invokevirtual 632, 3), (72, .i2l, 1), (73, .lsub, 1), (74, .ldc2_w 721, 3), (77, .invokestatic 622, 3), (80, .ladd, 1), (81, .lconst 0, 1), (82, .ldc2_w 723, 3), (85, .invokestatic 576, 3), (88, .l2i, 1), (89, .putfield 441, 3), (92, .goto 24, 3)]), (95, [(95, .aload_n 0, 1), (96, .aload_n 0, 1), (97, .getfield 441, 3), (100, .ifCond .le 12, 3)]), (103, [(103, .aload_n 0, 1), (104, .getfield 441, 3), (107, .iconst 1, 1), (108, .isub, 1), (109, .goto 4, 3)]), (112, [(112, .iconst 0, 1)]), (113, [(113, .putfield 441, 3)]), (116, [(116, .aload_n 0, 1), (117, .invokevirtual 725, 3), (120, .aload_n 0, 1), (121, .aload_n 0, 1), (122, .getfield 456, 3), (125, .ifCond .ne 18, 3)]), (128, [(128, .aload_n 0, 1), (129, .getfield 477, 3), (132, .ifCond .ne 11, 3)]), (135, [(135, .aload_n 0, 1), (136, .getfield 519, 3), (139, .iconst 1, 1), (140, .if_icmp .eq 7, 3)]), (143, [(143, .iconst 1, 1), (144, .goto 4, 3)]), (147, [(147, .iconst 0, 1)]), (148, [(148, .putfield 142, 3), (151, .aload_n 0, 1), (152, .getfield 142, 3), (155, .ifCond .eq 20, 3)]), (158, [(158, .aload_n 0, 1), (159, .bipush 60, 2), (161, .putfield 444, 3), (164, .aload_n 0, 1), (165, .iconst 0, 1), (166, .putfield 450, 3), (169, .aload_n 0, 1), (170, .iconst 0, 1), (171, .putfield 453, 3), (174, .return_, 1)]), (175, [(175, .aload_n 0, 1), (176, .aload_n 0, 1), (177, .getfield 441, 3), (180, .aload_n 0, 1), (181, .getfield 432, 3), (184, .aload_n 0, 1), (185, .getfield 372, 3), (188, .if_icmp .le 10, 3)]), (191, [(191, .aload_n 0, 1), (192, .getfield 432, 3), (195, .goto 7, 3)]), (198, [(198, .aload_n 0, 1), (199, .getfield 372, 3)]), (202, [(202, .iadd, 1), (203, .putfield 444, 3), (206, .aload_n 0, 1), (207, .aload_n 0, 1), (208, .getfield 444, 3), (211, .sipush 1000, 3), (214, .if_icmp .le 9, 3)]), (217, [(217, .sipush 1000, 3), (220, .goto 7, 3)]), (223, [(223, .aload_n 0, 1), (224, .getfield 444, 3)]), (227, [(227, .putfield 444, 3), (230, .aload_n 0, 1), (231, .aload_n 0, 1), (232, .getfield 444, 3), (235, .aload_n 0, 1), (236, .getfield 197, 3), (239, .if_icmp .le 10, 3)]), (242, [(242, .aload_n 0, 1), (243, .getfield 197, 3), (246, .goto 7, 3)]), (249, [(249, .aload_n 0, 1), (250, .getfield 444, 3)]), (253, [(253, .putfield 444, 3), (256, .aload_n 0, 1), (257, .aload_n 0, 1), (258, .getfield 444, 3), (261, .aload_n 0, 1), (262, .getfield 435, 3), (265, .isub, 1), (266, .putfield 447, 3), (269, .aload_n 0, 1), (270, .aload_n 0, 1), (271, .getfield 453, 3), (274, .aload_n 0, 1), (275, .getfield 447, 3), (278, .aload_n 0, 1), (279, .getfield 19, 3), (282, .bipush 17, 2), (284, .iaload, 1), (285, .imul, 1), (286, .iadd, 1), (287, .i2l, 1), (288, .ldc2_w 728, 3), (291, .ldc2_w 730, 3), (294, .invokestatic 576, 3), (297, .l2i, 1), (298, .putfield 453, 3), (301, .aload_n 0, 1), (302, .aload_n 0, 1), (303, .getfield 447, 3), (306, .aload_n 0, 1), (307, .getfield 19, 3), (310, .bipush 16, 2), (312, .iaload, 1), (313, .imul, 1), (314, .i2l, 1), (315, .aload_n 0, 1), (316, .getfield 453, 3), (319, .i2l, 1), (320, .ldc2_w 732, 3), (323, .invokestatic 622, 3), (326, .ladd, 1), (327, .ldc2_w 734, 3), (330, .ldc2_w 687, 3), (333, .invokestatic 576, 3), (336, .l2i, 1), (337, .putfield 450, 3), (340, .return_, 1)])]
set_option maxRecDepth 100000 in
theorem pq_X12_drive_253  (b1 : Int32) (s : Nat → Int32) (l : Nat → Int64) (x : Nat → Int32) (y : Nat → Int64) : pl_X12_drive_253 b1 s l x y = pj_bl px_X12_drive (pj_rn px_X12_drive (pj_as pk_X12_drive) (fun _ => none) 60) [(253, .putfield 444, 3), (256, .aload_n 0, 1), (257, .aload_n 0, 1), (258, .getfield 444, 3), (261, .aload_n 0, 1), (262, .getfield 435, 3), (265, .isub, 1), (266, .putfield 447, 3), (269, .aload_n 0, 1), (270, .aload_n 0, 1), (271, .getfield 453, 3), (274, .aload_n 0, 1), (275, .getfield 447, 3), (278, .aload_n 0, 1), (279, .getfield 19, 3), (282, .bipush 17, 2), (284, .iaload, 1), (285, .imul, 1), (286, .iadd, 1), (287, .i2l, 1), (288, .ldc2_w 728, 3), (291, .ldc2_w 730, 3), (294, .invokestatic 576, 3), (297, .l2i, 1), (298, .putfield 453, 3), (301, .aload_n 0, 1), (302, .aload_n 0, 1), (303, .getfield 447, 3), (306, .aload_n 0, 1), (307, .getfield 19, 3), (310, .bipush 16, 2), (312, .iaload, 1), (313, .imul, 1), (314, .i2l, 1), (315, .aload_n 0, 1), (316, .getfield 453, 3), (319, .i2l, 1), (320, .ldc2_w 732, 3), (323, .invokestatic 622, 3), (326, .ladd, 1), (327, .ldc2_w 734, 3), (330, .ldc2_w 687, 3), (333, .invokestatic 576, 3), (336, .l2i, 1), (337, .putfield 450, 3), (340, .return_, 1)] 253 [(0, pj_O (124, 0))] [pj_I b1, pj_O (124, 0)] (s, l, x, y) := rfl
set_option maxRecDepth 100000 in
theorem pq_X12_drive_227  (b1 : Int32) (s : Nat → Int32) (l : Nat → Int64) (x : Nat → Int32) (y : Nat → Int64) : pl_X12_drive_227 b1 s l x y = pj_bl px_X12_drive (pj_rn px_X12_drive (pj_as pk_X12_drive) (pj_as [(253, pe_X12_drive_253 (pl_X12_drive_253))]) 60) [(227, .putfield 444, 3), (230, .aload_n 0, 1), (231, .aload_n 0, 1), (232, .getfield 444, 3), (235, .aload_n 0, 1), (236, .getfield 197, 3), (239, .if_icmp .le 10, 3)] 227 [(0, pj_O (124, 0))] [pj_I b1, pj_O (124, 0)] (s, l, x, y) := rfl
set_option maxRecDepth 100000 in
theorem pq_X12_drive_202  (b1 : Int32) (b2 : Int32) (s : Nat → Int32) (l : Nat → Int64) (x : Nat → Int32) (y : Nat → Int64) : pl_X12_drive_202 b1 b2 s l x y = pj_bl px_X12_drive (pj_rn px_X12_drive (pj_as pk_X12_drive) (pj_as [(227, pe_X12_drive_227 (pl_X12_drive_227))]) 60) [(202, .iadd, 1), (203, .putfield 444, 3), (206, .aload_n 0, 1), (207, .aload_n 0, 1), (208, .getfield 444, 3), (211, .sipush 1000, 3), (214, .if_icmp .le 9, 3)] 202 [(0, pj_O (124, 0))] [pj_I b2, pj_I b1, pj_O (124, 0)] (s, l, x, y) := rfl
set_option maxRecDepth 100000 in
theorem pq_X12_drive_148  (b1 : Int32) (s : Nat → Int32) (l : Nat → Int64) (x : Nat → Int32) (y : Nat → Int64) : pl_X12_drive_148 b1 s l x y = pj_bl px_X12_drive (pj_rn px_X12_drive (pj_as pk_X12_drive) (pj_as [(202, pe_X12_drive_202 (pl_X12_drive_202))]) 60) [(148, .putfield 142, 3), (151, .aload_n 0, 1), (152, .getfield 142, 3), (155, .ifCond .eq 20, 3)] 148 [(0, pj_O (124, 0))] [pj_I b1, pj_O (124, 0)] (s, l, x, y) := rfl
set_option maxRecDepth 100000 in
theorem pq_X12_drive_143   (s : Nat → Int32) (l : Nat → Int64) (x : Nat → Int32) (y : Nat → Int64) : pl_X12_drive_143 s l x y = pj_bl px_X12_drive (pj_rn px_X12_drive (pj_as pk_X12_drive) (pj_as [(148, pe_X12_drive_148 (pl_X12_drive_148))]) 60) [(143, .iconst 1, 1), (144, .goto 4, 3)] 143 [(0, pj_O (124, 0))] [pj_O (124, 0)] (s, l, x, y) := rfl
set_option maxRecDepth 100000 in
theorem pq_X12_drive_116   (s : Nat → Int32) (l : Nat → Int64) (x : Nat → Int32) (y : Nat → Int64) : pl_X12_drive_116 s l x y = pj_bl px_X12_drive (pj_rn px_X12_drive (pj_as pk_X12_drive) (pj_as [(143, pe_X12_drive_143 (pl_X12_drive_143)), (148, pe_X12_drive_148 (pl_X12_drive_148))]) 60) [(116, .aload_n 0, 1), (117, .invokevirtual 725, 3), (120, .aload_n 0, 1), (121, .aload_n 0, 1), (122, .getfield 456, 3), (125, .ifCond .ne 18, 3)] 116 [(0, pj_O (124, 0))] [] (s, l, x, y) := rfl
set_option maxRecDepth 100000 in
theorem pq_X12_drive_113  (b1 : Int32) (s : Nat → Int32) (l : Nat → Int64) (x : Nat → Int32) (y : Nat → Int64) : pl_X12_drive_113 b1 s l x y = pj_bl px_X12_drive (pj_rn px_X12_drive (pj_as pk_X12_drive) (pj_as [(116, pe_X12_drive_116 (pl_X12_drive_116))]) 60) [(113, .putfield 441, 3)] 113 [(0, pj_O (124, 0))] [pj_I b1, pj_O (124, 0)] (s, l, x, y) := rfl
set_option maxRecDepth 100000 in
theorem pq_X12_drive_95   (s : Nat → Int32) (l : Nat → Int64) (x : Nat → Int32) (y : Nat → Int64) : pl_X12_drive_95 s l x y = pj_bl px_X12_drive (pj_rn px_X12_drive (pj_as pk_X12_drive) (pj_as [(113, pe_X12_drive_113 (pl_X12_drive_113))]) 60) [(95, .aload_n 0, 1), (96, .aload_n 0, 1), (97, .getfield 441, 3), (100, .ifCond .le 12, 3)] 95 [(0, pj_O (124, 0))] [] (s, l, x, y) := rfl
set_option maxRecDepth 100000 in
theorem pq_X12_drive_m   (s : Nat → Int32) (l : Nat → Int64) (x : Nat → Int32) (y : Nat → Int64) : pf_X12_drive  s l x y = pj_bl px_X12_drive (pj_rn px_X12_drive (pj_as pk_X12_drive) (pj_as [(95, pe_X12_drive_95 (pl_X12_drive_95)), (116, pe_X12_drive_116 (pl_X12_drive_116))]) 60) [(0, .aload_n 0, 1), (1, .getfield 519, 3), (4, .iconst 1, 1), (5, .if_icmp .ne 90, 3)] 0 [(0, pj_O (124, 0))] [] (s, l, x, y) := rfl
theorem pu_X12_drive_95 {lf : pj_Z → mj_M} {a : Unit × pj_Z} (f : pj_F (Unit × pj_Z)) (hf : ∀  (s : Nat → Int32) (l : Nat → Int64) (x : Nat → Int32) (y : Nat → Int64), f  s l x y = some a → pm_Gd 2 12055 ie_X12_drive.1 pm_rU lf 95 [(0, .ref 124)] [] (s, l, x, y) a) : pm_Ex 2 12055 ie_X12_drive.1 pm_rU lf a 95 (pe_X12_drive_95 f) := by
  intro lv st z hd h
  obtain ⟨g0, h⟩ := pj_xr_inv h
  obtain ⟨e9, h⟩ := pj_pe_inv h
  rw [e9]
  exact mj_wp_sub (mj_sub_cons g0 (mj_sub_nil hd)) (hf  _ _ _ _ h)
theorem pu_X12_drive_113 {lf : pj_Z → mj_M} {a : Unit × pj_Z} (f : Int32 → pj_F (Unit × pj_Z)) (hf : ∀ (b1 : Int32) (s : Nat → Int32) (l : Nat → Int64) (x : Nat → Int32) (y : Nat → Int64), f b1 s l x y = some a → pm_Gd 2 12055 ie_X12_drive.1 pm_rU lf 113 [(0, .ref 124)] [.int b1, .ref 124] (s, l, x, y) a) : pm_Ex 2 12055 ie_X12_drive.1 pm_rU lf a 113 (pe_X12_drive_113 f) := by
  intro lv st z hd h
  obtain ⟨g0, h⟩ := pj_xr_inv h
  obtain ⟨b1, r1, e1, h⟩ := pj_pi_inv h
  obtain ⟨r0, e0, h⟩ := pj_pr_inv h
  obtain ⟨e9, h⟩ := pj_pe_inv h
  rw [e1, e0, e9]
  exact mj_wp_sub (mj_sub_cons g0 (mj_sub_nil hd)) (hf _ _ _ _ _ h)
theorem pu_X12_drive_116 {lf : pj_Z → mj_M} {a : Unit × pj_Z} (f : pj_F (Unit × pj_Z)) (hf : ∀  (s : Nat → Int32) (l : Nat → Int64) (x : Nat → Int32) (y : Nat → Int64), f  s l x y = some a → pm_Gd 2 12055 ie_X12_drive.1 pm_rU lf 116 [(0, .ref 124)] [] (s, l, x, y) a) : pm_Ex 2 12055 ie_X12_drive.1 pm_rU lf a 116 (pe_X12_drive_116 f) := by
  intro lv st z hd h
  obtain ⟨g0, h⟩ := pj_xr_inv h
  obtain ⟨e9, h⟩ := pj_pe_inv h
  rw [e9]
  exact mj_wp_sub (mj_sub_cons g0 (mj_sub_nil hd)) (hf  _ _ _ _ h)
theorem pu_X12_drive_143 {lf : pj_Z → mj_M} {a : Unit × pj_Z} (f : pj_F (Unit × pj_Z)) (hf : ∀  (s : Nat → Int32) (l : Nat → Int64) (x : Nat → Int32) (y : Nat → Int64), f  s l x y = some a → pm_Gd 2 12055 ie_X12_drive.1 pm_rU lf 143 [(0, .ref 124)] [.ref 124] (s, l, x, y) a) : pm_Ex 2 12055 ie_X12_drive.1 pm_rU lf a 143 (pe_X12_drive_143 f) := by
  intro lv st z hd h
  obtain ⟨g0, h⟩ := pj_xr_inv h
  obtain ⟨r0, e0, h⟩ := pj_pr_inv h
  obtain ⟨e9, h⟩ := pj_pe_inv h
  rw [e0, e9]
  exact mj_wp_sub (mj_sub_cons g0 (mj_sub_nil hd)) (hf  _ _ _ _ h)
theorem pu_X12_drive_148 {lf : pj_Z → mj_M} {a : Unit × pj_Z} (f : Int32 → pj_F (Unit × pj_Z)) (hf : ∀ (b1 : Int32) (s : Nat → Int32) (l : Nat → Int64) (x : Nat → Int32) (y : Nat → Int64), f b1 s l x y = some a → pm_Gd 2 12055 ie_X12_drive.1 pm_rU lf 148 [(0, .ref 124)] [.int b1, .ref 124] (s, l, x, y) a) : pm_Ex 2 12055 ie_X12_drive.1 pm_rU lf a 148 (pe_X12_drive_148 f) := by
  intro lv st z hd h
  obtain ⟨g0, h⟩ := pj_xr_inv h
  obtain ⟨b1, r1, e1, h⟩ := pj_pi_inv h
  obtain ⟨r0, e0, h⟩ := pj_pr_inv h
  obtain ⟨e9, h⟩ := pj_pe_inv h
  rw [e1, e0, e9]
  exact mj_wp_sub (mj_sub_cons g0 (mj_sub_nil hd)) (hf _ _ _ _ _ h)
theorem pu_X12_drive_202 {lf : pj_Z → mj_M} {a : Unit × pj_Z} (f : Int32 → Int32 → pj_F (Unit × pj_Z)) (hf : ∀ (b1 : Int32) (b2 : Int32) (s : Nat → Int32) (l : Nat → Int64) (x : Nat → Int32) (y : Nat → Int64), f b1 b2 s l x y = some a → pm_Gd 2 12055 ie_X12_drive.1 pm_rU lf 202 [(0, .ref 124)] [.int b2, .int b1, .ref 124] (s, l, x, y) a) : pm_Ex 2 12055 ie_X12_drive.1 pm_rU lf a 202 (pe_X12_drive_202 f) := by
  intro lv st z hd h
  obtain ⟨g0, h⟩ := pj_xr_inv h
  obtain ⟨b2, r2, e2, h⟩ := pj_pi_inv h
  obtain ⟨b1, r1, e1, h⟩ := pj_pi_inv h
  obtain ⟨r0, e0, h⟩ := pj_pr_inv h
  obtain ⟨e9, h⟩ := pj_pe_inv h
  rw [e2, e1, e0, e9]
  exact mj_wp_sub (mj_sub_cons g0 (mj_sub_nil hd)) (hf _ _ _ _ _ _ h)
theorem pu_X12_drive_227 {lf : pj_Z → mj_M} {a : Unit × pj_Z} (f : Int32 → pj_F (Unit × pj_Z)) (hf : ∀ (b1 : Int32) (s : Nat → Int32) (l : Nat → Int64) (x : Nat → Int32) (y : Nat → Int64), f b1 s l x y = some a → pm_Gd 2 12055 ie_X12_drive.1 pm_rU lf 227 [(0, .ref 124)] [.int b1, .ref 124] (s, l, x, y) a) : pm_Ex 2 12055 ie_X12_drive.1 pm_rU lf a 227 (pe_X12_drive_227 f) := by
  intro lv st z hd h
  obtain ⟨g0, h⟩ := pj_xr_inv h
  obtain ⟨b1, r1, e1, h⟩ := pj_pi_inv h
  obtain ⟨r0, e0, h⟩ := pj_pr_inv h
  obtain ⟨e9, h⟩ := pj_pe_inv h
  rw [e1, e0, e9]
  exact mj_wp_sub (mj_sub_cons g0 (mj_sub_nil hd)) (hf _ _ _ _ _ h)
theorem pu_X12_drive_253 {lf : pj_Z → mj_M} {a : Unit × pj_Z} (f : Int32 → pj_F (Unit × pj_Z)) (hf : ∀ (b1 : Int32) (s : Nat → Int32) (l : Nat → Int64) (x : Nat → Int32) (y : Nat → Int64), f b1 s l x y = some a → pm_Gd 2 12055 ie_X12_drive.1 pm_rU lf 253 [(0, .ref 124)] [.int b1, .ref 124] (s, l, x, y) a) : pm_Ex 2 12055 ie_X12_drive.1 pm_rU lf a 253 (pe_X12_drive_253 f) := by
  intro lv st z hd h
  obtain ⟨g0, h⟩ := pj_xr_inv h
  obtain ⟨b1, r1, e1, h⟩ := pj_pi_inv h
  obtain ⟨r0, e0, h⟩ := pj_pr_inv h
  obtain ⟨e9, h⟩ := pj_pe_inv h
  rw [e1, e0, e9]
  exact mj_wp_sub (mj_sub_cons g0 (mj_sub_nil hd)) (hf _ _ _ _ _ h)
set_option maxRecDepth 100000 in
theorem pz_X12_drive {lf : pj_Z → mj_M} (hT : pj_Lt pj_TR lf) : pj_Cok ic_P (mj_R ic_P 2) 12055 ie_X12_drive.1 (pm_OK lf pm_rU) lf px_X12_drive := by
  exact pm_cok (c := px_X12_drive) (pm_part hT (pj_as_all (p := fun b e => pj_TR b = some e) (List.forall_mem_cons.mpr ⟨rfl, (List.forall_mem_cons.mpr ⟨rfl, (List.forall_mem_cons.mpr ⟨rfl, (fun _ h => by cases h)⟩)⟩)⟩))) (pm_in_ok (L := [(19, 12, 3, 2, true), (142, 12, 88, 3, false), (197, 12, 158, 0, false), (236, 12, 187, 2, true), (262, 12, 34, 0, false), (372, 12, 146, 0, false), (432, 12, 80, 0, false), (435, 12, 81, 0, false), (441, 12, 83, 0, false), (444, 12, 84, 0, false), (447, 12, 85, 0, false), (450, 12, 86, 0, false), (453, 12, 87, 0, false), (456, 12, 89, 3, false), (477, 12, 96, 3, false), (519, 12, 23, 0, false)]) (f := mj_pF ic_P 12055) (by decide +kernel)) (fun _ _ h => by cases h) (pm_inL_ok (L := [(612, 200), (687, 1000), (719, (-200)), (721, 32), (723, 250), (728, (-16000)), (730, 16000), (732, 16), (734, (-1000))]) (f := mj_pL ic_P 12055) (by decide +kernel)) (fun _ _ h => by cases h) rfl rfl ⟨by decide, rfl⟩ pm_mU (pj_as_all (p := pm_Cl 2 12055 ie_X12_drive.1 lf (pm_OK lf pm_rU)) (List.forall_mem_cons.mpr ⟨fun _ _ lv st z K a hK h => pc_X12_cutTo hT (by decide) (ix := 576) rfl rfl hK h, (List.forall_mem_cons.mpr ⟨fun _ _ lv st z K a hK h => pc_X12_speed hT (by decide) (ix := 632) rfl rfl hK h, (List.forall_mem_cons.mpr ⟨fun _ _ lv st z K a hK h => pc_X12_down hT (by decide) (ix := 622) rfl rfl hK h, (List.forall_mem_cons.mpr ⟨fun _ _ lv st z K a hK h => pc_X12_cutTo hT (by decide) (ix := 576) rfl rfl hK h, (List.forall_mem_cons.mpr ⟨fun _ _ lv st z K a hK h => pc_X12_hold hT (by decide) (ix := 725) rfl rfl hK h, (List.forall_mem_cons.mpr ⟨fun _ _ lv st z K a hK h => pc_X12_cutTo hT (by decide) (ix := 576) rfl rfl hK h, (List.forall_mem_cons.mpr ⟨fun _ _ lv st z K a hK h => pc_X12_down hT (by decide) (ix := 622) rfl rfl hK h, (List.forall_mem_cons.mpr ⟨fun _ _ lv st z K a hK h => pc_X12_cutTo hT (by decide) (ix := 576) rfl rfl hK h, (fun _ h => by cases h)⟩)⟩)⟩)⟩)⟩)⟩)⟩)⟩)) (fun _ h => by cases h)
set_option maxRecDepth 100000 in
theorem pb_X12_drive : pm_bks ie_X12_drive.1.2.2.2.2 pk_X12_drive = true := by decide +kernel
set_option maxRecDepth 100000 in
theorem pg_X12_drive_253 {lf : pj_Z → mj_M} (hT : pj_Lt pj_TR lf) : ∀ (b1 : Int32) (s : Nat → Int32) (l : Nat → Int64) (x : Nat → Int32) (y : Nat → Int64) (a : Unit × pj_Z), pl_X12_drive_253 b1 s l x y = some a → pm_Gd 2 12055 ie_X12_drive.1 pm_rU lf 253 [(0, .ref 124)] [.int b1, .ref 124] (s, l, x, y) a := by
  intro b1 s l x y a h
  exact pm_run ((pq_X12_drive_253  b1 s l x y).symm.trans h) (pz_X12_drive hT) (pm_bks_ok pb_X12_drive) (pm_bks_ok pb_X12_drive _ _ rfl) (pm_ndb_ok rfl) (fun _ _ h => by cases h)
set_option maxRecDepth 100000 in
theorem pg_X12_drive_227 {lf : pj_Z → mj_M} (hT : pj_Lt pj_TR lf) : ∀ (b1 : Int32) (s : Nat → Int32) (l : Nat → Int64) (x : Nat → Int32) (y : Nat → Int64) (a : Unit × pj_Z), pl_X12_drive_227 b1 s l x y = some a → pm_Gd 2 12055 ie_X12_drive.1 pm_rU lf 227 [(0, .ref 124)] [.int b1, .ref 124] (s, l, x, y) a := by
  intro b1 s l x y a h
  exact pm_run ((pq_X12_drive_227  b1 s l x y).symm.trans h) (pz_X12_drive hT) (pm_bks_ok pb_X12_drive) (pm_bks_ok pb_X12_drive _ _ rfl) (pm_ndb_ok rfl) (pj_as_all (p := pm_Ex 2 12055 ie_X12_drive.1 pm_rU lf a) (List.forall_mem_cons.mpr ⟨pu_X12_drive_253 _ (fun c0 s l x y h => pg_X12_drive_253 hT c0 s l x y _ h), (fun _ h => by cases h)⟩))
set_option maxRecDepth 100000 in
theorem pg_X12_drive_202 {lf : pj_Z → mj_M} (hT : pj_Lt pj_TR lf) : ∀ (b1 : Int32) (b2 : Int32) (s : Nat → Int32) (l : Nat → Int64) (x : Nat → Int32) (y : Nat → Int64) (a : Unit × pj_Z), pl_X12_drive_202 b1 b2 s l x y = some a → pm_Gd 2 12055 ie_X12_drive.1 pm_rU lf 202 [(0, .ref 124)] [.int b2, .int b1, .ref 124] (s, l, x, y) a := by
  intro b1 b2 s l x y a h
  exact pm_run ((pq_X12_drive_202  b1 b2 s l x y).symm.trans h) (pz_X12_drive hT) (pm_bks_ok pb_X12_drive) (pm_bks_ok pb_X12_drive _ _ rfl) (pm_ndb_ok rfl) (pj_as_all (p := pm_Ex 2 12055 ie_X12_drive.1 pm_rU lf a) (List.forall_mem_cons.mpr ⟨pu_X12_drive_227 _ (fun c0 s l x y h => pg_X12_drive_227 hT c0 s l x y _ h), (fun _ h => by cases h)⟩))
set_option maxRecDepth 100000 in
theorem pg_X12_drive_148 {lf : pj_Z → mj_M} (hT : pj_Lt pj_TR lf) : ∀ (b1 : Int32) (s : Nat → Int32) (l : Nat → Int64) (x : Nat → Int32) (y : Nat → Int64) (a : Unit × pj_Z), pl_X12_drive_148 b1 s l x y = some a → pm_Gd 2 12055 ie_X12_drive.1 pm_rU lf 148 [(0, .ref 124)] [.int b1, .ref 124] (s, l, x, y) a := by
  intro b1 s l x y a h
  exact pm_run ((pq_X12_drive_148  b1 s l x y).symm.trans h) (pz_X12_drive hT) (pm_bks_ok pb_X12_drive) (pm_bks_ok pb_X12_drive _ _ rfl) (pm_ndb_ok rfl) (pj_as_all (p := pm_Ex 2 12055 ie_X12_drive.1 pm_rU lf a) (List.forall_mem_cons.mpr ⟨pu_X12_drive_202 _ (fun c0 c1 s l x y h => pg_X12_drive_202 hT c0 c1 s l x y _ h), (fun _ h => by cases h)⟩))
set_option maxRecDepth 100000 in
theorem pg_X12_drive_143 {lf : pj_Z → mj_M} (hT : pj_Lt pj_TR lf) : ∀  (s : Nat → Int32) (l : Nat → Int64) (x : Nat → Int32) (y : Nat → Int64) (a : Unit × pj_Z), pl_X12_drive_143 s l x y = some a → pm_Gd 2 12055 ie_X12_drive.1 pm_rU lf 143 [(0, .ref 124)] [.ref 124] (s, l, x, y) a := by
  intro  s l x y a h
  exact pm_run ((pq_X12_drive_143   s l x y).symm.trans h) (pz_X12_drive hT) (pm_bks_ok pb_X12_drive) (pm_bks_ok pb_X12_drive _ _ rfl) (pm_ndb_ok rfl) (pj_as_all (p := pm_Ex 2 12055 ie_X12_drive.1 pm_rU lf a) (List.forall_mem_cons.mpr ⟨pu_X12_drive_148 _ (fun c0 s l x y h => pg_X12_drive_148 hT c0 s l x y _ h), (fun _ h => by cases h)⟩))
set_option maxRecDepth 100000 in
theorem pg_X12_drive_116 {lf : pj_Z → mj_M} (hT : pj_Lt pj_TR lf) : ∀  (s : Nat → Int32) (l : Nat → Int64) (x : Nat → Int32) (y : Nat → Int64) (a : Unit × pj_Z), pl_X12_drive_116 s l x y = some a → pm_Gd 2 12055 ie_X12_drive.1 pm_rU lf 116 [(0, .ref 124)] [] (s, l, x, y) a := by
  intro  s l x y a h
  exact pm_run ((pq_X12_drive_116   s l x y).symm.trans h) (pz_X12_drive hT) (pm_bks_ok pb_X12_drive) (pm_bks_ok pb_X12_drive _ _ rfl) (pm_ndb_ok rfl) (pj_as_all (p := pm_Ex 2 12055 ie_X12_drive.1 pm_rU lf a) (List.forall_mem_cons.mpr ⟨pu_X12_drive_143 _ (fun  s l x y h => pg_X12_drive_143 hT  s l x y _ h), (List.forall_mem_cons.mpr ⟨pu_X12_drive_148 _ (fun c0 s l x y h => pg_X12_drive_148 hT c0 s l x y _ h), (fun _ h => by cases h)⟩)⟩))
set_option maxRecDepth 100000 in
theorem pg_X12_drive_113 {lf : pj_Z → mj_M} (hT : pj_Lt pj_TR lf) : ∀ (b1 : Int32) (s : Nat → Int32) (l : Nat → Int64) (x : Nat → Int32) (y : Nat → Int64) (a : Unit × pj_Z), pl_X12_drive_113 b1 s l x y = some a → pm_Gd 2 12055 ie_X12_drive.1 pm_rU lf 113 [(0, .ref 124)] [.int b1, .ref 124] (s, l, x, y) a := by
  intro b1 s l x y a h
  exact pm_run ((pq_X12_drive_113  b1 s l x y).symm.trans h) (pz_X12_drive hT) (pm_bks_ok pb_X12_drive) (pm_bks_ok pb_X12_drive _ _ rfl) (pm_ndb_ok rfl) (pj_as_all (p := pm_Ex 2 12055 ie_X12_drive.1 pm_rU lf a) (List.forall_mem_cons.mpr ⟨pu_X12_drive_116 _ (fun  s l x y h => pg_X12_drive_116 hT  s l x y _ h), (fun _ h => by cases h)⟩))
set_option maxRecDepth 100000 in
theorem pg_X12_drive_95 {lf : pj_Z → mj_M} (hT : pj_Lt pj_TR lf) : ∀  (s : Nat → Int32) (l : Nat → Int64) (x : Nat → Int32) (y : Nat → Int64) (a : Unit × pj_Z), pl_X12_drive_95 s l x y = some a → pm_Gd 2 12055 ie_X12_drive.1 pm_rU lf 95 [(0, .ref 124)] [] (s, l, x, y) a := by
  intro  s l x y a h
  exact pm_run ((pq_X12_drive_95   s l x y).symm.trans h) (pz_X12_drive hT) (pm_bks_ok pb_X12_drive) (pm_bks_ok pb_X12_drive _ _ rfl) (pm_ndb_ok rfl) (pj_as_all (p := pm_Ex 2 12055 ie_X12_drive.1 pm_rU lf a) (List.forall_mem_cons.mpr ⟨pu_X12_drive_113 _ (fun c0 s l x y h => pg_X12_drive_113 hT c0 s l x y _ h), (fun _ h => by cases h)⟩))
set_option maxRecDepth 100000 in
theorem pm_X12_drive {lf : pj_Z → mj_M} (hT : pj_Lt pj_TR lf)  (s : Nat → Int32) (l : Nat → Int64) (x : Nat → Int32) (y : Nat → Int64) (a : Unit × pj_Z) (h : pf_X12_drive  s l x y = some a) : mj_R ic_P 3 12055 [.ref 124] (lf (s, l, x, y)) (pm_rU a.1) (lf a.2) := by
  refine pm_main (Y := ie_X12_drive.1) rfl (Nat.le_of_ble_eq_true rfl) ?_
  exact pm_run ((pq_X12_drive_m  s l x y).symm.trans h) (pz_X12_drive hT) (pm_bks_ok pb_X12_drive) (pm_bks_ok pb_X12_drive _ _ rfl) (pm_ndb_ok rfl) (pj_as_all (p := pm_Ex 2 12055 ie_X12_drive.1 pm_rU lf a) (List.forall_mem_cons.mpr ⟨pu_X12_drive_95 _ (fun  s l x y h => pg_X12_drive_95 hT  s l x y _ h), (List.forall_mem_cons.mpr ⟨pu_X12_drive_116 _ (fun  s l x y h => pg_X12_drive_116 hT  s l x y _ h), (fun _ h => by cases h)⟩)⟩))
abbrev ph_X12_drive {A : Type} : List pj_V → pj_Z → (List pj_V → pj_Z → Option A) → Option A := fun st z K => pj_pr st 124 0 fun st => pj_ps st (pj_b (pf_X12_drive  z.1 z.2.1 z.2.2.1 z.2.2.2) fun r s l x y => K st (s, l, x, y))
set_option maxRecDepth 100000 in
theorem pc_X12_drive {A : Type} {OK : A → Option Value → mj_M → Prop} {d j pc ix : Nat} {Y : mj_Y} {lf : pj_Z → mj_M} (hT : pj_Lt pj_TR lf) (hd : 3 ≤ d) (hl : mj_lk Y.2.2.2.2 pc = some (.invokevirtual ix, 3)) (hg : mj_pG ic_P j ix = some (12055, 0, some 12)) {lv : List (Nat × Value)} {st : List pj_V} {z : pj_Z} {K : List pj_V → pj_Z → Option A} {a : A} (hK : ∀ st z, K st z = some a → pj_Gd ic_P (mj_R ic_P d) j Y OK lf (pc + 3) lv (pj_es st) z a) (h : ph_X12_drive st z K = some a) : pj_Gd ic_P (mj_R ic_P d) j Y OK lf pc lv (pj_es st) z a := by
  obtain ⟨r0, e0, h⟩ := pj_pr_inv h
  obtain ⟨hs, h⟩ := pj_ps_inv h
  obtain ⟨q, hq, h⟩ := pj_b_inv h
  exact pm_cv (o := 124) hl hg [] rfl (by rw [e0]; rfl) hs (by decide) ((hT.2 124 _ rfl).1.2 z 0 (by decide)) (pm_rU q.1) hd (pm_X12_drive hT  z.1 z.2.1 z.2.2.1 z.2.2.2 q hq) rfl (hK _ _ h)
abbrev pe_X12_lookAgain_26 (f : Int32 → pj_F (Int32 × pj_Z)) : pj_K (Int32 × pj_Z) := fun lv st z => pj_xr lv 0 124 0 <| pj_pi st fun b1 st => pj_pr st 124 0 fun st => pj_pe st (f b1 z.1 z.2.1 z.2.2.1 z.2.2.2)
abbrev pe_X12_lookAgain_46 (f : Int32 → pj_F (Int32 × pj_Z)) : pj_K (Int32 × pj_Z) := fun lv st z => pj_xr lv 0 124 0 <| pj_pi st fun b1 st => pj_pr st 124 0 fun st => pj_pe st (f b1 z.1 z.2.1 z.2.2.1 z.2.2.2)
abbrev pe_X12_lookAgain_68 (f : Int32 → pj_F (Int32 × pj_Z)) : pj_K (Int32 × pj_Z) := fun lv st z => pj_xr lv 0 124 0 <| pj_pi st fun b0 st => pj_pe st (f b0 z.1 z.2.1 z.2.2.1 z.2.2.2)
abbrev pe_X12_lookAgain_81 (f : Int32 → pj_F (Int32 × pj_Z)) : pj_K (Int32 × pj_Z) := fun lv st z => pj_xi lv 2 fun a2 => pj_pr st 124 0 fun st => pj_pe st (f a2 z.1 z.2.1 z.2.2.1 z.2.2.2)
abbrev pe_X12_lookAgain_86 (f : Int32 → Int32 → pj_F (Int32 × pj_Z)) : pj_K (Int32 × pj_Z) := fun lv st z => pj_xi lv 2 fun a2 => pj_pi st fun b1 st => pj_pr st 124 0 fun st => pj_pe st (f a2 b1 z.1 z.2.1 z.2.2.1 z.2.2.2)
abbrev px_X12_lookAgain : pj_C (Int32 × pj_Z) := ((pj_as [(124, 12, 195, 1, 0, true, 0, [(1, 1), (2, 125), (2, 126), (2, 127), (2, 128), (2, 129), (2, 130), (2, 131), (2, 132), (2, 133), (1, 2), (0, 44), (2, 134), (2, 135), (2, 136), (2, 137), (2, 138), (0, 69), (2, 139), (2, 140), (2, 141), (1, 3), (0, 93), (0, 94), (0, 45), (0, 46), (0, 48), (0, 49), (0, 47), (0, 50), (0, 51), (2, 142), (2, 143), (2, 144), (0, 19), (1, 4), (1, 5), (1, 6), (0, 20), (0, 21), (0, 22), (0, 23), (0, 24), (0, 25), (0, 27), (0, 28), (1, 7), (1, 8), (1, 9), (1, 10), (1, 11), (0, 26), (2, 145), (2, 146), (2, 147), (2, 148), (2, 149), (2, 150), (2, 151), (2, 152), (2, 153), (2, 154), (2, 155), (2, 156), (2, 157), (2, 158), (2, 159), (0, 57), (0, 58), (0, 59), (0, 60), (2, 160), (2, 161), (2, 162), (2, 163), (1, 12), (1, 13), (0, 95), (0, 73), (0, 74), (0, 71), (0, 72), (0, 75), (0, 76), (0, 77), (0, 80), (0, 78), (0, 79), (1, 14), (0, 29), (0, 30), (0, 31), (0, 34), (0, 35), (0, 32), (0, 33), (0, 36), (0, 37), (0, 38), (0, 39), (0, 40), (1, 15), (1, 16), (0, 43), (0, 41), (0, 42), (2, 164), (0, 96), (0, 89), (0, 90), (0, 91), (0, 92), (2, 165), (2, 166), (2, 167), (2, 168), (2, 169), (2, 170), (2, 171), (2, 172), (0, 87), (2, 173), (0, 88), (2, 174), (0, 62), (1, 17), (0, 66), (0, 63), (0, 64), (0, 65), (0, 67), (1, 18), (0, 68), (2, 175), (1, 19), (0, 52), (0, 53), (0, 54), (0, 55), (2, 176), (0, 56), (0, 85), (0, 86), (0, 81), (0, 82), (0, 83), (0, 84), (2, 177), (2, 178), (2, 179), (1, 20), (2, 180), (0, 6), (0, 7), (0, 8), (0, 16), (0, 17), (0, 61), (0, 9), (0, 10), (1, 21), (1, 22), (0, 11), (0, 12), (0, 13), (0, 18), (0, 14), (0, 15), (2, 181), (0, 70), (1, 23), (2, 182), (2, 183), (0, 1), (1, 24), (2, 184), (2, 185), (1, 25), (0, 2), (2, 186), (2, 187), (1, 26), (2, 188), (2, 189), (1, 27), (1, 28), (2, 190), (2, 191), (1, 29), (0, 3), (2, 192), (0, 4), (0, 5), (1, 30), (2, 193)]), (127, 100, 24, 1, 0, true, 10000, [])]), (pj_as [(19, 12, 3, 2, true), (447, 12, 85, 0, false), (456, 12, 89, 3, false), (459, 12, 90, 0, false)]), (fun _ => none), (fun _ => none), (fun _ => none), ic_X, 3, 2, pj_mI, (fun _ => none), fun _ => false)
abbrev pk_X12_lookAgain : List (Nat × List (Nat × Instr × Nat)) := [(0, [(0, .iload_n 1, 1), (1, .ifCond .ne 5, 3)]), (4, [(4, .iconst 0, 1), (5, .ireturn, 1)]), (6, [(6, .aload_n 0, 1), (7, .aload_n 0, 1), (8, .getfield 447, 3), (11, .ifCond .ge 11, 3)]), (14, [(14, .aload_n 0, 1), (15, .getfield 447, 3), (18, .ineg, 1), (19, .goto 7, 3)]), (22, [(22, .aload_n 0, 1), (23, .getfield 447, 3)]), (26, [(26, .aload_n 0, 1), (27, .getfield 19, 3), (30, .bipush 18, 2), (32, .iaload, 1), (33, .if_icmp .le 12, 3)]), (36, [(36, .aload_n 0, 1), (37, .getfield 459, 3), (40, .iconst 1, 1), (41, .iadd, 1), (42, .goto 4, 3)]), (45, [(45, .iconst 0, 1)]), (46, [(46, .putfield 459, 3), (49, .aload_n 0, 1), (50, .getfield 459, 3), (53, .aload_n 0, 1), (54, .getfield 19, 3), (57, .bipush 19, 2), (59, .iaload, 1), (60, .if_icmp .lt 7, 3)]), (63, [(63, .iconst 1, 1), (64, .goto 4, 3)]), (67, [(67, .iconst 0, 1)]), (68, [(68, .istore_n 2, 1), (69, .aload_n 0, 1), (70, .aload_n 0, 1), (71, .getfield 456, 3), (74, .ifCond .ne 7, 3)]), (77, [(77, .iload_n 2, 1), (78, .ifCond .eq 7, 3)]), (81, [(81, .iconst 1, 1), (82, .goto 4, 3)]), (85, [(85, .iconst 0, 1)]), (86, [(86, .putfield 456, 3), (89, .iload_n 2, 1), (90, .ireturn, 1)])]
set_option maxRecDepth 100000 in
theorem pq_X12_lookAgain_86  (a2 : Int32) (b1 : Int32) (s : Nat → Int32) (l : Nat → Int64) (x : Nat → Int32) (y : Nat → Int64) : pl_X12_lookAgain_86 a2 b1 s l x y = pj_bl px_X12_lookAgain (pj_rn px_X12_lookAgain (pj_as pk_X12_lookAgain) (fun _ => none) 60) [(86, .putfield 456, 3), (89, .iload_n 2, 1), (90, .ireturn, 1)] 86 [(2, pj_I a2)] [pj_I b1, pj_O (124, 0)] (s, l, x, y) := rfl
set_option maxRecDepth 100000 in
theorem pq_X12_lookAgain_81  (a2 : Int32) (s : Nat → Int32) (l : Nat → Int64) (x : Nat → Int32) (y : Nat → Int64) : pl_X12_lookAgain_81 a2 s l x y = pj_bl px_X12_lookAgain (pj_rn px_X12_lookAgain (pj_as pk_X12_lookAgain) (pj_as [(86, pe_X12_lookAgain_86 (pl_X12_lookAgain_86))]) 60) [(81, .iconst 1, 1), (82, .goto 4, 3)] 81 [(2, pj_I a2)] [pj_O (124, 0)] (s, l, x, y) := rfl
set_option maxRecDepth 100000 in
theorem pq_X12_lookAgain_68  (b0 : Int32) (s : Nat → Int32) (l : Nat → Int64) (x : Nat → Int32) (y : Nat → Int64) : pl_X12_lookAgain_68 b0 s l x y = pj_bl px_X12_lookAgain (pj_rn px_X12_lookAgain (pj_as pk_X12_lookAgain) (pj_as [(81, pe_X12_lookAgain_81 (pl_X12_lookAgain_81)), (86, pe_X12_lookAgain_86 (pl_X12_lookAgain_86))]) 60) [(68, .istore_n 2, 1), (69, .aload_n 0, 1), (70, .aload_n 0, 1), (71, .getfield 456, 3), (74, .ifCond .ne 7, 3)] 68 [(0, pj_O (124, 0))] [pj_I b0] (s, l, x, y) := rfl
set_option maxRecDepth 100000 in
theorem pq_X12_lookAgain_46  (b1 : Int32) (s : Nat → Int32) (l : Nat → Int64) (x : Nat → Int32) (y : Nat → Int64) : pl_X12_lookAgain_46 b1 s l x y = pj_bl px_X12_lookAgain (pj_rn px_X12_lookAgain (pj_as pk_X12_lookAgain) (pj_as [(68, pe_X12_lookAgain_68 (pl_X12_lookAgain_68))]) 60) [(46, .putfield 459, 3), (49, .aload_n 0, 1), (50, .getfield 459, 3), (53, .aload_n 0, 1), (54, .getfield 19, 3), (57, .bipush 19, 2), (59, .iaload, 1), (60, .if_icmp .lt 7, 3)] 46 [(0, pj_O (124, 0))] [pj_I b1, pj_O (124, 0)] (s, l, x, y) := rfl
set_option maxRecDepth 100000 in
theorem pq_X12_lookAgain_26  (b1 : Int32) (s : Nat → Int32) (l : Nat → Int64) (x : Nat → Int32) (y : Nat → Int64) : pl_X12_lookAgain_26 b1 s l x y = pj_bl px_X12_lookAgain (pj_rn px_X12_lookAgain (pj_as pk_X12_lookAgain) (pj_as [(46, pe_X12_lookAgain_46 (pl_X12_lookAgain_46))]) 60) [(26, .aload_n 0, 1), (27, .getfield 19, 3), (30, .bipush 18, 2), (32, .iaload, 1), (33, .if_icmp .le 12, 3)] 26 [(0, pj_O (124, 0))] [pj_I b1, pj_O (124, 0)] (s, l, x, y) := rfl
set_option maxRecDepth 100000 in
theorem pq_X12_lookAgain_m  (a1 : Int32) (s : Nat → Int32) (l : Nat → Int64) (x : Nat → Int32) (y : Nat → Int64) : pf_X12_lookAgain a1 s l x y = pj_bl px_X12_lookAgain (pj_rn px_X12_lookAgain (pj_as pk_X12_lookAgain) (pj_as [(26, pe_X12_lookAgain_26 (pl_X12_lookAgain_26))]) 60) [(0, .iload_n 1, 1), (1, .ifCond .ne 5, 3)] 0 [(0, pj_O (124, 0)), (1, pj_I a1)] [] (s, l, x, y) := rfl
theorem pu_X12_lookAgain_26 {lf : pj_Z → mj_M} {a : Int32 × pj_Z} (f : Int32 → pj_F (Int32 × pj_Z)) (hf : ∀ (b1 : Int32) (s : Nat → Int32) (l : Nat → Int64) (x : Nat → Int32) (y : Nat → Int64), f b1 s l x y = some a → pm_Gd 0 12056 ie_X12_lookAgain.1 pm_rI lf 26 [(0, .ref 124)] [.int b1, .ref 124] (s, l, x, y) a) : pm_Ex 0 12056 ie_X12_lookAgain.1 pm_rI lf a 26 (pe_X12_lookAgain_26 f) := by
  intro lv st z hd h
  obtain ⟨g0, h⟩ := pj_xr_inv h
  obtain ⟨b1, r1, e1, h⟩ := pj_pi_inv h
  obtain ⟨r0, e0, h⟩ := pj_pr_inv h
  obtain ⟨e9, h⟩ := pj_pe_inv h
  rw [e1, e0, e9]
  exact mj_wp_sub (mj_sub_cons g0 (mj_sub_nil hd)) (hf _ _ _ _ _ h)
theorem pu_X12_lookAgain_46 {lf : pj_Z → mj_M} {a : Int32 × pj_Z} (f : Int32 → pj_F (Int32 × pj_Z)) (hf : ∀ (b1 : Int32) (s : Nat → Int32) (l : Nat → Int64) (x : Nat → Int32) (y : Nat → Int64), f b1 s l x y = some a → pm_Gd 0 12056 ie_X12_lookAgain.1 pm_rI lf 46 [(0, .ref 124)] [.int b1, .ref 124] (s, l, x, y) a) : pm_Ex 0 12056 ie_X12_lookAgain.1 pm_rI lf a 46 (pe_X12_lookAgain_46 f) := by
  intro lv st z hd h
  obtain ⟨g0, h⟩ := pj_xr_inv h
  obtain ⟨b1, r1, e1, h⟩ := pj_pi_inv h
  obtain ⟨r0, e0, h⟩ := pj_pr_inv h
  obtain ⟨e9, h⟩ := pj_pe_inv h
  rw [e1, e0, e9]
  exact mj_wp_sub (mj_sub_cons g0 (mj_sub_nil hd)) (hf _ _ _ _ _ h)
theorem pu_X12_lookAgain_68 {lf : pj_Z → mj_M} {a : Int32 × pj_Z} (f : Int32 → pj_F (Int32 × pj_Z)) (hf : ∀ (b0 : Int32) (s : Nat → Int32) (l : Nat → Int64) (x : Nat → Int32) (y : Nat → Int64), f b0 s l x y = some a → pm_Gd 0 12056 ie_X12_lookAgain.1 pm_rI lf 68 [(0, .ref 124)] [.int b0] (s, l, x, y) a) : pm_Ex 0 12056 ie_X12_lookAgain.1 pm_rI lf a 68 (pe_X12_lookAgain_68 f) := by
  intro lv st z hd h
  obtain ⟨g0, h⟩ := pj_xr_inv h
  obtain ⟨b0, r0, e0, h⟩ := pj_pi_inv h
  obtain ⟨e9, h⟩ := pj_pe_inv h
  rw [e0, e9]
  exact mj_wp_sub (mj_sub_cons g0 (mj_sub_nil hd)) (hf _ _ _ _ _ h)
theorem pu_X12_lookAgain_81 {lf : pj_Z → mj_M} {a : Int32 × pj_Z} (f : Int32 → pj_F (Int32 × pj_Z)) (hf : ∀ (a2 : Int32) (s : Nat → Int32) (l : Nat → Int64) (x : Nat → Int32) (y : Nat → Int64), f a2 s l x y = some a → pm_Gd 0 12056 ie_X12_lookAgain.1 pm_rI lf 81 [(2, .int a2)] [.ref 124] (s, l, x, y) a) : pm_Ex 0 12056 ie_X12_lookAgain.1 pm_rI lf a 81 (pe_X12_lookAgain_81 f) := by
  intro lv st z hd h
  obtain ⟨a2, g2, h⟩ := pj_xi_inv h
  obtain ⟨r0, e0, h⟩ := pj_pr_inv h
  obtain ⟨e9, h⟩ := pj_pe_inv h
  rw [e0, e9]
  exact mj_wp_sub (mj_sub_cons g2 (mj_sub_nil hd)) (hf _ _ _ _ _ h)
theorem pu_X12_lookAgain_86 {lf : pj_Z → mj_M} {a : Int32 × pj_Z} (f : Int32 → Int32 → pj_F (Int32 × pj_Z)) (hf : ∀ (a2 : Int32) (b1 : Int32) (s : Nat → Int32) (l : Nat → Int64) (x : Nat → Int32) (y : Nat → Int64), f a2 b1 s l x y = some a → pm_Gd 0 12056 ie_X12_lookAgain.1 pm_rI lf 86 [(2, .int a2)] [.int b1, .ref 124] (s, l, x, y) a) : pm_Ex 0 12056 ie_X12_lookAgain.1 pm_rI lf a 86 (pe_X12_lookAgain_86 f) := by
  intro lv st z hd h
  obtain ⟨a2, g2, h⟩ := pj_xi_inv h
  obtain ⟨b1, r1, e1, h⟩ := pj_pi_inv h
  obtain ⟨r0, e0, h⟩ := pj_pr_inv h
  obtain ⟨e9, h⟩ := pj_pe_inv h
  rw [e1, e0, e9]
  exact mj_wp_sub (mj_sub_cons g2 (mj_sub_nil hd)) (hf _ _ _ _ _ _ h)
set_option maxRecDepth 100000 in
theorem pz_X12_lookAgain {lf : pj_Z → mj_M} (hT : pj_Lt pj_TR lf) : pj_Cok ic_P (mj_R ic_P 0) 12056 ie_X12_lookAgain.1 (pm_OK lf pm_rI) lf px_X12_lookAgain := by
  exact pm_cok (c := px_X12_lookAgain) (pm_part hT (pj_as_all (p := fun b e => pj_TR b = some e) (List.forall_mem_cons.mpr ⟨rfl, (List.forall_mem_cons.mpr ⟨rfl, (fun _ h => by cases h)⟩)⟩))) (pm_in_ok (L := [(19, 12, 3, 2, true), (447, 12, 85, 0, false), (456, 12, 89, 3, false), (459, 12, 90, 0, false)]) (f := mj_pF ic_P 12056) (by decide +kernel)) (fun _ _ h => by cases h) (fun _ _ h => by cases h) (fun _ _ h => by cases h) rfl rfl ⟨by decide, rfl⟩ pm_mI (fun _ _ h => by cases h) (fun _ h => by cases h)
set_option maxRecDepth 100000 in
theorem pb_X12_lookAgain : pm_bks ie_X12_lookAgain.1.2.2.2.2 pk_X12_lookAgain = true := by decide +kernel
set_option maxRecDepth 100000 in
theorem pg_X12_lookAgain_86 {lf : pj_Z → mj_M} (hT : pj_Lt pj_TR lf) : ∀ (a2 : Int32) (b1 : Int32) (s : Nat → Int32) (l : Nat → Int64) (x : Nat → Int32) (y : Nat → Int64) (a : Int32 × pj_Z), pl_X12_lookAgain_86 a2 b1 s l x y = some a → pm_Gd 0 12056 ie_X12_lookAgain.1 pm_rI lf 86 [(2, .int a2)] [.int b1, .ref 124] (s, l, x, y) a := by
  intro a2 b1 s l x y a h
  exact pm_run ((pq_X12_lookAgain_86  a2 b1 s l x y).symm.trans h) (pz_X12_lookAgain hT) (pm_bks_ok pb_X12_lookAgain) (pm_bks_ok pb_X12_lookAgain _ _ rfl) (pm_ndb_ok rfl) (fun _ _ h => by cases h)
set_option maxRecDepth 100000 in
theorem pg_X12_lookAgain_81 {lf : pj_Z → mj_M} (hT : pj_Lt pj_TR lf) : ∀ (a2 : Int32) (s : Nat → Int32) (l : Nat → Int64) (x : Nat → Int32) (y : Nat → Int64) (a : Int32 × pj_Z), pl_X12_lookAgain_81 a2 s l x y = some a → pm_Gd 0 12056 ie_X12_lookAgain.1 pm_rI lf 81 [(2, .int a2)] [.ref 124] (s, l, x, y) a := by
  intro a2 s l x y a h
  exact pm_run ((pq_X12_lookAgain_81  a2 s l x y).symm.trans h) (pz_X12_lookAgain hT) (pm_bks_ok pb_X12_lookAgain) (pm_bks_ok pb_X12_lookAgain _ _ rfl) (pm_ndb_ok rfl) (pj_as_all (p := pm_Ex 0 12056 ie_X12_lookAgain.1 pm_rI lf a) (List.forall_mem_cons.mpr ⟨pu_X12_lookAgain_86 _ (fun c0 c1 s l x y h => pg_X12_lookAgain_86 hT c0 c1 s l x y _ h), (fun _ h => by cases h)⟩))
set_option maxRecDepth 100000 in
theorem pg_X12_lookAgain_68 {lf : pj_Z → mj_M} (hT : pj_Lt pj_TR lf) : ∀ (b0 : Int32) (s : Nat → Int32) (l : Nat → Int64) (x : Nat → Int32) (y : Nat → Int64) (a : Int32 × pj_Z), pl_X12_lookAgain_68 b0 s l x y = some a → pm_Gd 0 12056 ie_X12_lookAgain.1 pm_rI lf 68 [(0, .ref 124)] [.int b0] (s, l, x, y) a := by
  intro b0 s l x y a h
  exact pm_run ((pq_X12_lookAgain_68  b0 s l x y).symm.trans h) (pz_X12_lookAgain hT) (pm_bks_ok pb_X12_lookAgain) (pm_bks_ok pb_X12_lookAgain _ _ rfl) (pm_ndb_ok rfl) (pj_as_all (p := pm_Ex 0 12056 ie_X12_lookAgain.1 pm_rI lf a) (List.forall_mem_cons.mpr ⟨pu_X12_lookAgain_81 _ (fun c0 s l x y h => pg_X12_lookAgain_81 hT c0 s l x y _ h), (List.forall_mem_cons.mpr ⟨pu_X12_lookAgain_86 _ (fun c0 c1 s l x y h => pg_X12_lookAgain_86 hT c0 c1 s l x y _ h), (fun _ h => by cases h)⟩)⟩))
set_option maxRecDepth 100000 in
theorem pg_X12_lookAgain_46 {lf : pj_Z → mj_M} (hT : pj_Lt pj_TR lf) : ∀ (b1 : Int32) (s : Nat → Int32) (l : Nat → Int64) (x : Nat → Int32) (y : Nat → Int64) (a : Int32 × pj_Z), pl_X12_lookAgain_46 b1 s l x y = some a → pm_Gd 0 12056 ie_X12_lookAgain.1 pm_rI lf 46 [(0, .ref 124)] [.int b1, .ref 124] (s, l, x, y) a := by
  intro b1 s l x y a h
  exact pm_run ((pq_X12_lookAgain_46  b1 s l x y).symm.trans h) (pz_X12_lookAgain hT) (pm_bks_ok pb_X12_lookAgain) (pm_bks_ok pb_X12_lookAgain _ _ rfl) (pm_ndb_ok rfl) (pj_as_all (p := pm_Ex 0 12056 ie_X12_lookAgain.1 pm_rI lf a) (List.forall_mem_cons.mpr ⟨pu_X12_lookAgain_68 _ (fun c0 s l x y h => pg_X12_lookAgain_68 hT c0 s l x y _ h), (fun _ h => by cases h)⟩))
set_option maxRecDepth 100000 in
theorem pg_X12_lookAgain_26 {lf : pj_Z → mj_M} (hT : pj_Lt pj_TR lf) : ∀ (b1 : Int32) (s : Nat → Int32) (l : Nat → Int64) (x : Nat → Int32) (y : Nat → Int64) (a : Int32 × pj_Z), pl_X12_lookAgain_26 b1 s l x y = some a → pm_Gd 0 12056 ie_X12_lookAgain.1 pm_rI lf 26 [(0, .ref 124)] [.int b1, .ref 124] (s, l, x, y) a := by
  intro b1 s l x y a h
  exact pm_run ((pq_X12_lookAgain_26  b1 s l x y).symm.trans h) (pz_X12_lookAgain hT) (pm_bks_ok pb_X12_lookAgain) (pm_bks_ok pb_X12_lookAgain _ _ rfl) (pm_ndb_ok rfl) (pj_as_all (p := pm_Ex 0 12056 ie_X12_lookAgain.1 pm_rI lf a) (List.forall_mem_cons.mpr ⟨pu_X12_lookAgain_46 _ (fun c0 s l x y h => pg_X12_lookAgain_46 hT c0 s l x y _ h), (fun _ h => by cases h)⟩))
set_option maxRecDepth 100000 in
theorem pm_X12_lookAgain {lf : pj_Z → mj_M} (hT : pj_Lt pj_TR lf) (a1 : Int32) (s : Nat → Int32) (l : Nat → Int64) (x : Nat → Int32) (y : Nat → Int64) (a : Int32 × pj_Z) (h : pf_X12_lookAgain a1 s l x y = some a) : mj_R ic_P 1 12056 [.ref 124, .int a1] (lf (s, l, x, y)) (pm_rI a.1) (lf a.2) := by
  refine pm_main (Y := ie_X12_lookAgain.1) rfl (Nat.le_of_ble_eq_true rfl) ?_
  exact pm_run ((pq_X12_lookAgain_m a1 s l x y).symm.trans h) (pz_X12_lookAgain hT) (pm_bks_ok pb_X12_lookAgain) (pm_bks_ok pb_X12_lookAgain _ _ rfl) (pm_ndb_ok rfl) (pj_as_all (p := pm_Ex 0 12056 ie_X12_lookAgain.1 pm_rI lf a) (List.forall_mem_cons.mpr ⟨pu_X12_lookAgain_26 _ (fun c0 s l x y h => pg_X12_lookAgain_26 hT c0 s l x y _ h), (fun _ h => by cases h)⟩))
abbrev ph_X12_lookAgain {A : Type} : List pj_V → pj_Z → (List pj_V → pj_Z → Option A) → Option A := fun st z K => pj_pi st fun a1 st => pj_pr st 124 0 fun st => pj_ps st (pj_b (pf_X12_lookAgain a1 z.1 z.2.1 z.2.2.1 z.2.2.2) fun r s l x y => K (pj_I r :: st) (s, l, x, y))
set_option maxRecDepth 100000 in
theorem pc_X12_lookAgain {A : Type} {OK : A → Option Value → mj_M → Prop} {d j pc ix : Nat} {Y : mj_Y} {lf : pj_Z → mj_M} (hT : pj_Lt pj_TR lf) (hd : 1 ≤ d) (hl : mj_lk Y.2.2.2.2 pc = some (.invokevirtual ix, 3)) (hg : mj_pG ic_P j ix = some (12056, 1, some 12)) {lv : List (Nat × Value)} {st : List pj_V} {z : pj_Z} {K : List pj_V → pj_Z → Option A} {a : A} (hK : ∀ st z, K st z = some a → pj_Gd ic_P (mj_R ic_P d) j Y OK lf (pc + 3) lv (pj_es st) z a) (h : ph_X12_lookAgain st z K = some a) : pj_Gd ic_P (mj_R ic_P d) j Y OK lf pc lv (pj_es st) z a := by
  obtain ⟨a1, r1, e1, h⟩ := pj_pi_inv h
  obtain ⟨r0, e0, h⟩ := pj_pr_inv h
  obtain ⟨hs, h⟩ := pj_ps_inv h
  obtain ⟨q, hq, h⟩ := pj_b_inv h
  exact pm_cv (o := 124) hl hg [.int a1] rfl (by rw [e1, e0]; rfl) hs (by decide) ((hT.2 124 _ rfl).1.2 z 0 (by decide)) (pm_rI q.1) hd (pm_X12_lookAgain hT a1 z.1 z.2.1 z.2.2.1 z.2.2.2 q hq) rfl (hK _ _ h)
abbrev pe_X12_watchNow_58 (f : Int32 → pj_F (Unit × pj_Z)) : pj_K (Unit × pj_Z) := fun lv st z => pj_xr lv 0 124 0 <| pj_pi st fun b1 st => pj_pr st 124 0 fun st => pj_pe st (f b1 z.1 z.2.1 z.2.2.1 z.2.2.2)
abbrev pe_X12_watchNow_83 (f : Int32 → pj_F (Unit × pj_Z)) : pj_K (Unit × pj_Z) := fun lv st z => pj_xr lv 0 124 0 <| pj_pi st fun b1 st => pj_pr st 124 0 fun st => pj_pe st (f b1 z.1 z.2.1 z.2.2.1 z.2.2.2)
abbrev pe_X12_watchNow_86 (f : pj_F (Unit × pj_Z)) : pj_K (Unit × pj_Z) := fun lv st z => pj_xr lv 0 124 0 <| pj_pe st (f  z.1 z.2.1 z.2.2.1 z.2.2.2)
abbrev pe_X12_watchNow_130 (f : pj_F (Unit × pj_Z)) : pj_K (Unit × pj_Z) := fun lv st z => pj_xr lv 0 124 0 <| pj_pe st (f  z.1 z.2.1 z.2.2.1 z.2.2.2)
abbrev pe_X12_watchNow_149 (f : pj_F (Unit × pj_Z)) : pj_K (Unit × pj_Z) := fun lv st z => pj_pr st 124 0 fun st => pj_pe st (f  z.1 z.2.1 z.2.2.1 z.2.2.2)
abbrev pe_X12_watchNow_150 (f : Int32 → pj_F (Unit × pj_Z)) : pj_K (Unit × pj_Z) := fun lv st z => pj_pi st fun b1 st => pj_pr st 124 0 fun st => pj_pe st (f b1 z.1 z.2.1 z.2.2.1 z.2.2.2)
abbrev px_X12_watchNow : pj_C (Unit × pj_Z) := ((pj_as [(124, 12, 195, 1, 0, true, 0, [(1, 1), (2, 125), (2, 126), (2, 127), (2, 128), (2, 129), (2, 130), (2, 131), (2, 132), (2, 133), (1, 2), (0, 44), (2, 134), (2, 135), (2, 136), (2, 137), (2, 138), (0, 69), (2, 139), (2, 140), (2, 141), (1, 3), (0, 93), (0, 94), (0, 45), (0, 46), (0, 48), (0, 49), (0, 47), (0, 50), (0, 51), (2, 142), (2, 143), (2, 144), (0, 19), (1, 4), (1, 5), (1, 6), (0, 20), (0, 21), (0, 22), (0, 23), (0, 24), (0, 25), (0, 27), (0, 28), (1, 7), (1, 8), (1, 9), (1, 10), (1, 11), (0, 26), (2, 145), (2, 146), (2, 147), (2, 148), (2, 149), (2, 150), (2, 151), (2, 152), (2, 153), (2, 154), (2, 155), (2, 156), (2, 157), (2, 158), (2, 159), (0, 57), (0, 58), (0, 59), (0, 60), (2, 160), (2, 161), (2, 162), (2, 163), (1, 12), (1, 13), (0, 95), (0, 73), (0, 74), (0, 71), (0, 72), (0, 75), (0, 76), (0, 77), (0, 80), (0, 78), (0, 79), (1, 14), (0, 29), (0, 30), (0, 31), (0, 34), (0, 35), (0, 32), (0, 33), (0, 36), (0, 37), (0, 38), (0, 39), (0, 40), (1, 15), (1, 16), (0, 43), (0, 41), (0, 42), (2, 164), (0, 96), (0, 89), (0, 90), (0, 91), (0, 92), (2, 165), (2, 166), (2, 167), (2, 168), (2, 169), (2, 170), (2, 171), (2, 172), (0, 87), (2, 173), (0, 88), (2, 174), (0, 62), (1, 17), (0, 66), (0, 63), (0, 64), (0, 65), (0, 67), (1, 18), (0, 68), (2, 175), (1, 19), (0, 52), (0, 53), (0, 54), (0, 55), (2, 176), (0, 56), (0, 85), (0, 86), (0, 81), (0, 82), (0, 83), (0, 84), (2, 177), (2, 178), (2, 179), (1, 20), (2, 180), (0, 6), (0, 7), (0, 8), (0, 16), (0, 17), (0, 61), (0, 9), (0, 10), (1, 21), (1, 22), (0, 11), (0, 12), (0, 13), (0, 18), (0, 14), (0, 15), (2, 181), (0, 70), (1, 23), (2, 182), (2, 183), (0, 1), (1, 24), (2, 184), (2, 185), (1, 25), (0, 2), (2, 186), (2, 187), (1, 26), (2, 188), (2, 189), (1, 27), (1, 28), (2, 190), (2, 191), (1, 29), (0, 3), (2, 192), (0, 4), (0, 5), (1, 30), (2, 193)])]), (pj_as [(462, 12, 91, 3, false), (465, 12, 92, 0, false), (468, 12, 93, 0, false), (471, 12, 94, 0, false), (474, 12, 95, 3, false), (477, 12, 96, 3, false)]), (fun _ => none), (fun _ => none), (fun _ => none), ic_X, 1, 0, pj_mU, (pj_as [(127, ph_X12_allOff)]), fun _ => false)
abbrev pk_X12_watchNow : List (Nat × List (Nat × Instr × Nat)) := [(0, [(0, .aload_n 0, 1), (1, .getfield 462, 3), (4, .ifCond .ne 4, 3)]), (7, [(7, .return_, 1)]), (8, [(8, .aload_n 0, 1), (9, .dup, 1), (10, .getfield 465, 3), (13, .iconst 1, 1), (14, .iadd, 1), (15, .putfield 465, 3), (18, .aload_n 0, 1), (19, .getfield 465, 3), (22, .bipush 10, 2), (24, .if_icmp .ge 4, 3)]), (27, [(27, .return_, 1)]), (28, [(28, .aload_n 0, 1), (29, .iconst 0, 1), (30, .putfield 465, 3), (33, .aload_n 0, 1), (34, .getfield 474, 3), (37, .ifCond .eq 27, 3)]), (40, [(40, .aload_n 0, 1), (41, .aload_n 0, 1), (42, .getfield 468, 3), (45, .ifCond .le 12, 3)]), (48, [(48, .aload_n 0, 1), (49, .getfield 468, 3), (52, .iconst 1, 1), (53, .isub, 1), (54, .goto 4, 3)]), (57, [(57, .iconst 0, 1)]), (58, [(58, .putfield 468, 3), (61, .goto 25, 3)]), (64, [(64, .aload_n 0, 1), (65, .aload_n 0, 1), (66, .getfield 468, 3), (69, .iconst 5, 1), (70, .if_icmp .ge 12, 3)]), (73, [(73, .aload_n 0, 1), (74, .getfield 468, 3), (77, .iconst 1, 1), (78, .iadd, 1), (79, .goto 4, 3)]), (82, [(82, .iconst 5, 1)]), (83, [(83, .putfield 468, 3)]), (86, [(86, .aload_n 0, 1), (87, .iconst 5, 1), (88, .aload_n 0, 1), (89, .getfield 471, 3), (92, .imul, 1), (93, .iconst 1, 1), (94, .iadd, 1), (95, .bipush 16, 2), (97, .irem, 1), (98, .putfield 471, 3), (101, .aload_n 0, 1), (102, .iconst 0, 1), (103, .putfield 474, 3), (106, .aload_n 0, 1), (107, .getfield 468, 3), (110, .iconst 3, 1), (111, .if_icmp .ne 19, 3)]), (114, [(114, .aload_n 0, 1), (115, .getfield 477, 3), (118, .ifCond .ne 12, 3)]), (121, [(121, .aload_n 0, 1), (122, .iconst 1, 1), (123, .putfield 477, 3), (126, .aload_n 0, 1), (127, .invokevirtual 522, 3)]), (130, [(130, .aload_n 0, 1), (131, .aload_n 0, 1), (132, .getfield 477, 3), (135, .ifCond .eq 14, 3)]), (138, [(138, .aload_n 0, 1), (139, .getfield 468, 3), (142, .ifCond .le 7, 3)]), (145, [(145, .iconst 1, 1), (146, .goto 4, 3)]), (149, [(149, .iconst 0, 1)]), (150, [(150, .putfield 477, 3), (153, .return_, 1)])]
set_option maxRecDepth 100000 in
theorem pq_X12_watchNow_150  (b1 : Int32) (s : Nat → Int32) (l : Nat → Int64) (x : Nat → Int32) (y : Nat → Int64) : pl_X12_watchNow_150 b1 s l x y = pj_bl px_X12_watchNow (pj_rn px_X12_watchNow (pj_as pk_X12_watchNow) (fun _ => none) 60) [(150, .putfield 477, 3), (153, .return_, 1)] 150 [] [pj_I b1, pj_O (124, 0)] (s, l, x, y) := rfl
set_option maxRecDepth 100000 in
theorem pq_X12_watchNow_149   (s : Nat → Int32) (l : Nat → Int64) (x : Nat → Int32) (y : Nat → Int64) : pl_X12_watchNow_149 s l x y = pj_bl px_X12_watchNow (pj_rn px_X12_watchNow (pj_as pk_X12_watchNow) (pj_as [(150, pe_X12_watchNow_150 (pl_X12_watchNow_150))]) 60) [(149, .iconst 0, 1)] 149 [] [pj_O (124, 0)] (s, l, x, y) := rfl
set_option maxRecDepth 100000 in
theorem pq_X12_watchNow_130   (s : Nat → Int32) (l : Nat → Int64) (x : Nat → Int32) (y : Nat → Int64) : pl_X12_watchNow_130 s l x y = pj_bl px_X12_watchNow (pj_rn px_X12_watchNow (pj_as pk_X12_watchNow) (pj_as [(149, pe_X12_watchNow_149 (pl_X12_watchNow_149)), (150, pe_X12_watchNow_150 (pl_X12_watchNow_150))]) 60) [(130, .aload_n 0, 1), (131, .aload_n 0, 1), (132, .getfield 477, 3), (135, .ifCond .eq 14, 3)] 130 [(0, pj_O (124, 0))] [] (s, l, x, y) := rfl
set_option maxRecDepth 100000 in
theorem pq_X12_watchNow_86   (s : Nat → Int32) (l : Nat → Int64) (x : Nat → Int32) (y : Nat → Int64) : pl_X12_watchNow_86 s l x y = pj_bl px_X12_watchNow (pj_rn px_X12_watchNow (pj_as pk_X12_watchNow) (pj_as [(130, pe_X12_watchNow_130 (pl_X12_watchNow_130))]) 60) [(86, .aload_n 0, 1), (87, .iconst 5, 1), (88, .aload_n 0, 1), (89, .getfield 471, 3), (92, .imul, 1), (93, .iconst 1, 1), (94, .iadd, 1), (95, .bipush 16, 2), (97, .irem, 1), (98, .putfield 471, 3), (101, .aload_n 0, 1), (102, .iconst 0, 1), (103, .putfield 474, 3), (106, .aload_n 0, 1), (107, .getfield 468, 3), (110, .iconst 3, 1), (111, .if_icmp .ne 19, 3)] 86 [(0, pj_O (124, 0))] [] (s, l, x, y) := rfl
set_option maxRecDepth 100000 in
theorem pq_X12_watchNow_58  (b1 : Int32) (s : Nat → Int32) (l : Nat → Int64) (x : Nat → Int32) (y : Nat → Int64) : pl_X12_watchNow_58 b1 s l x y = pj_bl px_X12_watchNow (pj_rn px_X12_watchNow (pj_as pk_X12_watchNow) (pj_as [(86, pe_X12_watchNow_86 (pl_X12_watchNow_86))]) 60) [(58, .putfield 468, 3), (61, .goto 25, 3)] 58 [(0, pj_O (124, 0))] [pj_I b1, pj_O (124, 0)] (s, l, x, y) := rfl
set_option maxRecDepth 100000 in
theorem pq_X12_watchNow_83  (b1 : Int32) (s : Nat → Int32) (l : Nat → Int64) (x : Nat → Int32) (y : Nat → Int64) : pl_X12_watchNow_83 b1 s l x y = pj_bl px_X12_watchNow (pj_rn px_X12_watchNow (pj_as pk_X12_watchNow) (pj_as [(86, pe_X12_watchNow_86 (pl_X12_watchNow_86))]) 60) [(83, .putfield 468, 3)] 83 [(0, pj_O (124, 0))] [pj_I b1, pj_O (124, 0)] (s, l, x, y) := rfl
set_option maxRecDepth 100000 in
theorem pq_X12_watchNow_m   (s : Nat → Int32) (l : Nat → Int64) (x : Nat → Int32) (y : Nat → Int64) : pf_X12_watchNow  s l x y = pj_bl px_X12_watchNow (pj_rn px_X12_watchNow (pj_as pk_X12_watchNow) (pj_as [(58, pe_X12_watchNow_58 (pl_X12_watchNow_58)), (83, pe_X12_watchNow_83 (pl_X12_watchNow_83))]) 60) [(0, .aload_n 0, 1), (1, .getfield 462, 3), (4, .ifCond .ne 4, 3)] 0 [(0, pj_O (124, 0))] [] (s, l, x, y) := rfl
theorem pu_X12_watchNow_58 {lf : pj_Z → mj_M} {a : Unit × pj_Z} (f : Int32 → pj_F (Unit × pj_Z)) (hf : ∀ (b1 : Int32) (s : Nat → Int32) (l : Nat → Int64) (x : Nat → Int32) (y : Nat → Int64), f b1 s l x y = some a → pm_Gd 2 12057 ie_X12_watchNow.1 pm_rU lf 58 [(0, .ref 124)] [.int b1, .ref 124] (s, l, x, y) a) : pm_Ex 2 12057 ie_X12_watchNow.1 pm_rU lf a 58 (pe_X12_watchNow_58 f) := by
  intro lv st z hd h
  obtain ⟨g0, h⟩ := pj_xr_inv h
  obtain ⟨b1, r1, e1, h⟩ := pj_pi_inv h
  obtain ⟨r0, e0, h⟩ := pj_pr_inv h
  obtain ⟨e9, h⟩ := pj_pe_inv h
  rw [e1, e0, e9]
  exact mj_wp_sub (mj_sub_cons g0 (mj_sub_nil hd)) (hf _ _ _ _ _ h)
theorem pu_X12_watchNow_83 {lf : pj_Z → mj_M} {a : Unit × pj_Z} (f : Int32 → pj_F (Unit × pj_Z)) (hf : ∀ (b1 : Int32) (s : Nat → Int32) (l : Nat → Int64) (x : Nat → Int32) (y : Nat → Int64), f b1 s l x y = some a → pm_Gd 2 12057 ie_X12_watchNow.1 pm_rU lf 83 [(0, .ref 124)] [.int b1, .ref 124] (s, l, x, y) a) : pm_Ex 2 12057 ie_X12_watchNow.1 pm_rU lf a 83 (pe_X12_watchNow_83 f) := by
  intro lv st z hd h
  obtain ⟨g0, h⟩ := pj_xr_inv h
  obtain ⟨b1, r1, e1, h⟩ := pj_pi_inv h
  obtain ⟨r0, e0, h⟩ := pj_pr_inv h
  obtain ⟨e9, h⟩ := pj_pe_inv h
  rw [e1, e0, e9]
  exact mj_wp_sub (mj_sub_cons g0 (mj_sub_nil hd)) (hf _ _ _ _ _ h)
theorem pu_X12_watchNow_86 {lf : pj_Z → mj_M} {a : Unit × pj_Z} (f : pj_F (Unit × pj_Z)) (hf : ∀  (s : Nat → Int32) (l : Nat → Int64) (x : Nat → Int32) (y : Nat → Int64), f  s l x y = some a → pm_Gd 2 12057 ie_X12_watchNow.1 pm_rU lf 86 [(0, .ref 124)] [] (s, l, x, y) a) : pm_Ex 2 12057 ie_X12_watchNow.1 pm_rU lf a 86 (pe_X12_watchNow_86 f) := by
  intro lv st z hd h
  obtain ⟨g0, h⟩ := pj_xr_inv h
  obtain ⟨e9, h⟩ := pj_pe_inv h
  rw [e9]
  exact mj_wp_sub (mj_sub_cons g0 (mj_sub_nil hd)) (hf  _ _ _ _ h)
theorem pu_X12_watchNow_130 {lf : pj_Z → mj_M} {a : Unit × pj_Z} (f : pj_F (Unit × pj_Z)) (hf : ∀  (s : Nat → Int32) (l : Nat → Int64) (x : Nat → Int32) (y : Nat → Int64), f  s l x y = some a → pm_Gd 2 12057 ie_X12_watchNow.1 pm_rU lf 130 [(0, .ref 124)] [] (s, l, x, y) a) : pm_Ex 2 12057 ie_X12_watchNow.1 pm_rU lf a 130 (pe_X12_watchNow_130 f) := by
  intro lv st z hd h
  obtain ⟨g0, h⟩ := pj_xr_inv h
  obtain ⟨e9, h⟩ := pj_pe_inv h
  rw [e9]
  exact mj_wp_sub (mj_sub_cons g0 (mj_sub_nil hd)) (hf  _ _ _ _ h)
theorem pu_X12_watchNow_149 {lf : pj_Z → mj_M} {a : Unit × pj_Z} (f : pj_F (Unit × pj_Z)) (hf : ∀  (s : Nat → Int32) (l : Nat → Int64) (x : Nat → Int32) (y : Nat → Int64), f  s l x y = some a → pm_Gd 2 12057 ie_X12_watchNow.1 pm_rU lf 149 [] [.ref 124] (s, l, x, y) a) : pm_Ex 2 12057 ie_X12_watchNow.1 pm_rU lf a 149 (pe_X12_watchNow_149 f) := by
  intro lv st z hd h
  obtain ⟨r0, e0, h⟩ := pj_pr_inv h
  obtain ⟨e9, h⟩ := pj_pe_inv h
  rw [e0, e9]
  exact mj_wp_sub (mj_sub_nil hd) (hf  _ _ _ _ h)
theorem pu_X12_watchNow_150 {lf : pj_Z → mj_M} {a : Unit × pj_Z} (f : Int32 → pj_F (Unit × pj_Z)) (hf : ∀ (b1 : Int32) (s : Nat → Int32) (l : Nat → Int64) (x : Nat → Int32) (y : Nat → Int64), f b1 s l x y = some a → pm_Gd 2 12057 ie_X12_watchNow.1 pm_rU lf 150 [] [.int b1, .ref 124] (s, l, x, y) a) : pm_Ex 2 12057 ie_X12_watchNow.1 pm_rU lf a 150 (pe_X12_watchNow_150 f) := by
  intro lv st z hd h
  obtain ⟨b1, r1, e1, h⟩ := pj_pi_inv h
  obtain ⟨r0, e0, h⟩ := pj_pr_inv h
  obtain ⟨e9, h⟩ := pj_pe_inv h
  rw [e1, e0, e9]
  exact mj_wp_sub (mj_sub_nil hd) (hf _ _ _ _ _ h)
set_option maxRecDepth 100000 in
theorem pz_X12_watchNow {lf : pj_Z → mj_M} (hT : pj_Lt pj_TR lf) : pj_Cok ic_P (mj_R ic_P 2) 12057 ie_X12_watchNow.1 (pm_OK lf pm_rU) lf px_X12_watchNow := by
  exact pm_cok (c := px_X12_watchNow) (pm_part hT (pj_as_all (p := fun b e => pj_TR b = some e) (List.forall_mem_cons.mpr ⟨rfl, (fun _ h => by cases h)⟩))) (pm_in_ok (L := [(462, 12, 91, 3, false), (465, 12, 92, 0, false), (468, 12, 93, 0, false), (471, 12, 94, 0, false), (474, 12, 95, 3, false), (477, 12, 96, 3, false)]) (f := mj_pF ic_P 12057) (by decide +kernel)) (fun _ _ h => by cases h) (fun _ _ h => by cases h) (fun _ _ h => by cases h) rfl rfl ⟨by decide, rfl⟩ pm_mU (pj_as_all (p := pm_Cl 2 12057 ie_X12_watchNow.1 lf (pm_OK lf pm_rU)) (List.forall_mem_cons.mpr ⟨fun _ _ lv st z K a hK h => pc_X12_allOff hT (by decide) (ix := 522) rfl rfl hK h, (fun _ h => by cases h)⟩)) (fun _ h => by cases h)
set_option maxRecDepth 100000 in
theorem pb_X12_watchNow : pm_bks ie_X12_watchNow.1.2.2.2.2 pk_X12_watchNow = true := by decide +kernel
set_option maxRecDepth 100000 in
theorem pg_X12_watchNow_150 {lf : pj_Z → mj_M} (hT : pj_Lt pj_TR lf) : ∀ (b1 : Int32) (s : Nat → Int32) (l : Nat → Int64) (x : Nat → Int32) (y : Nat → Int64) (a : Unit × pj_Z), pl_X12_watchNow_150 b1 s l x y = some a → pm_Gd 2 12057 ie_X12_watchNow.1 pm_rU lf 150 [] [.int b1, .ref 124] (s, l, x, y) a := by
  intro b1 s l x y a h
  exact pm_run ((pq_X12_watchNow_150  b1 s l x y).symm.trans h) (pz_X12_watchNow hT) (pm_bks_ok pb_X12_watchNow) (pm_bks_ok pb_X12_watchNow _ _ rfl) (pm_ndb_ok rfl) (fun _ _ h => by cases h)
set_option maxRecDepth 100000 in
theorem pg_X12_watchNow_149 {lf : pj_Z → mj_M} (hT : pj_Lt pj_TR lf) : ∀  (s : Nat → Int32) (l : Nat → Int64) (x : Nat → Int32) (y : Nat → Int64) (a : Unit × pj_Z), pl_X12_watchNow_149 s l x y = some a → pm_Gd 2 12057 ie_X12_watchNow.1 pm_rU lf 149 [] [.ref 124] (s, l, x, y) a := by
  intro  s l x y a h
  exact pm_run ((pq_X12_watchNow_149   s l x y).symm.trans h) (pz_X12_watchNow hT) (pm_bks_ok pb_X12_watchNow) (pm_bks_ok pb_X12_watchNow _ _ rfl) (pm_ndb_ok rfl) (pj_as_all (p := pm_Ex 2 12057 ie_X12_watchNow.1 pm_rU lf a) (List.forall_mem_cons.mpr ⟨pu_X12_watchNow_150 _ (fun c0 s l x y h => pg_X12_watchNow_150 hT c0 s l x y _ h), (fun _ h => by cases h)⟩))
set_option maxRecDepth 100000 in
theorem pg_X12_watchNow_130 {lf : pj_Z → mj_M} (hT : pj_Lt pj_TR lf) : ∀  (s : Nat → Int32) (l : Nat → Int64) (x : Nat → Int32) (y : Nat → Int64) (a : Unit × pj_Z), pl_X12_watchNow_130 s l x y = some a → pm_Gd 2 12057 ie_X12_watchNow.1 pm_rU lf 130 [(0, .ref 124)] [] (s, l, x, y) a := by
  intro  s l x y a h
  exact pm_run ((pq_X12_watchNow_130   s l x y).symm.trans h) (pz_X12_watchNow hT) (pm_bks_ok pb_X12_watchNow) (pm_bks_ok pb_X12_watchNow _ _ rfl) (pm_ndb_ok rfl) (pj_as_all (p := pm_Ex 2 12057 ie_X12_watchNow.1 pm_rU lf a) (List.forall_mem_cons.mpr ⟨pu_X12_watchNow_149 _ (fun  s l x y h => pg_X12_watchNow_149 hT  s l x y _ h), (List.forall_mem_cons.mpr ⟨pu_X12_watchNow_150 _ (fun c0 s l x y h => pg_X12_watchNow_150 hT c0 s l x y _ h), (fun _ h => by cases h)⟩)⟩))
set_option maxRecDepth 100000 in
theorem pg_X12_watchNow_86 {lf : pj_Z → mj_M} (hT : pj_Lt pj_TR lf) : ∀  (s : Nat → Int32) (l : Nat → Int64) (x : Nat → Int32) (y : Nat → Int64) (a : Unit × pj_Z), pl_X12_watchNow_86 s l x y = some a → pm_Gd 2 12057 ie_X12_watchNow.1 pm_rU lf 86 [(0, .ref 124)] [] (s, l, x, y) a := by
  intro  s l x y a h
  exact pm_run ((pq_X12_watchNow_86   s l x y).symm.trans h) (pz_X12_watchNow hT) (pm_bks_ok pb_X12_watchNow) (pm_bks_ok pb_X12_watchNow _ _ rfl) (pm_ndb_ok rfl) (pj_as_all (p := pm_Ex 2 12057 ie_X12_watchNow.1 pm_rU lf a) (List.forall_mem_cons.mpr ⟨pu_X12_watchNow_130 _ (fun  s l x y h => pg_X12_watchNow_130 hT  s l x y _ h), (fun _ h => by cases h)⟩))
set_option maxRecDepth 100000 in
theorem pg_X12_watchNow_58 {lf : pj_Z → mj_M} (hT : pj_Lt pj_TR lf) : ∀ (b1 : Int32) (s : Nat → Int32) (l : Nat → Int64) (x : Nat → Int32) (y : Nat → Int64) (a : Unit × pj_Z), pl_X12_watchNow_58 b1 s l x y = some a → pm_Gd 2 12057 ie_X12_watchNow.1 pm_rU lf 58 [(0, .ref 124)] [.int b1, .ref 124] (s, l, x, y) a := by
  intro b1 s l x y a h
  exact pm_run ((pq_X12_watchNow_58  b1 s l x y).symm.trans h) (pz_X12_watchNow hT) (pm_bks_ok pb_X12_watchNow) (pm_bks_ok pb_X12_watchNow _ _ rfl) (pm_ndb_ok rfl) (pj_as_all (p := pm_Ex 2 12057 ie_X12_watchNow.1 pm_rU lf a) (List.forall_mem_cons.mpr ⟨pu_X12_watchNow_86 _ (fun  s l x y h => pg_X12_watchNow_86 hT  s l x y _ h), (fun _ h => by cases h)⟩))
set_option maxRecDepth 100000 in
theorem pg_X12_watchNow_83 {lf : pj_Z → mj_M} (hT : pj_Lt pj_TR lf) : ∀ (b1 : Int32) (s : Nat → Int32) (l : Nat → Int64) (x : Nat → Int32) (y : Nat → Int64) (a : Unit × pj_Z), pl_X12_watchNow_83 b1 s l x y = some a → pm_Gd 2 12057 ie_X12_watchNow.1 pm_rU lf 83 [(0, .ref 124)] [.int b1, .ref 124] (s, l, x, y) a := by
  intro b1 s l x y a h
  exact pm_run ((pq_X12_watchNow_83  b1 s l x y).symm.trans h) (pz_X12_watchNow hT) (pm_bks_ok pb_X12_watchNow) (pm_bks_ok pb_X12_watchNow _ _ rfl) (pm_ndb_ok rfl) (pj_as_all (p := pm_Ex 2 12057 ie_X12_watchNow.1 pm_rU lf a) (List.forall_mem_cons.mpr ⟨pu_X12_watchNow_86 _ (fun  s l x y h => pg_X12_watchNow_86 hT  s l x y _ h), (fun _ h => by cases h)⟩))
set_option maxRecDepth 100000 in
theorem pm_X12_watchNow {lf : pj_Z → mj_M} (hT : pj_Lt pj_TR lf)  (s : Nat → Int32) (l : Nat → Int64) (x : Nat → Int32) (y : Nat → Int64) (a : Unit × pj_Z) (h : pf_X12_watchNow  s l x y = some a) : mj_R ic_P 3 12057 [.ref 124] (lf (s, l, x, y)) (pm_rU a.1) (lf a.2) := by
  refine pm_main (Y := ie_X12_watchNow.1) rfl (Nat.le_of_ble_eq_true rfl) ?_
  exact pm_run ((pq_X12_watchNow_m  s l x y).symm.trans h) (pz_X12_watchNow hT) (pm_bks_ok pb_X12_watchNow) (pm_bks_ok pb_X12_watchNow _ _ rfl) (pm_ndb_ok rfl) (pj_as_all (p := pm_Ex 2 12057 ie_X12_watchNow.1 pm_rU lf a) (List.forall_mem_cons.mpr ⟨pu_X12_watchNow_58 _ (fun c0 s l x y h => pg_X12_watchNow_58 hT c0 s l x y _ h), (List.forall_mem_cons.mpr ⟨pu_X12_watchNow_83 _ (fun c0 s l x y h => pg_X12_watchNow_83 hT c0 s l x y _ h), (fun _ h => by cases h)⟩)⟩))
abbrev ph_X12_watchNow {A : Type} : List pj_V → pj_Z → (List pj_V → pj_Z → Option A) → Option A := fun st z K => pj_pr st 124 0 fun st => pj_ps st (pj_b (pf_X12_watchNow  z.1 z.2.1 z.2.2.1 z.2.2.2) fun r s l x y => K st (s, l, x, y))
set_option maxRecDepth 100000 in
theorem pc_X12_watchNow {A : Type} {OK : A → Option Value → mj_M → Prop} {d j pc ix : Nat} {Y : mj_Y} {lf : pj_Z → mj_M} (hT : pj_Lt pj_TR lf) (hd : 3 ≤ d) (hl : mj_lk Y.2.2.2.2 pc = some (.invokevirtual ix, 3)) (hg : mj_pG ic_P j ix = some (12057, 0, some 12)) {lv : List (Nat × Value)} {st : List pj_V} {z : pj_Z} {K : List pj_V → pj_Z → Option A} {a : A} (hK : ∀ st z, K st z = some a → pj_Gd ic_P (mj_R ic_P d) j Y OK lf (pc + 3) lv (pj_es st) z a) (h : ph_X12_watchNow st z K = some a) : pj_Gd ic_P (mj_R ic_P d) j Y OK lf pc lv (pj_es st) z a := by
  obtain ⟨r0, e0, h⟩ := pj_pr_inv h
  obtain ⟨hs, h⟩ := pj_ps_inv h
  obtain ⟨q, hq, h⟩ := pj_b_inv h
  exact pm_cv (o := 124) hl hg [] rfl (by rw [e0]; rfl) hs (by decide) ((hT.2 124 _ rfl).1.2 z 0 (by decide)) (pm_rU q.1) hd (pm_X12_watchNow hT  z.1 z.2.1 z.2.2.1 z.2.2.2 q hq) rfl (hK _ _ h)
abbrev pe_X12_warmth_39 (f : Int32 → pj_F (Unit × pj_Z)) : pj_K (Unit × pj_Z) := fun lv st z => pj_xr lv 0 124 0 <| pj_xi lv 1 fun a1 => pj_pr st 124 0 fun st => pj_pe st (f a1 z.1 z.2.1 z.2.2.1 z.2.2.2)
abbrev pe_X12_warmth_43 (f : Int32 → pj_F (Unit × pj_Z)) : pj_K (Unit × pj_Z) := fun lv st z => pj_xr lv 0 124 0 <| pj_xi lv 1 fun a1 => pj_pr st 124 0 fun st => pj_pe st (f a1 z.1 z.2.1 z.2.2.1 z.2.2.2)
abbrev pe_X12_warmth_44 (f : Int32 → Int32 → pj_F (Unit × pj_Z)) : pj_K (Unit × pj_Z) := fun lv st z => pj_xr lv 0 124 0 <| pj_xi lv 1 fun a1 => pj_pi st fun b1 st => pj_pr st 124 0 fun st => pj_pe st (f a1 b1 z.1 z.2.1 z.2.2.1 z.2.2.2)
abbrev pe_X12_warmth_79 (f : Int32 → pj_F (Unit × pj_Z)) : pj_K (Unit × pj_Z) := fun lv st z => pj_xr lv 0 124 0 <| pj_xi lv 1 fun a1 => pj_pr st 124 0 fun st => pj_pe st (f a1 z.1 z.2.1 z.2.2.1 z.2.2.2)
abbrev pe_X12_warmth_83 (f : Int32 → pj_F (Unit × pj_Z)) : pj_K (Unit × pj_Z) := fun lv st z => pj_xr lv 0 124 0 <| pj_xi lv 1 fun a1 => pj_pr st 124 0 fun st => pj_pe st (f a1 z.1 z.2.1 z.2.2.1 z.2.2.2)
abbrev pe_X12_warmth_84 (f : Int32 → Int32 → pj_F (Unit × pj_Z)) : pj_K (Unit × pj_Z) := fun lv st z => pj_xr lv 0 124 0 <| pj_xi lv 1 fun a1 => pj_pi st fun b1 st => pj_pr st 124 0 fun st => pj_pe st (f a1 b1 z.1 z.2.1 z.2.2.1 z.2.2.2)
abbrev pe_X12_warmth_119 (f : pj_F (Unit × pj_Z)) : pj_K (Unit × pj_Z) := fun lv st z => pj_pr st 124 0 fun st => pj_pe st (f  z.1 z.2.1 z.2.2.1 z.2.2.2)
abbrev pe_X12_warmth_123 (f : pj_F (Unit × pj_Z)) : pj_K (Unit × pj_Z) := fun lv st z => pj_pr st 124 0 fun st => pj_pe st (f  z.1 z.2.1 z.2.2.1 z.2.2.2)
abbrev pe_X12_warmth_124 (f : Int32 → pj_F (Unit × pj_Z)) : pj_K (Unit × pj_Z) := fun lv st z => pj_pi st fun b1 st => pj_pr st 124 0 fun st => pj_pe st (f b1 z.1 z.2.1 z.2.2.1 z.2.2.2)
abbrev px_X12_warmth : pj_C (Unit × pj_Z) := ((pj_as [(124, 12, 195, 1, 0, true, 0, [(1, 1), (2, 125), (2, 126), (2, 127), (2, 128), (2, 129), (2, 130), (2, 131), (2, 132), (2, 133), (1, 2), (0, 44), (2, 134), (2, 135), (2, 136), (2, 137), (2, 138), (0, 69), (2, 139), (2, 140), (2, 141), (1, 3), (0, 93), (0, 94), (0, 45), (0, 46), (0, 48), (0, 49), (0, 47), (0, 50), (0, 51), (2, 142), (2, 143), (2, 144), (0, 19), (1, 4), (1, 5), (1, 6), (0, 20), (0, 21), (0, 22), (0, 23), (0, 24), (0, 25), (0, 27), (0, 28), (1, 7), (1, 8), (1, 9), (1, 10), (1, 11), (0, 26), (2, 145), (2, 146), (2, 147), (2, 148), (2, 149), (2, 150), (2, 151), (2, 152), (2, 153), (2, 154), (2, 155), (2, 156), (2, 157), (2, 158), (2, 159), (0, 57), (0, 58), (0, 59), (0, 60), (2, 160), (2, 161), (2, 162), (2, 163), (1, 12), (1, 13), (0, 95), (0, 73), (0, 74), (0, 71), (0, 72), (0, 75), (0, 76), (0, 77), (0, 80), (0, 78), (0, 79), (1, 14), (0, 29), (0, 30), (0, 31), (0, 34), (0, 35), (0, 32), (0, 33), (0, 36), (0, 37), (0, 38), (0, 39), (0, 40), (1, 15), (1, 16), (0, 43), (0, 41), (0, 42), (2, 164), (0, 96), (0, 89), (0, 90), (0, 91), (0, 92), (2, 165), (2, 166), (2, 167), (2, 168), (2, 169), (2, 170), (2, 171), (2, 172), (0, 87), (2, 173), (0, 88), (2, 174), (0, 62), (1, 17), (0, 66), (0, 63), (0, 64), (0, 65), (0, 67), (1, 18), (0, 68), (2, 175), (1, 19), (0, 52), (0, 53), (0, 54), (0, 55), (2, 176), (0, 56), (0, 85), (0, 86), (0, 81), (0, 82), (0, 83), (0, 84), (2, 177), (2, 178), (2, 179), (1, 20), (2, 180), (0, 6), (0, 7), (0, 8), (0, 16), (0, 17), (0, 61), (0, 9), (0, 10), (1, 21), (1, 22), (0, 11), (0, 12), (0, 13), (0, 18), (0, 14), (0, 15), (2, 181), (0, 70), (1, 23), (2, 182), (2, 183), (0, 1), (1, 24), (2, 184), (2, 185), (1, 25), (0, 2), (2, 186), (2, 187), (1, 26), (2, 188), (2, 189), (1, 27), (1, 28), (2, 190), (2, 191), (1, 29), (0, 3), (2, 192), (0, 4), (0, 5), (1, 30), (2, 193)]), (127, 100, 24, 1, 0, true, 10000, []), (161, 100, 10, 1, 0, true, 34000, [])]), (pj_as [(19, 12, 3, 2, true), (133, 12, 72, 2, true), (480, 12, 97, 3, false), (483, 12, 98, 3, false), (486, 12, 99, 3, false)]), (fun _ => none), (fun _ => none), (fun _ => none), ic_X, 2, 0, pj_mU, (fun _ => none), fun _ => false)
abbrev pk_X12_warmth : List (Nat × List (Nat × Instr × Nat)) := [(0, [(0, .aload_n 0, 1), (1, .getfield 133, 3), (4, .iconst 5, 1), (5, .iaload, 1), (6, .istore_n 1, 1), (7, .aload_n 0, 1), (8, .iload_n 1, 1), (9, .aload_n 0, 1), (10, .getfield 19, 3), (13, .bipush 8, 2), (15, .iaload, 1), (16, .if_icmp .ge 23, 3)]), (19, [(19, .aload_n 0, 1), (20, .getfield 480, 3), (23, .ifCond .eq 20, 3)]), (26, [(26, .iload_n 1, 1), (27, .aload_n 0, 1), (28, .getfield 19, 3), (31, .bipush 8, 2), (33, .iaload, 1), (34, .iconst 5, 1), (35, .isub, 1), (36, .if_icmp .lt 7, 3)]), (39, [(39, .iconst 1, 1), (40, .goto 4, 3)]), (43, [(43, .iconst 0, 1)]), (44, [(44, .putfield 480, 3), (47, .aload_n 0, 1), (48, .iload_n 1, 1), (49, .aload_n 0, 1), (50, .getfield 19, 3), (53, .bipush 14, 2), (55, .iaload, 1), (56, .if_icmp .ge 23, 3)]), (59, [(59, .aload_n 0, 1), (60, .getfield 483, 3), (63, .ifCond .eq 20, 3)]), (66, [(66, .iload_n 1, 1), (67, .aload_n 0, 1), (68, .getfield 19, 3), (71, .bipush 14, 2), (73, .iaload, 1), (74, .iconst 5, 1), (75, .isub, 1), (76, .if_icmp .lt 7, 3)]), (79, [(79, .iconst 1, 1), (80, .goto 4, 3)]), (83, [(83, .iconst 0, 1)]), (84, [(84, .putfield 483, 3), (87, .aload_n 0, 1), (88, .iload_n 1, 1), (89, .aload_n 0, 1), (90, .getfield 19, 3), (93, .bipush 15, 2), (95, .iaload, 1), (96, .if_icmp .ge 23, 3)]), (99, [(99, .aload_n 0, 1), (100, .getfield 486, 3), (103, .ifCond .eq 20, 3)]), (106, [(106, .iload_n 1, 1), (107, .aload_n 0, 1), (108, .getfield 19, 3), (111, .bipush 15, 2), (113, .iaload, 1), (114, .iconst 5, 1), (115, .isub, 1), (116, .if_icmp .lt 7, 3)]), (119, [(119, .iconst 1, 1), (120, .goto 4, 3)]), (123, [(123, .iconst 0, 1)]), (124, [(124, .putfield 486, 3), (127, .return_, 1)])]
set_option maxRecDepth 100000 in
theorem pq_X12_warmth_124  (b1 : Int32) (s : Nat → Int32) (l : Nat → Int64) (x : Nat → Int32) (y : Nat → Int64) : pl_X12_warmth_124 b1 s l x y = pj_bl px_X12_warmth (pj_rn px_X12_warmth (pj_as pk_X12_warmth) (fun _ => none) 60) [(124, .putfield 486, 3), (127, .return_, 1)] 124 [] [pj_I b1, pj_O (124, 0)] (s, l, x, y) := rfl
set_option maxRecDepth 100000 in
theorem pq_X12_warmth_119   (s : Nat → Int32) (l : Nat → Int64) (x : Nat → Int32) (y : Nat → Int64) : pl_X12_warmth_119 s l x y = pj_bl px_X12_warmth (pj_rn px_X12_warmth (pj_as pk_X12_warmth) (pj_as [(124, pe_X12_warmth_124 (pl_X12_warmth_124))]) 60) [(119, .iconst 1, 1), (120, .goto 4, 3)] 119 [] [pj_O (124, 0)] (s, l, x, y) := rfl
set_option maxRecDepth 100000 in
theorem pq_X12_warmth_123   (s : Nat → Int32) (l : Nat → Int64) (x : Nat → Int32) (y : Nat → Int64) : pl_X12_warmth_123 s l x y = pj_bl px_X12_warmth (pj_rn px_X12_warmth (pj_as pk_X12_warmth) (pj_as [(124, pe_X12_warmth_124 (pl_X12_warmth_124))]) 60) [(123, .iconst 0, 1)] 123 [] [pj_O (124, 0)] (s, l, x, y) := rfl
set_option maxRecDepth 100000 in
theorem pq_X12_warmth_84  (a1 : Int32) (b1 : Int32) (s : Nat → Int32) (l : Nat → Int64) (x : Nat → Int32) (y : Nat → Int64) : pl_X12_warmth_84 a1 b1 s l x y = pj_bl px_X12_warmth (pj_rn px_X12_warmth (pj_as pk_X12_warmth) (pj_as [(119, pe_X12_warmth_119 (pl_X12_warmth_119)), (123, pe_X12_warmth_123 (pl_X12_warmth_123))]) 60) [(84, .putfield 483, 3), (87, .aload_n 0, 1), (88, .iload_n 1, 1), (89, .aload_n 0, 1), (90, .getfield 19, 3), (93, .bipush 15, 2), (95, .iaload, 1), (96, .if_icmp .ge 23, 3)] 84 [(0, pj_O (124, 0)), (1, pj_I a1)] [pj_I b1, pj_O (124, 0)] (s, l, x, y) := rfl
set_option maxRecDepth 100000 in
theorem pq_X12_warmth_79  (a1 : Int32) (s : Nat → Int32) (l : Nat → Int64) (x : Nat → Int32) (y : Nat → Int64) : pl_X12_warmth_79 a1 s l x y = pj_bl px_X12_warmth (pj_rn px_X12_warmth (pj_as pk_X12_warmth) (pj_as [(84, pe_X12_warmth_84 (pl_X12_warmth_84))]) 60) [(79, .iconst 1, 1), (80, .goto 4, 3)] 79 [(0, pj_O (124, 0)), (1, pj_I a1)] [pj_O (124, 0)] (s, l, x, y) := rfl
set_option maxRecDepth 100000 in
theorem pq_X12_warmth_83  (a1 : Int32) (s : Nat → Int32) (l : Nat → Int64) (x : Nat → Int32) (y : Nat → Int64) : pl_X12_warmth_83 a1 s l x y = pj_bl px_X12_warmth (pj_rn px_X12_warmth (pj_as pk_X12_warmth) (pj_as [(84, pe_X12_warmth_84 (pl_X12_warmth_84))]) 60) [(83, .iconst 0, 1)] 83 [(0, pj_O (124, 0)), (1, pj_I a1)] [pj_O (124, 0)] (s, l, x, y) := rfl
set_option maxRecDepth 100000 in
theorem pq_X12_warmth_44  (a1 : Int32) (b1 : Int32) (s : Nat → Int32) (l : Nat → Int64) (x : Nat → Int32) (y : Nat → Int64) : pl_X12_warmth_44 a1 b1 s l x y = pj_bl px_X12_warmth (pj_rn px_X12_warmth (pj_as pk_X12_warmth) (pj_as [(79, pe_X12_warmth_79 (pl_X12_warmth_79)), (83, pe_X12_warmth_83 (pl_X12_warmth_83))]) 60) [(44, .putfield 480, 3), (47, .aload_n 0, 1), (48, .iload_n 1, 1), (49, .aload_n 0, 1), (50, .getfield 19, 3), (53, .bipush 14, 2), (55, .iaload, 1), (56, .if_icmp .ge 23, 3)] 44 [(0, pj_O (124, 0)), (1, pj_I a1)] [pj_I b1, pj_O (124, 0)] (s, l, x, y) := rfl
set_option maxRecDepth 100000 in
theorem pq_X12_warmth_39  (a1 : Int32) (s : Nat → Int32) (l : Nat → Int64) (x : Nat → Int32) (y : Nat → Int64) : pl_X12_warmth_39 a1 s l x y = pj_bl px_X12_warmth (pj_rn px_X12_warmth (pj_as pk_X12_warmth) (pj_as [(44, pe_X12_warmth_44 (pl_X12_warmth_44))]) 60) [(39, .iconst 1, 1), (40, .goto 4, 3)] 39 [(0, pj_O (124, 0)), (1, pj_I a1)] [pj_O (124, 0)] (s, l, x, y) := rfl
set_option maxRecDepth 100000 in
theorem pq_X12_warmth_43  (a1 : Int32) (s : Nat → Int32) (l : Nat → Int64) (x : Nat → Int32) (y : Nat → Int64) : pl_X12_warmth_43 a1 s l x y = pj_bl px_X12_warmth (pj_rn px_X12_warmth (pj_as pk_X12_warmth) (pj_as [(44, pe_X12_warmth_44 (pl_X12_warmth_44))]) 60) [(43, .iconst 0, 1)] 43 [(0, pj_O (124, 0)), (1, pj_I a1)] [pj_O (124, 0)] (s, l, x, y) := rfl
set_option maxRecDepth 100000 in
theorem pq_X12_warmth_m   (s : Nat → Int32) (l : Nat → Int64) (x : Nat → Int32) (y : Nat → Int64) : pf_X12_warmth  s l x y = pj_bl px_X12_warmth (pj_rn px_X12_warmth (pj_as pk_X12_warmth) (pj_as [(39, pe_X12_warmth_39 (pl_X12_warmth_39)), (43, pe_X12_warmth_43 (pl_X12_warmth_43))]) 60) [(0, .aload_n 0, 1), (1, .getfield 133, 3), (4, .iconst 5, 1), (5, .iaload, 1), (6, .istore_n 1, 1), (7, .aload_n 0, 1), (8, .iload_n 1, 1), (9, .aload_n 0, 1), (10, .getfield 19, 3), (13, .bipush 8, 2), (15, .iaload, 1), (16, .if_icmp .ge 23, 3)] 0 [(0, pj_O (124, 0))] [] (s, l, x, y) := rfl
theorem pu_X12_warmth_39 {lf : pj_Z → mj_M} {a : Unit × pj_Z} (f : Int32 → pj_F (Unit × pj_Z)) (hf : ∀ (a1 : Int32) (s : Nat → Int32) (l : Nat → Int64) (x : Nat → Int32) (y : Nat → Int64), f a1 s l x y = some a → pm_Gd 0 12058 ie_X12_warmth.1 pm_rU lf 39 [(0, .ref 124), (1, .int a1)] [.ref 124] (s, l, x, y) a) : pm_Ex 0 12058 ie_X12_warmth.1 pm_rU lf a 39 (pe_X12_warmth_39 f) := by
  intro lv st z hd h
  obtain ⟨g0, h⟩ := pj_xr_inv h
  obtain ⟨a1, g1, h⟩ := pj_xi_inv h
  obtain ⟨r0, e0, h⟩ := pj_pr_inv h
  obtain ⟨e9, h⟩ := pj_pe_inv h
  rw [e0, e9]
  exact mj_wp_sub (mj_sub_cons g0 (mj_sub_cons g1 (mj_sub_nil hd))) (hf _ _ _ _ _ h)
theorem pu_X12_warmth_43 {lf : pj_Z → mj_M} {a : Unit × pj_Z} (f : Int32 → pj_F (Unit × pj_Z)) (hf : ∀ (a1 : Int32) (s : Nat → Int32) (l : Nat → Int64) (x : Nat → Int32) (y : Nat → Int64), f a1 s l x y = some a → pm_Gd 0 12058 ie_X12_warmth.1 pm_rU lf 43 [(0, .ref 124), (1, .int a1)] [.ref 124] (s, l, x, y) a) : pm_Ex 0 12058 ie_X12_warmth.1 pm_rU lf a 43 (pe_X12_warmth_43 f) := by
  intro lv st z hd h
  obtain ⟨g0, h⟩ := pj_xr_inv h
  obtain ⟨a1, g1, h⟩ := pj_xi_inv h
  obtain ⟨r0, e0, h⟩ := pj_pr_inv h
  obtain ⟨e9, h⟩ := pj_pe_inv h
  rw [e0, e9]
  exact mj_wp_sub (mj_sub_cons g0 (mj_sub_cons g1 (mj_sub_nil hd))) (hf _ _ _ _ _ h)
theorem pu_X12_warmth_44 {lf : pj_Z → mj_M} {a : Unit × pj_Z} (f : Int32 → Int32 → pj_F (Unit × pj_Z)) (hf : ∀ (a1 : Int32) (b1 : Int32) (s : Nat → Int32) (l : Nat → Int64) (x : Nat → Int32) (y : Nat → Int64), f a1 b1 s l x y = some a → pm_Gd 0 12058 ie_X12_warmth.1 pm_rU lf 44 [(0, .ref 124), (1, .int a1)] [.int b1, .ref 124] (s, l, x, y) a) : pm_Ex 0 12058 ie_X12_warmth.1 pm_rU lf a 44 (pe_X12_warmth_44 f) := by
  intro lv st z hd h
  obtain ⟨g0, h⟩ := pj_xr_inv h
  obtain ⟨a1, g1, h⟩ := pj_xi_inv h
  obtain ⟨b1, r1, e1, h⟩ := pj_pi_inv h
  obtain ⟨r0, e0, h⟩ := pj_pr_inv h
  obtain ⟨e9, h⟩ := pj_pe_inv h
  rw [e1, e0, e9]
  exact mj_wp_sub (mj_sub_cons g0 (mj_sub_cons g1 (mj_sub_nil hd))) (hf _ _ _ _ _ _ h)
theorem pu_X12_warmth_79 {lf : pj_Z → mj_M} {a : Unit × pj_Z} (f : Int32 → pj_F (Unit × pj_Z)) (hf : ∀ (a1 : Int32) (s : Nat → Int32) (l : Nat → Int64) (x : Nat → Int32) (y : Nat → Int64), f a1 s l x y = some a → pm_Gd 0 12058 ie_X12_warmth.1 pm_rU lf 79 [(0, .ref 124), (1, .int a1)] [.ref 124] (s, l, x, y) a) : pm_Ex 0 12058 ie_X12_warmth.1 pm_rU lf a 79 (pe_X12_warmth_79 f) := by
  intro lv st z hd h
  obtain ⟨g0, h⟩ := pj_xr_inv h
  obtain ⟨a1, g1, h⟩ := pj_xi_inv h
  obtain ⟨r0, e0, h⟩ := pj_pr_inv h
  obtain ⟨e9, h⟩ := pj_pe_inv h
  rw [e0, e9]
  exact mj_wp_sub (mj_sub_cons g0 (mj_sub_cons g1 (mj_sub_nil hd))) (hf _ _ _ _ _ h)
theorem pu_X12_warmth_83 {lf : pj_Z → mj_M} {a : Unit × pj_Z} (f : Int32 → pj_F (Unit × pj_Z)) (hf : ∀ (a1 : Int32) (s : Nat → Int32) (l : Nat → Int64) (x : Nat → Int32) (y : Nat → Int64), f a1 s l x y = some a → pm_Gd 0 12058 ie_X12_warmth.1 pm_rU lf 83 [(0, .ref 124), (1, .int a1)] [.ref 124] (s, l, x, y) a) : pm_Ex 0 12058 ie_X12_warmth.1 pm_rU lf a 83 (pe_X12_warmth_83 f) := by
  intro lv st z hd h
  obtain ⟨g0, h⟩ := pj_xr_inv h
  obtain ⟨a1, g1, h⟩ := pj_xi_inv h
  obtain ⟨r0, e0, h⟩ := pj_pr_inv h
  obtain ⟨e9, h⟩ := pj_pe_inv h
  rw [e0, e9]
  exact mj_wp_sub (mj_sub_cons g0 (mj_sub_cons g1 (mj_sub_nil hd))) (hf _ _ _ _ _ h)
theorem pu_X12_warmth_84 {lf : pj_Z → mj_M} {a : Unit × pj_Z} (f : Int32 → Int32 → pj_F (Unit × pj_Z)) (hf : ∀ (a1 : Int32) (b1 : Int32) (s : Nat → Int32) (l : Nat → Int64) (x : Nat → Int32) (y : Nat → Int64), f a1 b1 s l x y = some a → pm_Gd 0 12058 ie_X12_warmth.1 pm_rU lf 84 [(0, .ref 124), (1, .int a1)] [.int b1, .ref 124] (s, l, x, y) a) : pm_Ex 0 12058 ie_X12_warmth.1 pm_rU lf a 84 (pe_X12_warmth_84 f) := by
  intro lv st z hd h
  obtain ⟨g0, h⟩ := pj_xr_inv h
  obtain ⟨a1, g1, h⟩ := pj_xi_inv h
  obtain ⟨b1, r1, e1, h⟩ := pj_pi_inv h
  obtain ⟨r0, e0, h⟩ := pj_pr_inv h
  obtain ⟨e9, h⟩ := pj_pe_inv h
  rw [e1, e0, e9]
  exact mj_wp_sub (mj_sub_cons g0 (mj_sub_cons g1 (mj_sub_nil hd))) (hf _ _ _ _ _ _ h)
theorem pu_X12_warmth_119 {lf : pj_Z → mj_M} {a : Unit × pj_Z} (f : pj_F (Unit × pj_Z)) (hf : ∀  (s : Nat → Int32) (l : Nat → Int64) (x : Nat → Int32) (y : Nat → Int64), f  s l x y = some a → pm_Gd 0 12058 ie_X12_warmth.1 pm_rU lf 119 [] [.ref 124] (s, l, x, y) a) : pm_Ex 0 12058 ie_X12_warmth.1 pm_rU lf a 119 (pe_X12_warmth_119 f) := by
  intro lv st z hd h
  obtain ⟨r0, e0, h⟩ := pj_pr_inv h
  obtain ⟨e9, h⟩ := pj_pe_inv h
  rw [e0, e9]
  exact mj_wp_sub (mj_sub_nil hd) (hf  _ _ _ _ h)
theorem pu_X12_warmth_123 {lf : pj_Z → mj_M} {a : Unit × pj_Z} (f : pj_F (Unit × pj_Z)) (hf : ∀  (s : Nat → Int32) (l : Nat → Int64) (x : Nat → Int32) (y : Nat → Int64), f  s l x y = some a → pm_Gd 0 12058 ie_X12_warmth.1 pm_rU lf 123 [] [.ref 124] (s, l, x, y) a) : pm_Ex 0 12058 ie_X12_warmth.1 pm_rU lf a 123 (pe_X12_warmth_123 f) := by
  intro lv st z hd h
  obtain ⟨r0, e0, h⟩ := pj_pr_inv h
  obtain ⟨e9, h⟩ := pj_pe_inv h
  rw [e0, e9]
  exact mj_wp_sub (mj_sub_nil hd) (hf  _ _ _ _ h)
theorem pu_X12_warmth_124 {lf : pj_Z → mj_M} {a : Unit × pj_Z} (f : Int32 → pj_F (Unit × pj_Z)) (hf : ∀ (b1 : Int32) (s : Nat → Int32) (l : Nat → Int64) (x : Nat → Int32) (y : Nat → Int64), f b1 s l x y = some a → pm_Gd 0 12058 ie_X12_warmth.1 pm_rU lf 124 [] [.int b1, .ref 124] (s, l, x, y) a) : pm_Ex 0 12058 ie_X12_warmth.1 pm_rU lf a 124 (pe_X12_warmth_124 f) := by
  intro lv st z hd h
  obtain ⟨b1, r1, e1, h⟩ := pj_pi_inv h
  obtain ⟨r0, e0, h⟩ := pj_pr_inv h
  obtain ⟨e9, h⟩ := pj_pe_inv h
  rw [e1, e0, e9]
  exact mj_wp_sub (mj_sub_nil hd) (hf _ _ _ _ _ h)
set_option maxRecDepth 100000 in
theorem pz_X12_warmth {lf : pj_Z → mj_M} (hT : pj_Lt pj_TR lf) : pj_Cok ic_P (mj_R ic_P 0) 12058 ie_X12_warmth.1 (pm_OK lf pm_rU) lf px_X12_warmth := by
  exact pm_cok (c := px_X12_warmth) (pm_part hT (pj_as_all (p := fun b e => pj_TR b = some e) (List.forall_mem_cons.mpr ⟨rfl, (List.forall_mem_cons.mpr ⟨rfl, (List.forall_mem_cons.mpr ⟨rfl, (fun _ h => by cases h)⟩)⟩)⟩))) (pm_in_ok (L := [(19, 12, 3, 2, true), (133, 12, 72, 2, true), (480, 12, 97, 3, false), (483, 12, 98, 3, false), (486, 12, 99, 3, false)]) (f := mj_pF ic_P 12058) (by decide +kernel)) (fun _ _ h => by cases h) (fun _ _ h => by cases h) (fun _ _ h => by cases h) rfl rfl ⟨by decide, rfl⟩ pm_mU (fun _ _ h => by cases h) (fun _ h => by cases h)
set_option maxRecDepth 100000 in
theorem pb_X12_warmth : pm_bks ie_X12_warmth.1.2.2.2.2 pk_X12_warmth = true := by decide +kernel
set_option maxRecDepth 100000 in
theorem pg_X12_warmth_124 {lf : pj_Z → mj_M} (hT : pj_Lt pj_TR lf) : ∀ (b1 : Int32) (s : Nat → Int32) (l : Nat → Int64) (x : Nat → Int32) (y : Nat → Int64) (a : Unit × pj_Z), pl_X12_warmth_124 b1 s l x y = some a → pm_Gd 0 12058 ie_X12_warmth.1 pm_rU lf 124 [] [.int b1, .ref 124] (s, l, x, y) a := by
  intro b1 s l x y a h
  exact pm_run ((pq_X12_warmth_124  b1 s l x y).symm.trans h) (pz_X12_warmth hT) (pm_bks_ok pb_X12_warmth) (pm_bks_ok pb_X12_warmth _ _ rfl) (pm_ndb_ok rfl) (fun _ _ h => by cases h)
set_option maxRecDepth 100000 in
theorem pg_X12_warmth_119 {lf : pj_Z → mj_M} (hT : pj_Lt pj_TR lf) : ∀  (s : Nat → Int32) (l : Nat → Int64) (x : Nat → Int32) (y : Nat → Int64) (a : Unit × pj_Z), pl_X12_warmth_119 s l x y = some a → pm_Gd 0 12058 ie_X12_warmth.1 pm_rU lf 119 [] [.ref 124] (s, l, x, y) a := by
  intro  s l x y a h
  exact pm_run ((pq_X12_warmth_119   s l x y).symm.trans h) (pz_X12_warmth hT) (pm_bks_ok pb_X12_warmth) (pm_bks_ok pb_X12_warmth _ _ rfl) (pm_ndb_ok rfl) (pj_as_all (p := pm_Ex 0 12058 ie_X12_warmth.1 pm_rU lf a) (List.forall_mem_cons.mpr ⟨pu_X12_warmth_124 _ (fun c0 s l x y h => pg_X12_warmth_124 hT c0 s l x y _ h), (fun _ h => by cases h)⟩))
set_option maxRecDepth 100000 in
theorem pg_X12_warmth_123 {lf : pj_Z → mj_M} (hT : pj_Lt pj_TR lf) : ∀  (s : Nat → Int32) (l : Nat → Int64) (x : Nat → Int32) (y : Nat → Int64) (a : Unit × pj_Z), pl_X12_warmth_123 s l x y = some a → pm_Gd 0 12058 ie_X12_warmth.1 pm_rU lf 123 [] [.ref 124] (s, l, x, y) a := by
  intro  s l x y a h
  exact pm_run ((pq_X12_warmth_123   s l x y).symm.trans h) (pz_X12_warmth hT) (pm_bks_ok pb_X12_warmth) (pm_bks_ok pb_X12_warmth _ _ rfl) (pm_ndb_ok rfl) (pj_as_all (p := pm_Ex 0 12058 ie_X12_warmth.1 pm_rU lf a) (List.forall_mem_cons.mpr ⟨pu_X12_warmth_124 _ (fun c0 s l x y h => pg_X12_warmth_124 hT c0 s l x y _ h), (fun _ h => by cases h)⟩))
set_option maxRecDepth 100000 in
theorem pg_X12_warmth_84 {lf : pj_Z → mj_M} (hT : pj_Lt pj_TR lf) : ∀ (a1 : Int32) (b1 : Int32) (s : Nat → Int32) (l : Nat → Int64) (x : Nat → Int32) (y : Nat → Int64) (a : Unit × pj_Z), pl_X12_warmth_84 a1 b1 s l x y = some a → pm_Gd 0 12058 ie_X12_warmth.1 pm_rU lf 84 [(0, .ref 124), (1, .int a1)] [.int b1, .ref 124] (s, l, x, y) a := by
  intro a1 b1 s l x y a h
  exact pm_run ((pq_X12_warmth_84  a1 b1 s l x y).symm.trans h) (pz_X12_warmth hT) (pm_bks_ok pb_X12_warmth) (pm_bks_ok pb_X12_warmth _ _ rfl) (pm_ndb_ok rfl) (pj_as_all (p := pm_Ex 0 12058 ie_X12_warmth.1 pm_rU lf a) (List.forall_mem_cons.mpr ⟨pu_X12_warmth_119 _ (fun  s l x y h => pg_X12_warmth_119 hT  s l x y _ h), (List.forall_mem_cons.mpr ⟨pu_X12_warmth_123 _ (fun  s l x y h => pg_X12_warmth_123 hT  s l x y _ h), (fun _ h => by cases h)⟩)⟩))
set_option maxRecDepth 100000 in
theorem pg_X12_warmth_79 {lf : pj_Z → mj_M} (hT : pj_Lt pj_TR lf) : ∀ (a1 : Int32) (s : Nat → Int32) (l : Nat → Int64) (x : Nat → Int32) (y : Nat → Int64) (a : Unit × pj_Z), pl_X12_warmth_79 a1 s l x y = some a → pm_Gd 0 12058 ie_X12_warmth.1 pm_rU lf 79 [(0, .ref 124), (1, .int a1)] [.ref 124] (s, l, x, y) a := by
  intro a1 s l x y a h
  exact pm_run ((pq_X12_warmth_79  a1 s l x y).symm.trans h) (pz_X12_warmth hT) (pm_bks_ok pb_X12_warmth) (pm_bks_ok pb_X12_warmth _ _ rfl) (pm_ndb_ok rfl) (pj_as_all (p := pm_Ex 0 12058 ie_X12_warmth.1 pm_rU lf a) (List.forall_mem_cons.mpr ⟨pu_X12_warmth_84 _ (fun c0 c1 s l x y h => pg_X12_warmth_84 hT c0 c1 s l x y _ h), (fun _ h => by cases h)⟩))
set_option maxRecDepth 100000 in
theorem pg_X12_warmth_83 {lf : pj_Z → mj_M} (hT : pj_Lt pj_TR lf) : ∀ (a1 : Int32) (s : Nat → Int32) (l : Nat → Int64) (x : Nat → Int32) (y : Nat → Int64) (a : Unit × pj_Z), pl_X12_warmth_83 a1 s l x y = some a → pm_Gd 0 12058 ie_X12_warmth.1 pm_rU lf 83 [(0, .ref 124), (1, .int a1)] [.ref 124] (s, l, x, y) a := by
  intro a1 s l x y a h
  exact pm_run ((pq_X12_warmth_83  a1 s l x y).symm.trans h) (pz_X12_warmth hT) (pm_bks_ok pb_X12_warmth) (pm_bks_ok pb_X12_warmth _ _ rfl) (pm_ndb_ok rfl) (pj_as_all (p := pm_Ex 0 12058 ie_X12_warmth.1 pm_rU lf a) (List.forall_mem_cons.mpr ⟨pu_X12_warmth_84 _ (fun c0 c1 s l x y h => pg_X12_warmth_84 hT c0 c1 s l x y _ h), (fun _ h => by cases h)⟩))
set_option maxRecDepth 100000 in
theorem pg_X12_warmth_44 {lf : pj_Z → mj_M} (hT : pj_Lt pj_TR lf) : ∀ (a1 : Int32) (b1 : Int32) (s : Nat → Int32) (l : Nat → Int64) (x : Nat → Int32) (y : Nat → Int64) (a : Unit × pj_Z), pl_X12_warmth_44 a1 b1 s l x y = some a → pm_Gd 0 12058 ie_X12_warmth.1 pm_rU lf 44 [(0, .ref 124), (1, .int a1)] [.int b1, .ref 124] (s, l, x, y) a := by
  intro a1 b1 s l x y a h
  exact pm_run ((pq_X12_warmth_44  a1 b1 s l x y).symm.trans h) (pz_X12_warmth hT) (pm_bks_ok pb_X12_warmth) (pm_bks_ok pb_X12_warmth _ _ rfl) (pm_ndb_ok rfl) (pj_as_all (p := pm_Ex 0 12058 ie_X12_warmth.1 pm_rU lf a) (List.forall_mem_cons.mpr ⟨pu_X12_warmth_79 _ (fun c0 s l x y h => pg_X12_warmth_79 hT c0 s l x y _ h), (List.forall_mem_cons.mpr ⟨pu_X12_warmth_83 _ (fun c0 s l x y h => pg_X12_warmth_83 hT c0 s l x y _ h), (fun _ h => by cases h)⟩)⟩))
set_option maxRecDepth 100000 in
theorem pg_X12_warmth_39 {lf : pj_Z → mj_M} (hT : pj_Lt pj_TR lf) : ∀ (a1 : Int32) (s : Nat → Int32) (l : Nat → Int64) (x : Nat → Int32) (y : Nat → Int64) (a : Unit × pj_Z), pl_X12_warmth_39 a1 s l x y = some a → pm_Gd 0 12058 ie_X12_warmth.1 pm_rU lf 39 [(0, .ref 124), (1, .int a1)] [.ref 124] (s, l, x, y) a := by
  intro a1 s l x y a h
  exact pm_run ((pq_X12_warmth_39  a1 s l x y).symm.trans h) (pz_X12_warmth hT) (pm_bks_ok pb_X12_warmth) (pm_bks_ok pb_X12_warmth _ _ rfl) (pm_ndb_ok rfl) (pj_as_all (p := pm_Ex 0 12058 ie_X12_warmth.1 pm_rU lf a) (List.forall_mem_cons.mpr ⟨pu_X12_warmth_44 _ (fun c0 c1 s l x y h => pg_X12_warmth_44 hT c0 c1 s l x y _ h), (fun _ h => by cases h)⟩))
set_option maxRecDepth 100000 in
theorem pg_X12_warmth_43 {lf : pj_Z → mj_M} (hT : pj_Lt pj_TR lf) : ∀ (a1 : Int32) (s : Nat → Int32) (l : Nat → Int64) (x : Nat → Int32) (y : Nat → Int64) (a : Unit × pj_Z), pl_X12_warmth_43 a1 s l x y = some a → pm_Gd 0 12058 ie_X12_warmth.1 pm_rU lf 43 [(0, .ref 124), (1, .int a1)] [.ref 124] (s, l, x, y) a := by
  intro a1 s l x y a h
  exact pm_run ((pq_X12_warmth_43  a1 s l x y).symm.trans h) (pz_X12_warmth hT) (pm_bks_ok pb_X12_warmth) (pm_bks_ok pb_X12_warmth _ _ rfl) (pm_ndb_ok rfl) (pj_as_all (p := pm_Ex 0 12058 ie_X12_warmth.1 pm_rU lf a) (List.forall_mem_cons.mpr ⟨pu_X12_warmth_44 _ (fun c0 c1 s l x y h => pg_X12_warmth_44 hT c0 c1 s l x y _ h), (fun _ h => by cases h)⟩))
set_option maxRecDepth 100000 in
theorem pm_X12_warmth {lf : pj_Z → mj_M} (hT : pj_Lt pj_TR lf)  (s : Nat → Int32) (l : Nat → Int64) (x : Nat → Int32) (y : Nat → Int64) (a : Unit × pj_Z) (h : pf_X12_warmth  s l x y = some a) : mj_R ic_P 1 12058 [.ref 124] (lf (s, l, x, y)) (pm_rU a.1) (lf a.2) := by
  refine pm_main (Y := ie_X12_warmth.1) rfl (Nat.le_of_ble_eq_true rfl) ?_
  exact pm_run ((pq_X12_warmth_m  s l x y).symm.trans h) (pz_X12_warmth hT) (pm_bks_ok pb_X12_warmth) (pm_bks_ok pb_X12_warmth _ _ rfl) (pm_ndb_ok rfl) (pj_as_all (p := pm_Ex 0 12058 ie_X12_warmth.1 pm_rU lf a) (List.forall_mem_cons.mpr ⟨pu_X12_warmth_39 _ (fun c0 s l x y h => pg_X12_warmth_39 hT c0 s l x y _ h), (List.forall_mem_cons.mpr ⟨pu_X12_warmth_43 _ (fun c0 s l x y h => pg_X12_warmth_43 hT c0 s l x y _ h), (fun _ h => by cases h)⟩)⟩))
abbrev ph_X12_warmth {A : Type} : List pj_V → pj_Z → (List pj_V → pj_Z → Option A) → Option A := fun st z K => pj_pr st 124 0 fun st => pj_ps st (pj_b (pf_X12_warmth  z.1 z.2.1 z.2.2.1 z.2.2.2) fun r s l x y => K st (s, l, x, y))
set_option maxRecDepth 100000 in
theorem pc_X12_warmth {A : Type} {OK : A → Option Value → mj_M → Prop} {d j pc ix : Nat} {Y : mj_Y} {lf : pj_Z → mj_M} (hT : pj_Lt pj_TR lf) (hd : 1 ≤ d) (hl : mj_lk Y.2.2.2.2 pc = some (.invokevirtual ix, 3)) (hg : mj_pG ic_P j ix = some (12058, 0, some 12)) {lv : List (Nat × Value)} {st : List pj_V} {z : pj_Z} {K : List pj_V → pj_Z → Option A} {a : A} (hK : ∀ st z, K st z = some a → pj_Gd ic_P (mj_R ic_P d) j Y OK lf (pc + 3) lv (pj_es st) z a) (h : ph_X12_warmth st z K = some a) : pj_Gd ic_P (mj_R ic_P d) j Y OK lf pc lv (pj_es st) z a := by
  obtain ⟨r0, e0, h⟩ := pj_pr_inv h
  obtain ⟨hs, h⟩ := pj_ps_inv h
  obtain ⟨q, hq, h⟩ := pj_b_inv h
  exact pm_cv (o := 124) hl hg [] rfl (by rw [e0]; rfl) hs (by decide) ((hT.2 124 _ rfl).1.2 z 0 (by decide)) (pm_rU q.1) hd (pm_X12_warmth hT  z.1 z.2.1 z.2.2.1 z.2.2.2 q hq) rfl (hK _ _ h)
abbrev pe_X12_cellNow_31 (f : Int32 → Int32 → pj_F (Int32 × pj_Z)) : pj_K (Int32 × pj_Z) := fun lv st z => pj_xi lv 1 fun a1 => pj_pi st fun b0 st => pj_pe st (f a1 b0 z.1 z.2.1 z.2.2.1 z.2.2.2)
abbrev pe_X12_cellNow_43 (f : Int32 → Int32 → pj_F (Int32 × pj_Z)) : pj_K (Int32 × pj_Z) := fun lv st z => pj_xi lv 2 fun a2 => pj_pi st fun b1 st => pj_pc st 4 fun st => pj_pe st (f a2 b1 z.1 z.2.1 z.2.2.1 z.2.2.2)
abbrev pe_X12_cellNow_54 (f : Int32 → Int32 → pj_F (Int32 × pj_Z)) : pj_K (Int32 × pj_Z) := fun lv st z => pj_pi st fun b1 st => pj_pi st fun b0 st => pj_pe st (f b0 b1 z.1 z.2.1 z.2.2.1 z.2.2.2)
abbrev px_X12_cellNow : pj_C (Int32 × pj_Z) := ((pj_as [(124, 12, 195, 1, 0, true, 0, [(1, 1), (2, 125), (2, 126), (2, 127), (2, 128), (2, 129), (2, 130), (2, 131), (2, 132), (2, 133), (1, 2), (0, 44), (2, 134), (2, 135), (2, 136), (2, 137), (2, 138), (0, 69), (2, 139), (2, 140), (2, 141), (1, 3), (0, 93), (0, 94), (0, 45), (0, 46), (0, 48), (0, 49), (0, 47), (0, 50), (0, 51), (2, 142), (2, 143), (2, 144), (0, 19), (1, 4), (1, 5), (1, 6), (0, 20), (0, 21), (0, 22), (0, 23), (0, 24), (0, 25), (0, 27), (0, 28), (1, 7), (1, 8), (1, 9), (1, 10), (1, 11), (0, 26), (2, 145), (2, 146), (2, 147), (2, 148), (2, 149), (2, 150), (2, 151), (2, 152), (2, 153), (2, 154), (2, 155), (2, 156), (2, 157), (2, 158), (2, 159), (0, 57), (0, 58), (0, 59), (0, 60), (2, 160), (2, 161), (2, 162), (2, 163), (1, 12), (1, 13), (0, 95), (0, 73), (0, 74), (0, 71), (0, 72), (0, 75), (0, 76), (0, 77), (0, 80), (0, 78), (0, 79), (1, 14), (0, 29), (0, 30), (0, 31), (0, 34), (0, 35), (0, 32), (0, 33), (0, 36), (0, 37), (0, 38), (0, 39), (0, 40), (1, 15), (1, 16), (0, 43), (0, 41), (0, 42), (2, 164), (0, 96), (0, 89), (0, 90), (0, 91), (0, 92), (2, 165), (2, 166), (2, 167), (2, 168), (2, 169), (2, 170), (2, 171), (2, 172), (0, 87), (2, 173), (0, 88), (2, 174), (0, 62), (1, 17), (0, 66), (0, 63), (0, 64), (0, 65), (0, 67), (1, 18), (0, 68), (2, 175), (1, 19), (0, 52), (0, 53), (0, 54), (0, 55), (2, 176), (0, 56), (0, 85), (0, 86), (0, 81), (0, 82), (0, 83), (0, 84), (2, 177), (2, 178), (2, 179), (1, 20), (2, 180), (0, 6), (0, 7), (0, 8), (0, 16), (0, 17), (0, 61), (0, 9), (0, 10), (1, 21), (1, 22), (0, 11), (0, 12), (0, 13), (0, 18), (0, 14), (0, 15), (2, 181), (0, 70), (1, 23), (2, 182), (2, 183), (0, 1), (1, 24), (2, 184), (2, 185), (1, 25), (0, 2), (2, 186), (2, 187), (1, 26), (2, 188), (2, 189), (1, 27), (1, 28), (2, 190), (2, 191), (1, 29), (0, 3), (2, 192), (0, 4), (0, 5), (1, 30), (2, 193)]), (161, 100, 10, 1, 0, true, 34000, [])]), (pj_as [(133, 12, 72, 2, true)]), (fun _ => none), (fun _ => none), (fun _ => none), ic_X, 3, 1, pj_mI, (pj_as [(1, ph_X12_speed)]), fun _ => false)
abbrev pk_X12_cellNow : List (Nat × List (Nat × Instr × Nat)) := [(0, [(0, .aload_n 0, 1), (1, .invokevirtual 632, 3), (4, .sipush 1500, 3), (7, .idiv, 1), (8, .istore_n 1, 1), (9, .aload_n 0, 1), (10, .getfield 133, 3), (13, .iconst 4, 1), (14, .iaload, 1), (15, .ifCond .ge 7, 3)]), (18, [(18, .iconst 0, 1), (19, .goto 12, 3)]), (22, [(22, .aload_n 0, 1), (23, .getfield 133, 3), (26, .iconst 4, 1), (27, .iaload, 1), (28, .bipush 30, 2), (30, .idiv, 1)]), (31, [(31, .istore_n 2, 1), (32, .iconst 4, 1), (33, .iload_n 1, 1), (34, .iconst 3, 1), (35, .if_icmp .ge 7, 3)]), (38, [(38, .iload_n 1, 1), (39, .goto 4, 3)]), (42, [(42, .iconst 3, 1)]), (43, [(43, .imul, 1), (44, .iload_n 2, 1), (45, .iconst 3, 1), (46, .if_icmp .ge 7, 3)]), (49, [(49, .iload_n 2, 1), (50, .goto 4, 3)]), (53, [(53, .iconst 3, 1)]), (54, [(54, .iadd, 1), (55, .ireturn, 1)])]
set_option maxRecDepth 100000 in
theorem pq_X12_cellNow_54  (b0 : Int32) (b1 : Int32) (s : Nat → Int32) (l : Nat → Int64) (x : Nat → Int32) (y : Nat → Int64) : pl_X12_cellNow_54 b0 b1 s l x y = pj_bl px_X12_cellNow (pj_rn px_X12_cellNow (pj_as pk_X12_cellNow) (fun _ => none) 60) [(54, .iadd, 1), (55, .ireturn, 1)] 54 [] [pj_I b1, pj_I b0] (s, l, x, y) := rfl
set_option maxRecDepth 100000 in
theorem pq_X12_cellNow_43  (a2 : Int32) (b1 : Int32) (s : Nat → Int32) (l : Nat → Int64) (x : Nat → Int32) (y : Nat → Int64) : pl_X12_cellNow_43 a2 b1 s l x y = pj_bl px_X12_cellNow (pj_rn px_X12_cellNow (pj_as pk_X12_cellNow) (pj_as [(54, pe_X12_cellNow_54 (pl_X12_cellNow_54))]) 60) [(43, .imul, 1), (44, .iload_n 2, 1), (45, .iconst 3, 1), (46, .if_icmp .ge 7, 3)] 43 [(2, pj_I a2)] [pj_I b1, pj_N 4] (s, l, x, y) := rfl
set_option maxRecDepth 100000 in
theorem pq_X12_cellNow_31  (a1 : Int32) (b0 : Int32) (s : Nat → Int32) (l : Nat → Int64) (x : Nat → Int32) (y : Nat → Int64) : pl_X12_cellNow_31 a1 b0 s l x y = pj_bl px_X12_cellNow (pj_rn px_X12_cellNow (pj_as pk_X12_cellNow) (pj_as [(43, pe_X12_cellNow_43 (pl_X12_cellNow_43))]) 60) [(31, .istore_n 2, 1), (32, .iconst 4, 1), (33, .iload_n 1, 1), (34, .iconst 3, 1), (35, .if_icmp .ge 7, 3)] 31 [(1, pj_I a1)] [pj_I b0] (s, l, x, y) := rfl
set_option maxRecDepth 100000 in
theorem pq_X12_cellNow_m   (s : Nat → Int32) (l : Nat → Int64) (x : Nat → Int32) (y : Nat → Int64) : pf_X12_cellNow  s l x y = pj_bl px_X12_cellNow (pj_rn px_X12_cellNow (pj_as pk_X12_cellNow) (pj_as [(31, pe_X12_cellNow_31 (pl_X12_cellNow_31))]) 60) [(0, .aload_n 0, 1), (1, .invokevirtual 632, 3), (4, .sipush 1500, 3), (7, .idiv, 1), (8, .istore_n 1, 1), (9, .aload_n 0, 1), (10, .getfield 133, 3), (13, .iconst 4, 1), (14, .iaload, 1), (15, .ifCond .ge 7, 3)] 0 [(0, pj_O (124, 0))] [] (s, l, x, y) := rfl
theorem pu_X12_cellNow_31 {lf : pj_Z → mj_M} {a : Int32 × pj_Z} (f : Int32 → Int32 → pj_F (Int32 × pj_Z)) (hf : ∀ (a1 : Int32) (b0 : Int32) (s : Nat → Int32) (l : Nat → Int64) (x : Nat → Int32) (y : Nat → Int64), f a1 b0 s l x y = some a → pm_Gd 1 12039 ie_X12_cellNow.1 pm_rI lf 31 [(1, .int a1)] [.int b0] (s, l, x, y) a) : pm_Ex 1 12039 ie_X12_cellNow.1 pm_rI lf a 31 (pe_X12_cellNow_31 f) := by
  intro lv st z hd h
  obtain ⟨a1, g1, h⟩ := pj_xi_inv h
  obtain ⟨b0, r0, e0, h⟩ := pj_pi_inv h
  obtain ⟨e9, h⟩ := pj_pe_inv h
  rw [e0, e9]
  exact mj_wp_sub (mj_sub_cons g1 (mj_sub_nil hd)) (hf _ _ _ _ _ _ h)
theorem pu_X12_cellNow_43 {lf : pj_Z → mj_M} {a : Int32 × pj_Z} (f : Int32 → Int32 → pj_F (Int32 × pj_Z)) (hf : ∀ (a2 : Int32) (b1 : Int32) (s : Nat → Int32) (l : Nat → Int64) (x : Nat → Int32) (y : Nat → Int64), f a2 b1 s l x y = some a → pm_Gd 1 12039 ie_X12_cellNow.1 pm_rI lf 43 [(2, .int a2)] [.int b1, .int (Int32.ofInt 4)] (s, l, x, y) a) : pm_Ex 1 12039 ie_X12_cellNow.1 pm_rI lf a 43 (pe_X12_cellNow_43 f) := by
  intro lv st z hd h
  obtain ⟨a2, g2, h⟩ := pj_xi_inv h
  obtain ⟨b1, r1, e1, h⟩ := pj_pi_inv h
  obtain ⟨r0, e0, h⟩ := pj_pc_inv h
  obtain ⟨e9, h⟩ := pj_pe_inv h
  rw [e1, e0, e9]
  exact mj_wp_sub (mj_sub_cons g2 (mj_sub_nil hd)) (hf _ _ _ _ _ _ h)
theorem pu_X12_cellNow_54 {lf : pj_Z → mj_M} {a : Int32 × pj_Z} (f : Int32 → Int32 → pj_F (Int32 × pj_Z)) (hf : ∀ (b0 : Int32) (b1 : Int32) (s : Nat → Int32) (l : Nat → Int64) (x : Nat → Int32) (y : Nat → Int64), f b0 b1 s l x y = some a → pm_Gd 1 12039 ie_X12_cellNow.1 pm_rI lf 54 [] [.int b1, .int b0] (s, l, x, y) a) : pm_Ex 1 12039 ie_X12_cellNow.1 pm_rI lf a 54 (pe_X12_cellNow_54 f) := by
  intro lv st z hd h
  obtain ⟨b1, r1, e1, h⟩ := pj_pi_inv h
  obtain ⟨b0, r0, e0, h⟩ := pj_pi_inv h
  obtain ⟨e9, h⟩ := pj_pe_inv h
  rw [e1, e0, e9]
  exact mj_wp_sub (mj_sub_nil hd) (hf _ _ _ _ _ _ h)
set_option maxRecDepth 100000 in
theorem pz_X12_cellNow {lf : pj_Z → mj_M} (hT : pj_Lt pj_TR lf) : pj_Cok ic_P (mj_R ic_P 1) 12039 ie_X12_cellNow.1 (pm_OK lf pm_rI) lf px_X12_cellNow := by
  exact pm_cok (c := px_X12_cellNow) (pm_part hT (pj_as_all (p := fun b e => pj_TR b = some e) (List.forall_mem_cons.mpr ⟨rfl, (List.forall_mem_cons.mpr ⟨rfl, (fun _ h => by cases h)⟩)⟩))) (pm_in_ok (L := [(133, 12, 72, 2, true)]) (f := mj_pF ic_P 12039) (by decide +kernel)) (fun _ _ h => by cases h) (fun _ _ h => by cases h) (fun _ _ h => by cases h) rfl rfl ⟨by decide, rfl⟩ pm_mI (pj_as_all (p := pm_Cl 1 12039 ie_X12_cellNow.1 lf (pm_OK lf pm_rI)) (List.forall_mem_cons.mpr ⟨fun _ _ lv st z K a hK h => pc_X12_speed hT (by decide) (ix := 632) rfl rfl hK h, (fun _ h => by cases h)⟩)) (fun _ h => by cases h)
set_option maxRecDepth 100000 in
theorem pb_X12_cellNow : pm_bks ie_X12_cellNow.1.2.2.2.2 pk_X12_cellNow = true := by decide +kernel
set_option maxRecDepth 100000 in
theorem pg_X12_cellNow_54 {lf : pj_Z → mj_M} (hT : pj_Lt pj_TR lf) : ∀ (b0 : Int32) (b1 : Int32) (s : Nat → Int32) (l : Nat → Int64) (x : Nat → Int32) (y : Nat → Int64) (a : Int32 × pj_Z), pl_X12_cellNow_54 b0 b1 s l x y = some a → pm_Gd 1 12039 ie_X12_cellNow.1 pm_rI lf 54 [] [.int b1, .int b0] (s, l, x, y) a := by
  intro b0 b1 s l x y a h
  exact pm_run ((pq_X12_cellNow_54  b0 b1 s l x y).symm.trans h) (pz_X12_cellNow hT) (pm_bks_ok pb_X12_cellNow) (pm_bks_ok pb_X12_cellNow _ _ rfl) (pm_ndb_ok rfl) (fun _ _ h => by cases h)
set_option maxRecDepth 100000 in
theorem pg_X12_cellNow_43 {lf : pj_Z → mj_M} (hT : pj_Lt pj_TR lf) : ∀ (a2 : Int32) (b1 : Int32) (s : Nat → Int32) (l : Nat → Int64) (x : Nat → Int32) (y : Nat → Int64) (a : Int32 × pj_Z), pl_X12_cellNow_43 a2 b1 s l x y = some a → pm_Gd 1 12039 ie_X12_cellNow.1 pm_rI lf 43 [(2, .int a2)] [.int b1, .int (Int32.ofInt 4)] (s, l, x, y) a := by
  intro a2 b1 s l x y a h
  exact pm_run ((pq_X12_cellNow_43  a2 b1 s l x y).symm.trans h) (pz_X12_cellNow hT) (pm_bks_ok pb_X12_cellNow) (pm_bks_ok pb_X12_cellNow _ _ rfl) (pm_ndb_ok rfl) (pj_as_all (p := pm_Ex 1 12039 ie_X12_cellNow.1 pm_rI lf a) (List.forall_mem_cons.mpr ⟨pu_X12_cellNow_54 _ (fun c0 c1 s l x y h => pg_X12_cellNow_54 hT c0 c1 s l x y _ h), (fun _ h => by cases h)⟩))
set_option maxRecDepth 100000 in
theorem pg_X12_cellNow_31 {lf : pj_Z → mj_M} (hT : pj_Lt pj_TR lf) : ∀ (a1 : Int32) (b0 : Int32) (s : Nat → Int32) (l : Nat → Int64) (x : Nat → Int32) (y : Nat → Int64) (a : Int32 × pj_Z), pl_X12_cellNow_31 a1 b0 s l x y = some a → pm_Gd 1 12039 ie_X12_cellNow.1 pm_rI lf 31 [(1, .int a1)] [.int b0] (s, l, x, y) a := by
  intro a1 b0 s l x y a h
  exact pm_run ((pq_X12_cellNow_31  a1 b0 s l x y).symm.trans h) (pz_X12_cellNow hT) (pm_bks_ok pb_X12_cellNow) (pm_bks_ok pb_X12_cellNow _ _ rfl) (pm_ndb_ok rfl) (pj_as_all (p := pm_Ex 1 12039 ie_X12_cellNow.1 pm_rI lf a) (List.forall_mem_cons.mpr ⟨pu_X12_cellNow_43 _ (fun c0 c1 s l x y h => pg_X12_cellNow_43 hT c0 c1 s l x y _ h), (fun _ h => by cases h)⟩))
set_option maxRecDepth 100000 in
theorem pm_X12_cellNow {lf : pj_Z → mj_M} (hT : pj_Lt pj_TR lf)  (s : Nat → Int32) (l : Nat → Int64) (x : Nat → Int32) (y : Nat → Int64) (a : Int32 × pj_Z) (h : pf_X12_cellNow  s l x y = some a) : mj_R ic_P 2 12039 [.ref 124] (lf (s, l, x, y)) (pm_rI a.1) (lf a.2) := by
  refine pm_main (Y := ie_X12_cellNow.1) rfl (Nat.le_of_ble_eq_true rfl) ?_
  exact pm_run ((pq_X12_cellNow_m  s l x y).symm.trans h) (pz_X12_cellNow hT) (pm_bks_ok pb_X12_cellNow) (pm_bks_ok pb_X12_cellNow _ _ rfl) (pm_ndb_ok rfl) (pj_as_all (p := pm_Ex 1 12039 ie_X12_cellNow.1 pm_rI lf a) (List.forall_mem_cons.mpr ⟨pu_X12_cellNow_31 _ (fun c0 c1 s l x y h => pg_X12_cellNow_31 hT c0 c1 s l x y _ h), (fun _ h => by cases h)⟩))
abbrev ph_X12_cellNow {A : Type} : List pj_V → pj_Z → (List pj_V → pj_Z → Option A) → Option A := fun st z K => pj_pr st 124 0 fun st => pj_ps st (pj_b (pf_X12_cellNow  z.1 z.2.1 z.2.2.1 z.2.2.2) fun r s l x y => K (pj_I r :: st) (s, l, x, y))
set_option maxRecDepth 100000 in
theorem pc_X12_cellNow {A : Type} {OK : A → Option Value → mj_M → Prop} {d j pc ix : Nat} {Y : mj_Y} {lf : pj_Z → mj_M} (hT : pj_Lt pj_TR lf) (hd : 2 ≤ d) (hl : mj_lk Y.2.2.2.2 pc = some (.invokevirtual ix, 3)) (hg : mj_pG ic_P j ix = some (12039, 0, some 12)) {lv : List (Nat × Value)} {st : List pj_V} {z : pj_Z} {K : List pj_V → pj_Z → Option A} {a : A} (hK : ∀ st z, K st z = some a → pj_Gd ic_P (mj_R ic_P d) j Y OK lf (pc + 3) lv (pj_es st) z a) (h : ph_X12_cellNow st z K = some a) : pj_Gd ic_P (mj_R ic_P d) j Y OK lf pc lv (pj_es st) z a := by
  obtain ⟨r0, e0, h⟩ := pj_pr_inv h
  obtain ⟨hs, h⟩ := pj_ps_inv h
  obtain ⟨q, hq, h⟩ := pj_b_inv h
  exact pm_cv (o := 124) hl hg [] rfl (by rw [e0]; rfl) hs (by decide) ((hT.2 124 _ rfl).1.2 z 0 (by decide)) (pm_rI q.1) hd (pm_X12_cellNow hT  z.1 z.2.1 z.2.2.1 z.2.2.2 q hq) rfl (hK _ _ h)

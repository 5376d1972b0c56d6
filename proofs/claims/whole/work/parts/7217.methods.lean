/-! METHODS 17, printed by gen_meth.py -/
abbrev pe_X12_writeStore_25 (f : Int32 → Int32 → pj_F (Int32 × pj_Z)) : pj_K (Int32 × pj_Z) := fun lv st z => pj_xr lv 0 124 0 <| pj_xi lv 1 fun a1 => pj_pi st fun b0 st => pj_pe st (f a1 b0 z.1 z.2.1 z.2.2.1 z.2.2.2)
abbrev pe_X12_writeStore_35 (f : Int32 → Int32 → pj_F (Int32 × pj_Z)) : pj_K (Int32 × pj_Z) := fun lv st z => pj_xr lv 0 124 0 <| pj_xi lv 2 fun a2 => pj_pi st fun b0 st => pj_pe st (f a2 b0 z.1 z.2.1 z.2.2.1 z.2.2.2)
abbrev pe_X12_writeStore_51 (f : Int32 → Int32 → Int32 → Int32 → Int32 → pj_F (Int32 × pj_Z)) : pj_K (Int32 × pj_Z) := fun lv st z => pj_xr lv 0 124 0 <| pj_xi lv 2 fun a2 => pj_xi lv 3 fun a3 => pj_xi lv 4 fun a4 => pj_xi lv 5 fun a5 => pj_xi lv 6 fun a6 => pj_pe st (f a2 a3 a4 a5 a6 z.1 z.2.1 z.2.2.1 z.2.2.2)
abbrev pe_X12_writeStore_100 (f : Int32 → Int32 → Int32 → Int32 → pj_F (Int32 × pj_Z)) : pj_K (Int32 × pj_Z) := fun lv st z => pj_xr lv 0 124 0 <| pj_xi lv 2 fun a2 => pj_xi lv 3 fun a3 => pj_xi lv 4 fun a4 => pj_xi lv 5 fun a5 => pj_pe st (f a2 a3 a4 a5 z.1 z.2.1 z.2.2.1 z.2.2.2)
abbrev px_X12_writeStore : pj_C (Int32 × pj_Z) := ((pj_as [(124, 12, 195, 1, 0, true, 0, [(1, 1), (2, 125), (2, 126), (2, 127), (2, 128), (2, 129), (2, 130), (2, 131), (2, 132), (2, 133), (1, 2), (0, 44), (2, 134), (2, 135), (2, 136), (2, 137), (2, 138), (0, 69), (2, 139), (2, 140), (2, 141), (1, 3), (0, 93), (0, 94), (0, 45), (0, 46), (0, 48), (0, 49), (0, 47), (0, 50), (0, 51), (2, 142), (2, 143), (2, 144), (0, 19), (1, 4), (1, 5), (1, 6), (0, 20), (0, 21), (0, 22), (0, 23), (0, 24), (0, 25), (0, 27), (0, 28), (1, 7), (1, 8), (1, 9), (1, 10), (1, 11), (0, 26), (2, 145), (2, 146), (2, 147), (2, 148), (2, 149), (2, 150), (2, 151), (2, 152), (2, 153), (2, 154), (2, 155), (2, 156), (2, 157), (2, 158), (2, 159), (0, 57), (0, 58), (0, 59), (0, 60), (2, 160), (2, 161), (2, 162), (2, 163), (1, 12), (1, 13), (0, 95), (0, 73), (0, 74), (0, 71), (0, 72), (0, 75), (0, 76), (0, 77), (0, 80), (0, 78), (0, 79), (1, 14), (0, 29), (0, 30), (0, 31), (0, 34), (0, 35), (0, 32), (0, 33), (0, 36), (0, 37), (0, 38), (0, 39), (0, 40), (1, 15), (1, 16), (0, 43), (0, 41), (0, 42), (2, 164), (0, 96), (0, 89), (0, 90), (0, 91), (0, 92), (2, 165), (2, 166), (2, 167), (2, 168), (2, 169), (2, 170), (2, 171), (2, 172), (0, 87), (2, 173), (0, 88), (2, 174), (0, 62), (1, 17), (0, 66), (0, 63), (0, 64), (0, 65), (0, 67), (1, 18), (0, 68), (2, 175), (1, 19), (0, 52), (0, 53), (0, 54), (0, 55), (2, 176), (0, 56), (0, 85), (0, 86), (0, 81), (0, 82), (0, 83), (0, 84), (2, 177), (2, 178), (2, 179), (1, 20), (2, 180), (0, 6), (0, 7), (0, 8), (0, 16), (0, 17), (0, 61), (0, 9), (0, 10), (1, 21), (1, 22), (0, 11), (0, 12), (0, 13), (0, 18), (0, 14), (0, 15), (2, 181), (0, 70), (1, 23), (2, 182), (2, 183), (0, 1), (1, 24), (2, 184), (2, 185), (1, 25), (0, 2), (2, 186), (2, 187), (1, 26), (2, 188), (2, 189), (1, 27), (1, 28), (2, 190), (2, 191), (1, 29), (0, 3), (2, 192), (0, 4), (0, 5), (1, 30), (2, 193)]), (133, 100, 110, 1, 0, true, 13000, [])]), (pj_as [(37, 12, 9, 2, true)]), (fun _ => none), (fun _ => none), (fun _ => none), ic_X, 8, 2, pj_mI, (pj_as [(1, ph_X12_validCopy), (43, ph_X12_lay), (66, ph_X12_wordOf), (89, ph_X12_lay), (111, ph_X12_lay), (121, ph_X12_lay)]), fun _ => false)
abbrev pk_X12_writeStore : List (Nat × List (Nat × Instr × Nat)) := [(0, [(0, .aload_n 0, 1), (1, .invokevirtual 545, 3), (4, .istore_n 1, 1), (5, .iload_n 1, 1), (6, .iconst (-1), 1), (7, .if_icmp .ne 7, 3)]), (10, [(10, .iconst 1, 1), (11, .goto 14, 3)]), (14, [(14, .aload_n 0, 1), (15, .getfield 37, 3), (18, .bipush 55, 2), (20, .iload_n 1, 1), (21, .imul, 1), (22, .iaload, 1), (23, .iconst 1, 1), (24, .iadd, 1)]), (25, [(25, .istore_n 2, 1), (26, .iload_n 1, 1), (27, .ifCond .ne 7, 3)]), (30, [(30, .iconst 1, 1), (31, .goto 4, 3)]), (34, [(34, .iconst 0, 1)]), (35, [(35, .istore_n 3, 1), (36, .iload_n 2, 1), (37, .istore 4, 2), (39, .aload_n 0, 1), (40, .iload_n 3, 1), (41, .iconst 0, 1), (42, .iconst 0, 1), (43, .invokevirtual 549, 3), (46, .istore 5, 2), (48, .iconst 1, 1), (49, .istore 6, 2)]), (51, [(51, .iload 6, 2), (53, .bipush 53, 2), (55, .if_icmp .gt 45, 3)]), (58, [(58, .iload 5, 2), (60, .ifCond .eq 40, 3)]), (63, [(63, .aload_n 0, 1), (64, .iload 6, 2), (66, .invokevirtual 553, 3), (69, .istore 7, 2), (71, .iload 4, 2), (73, .iload 6, 2), (75, .iconst 1, 1), (76, .iadd, 1), (77, .iload 7, 2), (79, .imul, 1), (80, .iadd, 1), (81, .istore 4, 2), (83, .aload_n 0, 1), (84, .iload_n 3, 1), (85, .iload 6, 2), (87, .iload 7, 2), (89, .invokevirtual 549, 3), (92, .istore 5, 2), (94, .iinc 6 1, 3), (97, .goto (-46), 3)]), (100, [(100, .iload 5, 2), (102, .ifCond .eq 29, 3)]), (105, [(105, .aload_n 0, 1), (106, .iload_n 3, 1), (107, .bipush 54, 2), (109, .iload 4, 2), (111, .invokevirtual 549, 3), (114, .ifCond .eq 17, 3)]), (117, [(117, .aload_n 0, 1), (118, .iload_n 3, 1), (119, .iconst 0, 1), (120, .iload_n 2, 1), (121, .invokevirtual 549, 3), (124, .ifCond .eq 7, 3)]), (127, [(127, .iconst 1, 1), (128, .goto 4, 3)]), (131, [(131, .iconst 0, 1)]), (132, [(132, .ireturn, 1)])]
set_option maxRecDepth 100000 in
theorem pq_X12_writeStore_100 (fu : Nat)  (a2 : Int32) (a3 : Int32) (a4 : Int32) (a5 : Int32) (s : Nat → Int32) (l : Nat → Int64) (x : Nat → Int32) (y : Nat → Int64) : pl_X12_writeStore_100 fu a2 a3 a4 a5 s l x y = pj_bl px_X12_writeStore (pj_rn px_X12_writeStore (pj_as pk_X12_writeStore) (fun _ => none) 60) [(100, .iload 5, 2), (102, .ifCond .eq 29, 3)] 100 [(0, pj_O (124, 0)), (2, pj_I a2), (3, pj_I a3), (4, pj_I a4), (5, pj_I a5)] [] (s, l, x, y) := rfl
set_option maxRecDepth 100000 in
theorem pq_X12_writeStore_51 (fu : Nat)  (n : Nat) (a2 : Int32) (a3 : Int32) (a4 : Int32) (a5 : Int32) (a6 : Int32) (s : Nat → Int32) (l : Nat → Int64) (x : Nat → Int32) (y : Nat → Int64) : pl_X12_writeStore_51 fu (n + 1) a2 a3 a4 a5 a6 s l x y = pj_bl px_X12_writeStore (pj_rn px_X12_writeStore (pj_as pk_X12_writeStore) (pj_as [(51, pe_X12_writeStore_51 (pl_X12_writeStore_51 fu n)), (100, pe_X12_writeStore_100 (pl_X12_writeStore_100 fu))]) 60) [(51, .iload 6, 2), (53, .bipush 53, 2), (55, .if_icmp .gt 45, 3)] 51 [(0, pj_O (124, 0)), (2, pj_I a2), (3, pj_I a3), (4, pj_I a4), (5, pj_I a5), (6, pj_I a6)] [] (s, l, x, y) := rfl
set_option maxRecDepth 100000 in
theorem pq_X12_writeStore_35 (fu : Nat)  (a2 : Int32) (b0 : Int32) (s : Nat → Int32) (l : Nat → Int64) (x : Nat → Int32) (y : Nat → Int64) : pl_X12_writeStore_35 fu a2 b0 s l x y = pj_bl px_X12_writeStore (pj_rn px_X12_writeStore (pj_as pk_X12_writeStore) (pj_as [(51, pe_X12_writeStore_51 (pl_X12_writeStore_51 fu fu))]) 60) [(35, .istore_n 3, 1), (36, .iload_n 2, 1), (37, .istore 4, 2), (39, .aload_n 0, 1), (40, .iload_n 3, 1), (41, .iconst 0, 1), (42, .iconst 0, 1), (43, .invokevirtual 549, 3), (46, .istore 5, 2), (48, .iconst 1, 1), (49, .istore 6, 2)] 35 [(0, pj_O (124, 0)), (2, pj_I a2)] [pj_I b0] (s, l, x, y) := rfl
set_option maxRecDepth 100000 in
theorem pq_X12_writeStore_25 (fu : Nat)  (a1 : Int32) (b0 : Int32) (s : Nat → Int32) (l : Nat → Int64) (x : Nat → Int32) (y : Nat → Int64) : pl_X12_writeStore_25 fu a1 b0 s l x y = pj_bl px_X12_writeStore (pj_rn px_X12_writeStore (pj_as pk_X12_writeStore) (pj_as [(35, pe_X12_writeStore_35 (pl_X12_writeStore_35 fu))]) 60) [(25, .istore_n 2, 1), (26, .iload_n 1, 1), (27, .ifCond .ne 7, 3)] 25 [(0, pj_O (124, 0)), (1, pj_I a1)] [pj_I b0] (s, l, x, y) := rfl
set_option maxRecDepth 100000 in
theorem pq_X12_writeStore_m (fu : Nat)   (s : Nat → Int32) (l : Nat → Int64) (x : Nat → Int32) (y : Nat → Int64) : po_X12_writeStore fu  s l x y = pj_bl px_X12_writeStore (pj_rn px_X12_writeStore (pj_as pk_X12_writeStore) (pj_as [(25, pe_X12_writeStore_25 (pl_X12_writeStore_25 fu))]) 60) [(0, .aload_n 0, 1), (1, .invokevirtual 545, 3), (4, .istore_n 1, 1), (5, .iload_n 1, 1), (6, .iconst (-1), 1), (7, .if_icmp .ne 7, 3)] 0 [(0, pj_O (124, 0))] [] (s, l, x, y) := rfl
theorem pu_X12_writeStore_25 {lf : pj_Z → mj_M} {a : Int32 × pj_Z} (f : Int32 → Int32 → pj_F (Int32 × pj_Z)) (hf : ∀ (a1 : Int32) (b0 : Int32) (s : Nat → Int32) (l : Nat → Int64) (x : Nat → Int32) (y : Nat → Int64), f a1 b0 s l x y = some a → pm_Gd 5 12021 ie_X12_writeStore.1 pm_rI lf 25 [(0, .ref 124), (1, .int a1)] [.int b0] (s, l, x, y) a) : pm_Ex 5 12021 ie_X12_writeStore.1 pm_rI lf a 25 (pe_X12_writeStore_25 f) := by
  intro lv st z hd h
  obtain ⟨g0, h⟩ := pj_xr_inv h
  obtain ⟨a1, g1, h⟩ := pj_xi_inv h
  obtain ⟨b0, r0, e0, h⟩ := pj_pi_inv h
  obtain ⟨e9, h⟩ := pj_pe_inv h
  rw [e0, e9]
  exact mj_wp_sub (mj_sub_cons g0 (mj_sub_cons g1 (mj_sub_nil hd))) (hf _ _ _ _ _ _ h)
theorem pu_X12_writeStore_35 {lf : pj_Z → mj_M} {a : Int32 × pj_Z} (f : Int32 → Int32 → pj_F (Int32 × pj_Z)) (hf : ∀ (a2 : Int32) (b0 : Int32) (s : Nat → Int32) (l : Nat → Int64) (x : Nat → Int32) (y : Nat → Int64), f a2 b0 s l x y = some a → pm_Gd 5 12021 ie_X12_writeStore.1 pm_rI lf 35 [(0, .ref 124), (2, .int a2)] [.int b0] (s, l, x, y) a) : pm_Ex 5 12021 ie_X12_writeStore.1 pm_rI lf a 35 (pe_X12_writeStore_35 f) := by
  intro lv st z hd h
  obtain ⟨g0, h⟩ := pj_xr_inv h
  obtain ⟨a2, g2, h⟩ := pj_xi_inv h
  obtain ⟨b0, r0, e0, h⟩ := pj_pi_inv h
  obtain ⟨e9, h⟩ := pj_pe_inv h
  rw [e0, e9]
  exact mj_wp_sub (mj_sub_cons g0 (mj_sub_cons g2 (mj_sub_nil hd))) (hf _ _ _ _ _ _ h)
theorem pu_X12_writeStore_51 {lf : pj_Z → mj_M} {a : Int32 × pj_Z} (f : Int32 → Int32 → Int32 → Int32 → Int32 → pj_F (Int32 × pj_Z)) (hf : ∀ (a2 : Int32) (a3 : Int32) (a4 : Int32) (a5 : Int32) (a6 : Int32) (s : Nat → Int32) (l : Nat → Int64) (x : Nat → Int32) (y : Nat → Int64), f a2 a3 a4 a5 a6 s l x y = some a → pm_Gd 5 12021 ie_X12_writeStore.1 pm_rI lf 51 [(0, .ref 124), (2, .int a2), (3, .int a3), (4, .int a4), (5, .int a5), (6, .int a6)] [] (s, l, x, y) a) : pm_Ex 5 12021 ie_X12_writeStore.1 pm_rI lf a 51 (pe_X12_writeStore_51 f) := by
  intro lv st z hd h
  obtain ⟨g0, h⟩ := pj_xr_inv h
  obtain ⟨a2, g2, h⟩ := pj_xi_inv h
  obtain ⟨a3, g3, h⟩ := pj_xi_inv h
  obtain ⟨a4, g4, h⟩ := pj_xi_inv h
  obtain ⟨a5, g5, h⟩ := pj_xi_inv h
  obtain ⟨a6, g6, h⟩ := pj_xi_inv h
  obtain ⟨e9, h⟩ := pj_pe_inv h
  rw [e9]
  exact mj_wp_sub (mj_sub_cons g0 (mj_sub_cons g2 (mj_sub_cons g3 (mj_sub_cons g4 (mj_sub_cons g5 (mj_sub_cons g6 (mj_sub_nil hd))))))) (hf _ _ _ _ _ _ _ _ _ h)
theorem pu_X12_writeStore_100 {lf : pj_Z → mj_M} {a : Int32 × pj_Z} (f : Int32 → Int32 → Int32 → Int32 → pj_F (Int32 × pj_Z)) (hf : ∀ (a2 : Int32) (a3 : Int32) (a4 : Int32) (a5 : Int32) (s : Nat → Int32) (l : Nat → Int64) (x : Nat → Int32) (y : Nat → Int64), f a2 a3 a4 a5 s l x y = some a → pm_Gd 5 12021 ie_X12_writeStore.1 pm_rI lf 100 [(0, .ref 124), (2, .int a2), (3, .int a3), (4, .int a4), (5, .int a5)] [] (s, l, x, y) a) : pm_Ex 5 12021 ie_X12_writeStore.1 pm_rI lf a 100 (pe_X12_writeStore_100 f) := by
  intro lv st z hd h
  obtain ⟨g0, h⟩ := pj_xr_inv h
  obtain ⟨a2, g2, h⟩ := pj_xi_inv h
  obtain ⟨a3, g3, h⟩ := pj_xi_inv h
  obtain ⟨a4, g4, h⟩ := pj_xi_inv h
  obtain ⟨a5, g5, h⟩ := pj_xi_inv h
  obtain ⟨e9, h⟩ := pj_pe_inv h
  rw [e9]
  exact mj_wp_sub (mj_sub_cons g0 (mj_sub_cons g2 (mj_sub_cons g3 (mj_sub_cons g4 (mj_sub_cons g5 (mj_sub_nil hd)))))) (hf _ _ _ _ _ _ _ _ h)
set_option maxRecDepth 100000 in
theorem pz_X12_writeStore {lf : pj_Z → mj_M} (hT : pj_Lt pj_TR lf) : pj_Cok ic_P (mj_R ic_P 5) 12021 ie_X12_writeStore.1 (pm_OK lf pm_rI) lf px_X12_writeStore := by
  exact pm_cok (c := px_X12_writeStore) (pm_part hT (pj_as_all (p := fun b e => pj_TR b = some e) (List.forall_mem_cons.mpr ⟨rfl, (List.forall_mem_cons.mpr ⟨rfl, (fun _ h => by cases h)⟩)⟩))) (pm_in_ok (L := [(37, 12, 9, 2, true)]) (f := mj_pF ic_P 12021) (by decide +kernel)) (fun _ _ h => by cases h) (fun _ _ h => by cases h) (fun _ _ h => by cases h) rfl rfl ⟨by decide, rfl⟩ pm_mI (pj_as_all (p := pm_Cl 5 12021 ie_X12_writeStore.1 lf (pm_OK lf pm_rI)) (List.forall_mem_cons.mpr ⟨fun _ _ lv st z K a hK h => pc_X12_validCopy hT (by decide) (ix := 545) rfl rfl hK h, (List.forall_mem_cons.mpr ⟨fun _ _ lv st z K a hK h => pc_X12_lay hT (by decide) (ix := 549) rfl rfl hK h, (List.forall_mem_cons.mpr ⟨fun _ _ lv st z K a hK h => pc_X12_wordOf hT (by decide) (ix := 553) rfl rfl hK h, (List.forall_mem_cons.mpr ⟨fun _ _ lv st z K a hK h => pc_X12_lay hT (by decide) (ix := 549) rfl rfl hK h, (List.forall_mem_cons.mpr ⟨fun _ _ lv st z K a hK h => pc_X12_lay hT (by decide) (ix := 549) rfl rfl hK h, (List.forall_mem_cons.mpr ⟨fun _ _ lv st z K a hK h => pc_X12_lay hT (by decide) (ix := 549) rfl rfl hK h, (fun _ h => by cases h)⟩)⟩)⟩)⟩)⟩)⟩)) (fun _ h => by cases h)
set_option maxRecDepth 100000 in
theorem pb_X12_writeStore : pm_bks ie_X12_writeStore.1.2.2.2.2 pk_X12_writeStore = true := by decide +kernel
set_option maxRecDepth 100000 in
theorem pg_X12_writeStore_100 {fu : Nat} {lf : pj_Z → mj_M} (hT : pj_Lt pj_TR lf) : ∀ (a2 : Int32) (a3 : Int32) (a4 : Int32) (a5 : Int32) (s : Nat → Int32) (l : Nat → Int64) (x : Nat → Int32) (y : Nat → Int64) (a : Int32 × pj_Z), pl_X12_writeStore_100 fu a2 a3 a4 a5 s l x y = some a → pm_Gd 5 12021 ie_X12_writeStore.1 pm_rI lf 100 [(0, .ref 124), (2, .int a2), (3, .int a3), (4, .int a4), (5, .int a5)] [] (s, l, x, y) a := by
  intro a2 a3 a4 a5 s l x y a h
  exact pm_run ((pq_X12_writeStore_100 fu a2 a3 a4 a5 s l x y).symm.trans h) (pz_X12_writeStore hT) (pm_bks_ok pb_X12_writeStore) (pm_bks_ok pb_X12_writeStore _ _ rfl) (pm_ndb_ok rfl) (fun _ _ h => by cases h)
set_option maxRecDepth 100000 in
theorem pg_X12_writeStore_51 {fu : Nat} {lf : pj_Z → mj_M} (hT : pj_Lt pj_TR lf) : ∀ (n : Nat), ∀ (a2 : Int32) (a3 : Int32) (a4 : Int32) (a5 : Int32) (a6 : Int32) (s : Nat → Int32) (l : Nat → Int64) (x : Nat → Int32) (y : Nat → Int64) (a : Int32 × pj_Z), pl_X12_writeStore_51 fu n a2 a3 a4 a5 a6 s l x y = some a → pm_Gd 5 12021 ie_X12_writeStore.1 pm_rI lf 51 [(0, .ref 124), (2, .int a2), (3, .int a3), (4, .int a4), (5, .int a5), (6, .int a6)] [] (s, l, x, y) a := by
  intro n
  induction n with
  | zero => intro a2 a3 a4 a5 a6 s l x y a h; cases (show (none : Option (Int32 × pj_Z)) = some a from h)
  | succ n ih =>
    intro a2 a3 a4 a5 a6 s l x y a h
    exact pm_run ((pq_X12_writeStore_51 fu n a2 a3 a4 a5 a6 s l x y).symm.trans h) (pz_X12_writeStore hT) (pm_bks_ok pb_X12_writeStore) (pm_bks_ok pb_X12_writeStore _ _ rfl) (pm_ndb_ok rfl) (pj_as_all (p := pm_Ex 5 12021 ie_X12_writeStore.1 pm_rI lf a) (List.forall_mem_cons.mpr ⟨pu_X12_writeStore_51 _ (fun c0 c1 c2 c3 c4 s l x y h => ih c0 c1 c2 c3 c4 s l x y _ h), (List.forall_mem_cons.mpr ⟨pu_X12_writeStore_100 _ (fun c0 c1 c2 c3 s l x y h => pg_X12_writeStore_100 hT c0 c1 c2 c3 s l x y _ h), (fun _ h => by cases h)⟩)⟩))
set_option maxRecDepth 100000 in
theorem pg_X12_writeStore_35 {fu : Nat} {lf : pj_Z → mj_M} (hT : pj_Lt pj_TR lf) : ∀ (a2 : Int32) (b0 : Int32) (s : Nat → Int32) (l : Nat → Int64) (x : Nat → Int32) (y : Nat → Int64) (a : Int32 × pj_Z), pl_X12_writeStore_35 fu a2 b0 s l x y = some a → pm_Gd 5 12021 ie_X12_writeStore.1 pm_rI lf 35 [(0, .ref 124), (2, .int a2)] [.int b0] (s, l, x, y) a := by
  intro a2 b0 s l x y a h
  exact pm_run ((pq_X12_writeStore_35 fu a2 b0 s l x y).symm.trans h) (pz_X12_writeStore hT) (pm_bks_ok pb_X12_writeStore) (pm_bks_ok pb_X12_writeStore _ _ rfl) (pm_ndb_ok rfl) (pj_as_all (p := pm_Ex 5 12021 ie_X12_writeStore.1 pm_rI lf a) (List.forall_mem_cons.mpr ⟨pu_X12_writeStore_51 _ (fun c0 c1 c2 c3 c4 s l x y h => pg_X12_writeStore_51 hT _ c0 c1 c2 c3 c4 s l x y _ h), (fun _ h => by cases h)⟩))
set_option maxRecDepth 100000 in
theorem pg_X12_writeStore_25 {fu : Nat} {lf : pj_Z → mj_M} (hT : pj_Lt pj_TR lf) : ∀ (a1 : Int32) (b0 : Int32) (s : Nat → Int32) (l : Nat → Int64) (x : Nat → Int32) (y : Nat → Int64) (a : Int32 × pj_Z), pl_X12_writeStore_25 fu a1 b0 s l x y = some a → pm_Gd 5 12021 ie_X12_writeStore.1 pm_rI lf 25 [(0, .ref 124), (1, .int a1)] [.int b0] (s, l, x, y) a := by
  intro a1 b0 s l x y a h
  exact pm_run ((pq_X12_writeStore_25 fu a1 b0 s l x y).symm.trans h) (pz_X12_writeStore hT) (pm_bks_ok pb_X12_writeStore) (pm_bks_ok pb_X12_writeStore _ _ rfl) (pm_ndb_ok rfl) (pj_as_all (p := pm_Ex 5 12021 ie_X12_writeStore.1 pm_rI lf a) (List.forall_mem_cons.mpr ⟨pu_X12_writeStore_35 _ (fun c0 c1 s l x y h => pg_X12_writeStore_35 hT c0 c1 s l x y _ h), (fun _ h => by cases h)⟩))
set_option maxRecDepth 100000 in
theorem pm_X12_writeStore {lf : pj_Z → mj_M} (hT : pj_Lt pj_TR lf)  (s : Nat → Int32) (l : Nat → Int64) (x : Nat → Int32) (y : Nat → Int64) (a : Int32 × pj_Z) (h : pf_X12_writeStore  s l x y = some a) : mj_R ic_P 6 12021 [.ref 124] (lf (s, l, x, y)) (pm_rI a.1) (lf a.2) := by
  refine pm_main (Y := ie_X12_writeStore.1) rfl (Nat.le_of_ble_eq_true rfl) ?_
  exact pm_run ((pq_X12_writeStore_m 1000  s l x y).symm.trans h) (pz_X12_writeStore hT) (pm_bks_ok pb_X12_writeStore) (pm_bks_ok pb_X12_writeStore _ _ rfl) (pm_ndb_ok rfl) (pj_as_all (p := pm_Ex 5 12021 ie_X12_writeStore.1 pm_rI lf a) (List.forall_mem_cons.mpr ⟨pu_X12_writeStore_25 _ (fun c0 c1 s l x y h => pg_X12_writeStore_25 hT c0 c1 s l x y _ h), (fun _ h => by cases h)⟩))
abbrev ph_X12_writeStore {A : Type} : List pj_V → pj_Z → (List pj_V → pj_Z → Option A) → Option A := fun st z K => pj_pr st 124 0 fun st => pj_ps st (pj_b (pf_X12_writeStore  z.1 z.2.1 z.2.2.1 z.2.2.2) fun r s l x y => K (pj_I r :: st) (s, l, x, y))
set_option maxRecDepth 100000 in
theorem pc_X12_writeStore {A : Type} {OK : A → Option Value → mj_M → Prop} {d j pc ix : Nat} {Y : mj_Y} {lf : pj_Z → mj_M} (hT : pj_Lt pj_TR lf) (hd : 6 ≤ d) (hl : mj_lk Y.2.2.2.2 pc = some (.invokevirtual ix, 3)) (hg : mj_pG ic_P j ix = some (12021, 0, some 12)) {lv : List (Nat × Value)} {st : List pj_V} {z : pj_Z} {K : List pj_V → pj_Z → Option A} {a : A} (hK : ∀ st z, K st z = some a → pj_Gd ic_P (mj_R ic_P d) j Y OK lf (pc + 3) lv (pj_es st) z a) (h : ph_X12_writeStore st z K = some a) : pj_Gd ic_P (mj_R ic_P d) j Y OK lf pc lv (pj_es st) z a := by
  obtain ⟨r0, e0, h⟩ := pj_pr_inv h
  obtain ⟨hs, h⟩ := pj_ps_inv h
  obtain ⟨q, hq, h⟩ := pj_b_inv h
  exact pm_cv (o := 124) hl hg [] rfl (by rw [e0]; rfl) hs (by decide) ((hT.2 124 _ rfl).1.2 z 0 (by decide)) (pm_rI q.1) hd (pm_X12_writeStore hT  z.1 z.2.1 z.2.2.1 z.2.2.2 q hq) rfl (hK _ _ h)
abbrev px_X12_layPage : pj_C (Int32 × pj_Z) := ((pj_as [(124, 12, 195, 1, 0, true, 0, [(1, 1), (2, 125), (2, 126), (2, 127), (2, 128), (2, 129), (2, 130), (2, 131), (2, 132), (2, 133), (1, 2), (0, 44), (2, 134), (2, 135), (2, 136), (2, 137), (2, 138), (0, 69), (2, 139), (2, 140), (2, 141), (1, 3), (0, 93), (0, 94), (0, 45), (0, 46), (0, 48), (0, 49), (0, 47), (0, 50), (0, 51), (2, 142), (2, 143), (2, 144), (0, 19), (1, 4), (1, 5), (1, 6), (0, 20), (0, 21), (0, 22), (0, 23), (0, 24), (0, 25), (0, 27), (0, 28), (1, 7), (1, 8), (1, 9), (1, 10), (1, 11), (0, 26), (2, 145), (2, 146), (2, 147), (2, 148), (2, 149), (2, 150), (2, 151), (2, 152), (2, 153), (2, 154), (2, 155), (2, 156), (2, 157), (2, 158), (2, 159), (0, 57), (0, 58), (0, 59), (0, 60), (2, 160), (2, 161), (2, 162), (2, 163), (1, 12), (1, 13), (0, 95), (0, 73), (0, 74), (0, 71), (0, 72), (0, 75), (0, 76), (0, 77), (0, 80), (0, 78), (0, 79), (1, 14), (0, 29), (0, 30), (0, 31), (0, 34), (0, 35), (0, 32), (0, 33), (0, 36), (0, 37), (0, 38), (0, 39), (0, 40), (1, 15), (1, 16), (0, 43), (0, 41), (0, 42), (2, 164), (0, 96), (0, 89), (0, 90), (0, 91), (0, 92), (2, 165), (2, 166), (2, 167), (2, 168), (2, 169), (2, 170), (2, 171), (2, 172), (0, 87), (2, 173), (0, 88), (2, 174), (0, 62), (1, 17), (0, 66), (0, 63), (0, 64), (0, 65), (0, 67), (1, 18), (0, 68), (2, 175), (1, 19), (0, 52), (0, 53), (0, 54), (0, 55), (2, 176), (0, 56), (0, 85), (0, 86), (0, 81), (0, 82), (0, 83), (0, 84), (2, 177), (2, 178), (2, 179), (1, 20), (2, 180), (0, 6), (0, 7), (0, 8), (0, 16), (0, 17), (0, 61), (0, 9), (0, 10), (1, 21), (1, 22), (0, 11), (0, 12), (0, 13), (0, 18), (0, 14), (0, 15), (2, 181), (0, 70), (1, 23), (2, 182), (2, 183), (0, 1), (1, 24), (2, 184), (2, 185), (1, 25), (0, 2), (2, 186), (2, 187), (1, 26), (2, 188), (2, 189), (1, 27), (1, 28), (2, 190), (2, 191), (1, 29), (0, 3), (2, 192), (0, 4), (0, 5), (1, 30), (2, 193)]), (181, 100, 68, 1, 0, true, 14000, [])]), (pj_as [(203, 12, 168, 2, true)]), (fun _ => none), (fun _ => none), (fun _ => none), ic_X, 4, 2, pj_mI, (pj_as [(13, ph_X12_counted)]), fun _ => false)
abbrev pk_X12_layPage : List (Nat × List (Nat × Instr × Nat)) := [(0, [(0, .aload_n 0, 1), (1, .getfield 203, 3), (4, .bipush 34, 2), (6, .iload_n 1, 1), (7, .imul, 1), (8, .iload_n 2, 1), (9, .iadd, 1), (10, .iload_n 3, 1), (11, .iastore, 1), (12, .aload_n 0, 1), (13, .invokevirtual 535, 3), (16, .ireturn, 1)])]
set_option maxRecDepth 100000 in
theorem pq_X12_layPage_m  (a1 : Int32) (a2 : Int32) (a3 : Int32) (s : Nat → Int32) (l : Nat → Int64) (x : Nat → Int32) (y : Nat → Int64) : pf_X12_layPage a1 a2 a3 s l x y = pj_bl px_X12_layPage (pj_rn px_X12_layPage (pj_as pk_X12_layPage) (fun _ => none) 60) [(0, .aload_n 0, 1), (1, .getfield 203, 3), (4, .bipush 34, 2), (6, .iload_n 1, 1), (7, .imul, 1), (8, .iload_n 2, 1), (9, .iadd, 1), (10, .iload_n 3, 1), (11, .iastore, 1), (12, .aload_n 0, 1), (13, .invokevirtual 535, 3), (16, .ireturn, 1)] 0 [(0, pj_O (124, 0)), (1, pj_I a1), (2, pj_I a2), (3, pj_I a3)] [] (s, l, x, y) := rfl
set_option maxRecDepth 100000 in
theorem pz_X12_layPage {lf : pj_Z → mj_M} (hT : pj_Lt pj_TR lf) : pj_Cok ic_P (mj_R ic_P 4) 12026 ie_X12_layPage.1 (pm_OK lf pm_rI) lf px_X12_layPage := by
  exact pm_cok (c := px_X12_layPage) (pm_part hT (pj_as_all (p := fun b e => pj_TR b = some e) (List.forall_mem_cons.mpr ⟨rfl, (List.forall_mem_cons.mpr ⟨rfl, (fun _ h => by cases h)⟩)⟩))) (pm_in_ok (L := [(203, 12, 168, 2, true)]) (f := mj_pF ic_P 12026) (by decide +kernel)) (fun _ _ h => by cases h) (fun _ _ h => by cases h) (fun _ _ h => by cases h) rfl rfl ⟨by decide, rfl⟩ pm_mI (pj_as_all (p := pm_Cl 4 12026 ie_X12_layPage.1 lf (pm_OK lf pm_rI)) (List.forall_mem_cons.mpr ⟨fun _ _ lv st z K a hK h => pc_X12_counted hT (by decide) (ix := 535) rfl rfl hK h, (fun _ h => by cases h)⟩)) (fun _ h => by cases h)
set_option maxRecDepth 100000 in
theorem pb_X12_layPage : pm_bks ie_X12_layPage.1.2.2.2.2 pk_X12_layPage = true := by decide +kernel
set_option maxRecDepth 100000 in
theorem pm_X12_layPage {lf : pj_Z → mj_M} (hT : pj_Lt pj_TR lf) (a1 : Int32) (a2 : Int32) (a3 : Int32) (s : Nat → Int32) (l : Nat → Int64) (x : Nat → Int32) (y : Nat → Int64) (a : Int32 × pj_Z) (h : pf_X12_layPage a1 a2 a3 s l x y = some a) : mj_R ic_P 5 12026 [.ref 124, .int a1, .int a2, .int a3] (lf (s, l, x, y)) (pm_rI a.1) (lf a.2) := by
  refine pm_main (Y := ie_X12_layPage.1) rfl (Nat.le_of_ble_eq_true rfl) ?_
  exact pm_run ((pq_X12_layPage_m a1 a2 a3 s l x y).symm.trans h) (pz_X12_layPage hT) (pm_bks_ok pb_X12_layPage) (pm_bks_ok pb_X12_layPage _ _ rfl) (pm_ndb_ok rfl) (fun _ _ h => by cases h)
abbrev ph_X12_layPage {A : Type} : List pj_V → pj_Z → (List pj_V → pj_Z → Option A) → Option A := fun st z K => pj_pi st fun a3 st => pj_pi st fun a2 st => pj_pi st fun a1 st => pj_pr st 124 0 fun st => pj_ps st (pj_b (pf_X12_layPage a1 a2 a3 z.1 z.2.1 z.2.2.1 z.2.2.2) fun r s l x y => K (pj_I r :: st) (s, l, x, y))
set_option maxRecDepth 100000 in
theorem pc_X12_layPage {A : Type} {OK : A → Option Value → mj_M → Prop} {d j pc ix : Nat} {Y : mj_Y} {lf : pj_Z → mj_M} (hT : pj_Lt pj_TR lf) (hd : 5 ≤ d) (hl : mj_lk Y.2.2.2.2 pc = some (.invokevirtual ix, 3)) (hg : mj_pG ic_P j ix = some (12026, 3, some 12)) {lv : List (Nat × Value)} {st : List pj_V} {z : pj_Z} {K : List pj_V → pj_Z → Option A} {a : A} (hK : ∀ st z, K st z = some a → pj_Gd ic_P (mj_R ic_P d) j Y OK lf (pc + 3) lv (pj_es st) z a) (h : ph_X12_layPage st z K = some a) : pj_Gd ic_P (mj_R ic_P d) j Y OK lf pc lv (pj_es st) z a := by
  obtain ⟨a3, r3, e3, h⟩ := pj_pi_inv h
  obtain ⟨a2, r2, e2, h⟩ := pj_pi_inv h
  obtain ⟨a1, r1, e1, h⟩ := pj_pi_inv h
  obtain ⟨r0, e0, h⟩ := pj_pr_inv h
  obtain ⟨hs, h⟩ := pj_ps_inv h
  obtain ⟨q, hq, h⟩ := pj_b_inv h
  exact pm_cv (o := 124) hl hg [.int a1, .int a2, .int a3] rfl (by rw [e3, e2, e1, e0]; rfl) hs (by decide) ((hT.2 124 _ rfl).1.2 z 0 (by decide)) (pm_rI q.1) hd (pm_X12_layPage hT a1 a2 a3 z.1 z.2.1 z.2.2.1 z.2.2.2 q hq) rfl (hK _ _ h)
abbrev pe_X12_writeBook_25 (f : Int32 → Int32 → pj_F (Int32 × pj_Z)) : pj_K (Int32 × pj_Z) := fun lv st z => pj_xr lv 0 124 0 <| pj_xi lv 1 fun a1 => pj_pi st fun b0 st => pj_pe st (f a1 b0 z.1 z.2.1 z.2.2.1 z.2.2.2)
abbrev pe_X12_writeBook_35 (f : Int32 → Int32 → pj_F (Int32 × pj_Z)) : pj_K (Int32 × pj_Z) := fun lv st z => pj_xr lv 0 124 0 <| pj_xi lv 2 fun a2 => pj_pi st fun b0 st => pj_pe st (f a2 b0 z.1 z.2.1 z.2.2.1 z.2.2.2)
abbrev pe_X12_writeBook_51 (f : Int32 → Int32 → Int32 → Int32 → Int32 → pj_F (Int32 × pj_Z)) : pj_K (Int32 × pj_Z) := fun lv st z => pj_xr lv 0 124 0 <| pj_xi lv 2 fun a2 => pj_xi lv 3 fun a3 => pj_xi lv 4 fun a4 => pj_xi lv 5 fun a5 => pj_xi lv 6 fun a6 => pj_pe st (f a2 a3 a4 a5 a6 z.1 z.2.1 z.2.2.1 z.2.2.2)
abbrev pe_X12_writeBook_103 (f : Int32 → Int32 → Int32 → Int32 → pj_F (Int32 × pj_Z)) : pj_K (Int32 × pj_Z) := fun lv st z => pj_xr lv 0 124 0 <| pj_xi lv 2 fun a2 => pj_xi lv 3 fun a3 => pj_xi lv 4 fun a4 => pj_xi lv 5 fun a5 => pj_pe st (f a2 a3 a4 a5 z.1 z.2.1 z.2.2.1 z.2.2.2)
abbrev px_X12_writeBook : pj_C (Int32 × pj_Z) := ((pj_as [(124, 12, 195, 1, 0, true, 0, [(1, 1), (2, 125), (2, 126), (2, 127), (2, 128), (2, 129), (2, 130), (2, 131), (2, 132), (2, 133), (1, 2), (0, 44), (2, 134), (2, 135), (2, 136), (2, 137), (2, 138), (0, 69), (2, 139), (2, 140), (2, 141), (1, 3), (0, 93), (0, 94), (0, 45), (0, 46), (0, 48), (0, 49), (0, 47), (0, 50), (0, 51), (2, 142), (2, 143), (2, 144), (0, 19), (1, 4), (1, 5), (1, 6), (0, 20), (0, 21), (0, 22), (0, 23), (0, 24), (0, 25), (0, 27), (0, 28), (1, 7), (1, 8), (1, 9), (1, 10), (1, 11), (0, 26), (2, 145), (2, 146), (2, 147), (2, 148), (2, 149), (2, 150), (2, 151), (2, 152), (2, 153), (2, 154), (2, 155), (2, 156), (2, 157), (2, 158), (2, 159), (0, 57), (0, 58), (0, 59), (0, 60), (2, 160), (2, 161), (2, 162), (2, 163), (1, 12), (1, 13), (0, 95), (0, 73), (0, 74), (0, 71), (0, 72), (0, 75), (0, 76), (0, 77), (0, 80), (0, 78), (0, 79), (1, 14), (0, 29), (0, 30), (0, 31), (0, 34), (0, 35), (0, 32), (0, 33), (0, 36), (0, 37), (0, 38), (0, 39), (0, 40), (1, 15), (1, 16), (0, 43), (0, 41), (0, 42), (2, 164), (0, 96), (0, 89), (0, 90), (0, 91), (0, 92), (2, 165), (2, 166), (2, 167), (2, 168), (2, 169), (2, 170), (2, 171), (2, 172), (0, 87), (2, 173), (0, 88), (2, 174), (0, 62), (1, 17), (0, 66), (0, 63), (0, 64), (0, 65), (0, 67), (1, 18), (0, 68), (2, 175), (1, 19), (0, 52), (0, 53), (0, 54), (0, 55), (2, 176), (0, 56), (0, 85), (0, 86), (0, 81), (0, 82), (0, 83), (0, 84), (2, 177), (2, 178), (2, 179), (1, 20), (2, 180), (0, 6), (0, 7), (0, 8), (0, 16), (0, 17), (0, 61), (0, 9), (0, 10), (1, 21), (1, 22), (0, 11), (0, 12), (0, 13), (0, 18), (0, 14), (0, 15), (2, 181), (0, 70), (1, 23), (2, 182), (2, 183), (0, 1), (1, 24), (2, 184), (2, 185), (1, 25), (0, 2), (2, 186), (2, 187), (1, 26), (2, 188), (2, 189), (1, 27), (1, 28), (2, 190), (2, 191), (1, 29), (0, 3), (2, 192), (0, 4), (0, 5), (1, 30), (2, 193)]), (132, 100, 32, 1, 0, true, 12000, []), (181, 100, 68, 1, 0, true, 14000, [])]), (pj_as [(34, 12, 8, 2, true), (203, 12, 168, 2, true)]), (fun _ => none), (fun _ => none), (fun _ => none), ic_X, 8, 2, pj_mI, (pj_as [(1, ph_X12_validBook), (43, ph_X12_layPage), (92, ph_X12_layPage), (114, ph_X12_layPage), (124, ph_X12_layPage)]), fun _ => false)
abbrev pk_X12_writeBook : List (Nat × List (Nat × Instr × Nat)) := [(0, [(0, .aload_n 0, 1), (1, .invokevirtual 563, 3), (4, .istore_n 1, 1), (5, .iload_n 1, 1), (6, .iconst (-1), 1), (7, .if_icmp .ne 7, 3)]), (10, [(10, .iconst 1, 1), (11, .goto 14, 3)]), (14, [(14, .aload_n 0, 1), (15, .getfield 203, 3), (18, .bipush 34, 2), (20, .iload_n 1, 1), (21, .imul, 1), (22, .iaload, 1), (23, .iconst 1, 1), (24, .iadd, 1)]), (25, [(25, .istore_n 2, 1), (26, .iload_n 1, 1), (27, .ifCond .ne 7, 3)]), (30, [(30, .iconst 1, 1), (31, .goto 4, 3)]), (34, [(34, .iconst 0, 1)]), (35, [(35, .istore_n 3, 1), (36, .iload_n 2, 1), (37, .istore 4, 2), (39, .aload_n 0, 1), (40, .iload_n 3, 1), (41, .iconst 0, 1), (42, .iconst 0, 1), (43, .invokevirtual 591, 3), (46, .istore 5, 2), (48, .iconst 1, 1), (49, .istore 6, 2)]), (51, [(51, .iload 6, 2), (53, .bipush 32, 2), (55, .if_icmp .gt 48, 3)]), (58, [(58, .iload 5, 2), (60, .ifCond .eq 43, 3)]), (63, [(63, .aload_n 0, 1), (64, .getfield 34, 3), (67, .iload 6, 2), (69, .iconst 1, 1), (70, .isub, 1), (71, .iaload, 1), (72, .istore 7, 2), (74, .iload 4, 2), (76, .iload 6, 2), (78, .iconst 1, 1), (79, .iadd, 1), (80, .iload 7, 2), (82, .imul, 1), (83, .iadd, 1), (84, .istore 4, 2), (86, .aload_n 0, 1), (87, .iload_n 3, 1), (88, .iload 6, 2), (90, .iload 7, 2), (92, .invokevirtual 591, 3), (95, .istore 5, 2), (97, .iinc 6 1, 3), (100, .goto (-49), 3)]), (103, [(103, .iload 5, 2), (105, .ifCond .eq 29, 3)]), (108, [(108, .aload_n 0, 1), (109, .iload_n 3, 1), (110, .bipush 33, 2), (112, .iload 4, 2), (114, .invokevirtual 591, 3), (117, .ifCond .eq 17, 3)]), (120, [(120, .aload_n 0, 1), (121, .iload_n 3, 1), (122, .iconst 0, 1), (123, .iload_n 2, 1), (124, .invokevirtual 591, 3), (127, .ifCond .eq 7, 3)]), (130, [(130, .iconst 1, 1), (131, .goto 4, 3)]), (134, [(134, .iconst 0, 1)]), (135, [(135, .ireturn, 1)])]
set_option maxRecDepth 100000 in
theorem pq_X12_writeBook_103 (fu : Nat)  (a2 : Int32) (a3 : Int32) (a4 : Int32) (a5 : Int32) (s : Nat → Int32) (l : Nat → Int64) (x : Nat → Int32) (y : Nat → Int64) : pl_X12_writeBook_103 fu a2 a3 a4 a5 s l x y = pj_bl px_X12_writeBook (pj_rn px_X12_writeBook (pj_as pk_X12_writeBook) (fun _ => none) 60) [(103, .iload 5, 2), (105, .ifCond .eq 29, 3)] 103 [(0, pj_O (124, 0)), (2, pj_I a2), (3, pj_I a3), (4, pj_I a4), (5, pj_I a5)] [] (s, l, x, y) := rfl
set_option maxRecDepth 100000 in
theorem pq_X12_writeBook_51 (fu : Nat)  (n : Nat) (a2 : Int32) (a3 : Int32) (a4 : Int32) (a5 : Int32) (a6 : Int32) (s : Nat → Int32) (l : Nat → Int64) (x : Nat → Int32) (y : Nat → Int64) : pl_X12_writeBook_51 fu (n + 1) a2 a3 a4 a5 a6 s l x y = pj_bl px_X12_writeBook (pj_rn px_X12_writeBook (pj_as pk_X12_writeBook) (pj_as [(51, pe_X12_writeBook_51 (pl_X12_writeBook_51 fu n)), (103, pe_X12_writeBook_103 (pl_X12_writeBook_103 fu))]) 60) [(51, .iload 6, 2), (53, .bipush 32, 2), (55, .if_icmp .gt 48, 3)] 51 [(0, pj_O (124, 0)), (2, pj_I a2), (3, pj_I a3), (4, pj_I a4), (5, pj_I a5), (6, pj_I a6)] [] (s, l, x, y) := rfl
set_option maxRecDepth 100000 in
theorem pq_X12_writeBook_35 (fu : Nat)  (a2 : Int32) (b0 : Int32) (s : Nat → Int32) (l : Nat → Int64) (x : Nat → Int32) (y : Nat → Int64) : pl_X12_writeBook_35 fu a2 b0 s l x y = pj_bl px_X12_writeBook (pj_rn px_X12_writeBook (pj_as pk_X12_writeBook) (pj_as [(51, pe_X12_writeBook_51 (pl_X12_writeBook_51 fu fu))]) 60) [(35, .istore_n 3, 1), (36, .iload_n 2, 1), (37, .istore 4, 2), (39, .aload_n 0, 1), (40, .iload_n 3, 1), (41, .iconst 0, 1), (42, .iconst 0, 1), (43, .invokevirtual 591, 3), (46, .istore 5, 2), (48, .iconst 1, 1), (49, .istore 6, 2)] 35 [(0, pj_O (124, 0)), (2, pj_I a2)] [pj_I b0] (s, l, x, y) := rfl
set_option maxRecDepth 100000 in
theorem pq_X12_writeBook_25 (fu : Nat)  (a1 : Int32) (b0 : Int32) (s : Nat → Int32) (l : Nat → Int64) (x : Nat → Int32) (y : Nat → Int64) : pl_X12_writeBook_25 fu a1 b0 s l x y = pj_bl px_X12_writeBook (pj_rn px_X12_writeBook (pj_as pk_X12_writeBook) (pj_as [(35, pe_X12_writeBook_35 (pl_X12_writeBook_35 fu))]) 60) [(25, .istore_n 2, 1), (26, .iload_n 1, 1), (27, .ifCond .ne 7, 3)] 25 [(0, pj_O (124, 0)), (1, pj_I a1)] [pj_I b0] (s, l, x, y) := rfl
set_option maxRecDepth 100000 in
theorem pq_X12_writeBook_m (fu : Nat)   (s : Nat → Int32) (l : Nat → Int64) (x : Nat → Int32) (y : Nat → Int64) : po_X12_writeBook fu  s l x y = pj_bl px_X12_writeBook (pj_rn px_X12_writeBook (pj_as pk_X12_writeBook) (pj_as [(25, pe_X12_writeBook_25 (pl_X12_writeBook_25 fu))]) 60) [(0, .aload_n 0, 1), (1, .invokevirtual 563, 3), (4, .istore_n 1, 1), (5, .iload_n 1, 1), (6, .iconst (-1), 1), (7, .if_icmp .ne 7, 3)] 0 [(0, pj_O (124, 0))] [] (s, l, x, y) := rfl
theorem pu_X12_writeBook_25 {lf : pj_Z → mj_M} {a : Int32 × pj_Z} (f : Int32 → Int32 → pj_F (Int32 × pj_Z)) (hf : ∀ (a1 : Int32) (b0 : Int32) (s : Nat → Int32) (l : Nat → Int64) (x : Nat → Int32) (y : Nat → Int64), f a1 b0 s l x y = some a → pm_Gd 5 12027 ie_X12_writeBook.1 pm_rI lf 25 [(0, .ref 124), (1, .int a1)] [.int b0] (s, l, x, y) a) : pm_Ex 5 12027 ie_X12_writeBook.1 pm_rI lf a 25 (pe_X12_writeBook_25 f) := by
  intro lv st z hd h
  obtain ⟨g0, h⟩ := pj_xr_inv h
  obtain ⟨a1, g1, h⟩ := pj_xi_inv h
  obtain ⟨b0, r0, e0, h⟩ := pj_pi_inv h
  obtain ⟨e9, h⟩ := pj_pe_inv h
  rw [e0, e9]
  exact mj_wp_sub (mj_sub_cons g0 (mj_sub_cons g1 (mj_sub_nil hd))) (hf _ _ _ _ _ _ h)
theorem pu_X12_writeBook_35 {lf : pj_Z → mj_M} {a : Int32 × pj_Z} (f : Int32 → Int32 → pj_F (Int32 × pj_Z)) (hf : ∀ (a2 : Int32) (b0 : Int32) (s : Nat → Int32) (l : Nat → Int64) (x : Nat → Int32) (y : Nat → Int64), f a2 b0 s l x y = some a → pm_Gd 5 12027 ie_X12_writeBook.1 pm_rI lf 35 [(0, .ref 124), (2, .int a2)] [.int b0] (s, l, x, y) a) : pm_Ex 5 12027 ie_X12_writeBook.1 pm_rI lf a 35 (pe_X12_writeBook_35 f) := by
  intro lv st z hd h
  obtain ⟨g0, h⟩ := pj_xr_inv h
  obtain ⟨a2, g2, h⟩ := pj_xi_inv h
  obtain ⟨b0, r0, e0, h⟩ := pj_pi_inv h
  obtain ⟨e9, h⟩ := pj_pe_inv h
  rw [e0, e9]
  exact mj_wp_sub (mj_sub_cons g0 (mj_sub_cons g2 (mj_sub_nil hd))) (hf _ _ _ _ _ _ h)
theorem pu_X12_writeBook_51 {lf : pj_Z → mj_M} {a : Int32 × pj_Z} (f : Int32 → Int32 → Int32 → Int32 → Int32 → pj_F (Int32 × pj_Z)) (hf : ∀ (a2 : Int32) (a3 : Int32) (a4 : Int32) (a5 : Int32) (a6 : Int32) (s : Nat → Int32) (l : Nat → Int64) (x : Nat → Int32) (y : Nat → Int64), f a2 a3 a4 a5 a6 s l x y = some a → pm_Gd 5 12027 ie_X12_writeBook.1 pm_rI lf 51 [(0, .ref 124), (2, .int a2), (3, .int a3), (4, .int a4), (5, .int a5), (6, .int a6)] [] (s, l, x, y) a) : pm_Ex 5 12027 ie_X12_writeBook.1 pm_rI lf a 51 (pe_X12_writeBook_51 f) := by
  intro lv st z hd h
  obtain ⟨g0, h⟩ := pj_xr_inv h
  obtain ⟨a2, g2, h⟩ := pj_xi_inv h
  obtain ⟨a3, g3, h⟩ := pj_xi_inv h
  obtain ⟨a4, g4, h⟩ := pj_xi_inv h
  obtain ⟨a5, g5, h⟩ := pj_xi_inv h
  obtain ⟨a6, g6, h⟩ := pj_xi_inv h
  obtain ⟨e9, h⟩ := pj_pe_inv h
  rw [e9]
  exact mj_wp_sub (mj_sub_cons g0 (mj_sub_cons g2 (mj_sub_cons g3 (mj_sub_cons g4 (mj_sub_cons g5 (mj_sub_cons g6 (mj_sub_nil hd))))))) (hf _ _ _ _ _ _ _ _ _ h)
theorem pu_X12_writeBook_103 {lf : pj_Z → mj_M} {a : Int32 × pj_Z} (f : Int32 → Int32 → Int32 → Int32 → pj_F (Int32 × pj_Z)) (hf : ∀ (a2 : Int32) (a3 : Int32) (a4 : Int32) (a5 : Int32) (s : Nat → Int32) (l : Nat → Int64) (x : Nat → Int32) (y : Nat → Int64), f a2 a3 a4 a5 s l x y = some a → pm_Gd 5 12027 ie_X12_writeBook.1 pm_rI lf 103 [(0, .ref 124), (2, .int a2), (3, .int a3), (4, .int a4), (5, .int a5)] [] (s, l, x, y) a) : pm_Ex 5 12027 ie_X12_writeBook.1 pm_rI lf a 103 (pe_X12_writeBook_103 f) := by
  intro lv st z hd h
  obtain ⟨g0, h⟩ := pj_xr_inv h
  obtain ⟨a2, g2, h⟩ := pj_xi_inv h
  obtain ⟨a3, g3, h⟩ := pj_xi_inv h
  obtain ⟨a4, g4, h⟩ := pj_xi_inv h
  obtain ⟨a5, g5, h⟩ := pj_xi_inv h
  obtain ⟨e9, h⟩ := pj_pe_inv h
  rw [e9]
  exact mj_wp_sub (mj_sub_cons g0 (mj_sub_cons g2 (mj_sub_cons g3 (mj_sub_cons g4 (mj_sub_cons g5 (mj_sub_nil hd)))))) (hf _ _ _ _ _ _ _ _ h)
set_option maxRecDepth 100000 in
theorem pz_X12_writeBook {lf : pj_Z → mj_M} (hT : pj_Lt pj_TR lf) : pj_Cok ic_P (mj_R ic_P 5) 12027 ie_X12_writeBook.1 (pm_OK lf pm_rI) lf px_X12_writeBook := by
  exact pm_cok (c := px_X12_writeBook) (pm_part hT (pj_as_all (p := fun b e => pj_TR b = some e) (List.forall_mem_cons.mpr ⟨rfl, (List.forall_mem_cons.mpr ⟨rfl, (List.forall_mem_cons.mpr ⟨rfl, (fun _ h => by cases h)⟩)⟩)⟩))) (pm_in_ok (L := [(34, 12, 8, 2, true), (203, 12, 168, 2, true)]) (f := mj_pF ic_P 12027) (by decide +kernel)) (fun _ _ h => by cases h) (fun _ _ h => by cases h) (fun _ _ h => by cases h) rfl rfl ⟨by decide, rfl⟩ pm_mI (pj_as_all (p := pm_Cl 5 12027 ie_X12_writeBook.1 lf (pm_OK lf pm_rI)) (List.forall_mem_cons.mpr ⟨fun _ _ lv st z K a hK h => pc_X12_validBook hT (by decide) (ix := 563) rfl rfl hK h, (List.forall_mem_cons.mpr ⟨fun _ _ lv st z K a hK h => pc_X12_layPage hT (by decide) (ix := 591) rfl rfl hK h, (List.forall_mem_cons.mpr ⟨fun _ _ lv st z K a hK h => pc_X12_layPage hT (by decide) (ix := 591) rfl rfl hK h, (List.forall_mem_cons.mpr ⟨fun _ _ lv st z K a hK h => pc_X12_layPage hT (by decide) (ix := 591) rfl rfl hK h, (List.forall_mem_cons.mpr ⟨fun _ _ lv st z K a hK h => pc_X12_layPage hT (by decide) (ix := 591) rfl rfl hK h, (fun _ h => by cases h)⟩)⟩)⟩)⟩)⟩)) (fun _ h => by cases h)
set_option maxRecDepth 100000 in
theorem pb_X12_writeBook : pm_bks ie_X12_writeBook.1.2.2.2.2 pk_X12_writeBook = true := by decide +kernel
set_option maxRecDepth 100000 in
theorem pg_X12_writeBook_103 {fu : Nat} {lf : pj_Z → mj_M} (hT : pj_Lt pj_TR lf) : ∀ (a2 : Int32) (a3 : Int32) (a4 : Int32) (a5 : Int32) (s : Nat → Int32) (l : Nat → Int64) (x : Nat → Int32) (y : Nat → Int64) (a : Int32 × pj_Z), pl_X12_writeBook_103 fu a2 a3 a4 a5 s l x y = some a → pm_Gd 5 12027 ie_X12_writeBook.1 pm_rI lf 103 [(0, .ref 124), (2, .int a2), (3, .int a3), (4, .int a4), (5, .int a5)] [] (s, l, x, y) a := by
  intro a2 a3 a4 a5 s l x y a h
  exact pm_run ((pq_X12_writeBook_103 fu a2 a3 a4 a5 s l x y).symm.trans h) (pz_X12_writeBook hT) (pm_bks_ok pb_X12_writeBook) (pm_bks_ok pb_X12_writeBook _ _ rfl) (pm_ndb_ok rfl) (fun _ _ h => by cases h)
set_option maxRecDepth 100000 in
theorem pg_X12_writeBook_51 {fu : Nat} {lf : pj_Z → mj_M} (hT : pj_Lt pj_TR lf) : ∀ (n : Nat), ∀ (a2 : Int32) (a3 : Int32) (a4 : Int32) (a5 : Int32) (a6 : Int32) (s : Nat → Int32) (l : Nat → Int64) (x : Nat → Int32) (y : Nat → Int64) (a : Int32 × pj_Z), pl_X12_writeBook_51 fu n a2 a3 a4 a5 a6 s l x y = some a → pm_Gd 5 12027 ie_X12_writeBook.1 pm_rI lf 51 [(0, .ref 124), (2, .int a2), (3, .int a3), (4, .int a4), (5, .int a5), (6, .int a6)] [] (s, l, x, y) a := by
  intro n
  induction n with
  | zero => intro a2 a3 a4 a5 a6 s l x y a h; cases (show (none : Option (Int32 × pj_Z)) = some a from h)
  | succ n ih =>
    intro a2 a3 a4 a5 a6 s l x y a h
    exact pm_run ((pq_X12_writeBook_51 fu n a2 a3 a4 a5 a6 s l x y).symm.trans h) (pz_X12_writeBook hT) (pm_bks_ok pb_X12_writeBook) (pm_bks_ok pb_X12_writeBook _ _ rfl) (pm_ndb_ok rfl) (pj_as_all (p := pm_Ex 5 12027 ie_X12_writeBook.1 pm_rI lf a) (List.forall_mem_cons.mpr ⟨pu_X12_writeBook_51 _ (fun c0 c1 c2 c3 c4 s l x y h => ih c0 c1 c2 c3 c4 s l x y _ h), (List.forall_mem_cons.mpr ⟨pu_X12_writeBook_103 _ (fun c0 c1 c2 c3 s l x y h => pg_X12_writeBook_103 hT c0 c1 c2 c3 s l x y _ h), (fun _ h => by cases h)⟩)⟩))
set_option maxRecDepth 100000 in
theorem pg_X12_writeBook_35 {fu : Nat} {lf : pj_Z → mj_M} (hT : pj_Lt pj_TR lf) : ∀ (a2 : Int32) (b0 : Int32) (s : Nat → Int32) (l : Nat → Int64) (x : Nat → Int32) (y : Nat → Int64) (a : Int32 × pj_Z), pl_X12_writeBook_35 fu a2 b0 s l x y = some a → pm_Gd 5 12027 ie_X12_writeBook.1 pm_rI lf 35 [(0, .ref 124), (2, .int a2)] [.int b0] (s, l, x, y) a := by
  intro a2 b0 s l x y a h
  exact pm_run ((pq_X12_writeBook_35 fu a2 b0 s l x y).symm.trans h) (pz_X12_writeBook hT) (pm_bks_ok pb_X12_writeBook) (pm_bks_ok pb_X12_writeBook _ _ rfl) (pm_ndb_ok rfl) (pj_as_all (p := pm_Ex 5 12027 ie_X12_writeBook.1 pm_rI lf a) (List.forall_mem_cons.mpr ⟨pu_X12_writeBook_51 _ (fun c0 c1 c2 c3 c4 s l x y h => pg_X12_writeBook_51 hT _ c0 c1 c2 c3 c4 s l x y _ h), (fun _ h => by cases h)⟩))
set_option maxRecDepth 100000 in
theorem pg_X12_writeBook_25 {fu : Nat} {lf : pj_Z → mj_M} (hT : pj_Lt pj_TR lf) : ∀ (a1 : Int32) (b0 : Int32) (s : Nat → Int32) (l : Nat → Int64) (x : Nat → Int32) (y : Nat → Int64) (a : Int32 × pj_Z), pl_X12_writeBook_25 fu a1 b0 s l x y = some a → pm_Gd 5 12027 ie_X12_writeBook.1 pm_rI lf 25 [(0, .ref 124), (1, .int a1)] [.int b0] (s, l, x, y) a := by
  intro a1 b0 s l x y a h
  exact pm_run ((pq_X12_writeBook_25 fu a1 b0 s l x y).symm.trans h) (pz_X12_writeBook hT) (pm_bks_ok pb_X12_writeBook) (pm_bks_ok pb_X12_writeBook _ _ rfl) (pm_ndb_ok rfl) (pj_as_all (p := pm_Ex 5 12027 ie_X12_writeBook.1 pm_rI lf a) (List.forall_mem_cons.mpr ⟨pu_X12_writeBook_35 _ (fun c0 c1 s l x y h => pg_X12_writeBook_35 hT c0 c1 s l x y _ h), (fun _ h => by cases h)⟩))
set_option maxRecDepth 100000 in
theorem pm_X12_writeBook {lf : pj_Z → mj_M} (hT : pj_Lt pj_TR lf)  (s : Nat → Int32) (l : Nat → Int64) (x : Nat → Int32) (y : Nat → Int64) (a : Int32 × pj_Z) (h : pf_X12_writeBook  s l x y = some a) : mj_R ic_P 6 12027 [.ref 124] (lf (s, l, x, y)) (pm_rI a.1) (lf a.2) := by
  refine pm_main (Y := ie_X12_writeBook.1) rfl (Nat.le_of_ble_eq_true rfl) ?_
  exact pm_run ((pq_X12_writeBook_m 1000  s l x y).symm.trans h) (pz_X12_writeBook hT) (pm_bks_ok pb_X12_writeBook) (pm_bks_ok pb_X12_writeBook _ _ rfl) (pm_ndb_ok rfl) (pj_as_all (p := pm_Ex 5 12027 ie_X12_writeBook.1 pm_rI lf a) (List.forall_mem_cons.mpr ⟨pu_X12_writeBook_25 _ (fun c0 c1 s l x y h => pg_X12_writeBook_25 hT c0 c1 s l x y _ h), (fun _ h => by cases h)⟩))
abbrev ph_X12_writeBook {A : Type} : List pj_V → pj_Z → (List pj_V → pj_Z → Option A) → Option A := fun st z K => pj_pr st 124 0 fun st => pj_ps st (pj_b (pf_X12_writeBook  z.1 z.2.1 z.2.2.1 z.2.2.2) fun r s l x y => K (pj_I r :: st) (s, l, x, y))
set_option maxRecDepth 100000 in
theorem pc_X12_writeBook {A : Type} {OK : A → Option Value → mj_M → Prop} {d j pc ix : Nat} {Y : mj_Y} {lf : pj_Z → mj_M} (hT : pj_Lt pj_TR lf) (hd : 6 ≤ d) (hl : mj_lk Y.2.2.2.2 pc = some (.invokevirtual ix, 3)) (hg : mj_pG ic_P j ix = some (12027, 0, some 12)) {lv : List (Nat × Value)} {st : List pj_V} {z : pj_Z} {K : List pj_V → pj_Z → Option A} {a : A} (hK : ∀ st z, K st z = some a → pj_Gd ic_P (mj_R ic_P d) j Y OK lf (pc + 3) lv (pj_es st) z a) (h : ph_X12_writeBook st z K = some a) : pj_Gd ic_P (mj_R ic_P d) j Y OK lf pc lv (pj_es st) z a := by
  obtain ⟨r0, e0, h⟩ := pj_pr_inv h
  obtain ⟨hs, h⟩ := pj_ps_inv h
  obtain ⟨q, hq, h⟩ := pj_b_inv h
  exact pm_cv (o := 124) hl hg [] rfl (by rw [e0]; rfl) hs (by decide) ((hT.2 124 _ rfl).1.2 z 0 (by decide)) (pm_rI q.1) hd (pm_X12_writeBook hT  z.1 z.2.1 z.2.2.1 z.2.2.2 q hq) rfl (hK _ _ h)
abbrev pe_X12_endCycle_2 (f : Int32 → pj_F (Unit × pj_Z)) : pj_K (Unit × pj_Z) := fun lv st z => pj_xr lv 0 124 0 <| pj_xi lv 1 fun a1 => pj_pe st (f a1 z.1 z.2.1 z.2.2.1 z.2.2.2)
abbrev pe_X12_endCycle_43 (f : Int32 → pj_F (Unit × pj_Z)) : pj_K (Unit × pj_Z) := fun lv st z => pj_xr lv 0 124 0 <| pj_xi lv 1 fun a1 => pj_pe st (f a1 z.1 z.2.1 z.2.2.1 z.2.2.2)
abbrev pe_X12_endCycle_68 (f : Int32 → pj_F (Unit × pj_Z)) : pj_K (Unit × pj_Z) := fun lv st z => pj_xr lv 0 124 0 <| pj_xi lv 1 fun a1 => pj_pe st (f a1 z.1 z.2.1 z.2.2.1 z.2.2.2)
abbrev pe_X12_endCycle_99 (f : Int32 → Int32 → Int32 → pj_F (Unit × pj_Z)) : pj_K (Unit × pj_Z) := fun lv st z => pj_xr lv 0 124 0 <| pj_xi lv 1 fun a1 => pj_pi st fun b2 st => pj_pi st fun b1 st => pj_pr st 172 0 fun st => pj_pe st (f a1 b1 b2 z.1 z.2.1 z.2.2.1 z.2.2.2)
abbrev pe_X12_endCycle_100 (f : Int32 → pj_F (Unit × pj_Z)) : pj_K (Unit × pj_Z) := fun lv st z => pj_xr lv 0 124 0 <| pj_xi lv 1 fun a1 => pj_pe st (f a1 z.1 z.2.1 z.2.2.1 z.2.2.2)
abbrev pe_X12_endCycle_125 (f : Int32 → pj_F (Unit × pj_Z)) : pj_K (Unit × pj_Z) := fun lv st z => pj_xr lv 0 124 0 <| pj_xi lv 1 fun a1 => pj_pe st (f a1 z.1 z.2.1 z.2.2.1 z.2.2.2)
abbrev pe_X12_endCycle_177 (f : pj_F (Unit × pj_Z)) : pj_K (Unit × pj_Z) := fun lv st z => pj_pr st 124 0 fun st => pj_pe st (f  z.1 z.2.1 z.2.2.1 z.2.2.2)
abbrev pe_X12_endCycle_181 (f : pj_F (Unit × pj_Z)) : pj_K (Unit × pj_Z) := fun lv st z => pj_pr st 124 0 fun st => pj_pe st (f  z.1 z.2.1 z.2.2.1 z.2.2.2)
abbrev pe_X12_endCycle_182 (f : Int32 → pj_F (Unit × pj_Z)) : pj_K (Unit × pj_Z) := fun lv st z => pj_pi st fun b1 st => pj_pr st 124 0 fun st => pj_pe st (f b1 z.1 z.2.1 z.2.2.1 z.2.2.2)
abbrev px_X12_endCycle : pj_C (Unit × pj_Z) := ((pj_as [(124, 12, 195, 1, 0, true, 0, [(1, 1), (2, 125), (2, 126), (2, 127), (2, 128), (2, 129), (2, 130), (2, 131), (2, 132), (2, 133), (1, 2), (0, 44), (2, 134), (2, 135), (2, 136), (2, 137), (2, 138), (0, 69), (2, 139), (2, 140), (2, 141), (1, 3), (0, 93), (0, 94), (0, 45), (0, 46), (0, 48), (0, 49), (0, 47), (0, 50), (0, 51), (2, 142), (2, 143), (2, 144), (0, 19), (1, 4), (1, 5), (1, 6), (0, 20), (0, 21), (0, 22), (0, 23), (0, 24), (0, 25), (0, 27), (0, 28), (1, 7), (1, 8), (1, 9), (1, 10), (1, 11), (0, 26), (2, 145), (2, 146), (2, 147), (2, 148), (2, 149), (2, 150), (2, 151), (2, 152), (2, 153), (2, 154), (2, 155), (2, 156), (2, 157), (2, 158), (2, 159), (0, 57), (0, 58), (0, 59), (0, 60), (2, 160), (2, 161), (2, 162), (2, 163), (1, 12), (1, 13), (0, 95), (0, 73), (0, 74), (0, 71), (0, 72), (0, 75), (0, 76), (0, 77), (0, 80), (0, 78), (0, 79), (1, 14), (0, 29), (0, 30), (0, 31), (0, 34), (0, 35), (0, 32), (0, 33), (0, 36), (0, 37), (0, 38), (0, 39), (0, 40), (1, 15), (1, 16), (0, 43), (0, 41), (0, 42), (2, 164), (0, 96), (0, 89), (0, 90), (0, 91), (0, 92), (2, 165), (2, 166), (2, 167), (2, 168), (2, 169), (2, 170), (2, 171), (2, 172), (0, 87), (2, 173), (0, 88), (2, 174), (0, 62), (1, 17), (0, 66), (0, 63), (0, 64), (0, 65), (0, 67), (1, 18), (0, 68), (2, 175), (1, 19), (0, 52), (0, 53), (0, 54), (0, 55), (2, 176), (0, 56), (0, 85), (0, 86), (0, 81), (0, 82), (0, 83), (0, 84), (2, 177), (2, 178), (2, 179), (1, 20), (2, 180), (0, 6), (0, 7), (0, 8), (0, 16), (0, 17), (0, 61), (0, 9), (0, 10), (1, 21), (1, 22), (0, 11), (0, 12), (0, 13), (0, 18), (0, 14), (0, 15), (2, 181), (0, 70), (1, 23), (2, 182), (2, 183), (0, 1), (1, 24), (2, 184), (2, 185), (1, 25), (0, 2), (2, 186), (2, 187), (1, 26), (2, 188), (2, 189), (1, 27), (1, 28), (2, 190), (2, 191), (1, 29), (0, 3), (2, 192), (0, 4), (0, 5), (1, 30), (2, 193)]), (167, 102, 28, 1, 0, true, 40140, []), (168, 102, 28, 1, 0, true, 40168, []), (169, 102, 28, 1, 0, true, 40196, []), (170, 102, 28, 1, 0, true, 40056, []), (171, 102, 28, 1, 0, true, 40084, []), (172, 100, 28, 1, 0, true, 40112, []), (173, 100, 8, 1, 0, false, 10000, [])]), (pj_as [(155, 12, 114, 2, true), (158, 12, 115, 2, true), (161, 12, 116, 2, true), (164, 12, 117, 2, true), (167, 12, 118, 2, true), (170, 12, 119, 2, true), (173, 12, 121, 2, true), (330, 12, 122, 0, false), (513, 12, 120, 3, false)]), (fun _ => none), (fun _ => none), (fun _ => none), ic_X, 2, 0, pj_mU, (fun _ => none), fun _ => false)
abbrev pk_X12_endCycle : List (Nat × List (Nat × Instr × Nat)) := [(0, [(0, .iconst 0, 1), (1, .istore_n 1, 1)]), (2, [(2, .iload_n 1, 1), (3, .bipush 28, 2), (5, .if_icmp .ge 126, 3)]), (8, [(8, .aload_n 0, 1), (9, .getfield 155, 3), (12, .iload_n 1, 1), (13, .baload, 1), (14, .ifCond .eq 29, 3)]), (17, [(17, .aload_n 0, 1), (18, .getfield 161, 3), (21, .iload_n 1, 1), (22, .baload, 1), (23, .ifCond .eq 20, 3)]), (26, [(26, .aload_n 0, 1), (27, .getfield 167, 3), (30, .iload_n 1, 1), (31, .iconst 1, 1), (32, .bastore, 1), (33, .aload_n 0, 1), (34, .getfield 170, 3), (37, .iload_n 1, 1), (38, .iconst 0, 1), (39, .iastore, 1), (40, .goto 85, 3)]), (43, [(43, .aload_n 0, 1), (44, .getfield 155, 3), (47, .iload_n 1, 1), (48, .baload, 1), (49, .ifCond .ne 76, 3)]), (52, [(52, .aload_n 0, 1), (53, .getfield 158, 3), (56, .iload_n 1, 1), (57, .baload, 1), (58, .ifCond .eq 67, 3)]), (61, [(61, .aload_n 0, 1), (62, .getfield 164, 3), (65, .iload_n 1, 1), (66, .iconst 0, 1), (67, .bastore, 1)]), (68, [(68, .aload_n 0, 1), (69, .getfield 170, 3), (72, .iload_n 1, 1), (73, .aload_n 0, 1), (74, .getfield 167, 3), (77, .iload_n 1, 1), (78, .baload, 1), (79, .ifCond .eq 14, 3)]), (82, [(82, .aload_n 0, 1), (83, .getfield 170, 3), (86, .iload_n 1, 1), (87, .iaload, 1), (88, .iconst 1, 1), (89, .iadd, 1), (90, .goto 9, 3)]), (93, [(93, .aload_n 0, 1), (94, .getfield 170, 3), (97, .iload_n 1, 1), (98, .iaload, 1)]), (99, [(99, .iastore, 1)]), (100, [(100, .aload_n 0, 1), (101, .getfield 170, 3), (104, .iload_n 1, 1), (105, .iaload, 1), (106, .bipush 40, 2), (108, .if_icmp .ne 17, 3)]), (111, [(111, .aload_n 0, 1), (112, .getfield 170, 3), (115, .iload_n 1, 1), (116, .iconst 0, 1), (117, .iastore, 1), (118, .aload_n 0, 1), (119, .getfield 167, 3), (122, .iload_n 1, 1), (123, .iconst 0, 1), (124, .bastore, 1)]), (125, [(125, .iinc 1 1, 3), (128, .goto (-126), 3)]), (131, [(131, .aload_n 0, 1), (132, .dup, 1), (133, .getfield 330, 3), (136, .iconst 1, 1), (137, .iadd, 1), (138, .putfield 330, 3), (141, .aload_n 0, 1), (142, .aload_n 0, 1), (143, .getfield 513, 3), (146, .ifCond .eq 35, 3)]), (149, [(149, .aload_n 0, 1), (150, .getfield 164, 3), (153, .aload_n 0, 1), (154, .getfield 173, 3), (157, .iconst 0, 1), (158, .iaload, 1), (159, .baload, 1), (160, .ifCond .ne 17, 3)]), (163, [(163, .aload_n 0, 1), (164, .getfield 167, 3), (167, .aload_n 0, 1), (168, .getfield 173, 3), (171, .iconst 0, 1), (172, .iaload, 1), (173, .baload, 1), (174, .ifCond .eq 7, 3)]), (177, [(177, .iconst 1, 1), (178, .goto 4, 3)]), (181, [(181, .iconst 0, 1)]), (182, [(182, .putfield 513, 3), (185, .return_, 1)])]
set_option maxRecDepth 100000 in
theorem pq_X12_endCycle_125 (fu : Nat)  (k2 : Int32 → pj_F (Unit × pj_Z)) (a1 : Int32) (s : Nat → Int32) (l : Nat → Int64) (x : Nat → Int32) (y : Nat → Int64) : pl_X12_endCycle_125 fu k2 a1 s l x y = pj_bl px_X12_endCycle (pj_rn px_X12_endCycle (pj_as pk_X12_endCycle) (pj_as [(2, pe_X12_endCycle_2 k2)]) 60) [(125, .iinc 1 1, 3), (128, .goto (-126), 3)] 125 [(0, pj_O (124, 0)), (1, pj_I a1)] [] (s, l, x, y) := rfl
set_option maxRecDepth 100000 in
theorem pq_X12_endCycle_100 (fu : Nat)  (k2 : Int32 → pj_F (Unit × pj_Z)) (a1 : Int32) (s : Nat → Int32) (l : Nat → Int64) (x : Nat → Int32) (y : Nat → Int64) : pl_X12_endCycle_100 fu k2 a1 s l x y = pj_bl px_X12_endCycle (pj_rn px_X12_endCycle (pj_as pk_X12_endCycle) (pj_as [(2, pe_X12_endCycle_2 k2), (125, pe_X12_endCycle_125 (pl_X12_endCycle_125 fu k2))]) 60) [(100, .aload_n 0, 1), (101, .getfield 170, 3), (104, .iload_n 1, 1), (105, .iaload, 1), (106, .bipush 40, 2), (108, .if_icmp .ne 17, 3)] 100 [(0, pj_O (124, 0)), (1, pj_I a1)] [] (s, l, x, y) := rfl
set_option maxRecDepth 100000 in
theorem pq_X12_endCycle_99 (fu : Nat)  (k2 : Int32 → pj_F (Unit × pj_Z)) (a1 : Int32) (b1 : Int32) (b2 : Int32) (s : Nat → Int32) (l : Nat → Int64) (x : Nat → Int32) (y : Nat → Int64) : pl_X12_endCycle_99 fu k2 a1 b1 b2 s l x y = pj_bl px_X12_endCycle (pj_rn px_X12_endCycle (pj_as pk_X12_endCycle) (pj_as [(2, pe_X12_endCycle_2 k2), (100, pe_X12_endCycle_100 (pl_X12_endCycle_100 fu k2))]) 60) [(99, .iastore, 1)] 99 [(0, pj_O (124, 0)), (1, pj_I a1)] [pj_I b2, pj_I b1, pj_O (172, 0)] (s, l, x, y) := rfl
set_option maxRecDepth 100000 in
theorem pq_X12_endCycle_68 (fu : Nat)  (k2 : Int32 → pj_F (Unit × pj_Z)) (a1 : Int32) (s : Nat → Int32) (l : Nat → Int64) (x : Nat → Int32) (y : Nat → Int64) : pl_X12_endCycle_68 fu k2 a1 s l x y = pj_bl px_X12_endCycle (pj_rn px_X12_endCycle (pj_as pk_X12_endCycle) (pj_as [(2, pe_X12_endCycle_2 k2), (99, pe_X12_endCycle_99 (pl_X12_endCycle_99 fu k2))]) 60) [(68, .aload_n 0, 1), (69, .getfield 170, 3), (72, .iload_n 1, 1), (73, .aload_n 0, 1), (74, .getfield 167, 3), (77, .iload_n 1, 1), (78, .baload, 1), (79, .ifCond .eq 14, 3)] 68 [(0, pj_O (124, 0)), (1, pj_I a1)] [] (s, l, x, y) := rfl
set_option maxRecDepth 100000 in
theorem pq_X12_endCycle_43 (fu : Nat)  (k2 : Int32 → pj_F (Unit × pj_Z)) (a1 : Int32) (s : Nat → Int32) (l : Nat → Int64) (x : Nat → Int32) (y : Nat → Int64) : pl_X12_endCycle_43 fu k2 a1 s l x y = pj_bl px_X12_endCycle (pj_rn px_X12_endCycle (pj_as pk_X12_endCycle) (pj_as [(2, pe_X12_endCycle_2 k2), (68, pe_X12_endCycle_68 (pl_X12_endCycle_68 fu k2)), (125, pe_X12_endCycle_125 (pl_X12_endCycle_125 fu k2))]) 60) [(43, .aload_n 0, 1), (44, .getfield 155, 3), (47, .iload_n 1, 1), (48, .baload, 1), (49, .ifCond .ne 76, 3)] 43 [(0, pj_O (124, 0)), (1, pj_I a1)] [] (s, l, x, y) := rfl
set_option maxRecDepth 100000 in
theorem pq_X12_endCycle_182 (fu : Nat)  (b1 : Int32) (s : Nat → Int32) (l : Nat → Int64) (x : Nat → Int32) (y : Nat → Int64) : pl_X12_endCycle_182 fu b1 s l x y = pj_bl px_X12_endCycle (pj_rn px_X12_endCycle (pj_as pk_X12_endCycle) (fun _ => none) 60) [(182, .putfield 513, 3), (185, .return_, 1)] 182 [] [pj_I b1, pj_O (124, 0)] (s, l, x, y) := rfl
set_option maxRecDepth 100000 in
theorem pq_X12_endCycle_177 (fu : Nat)   (s : Nat → Int32) (l : Nat → Int64) (x : Nat → Int32) (y : Nat → Int64) : pl_X12_endCycle_177 fu s l x y = pj_bl px_X12_endCycle (pj_rn px_X12_endCycle (pj_as pk_X12_endCycle) (pj_as [(182, pe_X12_endCycle_182 (pl_X12_endCycle_182 fu))]) 60) [(177, .iconst 1, 1), (178, .goto 4, 3)] 177 [] [pj_O (124, 0)] (s, l, x, y) := rfl
set_option maxRecDepth 100000 in
theorem pq_X12_endCycle_181 (fu : Nat)   (s : Nat → Int32) (l : Nat → Int64) (x : Nat → Int32) (y : Nat → Int64) : pl_X12_endCycle_181 fu s l x y = pj_bl px_X12_endCycle (pj_rn px_X12_endCycle (pj_as pk_X12_endCycle) (pj_as [(182, pe_X12_endCycle_182 (pl_X12_endCycle_182 fu))]) 60) [(181, .iconst 0, 1)] 181 [] [pj_O (124, 0)] (s, l, x, y) := rfl
set_option maxRecDepth 100000 in
theorem pq_X12_endCycle_2 (fu : Nat)  (n : Nat) (a1 : Int32) (s : Nat → Int32) (l : Nat → Int64) (x : Nat → Int32) (y : Nat → Int64) : pl_X12_endCycle_2 fu (n + 1) a1 s l x y = pj_bl px_X12_endCycle (pj_rn px_X12_endCycle (pj_as pk_X12_endCycle) (pj_as [(2, pe_X12_endCycle_2 (pl_X12_endCycle_2 fu n)), (43, pe_X12_endCycle_43 (pl_X12_endCycle_43 fu (pl_X12_endCycle_2 fu n))), (125, pe_X12_endCycle_125 (pl_X12_endCycle_125 fu (pl_X12_endCycle_2 fu n))), (177, pe_X12_endCycle_177 (pl_X12_endCycle_177 fu)), (181, pe_X12_endCycle_181 (pl_X12_endCycle_181 fu))]) 60) [(2, .iload_n 1, 1), (3, .bipush 28, 2), (5, .if_icmp .ge 126, 3)] 2 [(0, pj_O (124, 0)), (1, pj_I a1)] [] (s, l, x, y) := rfl
set_option maxRecDepth 100000 in
theorem pq_X12_endCycle_m (fu : Nat)   (s : Nat → Int32) (l : Nat → Int64) (x : Nat → Int32) (y : Nat → Int64) : po_X12_endCycle fu  s l x y = pj_bl px_X12_endCycle (pj_rn px_X12_endCycle (pj_as pk_X12_endCycle) (pj_as [(2, pe_X12_endCycle_2 (pl_X12_endCycle_2 fu fu))]) 60) [(0, .iconst 0, 1), (1, .istore_n 1, 1)] 0 [(0, pj_O (124, 0))] [] (s, l, x, y) := rfl
theorem pu_X12_endCycle_2 {lf : pj_Z → mj_M} {a : Unit × pj_Z} (f : Int32 → pj_F (Unit × pj_Z)) (hf : ∀ (a1 : Int32) (s : Nat → Int32) (l : Nat → Int64) (x : Nat → Int32) (y : Nat → Int64), f a1 s l x y = some a → pm_Gd 0 12028 ie_X12_endCycle.1 pm_rU lf 2 [(0, .ref 124), (1, .int a1)] [] (s, l, x, y) a) : pm_Ex 0 12028 ie_X12_endCycle.1 pm_rU lf a 2 (pe_X12_endCycle_2 f) := by
  intro lv st z hd h
  obtain ⟨g0, h⟩ := pj_xr_inv h
  obtain ⟨a1, g1, h⟩ := pj_xi_inv h
  obtain ⟨e9, h⟩ := pj_pe_inv h
  rw [e9]
  exact mj_wp_sub (mj_sub_cons g0 (mj_sub_cons g1 (mj_sub_nil hd))) (hf _ _ _ _ _ h)
theorem pu_X12_endCycle_43 {lf : pj_Z → mj_M} {a : Unit × pj_Z} (f : Int32 → pj_F (Unit × pj_Z)) (hf : ∀ (a1 : Int32) (s : Nat → Int32) (l : Nat → Int64) (x : Nat → Int32) (y : Nat → Int64), f a1 s l x y = some a → pm_Gd 0 12028 ie_X12_endCycle.1 pm_rU lf 43 [(0, .ref 124), (1, .int a1)] [] (s, l, x, y) a) : pm_Ex 0 12028 ie_X12_endCycle.1 pm_rU lf a 43 (pe_X12_endCycle_43 f) := by
  intro lv st z hd h
  obtain ⟨g0, h⟩ := pj_xr_inv h
  obtain ⟨a1, g1, h⟩ := pj_xi_inv h
  obtain ⟨e9, h⟩ := pj_pe_inv h
  rw [e9]
  exact mj_wp_sub (mj_sub_cons g0 (mj_sub_cons g1 (mj_sub_nil hd))) (hf _ _ _ _ _ h)
theorem pu_X12_endCycle_68 {lf : pj_Z → mj_M} {a : Unit × pj_Z} (f : Int32 → pj_F (Unit × pj_Z)) (hf : ∀ (a1 : Int32) (s : Nat → Int32) (l : Nat → Int64) (x : Nat → Int32) (y : Nat → Int64), f a1 s l x y = some a → pm_Gd 0 12028 ie_X12_endCycle.1 pm_rU lf 68 [(0, .ref 124), (1, .int a1)] [] (s, l, x, y) a) : pm_Ex 0 12028 ie_X12_endCycle.1 pm_rU lf a 68 (pe_X12_endCycle_68 f) := by
  intro lv st z hd h
  obtain ⟨g0, h⟩ := pj_xr_inv h
  obtain ⟨a1, g1, h⟩ := pj_xi_inv h
  obtain ⟨e9, h⟩ := pj_pe_inv h
  rw [e9]
  exact mj_wp_sub (mj_sub_cons g0 (mj_sub_cons g1 (mj_sub_nil hd))) (hf _ _ _ _ _ h)
theorem pu_X12_endCycle_99 {lf : pj_Z → mj_M} {a : Unit × pj_Z} (f : Int32 → Int32 → Int32 → pj_F (Unit × pj_Z)) (hf : ∀ (a1 : Int32) (b1 : Int32) (b2 : Int32) (s : Nat → Int32) (l : Nat → Int64) (x : Nat → Int32) (y : Nat → Int64), f a1 b1 b2 s l x y = some a → pm_Gd 0 12028 ie_X12_endCycle.1 pm_rU lf 99 [(0, .ref 124), (1, .int a1)] [.int b2, .int b1, .ref 172] (s, l, x, y) a) : pm_Ex 0 12028 ie_X12_endCycle.1 pm_rU lf a 99 (pe_X12_endCycle_99 f) := by
  intro lv st z hd h
  obtain ⟨g0, h⟩ := pj_xr_inv h
  obtain ⟨a1, g1, h⟩ := pj_xi_inv h
  obtain ⟨b2, r2, e2, h⟩ := pj_pi_inv h
  obtain ⟨b1, r1, e1, h⟩ := pj_pi_inv h
  obtain ⟨r0, e0, h⟩ := pj_pr_inv h
  obtain ⟨e9, h⟩ := pj_pe_inv h
  rw [e2, e1, e0, e9]
  exact mj_wp_sub (mj_sub_cons g0 (mj_sub_cons g1 (mj_sub_nil hd))) (hf _ _ _ _ _ _ _ h)
theorem pu_X12_endCycle_100 {lf : pj_Z → mj_M} {a : Unit × pj_Z} (f : Int32 → pj_F (Unit × pj_Z)) (hf : ∀ (a1 : Int32) (s : Nat → Int32) (l : Nat → Int64) (x : Nat → Int32) (y : Nat → Int64), f a1 s l x y = some a → pm_Gd 0 12028 ie_X12_endCycle.1 pm_rU lf 100 [(0, .ref 124), (1, .int a1)] [] (s, l, x, y) a) : pm_Ex 0 12028 ie_X12_endCycle.1 pm_rU lf a 100 (pe_X12_endCycle_100 f) := by
  intro lv st z hd h
  obtain ⟨g0, h⟩ := pj_xr_inv h
  obtain ⟨a1, g1, h⟩ := pj_xi_inv h
  obtain ⟨e9, h⟩ := pj_pe_inv h
  rw [e9]
  exact mj_wp_sub (mj_sub_cons g0 (mj_sub_cons g1 (mj_sub_nil hd))) (hf _ _ _ _ _ h)
theorem pu_X12_endCycle_125 {lf : pj_Z → mj_M} {a : Unit × pj_Z} (f : Int32 → pj_F (Unit × pj_Z)) (hf : ∀ (a1 : Int32) (s : Nat → Int32) (l : Nat → Int64) (x : Nat → Int32) (y : Nat → Int64), f a1 s l x y = some a → pm_Gd 0 12028 ie_X12_endCycle.1 pm_rU lf 125 [(0, .ref 124), (1, .int a1)] [] (s, l, x, y) a) : pm_Ex 0 12028 ie_X12_endCycle.1 pm_rU lf a 125 (pe_X12_endCycle_125 f) := by
  intro lv st z hd h
  obtain ⟨g0, h⟩ := pj_xr_inv h
  obtain ⟨a1, g1, h⟩ := pj_xi_inv h
  obtain ⟨e9, h⟩ := pj_pe_inv h
  rw [e9]
  exact mj_wp_sub (mj_sub_cons g0 (mj_sub_cons g1 (mj_sub_nil hd))) (hf _ _ _ _ _ h)
theorem pu_X12_endCycle_177 {lf : pj_Z → mj_M} {a : Unit × pj_Z} (f : pj_F (Unit × pj_Z)) (hf : ∀  (s : Nat → Int32) (l : Nat → Int64) (x : Nat → Int32) (y : Nat → Int64), f  s l x y = some a → pm_Gd 0 12028 ie_X12_endCycle.1 pm_rU lf 177 [] [.ref 124] (s, l, x, y) a) : pm_Ex 0 12028 ie_X12_endCycle.1 pm_rU lf a 177 (pe_X12_endCycle_177 f) := by
  intro lv st z hd h
  obtain ⟨r0, e0, h⟩ := pj_pr_inv h
  obtain ⟨e9, h⟩ := pj_pe_inv h
  rw [e0, e9]
  exact mj_wp_sub (mj_sub_nil hd) (hf  _ _ _ _ h)
theorem pu_X12_endCycle_181 {lf : pj_Z → mj_M} {a : Unit × pj_Z} (f : pj_F (Unit × pj_Z)) (hf : ∀  (s : Nat → Int32) (l : Nat → Int64) (x : Nat → Int32) (y : Nat → Int64), f  s l x y = some a → pm_Gd 0 12028 ie_X12_endCycle.1 pm_rU lf 181 [] [.ref 124] (s, l, x, y) a) : pm_Ex 0 12028 ie_X12_endCycle.1 pm_rU lf a 181 (pe_X12_endCycle_181 f) := by
  intro lv st z hd h
  obtain ⟨r0, e0, h⟩ := pj_pr_inv h
  obtain ⟨e9, h⟩ := pj_pe_inv h
  rw [e0, e9]
  exact mj_wp_sub (mj_sub_nil hd) (hf  _ _ _ _ h)
theorem pu_X12_endCycle_182 {lf : pj_Z → mj_M} {a : Unit × pj_Z} (f : Int32 → pj_F (Unit × pj_Z)) (hf : ∀ (b1 : Int32) (s : Nat → Int32) (l : Nat → Int64) (x : Nat → Int32) (y : Nat → Int64), f b1 s l x y = some a → pm_Gd 0 12028 ie_X12_endCycle.1 pm_rU lf 182 [] [.int b1, .ref 124] (s, l, x, y) a) : pm_Ex 0 12028 ie_X12_endCycle.1 pm_rU lf a 182 (pe_X12_endCycle_182 f) := by
  intro lv st z hd h
  obtain ⟨b1, r1, e1, h⟩ := pj_pi_inv h
  obtain ⟨r0, e0, h⟩ := pj_pr_inv h
  obtain ⟨e9, h⟩ := pj_pe_inv h
  rw [e1, e0, e9]
  exact mj_wp_sub (mj_sub_nil hd) (hf _ _ _ _ _ h)
set_option maxRecDepth 100000 in
theorem pz_X12_endCycle {lf : pj_Z → mj_M} (hT : pj_Lt pj_TR lf) : pj_Cok ic_P (mj_R ic_P 0) 12028 ie_X12_endCycle.1 (pm_OK lf pm_rU) lf px_X12_endCycle := by
  exact pm_cok (c := px_X12_endCycle) (pm_part hT (pj_as_all (p := fun b e => pj_TR b = some e) (List.forall_mem_cons.mpr ⟨rfl, (List.forall_mem_cons.mpr ⟨rfl, (List.forall_mem_cons.mpr ⟨rfl, (List.forall_mem_cons.mpr ⟨rfl, (List.forall_mem_cons.mpr ⟨rfl, (List.forall_mem_cons.mpr ⟨rfl, (List.forall_mem_cons.mpr ⟨rfl, (List.forall_mem_cons.mpr ⟨rfl, (fun _ h => by cases h)⟩)⟩)⟩)⟩)⟩)⟩)⟩)⟩))) (pm_in_ok (L := [(155, 12, 114, 2, true), (158, 12, 115, 2, true), (161, 12, 116, 2, true), (164, 12, 117, 2, true), (167, 12, 118, 2, true), (170, 12, 119, 2, true), (173, 12, 121, 2, true), (330, 12, 122, 0, false), (513, 12, 120, 3, false)]) (f := mj_pF ic_P 12028) (by decide +kernel)) (fun _ _ h => by cases h) (fun _ _ h => by cases h) (fun _ _ h => by cases h) rfl rfl ⟨by decide, rfl⟩ pm_mU (fun _ _ h => by cases h) (fun _ h => by cases h)
set_option maxRecDepth 100000 in
theorem pb_X12_endCycle : pm_bks ie_X12_endCycle.1.2.2.2.2 pk_X12_endCycle = true := by decide +kernel
set_option maxRecDepth 100000 in
theorem pg_X12_endCycle_125 {fu : Nat} {lf : pj_Z → mj_M} (hT : pj_Lt pj_TR lf) {k2 : Int32 → pj_F (Unit × pj_Z)} (hk2 : ∀ (a1 : Int32) (s : Nat → Int32) (l : Nat → Int64) (x : Nat → Int32) (y : Nat → Int64) (a : Unit × pj_Z), k2 a1 s l x y = some a → pm_Gd 0 12028 ie_X12_endCycle.1 pm_rU lf 2 [(0, .ref 124), (1, .int a1)] [] (s, l, x, y) a) : ∀ (a1 : Int32) (s : Nat → Int32) (l : Nat → Int64) (x : Nat → Int32) (y : Nat → Int64) (a : Unit × pj_Z), pl_X12_endCycle_125 fu k2 a1 s l x y = some a → pm_Gd 0 12028 ie_X12_endCycle.1 pm_rU lf 125 [(0, .ref 124), (1, .int a1)] [] (s, l, x, y) a := by
  intro a1 s l x y a h
  exact pm_run ((pq_X12_endCycle_125 fu k2 a1 s l x y).symm.trans h) (pz_X12_endCycle hT) (pm_bks_ok pb_X12_endCycle) (pm_bks_ok pb_X12_endCycle _ _ rfl) (pm_ndb_ok rfl) (pj_as_all (p := pm_Ex 0 12028 ie_X12_endCycle.1 pm_rU lf a) (List.forall_mem_cons.mpr ⟨pu_X12_endCycle_2 _ (fun c0 s l x y h => hk2 c0 s l x y _ h), (fun _ h => by cases h)⟩))
set_option maxRecDepth 100000 in
theorem pg_X12_endCycle_100 {fu : Nat} {lf : pj_Z → mj_M} (hT : pj_Lt pj_TR lf) {k2 : Int32 → pj_F (Unit × pj_Z)} (hk2 : ∀ (a1 : Int32) (s : Nat → Int32) (l : Nat → Int64) (x : Nat → Int32) (y : Nat → Int64) (a : Unit × pj_Z), k2 a1 s l x y = some a → pm_Gd 0 12028 ie_X12_endCycle.1 pm_rU lf 2 [(0, .ref 124), (1, .int a1)] [] (s, l, x, y) a) : ∀ (a1 : Int32) (s : Nat → Int32) (l : Nat → Int64) (x : Nat → Int32) (y : Nat → Int64) (a : Unit × pj_Z), pl_X12_endCycle_100 fu k2 a1 s l x y = some a → pm_Gd 0 12028 ie_X12_endCycle.1 pm_rU lf 100 [(0, .ref 124), (1, .int a1)] [] (s, l, x, y) a := by
  intro a1 s l x y a h
  exact pm_run ((pq_X12_endCycle_100 fu k2 a1 s l x y).symm.trans h) (pz_X12_endCycle hT) (pm_bks_ok pb_X12_endCycle) (pm_bks_ok pb_X12_endCycle _ _ rfl) (pm_ndb_ok rfl) (pj_as_all (p := pm_Ex 0 12028 ie_X12_endCycle.1 pm_rU lf a) (List.forall_mem_cons.mpr ⟨pu_X12_endCycle_2 _ (fun c0 s l x y h => hk2 c0 s l x y _ h), (List.forall_mem_cons.mpr ⟨pu_X12_endCycle_125 _ (fun c0 s l x y h => pg_X12_endCycle_125 hT hk2 c0 s l x y _ h), (fun _ h => by cases h)⟩)⟩))
set_option maxRecDepth 100000 in
theorem pg_X12_endCycle_99 {fu : Nat} {lf : pj_Z → mj_M} (hT : pj_Lt pj_TR lf) {k2 : Int32 → pj_F (Unit × pj_Z)} (hk2 : ∀ (a1 : Int32) (s : Nat → Int32) (l : Nat → Int64) (x : Nat → Int32) (y : Nat → Int64) (a : Unit × pj_Z), k2 a1 s l x y = some a → pm_Gd 0 12028 ie_X12_endCycle.1 pm_rU lf 2 [(0, .ref 124), (1, .int a1)] [] (s, l, x, y) a) : ∀ (a1 : Int32) (b1 : Int32) (b2 : Int32) (s : Nat → Int32) (l : Nat → Int64) (x : Nat → Int32) (y : Nat → Int64) (a : Unit × pj_Z), pl_X12_endCycle_99 fu k2 a1 b1 b2 s l x y = some a → pm_Gd 0 12028 ie_X12_endCycle.1 pm_rU lf 99 [(0, .ref 124), (1, .int a1)] [.int b2, .int b1, .ref 172] (s, l, x, y) a := by
  intro a1 b1 b2 s l x y a h
  exact pm_run ((pq_X12_endCycle_99 fu k2 a1 b1 b2 s l x y).symm.trans h) (pz_X12_endCycle hT) (pm_bks_ok pb_X12_endCycle) (pm_bks_ok pb_X12_endCycle _ _ rfl) (pm_ndb_ok rfl) (pj_as_all (p := pm_Ex 0 12028 ie_X12_endCycle.1 pm_rU lf a) (List.forall_mem_cons.mpr ⟨pu_X12_endCycle_2 _ (fun c0 s l x y h => hk2 c0 s l x y _ h), (List.forall_mem_cons.mpr ⟨pu_X12_endCycle_100 _ (fun c0 s l x y h => pg_X12_endCycle_100 hT hk2 c0 s l x y _ h), (fun _ h => by cases h)⟩)⟩))
set_option maxRecDepth 100000 in
theorem pg_X12_endCycle_68 {fu : Nat} {lf : pj_Z → mj_M} (hT : pj_Lt pj_TR lf) {k2 : Int32 → pj_F (Unit × pj_Z)} (hk2 : ∀ (a1 : Int32) (s : Nat → Int32) (l : Nat → Int64) (x : Nat → Int32) (y : Nat → Int64) (a : Unit × pj_Z), k2 a1 s l x y = some a → pm_Gd 0 12028 ie_X12_endCycle.1 pm_rU lf 2 [(0, .ref 124), (1, .int a1)] [] (s, l, x, y) a) : ∀ (a1 : Int32) (s : Nat → Int32) (l : Nat → Int64) (x : Nat → Int32) (y : Nat → Int64) (a : Unit × pj_Z), pl_X12_endCycle_68 fu k2 a1 s l x y = some a → pm_Gd 0 12028 ie_X12_endCycle.1 pm_rU lf 68 [(0, .ref 124), (1, .int a1)] [] (s, l, x, y) a := by
  intro a1 s l x y a h
  exact pm_run ((pq_X12_endCycle_68 fu k2 a1 s l x y).symm.trans h) (pz_X12_endCycle hT) (pm_bks_ok pb_X12_endCycle) (pm_bks_ok pb_X12_endCycle _ _ rfl) (pm_ndb_ok rfl) (pj_as_all (p := pm_Ex 0 12028 ie_X12_endCycle.1 pm_rU lf a) (List.forall_mem_cons.mpr ⟨pu_X12_endCycle_2 _ (fun c0 s l x y h => hk2 c0 s l x y _ h), (List.forall_mem_cons.mpr ⟨pu_X12_endCycle_99 _ (fun c0 c1 c2 s l x y h => pg_X12_endCycle_99 hT hk2 c0 c1 c2 s l x y _ h), (fun _ h => by cases h)⟩)⟩))
set_option maxRecDepth 100000 in
theorem pg_X12_endCycle_43 {fu : Nat} {lf : pj_Z → mj_M} (hT : pj_Lt pj_TR lf) {k2 : Int32 → pj_F (Unit × pj_Z)} (hk2 : ∀ (a1 : Int32) (s : Nat → Int32) (l : Nat → Int64) (x : Nat → Int32) (y : Nat → Int64) (a : Unit × pj_Z), k2 a1 s l x y = some a → pm_Gd 0 12028 ie_X12_endCycle.1 pm_rU lf 2 [(0, .ref 124), (1, .int a1)] [] (s, l, x, y) a) : ∀ (a1 : Int32) (s : Nat → Int32) (l : Nat → Int64) (x : Nat → Int32) (y : Nat → Int64) (a : Unit × pj_Z), pl_X12_endCycle_43 fu k2 a1 s l x y = some a → pm_Gd 0 12028 ie_X12_endCycle.1 pm_rU lf 43 [(0, .ref 124), (1, .int a1)] [] (s, l, x, y) a := by
  intro a1 s l x y a h
  exact pm_run ((pq_X12_endCycle_43 fu k2 a1 s l x y).symm.trans h) (pz_X12_endCycle hT) (pm_bks_ok pb_X12_endCycle) (pm_bks_ok pb_X12_endCycle _ _ rfl) (pm_ndb_ok rfl) (pj_as_all (p := pm_Ex 0 12028 ie_X12_endCycle.1 pm_rU lf a) (List.forall_mem_cons.mpr ⟨pu_X12_endCycle_2 _ (fun c0 s l x y h => hk2 c0 s l x y _ h), (List.forall_mem_cons.mpr ⟨pu_X12_endCycle_68 _ (fun c0 s l x y h => pg_X12_endCycle_68 hT hk2 c0 s l x y _ h), (List.forall_mem_cons.mpr ⟨pu_X12_endCycle_125 _ (fun c0 s l x y h => pg_X12_endCycle_125 hT hk2 c0 s l x y _ h), (fun _ h => by cases h)⟩)⟩)⟩))
set_option maxRecDepth 100000 in
theorem pg_X12_endCycle_182 {fu : Nat} {lf : pj_Z → mj_M} (hT : pj_Lt pj_TR lf) : ∀ (b1 : Int32) (s : Nat → Int32) (l : Nat → Int64) (x : Nat → Int32) (y : Nat → Int64) (a : Unit × pj_Z), pl_X12_endCycle_182 fu b1 s l x y = some a → pm_Gd 0 12028 ie_X12_endCycle.1 pm_rU lf 182 [] [.int b1, .ref 124] (s, l, x, y) a := by
  intro b1 s l x y a h
  exact pm_run ((pq_X12_endCycle_182 fu b1 s l x y).symm.trans h) (pz_X12_endCycle hT) (pm_bks_ok pb_X12_endCycle) (pm_bks_ok pb_X12_endCycle _ _ rfl) (pm_ndb_ok rfl) (fun _ _ h => by cases h)
set_option maxRecDepth 100000 in
theorem pg_X12_endCycle_177 {fu : Nat} {lf : pj_Z → mj_M} (hT : pj_Lt pj_TR lf) : ∀  (s : Nat → Int32) (l : Nat → Int64) (x : Nat → Int32) (y : Nat → Int64) (a : Unit × pj_Z), pl_X12_endCycle_177 fu s l x y = some a → pm_Gd 0 12028 ie_X12_endCycle.1 pm_rU lf 177 [] [.ref 124] (s, l, x, y) a := by
  intro  s l x y a h
  exact pm_run ((pq_X12_endCycle_177 fu  s l x y).symm.trans h) (pz_X12_endCycle hT) (pm_bks_ok pb_X12_endCycle) (pm_bks_ok pb_X12_endCycle _ _ rfl) (pm_ndb_ok rfl) (pj_as_all (p := pm_Ex 0 12028 ie_X12_endCycle.1 pm_rU lf a) (List.forall_mem_cons.mpr ⟨pu_X12_endCycle_182 _ (fun c0 s l x y h => pg_X12_endCycle_182 hT c0 s l x y _ h), (fun _ h => by cases h)⟩))
set_option maxRecDepth 100000 in
theorem pg_X12_endCycle_181 {fu : Nat} {lf : pj_Z → mj_M} (hT : pj_Lt pj_TR lf) : ∀  (s : Nat → Int32) (l : Nat → Int64) (x : Nat → Int32) (y : Nat → Int64) (a : Unit × pj_Z), pl_X12_endCycle_181 fu s l x y = some a → pm_Gd 0 12028 ie_X12_endCycle.1 pm_rU lf 181 [] [.ref 124] (s, l, x, y) a := by
  intro  s l x y a h
  exact pm_run ((pq_X12_endCycle_181 fu  s l x y).symm.trans h) (pz_X12_endCycle hT) (pm_bks_ok pb_X12_endCycle) (pm_bks_ok pb_X12_endCycle _ _ rfl) (pm_ndb_ok rfl) (pj_as_all (p := pm_Ex 0 12028 ie_X12_endCycle.1 pm_rU lf a) (List.forall_mem_cons.mpr ⟨pu_X12_endCycle_182 _ (fun c0 s l x y h => pg_X12_endCycle_182 hT c0 s l x y _ h), (fun _ h => by cases h)⟩))
set_option maxRecDepth 100000 in
theorem pg_X12_endCycle_2 {fu : Nat} {lf : pj_Z → mj_M} (hT : pj_Lt pj_TR lf) : ∀ (n : Nat), ∀ (a1 : Int32) (s : Nat → Int32) (l : Nat → Int64) (x : Nat → Int32) (y : Nat → Int64) (a : Unit × pj_Z), pl_X12_endCycle_2 fu n a1 s l x y = some a → pm_Gd 0 12028 ie_X12_endCycle.1 pm_rU lf 2 [(0, .ref 124), (1, .int a1)] [] (s, l, x, y) a := by
  intro n
  induction n with
  | zero => intro a1 s l x y a h; cases (show (none : Option (Unit × pj_Z)) = some a from h)
  | succ n ih =>
    intro a1 s l x y a h
    exact pm_run ((pq_X12_endCycle_2 fu n a1 s l x y).symm.trans h) (pz_X12_endCycle hT) (pm_bks_ok pb_X12_endCycle) (pm_bks_ok pb_X12_endCycle _ _ rfl) (pm_ndb_ok rfl) (pj_as_all (p := pm_Ex 0 12028 ie_X12_endCycle.1 pm_rU lf a) (List.forall_mem_cons.mpr ⟨pu_X12_endCycle_2 _ (fun c0 s l x y h => ih c0 s l x y _ h), (List.forall_mem_cons.mpr ⟨pu_X12_endCycle_43 _ (fun c0 s l x y h => pg_X12_endCycle_43 hT (fun a1 s l x y a h => ih a1 s l x y a h) c0 s l x y _ h), (List.forall_mem_cons.mpr ⟨pu_X12_endCycle_125 _ (fun c0 s l x y h => pg_X12_endCycle_125 hT (fun a1 s l x y a h => ih a1 s l x y a h) c0 s l x y _ h), (List.forall_mem_cons.mpr ⟨pu_X12_endCycle_177 _ (fun  s l x y h => pg_X12_endCycle_177 hT  s l x y _ h), (List.forall_mem_cons.mpr ⟨pu_X12_endCycle_181 _ (fun  s l x y h => pg_X12_endCycle_181 hT  s l x y _ h), (fun _ h => by cases h)⟩)⟩)⟩)⟩)⟩))
set_option maxRecDepth 100000 in
theorem pm_X12_endCycle {lf : pj_Z → mj_M} (hT : pj_Lt pj_TR lf)  (s : Nat → Int32) (l : Nat → Int64) (x : Nat → Int32) (y : Nat → Int64) (a : Unit × pj_Z) (h : pf_X12_endCycle  s l x y = some a) : mj_R ic_P 1 12028 [.ref 124] (lf (s, l, x, y)) (pm_rU a.1) (lf a.2) := by
  refine pm_main (Y := ie_X12_endCycle.1) rfl (Nat.le_of_ble_eq_true rfl) ?_
  exact pm_run ((pq_X12_endCycle_m 1000  s l x y).symm.trans h) (pz_X12_endCycle hT) (pm_bks_ok pb_X12_endCycle) (pm_bks_ok pb_X12_endCycle _ _ rfl) (pm_ndb_ok rfl) (pj_as_all (p := pm_Ex 0 12028 ie_X12_endCycle.1 pm_rU lf a) (List.forall_mem_cons.mpr ⟨pu_X12_endCycle_2 _ (fun c0 s l x y h => pg_X12_endCycle_2 hT _ c0 s l x y _ h), (fun _ h => by cases h)⟩))
abbrev ph_X12_endCycle {A : Type} : List pj_V → pj_Z → (List pj_V → pj_Z → Option A) → Option A := fun st z K => pj_pr st 124 0 fun st => pj_ps st (pj_b (pf_X12_endCycle  z.1 z.2.1 z.2.2.1 z.2.2.2) fun r s l x y => K st (s, l, x, y))
set_option maxRecDepth 100000 in
theorem pc_X12_endCycle {A : Type} {OK : A → Option Value → mj_M → Prop} {d j pc ix : Nat} {Y : mj_Y} {lf : pj_Z → mj_M} (hT : pj_Lt pj_TR lf) (hd : 1 ≤ d) (hl : mj_lk Y.2.2.2.2 pc = some (.invokevirtual ix, 3)) (hg : mj_pG ic_P j ix = some (12028, 0, some 12)) {lv : List (Nat × Value)} {st : List pj_V} {z : pj_Z} {K : List pj_V → pj_Z → Option A} {a : A} (hK : ∀ st z, K st z = some a → pj_Gd ic_P (mj_R ic_P d) j Y OK lf (pc + 3) lv (pj_es st) z a) (h : ph_X12_endCycle st z K = some a) : pj_Gd ic_P (mj_R ic_P d) j Y OK lf pc lv (pj_es st) z a := by
  obtain ⟨r0, e0, h⟩ := pj_pr_inv h
  obtain ⟨hs, h⟩ := pj_ps_inv h
  obtain ⟨q, hq, h⟩ := pj_b_inv h
  exact pm_cv (o := 124) hl hg [] rfl (by rw [e0]; rfl) hs (by decide) ((hT.2 124 _ rfl).1.2 z 0 (by decide)) (pm_rU q.1) hd (pm_X12_endCycle hT  z.1 z.2.1 z.2.2.1 z.2.2.2 q hq) rfl (hK _ _ h)
abbrev pe_X12_firstEvent_4 (f : Int32 → Int32 → pj_F (Int32 × pj_Z)) : pj_K (Int32 × pj_Z) := fun lv st z => pj_xr lv 0 124 0 <| pj_xi lv 1 fun a1 => pj_xi lv 2 fun a2 => pj_pe st (f a1 a2 z.1 z.2.1 z.2.2.1 z.2.2.2)
abbrev pe_X12_firstEvent_33 (f : Int32 → pj_F (Int32 × pj_Z)) : pj_K (Int32 × pj_Z) := fun lv st z => pj_xr lv 0 124 0 <| pj_xi lv 2 fun a2 => pj_pe st (f a2 z.1 z.2.1 z.2.2.1 z.2.2.2)
abbrev pe_X12_firstEvent_38 (f : Int32 → Int32 → pj_F (Int32 × pj_Z)) : pj_K (Int32 × pj_Z) := fun lv st z => pj_xr lv 0 124 0 <| pj_xi lv 2 fun a2 => pj_pi st fun b0 st => pj_pe st (f a2 b0 z.1 z.2.1 z.2.2.1 z.2.2.2)
abbrev px_X12_firstEvent : pj_C (Int32 × pj_Z) := ((pj_as [(124, 12, 195, 1, 0, true, 0, [(1, 1), (2, 125), (2, 126), (2, 127), (2, 128), (2, 129), (2, 130), (2, 131), (2, 132), (2, 133), (1, 2), (0, 44), (2, 134), (2, 135), (2, 136), (2, 137), (2, 138), (0, 69), (2, 139), (2, 140), (2, 141), (1, 3), (0, 93), (0, 94), (0, 45), (0, 46), (0, 48), (0, 49), (0, 47), (0, 50), (0, 51), (2, 142), (2, 143), (2, 144), (0, 19), (1, 4), (1, 5), (1, 6), (0, 20), (0, 21), (0, 22), (0, 23), (0, 24), (0, 25), (0, 27), (0, 28), (1, 7), (1, 8), (1, 9), (1, 10), (1, 11), (0, 26), (2, 145), (2, 146), (2, 147), (2, 148), (2, 149), (2, 150), (2, 151), (2, 152), (2, 153), (2, 154), (2, 155), (2, 156), (2, 157), (2, 158), (2, 159), (0, 57), (0, 58), (0, 59), (0, 60), (2, 160), (2, 161), (2, 162), (2, 163), (1, 12), (1, 13), (0, 95), (0, 73), (0, 74), (0, 71), (0, 72), (0, 75), (0, 76), (0, 77), (0, 80), (0, 78), (0, 79), (1, 14), (0, 29), (0, 30), (0, 31), (0, 34), (0, 35), (0, 32), (0, 33), (0, 36), (0, 37), (0, 38), (0, 39), (0, 40), (1, 15), (1, 16), (0, 43), (0, 41), (0, 42), (2, 164), (0, 96), (0, 89), (0, 90), (0, 91), (0, 92), (2, 165), (2, 166), (2, 167), (2, 168), (2, 169), (2, 170), (2, 171), (2, 172), (0, 87), (2, 173), (0, 88), (2, 174), (0, 62), (1, 17), (0, 66), (0, 63), (0, 64), (0, 65), (0, 67), (1, 18), (0, 68), (2, 175), (1, 19), (0, 52), (0, 53), (0, 54), (0, 55), (2, 176), (0, 56), (0, 85), (0, 86), (0, 81), (0, 82), (0, 83), (0, 84), (2, 177), (2, 178), (2, 179), (1, 20), (2, 180), (0, 6), (0, 7), (0, 8), (0, 16), (0, 17), (0, 61), (0, 9), (0, 10), (1, 21), (1, 22), (0, 11), (0, 12), (0, 13), (0, 18), (0, 14), (0, 15), (2, 181), (0, 70), (1, 23), (2, 182), (2, 183), (0, 1), (1, 24), (2, 184), (2, 185), (1, 25), (0, 2), (2, 186), (2, 187), (1, 26), (2, 188), (2, 189), (1, 27), (1, 28), (2, 190), (2, 191), (1, 29), (0, 3), (2, 192), (0, 4), (0, 5), (1, 30), (2, 193)]), (156, 101, 64, 1, 0, true, 16000, [])]), (pj_as [(118, 12, 63, 2, true), (308, 12, 67, 0, false)]), (fun _ => none), (fun _ => none), (fun _ => none), ic_X, 3, 1, pj_mI, (fun _ => none), fun _ => false)
abbrev pk_X12_firstEvent : List (Nat × List (Nat × Instr × Nat)) := [(0, [(0, .iconst (-1), 1), (1, .istore_n 1, 1), (2, .iconst 0, 1), (3, .istore_n 2, 1)]), (4, [(4, .iload_n 2, 1), (5, .aload_n 0, 1), (6, .getfield 308, 3), (9, .if_icmp .ge 36, 3)]), (12, [(12, .iload_n 1, 1), (13, .iconst (-1), 1), (14, .if_icmp .eq 19, 3)]), (17, [(17, .aload_n 0, 1), (18, .getfield 118, 3), (21, .iload_n 2, 1), (22, .laload, 1), (23, .aload_n 0, 1), (24, .getfield 118, 3), (27, .iload_n 1, 1), (28, .laload, 1), (29, .lcmp, 1), (30, .ifCond .ge 7, 3)]), (33, [(33, .iload_n 2, 1), (34, .goto 4, 3)]), (37, [(37, .iload_n 1, 1)]), (38, [(38, .istore_n 1, 1), (39, .iinc 2 1, 3), (42, .goto (-38), 3)]), (45, [(45, .iload_n 1, 1), (46, .ireturn, 1)])]
set_option maxRecDepth 100000 in
theorem pq_X12_firstEvent_38 (fu : Nat)  (k4 : Int32 → Int32 → pj_F (Int32 × pj_Z)) (a2 : Int32) (b0 : Int32) (s : Nat → Int32) (l : Nat → Int64) (x : Nat → Int32) (y : Nat → Int64) : pl_X12_firstEvent_38 fu k4 a2 b0 s l x y = pj_bl px_X12_firstEvent (pj_rn px_X12_firstEvent (pj_as pk_X12_firstEvent) (pj_as [(4, pe_X12_firstEvent_4 k4)]) 60) [(38, .istore_n 1, 1), (39, .iinc 2 1, 3), (42, .goto (-38), 3)] 38 [(0, pj_O (124, 0)), (2, pj_I a2)] [pj_I b0] (s, l, x, y) := rfl
set_option maxRecDepth 100000 in
theorem pq_X12_firstEvent_33 (fu : Nat)  (k4 : Int32 → Int32 → pj_F (Int32 × pj_Z)) (a2 : Int32) (s : Nat → Int32) (l : Nat → Int64) (x : Nat → Int32) (y : Nat → Int64) : pl_X12_firstEvent_33 fu k4 a2 s l x y = pj_bl px_X12_firstEvent (pj_rn px_X12_firstEvent (pj_as pk_X12_firstEvent) (pj_as [(4, pe_X12_firstEvent_4 k4), (38, pe_X12_firstEvent_38 (pl_X12_firstEvent_38 fu k4))]) 60) [(33, .iload_n 2, 1), (34, .goto 4, 3)] 33 [(0, pj_O (124, 0)), (2, pj_I a2)] [] (s, l, x, y) := rfl
set_option maxRecDepth 100000 in
theorem pq_X12_firstEvent_4 (fu : Nat)  (n : Nat) (a1 : Int32) (a2 : Int32) (s : Nat → Int32) (l : Nat → Int64) (x : Nat → Int32) (y : Nat → Int64) : pl_X12_firstEvent_4 fu (n + 1) a1 a2 s l x y = pj_bl px_X12_firstEvent (pj_rn px_X12_firstEvent (pj_as pk_X12_firstEvent) (pj_as [(4, pe_X12_firstEvent_4 (pl_X12_firstEvent_4 fu n)), (33, pe_X12_firstEvent_33 (pl_X12_firstEvent_33 fu (pl_X12_firstEvent_4 fu n))), (38, pe_X12_firstEvent_38 (pl_X12_firstEvent_38 fu (pl_X12_firstEvent_4 fu n)))]) 60) [(4, .iload_n 2, 1), (5, .aload_n 0, 1), (6, .getfield 308, 3), (9, .if_icmp .ge 36, 3)] 4 [(0, pj_O (124, 0)), (1, pj_I a1), (2, pj_I a2)] [] (s, l, x, y) := rfl
set_option maxRecDepth 100000 in
theorem pq_X12_firstEvent_m (fu : Nat)   (s : Nat → Int32) (l : Nat → Int64) (x : Nat → Int32) (y : Nat → Int64) : po_X12_firstEvent fu  s l x y = pj_bl px_X12_firstEvent (pj_rn px_X12_firstEvent (pj_as pk_X12_firstEvent) (pj_as [(4, pe_X12_firstEvent_4 (pl_X12_firstEvent_4 fu fu))]) 60) [(0, .iconst (-1), 1), (1, .istore_n 1, 1), (2, .iconst 0, 1), (3, .istore_n 2, 1)] 0 [(0, pj_O (124, 0))] [] (s, l, x, y) := rfl
theorem pu_X12_firstEvent_4 {lf : pj_Z → mj_M} {a : Int32 × pj_Z} (f : Int32 → Int32 → pj_F (Int32 × pj_Z)) (hf : ∀ (a1 : Int32) (a2 : Int32) (s : Nat → Int32) (l : Nat → Int64) (x : Nat → Int32) (y : Nat → Int64), f a1 a2 s l x y = some a → pm_Gd 0 12029 ie_X12_firstEvent.1 pm_rI lf 4 [(0, .ref 124), (1, .int a1), (2, .int a2)] [] (s, l, x, y) a) : pm_Ex 0 12029 ie_X12_firstEvent.1 pm_rI lf a 4 (pe_X12_firstEvent_4 f) := by
  intro lv st z hd h
  obtain ⟨g0, h⟩ := pj_xr_inv h
  obtain ⟨a1, g1, h⟩ := pj_xi_inv h
  obtain ⟨a2, g2, h⟩ := pj_xi_inv h
  obtain ⟨e9, h⟩ := pj_pe_inv h
  rw [e9]
  exact mj_wp_sub (mj_sub_cons g0 (mj_sub_cons g1 (mj_sub_cons g2 (mj_sub_nil hd)))) (hf _ _ _ _ _ _ h)
theorem pu_X12_firstEvent_33 {lf : pj_Z → mj_M} {a : Int32 × pj_Z} (f : Int32 → pj_F (Int32 × pj_Z)) (hf : ∀ (a2 : Int32) (s : Nat → Int32) (l : Nat → Int64) (x : Nat → Int32) (y : Nat → Int64), f a2 s l x y = some a → pm_Gd 0 12029 ie_X12_firstEvent.1 pm_rI lf 33 [(0, .ref 124), (2, .int a2)] [] (s, l, x, y) a) : pm_Ex 0 12029 ie_X12_firstEvent.1 pm_rI lf a 33 (pe_X12_firstEvent_33 f) := by
  intro lv st z hd h
  obtain ⟨g0, h⟩ := pj_xr_inv h
  obtain ⟨a2, g2, h⟩ := pj_xi_inv h
  obtain ⟨e9, h⟩ := pj_pe_inv h
  rw [e9]
  exact mj_wp_sub (mj_sub_cons g0 (mj_sub_cons g2 (mj_sub_nil hd))) (hf _ _ _ _ _ h)
theorem pu_X12_firstEvent_38 {lf : pj_Z → mj_M} {a : Int32 × pj_Z} (f : Int32 → Int32 → pj_F (Int32 × pj_Z)) (hf : ∀ (a2 : Int32) (b0 : Int32) (s : Nat → Int32) (l : Nat → Int64) (x : Nat → Int32) (y : Nat → Int64), f a2 b0 s l x y = some a → pm_Gd 0 12029 ie_X12_firstEvent.1 pm_rI lf 38 [(0, .ref 124), (2, .int a2)] [.int b0] (s, l, x, y) a) : pm_Ex 0 12029 ie_X12_firstEvent.1 pm_rI lf a 38 (pe_X12_firstEvent_38 f) := by
  intro lv st z hd h
  obtain ⟨g0, h⟩ := pj_xr_inv h
  obtain ⟨a2, g2, h⟩ := pj_xi_inv h
  obtain ⟨b0, r0, e0, h⟩ := pj_pi_inv h
  obtain ⟨e9, h⟩ := pj_pe_inv h
  rw [e0, e9]
  exact mj_wp_sub (mj_sub_cons g0 (mj_sub_cons g2 (mj_sub_nil hd))) (hf _ _ _ _ _ _ h)
set_option maxRecDepth 100000 in
theorem pz_X12_firstEvent {lf : pj_Z → mj_M} (hT : pj_Lt pj_TR lf) : pj_Cok ic_P (mj_R ic_P 0) 12029 ie_X12_firstEvent.1 (pm_OK lf pm_rI) lf px_X12_firstEvent := by
  exact pm_cok (c := px_X12_firstEvent) (pm_part hT (pj_as_all (p := fun b e => pj_TR b = some e) (List.forall_mem_cons.mpr ⟨rfl, (List.forall_mem_cons.mpr ⟨rfl, (fun _ h => by cases h)⟩)⟩))) (pm_in_ok (L := [(118, 12, 63, 2, true), (308, 12, 67, 0, false)]) (f := mj_pF ic_P 12029) (by decide +kernel)) (fun _ _ h => by cases h) (fun _ _ h => by cases h) (fun _ _ h => by cases h) rfl rfl ⟨by decide, rfl⟩ pm_mI (fun _ _ h => by cases h) (fun _ h => by cases h)
set_option maxRecDepth 100000 in
theorem pb_X12_firstEvent : pm_bks ie_X12_firstEvent.1.2.2.2.2 pk_X12_firstEvent = true := by decide +kernel
set_option maxRecDepth 100000 in
theorem pg_X12_firstEvent_38 {fu : Nat} {lf : pj_Z → mj_M} (hT : pj_Lt pj_TR lf) {k4 : Int32 → Int32 → pj_F (Int32 × pj_Z)} (hk4 : ∀ (a1 : Int32) (a2 : Int32) (s : Nat → Int32) (l : Nat → Int64) (x : Nat → Int32) (y : Nat → Int64) (a : Int32 × pj_Z), k4 a1 a2 s l x y = some a → pm_Gd 0 12029 ie_X12_firstEvent.1 pm_rI lf 4 [(0, .ref 124), (1, .int a1), (2, .int a2)] [] (s, l, x, y) a) : ∀ (a2 : Int32) (b0 : Int32) (s : Nat → Int32) (l : Nat → Int64) (x : Nat → Int32) (y : Nat → Int64) (a : Int32 × pj_Z), pl_X12_firstEvent_38 fu k4 a2 b0 s l x y = some a → pm_Gd 0 12029 ie_X12_firstEvent.1 pm_rI lf 38 [(0, .ref 124), (2, .int a2)] [.int b0] (s, l, x, y) a := by
  intro a2 b0 s l x y a h
  exact pm_run ((pq_X12_firstEvent_38 fu k4 a2 b0 s l x y).symm.trans h) (pz_X12_firstEvent hT) (pm_bks_ok pb_X12_firstEvent) (pm_bks_ok pb_X12_firstEvent _ _ rfl) (pm_ndb_ok rfl) (pj_as_all (p := pm_Ex 0 12029 ie_X12_firstEvent.1 pm_rI lf a) (List.forall_mem_cons.mpr ⟨pu_X12_firstEvent_4 _ (fun c0 c1 s l x y h => hk4 c0 c1 s l x y _ h), (fun _ h => by cases h)⟩))
set_option maxRecDepth 100000 in
theorem pg_X12_firstEvent_33 {fu : Nat} {lf : pj_Z → mj_M} (hT : pj_Lt pj_TR lf) {k4 : Int32 → Int32 → pj_F (Int32 × pj_Z)} (hk4 : ∀ (a1 : Int32) (a2 : Int32) (s : Nat → Int32) (l : Nat → Int64) (x : Nat → Int32) (y : Nat → Int64) (a : Int32 × pj_Z), k4 a1 a2 s l x y = some a → pm_Gd 0 12029 ie_X12_firstEvent.1 pm_rI lf 4 [(0, .ref 124), (1, .int a1), (2, .int a2)] [] (s, l, x, y) a) : ∀ (a2 : Int32) (s : Nat → Int32) (l : Nat → Int64) (x : Nat → Int32) (y : Nat → Int64) (a : Int32 × pj_Z), pl_X12_firstEvent_33 fu k4 a2 s l x y = some a → pm_Gd 0 12029 ie_X12_firstEvent.1 pm_rI lf 33 [(0, .ref 124), (2, .int a2)] [] (s, l, x, y) a := by
  intro a2 s l x y a h
  exact pm_run ((pq_X12_firstEvent_33 fu k4 a2 s l x y).symm.trans h) (pz_X12_firstEvent hT) (pm_bks_ok pb_X12_firstEvent) (pm_bks_ok pb_X12_firstEvent _ _ rfl) (pm_ndb_ok rfl) (pj_as_all (p := pm_Ex 0 12029 ie_X12_firstEvent.1 pm_rI lf a) (List.forall_mem_cons.mpr ⟨pu_X12_firstEvent_4 _ (fun c0 c1 s l x y h => hk4 c0 c1 s l x y _ h), (List.forall_mem_cons.mpr ⟨pu_X12_firstEvent_38 _ (fun c0 c1 s l x y h => pg_X12_firstEvent_38 hT hk4 c0 c1 s l x y _ h), (fun _ h => by cases h)⟩)⟩))
set_option maxRecDepth 100000 in
theorem pg_X12_firstEvent_4 {fu : Nat} {lf : pj_Z → mj_M} (hT : pj_Lt pj_TR lf) : ∀ (n : Nat), ∀ (a1 : Int32) (a2 : Int32) (s : Nat → Int32) (l : Nat → Int64) (x : Nat → Int32) (y : Nat → Int64) (a : Int32 × pj_Z), pl_X12_firstEvent_4 fu n a1 a2 s l x y = some a → pm_Gd 0 12029 ie_X12_firstEvent.1 pm_rI lf 4 [(0, .ref 124), (1, .int a1), (2, .int a2)] [] (s, l, x, y) a := by
  intro n
  induction n with
  | zero => intro a1 a2 s l x y a h; cases (show (none : Option (Int32 × pj_Z)) = some a from h)
  | succ n ih =>
    intro a1 a2 s l x y a h
    exact pm_run ((pq_X12_firstEvent_4 fu n a1 a2 s l x y).symm.trans h) (pz_X12_firstEvent hT) (pm_bks_ok pb_X12_firstEvent) (pm_bks_ok pb_X12_firstEvent _ _ rfl) (pm_ndb_ok rfl) (pj_as_all (p := pm_Ex 0 12029 ie_X12_firstEvent.1 pm_rI lf a) (List.forall_mem_cons.mpr ⟨pu_X12_firstEvent_4 _ (fun c0 c1 s l x y h => ih c0 c1 s l x y _ h), (List.forall_mem_cons.mpr ⟨pu_X12_firstEvent_33 _ (fun c0 s l x y h => pg_X12_firstEvent_33 hT (fun a1 a2 s l x y a h => ih a1 a2 s l x y a h) c0 s l x y _ h), (List.forall_mem_cons.mpr ⟨pu_X12_firstEvent_38 _ (fun c0 c1 s l x y h => pg_X12_firstEvent_38 hT (fun a1 a2 s l x y a h => ih a1 a2 s l x y a h) c0 c1 s l x y _ h), (fun _ h => by cases h)⟩)⟩)⟩))
set_option maxRecDepth 100000 in
theorem pm_X12_firstEvent {lf : pj_Z → mj_M} (hT : pj_Lt pj_TR lf)  (s : Nat → Int32) (l : Nat → Int64) (x : Nat → Int32) (y : Nat → Int64) (a : Int32 × pj_Z) (h : pf_X12_firstEvent  s l x y = some a) : mj_R ic_P 1 12029 [.ref 124] (lf (s, l, x, y)) (pm_rI a.1) (lf a.2) := by
  refine pm_main (Y := ie_X12_firstEvent.1) rfl (Nat.le_of_ble_eq_true rfl) ?_
  exact pm_run ((pq_X12_firstEvent_m 1000  s l x y).symm.trans h) (pz_X12_firstEvent hT) (pm_bks_ok pb_X12_firstEvent) (pm_bks_ok pb_X12_firstEvent _ _ rfl) (pm_ndb_ok rfl) (pj_as_all (p := pm_Ex 0 12029 ie_X12_firstEvent.1 pm_rI lf a) (List.forall_mem_cons.mpr ⟨pu_X12_firstEvent_4 _ (fun c0 c1 s l x y h => pg_X12_firstEvent_4 hT _ c0 c1 s l x y _ h), (fun _ h => by cases h)⟩))
abbrev ph_X12_firstEvent {A : Type} : List pj_V → pj_Z → (List pj_V → pj_Z → Option A) → Option A := fun st z K => pj_pr st 124 0 fun st => pj_ps st (pj_b (pf_X12_firstEvent  z.1 z.2.1 z.2.2.1 z.2.2.2) fun r s l x y => K (pj_I r :: st) (s, l, x, y))
set_option maxRecDepth 100000 in
theorem pc_X12_firstEvent {A : Type} {OK : A → Option Value → mj_M → Prop} {d j pc ix : Nat} {Y : mj_Y} {lf : pj_Z → mj_M} (hT : pj_Lt pj_TR lf) (hd : 1 ≤ d) (hl : mj_lk Y.2.2.2.2 pc = some (.invokevirtual ix, 3)) (hg : mj_pG ic_P j ix = some (12029, 0, some 12)) {lv : List (Nat × Value)} {st : List pj_V} {z : pj_Z} {K : List pj_V → pj_Z → Option A} {a : A} (hK : ∀ st z, K st z = some a → pj_Gd ic_P (mj_R ic_P d) j Y OK lf (pc + 3) lv (pj_es st) z a) (h : ph_X12_firstEvent st z K = some a) : pj_Gd ic_P (mj_R ic_P d) j Y OK lf pc lv (pj_es st) z a := by
  obtain ⟨r0, e0, h⟩ := pj_pr_inv h
  obtain ⟨hs, h⟩ := pj_ps_inv h
  obtain ⟨q, hq, h⟩ := pj_b_inv h
  exact pm_cv (o := 124) hl hg [] rfl (by rw [e0]; rfl) hs (by decide) ((hT.2 124 _ rfl).1.2 z 0 (by decide)) (pm_rI q.1) hd (pm_X12_firstEvent hT  z.1 z.2.1 z.2.2.1 z.2.2.2 q hq) rfl (hK _ _ h)
abbrev px_X12_ratio : pj_C (Int32 × pj_Z) := ((pj_as [(124, 12, 195, 1, 0, true, 0, [(1, 1), (2, 125), (2, 126), (2, 127), (2, 128), (2, 129), (2, 130), (2, 131), (2, 132), (2, 133), (1, 2), (0, 44), (2, 134), (2, 135), (2, 136), (2, 137), (2, 138), (0, 69), (2, 139), (2, 140), (2, 141), (1, 3), (0, 93), (0, 94), (0, 45), (0, 46), (0, 48), (0, 49), (0, 47), (0, 50), (0, 51), (2, 142), (2, 143), (2, 144), (0, 19), (1, 4), (1, 5), (1, 6), (0, 20), (0, 21), (0, 22), (0, 23), (0, 24), (0, 25), (0, 27), (0, 28), (1, 7), (1, 8), (1, 9), (1, 10), (1, 11), (0, 26), (2, 145), (2, 146), (2, 147), (2, 148), (2, 149), (2, 150), (2, 151), (2, 152), (2, 153), (2, 154), (2, 155), (2, 156), (2, 157), (2, 158), (2, 159), (0, 57), (0, 58), (0, 59), (0, 60), (2, 160), (2, 161), (2, 162), (2, 163), (1, 12), (1, 13), (0, 95), (0, 73), (0, 74), (0, 71), (0, 72), (0, 75), (0, 76), (0, 77), (0, 80), (0, 78), (0, 79), (1, 14), (0, 29), (0, 30), (0, 31), (0, 34), (0, 35), (0, 32), (0, 33), (0, 36), (0, 37), (0, 38), (0, 39), (0, 40), (1, 15), (1, 16), (0, 43), (0, 41), (0, 42), (2, 164), (0, 96), (0, 89), (0, 90), (0, 91), (0, 92), (2, 165), (2, 166), (2, 167), (2, 168), (2, 169), (2, 170), (2, 171), (2, 172), (0, 87), (2, 173), (0, 88), (2, 174), (0, 62), (1, 17), (0, 66), (0, 63), (0, 64), (0, 65), (0, 67), (1, 18), (0, 68), (2, 175), (1, 19), (0, 52), (0, 53), (0, 54), (0, 55), (2, 176), (0, 56), (0, 85), (0, 86), (0, 81), (0, 82), (0, 83), (0, 84), (2, 177), (2, 178), (2, 179), (1, 20), (2, 180), (0, 6), (0, 7), (0, 8), (0, 16), (0, 17), (0, 61), (0, 9), (0, 10), (1, 21), (1, 22), (0, 11), (0, 12), (0, 13), (0, 18), (0, 14), (0, 15), (2, 181), (0, 70), (1, 23), (2, 182), (2, 183), (0, 1), (1, 24), (2, 184), (2, 185), (1, 25), (0, 2), (2, 186), (2, 187), (1, 26), (2, 188), (2, 189), (1, 27), (1, 28), (2, 190), (2, 191), (1, 29), (0, 3), (2, 192), (0, 4), (0, 5), (1, 30), (2, 193)])]), (pj_as [(984, 12, 136, 0, false)]), (fun _ => none), (fun _ => none), (fun _ => none), ic_X, 1, 1, pj_mI, (fun _ => none), fun _ => false)
abbrev pk_X12_ratio : List (Nat × List (Nat × Instr × Nat)) := [(0, [(0, .aload_n 0, 1), (1, .getfield 984, 3), (4, .tableswitch 55 1 5 #[36, 39, 43, 47, 51], 36)]), (40, [(40, .bipush 75, 2), (42, .ireturn, 1)]), (43, [(43, .sipush 140, 3), (46, .ireturn, 1)]), (47, [(47, .sipush 210, 3), (50, .ireturn, 1)]), (51, [(51, .sipush 290, 3), (54, .ireturn, 1)]), (55, [(55, .sipush 370, 3), (58, .ireturn, 1)]), (59, [(59, .sipush 450, 3), (62, .ireturn, 1)])]
set_option maxRecDepth 100000 in
theorem pq_X12_ratio_m   (s : Nat → Int32) (l : Nat → Int64) (x : Nat → Int32) (y : Nat → Int64) : pf_X12_ratio  s l x y = pj_bl px_X12_ratio (pj_rn px_X12_ratio (pj_as pk_X12_ratio) (fun _ => none) 60) [(0, .aload_n 0, 1), (1, .getfield 984, 3), (4, .tableswitch 55 1 5 #[36, 39, 43, 47, 51], 36)] 0 [(0, pj_O (124, 0))] [] (s, l, x, y) := rfl
set_option maxRecDepth 100000 in
theorem pz_X12_ratio {lf : pj_Z → mj_M} (hT : pj_Lt pj_TR lf) : pj_Cok ic_P (mj_R ic_P 0) 12124 ie_X12_ratio.1 (pm_OK lf pm_rI) lf px_X12_ratio := by
  exact pm_cok (c := px_X12_ratio) (pm_part hT (pj_as_all (p := fun b e => pj_TR b = some e) (List.forall_mem_cons.mpr ⟨rfl, (fun _ h => by cases h)⟩))) (pm_in_ok (L := [(984, 12, 136, 0, false)]) (f := mj_pF ic_P 12124) (by decide +kernel)) (fun _ _ h => by cases h) (fun _ _ h => by cases h) (fun _ _ h => by cases h) rfl rfl ⟨by decide, rfl⟩ pm_mI (fun _ _ h => by cases h) (fun _ h => by cases h)
set_option maxRecDepth 100000 in
theorem pb_X12_ratio : pm_bks ie_X12_ratio.1.2.2.2.2 pk_X12_ratio = true := by decide +kernel
set_option maxRecDepth 100000 in
theorem pm_X12_ratio {lf : pj_Z → mj_M} (hT : pj_Lt pj_TR lf)  (s : Nat → Int32) (l : Nat → Int64) (x : Nat → Int32) (y : Nat → Int64) (a : Int32 × pj_Z) (h : pf_X12_ratio  s l x y = some a) : mj_R ic_P 1 12124 [.ref 124] (lf (s, l, x, y)) (pm_rI a.1) (lf a.2) := by
  refine pm_main (Y := ie_X12_ratio.1) rfl (Nat.le_of_ble_eq_true rfl) ?_
  exact pm_run ((pq_X12_ratio_m  s l x y).symm.trans h) (pz_X12_ratio hT) (pm_bks_ok pb_X12_ratio) (pm_bks_ok pb_X12_ratio _ _ rfl) (pm_ndb_ok rfl) (fun _ _ h => by cases h)
abbrev ph_X12_ratio {A : Type} : List pj_V → pj_Z → (List pj_V → pj_Z → Option A) → Option A := fun st z K => pj_pr st 124 0 fun st => pj_ps st (pj_b (pf_X12_ratio  z.1 z.2.1 z.2.2.1 z.2.2.2) fun r s l x y => K (pj_I r :: st) (s, l, x, y))
set_option maxRecDepth 100000 in
theorem pc_X12_ratio {A : Type} {OK : A → Option Value → mj_M → Prop} {d j pc ix : Nat} {Y : mj_Y} {lf : pj_Z → mj_M} (hT : pj_Lt pj_TR lf) (hd : 1 ≤ d) (hl : mj_lk Y.2.2.2.2 pc = some (.invokevirtual ix, 3)) (hg : mj_pG ic_P j ix = some (12124, 0, some 12)) {lv : List (Nat × Value)} {st : List pj_V} {z : pj_Z} {K : List pj_V → pj_Z → Option A} {a : A} (hK : ∀ st z, K st z = some a → pj_Gd ic_P (mj_R ic_P d) j Y OK lf (pc + 3) lv (pj_es st) z a) (h : ph_X12_ratio st z K = some a) : pj_Gd ic_P (mj_R ic_P d) j Y OK lf pc lv (pj_es st) z a := by
  obtain ⟨r0, e0, h⟩ := pj_pr_inv h
  obtain ⟨hs, h⟩ := pj_ps_inv h
  obtain ⟨q, hq, h⟩ := pj_b_inv h
  exact pm_cv (o := 124) hl hg [] rfl (by rw [e0]; rfl) hs (by decide) ((hT.2 124 _ rfl).1.2 z 0 (by decide)) (pm_rI q.1) hd (pm_X12_ratio hT  z.1 z.2.1 z.2.2.1 z.2.2.2 q hq) rfl (hK _ _ h)
abbrev px_X12_toward : pj_C (Int32 × pj_Z) := ((fun _ => none), (fun _ => none), (fun _ => none), (fun _ => none), (fun _ => none), ic_X, 3, 1, pj_mI, (fun _ => none), fun _ => false)
abbrev pk_X12_toward : List (Nat × List (Nat × Instr × Nat)) := [(0, [(0, .iload_n 0, 1), (1, .iload_n 1, 1), (2, .if_icmp .le 18, 3)]), (5, [(5, .iload_n 0, 1), (6, .iload_n 2, 1), (7, .isub, 1), (8, .iload_n 1, 1), (9, .if_icmp .ge 7, 3)]), (12, [(12, .iload_n 1, 1), (13, .goto 6, 3)]), (16, [(16, .iload_n 0, 1), (17, .iload_n 2, 1), (18, .isub, 1)]), (19, [(19, .ireturn, 1)]), (20, [(20, .iload_n 0, 1), (21, .iload_n 2, 1), (22, .iadd, 1), (23, .iload_n 1, 1), (24, .if_icmp .le 7, 3)]), (27, [(27, .iload_n 1, 1), (28, .goto 6, 3)]), (31, [(31, .iload_n 0, 1), (32, .iload_n 2, 1), (33, .iadd, 1)]), (34, [(34, .ireturn, 1)])]
set_option maxRecDepth 100000 in
theorem pq_X12_toward_m  (a0 : Int32) (a1 : Int32) (a2 : Int32) (s : Nat → Int32) (l : Nat → Int64) (x : Nat → Int32) (y : Nat → Int64) : pf_X12_toward a0 a1 a2 s l x y = pj_bl px_X12_toward (pj_rn px_X12_toward (pj_as pk_X12_toward) (fun _ => none) 60) [(0, .iload_n 0, 1), (1, .iload_n 1, 1), (2, .if_icmp .le 18, 3)] 0 [(0, pj_I a0), (1, pj_I a1), (2, pj_I a2)] [] (s, l, x, y) := rfl
set_option maxRecDepth 100000 in
theorem pz_X12_toward {lf : pj_Z → mj_M} (hT : pj_Lt pj_TR lf) : pj_Cok ic_P (mj_R ic_P 0) 12050 ie_X12_toward.1 (pm_OK lf pm_rI) lf px_X12_toward := by
  exact pm_cok (c := px_X12_toward) (pm_none hT) (fun _ _ h => by cases h) (fun _ _ h => by cases h) (fun _ _ h => by cases h) (fun _ _ h => by cases h) rfl rfl ⟨by decide, rfl⟩ pm_mI (fun _ _ h => by cases h) (fun _ h => by cases h)
set_option maxRecDepth 100000 in
theorem pb_X12_toward : pm_bks ie_X12_toward.1.2.2.2.2 pk_X12_toward = true := by decide +kernel
set_option maxRecDepth 100000 in
theorem pm_X12_toward {lf : pj_Z → mj_M} (hT : pj_Lt pj_TR lf) (a0 : Int32) (a1 : Int32) (a2 : Int32) (s : Nat → Int32) (l : Nat → Int64) (x : Nat → Int32) (y : Nat → Int64) (a : Int32 × pj_Z) (h : pf_X12_toward a0 a1 a2 s l x y = some a) : mj_R ic_P 1 12050 [.int a0, .int a1, .int a2] (lf (s, l, x, y)) (pm_rI a.1) (lf a.2) := by
  refine pm_main (Y := ie_X12_toward.1) rfl (Nat.le_of_ble_eq_true rfl) ?_
  exact pm_run ((pq_X12_toward_m a0 a1 a2 s l x y).symm.trans h) (pz_X12_toward hT) (pm_bks_ok pb_X12_toward) (pm_bks_ok pb_X12_toward _ _ rfl) (pm_ndb_ok rfl) (fun _ _ h => by cases h)
abbrev ph_X12_toward {A : Type} : List pj_V → pj_Z → (List pj_V → pj_Z → Option A) → Option A := fun st z K => pj_pi st fun a2 st => pj_pi st fun a1 st => pj_pi st fun a0 st => pj_ps st (pj_b (pf_X12_toward a0 a1 a2 z.1 z.2.1 z.2.2.1 z.2.2.2) fun r s l x y => K (pj_I r :: st) (s, l, x, y))
set_option maxRecDepth 100000 in
theorem pc_X12_toward {A : Type} {OK : A → Option Value → mj_M → Prop} {d j pc ix : Nat} {Y : mj_Y} {lf : pj_Z → mj_M} (hT : pj_Lt pj_TR lf) (hd : 1 ≤ d) (hl : mj_lk Y.2.2.2.2 pc = some (.invokestatic ix, 3)) (hg : mj_pG ic_P j ix = some (12050, 3, none)) {lv : List (Nat × Value)} {st : List pj_V} {z : pj_Z} {K : List pj_V → pj_Z → Option A} {a : A} (hK : ∀ st z, K st z = some a → pj_Gd ic_P (mj_R ic_P d) j Y OK lf (pc + 3) lv (pj_es st) z a) (h : ph_X12_toward st z K = some a) : pj_Gd ic_P (mj_R ic_P d) j Y OK lf pc lv (pj_es st) z a := by
  obtain ⟨a2, r2, e2, h⟩ := pj_pi_inv h
  obtain ⟨a1, r1, e1, h⟩ := pj_pi_inv h
  obtain ⟨a0, r0, e0, h⟩ := pj_pi_inv h
  obtain ⟨hs, h⟩ := pj_ps_inv h
  obtain ⟨q, hq, h⟩ := pj_b_inv h
  exact pm_cs hl hg [.int a0, .int a1, .int a2] rfl (by rw [e2, e1, e0]; rfl) hs (pm_rI q.1) hd (pm_X12_toward hT a0 a1 a2 z.1 z.2.1 z.2.2.1 z.2.2.2 q hq) rfl (hK _ _ h)
abbrev pe_X12_drives_46 (f : Int32 → Int32 → pj_F (Unit × pj_Z)) : pj_K (Unit × pj_Z) := fun lv st z => pj_xr lv 0 124 0 <| pj_pi st fun b2 st => pj_pi st fun b1 st => pj_pr st 124 0 fun st => pj_pe st (f b1 b2 z.1 z.2.1 z.2.2.1 z.2.2.2)
abbrev pe_X12_drives_57 (f : pj_F (Unit × pj_Z)) : pj_K (Unit × pj_Z) := fun lv st z => pj_xr lv 0 124 0 <| pj_pe st (f  z.1 z.2.1 z.2.2.1 z.2.2.2)
abbrev pe_X12_drives_83 (f : Int32 → pj_F (Unit × pj_Z)) : pj_K (Unit × pj_Z) := fun lv st z => pj_xr lv 0 124 0 <| pj_pi st fun b1 st => pj_pr st 124 0 fun st => pj_pe st (f b1 z.1 z.2.1 z.2.2.1 z.2.2.2)
abbrev pe_X12_drives_86 (f : pj_F (Unit × pj_Z)) : pj_K (Unit × pj_Z) := fun lv st z => pj_xr lv 0 124 0 <| pj_pe st (f  z.1 z.2.1 z.2.2.1 z.2.2.2)
abbrev pe_X12_drives_99 (f : pj_F (Unit × pj_Z)) : pj_K (Unit × pj_Z) := fun lv st z => pj_xr lv 0 124 0 <| pj_pe st (f  z.1 z.2.1 z.2.2.1 z.2.2.2)
abbrev pe_X12_drives_170 (f : Int32 → pj_F (Unit × pj_Z)) : pj_K (Unit × pj_Z) := fun lv st z => pj_xr lv 0 124 0 <| pj_pi st fun b1 st => pj_pr st 124 0 fun st => pj_pe st (f b1 z.1 z.2.1 z.2.2.1 z.2.2.2)
abbrev pe_X12_drives_181 (f : pj_F (Unit × pj_Z)) : pj_K (Unit × pj_Z) := fun lv st z => pj_xr lv 0 124 0 <| pj_pe st (f  z.1 z.2.1 z.2.2.1 z.2.2.2)
abbrev pe_X12_drives_198 (f : pj_F (Unit × pj_Z)) : pj_K (Unit × pj_Z) := fun lv st z => pj_pr st 124 0 fun st => pj_pe st (f  z.1 z.2.1 z.2.2.1 z.2.2.2)
abbrev pe_X12_drives_203 (f : Int32 → pj_F (Unit × pj_Z)) : pj_K (Unit × pj_Z) := fun lv st z => pj_pi st fun b1 st => pj_pr st 124 0 fun st => pj_pe st (f b1 z.1 z.2.1 z.2.2.1 z.2.2.2)
abbrev px_X12_drives : pj_C (Unit × pj_Z) := ((pj_as [(124, 12, 195, 1, 0, true, 0, [(1, 1), (2, 125), (2, 126), (2, 127), (2, 128), (2, 129), (2, 130), (2, 131), (2, 132), (2, 133), (1, 2), (0, 44), (2, 134), (2, 135), (2, 136), (2, 137), (2, 138), (0, 69), (2, 139), (2, 140), (2, 141), (1, 3), (0, 93), (0, 94), (0, 45), (0, 46), (0, 48), (0, 49), (0, 47), (0, 50), (0, 51), (2, 142), (2, 143), (2, 144), (0, 19), (1, 4), (1, 5), (1, 6), (0, 20), (0, 21), (0, 22), (0, 23), (0, 24), (0, 25), (0, 27), (0, 28), (1, 7), (1, 8), (1, 9), (1, 10), (1, 11), (0, 26), (2, 145), (2, 146), (2, 147), (2, 148), (2, 149), (2, 150), (2, 151), (2, 152), (2, 153), (2, 154), (2, 155), (2, 156), (2, 157), (2, 158), (2, 159), (0, 57), (0, 58), (0, 59), (0, 60), (2, 160), (2, 161), (2, 162), (2, 163), (1, 12), (1, 13), (0, 95), (0, 73), (0, 74), (0, 71), (0, 72), (0, 75), (0, 76), (0, 77), (0, 80), (0, 78), (0, 79), (1, 14), (0, 29), (0, 30), (0, 31), (0, 34), (0, 35), (0, 32), (0, 33), (0, 36), (0, 37), (0, 38), (0, 39), (0, 40), (1, 15), (1, 16), (0, 43), (0, 41), (0, 42), (2, 164), (0, 96), (0, 89), (0, 90), (0, 91), (0, 92), (2, 165), (2, 166), (2, 167), (2, 168), (2, 169), (2, 170), (2, 171), (2, 172), (0, 87), (2, 173), (0, 88), (2, 174), (0, 62), (1, 17), (0, 66), (0, 63), (0, 64), (0, 65), (0, 67), (1, 18), (0, 68), (2, 175), (1, 19), (0, 52), (0, 53), (0, 54), (0, 55), (2, 176), (0, 56), (0, 85), (0, 86), (0, 81), (0, 82), (0, 83), (0, 84), (2, 177), (2, 178), (2, 179), (1, 20), (2, 180), (0, 6), (0, 7), (0, 8), (0, 16), (0, 17), (0, 61), (0, 9), (0, 10), (1, 21), (1, 22), (0, 11), (0, 12), (0, 13), (0, 18), (0, 14), (0, 15), (2, 181), (0, 70), (1, 23), (2, 182), (2, 183), (0, 1), (1, 24), (2, 184), (2, 185), (1, 25), (0, 2), (2, 186), (2, 187), (1, 26), (2, 188), (2, 189), (1, 27), (1, 28), (2, 190), (2, 191), (1, 29), (0, 3), (2, 192), (0, 4), (0, 5), (1, 30), (2, 193)]), (176, 102, 2, 1, 0, true, 15000, [])]), (pj_as [(182, 12, 139, 2, true), (357, 12, 141, 0, false), (360, 12, 142, 3, false), (709, 12, 25, 0, false), (747, 12, 27, 3, false), (984, 12, 136, 0, false), (990, 12, 135, 0, false), (993, 12, 138, 0, false), (997, 12, 137, 0, false)]), (pj_as [(996, 36000)]), (fun _ => none), (fun _ => none), ic_X, 2, 0, pj_mU, (pj_as [(19, ph_X12_ratio), (48, ph_X12_toward)]), fun _ => false)
abbrev pk_X12_drives : List (Nat × List (Nat × Instr × Nat)) := [(0, [(0, .aload_n 0, 1), (1, .getfield 747, 3), (4, .ifCond .eq 53, 3)]), (7, [(7, .aload_n 0, 1), (8, .getfield 984, 3), (11, .ifCond .le 46, 3)]), (14, [(14, .aload_n 0, 1), (15, .getfield 709, 3), (18, .aload_n 0, 1), (19, .invokevirtual 987, 3), (22, .imul, 1), (23, .bipush 100, 2), (25, .idiv, 1), (26, .istore_n 1, 1), (27, .aload_n 0, 1), (28, .aload_n 0, 1), (29, .getfield 990, 3), (32, .iload_n 1, 1), (33, .sipush 30000, 3), (36, .if_icmp .le 9, 3)]), (39, [(39, .sipush 30000, 3), (42, .goto 4, 3)]), (45, [(45, .iload_n 1, 1)]), (46, [(46, .bipush 50, 2), (48, .invokestatic 706, 3), (51, .putfield 990, 3), (54, .goto 32, 3)]), (57, [(57, .aload_n 0, 1), (58, .getfield 747, 3), (61, .ifCond .eq 25, 3)]), (64, [(64, .aload_n 0, 1), (65, .aload_n 0, 1), (66, .getfield 990, 3), (69, .iconst 5, 1), (70, .if_icmp .le 12, 3)]), (73, [(73, .aload_n 0, 1), (74, .getfield 990, 3), (77, .iconst 5, 1), (78, .isub, 1), (79, .goto 4, 3)]), (82, [(82, .iconst 0, 1)]), (83, [(83, .putfield 990, 3)]), (86, [(86, .aload_n 0, 1), (87, .aload_n 0, 1), (88, .getfield 993, 3), (91, .aload_n 0, 1), (92, .getfield 990, 3), (95, .iadd, 1), (96, .putfield 993, 3)]), (99, [(99, .aload_n 0, 1), (100, .getfield 993, 3), (103, .ldc_w 996, 3), (106, .if_icmp .lt 28, 3)]), (109, [(109, .aload_n 0, 1), (110, .aload_n 0, 1), (111, .getfield 993, 3), (114, .ldc_w 996, 3), (117, .isub, 1), (118, .putfield 993, 3), (121, .aload_n 0, 1), (122, .dup, 1), (123, .getfield 997, 3), (126, .iconst 1, 1), (127, .iadd, 1), (128, .putfield 997, 3), (131, .goto (-32), 3)]), (134, [(134, .aload_n 0, 1), (135, .getfield 182, 3), (138, .iconst 0, 1), (139, .baload, 1), (140, .aload_n 0, 1), (141, .getfield 182, 3), (144, .iconst 1, 1), (145, .baload, 1), (146, .if_icmp .eq 30, 3)]), (149, [(149, .aload_n 0, 1), (150, .aload_n 0, 1), (151, .getfield 357, 3), (154, .bipush 20, 2), (156, .if_icmp .ge 12, 3)]), (159, [(159, .aload_n 0, 1), (160, .getfield 357, 3), (163, .iconst 1, 1), (164, .iadd, 1), (165, .goto 5, 3)]), (168, [(168, .bipush 20, 2)]), (170, [(170, .putfield 357, 3), (173, .goto 8, 3)]), (176, [(176, .aload_n 0, 1), (177, .iconst 0, 1), (178, .putfield 357, 3)]), (181, [(181, .aload_n 0, 1), (182, .aload_n 0, 1), (183, .getfield 360, 3), (186, .ifCond .ne 12, 3)]), (189, [(189, .aload_n 0, 1), (190, .getfield 357, 3), (193, .bipush 20, 2), (195, .if_icmp .ne 7, 3)]), (198, [(198, .iconst 1, 1), (199, .goto 4, 3)]), (202, [(202, .iconst 0, 1)]), (203, [(203, .putfield 360, 3), (206, .return_, 1)])]
set_option maxRecDepth 100000 in
theorem pq_X12_drives_203 (fu : Nat)  (b1 : Int32) (s : Nat → Int32) (l : Nat → Int64) (x : Nat → Int32) (y : Nat → Int64) : pl_X12_drives_203 fu b1 s l x y = pj_bl px_X12_drives (pj_rn px_X12_drives (pj_as pk_X12_drives) (fun _ => none) 60) [(203, .putfield 360, 3), (206, .return_, 1)] 203 [] [pj_I b1, pj_O (124, 0)] (s, l, x, y) := rfl
set_option maxRecDepth 100000 in
theorem pq_X12_drives_198 (fu : Nat)   (s : Nat → Int32) (l : Nat → Int64) (x : Nat → Int32) (y : Nat → Int64) : pl_X12_drives_198 fu s l x y = pj_bl px_X12_drives (pj_rn px_X12_drives (pj_as pk_X12_drives) (pj_as [(203, pe_X12_drives_203 (pl_X12_drives_203 fu))]) 60) [(198, .iconst 1, 1), (199, .goto 4, 3)] 198 [] [pj_O (124, 0)] (s, l, x, y) := rfl
set_option maxRecDepth 100000 in
theorem pq_X12_drives_181 (fu : Nat)   (s : Nat → Int32) (l : Nat → Int64) (x : Nat → Int32) (y : Nat → Int64) : pl_X12_drives_181 fu s l x y = pj_bl px_X12_drives (pj_rn px_X12_drives (pj_as pk_X12_drives) (pj_as [(198, pe_X12_drives_198 (pl_X12_drives_198 fu)), (203, pe_X12_drives_203 (pl_X12_drives_203 fu))]) 60) [(181, .aload_n 0, 1), (182, .aload_n 0, 1), (183, .getfield 360, 3), (186, .ifCond .ne 12, 3)] 181 [(0, pj_O (124, 0))] [] (s, l, x, y) := rfl
set_option maxRecDepth 100000 in
theorem pq_X12_drives_170 (fu : Nat)  (b1 : Int32) (s : Nat → Int32) (l : Nat → Int64) (x : Nat → Int32) (y : Nat → Int64) : pl_X12_drives_170 fu b1 s l x y = pj_bl px_X12_drives (pj_rn px_X12_drives (pj_as pk_X12_drives) (pj_as [(181, pe_X12_drives_181 (pl_X12_drives_181 fu))]) 60) [(170, .putfield 357, 3), (173, .goto 8, 3)] 170 [(0, pj_O (124, 0))] [pj_I b1, pj_O (124, 0)] (s, l, x, y) := rfl
set_option maxRecDepth 100000 in
theorem pq_X12_drives_99 (fu : Nat)  (n : Nat)  (s : Nat → Int32) (l : Nat → Int64) (x : Nat → Int32) (y : Nat → Int64) : pl_X12_drives_99 fu (n + 1) s l x y = pj_bl px_X12_drives (pj_rn px_X12_drives (pj_as pk_X12_drives) (pj_as [(99, pe_X12_drives_99 (pl_X12_drives_99 fu n)), (170, pe_X12_drives_170 (pl_X12_drives_170 fu)), (181, pe_X12_drives_181 (pl_X12_drives_181 fu))]) 60) [(99, .aload_n 0, 1), (100, .getfield 993, 3), (103, .ldc_w 996, 3), (106, .if_icmp .lt 28, 3)] 99 [(0, pj_O (124, 0))] [] (s, l, x, y) := rfl
set_option maxRecDepth 100000 in
theorem pq_X12_drives_86 (fu : Nat)   (s : Nat → Int32) (l : Nat → Int64) (x : Nat → Int32) (y : Nat → Int64) : pl_X12_drives_86 fu s l x y = pj_bl px_X12_drives (pj_rn px_X12_drives (pj_as pk_X12_drives) (pj_as [(99, pe_X12_drives_99 (pl_X12_drives_99 fu fu))]) 60) [(86, .aload_n 0, 1), (87, .aload_n 0, 1), (88, .getfield 993, 3), (91, .aload_n 0, 1), (92, .getfield 990, 3), (95, .iadd, 1), (96, .putfield 993, 3)] 86 [(0, pj_O (124, 0))] [] (s, l, x, y) := rfl
set_option maxRecDepth 100000 in
theorem pq_X12_drives_46 (fu : Nat)  (b1 : Int32) (b2 : Int32) (s : Nat → Int32) (l : Nat → Int64) (x : Nat → Int32) (y : Nat → Int64) : pl_X12_drives_46 fu b1 b2 s l x y = pj_bl px_X12_drives (pj_rn px_X12_drives (pj_as pk_X12_drives) (pj_as [(86, pe_X12_drives_86 (pl_X12_drives_86 fu))]) 60) [(46, .bipush 50, 2), (48, .invokestatic 706, 3), (51, .putfield 990, 3), (54, .goto 32, 3)] 46 [(0, pj_O (124, 0))] [pj_I b2, pj_I b1, pj_O (124, 0)] (s, l, x, y) := rfl
set_option maxRecDepth 100000 in
theorem pq_X12_drives_83 (fu : Nat)  (b1 : Int32) (s : Nat → Int32) (l : Nat → Int64) (x : Nat → Int32) (y : Nat → Int64) : pl_X12_drives_83 fu b1 s l x y = pj_bl px_X12_drives (pj_rn px_X12_drives (pj_as pk_X12_drives) (pj_as [(86, pe_X12_drives_86 (pl_X12_drives_86 fu))]) 60) [(83, .putfield 990, 3)] 83 [(0, pj_O (124, 0))] [pj_I b1, pj_O (124, 0)] (s, l, x, y) := rfl
set_option maxRecDepth 100000 in
theorem pq_X12_drives_57 (fu : Nat)   (s : Nat → Int32) (l : Nat → Int64) (x : Nat → Int32) (y : Nat → Int64) : pl_X12_drives_57 fu s l x y = pj_bl px_X12_drives (pj_rn px_X12_drives (pj_as pk_X12_drives) (pj_as [(83, pe_X12_drives_83 (pl_X12_drives_83 fu)), (86, pe_X12_drives_86 (pl_X12_drives_86 fu))]) 60) [(57, .aload_n 0, 1), (58, .getfield 747, 3), (61, .ifCond .eq 25, 3)] 57 [(0, pj_O (124, 0))] [] (s, l, x, y) := rfl
set_option maxRecDepth 100000 in
theorem pq_X12_drives_m (fu : Nat)   (s : Nat → Int32) (l : Nat → Int64) (x : Nat → Int32) (y : Nat → Int64) : po_X12_drives fu  s l x y = pj_bl px_X12_drives (pj_rn px_X12_drives (pj_as pk_X12_drives) (pj_as [(46, pe_X12_drives_46 (pl_X12_drives_46 fu)), (57, pe_X12_drives_57 (pl_X12_drives_57 fu))]) 60) [(0, .aload_n 0, 1), (1, .getfield 747, 3), (4, .ifCond .eq 53, 3)] 0 [(0, pj_O (124, 0))] [] (s, l, x, y) := rfl
theorem pu_X12_drives_46 {lf : pj_Z → mj_M} {a : Unit × pj_Z} (f : Int32 → Int32 → pj_F (Unit × pj_Z)) (hf : ∀ (b1 : Int32) (b2 : Int32) (s : Nat → Int32) (l : Nat → Int64) (x : Nat → Int32) (y : Nat → Int64), f b1 b2 s l x y = some a → pm_Gd 1 12125 ie_X12_drives.1 pm_rU lf 46 [(0, .ref 124)] [.int b2, .int b1, .ref 124] (s, l, x, y) a) : pm_Ex 1 12125 ie_X12_drives.1 pm_rU lf a 46 (pe_X12_drives_46 f) := by
  intro lv st z hd h
  obtain ⟨g0, h⟩ := pj_xr_inv h
  obtain ⟨b2, r2, e2, h⟩ := pj_pi_inv h
  obtain ⟨b1, r1, e1, h⟩ := pj_pi_inv h
  obtain ⟨r0, e0, h⟩ := pj_pr_inv h
  obtain ⟨e9, h⟩ := pj_pe_inv h
  rw [e2, e1, e0, e9]
  exact mj_wp_sub (mj_sub_cons g0 (mj_sub_nil hd)) (hf _ _ _ _ _ _ h)
theorem pu_X12_drives_57 {lf : pj_Z → mj_M} {a : Unit × pj_Z} (f : pj_F (Unit × pj_Z)) (hf : ∀  (s : Nat → Int32) (l : Nat → Int64) (x : Nat → Int32) (y : Nat → Int64), f  s l x y = some a → pm_Gd 1 12125 ie_X12_drives.1 pm_rU lf 57 [(0, .ref 124)] [] (s, l, x, y) a) : pm_Ex 1 12125 ie_X12_drives.1 pm_rU lf a 57 (pe_X12_drives_57 f) := by
  intro lv st z hd h
  obtain ⟨g0, h⟩ := pj_xr_inv h
  obtain ⟨e9, h⟩ := pj_pe_inv h
  rw [e9]
  exact mj_wp_sub (mj_sub_cons g0 (mj_sub_nil hd)) (hf  _ _ _ _ h)
theorem pu_X12_drives_83 {lf : pj_Z → mj_M} {a : Unit × pj_Z} (f : Int32 → pj_F (Unit × pj_Z)) (hf : ∀ (b1 : Int32) (s : Nat → Int32) (l : Nat → Int64) (x : Nat → Int32) (y : Nat → Int64), f b1 s l x y = some a → pm_Gd 1 12125 ie_X12_drives.1 pm_rU lf 83 [(0, .ref 124)] [.int b1, .ref 124] (s, l, x, y) a) : pm_Ex 1 12125 ie_X12_drives.1 pm_rU lf a 83 (pe_X12_drives_83 f) := by
  intro lv st z hd h
  obtain ⟨g0, h⟩ := pj_xr_inv h
  obtain ⟨b1, r1, e1, h⟩ := pj_pi_inv h
  obtain ⟨r0, e0, h⟩ := pj_pr_inv h
  obtain ⟨e9, h⟩ := pj_pe_inv h
  rw [e1, e0, e9]
  exact mj_wp_sub (mj_sub_cons g0 (mj_sub_nil hd)) (hf _ _ _ _ _ h)
theorem pu_X12_drives_86 {lf : pj_Z → mj_M} {a : Unit × pj_Z} (f : pj_F (Unit × pj_Z)) (hf : ∀  (s : Nat → Int32) (l : Nat → Int64) (x : Nat → Int32) (y : Nat → Int64), f  s l x y = some a → pm_Gd 1 12125 ie_X12_drives.1 pm_rU lf 86 [(0, .ref 124)] [] (s, l, x, y) a) : pm_Ex 1 12125 ie_X12_drives.1 pm_rU lf a 86 (pe_X12_drives_86 f) := by
  intro lv st z hd h
  obtain ⟨g0, h⟩ := pj_xr_inv h
  obtain ⟨e9, h⟩ := pj_pe_inv h
  rw [e9]
  exact mj_wp_sub (mj_sub_cons g0 (mj_sub_nil hd)) (hf  _ _ _ _ h)
theorem pu_X12_drives_99 {lf : pj_Z → mj_M} {a : Unit × pj_Z} (f : pj_F (Unit × pj_Z)) (hf : ∀  (s : Nat → Int32) (l : Nat → Int64) (x : Nat → Int32) (y : Nat → Int64), f  s l x y = some a → pm_Gd 1 12125 ie_X12_drives.1 pm_rU lf 99 [(0, .ref 124)] [] (s, l, x, y) a) : pm_Ex 1 12125 ie_X12_drives.1 pm_rU lf a 99 (pe_X12_drives_99 f) := by
  intro lv st z hd h
  obtain ⟨g0, h⟩ := pj_xr_inv h
  obtain ⟨e9, h⟩ := pj_pe_inv h
  rw [e9]
  exact mj_wp_sub (mj_sub_cons g0 (mj_sub_nil hd)) (hf  _ _ _ _ h)
theorem pu_X12_drives_170 {lf : pj_Z → mj_M} {a : Unit × pj_Z} (f : Int32 → pj_F (Unit × pj_Z)) (hf : ∀ (b1 : Int32) (s : Nat → Int32) (l : Nat → Int64) (x : Nat → Int32) (y : Nat → Int64), f b1 s l x y = some a → pm_Gd 1 12125 ie_X12_drives.1 pm_rU lf 170 [(0, .ref 124)] [.int b1, .ref 124] (s, l, x, y) a) : pm_Ex 1 12125 ie_X12_drives.1 pm_rU lf a 170 (pe_X12_drives_170 f) := by
  intro lv st z hd h
  obtain ⟨g0, h⟩ := pj_xr_inv h
  obtain ⟨b1, r1, e1, h⟩ := pj_pi_inv h
  obtain ⟨r0, e0, h⟩ := pj_pr_inv h
  obtain ⟨e9, h⟩ := pj_pe_inv h
  rw [e1, e0, e9]
  exact mj_wp_sub (mj_sub_cons g0 (mj_sub_nil hd)) (hf _ _ _ _ _ h)
theorem pu_X12_drives_181 {lf : pj_Z → mj_M} {a : Unit × pj_Z} (f : pj_F (Unit × pj_Z)) (hf : ∀  (s : Nat → Int32) (l : Nat → Int64) (x : Nat → Int32) (y : Nat → Int64), f  s l x y = some a → pm_Gd 1 12125 ie_X12_drives.1 pm_rU lf 181 [(0, .ref 124)] [] (s, l, x, y) a) : pm_Ex 1 12125 ie_X12_drives.1 pm_rU lf a 181 (pe_X12_drives_181 f) := by
  intro lv st z hd h
  obtain ⟨g0, h⟩ := pj_xr_inv h
  obtain ⟨e9, h⟩ := pj_pe_inv h
  rw [e9]
  exact mj_wp_sub (mj_sub_cons g0 (mj_sub_nil hd)) (hf  _ _ _ _ h)
theorem pu_X12_drives_198 {lf : pj_Z → mj_M} {a : Unit × pj_Z} (f : pj_F (Unit × pj_Z)) (hf : ∀  (s : Nat → Int32) (l : Nat → Int64) (x : Nat → Int32) (y : Nat → Int64), f  s l x y = some a → pm_Gd 1 12125 ie_X12_drives.1 pm_rU lf 198 [] [.ref 124] (s, l, x, y) a) : pm_Ex 1 12125 ie_X12_drives.1 pm_rU lf a 198 (pe_X12_drives_198 f) := by
  intro lv st z hd h
  obtain ⟨r0, e0, h⟩ := pj_pr_inv h
  obtain ⟨e9, h⟩ := pj_pe_inv h
  rw [e0, e9]
  exact mj_wp_sub (mj_sub_nil hd) (hf  _ _ _ _ h)
theorem pu_X12_drives_203 {lf : pj_Z → mj_M} {a : Unit × pj_Z} (f : Int32 → pj_F (Unit × pj_Z)) (hf : ∀ (b1 : Int32) (s : Nat → Int32) (l : Nat → Int64) (x : Nat → Int32) (y : Nat → Int64), f b1 s l x y = some a → pm_Gd 1 12125 ie_X12_drives.1 pm_rU lf 203 [] [.int b1, .ref 124] (s, l, x, y) a) : pm_Ex 1 12125 ie_X12_drives.1 pm_rU lf a 203 (pe_X12_drives_203 f) := by
  intro lv st z hd h
  obtain ⟨b1, r1, e1, h⟩ := pj_pi_inv h
  obtain ⟨r0, e0, h⟩ := pj_pr_inv h
  obtain ⟨e9, h⟩ := pj_pe_inv h
  rw [e1, e0, e9]
  exact mj_wp_sub (mj_sub_nil hd) (hf _ _ _ _ _ h)
set_option maxRecDepth 100000 in
theorem pz_X12_drives {lf : pj_Z → mj_M} (hT : pj_Lt pj_TR lf) : pj_Cok ic_P (mj_R ic_P 1) 12125 ie_X12_drives.1 (pm_OK lf pm_rU) lf px_X12_drives := by
  exact pm_cok (c := px_X12_drives) (pm_part hT (pj_as_all (p := fun b e => pj_TR b = some e) (List.forall_mem_cons.mpr ⟨rfl, (List.forall_mem_cons.mpr ⟨rfl, (fun _ h => by cases h)⟩)⟩))) (pm_in_ok (L := [(182, 12, 139, 2, true), (357, 12, 141, 0, false), (360, 12, 142, 3, false), (709, 12, 25, 0, false), (747, 12, 27, 3, false), (984, 12, 136, 0, false), (990, 12, 135, 0, false), (993, 12, 138, 0, false), (997, 12, 137, 0, false)]) (f := mj_pF ic_P 12125) (by decide +kernel)) (pm_inI_ok (L := [(996, 36000)]) (f := mj_pK ic_P 12125) (by decide +kernel)) (fun _ _ h => by cases h) (fun _ _ h => by cases h) rfl rfl ⟨by decide, rfl⟩ pm_mU (pj_as_all (p := pm_Cl 1 12125 ie_X12_drives.1 lf (pm_OK lf pm_rU)) (List.forall_mem_cons.mpr ⟨fun _ _ lv st z K a hK h => pc_X12_ratio hT (by decide) (ix := 987) rfl rfl hK h, (List.forall_mem_cons.mpr ⟨fun _ _ lv st z K a hK h => pc_X12_toward hT (by decide) (ix := 706) rfl rfl hK h, (fun _ h => by cases h)⟩)⟩)) (fun _ h => by cases h)
set_option maxRecDepth 100000 in
theorem pb_X12_drives : pm_bks ie_X12_drives.1.2.2.2.2 pk_X12_drives = true := by decide +kernel
set_option maxRecDepth 100000 in
theorem pg_X12_drives_203 {fu : Nat} {lf : pj_Z → mj_M} (hT : pj_Lt pj_TR lf) : ∀ (b1 : Int32) (s : Nat → Int32) (l : Nat → Int64) (x : Nat → Int32) (y : Nat → Int64) (a : Unit × pj_Z), pl_X12_drives_203 fu b1 s l x y = some a → pm_Gd 1 12125 ie_X12_drives.1 pm_rU lf 203 [] [.int b1, .ref 124] (s, l, x, y) a := by
  intro b1 s l x y a h
  exact pm_run ((pq_X12_drives_203 fu b1 s l x y).symm.trans h) (pz_X12_drives hT) (pm_bks_ok pb_X12_drives) (pm_bks_ok pb_X12_drives _ _ rfl) (pm_ndb_ok rfl) (fun _ _ h => by cases h)
set_option maxRecDepth 100000 in
theorem pg_X12_drives_198 {fu : Nat} {lf : pj_Z → mj_M} (hT : pj_Lt pj_TR lf) : ∀  (s : Nat → Int32) (l : Nat → Int64) (x : Nat → Int32) (y : Nat → Int64) (a : Unit × pj_Z), pl_X12_drives_198 fu s l x y = some a → pm_Gd 1 12125 ie_X12_drives.1 pm_rU lf 198 [] [.ref 124] (s, l, x, y) a := by
  intro  s l x y a h
  exact pm_run ((pq_X12_drives_198 fu  s l x y).symm.trans h) (pz_X12_drives hT) (pm_bks_ok pb_X12_drives) (pm_bks_ok pb_X12_drives _ _ rfl) (pm_ndb_ok rfl) (pj_as_all (p := pm_Ex 1 12125 ie_X12_drives.1 pm_rU lf a) (List.forall_mem_cons.mpr ⟨pu_X12_drives_203 _ (fun c0 s l x y h => pg_X12_drives_203 hT c0 s l x y _ h), (fun _ h => by cases h)⟩))
set_option maxRecDepth 100000 in
theorem pg_X12_drives_181 {fu : Nat} {lf : pj_Z → mj_M} (hT : pj_Lt pj_TR lf) : ∀  (s : Nat → Int32) (l : Nat → Int64) (x : Nat → Int32) (y : Nat → Int64) (a : Unit × pj_Z), pl_X12_drives_181 fu s l x y = some a → pm_Gd 1 12125 ie_X12_drives.1 pm_rU lf 181 [(0, .ref 124)] [] (s, l, x, y) a := by
  intro  s l x y a h
  exact pm_run ((pq_X12_drives_181 fu  s l x y).symm.trans h) (pz_X12_drives hT) (pm_bks_ok pb_X12_drives) (pm_bks_ok pb_X12_drives _ _ rfl) (pm_ndb_ok rfl) (pj_as_all (p := pm_Ex 1 12125 ie_X12_drives.1 pm_rU lf a) (List.forall_mem_cons.mpr ⟨pu_X12_drives_198 _ (fun  s l x y h => pg_X12_drives_198 hT  s l x y _ h), (List.forall_mem_cons.mpr ⟨pu_X12_drives_203 _ (fun c0 s l x y h => pg_X12_drives_203 hT c0 s l x y _ h), (fun _ h => by cases h)⟩)⟩))
set_option maxRecDepth 100000 in
theorem pg_X12_drives_170 {fu : Nat} {lf : pj_Z → mj_M} (hT : pj_Lt pj_TR lf) : ∀ (b1 : Int32) (s : Nat → Int32) (l : Nat → Int64) (x : Nat → Int32) (y : Nat → Int64) (a : Unit × pj_Z), pl_X12_drives_170 fu b1 s l x y = some a → pm_Gd 1 12125 ie_X12_drives.1 pm_rU lf 170 [(0, .ref 124)] [.int b1, .ref 124] (s, l, x, y) a := by
  intro b1 s l x y a h
  exact pm_run ((pq_X12_drives_170 fu b1 s l x y).symm.trans h) (pz_X12_drives hT) (pm_bks_ok pb_X12_drives) (pm_bks_ok pb_X12_drives _ _ rfl) (pm_ndb_ok rfl) (pj_as_all (p := pm_Ex 1 12125 ie_X12_drives.1 pm_rU lf a) (List.forall_mem_cons.mpr ⟨pu_X12_drives_181 _ (fun  s l x y h => pg_X12_drives_181 hT  s l x y _ h), (fun _ h => by cases h)⟩))
set_option maxRecDepth 100000 in
theorem pg_X12_drives_99 {fu : Nat} {lf : pj_Z → mj_M} (hT : pj_Lt pj_TR lf) : ∀ (n : Nat), ∀  (s : Nat → Int32) (l : Nat → Int64) (x : Nat → Int32) (y : Nat → Int64) (a : Unit × pj_Z), pl_X12_drives_99 fu n s l x y = some a → pm_Gd 1 12125 ie_X12_drives.1 pm_rU lf 99 [(0, .ref 124)] [] (s, l, x, y) a := by
  intro n
  induction n with
  | zero => intro  s l x y a h; cases (show (none : Option (Unit × pj_Z)) = some a from h)
  | succ n ih =>
    intro  s l x y a h
    exact pm_run ((pq_X12_drives_99 fu n  s l x y).symm.trans h) (pz_X12_drives hT) (pm_bks_ok pb_X12_drives) (pm_bks_ok pb_X12_drives _ _ rfl) (pm_ndb_ok rfl) (pj_as_all (p := pm_Ex 1 12125 ie_X12_drives.1 pm_rU lf a) (List.forall_mem_cons.mpr ⟨pu_X12_drives_99 _ (fun  s l x y h => ih  s l x y _ h), (List.forall_mem_cons.mpr ⟨pu_X12_drives_170 _ (fun c0 s l x y h => pg_X12_drives_170 hT c0 s l x y _ h), (List.forall_mem_cons.mpr ⟨pu_X12_drives_181 _ (fun  s l x y h => pg_X12_drives_181 hT  s l x y _ h), (fun _ h => by cases h)⟩)⟩)⟩))
set_option maxRecDepth 100000 in
theorem pg_X12_drives_86 {fu : Nat} {lf : pj_Z → mj_M} (hT : pj_Lt pj_TR lf) : ∀  (s : Nat → Int32) (l : Nat → Int64) (x : Nat → Int32) (y : Nat → Int64) (a : Unit × pj_Z), pl_X12_drives_86 fu s l x y = some a → pm_Gd 1 12125 ie_X12_drives.1 pm_rU lf 86 [(0, .ref 124)] [] (s, l, x, y) a := by
  intro  s l x y a h
  exact pm_run ((pq_X12_drives_86 fu  s l x y).symm.trans h) (pz_X12_drives hT) (pm_bks_ok pb_X12_drives) (pm_bks_ok pb_X12_drives _ _ rfl) (pm_ndb_ok rfl) (pj_as_all (p := pm_Ex 1 12125 ie_X12_drives.1 pm_rU lf a) (List.forall_mem_cons.mpr ⟨pu_X12_drives_99 _ (fun  s l x y h => pg_X12_drives_99 hT _  s l x y _ h), (fun _ h => by cases h)⟩))
set_option maxRecDepth 100000 in
theorem pg_X12_drives_46 {fu : Nat} {lf : pj_Z → mj_M} (hT : pj_Lt pj_TR lf) : ∀ (b1 : Int32) (b2 : Int32) (s : Nat → Int32) (l : Nat → Int64) (x : Nat → Int32) (y : Nat → Int64) (a : Unit × pj_Z), pl_X12_drives_46 fu b1 b2 s l x y = some a → pm_Gd 1 12125 ie_X12_drives.1 pm_rU lf 46 [(0, .ref 124)] [.int b2, .int b1, .ref 124] (s, l, x, y) a := by
  intro b1 b2 s l x y a h
  exact pm_run ((pq_X12_drives_46 fu b1 b2 s l x y).symm.trans h) (pz_X12_drives hT) (pm_bks_ok pb_X12_drives) (pm_bks_ok pb_X12_drives _ _ rfl) (pm_ndb_ok rfl) (pj_as_all (p := pm_Ex 1 12125 ie_X12_drives.1 pm_rU lf a) (List.forall_mem_cons.mpr ⟨pu_X12_drives_86 _ (fun  s l x y h => pg_X12_drives_86 hT  s l x y _ h), (fun _ h => by cases h)⟩))
set_option maxRecDepth 100000 in
theorem pg_X12_drives_83 {fu : Nat} {lf : pj_Z → mj_M} (hT : pj_Lt pj_TR lf) : ∀ (b1 : Int32) (s : Nat → Int32) (l : Nat → Int64) (x : Nat → Int32) (y : Nat → Int64) (a : Unit × pj_Z), pl_X12_drives_83 fu b1 s l x y = some a → pm_Gd 1 12125 ie_X12_drives.1 pm_rU lf 83 [(0, .ref 124)] [.int b1, .ref 124] (s, l, x, y) a := by
  intro b1 s l x y a h
  exact pm_run ((pq_X12_drives_83 fu b1 s l x y).symm.trans h) (pz_X12_drives hT) (pm_bks_ok pb_X12_drives) (pm_bks_ok pb_X12_drives _ _ rfl) (pm_ndb_ok rfl) (pj_as_all (p := pm_Ex 1 12125 ie_X12_drives.1 pm_rU lf a) (List.forall_mem_cons.mpr ⟨pu_X12_drives_86 _ (fun  s l x y h => pg_X12_drives_86 hT  s l x y _ h), (fun _ h => by cases h)⟩))
set_option maxRecDepth 100000 in
theorem pg_X12_drives_57 {fu : Nat} {lf : pj_Z → mj_M} (hT : pj_Lt pj_TR lf) : ∀  (s : Nat → Int32) (l : Nat → Int64) (x : Nat → Int32) (y : Nat → Int64) (a : Unit × pj_Z), pl_X12_drives_57 fu s l x y = some a → pm_Gd 1 12125 ie_X12_drives.1 pm_rU lf 57 [(0, .ref 124)] [] (s, l, x, y) a := by
  intro  s l x y a h
  exact pm_run ((pq_X12_drives_57 fu  s l x y).symm.trans h) (pz_X12_drives hT) (pm_bks_ok pb_X12_drives) (pm_bks_ok pb_X12_drives _ _ rfl) (pm_ndb_ok rfl) (pj_as_all (p := pm_Ex 1 12125 ie_X12_drives.1 pm_rU lf a) (List.forall_mem_cons.mpr ⟨pu_X12_drives_83 _ (fun c0 s l x y h => pg_X12_drives_83 hT c0 s l x y _ h), (List.forall_mem_cons.mpr ⟨pu_X12_drives_86 _ (fun  s l x y h => pg_X12_drives_86 hT  s l x y _ h), (fun _ h => by cases h)⟩)⟩))
set_option maxRecDepth 100000 in
theorem pm_X12_drives {lf : pj_Z → mj_M} (hT : pj_Lt pj_TR lf)  (s : Nat → Int32) (l : Nat → Int64) (x : Nat → Int32) (y : Nat → Int64) (a : Unit × pj_Z) (h : pf_X12_drives  s l x y = some a) : mj_R ic_P 2 12125 [.ref 124] (lf (s, l, x, y)) (pm_rU a.1) (lf a.2) := by
  refine pm_main (Y := ie_X12_drives.1) rfl (Nat.le_of_ble_eq_true rfl) ?_
  exact pm_run ((pq_X12_drives_m 1000  s l x y).symm.trans h) (pz_X12_drives hT) (pm_bks_ok pb_X12_drives) (pm_bks_ok pb_X12_drives _ _ rfl) (pm_ndb_ok rfl) (pj_as_all (p := pm_Ex 1 12125 ie_X12_drives.1 pm_rU lf a) (List.forall_mem_cons.mpr ⟨pu_X12_drives_46 _ (fun c0 c1 s l x y h => pg_X12_drives_46 hT c0 c1 s l x y _ h), (List.forall_mem_cons.mpr ⟨pu_X12_drives_57 _ (fun  s l x y h => pg_X12_drives_57 hT  s l x y _ h), (fun _ h => by cases h)⟩)⟩))
abbrev ph_X12_drives {A : Type} : List pj_V → pj_Z → (List pj_V → pj_Z → Option A) → Option A := fun st z K => pj_pr st 124 0 fun st => pj_ps st (pj_b (pf_X12_drives  z.1 z.2.1 z.2.2.1 z.2.2.2) fun r s l x y => K st (s, l, x, y))
set_option maxRecDepth 100000 in
theorem pc_X12_drives {A : Type} {OK : A → Option Value → mj_M → Prop} {d j pc ix : Nat} {Y : mj_Y} {lf : pj_Z → mj_M} (hT : pj_Lt pj_TR lf) (hd : 2 ≤ d) (hl : mj_lk Y.2.2.2.2 pc = some (.invokevirtual ix, 3)) (hg : mj_pG ic_P j ix = some (12125, 0, some 12)) {lv : List (Nat × Value)} {st : List pj_V} {z : pj_Z} {K : List pj_V → pj_Z → Option A} {a : A} (hK : ∀ st z, K st z = some a → pj_Gd ic_P (mj_R ic_P d) j Y OK lf (pc + 3) lv (pj_es st) z a) (h : ph_X12_drives st z K = some a) : pj_Gd ic_P (mj_R ic_P d) j Y OK lf pc lv (pj_es st) z a := by
  obtain ⟨r0, e0, h⟩ := pj_pr_inv h
  obtain ⟨hs, h⟩ := pj_ps_inv h
  obtain ⟨q, hq, h⟩ := pj_b_inv h
  exact pm_cv (o := 124) hl hg [] rfl (by rw [e0]; rfl) hs (by decide) ((hT.2 124 _ rfl).1.2 z 0 (by decide)) (pm_rU q.1) hd (pm_X12_drives hT  z.1 z.2.1 z.2.2.1 z.2.2.2 q hq) rfl (hK _ _ h)

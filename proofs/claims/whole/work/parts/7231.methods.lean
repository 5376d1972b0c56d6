/-! METHODS 31, printed by gen_meth.py -/
abbrev pe_X12_car_25 (f : Int32 → Int32 → Int32 → pj_F (Int32 × pj_Z)) : pj_K (Int32 × pj_Z) := fun lv st z => pj_xr lv 0 124 0 <| pj_xi lv 1 fun a1 => pj_xi lv 2 fun a2 => pj_pi st fun b0 st => pj_pe st (f a1 a2 b0 z.1 z.2.1 z.2.2.1 z.2.2.2)
abbrev pe_X12_car_50 (f : Int32 → Int32 → Int32 → pj_F (Int32 × pj_Z)) : pj_K (Int32 × pj_Z) := fun lv st z => pj_xr lv 0 124 0 <| pj_xi lv 1 fun a1 => pj_xi lv 2 fun a2 => pj_pi st fun b1 st => pj_pr st 124 0 fun st => pj_pe st (f a1 a2 b1 z.1 z.2.1 z.2.2.1 z.2.2.2)
abbrev pe_X12_car_77 (f : Int32 → Int32 → Int32 → pj_F (Int32 × pj_Z)) : pj_K (Int32 × pj_Z) := fun lv st z => pj_xr lv 0 124 0 <| pj_xi lv 1 fun a1 => pj_xi lv 2 fun a2 => pj_pi st fun b0 st => pj_pe st (f a1 a2 b0 z.1 z.2.1 z.2.2.1 z.2.2.2)
abbrev pe_X12_car_92 (f : Int32 → Int32 → Int32 → Int32 → pj_F (Int32 × pj_Z)) : pj_K (Int32 × pj_Z) := fun lv st z => pj_xr lv 0 124 0 <| pj_xi lv 1 fun a1 => pj_xi lv 2 fun a2 => pj_xi lv 4 fun a4 => pj_pi st fun b1 st => pj_pr st 124 0 fun st => pj_pe st (f a1 a2 a4 b1 z.1 z.2.1 z.2.2.1 z.2.2.2)
abbrev pe_X12_car_109 (f : Int32 → Int32 → pj_F (Int32 × pj_Z)) : pj_K (Int32 × pj_Z) := fun lv st z => pj_xi lv 4 fun a4 => pj_pi st fun b1 st => pj_pr st 124 0 fun st => pj_pe st (f a4 b1 z.1 z.2.1 z.2.2.1 z.2.2.2)
abbrev px_X12_car : pj_C (Int32 × pj_Z) := ((pj_as [(124, 12, 195, 1, 0, true, 0, [(1, 1), (2, 125), (2, 126), (2, 127), (2, 128), (2, 129), (2, 130), (2, 131), (2, 132), (2, 133), (1, 2), (0, 44), (2, 134), (2, 135), (2, 136), (2, 137), (2, 138), (0, 69), (2, 139), (2, 140), (2, 141), (1, 3), (0, 93), (0, 94), (0, 45), (0, 46), (0, 48), (0, 49), (0, 47), (0, 50), (0, 51), (2, 142), (2, 143), (2, 144), (0, 19), (1, 4), (1, 5), (1, 6), (0, 20), (0, 21), (0, 22), (0, 23), (0, 24), (0, 25), (0, 27), (0, 28), (1, 7), (1, 8), (1, 9), (1, 10), (1, 11), (0, 26), (2, 145), (2, 146), (2, 147), (2, 148), (2, 149), (2, 150), (2, 151), (2, 152), (2, 153), (2, 154), (2, 155), (2, 156), (2, 157), (2, 158), (2, 159), (0, 57), (0, 58), (0, 59), (0, 60), (2, 160), (2, 161), (2, 162), (2, 163), (1, 12), (1, 13), (0, 95), (0, 73), (0, 74), (0, 71), (0, 72), (0, 75), (0, 76), (0, 77), (0, 80), (0, 78), (0, 79), (1, 14), (0, 29), (0, 30), (0, 31), (0, 34), (0, 35), (0, 32), (0, 33), (0, 36), (0, 37), (0, 38), (0, 39), (0, 40), (1, 15), (1, 16), (0, 43), (0, 41), (0, 42), (2, 164), (0, 96), (0, 89), (0, 90), (0, 91), (0, 92), (2, 165), (2, 166), (2, 167), (2, 168), (2, 169), (2, 170), (2, 171), (2, 172), (0, 87), (2, 173), (0, 88), (2, 174), (0, 62), (1, 17), (0, 66), (0, 63), (0, 64), (0, 65), (0, 67), (1, 18), (0, 68), (2, 175), (1, 19), (0, 52), (0, 53), (0, 54), (0, 55), (2, 176), (0, 56), (0, 85), (0, 86), (0, 81), (0, 82), (0, 83), (0, 84), (2, 177), (2, 178), (2, 179), (1, 20), (2, 180), (0, 6), (0, 7), (0, 8), (0, 16), (0, 17), (0, 61), (0, 9), (0, 10), (1, 21), (1, 22), (0, 11), (0, 12), (0, 13), (0, 18), (0, 14), (0, 15), (2, 181), (0, 70), (1, 23), (2, 182), (2, 183), (0, 1), (1, 24), (2, 184), (2, 185), (1, 25), (0, 2), (2, 186), (2, 187), (1, 26), (2, 188), (2, 189), (1, 27), (1, 28), (2, 190), (2, 191), (1, 29), (0, 3), (2, 192), (0, 4), (0, 5), (1, 30), (2, 193)])]), (pj_as [(259, 12, 0, 0, false), (984, 12, 136, 0, false), (990, 12, 135, 0, false)]), (fun _ => none), (pj_as [(935, 30000), (980, 6)]), (fun _ => none), ic_X, 5, 1, pj_mI, (pj_as [(10, ph_X12_isIn), (22, ph_X12_isIn), (31, ph_X12_isIn)]), fun _ => false)
abbrev pk_X12_car : List (Nat × List (Nat × Instr × Nat)) := [(0, [(0, .iload_n 1, 1), (1, .ifCond .ne 15, 3)]), (4, [(4, .iload_n 2, 1), (5, .i2l, 1), (6, .lconst 0, 1), (7, .ldc2_w 935, 3), (10, .invokestatic 568, 3), (13, .goto 12, 3)]), (16, [(16, .iload_n 2, 1), (17, .i2l, 1), (18, .lconst 0, 1), (19, .ldc2_w 980, 3), (22, .invokestatic 568, 3)]), (25, [(25, .istore_n 3, 1), (26, .aload_n 0, 1), (27, .iload_n 1, 1), (28, .i2l, 1), (29, .lconst 0, 1), (30, .lconst 1, 1), (31, .invokestatic 568, 3), (34, .ifCond .ne 7, 3)]), (37, [(37, .iconst 1, 1), (38, .goto 12, 3)]), (41, [(41, .iload_n 3, 1), (42, .ifCond .ne 7, 3)]), (45, [(45, .iconst 2, 1), (46, .goto 4, 3)]), (49, [(49, .iconst 0, 1)]), (50, [(50, .putfield 259, 3), (53, .aload_n 0, 1), (54, .getfield 259, 3), (57, .ifCond .le 5, 3)]), (60, [(60, .iconst 0, 1), (61, .ireturn, 1)]), (62, [(62, .iload_n 1, 1), (63, .ifCond .ne 10, 3)]), (66, [(66, .aload_n 0, 1), (67, .getfield 990, 3), (70, .goto 7, 3)]), (73, [(73, .aload_n 0, 1), (74, .getfield 984, 3)]), (77, [(77, .istore 4, 2), (79, .aload_n 0, 1), (80, .iload_n 1, 1), (81, .ifCond .ne 7, 3)]), (84, [(84, .iload_n 2, 1), (85, .goto 7, 3)]), (88, [(88, .aload_n 0, 1), (89, .getfield 990, 3)]), (92, [(92, .putfield 990, 3), (95, .aload_n 0, 1), (96, .iload_n 1, 1), (97, .iconst 1, 1), (98, .if_icmp .ne 7, 3)]), (101, [(101, .iload_n 2, 1), (102, .goto 7, 3)]), (105, [(105, .aload_n 0, 1), (106, .getfield 984, 3)]), (109, [(109, .putfield 984, 3), (112, .iload 4, 2), (114, .ireturn, 1)])]
set_option maxRecDepth 100000 in
theorem pq_X12_car_109  (a4 : Int32) (b1 : Int32) (s : Nat → Int32) (l : Nat → Int64) (x : Nat → Int32) (y : Nat → Int64) : pl_X12_car_109 a4 b1 s l x y = pj_bl px_X12_car (pj_rn px_X12_car (pj_as pk_X12_car) (fun _ => none) 60) [(109, .putfield 984, 3), (112, .iload 4, 2), (114, .ireturn, 1)] 109 [(4, pj_I a4)] [pj_I b1, pj_O (124, 0)] (s, l, x, y) := rfl
set_option maxRecDepth 100000 in
theorem pq_X12_car_92  (a1 : Int32) (a2 : Int32) (a4 : Int32) (b1 : Int32) (s : Nat → Int32) (l : Nat → Int64) (x : Nat → Int32) (y : Nat → Int64) : pl_X12_car_92 a1 a2 a4 b1 s l x y = pj_bl px_X12_car (pj_rn px_X12_car (pj_as pk_X12_car) (pj_as [(109, pe_X12_car_109 (pl_X12_car_109))]) 60) [(92, .putfield 990, 3), (95, .aload_n 0, 1), (96, .iload_n 1, 1), (97, .iconst 1, 1), (98, .if_icmp .ne 7, 3)] 92 [(0, pj_O (124, 0)), (1, pj_I a1), (2, pj_I a2), (4, pj_I a4)] [pj_I b1, pj_O (124, 0)] (s, l, x, y) := rfl
set_option maxRecDepth 100000 in
theorem pq_X12_car_77  (a1 : Int32) (a2 : Int32) (b0 : Int32) (s : Nat → Int32) (l : Nat → Int64) (x : Nat → Int32) (y : Nat → Int64) : pl_X12_car_77 a1 a2 b0 s l x y = pj_bl px_X12_car (pj_rn px_X12_car (pj_as pk_X12_car) (pj_as [(92, pe_X12_car_92 (pl_X12_car_92))]) 60) [(77, .istore 4, 2), (79, .aload_n 0, 1), (80, .iload_n 1, 1), (81, .ifCond .ne 7, 3)] 77 [(0, pj_O (124, 0)), (1, pj_I a1), (2, pj_I a2)] [pj_I b0] (s, l, x, y) := rfl
set_option maxRecDepth 100000 in
theorem pq_X12_car_50  (a1 : Int32) (a2 : Int32) (b1 : Int32) (s : Nat → Int32) (l : Nat → Int64) (x : Nat → Int32) (y : Nat → Int64) : pl_X12_car_50 a1 a2 b1 s l x y = pj_bl px_X12_car (pj_rn px_X12_car (pj_as pk_X12_car) (pj_as [(77, pe_X12_car_77 (pl_X12_car_77))]) 60) [(50, .putfield 259, 3), (53, .aload_n 0, 1), (54, .getfield 259, 3), (57, .ifCond .le 5, 3)] 50 [(0, pj_O (124, 0)), (1, pj_I a1), (2, pj_I a2)] [pj_I b1, pj_O (124, 0)] (s, l, x, y) := rfl
set_option maxRecDepth 100000 in
theorem pq_X12_car_25  (a1 : Int32) (a2 : Int32) (b0 : Int32) (s : Nat → Int32) (l : Nat → Int64) (x : Nat → Int32) (y : Nat → Int64) : pl_X12_car_25 a1 a2 b0 s l x y = pj_bl px_X12_car (pj_rn px_X12_car (pj_as pk_X12_car) (pj_as [(50, pe_X12_car_50 (pl_X12_car_50))]) 60) [(25, .istore_n 3, 1), (26, .aload_n 0, 1), (27, .iload_n 1, 1), (28, .i2l, 1), (29, .lconst 0, 1), (30, .lconst 1, 1), (31, .invokestatic 568, 3), (34, .ifCond .ne 7, 3)] 25 [(0, pj_O (124, 0)), (1, pj_I a1), (2, pj_I a2)] [pj_I b0] (s, l, x, y) := rfl
set_option maxRecDepth 100000 in
theorem pq_X12_car_m  (a1 : Int32) (a2 : Int32) (s : Nat → Int32) (l : Nat → Int64) (x : Nat → Int32) (y : Nat → Int64) : pf_X12_car a1 a2 s l x y = pj_bl px_X12_car (pj_rn px_X12_car (pj_as pk_X12_car) (pj_as [(25, pe_X12_car_25 (pl_X12_car_25))]) 60) [(0, .iload_n 1, 1), (1, .ifCond .ne 15, 3)] 0 [(0, pj_O (124, 0)), (1, pj_I a1), (2, pj_I a2)] [] (s, l, x, y) := rfl
theorem pu_X12_car_25 {lf : pj_Z → mj_M} {a : Int32 × pj_Z} (f : Int32 → Int32 → Int32 → pj_F (Int32 × pj_Z)) (hf : ∀ (a1 : Int32) (a2 : Int32) (b0 : Int32) (s : Nat → Int32) (l : Nat → Int64) (x : Nat → Int32) (y : Nat → Int64), f a1 a2 b0 s l x y = some a → pm_Gd 1 12129 ie_X12_car.1 pm_rI lf 25 [(0, .ref 124), (1, .int a1), (2, .int a2)] [.int b0] (s, l, x, y) a) : pm_Ex 1 12129 ie_X12_car.1 pm_rI lf a 25 (pe_X12_car_25 f) := by
  intro lv st z hd h
  obtain ⟨g0, h⟩ := pj_xr_inv h
  obtain ⟨a1, g1, h⟩ := pj_xi_inv h
  obtain ⟨a2, g2, h⟩ := pj_xi_inv h
  obtain ⟨b0, r0, e0, h⟩ := pj_pi_inv h
  obtain ⟨e9, h⟩ := pj_pe_inv h
  rw [e0, e9]
  exact mj_wp_sub (mj_sub_cons g0 (mj_sub_cons g1 (mj_sub_cons g2 (mj_sub_nil hd)))) (hf _ _ _ _ _ _ _ h)
theorem pu_X12_car_50 {lf : pj_Z → mj_M} {a : Int32 × pj_Z} (f : Int32 → Int32 → Int32 → pj_F (Int32 × pj_Z)) (hf : ∀ (a1 : Int32) (a2 : Int32) (b1 : Int32) (s : Nat → Int32) (l : Nat → Int64) (x : Nat → Int32) (y : Nat → Int64), f a1 a2 b1 s l x y = some a → pm_Gd 1 12129 ie_X12_car.1 pm_rI lf 50 [(0, .ref 124), (1, .int a1), (2, .int a2)] [.int b1, .ref 124] (s, l, x, y) a) : pm_Ex 1 12129 ie_X12_car.1 pm_rI lf a 50 (pe_X12_car_50 f) := by
  intro lv st z hd h
  obtain ⟨g0, h⟩ := pj_xr_inv h
  obtain ⟨a1, g1, h⟩ := pj_xi_inv h
  obtain ⟨a2, g2, h⟩ := pj_xi_inv h
  obtain ⟨b1, r1, e1, h⟩ := pj_pi_inv h
  obtain ⟨r0, e0, h⟩ := pj_pr_inv h
  obtain ⟨e9, h⟩ := pj_pe_inv h
  rw [e1, e0, e9]
  exact mj_wp_sub (mj_sub_cons g0 (mj_sub_cons g1 (mj_sub_cons g2 (mj_sub_nil hd)))) (hf _ _ _ _ _ _ _ h)
theorem pu_X12_car_77 {lf : pj_Z → mj_M} {a : Int32 × pj_Z} (f : Int32 → Int32 → Int32 → pj_F (Int32 × pj_Z)) (hf : ∀ (a1 : Int32) (a2 : Int32) (b0 : Int32) (s : Nat → Int32) (l : Nat → Int64) (x : Nat → Int32) (y : Nat → Int64), f a1 a2 b0 s l x y = some a → pm_Gd 1 12129 ie_X12_car.1 pm_rI lf 77 [(0, .ref 124), (1, .int a1), (2, .int a2)] [.int b0] (s, l, x, y) a) : pm_Ex 1 12129 ie_X12_car.1 pm_rI lf a 77 (pe_X12_car_77 f) := by
  intro lv st z hd h
  obtain ⟨g0, h⟩ := pj_xr_inv h
  obtain ⟨a1, g1, h⟩ := pj_xi_inv h
  obtain ⟨a2, g2, h⟩ := pj_xi_inv h
  obtain ⟨b0, r0, e0, h⟩ := pj_pi_inv h
  obtain ⟨e9, h⟩ := pj_pe_inv h
  rw [e0, e9]
  exact mj_wp_sub (mj_sub_cons g0 (mj_sub_cons g1 (mj_sub_cons g2 (mj_sub_nil hd)))) (hf _ _ _ _ _ _ _ h)
theorem pu_X12_car_92 {lf : pj_Z → mj_M} {a : Int32 × pj_Z} (f : Int32 → Int32 → Int32 → Int32 → pj_F (Int32 × pj_Z)) (hf : ∀ (a1 : Int32) (a2 : Int32) (a4 : Int32) (b1 : Int32) (s : Nat → Int32) (l : Nat → Int64) (x : Nat → Int32) (y : Nat → Int64), f a1 a2 a4 b1 s l x y = some a → pm_Gd 1 12129 ie_X12_car.1 pm_rI lf 92 [(0, .ref 124), (1, .int a1), (2, .int a2), (4, .int a4)] [.int b1, .ref 124] (s, l, x, y) a) : pm_Ex 1 12129 ie_X12_car.1 pm_rI lf a 92 (pe_X12_car_92 f) := by
  intro lv st z hd h
  obtain ⟨g0, h⟩ := pj_xr_inv h
  obtain ⟨a1, g1, h⟩ := pj_xi_inv h
  obtain ⟨a2, g2, h⟩ := pj_xi_inv h
  obtain ⟨a4, g4, h⟩ := pj_xi_inv h
  obtain ⟨b1, r1, e1, h⟩ := pj_pi_inv h
  obtain ⟨r0, e0, h⟩ := pj_pr_inv h
  obtain ⟨e9, h⟩ := pj_pe_inv h
  rw [e1, e0, e9]
  exact mj_wp_sub (mj_sub_cons g0 (mj_sub_cons g1 (mj_sub_cons g2 (mj_sub_cons g4 (mj_sub_nil hd))))) (hf _ _ _ _ _ _ _ _ h)
theorem pu_X12_car_109 {lf : pj_Z → mj_M} {a : Int32 × pj_Z} (f : Int32 → Int32 → pj_F (Int32 × pj_Z)) (hf : ∀ (a4 : Int32) (b1 : Int32) (s : Nat → Int32) (l : Nat → Int64) (x : Nat → Int32) (y : Nat → Int64), f a4 b1 s l x y = some a → pm_Gd 1 12129 ie_X12_car.1 pm_rI lf 109 [(4, .int a4)] [.int b1, .ref 124] (s, l, x, y) a) : pm_Ex 1 12129 ie_X12_car.1 pm_rI lf a 109 (pe_X12_car_109 f) := by
  intro lv st z hd h
  obtain ⟨a4, g4, h⟩ := pj_xi_inv h
  obtain ⟨b1, r1, e1, h⟩ := pj_pi_inv h
  obtain ⟨r0, e0, h⟩ := pj_pr_inv h
  obtain ⟨e9, h⟩ := pj_pe_inv h
  rw [e1, e0, e9]
  exact mj_wp_sub (mj_sub_cons g4 (mj_sub_nil hd)) (hf _ _ _ _ _ _ h)
set_option maxRecDepth 100000 in
theorem pz_X12_car {lf : pj_Z → mj_M} (hT : pj_Lt pj_TR lf) : pj_Cok ic_P (mj_R ic_P 1) 12129 ie_X12_car.1 (pm_OK lf pm_rI) lf px_X12_car := by
  exact pm_cok (c := px_X12_car) (pm_part hT (pj_as_all (p := fun b e => pj_TR b = some e) (List.forall_mem_cons.mpr ⟨rfl, (fun _ h => by cases h)⟩))) (pm_in_ok (L := [(259, 12, 0, 0, false), (984, 12, 136, 0, false), (990, 12, 135, 0, false)]) (f := mj_pF ic_P 12129) (by decide +kernel)) (fun _ _ h => by cases h) (pm_inL_ok (L := [(935, 30000), (980, 6)]) (f := mj_pL ic_P 12129) (by decide +kernel)) (fun _ _ h => by cases h) rfl rfl ⟨by decide, rfl⟩ pm_mI (pj_as_all (p := pm_Cl 1 12129 ie_X12_car.1 lf (pm_OK lf pm_rI)) (List.forall_mem_cons.mpr ⟨fun _ _ lv st z K a hK h => pc_X12_isIn hT (by decide) (ix := 568) rfl rfl hK h, (List.forall_mem_cons.mpr ⟨fun _ _ lv st z K a hK h => pc_X12_isIn hT (by decide) (ix := 568) rfl rfl hK h, (List.forall_mem_cons.mpr ⟨fun _ _ lv st z K a hK h => pc_X12_isIn hT (by decide) (ix := 568) rfl rfl hK h, (fun _ h => by cases h)⟩)⟩)⟩)) (fun _ h => by cases h)
set_option maxRecDepth 100000 in
theorem pb_X12_car : pm_bks ie_X12_car.1.2.2.2.2 pk_X12_car = true := by decide +kernel
set_option maxRecDepth 100000 in
theorem pg_X12_car_109 {lf : pj_Z → mj_M} (hT : pj_Lt pj_TR lf) : ∀ (a4 : Int32) (b1 : Int32) (s : Nat → Int32) (l : Nat → Int64) (x : Nat → Int32) (y : Nat → Int64) (a : Int32 × pj_Z), pl_X12_car_109 a4 b1 s l x y = some a → pm_Gd 1 12129 ie_X12_car.1 pm_rI lf 109 [(4, .int a4)] [.int b1, .ref 124] (s, l, x, y) a := by
  intro a4 b1 s l x y a h
  exact pm_run ((pq_X12_car_109  a4 b1 s l x y).symm.trans h) (pz_X12_car hT) (pm_bks_ok pb_X12_car) (pm_bks_ok pb_X12_car _ _ rfl) (pm_ndb_ok rfl) (fun _ _ h => by cases h)
set_option maxRecDepth 100000 in
theorem pg_X12_car_92 {lf : pj_Z → mj_M} (hT : pj_Lt pj_TR lf) : ∀ (a1 : Int32) (a2 : Int32) (a4 : Int32) (b1 : Int32) (s : Nat → Int32) (l : Nat → Int64) (x : Nat → Int32) (y : Nat → Int64) (a : Int32 × pj_Z), pl_X12_car_92 a1 a2 a4 b1 s l x y = some a → pm_Gd 1 12129 ie_X12_car.1 pm_rI lf 92 [(0, .ref 124), (1, .int a1), (2, .int a2), (4, .int a4)] [.int b1, .ref 124] (s, l, x, y) a := by
  intro a1 a2 a4 b1 s l x y a h
  exact pm_run ((pq_X12_car_92  a1 a2 a4 b1 s l x y).symm.trans h) (pz_X12_car hT) (pm_bks_ok pb_X12_car) (pm_bks_ok pb_X12_car _ _ rfl) (pm_ndb_ok rfl) (pj_as_all (p := pm_Ex 1 12129 ie_X12_car.1 pm_rI lf a) (List.forall_mem_cons.mpr ⟨pu_X12_car_109 _ (fun c0 c1 s l x y h => pg_X12_car_109 hT c0 c1 s l x y _ h), (fun _ h => by cases h)⟩))
set_option maxRecDepth 100000 in
theorem pg_X12_car_77 {lf : pj_Z → mj_M} (hT : pj_Lt pj_TR lf) : ∀ (a1 : Int32) (a2 : Int32) (b0 : Int32) (s : Nat → Int32) (l : Nat → Int64) (x : Nat → Int32) (y : Nat → Int64) (a : Int32 × pj_Z), pl_X12_car_77 a1 a2 b0 s l x y = some a → pm_Gd 1 12129 ie_X12_car.1 pm_rI lf 77 [(0, .ref 124), (1, .int a1), (2, .int a2)] [.int b0] (s, l, x, y) a := by
  intro a1 a2 b0 s l x y a h
  exact pm_run ((pq_X12_car_77  a1 a2 b0 s l x y).symm.trans h) (pz_X12_car hT) (pm_bks_ok pb_X12_car) (pm_bks_ok pb_X12_car _ _ rfl) (pm_ndb_ok rfl) (pj_as_all (p := pm_Ex 1 12129 ie_X12_car.1 pm_rI lf a) (List.forall_mem_cons.mpr ⟨pu_X12_car_92 _ (fun c0 c1 c2 c3 s l x y h => pg_X12_car_92 hT c0 c1 c2 c3 s l x y _ h), (fun _ h => by cases h)⟩))
set_option maxRecDepth 100000 in
theorem pg_X12_car_50 {lf : pj_Z → mj_M} (hT : pj_Lt pj_TR lf) : ∀ (a1 : Int32) (a2 : Int32) (b1 : Int32) (s : Nat → Int32) (l : Nat → Int64) (x : Nat → Int32) (y : Nat → Int64) (a : Int32 × pj_Z), pl_X12_car_50 a1 a2 b1 s l x y = some a → pm_Gd 1 12129 ie_X12_car.1 pm_rI lf 50 [(0, .ref 124), (1, .int a1), (2, .int a2)] [.int b1, .ref 124] (s, l, x, y) a := by
  intro a1 a2 b1 s l x y a h
  exact pm_run ((pq_X12_car_50  a1 a2 b1 s l x y).symm.trans h) (pz_X12_car hT) (pm_bks_ok pb_X12_car) (pm_bks_ok pb_X12_car _ _ rfl) (pm_ndb_ok rfl) (pj_as_all (p := pm_Ex 1 12129 ie_X12_car.1 pm_rI lf a) (List.forall_mem_cons.mpr ⟨pu_X12_car_77 _ (fun c0 c1 c2 s l x y h => pg_X12_car_77 hT c0 c1 c2 s l x y _ h), (fun _ h => by cases h)⟩))
set_option maxRecDepth 100000 in
theorem pg_X12_car_25 {lf : pj_Z → mj_M} (hT : pj_Lt pj_TR lf) : ∀ (a1 : Int32) (a2 : Int32) (b0 : Int32) (s : Nat → Int32) (l : Nat → Int64) (x : Nat → Int32) (y : Nat → Int64) (a : Int32 × pj_Z), pl_X12_car_25 a1 a2 b0 s l x y = some a → pm_Gd 1 12129 ie_X12_car.1 pm_rI lf 25 [(0, .ref 124), (1, .int a1), (2, .int a2)] [.int b0] (s, l, x, y) a := by
  intro a1 a2 b0 s l x y a h
  exact pm_run ((pq_X12_car_25  a1 a2 b0 s l x y).symm.trans h) (pz_X12_car hT) (pm_bks_ok pb_X12_car) (pm_bks_ok pb_X12_car _ _ rfl) (pm_ndb_ok rfl) (pj_as_all (p := pm_Ex 1 12129 ie_X12_car.1 pm_rI lf a) (List.forall_mem_cons.mpr ⟨pu_X12_car_50 _ (fun c0 c1 c2 s l x y h => pg_X12_car_50 hT c0 c1 c2 s l x y _ h), (fun _ h => by cases h)⟩))
set_option maxRecDepth 100000 in
theorem pm_X12_car {lf : pj_Z → mj_M} (hT : pj_Lt pj_TR lf) (a1 : Int32) (a2 : Int32) (s : Nat → Int32) (l : Nat → Int64) (x : Nat → Int32) (y : Nat → Int64) (a : Int32 × pj_Z) (h : pf_X12_car a1 a2 s l x y = some a) : mj_R ic_P 2 12129 [.ref 124, .int a1, .int a2] (lf (s, l, x, y)) (pm_rI a.1) (lf a.2) := by
  refine pm_main (Y := ie_X12_car.1) rfl (Nat.le_of_ble_eq_true rfl) ?_
  exact pm_run ((pq_X12_car_m a1 a2 s l x y).symm.trans h) (pz_X12_car hT) (pm_bks_ok pb_X12_car) (pm_bks_ok pb_X12_car _ _ rfl) (pm_ndb_ok rfl) (pj_as_all (p := pm_Ex 1 12129 ie_X12_car.1 pm_rI lf a) (List.forall_mem_cons.mpr ⟨pu_X12_car_25 _ (fun c0 c1 c2 s l x y h => pg_X12_car_25 hT c0 c1 c2 s l x y _ h), (fun _ h => by cases h)⟩))
abbrev ph_X12_car {A : Type} : List pj_V → pj_Z → (List pj_V → pj_Z → Option A) → Option A := fun st z K => pj_pi st fun a2 st => pj_pi st fun a1 st => pj_pr st 124 0 fun st => pj_ps st (pj_b (pf_X12_car a1 a2 z.1 z.2.1 z.2.2.1 z.2.2.2) fun r s l x y => K (pj_I r :: st) (s, l, x, y))
set_option maxRecDepth 100000 in
theorem pc_X12_car {A : Type} {OK : A → Option Value → mj_M → Prop} {d j pc ix : Nat} {Y : mj_Y} {lf : pj_Z → mj_M} (hT : pj_Lt pj_TR lf) (hd : 2 ≤ d) (hl : mj_lk Y.2.2.2.2 pc = some (.invokevirtual ix, 3)) (hg : mj_pG ic_P j ix = some (12129, 2, some 12)) {lv : List (Nat × Value)} {st : List pj_V} {z : pj_Z} {K : List pj_V → pj_Z → Option A} {a : A} (hK : ∀ st z, K st z = some a → pj_Gd ic_P (mj_R ic_P d) j Y OK lf (pc + 3) lv (pj_es st) z a) (h : ph_X12_car st z K = some a) : pj_Gd ic_P (mj_R ic_P d) j Y OK lf pc lv (pj_es st) z a := by
  obtain ⟨a2, r2, e2, h⟩ := pj_pi_inv h
  obtain ⟨a1, r1, e1, h⟩ := pj_pi_inv h
  obtain ⟨r0, e0, h⟩ := pj_pr_inv h
  obtain ⟨hs, h⟩ := pj_ps_inv h
  obtain ⟨q, hq, h⟩ := pj_b_inv h
  exact pm_cv (o := 124) hl hg [.int a1, .int a2] rfl (by rw [e2, e1, e0]; rfl) hs (by decide) ((hT.2 124 _ rfl).1.2 z 0 (by decide)) (pm_rI q.1) hd (pm_X12_car hT a1 a2 z.1 z.2.1 z.2.2.1 z.2.2.2 q hq) rfl (hK _ _ h)
abbrev pe_X12_brake_16 (f : Int32 → Int32 → Int32 → pj_F (Int32 × pj_Z)) : pj_K (Int32 × pj_Z) := fun lv st z => pj_xr lv 0 124 0 <| pj_xi lv 1 fun a1 => pj_xi lv 2 fun a2 => pj_pi st fun b1 st => pj_pr st 124 0 fun st => pj_pe st (f a1 a2 b1 z.1 z.2.1 z.2.2.1 z.2.2.2)
abbrev pe_X12_brake_42 (f : Int32 → Int32 → pj_F (Int32 × pj_Z)) : pj_K (Int32 × pj_Z) := fun lv st z => pj_xi lv 2 fun a2 => pj_xi lv 3 fun a3 => pj_pe st (f a2 a3 z.1 z.2.1 z.2.2.1 z.2.2.2)
abbrev px_X12_brake : pj_C (Int32 × pj_Z) := ((pj_as [(124, 12, 195, 1, 0, true, 0, [(1, 1), (2, 125), (2, 126), (2, 127), (2, 128), (2, 129), (2, 130), (2, 131), (2, 132), (2, 133), (1, 2), (0, 44), (2, 134), (2, 135), (2, 136), (2, 137), (2, 138), (0, 69), (2, 139), (2, 140), (2, 141), (1, 3), (0, 93), (0, 94), (0, 45), (0, 46), (0, 48), (0, 49), (0, 47), (0, 50), (0, 51), (2, 142), (2, 143), (2, 144), (0, 19), (1, 4), (1, 5), (1, 6), (0, 20), (0, 21), (0, 22), (0, 23), (0, 24), (0, 25), (0, 27), (0, 28), (1, 7), (1, 8), (1, 9), (1, 10), (1, 11), (0, 26), (2, 145), (2, 146), (2, 147), (2, 148), (2, 149), (2, 150), (2, 151), (2, 152), (2, 153), (2, 154), (2, 155), (2, 156), (2, 157), (2, 158), (2, 159), (0, 57), (0, 58), (0, 59), (0, 60), (2, 160), (2, 161), (2, 162), (2, 163), (1, 12), (1, 13), (0, 95), (0, 73), (0, 74), (0, 71), (0, 72), (0, 75), (0, 76), (0, 77), (0, 80), (0, 78), (0, 79), (1, 14), (0, 29), (0, 30), (0, 31), (0, 34), (0, 35), (0, 32), (0, 33), (0, 36), (0, 37), (0, 38), (0, 39), (0, 40), (1, 15), (1, 16), (0, 43), (0, 41), (0, 42), (2, 164), (0, 96), (0, 89), (0, 90), (0, 91), (0, 92), (2, 165), (2, 166), (2, 167), (2, 168), (2, 169), (2, 170), (2, 171), (2, 172), (0, 87), (2, 173), (0, 88), (2, 174), (0, 62), (1, 17), (0, 66), (0, 63), (0, 64), (0, 65), (0, 67), (1, 18), (0, 68), (2, 175), (1, 19), (0, 52), (0, 53), (0, 54), (0, 55), (2, 176), (0, 56), (0, 85), (0, 86), (0, 81), (0, 82), (0, 83), (0, 84), (2, 177), (2, 178), (2, 179), (1, 20), (2, 180), (0, 6), (0, 7), (0, 8), (0, 16), (0, 17), (0, 61), (0, 9), (0, 10), (1, 21), (1, 22), (0, 11), (0, 12), (0, 13), (0, 18), (0, 14), (0, 15), (2, 181), (0, 70), (1, 23), (2, 182), (2, 183), (0, 1), (1, 24), (2, 184), (2, 185), (1, 25), (0, 2), (2, 186), (2, 187), (1, 26), (2, 188), (2, 189), (1, 27), (1, 28), (2, 190), (2, 191), (1, 29), (0, 3), (2, 192), (0, 4), (0, 5), (1, 30), (2, 193)]), (176, 102, 2, 1, 0, true, 15000, [])]), (pj_as [(182, 12, 139, 2, true), (259, 12, 0, 0, false)]), (fun _ => none), (fun _ => none), (fun _ => none), ic_X, 4, 2, pj_mI, (pj_as [(5, ph_X12_isIn)]), fun _ => false)
abbrev pk_X12_brake : List (Nat × List (Nat × Instr × Nat)) := [(0, [(0, .aload_n 0, 1), (1, .iload_n 1, 1), (2, .i2l, 1), (3, .lconst 0, 1), (4, .lconst 1, 1), (5, .invokestatic 568, 3), (8, .ifCond .ne 7, 3)]), (11, [(11, .iconst 1, 1), (12, .goto 4, 3)]), (15, [(15, .iconst 0, 1)]), (16, [(16, .putfield 259, 3), (19, .aload_n 0, 1), (20, .getfield 259, 3), (23, .ifCond .le 5, 3)]), (26, [(26, .iconst 0, 1), (27, .ireturn, 1)]), (28, [(28, .aload_n 0, 1), (29, .getfield 182, 3), (32, .iload_n 1, 1), (33, .baload, 1), (34, .istore_n 3, 1), (35, .aload_n 0, 1), (36, .getfield 182, 3), (39, .iload_n 1, 1), (40, .iload_n 2, 1), (41, .bastore, 1)]), (42, [(42, .iload_n 3, 1), (43, .iload_n 2, 1), (44, .if_icmp .eq 7, 3)]), (47, [(47, .iconst 1, 1), (48, .goto 4, 3)]), (51, [(51, .iconst 0, 1)]), (52, [(52, .ireturn, 1)])]
set_option maxRecDepth 100000 in
theorem pq_X12_brake_42  (a2 : Int32) (a3 : Int32) (s : Nat → Int32) (l : Nat → Int64) (x : Nat → Int32) (y : Nat → Int64) : pl_X12_brake_42 a2 a3 s l x y = pj_bl px_X12_brake (pj_rn px_X12_brake (pj_as pk_X12_brake) (fun _ => none) 60) [(42, .iload_n 3, 1), (43, .iload_n 2, 1), (44, .if_icmp .eq 7, 3)] 42 [(2, pj_I a2), (3, pj_I a3)] [] (s, l, x, y) := rfl
set_option maxRecDepth 100000 in
theorem pq_X12_brake_16  (a1 : Int32) (a2 : Int32) (b1 : Int32) (s : Nat → Int32) (l : Nat → Int64) (x : Nat → Int32) (y : Nat → Int64) : pl_X12_brake_16 a1 a2 b1 s l x y = pj_bl px_X12_brake (pj_rn px_X12_brake (pj_as pk_X12_brake) (pj_as [(42, pe_X12_brake_42 (pl_X12_brake_42))]) 60) [(16, .putfield 259, 3), (19, .aload_n 0, 1), (20, .getfield 259, 3), (23, .ifCond .le 5, 3)] 16 [(0, pj_O (124, 0)), (1, pj_I a1), (2, pj_I a2)] [pj_I b1, pj_O (124, 0)] (s, l, x, y) := rfl
set_option maxRecDepth 100000 in
theorem pq_X12_brake_m  (a1 : Int32) (a2 : Int32) (s : Nat → Int32) (l : Nat → Int64) (x : Nat → Int32) (y : Nat → Int64) : pf_X12_brake a1 a2 s l x y = pj_bl px_X12_brake (pj_rn px_X12_brake (pj_as pk_X12_brake) (pj_as [(16, pe_X12_brake_16 (pl_X12_brake_16))]) 60) [(0, .aload_n 0, 1), (1, .iload_n 1, 1), (2, .i2l, 1), (3, .lconst 0, 1), (4, .lconst 1, 1), (5, .invokestatic 568, 3), (8, .ifCond .ne 7, 3)] 0 [(0, pj_O (124, 0)), (1, pj_I a1), (2, pj_I a2)] [] (s, l, x, y) := rfl
theorem pu_X12_brake_16 {lf : pj_Z → mj_M} {a : Int32 × pj_Z} (f : Int32 → Int32 → Int32 → pj_F (Int32 × pj_Z)) (hf : ∀ (a1 : Int32) (a2 : Int32) (b1 : Int32) (s : Nat → Int32) (l : Nat → Int64) (x : Nat → Int32) (y : Nat → Int64), f a1 a2 b1 s l x y = some a → pm_Gd 1 12130 ie_X12_brake.1 pm_rI lf 16 [(0, .ref 124), (1, .int a1), (2, .int a2)] [.int b1, .ref 124] (s, l, x, y) a) : pm_Ex 1 12130 ie_X12_brake.1 pm_rI lf a 16 (pe_X12_brake_16 f) := by
  intro lv st z hd h
  obtain ⟨g0, h⟩ := pj_xr_inv h
  obtain ⟨a1, g1, h⟩ := pj_xi_inv h
  obtain ⟨a2, g2, h⟩ := pj_xi_inv h
  obtain ⟨b1, r1, e1, h⟩ := pj_pi_inv h
  obtain ⟨r0, e0, h⟩ := pj_pr_inv h
  obtain ⟨e9, h⟩ := pj_pe_inv h
  rw [e1, e0, e9]
  exact mj_wp_sub (mj_sub_cons g0 (mj_sub_cons g1 (mj_sub_cons g2 (mj_sub_nil hd)))) (hf _ _ _ _ _ _ _ h)
theorem pu_X12_brake_42 {lf : pj_Z → mj_M} {a : Int32 × pj_Z} (f : Int32 → Int32 → pj_F (Int32 × pj_Z)) (hf : ∀ (a2 : Int32) (a3 : Int32) (s : Nat → Int32) (l : Nat → Int64) (x : Nat → Int32) (y : Nat → Int64), f a2 a3 s l x y = some a → pm_Gd 1 12130 ie_X12_brake.1 pm_rI lf 42 [(2, .int a2), (3, .int a3)] [] (s, l, x, y) a) : pm_Ex 1 12130 ie_X12_brake.1 pm_rI lf a 42 (pe_X12_brake_42 f) := by
  intro lv st z hd h
  obtain ⟨a2, g2, h⟩ := pj_xi_inv h
  obtain ⟨a3, g3, h⟩ := pj_xi_inv h
  obtain ⟨e9, h⟩ := pj_pe_inv h
  rw [e9]
  exact mj_wp_sub (mj_sub_cons g2 (mj_sub_cons g3 (mj_sub_nil hd))) (hf _ _ _ _ _ _ h)
set_option maxRecDepth 100000 in
theorem pz_X12_brake {lf : pj_Z → mj_M} (hT : pj_Lt pj_TR lf) : pj_Cok ic_P (mj_R ic_P 1) 12130 ie_X12_brake.1 (pm_OK lf pm_rI) lf px_X12_brake := by
  exact pm_cok (c := px_X12_brake) (pm_part hT (pj_as_all (p := fun b e => pj_TR b = some e) (List.forall_mem_cons.mpr ⟨rfl, (List.forall_mem_cons.mpr ⟨rfl, (fun _ h => by cases h)⟩)⟩))) (pm_in_ok (L := [(182, 12, 139, 2, true), (259, 12, 0, 0, false)]) (f := mj_pF ic_P 12130) (by decide +kernel)) (fun _ _ h => by cases h) (fun _ _ h => by cases h) (fun _ _ h => by cases h) rfl rfl ⟨by decide, rfl⟩ pm_mI (pj_as_all (p := pm_Cl 1 12130 ie_X12_brake.1 lf (pm_OK lf pm_rI)) (List.forall_mem_cons.mpr ⟨fun _ _ lv st z K a hK h => pc_X12_isIn hT (by decide) (ix := 568) rfl rfl hK h, (fun _ h => by cases h)⟩)) (fun _ h => by cases h)
set_option maxRecDepth 100000 in
theorem pb_X12_brake : pm_bks ie_X12_brake.1.2.2.2.2 pk_X12_brake = true := by decide +kernel
set_option maxRecDepth 100000 in
theorem pg_X12_brake_42 {lf : pj_Z → mj_M} (hT : pj_Lt pj_TR lf) : ∀ (a2 : Int32) (a3 : Int32) (s : Nat → Int32) (l : Nat → Int64) (x : Nat → Int32) (y : Nat → Int64) (a : Int32 × pj_Z), pl_X12_brake_42 a2 a3 s l x y = some a → pm_Gd 1 12130 ie_X12_brake.1 pm_rI lf 42 [(2, .int a2), (3, .int a3)] [] (s, l, x, y) a := by
  intro a2 a3 s l x y a h
  exact pm_run ((pq_X12_brake_42  a2 a3 s l x y).symm.trans h) (pz_X12_brake hT) (pm_bks_ok pb_X12_brake) (pm_bks_ok pb_X12_brake _ _ rfl) (pm_ndb_ok rfl) (fun _ _ h => by cases h)
set_option maxRecDepth 100000 in
theorem pg_X12_brake_16 {lf : pj_Z → mj_M} (hT : pj_Lt pj_TR lf) : ∀ (a1 : Int32) (a2 : Int32) (b1 : Int32) (s : Nat → Int32) (l : Nat → Int64) (x : Nat → Int32) (y : Nat → Int64) (a : Int32 × pj_Z), pl_X12_brake_16 a1 a2 b1 s l x y = some a → pm_Gd 1 12130 ie_X12_brake.1 pm_rI lf 16 [(0, .ref 124), (1, .int a1), (2, .int a2)] [.int b1, .ref 124] (s, l, x, y) a := by
  intro a1 a2 b1 s l x y a h
  exact pm_run ((pq_X12_brake_16  a1 a2 b1 s l x y).symm.trans h) (pz_X12_brake hT) (pm_bks_ok pb_X12_brake) (pm_bks_ok pb_X12_brake _ _ rfl) (pm_ndb_ok rfl) (pj_as_all (p := pm_Ex 1 12130 ie_X12_brake.1 pm_rI lf a) (List.forall_mem_cons.mpr ⟨pu_X12_brake_42 _ (fun c0 c1 s l x y h => pg_X12_brake_42 hT c0 c1 s l x y _ h), (fun _ h => by cases h)⟩))
set_option maxRecDepth 100000 in
theorem pm_X12_brake {lf : pj_Z → mj_M} (hT : pj_Lt pj_TR lf) (a1 : Int32) (a2 : Int32) (s : Nat → Int32) (l : Nat → Int64) (x : Nat → Int32) (y : Nat → Int64) (a : Int32 × pj_Z) (h : pf_X12_brake a1 a2 s l x y = some a) : mj_R ic_P 2 12130 [.ref 124, .int a1, .int a2] (lf (s, l, x, y)) (pm_rI a.1) (lf a.2) := by
  refine pm_main (Y := ie_X12_brake.1) rfl (Nat.le_of_ble_eq_true rfl) ?_
  exact pm_run ((pq_X12_brake_m a1 a2 s l x y).symm.trans h) (pz_X12_brake hT) (pm_bks_ok pb_X12_brake) (pm_bks_ok pb_X12_brake _ _ rfl) (pm_ndb_ok rfl) (pj_as_all (p := pm_Ex 1 12130 ie_X12_brake.1 pm_rI lf a) (List.forall_mem_cons.mpr ⟨pu_X12_brake_16 _ (fun c0 c1 c2 s l x y h => pg_X12_brake_16 hT c0 c1 c2 s l x y _ h), (fun _ h => by cases h)⟩))
abbrev ph_X12_brake {A : Type} : List pj_V → pj_Z → (List pj_V → pj_Z → Option A) → Option A := fun st z K => pj_pi st fun a2 st => pj_pi st fun a1 st => pj_pr st 124 0 fun st => pj_ps st (pj_b (pf_X12_brake a1 a2 z.1 z.2.1 z.2.2.1 z.2.2.2) fun r s l x y => K (pj_I r :: st) (s, l, x, y))
set_option maxRecDepth 100000 in
theorem pc_X12_brake {A : Type} {OK : A → Option Value → mj_M → Prop} {d j pc ix : Nat} {Y : mj_Y} {lf : pj_Z → mj_M} (hT : pj_Lt pj_TR lf) (hd : 2 ≤ d) (hl : mj_lk Y.2.2.2.2 pc = some (.invokevirtual ix, 3)) (hg : mj_pG ic_P j ix = some (12130, 2, some 12)) {lv : List (Nat × Value)} {st : List pj_V} {z : pj_Z} {K : List pj_V → pj_Z → Option A} {a : A} (hK : ∀ st z, K st z = some a → pj_Gd ic_P (mj_R ic_P d) j Y OK lf (pc + 3) lv (pj_es st) z a) (h : ph_X12_brake st z K = some a) : pj_Gd ic_P (mj_R ic_P d) j Y OK lf pc lv (pj_es st) z a := by
  obtain ⟨a2, r2, e2, h⟩ := pj_pi_inv h
  obtain ⟨a1, r1, e1, h⟩ := pj_pi_inv h
  obtain ⟨r0, e0, h⟩ := pj_pr_inv h
  obtain ⟨hs, h⟩ := pj_ps_inv h
  obtain ⟨q, hq, h⟩ := pj_b_inv h
  exact pm_cv (o := 124) hl hg [.int a1, .int a2] rfl (by rw [e2, e1, e0]; rfl) hs (by decide) ((hT.2 124 _ rfl).1.2 z 0 (by decide)) (pm_rI q.1) hd (pm_X12_brake hT a1 a2 z.1 z.2.1 z.2.2.1 z.2.2.2 q hq) rfl (hK _ _ h)
abbrev pe_X12_press_18 (f : Int32 → Int32 → pj_F (Int32 × pj_Z)) : pj_K (Int32 × pj_Z) := fun lv st z => pj_xr lv 0 124 0 <| pj_xi lv 1 fun a1 => pj_pi st fun b1 st => pj_pr st 124 0 fun st => pj_pe st (f a1 b1 z.1 z.2.1 z.2.2.1 z.2.2.2)
abbrev pe_X12_press_63 (f : Int32 → pj_F (Int32 × pj_Z)) : pj_K (Int32 × pj_Z) := fun lv st z => pj_xr lv 0 124 0 <| pj_pi st fun b1 st => pj_pr st 124 0 fun st => pj_pe st (f b1 z.1 z.2.1 z.2.2.1 z.2.2.2)
abbrev pe_X12_press_79 (f : Int32 → pj_F (Int32 × pj_Z)) : pj_K (Int32 × pj_Z) := fun lv st z => pj_xr lv 0 124 0 <| pj_pi st fun b1 st => pj_pr st 124 0 fun st => pj_pe st (f b1 z.1 z.2.1 z.2.2.1 z.2.2.2)
abbrev pe_X12_press_125 (f : Int32 → pj_F (Int32 × pj_Z)) : pj_K (Int32 × pj_Z) := fun lv st z => pj_xr lv 0 124 0 <| pj_xi lv 1 fun a1 => pj_pe st (f a1 z.1 z.2.1 z.2.2.1 z.2.2.2)
abbrev pe_X12_press_165 (f : Int32 → pj_F (Int32 × pj_Z)) : pj_K (Int32 × pj_Z) := fun lv st z => pj_xr lv 0 124 0 <| pj_xi lv 1 fun a1 => pj_pe st (f a1 z.1 z.2.1 z.2.2.1 z.2.2.2)
abbrev pe_X12_press_186 (f : Int32 → pj_F (Int32 × pj_Z)) : pj_K (Int32 × pj_Z) := fun lv st z => pj_xr lv 0 124 0 <| pj_xi lv 1 fun a1 => pj_pe st (f a1 z.1 z.2.1 z.2.2.1 z.2.2.2)
abbrev pe_X12_press_226 (f : Int32 → pj_F (Int32 × pj_Z)) : pj_K (Int32 × pj_Z) := fun lv st z => pj_xr lv 0 124 0 <| pj_pi st fun b1 st => pj_pr st 124 0 fun st => pj_pe st (f b1 z.1 z.2.1 z.2.2.1 z.2.2.2)
abbrev pe_X12_press_232 (f : Int32 → pj_F (Int32 × pj_Z)) : pj_K (Int32 × pj_Z) := fun lv st z => pj_xr lv 0 124 0 <| pj_xi lv 1 fun a1 => pj_pe st (f a1 z.1 z.2.1 z.2.2.1 z.2.2.2)
abbrev pe_X12_press_272 (f : Int32 → pj_F (Int32 × pj_Z)) : pj_K (Int32 × pj_Z) := fun lv st z => pj_xr lv 0 124 0 <| pj_pi st fun b1 st => pj_pr st 124 0 fun st => pj_pe st (f b1 z.1 z.2.1 z.2.2.1 z.2.2.2)
abbrev px_X12_press : pj_C (Int32 × pj_Z) := ((pj_as [(124, 12, 195, 1, 0, true, 0, [(1, 1), (2, 125), (2, 126), (2, 127), (2, 128), (2, 129), (2, 130), (2, 131), (2, 132), (2, 133), (1, 2), (0, 44), (2, 134), (2, 135), (2, 136), (2, 137), (2, 138), (0, 69), (2, 139), (2, 140), (2, 141), (1, 3), (0, 93), (0, 94), (0, 45), (0, 46), (0, 48), (0, 49), (0, 47), (0, 50), (0, 51), (2, 142), (2, 143), (2, 144), (0, 19), (1, 4), (1, 5), (1, 6), (0, 20), (0, 21), (0, 22), (0, 23), (0, 24), (0, 25), (0, 27), (0, 28), (1, 7), (1, 8), (1, 9), (1, 10), (1, 11), (0, 26), (2, 145), (2, 146), (2, 147), (2, 148), (2, 149), (2, 150), (2, 151), (2, 152), (2, 153), (2, 154), (2, 155), (2, 156), (2, 157), (2, 158), (2, 159), (0, 57), (0, 58), (0, 59), (0, 60), (2, 160), (2, 161), (2, 162), (2, 163), (1, 12), (1, 13), (0, 95), (0, 73), (0, 74), (0, 71), (0, 72), (0, 75), (0, 76), (0, 77), (0, 80), (0, 78), (0, 79), (1, 14), (0, 29), (0, 30), (0, 31), (0, 34), (0, 35), (0, 32), (0, 33), (0, 36), (0, 37), (0, 38), (0, 39), (0, 40), (1, 15), (1, 16), (0, 43), (0, 41), (0, 42), (2, 164), (0, 96), (0, 89), (0, 90), (0, 91), (0, 92), (2, 165), (2, 166), (2, 167), (2, 168), (2, 169), (2, 170), (2, 171), (2, 172), (0, 87), (2, 173), (0, 88), (2, 174), (0, 62), (1, 17), (0, 66), (0, 63), (0, 64), (0, 65), (0, 67), (1, 18), (0, 68), (2, 175), (1, 19), (0, 52), (0, 53), (0, 54), (0, 55), (2, 176), (0, 56), (0, 85), (0, 86), (0, 81), (0, 82), (0, 83), (0, 84), (2, 177), (2, 178), (2, 179), (1, 20), (2, 180), (0, 6), (0, 7), (0, 8), (0, 16), (0, 17), (0, 61), (0, 9), (0, 10), (1, 21), (1, 22), (0, 11), (0, 12), (0, 13), (0, 18), (0, 14), (0, 15), (2, 181), (0, 70), (1, 23), (2, 182), (2, 183), (0, 1), (1, 24), (2, 184), (2, 185), (1, 25), (0, 2), (2, 186), (2, 187), (1, 26), (2, 188), (2, 189), (1, 27), (1, 28), (2, 190), (2, 191), (1, 29), (0, 3), (2, 192), (0, 4), (0, 5), (1, 30), (2, 193)])]), (pj_as [(259, 12, 0, 0, false), (363, 12, 143, 0, false), (366, 12, 144, 0, false), (369, 12, 145, 0, false), (519, 12, 23, 0, false), (990, 12, 135, 0, false)]), (fun _ => none), (pj_as [(645, 5)]), (fun _ => none), ic_X, 2, 1, pj_mI, (pj_as [(7, ph_X12_isIn), (98, ph_X12_mayHold), (146, ph_X12_mayHold)]), fun _ => false)
abbrev pk_X12_press : List (Nat × List (Nat × Instr × Nat)) := [(0, [(0, .aload_n 0, 1), (1, .iload_n 1, 1), (2, .i2l, 1), (3, .lconst 0, 1), (4, .ldc2_w 645, 3), (7, .invokestatic 568, 3), (10, .ifCond .ne 7, 3)]), (13, [(13, .iconst 1, 1), (14, .goto 4, 3)]), (17, [(17, .iconst 0, 1)]), (18, [(18, .putfield 259, 3), (21, .aload_n 0, 1), (22, .getfield 259, 3), (25, .ifCond .le 5, 3)]), (28, [(28, .iconst 0, 1), (29, .ireturn, 1)]), (30, [(30, .aload_n 0, 1), (31, .getfield 519, 3), (34, .iconst 1, 1), (35, .if_icmp .eq 8, 3)]), (38, [(38, .aload_n 0, 1), (39, .getfield 363, 3), (42, .ireturn, 1)]), (43, [(43, .iload_n 1, 1), (44, .ifCond .ne 41, 3)]), (47, [(47, .aload_n 0, 1), (48, .aload_n 0, 1), (49, .getfield 363, 3), (52, .ifCond .ne 10, 3)]), (55, [(55, .aload_n 0, 1), (56, .getfield 366, 3), (59, .goto 4, 3)]), (62, [(62, .iconst 0, 1)]), (63, [(63, .putfield 366, 3), (66, .aload_n 0, 1), (67, .aload_n 0, 1), (68, .getfield 363, 3), (71, .ifCond .ne 7, 3)]), (74, [(74, .iconst 1, 1), (75, .goto 4, 3)]), (78, [(78, .iconst 0, 1)]), (79, [(79, .putfield 363, 3), (82, .goto 193, 3)]), (85, [(85, .iload_n 1, 1), (86, .iconst 1, 1), (87, .if_icmp .ne 38, 3)]), (90, [(90, .aload_n 0, 1), (91, .getfield 363, 3), (94, .ifCond .le 31, 3)]), (97, [(97, .aload_n 0, 1), (98, .invokevirtual 1005, 3), (101, .ifCond .eq 24, 3)]), (104, [(104, .aload_n 0, 1), (105, .aload_n 0, 1), (106, .getfield 990, 3), (109, .putfield 366, 3), (112, .aload_n 0, 1), (113, .iconst 2, 1), (114, .putfield 363, 3), (117, .aload_n 0, 1), (118, .iconst 0, 1), (119, .putfield 369, 3), (122, .goto 153, 3)]), (125, [(125, .iload_n 1, 1), (126, .iconst 2, 1), (127, .if_icmp .ne 38, 3)]), (130, [(130, .aload_n 0, 1), (131, .getfield 363, 3), (134, .iconst 1, 1), (135, .if_icmp .ne 30, 3)]), (138, [(138, .aload_n 0, 1), (139, .getfield 366, 3), (142, .ifCond .le 23, 3)]), (145, [(145, .aload_n 0, 1), (146, .invokevirtual 1005, 3), (149, .ifCond .eq 16, 3)]), (152, [(152, .aload_n 0, 1), (153, .iconst 2, 1), (154, .putfield 363, 3), (157, .aload_n 0, 1), (158, .iconst 0, 1), (159, .putfield 369, 3), (162, .goto 113, 3)]), (165, [(165, .iload_n 1, 1), (166, .iconst 3, 1), (167, .if_icmp .ne 19, 3)]), (170, [(170, .aload_n 0, 1), (171, .getfield 363, 3), (174, .iconst 2, 1), (175, .if_icmp .ne 11, 3)]), (178, [(178, .aload_n 0, 1), (179, .iconst 1, 1), (180, .putfield 363, 3), (183, .goto 92, 3)]), (186, [(186, .iload_n 1, 1), (187, .iconst 4, 1), (188, .if_icmp .ne 44, 3)]), (191, [(191, .aload_n 0, 1), (192, .getfield 363, 3), (195, .iconst 2, 1), (196, .if_icmp .ne 36, 3)]), (199, [(199, .aload_n 0, 1), (200, .aload_n 0, 1), (201, .getfield 366, 3), (204, .bipush 100, 2), (206, .iadd, 1), (207, .sipush 20000, 3), (210, .if_icmp .le 9, 3)]), (213, [(213, .sipush 20000, 3), (216, .goto 10, 3)]), (219, [(219, .aload_n 0, 1), (220, .getfield 366, 3), (223, .bipush 100, 2), (225, .iadd, 1)]), (226, [(226, .putfield 366, 3), (229, .goto 46, 3)]), (232, [(232, .iload_n 1, 1), (233, .iconst 5, 1), (234, .if_icmp .ne 41, 3)]), (237, [(237, .aload_n 0, 1), (238, .getfield 363, 3), (241, .iconst 2, 1), (242, .if_icmp .ne 33, 3)]), (245, [(245, .aload_n 0, 1), (246, .aload_n 0, 1), (247, .getfield 366, 3), (250, .bipush 100, 2), (252, .isub, 1), (253, .sipush 3000, 3), (256, .if_icmp .ge 9, 3)]), (259, [(259, .sipush 3000, 3), (262, .goto 10, 3)]), (265, [(265, .aload_n 0, 1), (266, .getfield 366, 3), (269, .bipush 100, 2), (271, .isub, 1)]), (272, [(272, .putfield 366, 3)]), (275, [(275, .aload_n 0, 1), (276, .getfield 363, 3), (279, .ireturn, 1)])]
set_option maxRecDepth 100000 in
theorem pq_X12_press_79  (b1 : Int32) (s : Nat → Int32) (l : Nat → Int64) (x : Nat → Int32) (y : Nat → Int64) : pl_X12_press_79 b1 s l x y = pj_bl px_X12_press (pj_rn px_X12_press (pj_as pk_X12_press) (fun _ => none) 60) [(79, .putfield 363, 3), (82, .goto 193, 3)] 79 [(0, pj_O (124, 0))] [pj_I b1, pj_O (124, 0)] (s, l, x, y) := rfl
set_option maxRecDepth 100000 in
theorem pq_X12_press_63  (b1 : Int32) (s : Nat → Int32) (l : Nat → Int64) (x : Nat → Int32) (y : Nat → Int64) : pl_X12_press_63 b1 s l x y = pj_bl px_X12_press (pj_rn px_X12_press (pj_as pk_X12_press) (pj_as [(79, pe_X12_press_79 (pl_X12_press_79))]) 60) [(63, .putfield 366, 3), (66, .aload_n 0, 1), (67, .aload_n 0, 1), (68, .getfield 363, 3), (71, .ifCond .ne 7, 3)] 63 [(0, pj_O (124, 0))] [pj_I b1, pj_O (124, 0)] (s, l, x, y) := rfl
set_option maxRecDepth 100000 in
theorem pq_X12_press_226  (b1 : Int32) (s : Nat → Int32) (l : Nat → Int64) (x : Nat → Int32) (y : Nat → Int64) : pl_X12_press_226 b1 s l x y = pj_bl px_X12_press (pj_rn px_X12_press (pj_as pk_X12_press) (fun _ => none) 60) [(226, .putfield 366, 3), (229, .goto 46, 3)] 226 [(0, pj_O (124, 0))] [pj_I b1, pj_O (124, 0)] (s, l, x, y) := rfl
set_option maxRecDepth 100000 in
theorem pq_X12_press_272  (b1 : Int32) (s : Nat → Int32) (l : Nat → Int64) (x : Nat → Int32) (y : Nat → Int64) : pl_X12_press_272 b1 s l x y = pj_bl px_X12_press (pj_rn px_X12_press (pj_as pk_X12_press) (fun _ => none) 60) [(272, .putfield 366, 3)] 272 [(0, pj_O (124, 0))] [pj_I b1, pj_O (124, 0)] (s, l, x, y) := rfl
set_option maxRecDepth 100000 in
theorem pq_X12_press_232  (a1 : Int32) (s : Nat → Int32) (l : Nat → Int64) (x : Nat → Int32) (y : Nat → Int64) : pl_X12_press_232 a1 s l x y = pj_bl px_X12_press (pj_rn px_X12_press (pj_as pk_X12_press) (pj_as [(272, pe_X12_press_272 (pl_X12_press_272))]) 60) [(232, .iload_n 1, 1), (233, .iconst 5, 1), (234, .if_icmp .ne 41, 3)] 232 [(0, pj_O (124, 0)), (1, pj_I a1)] [] (s, l, x, y) := rfl
set_option maxRecDepth 100000 in
theorem pq_X12_press_186  (a1 : Int32) (s : Nat → Int32) (l : Nat → Int64) (x : Nat → Int32) (y : Nat → Int64) : pl_X12_press_186 a1 s l x y = pj_bl px_X12_press (pj_rn px_X12_press (pj_as pk_X12_press) (pj_as [(226, pe_X12_press_226 (pl_X12_press_226)), (232, pe_X12_press_232 (pl_X12_press_232))]) 60) [(186, .iload_n 1, 1), (187, .iconst 4, 1), (188, .if_icmp .ne 44, 3)] 186 [(0, pj_O (124, 0)), (1, pj_I a1)] [] (s, l, x, y) := rfl
set_option maxRecDepth 100000 in
theorem pq_X12_press_165  (a1 : Int32) (s : Nat → Int32) (l : Nat → Int64) (x : Nat → Int32) (y : Nat → Int64) : pl_X12_press_165 a1 s l x y = pj_bl px_X12_press (pj_rn px_X12_press (pj_as pk_X12_press) (pj_as [(186, pe_X12_press_186 (pl_X12_press_186))]) 60) [(165, .iload_n 1, 1), (166, .iconst 3, 1), (167, .if_icmp .ne 19, 3)] 165 [(0, pj_O (124, 0)), (1, pj_I a1)] [] (s, l, x, y) := rfl
set_option maxRecDepth 100000 in
theorem pq_X12_press_125  (a1 : Int32) (s : Nat → Int32) (l : Nat → Int64) (x : Nat → Int32) (y : Nat → Int64) : pl_X12_press_125 a1 s l x y = pj_bl px_X12_press (pj_rn px_X12_press (pj_as pk_X12_press) (pj_as [(165, pe_X12_press_165 (pl_X12_press_165))]) 60) [(125, .iload_n 1, 1), (126, .iconst 2, 1), (127, .if_icmp .ne 38, 3)] 125 [(0, pj_O (124, 0)), (1, pj_I a1)] [] (s, l, x, y) := rfl
set_option maxRecDepth 100000 in
theorem pq_X12_press_18  (a1 : Int32) (b1 : Int32) (s : Nat → Int32) (l : Nat → Int64) (x : Nat → Int32) (y : Nat → Int64) : pl_X12_press_18 a1 b1 s l x y = pj_bl px_X12_press (pj_rn px_X12_press (pj_as pk_X12_press) (pj_as [(63, pe_X12_press_63 (pl_X12_press_63)), (125, pe_X12_press_125 (pl_X12_press_125))]) 60) [(18, .putfield 259, 3), (21, .aload_n 0, 1), (22, .getfield 259, 3), (25, .ifCond .le 5, 3)] 18 [(0, pj_O (124, 0)), (1, pj_I a1)] [pj_I b1, pj_O (124, 0)] (s, l, x, y) := rfl
set_option maxRecDepth 100000 in
theorem pq_X12_press_m  (a1 : Int32) (s : Nat → Int32) (l : Nat → Int64) (x : Nat → Int32) (y : Nat → Int64) : pf_X12_press a1 s l x y = pj_bl px_X12_press (pj_rn px_X12_press (pj_as pk_X12_press) (pj_as [(18, pe_X12_press_18 (pl_X12_press_18))]) 60) [(0, .aload_n 0, 1), (1, .iload_n 1, 1), (2, .i2l, 1), (3, .lconst 0, 1), (4, .ldc2_w 645, 3), (7, .invokestatic 568, 3), (10, .ifCond .ne 7, 3)] 0 [(0, pj_O (124, 0)), (1, pj_I a1)] [] (s, l, x, y) := rfl
theorem pu_X12_press_18 {lf : pj_Z → mj_M} {a : Int32 × pj_Z} (f : Int32 → Int32 → pj_F (Int32 × pj_Z)) (hf : ∀ (a1 : Int32) (b1 : Int32) (s : Nat → Int32) (l : Nat → Int64) (x : Nat → Int32) (y : Nat → Int64), f a1 b1 s l x y = some a → pm_Gd 2 12131 ie_X12_press.1 pm_rI lf 18 [(0, .ref 124), (1, .int a1)] [.int b1, .ref 124] (s, l, x, y) a) : pm_Ex 2 12131 ie_X12_press.1 pm_rI lf a 18 (pe_X12_press_18 f) := by
  intro lv st z hd h
  obtain ⟨g0, h⟩ := pj_xr_inv h
  obtain ⟨a1, g1, h⟩ := pj_xi_inv h
  obtain ⟨b1, r1, e1, h⟩ := pj_pi_inv h
  obtain ⟨r0, e0, h⟩ := pj_pr_inv h
  obtain ⟨e9, h⟩ := pj_pe_inv h
  rw [e1, e0, e9]
  exact mj_wp_sub (mj_sub_cons g0 (mj_sub_cons g1 (mj_sub_nil hd))) (hf _ _ _ _ _ _ h)
theorem pu_X12_press_63 {lf : pj_Z → mj_M} {a : Int32 × pj_Z} (f : Int32 → pj_F (Int32 × pj_Z)) (hf : ∀ (b1 : Int32) (s : Nat → Int32) (l : Nat → Int64) (x : Nat → Int32) (y : Nat → Int64), f b1 s l x y = some a → pm_Gd 2 12131 ie_X12_press.1 pm_rI lf 63 [(0, .ref 124)] [.int b1, .ref 124] (s, l, x, y) a) : pm_Ex 2 12131 ie_X12_press.1 pm_rI lf a 63 (pe_X12_press_63 f) := by
  intro lv st z hd h
  obtain ⟨g0, h⟩ := pj_xr_inv h
  obtain ⟨b1, r1, e1, h⟩ := pj_pi_inv h
  obtain ⟨r0, e0, h⟩ := pj_pr_inv h
  obtain ⟨e9, h⟩ := pj_pe_inv h
  rw [e1, e0, e9]
  exact mj_wp_sub (mj_sub_cons g0 (mj_sub_nil hd)) (hf _ _ _ _ _ h)
theorem pu_X12_press_79 {lf : pj_Z → mj_M} {a : Int32 × pj_Z} (f : Int32 → pj_F (Int32 × pj_Z)) (hf : ∀ (b1 : Int32) (s : Nat → Int32) (l : Nat → Int64) (x : Nat → Int32) (y : Nat → Int64), f b1 s l x y = some a → pm_Gd 2 12131 ie_X12_press.1 pm_rI lf 79 [(0, .ref 124)] [.int b1, .ref 124] (s, l, x, y) a) : pm_Ex 2 12131 ie_X12_press.1 pm_rI lf a 79 (pe_X12_press_79 f) := by
  intro lv st z hd h
  obtain ⟨g0, h⟩ := pj_xr_inv h
  obtain ⟨b1, r1, e1, h⟩ := pj_pi_inv h
  obtain ⟨r0, e0, h⟩ := pj_pr_inv h
  obtain ⟨e9, h⟩ := pj_pe_inv h
  rw [e1, e0, e9]
  exact mj_wp_sub (mj_sub_cons g0 (mj_sub_nil hd)) (hf _ _ _ _ _ h)
theorem pu_X12_press_125 {lf : pj_Z → mj_M} {a : Int32 × pj_Z} (f : Int32 → pj_F (Int32 × pj_Z)) (hf : ∀ (a1 : Int32) (s : Nat → Int32) (l : Nat → Int64) (x : Nat → Int32) (y : Nat → Int64), f a1 s l x y = some a → pm_Gd 2 12131 ie_X12_press.1 pm_rI lf 125 [(0, .ref 124), (1, .int a1)] [] (s, l, x, y) a) : pm_Ex 2 12131 ie_X12_press.1 pm_rI lf a 125 (pe_X12_press_125 f) := by
  intro lv st z hd h
  obtain ⟨g0, h⟩ := pj_xr_inv h
  obtain ⟨a1, g1, h⟩ := pj_xi_inv h
  obtain ⟨e9, h⟩ := pj_pe_inv h
  rw [e9]
  exact mj_wp_sub (mj_sub_cons g0 (mj_sub_cons g1 (mj_sub_nil hd))) (hf _ _ _ _ _ h)
theorem pu_X12_press_165 {lf : pj_Z → mj_M} {a : Int32 × pj_Z} (f : Int32 → pj_F (Int32 × pj_Z)) (hf : ∀ (a1 : Int32) (s : Nat → Int32) (l : Nat → Int64) (x : Nat → Int32) (y : Nat → Int64), f a1 s l x y = some a → pm_Gd 2 12131 ie_X12_press.1 pm_rI lf 165 [(0, .ref 124), (1, .int a1)] [] (s, l, x, y) a) : pm_Ex 2 12131 ie_X12_press.1 pm_rI lf a 165 (pe_X12_press_165 f) := by
  intro lv st z hd h
  obtain ⟨g0, h⟩ := pj_xr_inv h
  obtain ⟨a1, g1, h⟩ := pj_xi_inv h
  obtain ⟨e9, h⟩ := pj_pe_inv h
  rw [e9]
  exact mj_wp_sub (mj_sub_cons g0 (mj_sub_cons g1 (mj_sub_nil hd))) (hf _ _ _ _ _ h)
theorem pu_X12_press_186 {lf : pj_Z → mj_M} {a : Int32 × pj_Z} (f : Int32 → pj_F (Int32 × pj_Z)) (hf : ∀ (a1 : Int32) (s : Nat → Int32) (l : Nat → Int64) (x : Nat → Int32) (y : Nat → Int64), f a1 s l x y = some a → pm_Gd 2 12131 ie_X12_press.1 pm_rI lf 186 [(0, .ref 124), (1, .int a1)] [] (s, l, x, y) a) : pm_Ex 2 12131 ie_X12_press.1 pm_rI lf a 186 (pe_X12_press_186 f) := by
  intro lv st z hd h
  obtain ⟨g0, h⟩ := pj_xr_inv h
  obtain ⟨a1, g1, h⟩ := pj_xi_inv h
  obtain ⟨e9, h⟩ := pj_pe_inv h
  rw [e9]
  exact mj_wp_sub (mj_sub_cons g0 (mj_sub_cons g1 (mj_sub_nil hd))) (hf _ _ _ _ _ h)
theorem pu_X12_press_226 {lf : pj_Z → mj_M} {a : Int32 × pj_Z} (f : Int32 → pj_F (Int32 × pj_Z)) (hf : ∀ (b1 : Int32) (s : Nat → Int32) (l : Nat → Int64) (x : Nat → Int32) (y : Nat → Int64), f b1 s l x y = some a → pm_Gd 2 12131 ie_X12_press.1 pm_rI lf 226 [(0, .ref 124)] [.int b1, .ref 124] (s, l, x, y) a) : pm_Ex 2 12131 ie_X12_press.1 pm_rI lf a 226 (pe_X12_press_226 f) := by
  intro lv st z hd h
  obtain ⟨g0, h⟩ := pj_xr_inv h
  obtain ⟨b1, r1, e1, h⟩ := pj_pi_inv h
  obtain ⟨r0, e0, h⟩ := pj_pr_inv h
  obtain ⟨e9, h⟩ := pj_pe_inv h
  rw [e1, e0, e9]
  exact mj_wp_sub (mj_sub_cons g0 (mj_sub_nil hd)) (hf _ _ _ _ _ h)
theorem pu_X12_press_232 {lf : pj_Z → mj_M} {a : Int32 × pj_Z} (f : Int32 → pj_F (Int32 × pj_Z)) (hf : ∀ (a1 : Int32) (s : Nat → Int32) (l : Nat → Int64) (x : Nat → Int32) (y : Nat → Int64), f a1 s l x y = some a → pm_Gd 2 12131 ie_X12_press.1 pm_rI lf 232 [(0, .ref 124), (1, .int a1)] [] (s, l, x, y) a) : pm_Ex 2 12131 ie_X12_press.1 pm_rI lf a 232 (pe_X12_press_232 f) := by
  intro lv st z hd h
  obtain ⟨g0, h⟩ := pj_xr_inv h
  obtain ⟨a1, g1, h⟩ := pj_xi_inv h
  obtain ⟨e9, h⟩ := pj_pe_inv h
  rw [e9]
  exact mj_wp_sub (mj_sub_cons g0 (mj_sub_cons g1 (mj_sub_nil hd))) (hf _ _ _ _ _ h)
theorem pu_X12_press_272 {lf : pj_Z → mj_M} {a : Int32 × pj_Z} (f : Int32 → pj_F (Int32 × pj_Z)) (hf : ∀ (b1 : Int32) (s : Nat → Int32) (l : Nat → Int64) (x : Nat → Int32) (y : Nat → Int64), f b1 s l x y = some a → pm_Gd 2 12131 ie_X12_press.1 pm_rI lf 272 [(0, .ref 124)] [.int b1, .ref 124] (s, l, x, y) a) : pm_Ex 2 12131 ie_X12_press.1 pm_rI lf a 272 (pe_X12_press_272 f) := by
  intro lv st z hd h
  obtain ⟨g0, h⟩ := pj_xr_inv h
  obtain ⟨b1, r1, e1, h⟩ := pj_pi_inv h
  obtain ⟨r0, e0, h⟩ := pj_pr_inv h
  obtain ⟨e9, h⟩ := pj_pe_inv h
  rw [e1, e0, e9]
  exact mj_wp_sub (mj_sub_cons g0 (mj_sub_nil hd)) (hf _ _ _ _ _ h)
set_option maxRecDepth 100000 in
theorem pz_X12_press {lf : pj_Z → mj_M} (hT : pj_Lt pj_TR lf) : pj_Cok ic_P (mj_R ic_P 2) 12131 ie_X12_press.1 (pm_OK lf pm_rI) lf px_X12_press := by
  exact pm_cok (c := px_X12_press) (pm_part hT (pj_as_all (p := fun b e => pj_TR b = some e) (List.forall_mem_cons.mpr ⟨rfl, (fun _ h => by cases h)⟩))) (pm_in_ok (L := [(259, 12, 0, 0, false), (363, 12, 143, 0, false), (366, 12, 144, 0, false), (369, 12, 145, 0, false), (519, 12, 23, 0, false), (990, 12, 135, 0, false)]) (f := mj_pF ic_P 12131) (by decide +kernel)) (fun _ _ h => by cases h) (pm_inL_ok (L := [(645, 5)]) (f := mj_pL ic_P 12131) (by decide +kernel)) (fun _ _ h => by cases h) rfl rfl ⟨by decide, rfl⟩ pm_mI (pj_as_all (p := pm_Cl 2 12131 ie_X12_press.1 lf (pm_OK lf pm_rI)) (List.forall_mem_cons.mpr ⟨fun _ _ lv st z K a hK h => pc_X12_isIn hT (by decide) (ix := 568) rfl rfl hK h, (List.forall_mem_cons.mpr ⟨fun _ _ lv st z K a hK h => pc_X12_mayHold hT (by decide) (ix := 1005) rfl rfl hK h, (List.forall_mem_cons.mpr ⟨fun _ _ lv st z K a hK h => pc_X12_mayHold hT (by decide) (ix := 1005) rfl rfl hK h, (fun _ h => by cases h)⟩)⟩)⟩)) (fun _ h => by cases h)
set_option maxRecDepth 100000 in
theorem pb_X12_press : pm_bks ie_X12_press.1.2.2.2.2 pk_X12_press = true := by decide +kernel
set_option maxRecDepth 100000 in
theorem pg_X12_press_79 {lf : pj_Z → mj_M} (hT : pj_Lt pj_TR lf) : ∀ (b1 : Int32) (s : Nat → Int32) (l : Nat → Int64) (x : Nat → Int32) (y : Nat → Int64) (a : Int32 × pj_Z), pl_X12_press_79 b1 s l x y = some a → pm_Gd 2 12131 ie_X12_press.1 pm_rI lf 79 [(0, .ref 124)] [.int b1, .ref 124] (s, l, x, y) a := by
  intro b1 s l x y a h
  exact pm_run ((pq_X12_press_79  b1 s l x y).symm.trans h) (pz_X12_press hT) (pm_bks_ok pb_X12_press) (pm_bks_ok pb_X12_press _ _ rfl) (pm_ndb_ok rfl) (fun _ _ h => by cases h)
set_option maxRecDepth 100000 in
theorem pg_X12_press_63 {lf : pj_Z → mj_M} (hT : pj_Lt pj_TR lf) : ∀ (b1 : Int32) (s : Nat → Int32) (l : Nat → Int64) (x : Nat → Int32) (y : Nat → Int64) (a : Int32 × pj_Z), pl_X12_press_63 b1 s l x y = some a → pm_Gd 2 12131 ie_X12_press.1 pm_rI lf 63 [(0, .ref 124)] [.int b1, .ref 124] (s, l, x, y) a := by
  intro b1 s l x y a h
  exact pm_run ((pq_X12_press_63  b1 s l x y).symm.trans h) (pz_X12_press hT) (pm_bks_ok pb_X12_press) (pm_bks_ok pb_X12_press _ _ rfl) (pm_ndb_ok rfl) (pj_as_all (p := pm_Ex 2 12131 ie_X12_press.1 pm_rI lf a) (List.forall_mem_cons.mpr ⟨pu_X12_press_79 _ (fun c0 s l x y h => pg_X12_press_79 hT c0 s l x y _ h), (fun _ h => by cases h)⟩))
set_option maxRecDepth 100000 in
theorem pg_X12_press_226 {lf : pj_Z → mj_M} (hT : pj_Lt pj_TR lf) : ∀ (b1 : Int32) (s : Nat → Int32) (l : Nat → Int64) (x : Nat → Int32) (y : Nat → Int64) (a : Int32 × pj_Z), pl_X12_press_226 b1 s l x y = some a → pm_Gd 2 12131 ie_X12_press.1 pm_rI lf 226 [(0, .ref 124)] [.int b1, .ref 124] (s, l, x, y) a := by
  intro b1 s l x y a h
  exact pm_run ((pq_X12_press_226  b1 s l x y).symm.trans h) (pz_X12_press hT) (pm_bks_ok pb_X12_press) (pm_bks_ok pb_X12_press _ _ rfl) (pm_ndb_ok rfl) (fun _ _ h => by cases h)
set_option maxRecDepth 100000 in
theorem pg_X12_press_272 {lf : pj_Z → mj_M} (hT : pj_Lt pj_TR lf) : ∀ (b1 : Int32) (s : Nat → Int32) (l : Nat → Int64) (x : Nat → Int32) (y : Nat → Int64) (a : Int32 × pj_Z), pl_X12_press_272 b1 s l x y = some a → pm_Gd 2 12131 ie_X12_press.1 pm_rI lf 272 [(0, .ref 124)] [.int b1, .ref 124] (s, l, x, y) a := by
  intro b1 s l x y a h
  exact pm_run ((pq_X12_press_272  b1 s l x y).symm.trans h) (pz_X12_press hT) (pm_bks_ok pb_X12_press) (pm_bks_ok pb_X12_press _ _ rfl) (pm_ndb_ok rfl) (fun _ _ h => by cases h)
set_option maxRecDepth 100000 in
theorem pg_X12_press_232 {lf : pj_Z → mj_M} (hT : pj_Lt pj_TR lf) : ∀ (a1 : Int32) (s : Nat → Int32) (l : Nat → Int64) (x : Nat → Int32) (y : Nat → Int64) (a : Int32 × pj_Z), pl_X12_press_232 a1 s l x y = some a → pm_Gd 2 12131 ie_X12_press.1 pm_rI lf 232 [(0, .ref 124), (1, .int a1)] [] (s, l, x, y) a := by
  intro a1 s l x y a h
  exact pm_run ((pq_X12_press_232  a1 s l x y).symm.trans h) (pz_X12_press hT) (pm_bks_ok pb_X12_press) (pm_bks_ok pb_X12_press _ _ rfl) (pm_ndb_ok rfl) (pj_as_all (p := pm_Ex 2 12131 ie_X12_press.1 pm_rI lf a) (List.forall_mem_cons.mpr ⟨pu_X12_press_272 _ (fun c0 s l x y h => pg_X12_press_272 hT c0 s l x y _ h), (fun _ h => by cases h)⟩))
set_option maxRecDepth 100000 in
theorem pg_X12_press_186 {lf : pj_Z → mj_M} (hT : pj_Lt pj_TR lf) : ∀ (a1 : Int32) (s : Nat → Int32) (l : Nat → Int64) (x : Nat → Int32) (y : Nat → Int64) (a : Int32 × pj_Z), pl_X12_press_186 a1 s l x y = some a → pm_Gd 2 12131 ie_X12_press.1 pm_rI lf 186 [(0, .ref 124), (1, .int a1)] [] (s, l, x, y) a := by
  intro a1 s l x y a h
  exact pm_run ((pq_X12_press_186  a1 s l x y).symm.trans h) (pz_X12_press hT) (pm_bks_ok pb_X12_press) (pm_bks_ok pb_X12_press _ _ rfl) (pm_ndb_ok rfl) (pj_as_all (p := pm_Ex 2 12131 ie_X12_press.1 pm_rI lf a) (List.forall_mem_cons.mpr ⟨pu_X12_press_226 _ (fun c0 s l x y h => pg_X12_press_226 hT c0 s l x y _ h), (List.forall_mem_cons.mpr ⟨pu_X12_press_232 _ (fun c0 s l x y h => pg_X12_press_232 hT c0 s l x y _ h), (fun _ h => by cases h)⟩)⟩))
set_option maxRecDepth 100000 in
theorem pg_X12_press_165 {lf : pj_Z → mj_M} (hT : pj_Lt pj_TR lf) : ∀ (a1 : Int32) (s : Nat → Int32) (l : Nat → Int64) (x : Nat → Int32) (y : Nat → Int64) (a : Int32 × pj_Z), pl_X12_press_165 a1 s l x y = some a → pm_Gd 2 12131 ie_X12_press.1 pm_rI lf 165 [(0, .ref 124), (1, .int a1)] [] (s, l, x, y) a := by
  intro a1 s l x y a h
  exact pm_run ((pq_X12_press_165  a1 s l x y).symm.trans h) (pz_X12_press hT) (pm_bks_ok pb_X12_press) (pm_bks_ok pb_X12_press _ _ rfl) (pm_ndb_ok rfl) (pj_as_all (p := pm_Ex 2 12131 ie_X12_press.1 pm_rI lf a) (List.forall_mem_cons.mpr ⟨pu_X12_press_186 _ (fun c0 s l x y h => pg_X12_press_186 hT c0 s l x y _ h), (fun _ h => by cases h)⟩))
set_option maxRecDepth 100000 in
theorem pg_X12_press_125 {lf : pj_Z → mj_M} (hT : pj_Lt pj_TR lf) : ∀ (a1 : Int32) (s : Nat → Int32) (l : Nat → Int64) (x : Nat → Int32) (y : Nat → Int64) (a : Int32 × pj_Z), pl_X12_press_125 a1 s l x y = some a → pm_Gd 2 12131 ie_X12_press.1 pm_rI lf 125 [(0, .ref 124), (1, .int a1)] [] (s, l, x, y) a := by
  intro a1 s l x y a h
  exact pm_run ((pq_X12_press_125  a1 s l x y).symm.trans h) (pz_X12_press hT) (pm_bks_ok pb_X12_press) (pm_bks_ok pb_X12_press _ _ rfl) (pm_ndb_ok rfl) (pj_as_all (p := pm_Ex 2 12131 ie_X12_press.1 pm_rI lf a) (List.forall_mem_cons.mpr ⟨pu_X12_press_165 _ (fun c0 s l x y h => pg_X12_press_165 hT c0 s l x y _ h), (fun _ h => by cases h)⟩))
set_option maxRecDepth 100000 in
theorem pg_X12_press_18 {lf : pj_Z → mj_M} (hT : pj_Lt pj_TR lf) : ∀ (a1 : Int32) (b1 : Int32) (s : Nat → Int32) (l : Nat → Int64) (x : Nat → Int32) (y : Nat → Int64) (a : Int32 × pj_Z), pl_X12_press_18 a1 b1 s l x y = some a → pm_Gd 2 12131 ie_X12_press.1 pm_rI lf 18 [(0, .ref 124), (1, .int a1)] [.int b1, .ref 124] (s, l, x, y) a := by
  intro a1 b1 s l x y a h
  exact pm_run ((pq_X12_press_18  a1 b1 s l x y).symm.trans h) (pz_X12_press hT) (pm_bks_ok pb_X12_press) (pm_bks_ok pb_X12_press _ _ rfl) (pm_ndb_ok rfl) (pj_as_all (p := pm_Ex 2 12131 ie_X12_press.1 pm_rI lf a) (List.forall_mem_cons.mpr ⟨pu_X12_press_63 _ (fun c0 s l x y h => pg_X12_press_63 hT c0 s l x y _ h), (List.forall_mem_cons.mpr ⟨pu_X12_press_125 _ (fun c0 s l x y h => pg_X12_press_125 hT c0 s l x y _ h), (fun _ h => by cases h)⟩)⟩))
set_option maxRecDepth 100000 in
theorem pm_X12_press {lf : pj_Z → mj_M} (hT : pj_Lt pj_TR lf) (a1 : Int32) (s : Nat → Int32) (l : Nat → Int64) (x : Nat → Int32) (y : Nat → Int64) (a : Int32 × pj_Z) (h : pf_X12_press a1 s l x y = some a) : mj_R ic_P 3 12131 [.ref 124, .int a1] (lf (s, l, x, y)) (pm_rI a.1) (lf a.2) := by
  refine pm_main (Y := ie_X12_press.1) rfl (Nat.le_of_ble_eq_true rfl) ?_
  exact pm_run ((pq_X12_press_m a1 s l x y).symm.trans h) (pz_X12_press hT) (pm_bks_ok pb_X12_press) (pm_bks_ok pb_X12_press _ _ rfl) (pm_ndb_ok rfl) (pj_as_all (p := pm_Ex 2 12131 ie_X12_press.1 pm_rI lf a) (List.forall_mem_cons.mpr ⟨pu_X12_press_18 _ (fun c0 c1 s l x y h => pg_X12_press_18 hT c0 c1 s l x y _ h), (fun _ h => by cases h)⟩))
abbrev ph_X12_press {A : Type} : List pj_V → pj_Z → (List pj_V → pj_Z → Option A) → Option A := fun st z K => pj_pi st fun a1 st => pj_pr st 124 0 fun st => pj_ps st (pj_b (pf_X12_press a1 z.1 z.2.1 z.2.2.1 z.2.2.2) fun r s l x y => K (pj_I r :: st) (s, l, x, y))
set_option maxRecDepth 100000 in
theorem pc_X12_press {A : Type} {OK : A → Option Value → mj_M → Prop} {d j pc ix : Nat} {Y : mj_Y} {lf : pj_Z → mj_M} (hT : pj_Lt pj_TR lf) (hd : 3 ≤ d) (hl : mj_lk Y.2.2.2.2 pc = some (.invokevirtual ix, 3)) (hg : mj_pG ic_P j ix = some (12131, 1, some 12)) {lv : List (Nat × Value)} {st : List pj_V} {z : pj_Z} {K : List pj_V → pj_Z → Option A} {a : A} (hK : ∀ st z, K st z = some a → pj_Gd ic_P (mj_R ic_P d) j Y OK lf (pc + 3) lv (pj_es st) z a) (h : ph_X12_press st z K = some a) : pj_Gd ic_P (mj_R ic_P d) j Y OK lf pc lv (pj_es st) z a := by
  obtain ⟨a1, r1, e1, h⟩ := pj_pi_inv h
  obtain ⟨r0, e0, h⟩ := pj_pr_inv h
  obtain ⟨hs, h⟩ := pj_ps_inv h
  obtain ⟨q, hq, h⟩ := pj_b_inv h
  exact pm_cv (o := 124) hl hg [.int a1] rfl (by rw [e1, e0]; rfl) hs (by decide) ((hT.2 124 _ rfl).1.2 z 0 (by decide)) (pm_rI q.1) hd (pm_X12_press hT a1 z.1 z.2.1 z.2.2.1 z.2.2.2 q hq) rfl (hK _ _ h)
abbrev pe_X12_percentage_37 (f : Int32 → pj_F (Int32 × pj_Z)) : pj_K (Int32 × pj_Z) := fun lv st z => pj_xr lv 0 124 0 <| pj_xi lv 1 fun a1 => pj_pe st (f a1 z.1 z.2.1 z.2.2.1 z.2.2.2)
abbrev pe_X12_percentage_42 (f : Int32 → Int32 → pj_F (Int32 × pj_Z)) : pj_K (Int32 × pj_Z) := fun lv st z => pj_xr lv 0 124 0 <| pj_xi lv 1 fun a1 => pj_pi st fun b0 st => pj_pe st (f a1 b0 z.1 z.2.1 z.2.2.1 z.2.2.2)
abbrev pe_X12_percentage_78 (f : pj_F (Int32 × pj_Z)) : pj_K (Int32 × pj_Z) := fun lv st z => pj_xr lv 0 124 0 <| pj_pe st (f  z.1 z.2.1 z.2.2.1 z.2.2.2)
abbrev px_X12_percentage : pj_C (Int32 × pj_Z) := ((pj_as [(124, 12, 195, 1, 0, true, 0, [(1, 1), (2, 125), (2, 126), (2, 127), (2, 128), (2, 129), (2, 130), (2, 131), (2, 132), (2, 133), (1, 2), (0, 44), (2, 134), (2, 135), (2, 136), (2, 137), (2, 138), (0, 69), (2, 139), (2, 140), (2, 141), (1, 3), (0, 93), (0, 94), (0, 45), (0, 46), (0, 48), (0, 49), (0, 47), (0, 50), (0, 51), (2, 142), (2, 143), (2, 144), (0, 19), (1, 4), (1, 5), (1, 6), (0, 20), (0, 21), (0, 22), (0, 23), (0, 24), (0, 25), (0, 27), (0, 28), (1, 7), (1, 8), (1, 9), (1, 10), (1, 11), (0, 26), (2, 145), (2, 146), (2, 147), (2, 148), (2, 149), (2, 150), (2, 151), (2, 152), (2, 153), (2, 154), (2, 155), (2, 156), (2, 157), (2, 158), (2, 159), (0, 57), (0, 58), (0, 59), (0, 60), (2, 160), (2, 161), (2, 162), (2, 163), (1, 12), (1, 13), (0, 95), (0, 73), (0, 74), (0, 71), (0, 72), (0, 75), (0, 76), (0, 77), (0, 80), (0, 78), (0, 79), (1, 14), (0, 29), (0, 30), (0, 31), (0, 34), (0, 35), (0, 32), (0, 33), (0, 36), (0, 37), (0, 38), (0, 39), (0, 40), (1, 15), (1, 16), (0, 43), (0, 41), (0, 42), (2, 164), (0, 96), (0, 89), (0, 90), (0, 91), (0, 92), (2, 165), (2, 166), (2, 167), (2, 168), (2, 169), (2, 170), (2, 171), (2, 172), (0, 87), (2, 173), (0, 88), (2, 174), (0, 62), (1, 17), (0, 66), (0, 63), (0, 64), (0, 65), (0, 67), (1, 18), (0, 68), (2, 175), (1, 19), (0, 52), (0, 53), (0, 54), (0, 55), (2, 176), (0, 56), (0, 85), (0, 86), (0, 81), (0, 82), (0, 83), (0, 84), (2, 177), (2, 178), (2, 179), (1, 20), (2, 180), (0, 6), (0, 7), (0, 8), (0, 16), (0, 17), (0, 61), (0, 9), (0, 10), (1, 21), (1, 22), (0, 11), (0, 12), (0, 13), (0, 18), (0, 14), (0, 15), (2, 181), (0, 70), (1, 23), (2, 182), (2, 183), (0, 1), (1, 24), (2, 184), (2, 185), (1, 25), (0, 2), (2, 186), (2, 187), (1, 26), (2, 188), (2, 189), (1, 27), (1, 28), (2, 190), (2, 191), (1, 29), (0, 3), (2, 192), (0, 4), (0, 5), (1, 30), (2, 193)]), (180, 100, 8, 1, 0, false, 12000, [])]), (pj_as [(194, 12, 151, 2, true), (197, 12, 158, 0, false), (200, 12, 159, 0, false), (396, 12, 160, 3, false), (399, 12, 162, 0, false), (1031, 12, 161, 0, false)]), (fun _ => none), (fun _ => none), (fun _ => none), ic_X, 3, 2, pj_mI, (pj_as [(68, ph_X12_check)]), fun _ => false)
abbrev pk_X12_percentage : List (Nat × List (Nat × Instr × Nat)) := [(0, [(0, .aload_n 0, 1), (1, .getfield 194, 3), (4, .bipush 6, 2), (6, .iaload, 1), (7, .istore_n 1, 1), (8, .aload_n 0, 1), (9, .getfield 396, 3), (12, .ifCond .eq 25, 3)]), (15, [(15, .aload_n 0, 1), (16, .getfield 200, 3), (19, .bipush 20, 2), (21, .if_icmp .eq 16, 3)]), (24, [(24, .iload_n 1, 1), (25, .aload_n 0, 1), (26, .getfield 1031, 3), (29, .iconst 1, 1), (30, .iadd, 1), (31, .bipush 16, 2), (33, .irem, 1), (34, .if_icmp .ne 7, 3)]), (37, [(37, .iconst 1, 1), (38, .goto 4, 3)]), (41, [(41, .iconst 0, 1)]), (42, [(42, .istore_n 2, 1), (43, .aload_n 0, 1), (44, .getfield 194, 3), (47, .iconst 0, 1), (48, .iaload, 1), (49, .bipush 100, 2), (51, .if_icmp .gt 27, 3)]), (54, [(54, .iload_n 1, 1), (55, .bipush 15, 2), (57, .if_icmp .gt 21, 3)]), (60, [(60, .aload_n 0, 1), (61, .getfield 194, 3), (64, .bipush 7, 2), (66, .iaload, 1), (67, .aload_n 0, 1), (68, .invokevirtual 1008, 3), (71, .if_icmp .ne 7, 3)]), (74, [(74, .iload_n 2, 1), (75, .ifCond .ne 15, 3)]), (78, [(78, .aload_n 0, 1), (79, .dup, 1), (80, .getfield 399, 3), (83, .iconst 1, 1), (84, .iadd, 1), (85, .putfield 399, 3), (88, .iconst 0, 1), (89, .ireturn, 1)]), (90, [(90, .aload_n 0, 1), (91, .iconst 1, 1), (92, .putfield 396, 3), (95, .aload_n 0, 1), (96, .iload_n 1, 1), (97, .putfield 1031, 3), (100, .aload_n 0, 1), (101, .bipush 10, 2), (103, .aload_n 0, 1), (104, .getfield 194, 3), (107, .iconst 0, 1), (108, .iaload, 1), (109, .imul, 1), (110, .putfield 197, 3), (113, .aload_n 0, 1), (114, .iconst 0, 1), (115, .putfield 200, 3), (118, .iconst 1, 1), (119, .ireturn, 1)])]
set_option maxRecDepth 100000 in
theorem pq_X12_percentage_78   (s : Nat → Int32) (l : Nat → Int64) (x : Nat → Int32) (y : Nat → Int64) : pl_X12_percentage_78 s l x y = pj_bl px_X12_percentage (pj_rn px_X12_percentage (pj_as pk_X12_percentage) (fun _ => none) 60) [(78, .aload_n 0, 1), (79, .dup, 1), (80, .getfield 399, 3), (83, .iconst 1, 1), (84, .iadd, 1), (85, .putfield 399, 3), (88, .iconst 0, 1), (89, .ireturn, 1)] 78 [(0, pj_O (124, 0))] [] (s, l, x, y) := rfl
set_option maxRecDepth 100000 in
theorem pq_X12_percentage_42  (a1 : Int32) (b0 : Int32) (s : Nat → Int32) (l : Nat → Int64) (x : Nat → Int32) (y : Nat → Int64) : pl_X12_percentage_42 a1 b0 s l x y = pj_bl px_X12_percentage (pj_rn px_X12_percentage (pj_as pk_X12_percentage) (pj_as [(78, pe_X12_percentage_78 (pl_X12_percentage_78))]) 60) [(42, .istore_n 2, 1), (43, .aload_n 0, 1), (44, .getfield 194, 3), (47, .iconst 0, 1), (48, .iaload, 1), (49, .bipush 100, 2), (51, .if_icmp .gt 27, 3)] 42 [(0, pj_O (124, 0)), (1, pj_I a1)] [pj_I b0] (s, l, x, y) := rfl
set_option maxRecDepth 100000 in
theorem pq_X12_percentage_37  (a1 : Int32) (s : Nat → Int32) (l : Nat → Int64) (x : Nat → Int32) (y : Nat → Int64) : pl_X12_percentage_37 a1 s l x y = pj_bl px_X12_percentage (pj_rn px_X12_percentage (pj_as pk_X12_percentage) (pj_as [(42, pe_X12_percentage_42 (pl_X12_percentage_42))]) 60) [(37, .iconst 1, 1), (38, .goto 4, 3)] 37 [(0, pj_O (124, 0)), (1, pj_I a1)] [] (s, l, x, y) := rfl
set_option maxRecDepth 100000 in
theorem pq_X12_percentage_m   (s : Nat → Int32) (l : Nat → Int64) (x : Nat → Int32) (y : Nat → Int64) : pf_X12_percentage  s l x y = pj_bl px_X12_percentage (pj_rn px_X12_percentage (pj_as pk_X12_percentage) (pj_as [(37, pe_X12_percentage_37 (pl_X12_percentage_37)), (42, pe_X12_percentage_42 (pl_X12_percentage_42))]) 60) [(0, .aload_n 0, 1), (1, .getfield 194, 3), (4, .bipush 6, 2), (6, .iaload, 1), (7, .istore_n 1, 1), (8, .aload_n 0, 1), (9, .getfield 396, 3), (12, .ifCond .eq 25, 3)] 0 [(0, pj_O (124, 0))] [] (s, l, x, y) := rfl
theorem pu_X12_percentage_37 {lf : pj_Z → mj_M} {a : Int32 × pj_Z} (f : Int32 → pj_F (Int32 × pj_Z)) (hf : ∀ (a1 : Int32) (s : Nat → Int32) (l : Nat → Int64) (x : Nat → Int32) (y : Nat → Int64), f a1 s l x y = some a → pm_Gd 1 12139 ie_X12_percentage.1 pm_rI lf 37 [(0, .ref 124), (1, .int a1)] [] (s, l, x, y) a) : pm_Ex 1 12139 ie_X12_percentage.1 pm_rI lf a 37 (pe_X12_percentage_37 f) := by
  intro lv st z hd h
  obtain ⟨g0, h⟩ := pj_xr_inv h
  obtain ⟨a1, g1, h⟩ := pj_xi_inv h
  obtain ⟨e9, h⟩ := pj_pe_inv h
  rw [e9]
  exact mj_wp_sub (mj_sub_cons g0 (mj_sub_cons g1 (mj_sub_nil hd))) (hf _ _ _ _ _ h)
theorem pu_X12_percentage_42 {lf : pj_Z → mj_M} {a : Int32 × pj_Z} (f : Int32 → Int32 → pj_F (Int32 × pj_Z)) (hf : ∀ (a1 : Int32) (b0 : Int32) (s : Nat → Int32) (l : Nat → Int64) (x : Nat → Int32) (y : Nat → Int64), f a1 b0 s l x y = some a → pm_Gd 1 12139 ie_X12_percentage.1 pm_rI lf 42 [(0, .ref 124), (1, .int a1)] [.int b0] (s, l, x, y) a) : pm_Ex 1 12139 ie_X12_percentage.1 pm_rI lf a 42 (pe_X12_percentage_42 f) := by
  intro lv st z hd h
  obtain ⟨g0, h⟩ := pj_xr_inv h
  obtain ⟨a1, g1, h⟩ := pj_xi_inv h
  obtain ⟨b0, r0, e0, h⟩ := pj_pi_inv h
  obtain ⟨e9, h⟩ := pj_pe_inv h
  rw [e0, e9]
  exact mj_wp_sub (mj_sub_cons g0 (mj_sub_cons g1 (mj_sub_nil hd))) (hf _ _ _ _ _ _ h)
theorem pu_X12_percentage_78 {lf : pj_Z → mj_M} {a : Int32 × pj_Z} (f : pj_F (Int32 × pj_Z)) (hf : ∀  (s : Nat → Int32) (l : Nat → Int64) (x : Nat → Int32) (y : Nat → Int64), f  s l x y = some a → pm_Gd 1 12139 ie_X12_percentage.1 pm_rI lf 78 [(0, .ref 124)] [] (s, l, x, y) a) : pm_Ex 1 12139 ie_X12_percentage.1 pm_rI lf a 78 (pe_X12_percentage_78 f) := by
  intro lv st z hd h
  obtain ⟨g0, h⟩ := pj_xr_inv h
  obtain ⟨e9, h⟩ := pj_pe_inv h
  rw [e9]
  exact mj_wp_sub (mj_sub_cons g0 (mj_sub_nil hd)) (hf  _ _ _ _ h)
set_option maxRecDepth 100000 in
theorem pz_X12_percentage {lf : pj_Z → mj_M} (hT : pj_Lt pj_TR lf) : pj_Cok ic_P (mj_R ic_P 1) 12139 ie_X12_percentage.1 (pm_OK lf pm_rI) lf px_X12_percentage := by
  exact pm_cok (c := px_X12_percentage) (pm_part hT (pj_as_all (p := fun b e => pj_TR b = some e) (List.forall_mem_cons.mpr ⟨rfl, (List.forall_mem_cons.mpr ⟨rfl, (fun _ h => by cases h)⟩)⟩))) (pm_in_ok (L := [(194, 12, 151, 2, true), (197, 12, 158, 0, false), (200, 12, 159, 0, false), (396, 12, 160, 3, false), (399, 12, 162, 0, false), (1031, 12, 161, 0, false)]) (f := mj_pF ic_P 12139) (by decide +kernel)) (fun _ _ h => by cases h) (fun _ _ h => by cases h) (fun _ _ h => by cases h) rfl rfl ⟨by decide, rfl⟩ pm_mI (pj_as_all (p := pm_Cl 1 12139 ie_X12_percentage.1 lf (pm_OK lf pm_rI)) (List.forall_mem_cons.mpr ⟨fun _ _ lv st z K a hK h => pc_X12_check hT (by decide) (ix := 1008) rfl rfl hK h, (fun _ h => by cases h)⟩)) (fun _ h => by cases h)
set_option maxRecDepth 100000 in
theorem pb_X12_percentage : pm_bks ie_X12_percentage.1.2.2.2.2 pk_X12_percentage = true := by decide +kernel
set_option maxRecDepth 100000 in
theorem pg_X12_percentage_78 {lf : pj_Z → mj_M} (hT : pj_Lt pj_TR lf) : ∀  (s : Nat → Int32) (l : Nat → Int64) (x : Nat → Int32) (y : Nat → Int64) (a : Int32 × pj_Z), pl_X12_percentage_78 s l x y = some a → pm_Gd 1 12139 ie_X12_percentage.1 pm_rI lf 78 [(0, .ref 124)] [] (s, l, x, y) a := by
  intro  s l x y a h
  exact pm_run ((pq_X12_percentage_78   s l x y).symm.trans h) (pz_X12_percentage hT) (pm_bks_ok pb_X12_percentage) (pm_bks_ok pb_X12_percentage _ _ rfl) (pm_ndb_ok rfl) (fun _ _ h => by cases h)
set_option maxRecDepth 100000 in
theorem pg_X12_percentage_42 {lf : pj_Z → mj_M} (hT : pj_Lt pj_TR lf) : ∀ (a1 : Int32) (b0 : Int32) (s : Nat → Int32) (l : Nat → Int64) (x : Nat → Int32) (y : Nat → Int64) (a : Int32 × pj_Z), pl_X12_percentage_42 a1 b0 s l x y = some a → pm_Gd 1 12139 ie_X12_percentage.1 pm_rI lf 42 [(0, .ref 124), (1, .int a1)] [.int b0] (s, l, x, y) a := by
  intro a1 b0 s l x y a h
  exact pm_run ((pq_X12_percentage_42  a1 b0 s l x y).symm.trans h) (pz_X12_percentage hT) (pm_bks_ok pb_X12_percentage) (pm_bks_ok pb_X12_percentage _ _ rfl) (pm_ndb_ok rfl) (pj_as_all (p := pm_Ex 1 12139 ie_X12_percentage.1 pm_rI lf a) (List.forall_mem_cons.mpr ⟨pu_X12_percentage_78 _ (fun  s l x y h => pg_X12_percentage_78 hT  s l x y _ h), (fun _ h => by cases h)⟩))
set_option maxRecDepth 100000 in
theorem pg_X12_percentage_37 {lf : pj_Z → mj_M} (hT : pj_Lt pj_TR lf) : ∀ (a1 : Int32) (s : Nat → Int32) (l : Nat → Int64) (x : Nat → Int32) (y : Nat → Int64) (a : Int32 × pj_Z), pl_X12_percentage_37 a1 s l x y = some a → pm_Gd 1 12139 ie_X12_percentage.1 pm_rI lf 37 [(0, .ref 124), (1, .int a1)] [] (s, l, x, y) a := by
  intro a1 s l x y a h
  exact pm_run ((pq_X12_percentage_37  a1 s l x y).symm.trans h) (pz_X12_percentage hT) (pm_bks_ok pb_X12_percentage) (pm_bks_ok pb_X12_percentage _ _ rfl) (pm_ndb_ok rfl) (pj_as_all (p := pm_Ex 1 12139 ie_X12_percentage.1 pm_rI lf a) (List.forall_mem_cons.mpr ⟨pu_X12_percentage_42 _ (fun c0 c1 s l x y h => pg_X12_percentage_42 hT c0 c1 s l x y _ h), (fun _ h => by cases h)⟩))
set_option maxRecDepth 100000 in
theorem pm_X12_percentage {lf : pj_Z → mj_M} (hT : pj_Lt pj_TR lf)  (s : Nat → Int32) (l : Nat → Int64) (x : Nat → Int32) (y : Nat → Int64) (a : Int32 × pj_Z) (h : pf_X12_percentage  s l x y = some a) : mj_R ic_P 2 12139 [.ref 124] (lf (s, l, x, y)) (pm_rI a.1) (lf a.2) := by
  refine pm_main (Y := ie_X12_percentage.1) rfl (Nat.le_of_ble_eq_true rfl) ?_
  exact pm_run ((pq_X12_percentage_m  s l x y).symm.trans h) (pz_X12_percentage hT) (pm_bks_ok pb_X12_percentage) (pm_bks_ok pb_X12_percentage _ _ rfl) (pm_ndb_ok rfl) (pj_as_all (p := pm_Ex 1 12139 ie_X12_percentage.1 pm_rI lf a) (List.forall_mem_cons.mpr ⟨pu_X12_percentage_37 _ (fun c0 s l x y h => pg_X12_percentage_37 hT c0 s l x y _ h), (List.forall_mem_cons.mpr ⟨pu_X12_percentage_42 _ (fun c0 c1 s l x y h => pg_X12_percentage_42 hT c0 c1 s l x y _ h), (fun _ h => by cases h)⟩)⟩))
abbrev ph_X12_percentage {A : Type} : List pj_V → pj_Z → (List pj_V → pj_Z → Option A) → Option A := fun st z K => pj_pr st 124 0 fun st => pj_ps st (pj_b (pf_X12_percentage  z.1 z.2.1 z.2.2.1 z.2.2.2) fun r s l x y => K (pj_I r :: st) (s, l, x, y))
set_option maxRecDepth 100000 in
theorem pc_X12_percentage {A : Type} {OK : A → Option Value → mj_M → Prop} {d j pc ix : Nat} {Y : mj_Y} {lf : pj_Z → mj_M} (hT : pj_Lt pj_TR lf) (hd : 2 ≤ d) (hl : mj_lk Y.2.2.2.2 pc = some (.invokevirtual ix, 3)) (hg : mj_pG ic_P j ix = some (12139, 0, some 12)) {lv : List (Nat × Value)} {st : List pj_V} {z : pj_Z} {K : List pj_V → pj_Z → Option A} {a : A} (hK : ∀ st z, K st z = some a → pj_Gd ic_P (mj_R ic_P d) j Y OK lf (pc + 3) lv (pj_es st) z a) (h : ph_X12_percentage st z K = some a) : pj_Gd ic_P (mj_R ic_P d) j Y OK lf pc lv (pj_es st) z a := by
  obtain ⟨r0, e0, h⟩ := pj_pr_inv h
  obtain ⟨hs, h⟩ := pj_ps_inv h
  obtain ⟨q, hq, h⟩ := pj_b_inv h
  exact pm_cv (o := 124) hl hg [] rfl (by rw [e0]; rfl) hs (by decide) ((hT.2 124 _ rfl).1.2 z 0 (by decide)) (pm_rI q.1) hd (pm_X12_percentage hT  z.1 z.2.1 z.2.2.1 z.2.2.2 q hq) rfl (hK _ _ h)
abbrev px_X12_opens : pj_C (Int32 × pj_Z) := ((pj_as [(124, 12, 195, 1, 0, true, 0, [(1, 1), (2, 125), (2, 126), (2, 127), (2, 128), (2, 129), (2, 130), (2, 131), (2, 132), (2, 133), (1, 2), (0, 44), (2, 134), (2, 135), (2, 136), (2, 137), (2, 138), (0, 69), (2, 139), (2, 140), (2, 141), (1, 3), (0, 93), (0, 94), (0, 45), (0, 46), (0, 48), (0, 49), (0, 47), (0, 50), (0, 51), (2, 142), (2, 143), (2, 144), (0, 19), (1, 4), (1, 5), (1, 6), (0, 20), (0, 21), (0, 22), (0, 23), (0, 24), (0, 25), (0, 27), (0, 28), (1, 7), (1, 8), (1, 9), (1, 10), (1, 11), (0, 26), (2, 145), (2, 146), (2, 147), (2, 148), (2, 149), (2, 150), (2, 151), (2, 152), (2, 153), (2, 154), (2, 155), (2, 156), (2, 157), (2, 158), (2, 159), (0, 57), (0, 58), (0, 59), (0, 60), (2, 160), (2, 161), (2, 162), (2, 163), (1, 12), (1, 13), (0, 95), (0, 73), (0, 74), (0, 71), (0, 72), (0, 75), (0, 76), (0, 77), (0, 80), (0, 78), (0, 79), (1, 14), (0, 29), (0, 30), (0, 31), (0, 34), (0, 35), (0, 32), (0, 33), (0, 36), (0, 37), (0, 38), (0, 39), (0, 40), (1, 15), (1, 16), (0, 43), (0, 41), (0, 42), (2, 164), (0, 96), (0, 89), (0, 90), (0, 91), (0, 92), (2, 165), (2, 166), (2, 167), (2, 168), (2, 169), (2, 170), (2, 171), (2, 172), (0, 87), (2, 173), (0, 88), (2, 174), (0, 62), (1, 17), (0, 66), (0, 63), (0, 64), (0, 65), (0, 67), (1, 18), (0, 68), (2, 175), (1, 19), (0, 52), (0, 53), (0, 54), (0, 55), (2, 176), (0, 56), (0, 85), (0, 86), (0, 81), (0, 82), (0, 83), (0, 84), (2, 177), (2, 178), (2, 179), (1, 20), (2, 180), (0, 6), (0, 7), (0, 8), (0, 16), (0, 17), (0, 61), (0, 9), (0, 10), (1, 21), (1, 22), (0, 11), (0, 12), (0, 13), (0, 18), (0, 14), (0, 15), (2, 181), (0, 70), (1, 23), (2, 182), (2, 183), (0, 1), (1, 24), (2, 184), (2, 185), (1, 25), (0, 2), (2, 186), (2, 187), (1, 26), (2, 188), (2, 189), (1, 27), (1, 28), (2, 190), (2, 191), (1, 29), (0, 3), (2, 192), (0, 4), (0, 5), (1, 30), (2, 193)])]), (pj_as [(402, 12, 164, 3, false), (405, 12, 165, 0, false), (408, 12, 166, 0, false), (411, 12, 167, 0, false), (559, 12, 163, 0, false)]), (pj_as [(1034, (-1640531535))]), (fun _ => none), (fun _ => none), ic_X, 3, 2, pj_mI, (fun _ => none), fun _ => false)
abbrev pk_X12_opens : List (Nat × List (Nat × Instr × Nat)) := [(0, [(0, .aload_n 0, 1), (1, .getfield 402, 3), (4, .ifCond .eq 10, 3)]), (7, [(7, .aload_n 0, 1), (8, .getfield 411, 3), (11, .ifCond .le 5, 3)]), (14, [(14, .iconst 0, 1), (15, .ireturn, 1)]), (16, [(16, .aload_n 0, 1), (17, .getfield 405, 3), (20, .aload_n 0, 1), (21, .getfield 559, 3), (24, .ixor, 1), (25, .ldc_w 1034, 3), (28, .imul, 1), (29, .istore_n 2, 1), (30, .iload_n 1, 1), (31, .iload_n 2, 1), (32, .iload_n 2, 1), (33, .bipush 15, 2), (35, .iushr, 1), (36, .ixor, 1), (37, .if_icmp .ne 10, 3)]), (40, [(40, .aload_n 0, 1), (41, .iconst 0, 1), (42, .putfield 402, 3), (45, .iconst 1, 1), (46, .ireturn, 1)]), (47, [(47, .aload_n 0, 1), (48, .dup, 1), (49, .getfield 408, 3), (52, .iconst 1, 1), (53, .iadd, 1), (54, .putfield 408, 3), (57, .aload_n 0, 1), (58, .getfield 408, 3), (61, .iconst 5, 1), (62, .if_icmp .ne 15, 3)]), (65, [(65, .aload_n 0, 1), (66, .iconst 0, 1), (67, .putfield 408, 3), (70, .aload_n 0, 1), (71, .sipush 1000, 3), (74, .putfield 411, 3)]), (77, [(77, .iconst 0, 1), (78, .ireturn, 1)])]
set_option maxRecDepth 100000 in
theorem pq_X12_opens_m  (a1 : Int32) (s : Nat → Int32) (l : Nat → Int64) (x : Nat → Int32) (y : Nat → Int64) : pf_X12_opens a1 s l x y = pj_bl px_X12_opens (pj_rn px_X12_opens (pj_as pk_X12_opens) (fun _ => none) 60) [(0, .aload_n 0, 1), (1, .getfield 402, 3), (4, .ifCond .eq 10, 3)] 0 [(0, pj_O (124, 0)), (1, pj_I a1)] [] (s, l, x, y) := rfl
set_option maxRecDepth 100000 in
theorem pz_X12_opens {lf : pj_Z → mj_M} (hT : pj_Lt pj_TR lf) : pj_Cok ic_P (mj_R ic_P 0) 12140 ie_X12_opens.1 (pm_OK lf pm_rI) lf px_X12_opens := by
  exact pm_cok (c := px_X12_opens) (pm_part hT (pj_as_all (p := fun b e => pj_TR b = some e) (List.forall_mem_cons.mpr ⟨rfl, (fun _ h => by cases h)⟩))) (pm_in_ok (L := [(402, 12, 164, 3, false), (405, 12, 165, 0, false), (408, 12, 166, 0, false), (411, 12, 167, 0, false), (559, 12, 163, 0, false)]) (f := mj_pF ic_P 12140) (by decide +kernel)) (pm_inI_ok (L := [(1034, (-1640531535))]) (f := mj_pK ic_P 12140) (by decide +kernel)) (fun _ _ h => by cases h) (fun _ _ h => by cases h) rfl rfl ⟨by decide, rfl⟩ pm_mI (fun _ _ h => by cases h) (fun _ h => by cases h)
set_option maxRecDepth 100000 in
theorem pb_X12_opens : pm_bks ie_X12_opens.1.2.2.2.2 pk_X12_opens = true := by decide +kernel
set_option maxRecDepth 100000 in
theorem pm_X12_opens {lf : pj_Z → mj_M} (hT : pj_Lt pj_TR lf) (a1 : Int32) (s : Nat → Int32) (l : Nat → Int64) (x : Nat → Int32) (y : Nat → Int64) (a : Int32 × pj_Z) (h : pf_X12_opens a1 s l x y = some a) : mj_R ic_P 1 12140 [.ref 124, .int a1] (lf (s, l, x, y)) (pm_rI a.1) (lf a.2) := by
  refine pm_main (Y := ie_X12_opens.1) rfl (Nat.le_of_ble_eq_true rfl) ?_
  exact pm_run ((pq_X12_opens_m a1 s l x y).symm.trans h) (pz_X12_opens hT) (pm_bks_ok pb_X12_opens) (pm_bks_ok pb_X12_opens _ _ rfl) (pm_ndb_ok rfl) (fun _ _ h => by cases h)
abbrev ph_X12_opens {A : Type} : List pj_V → pj_Z → (List pj_V → pj_Z → Option A) → Option A := fun st z K => pj_pi st fun a1 st => pj_pr st 124 0 fun st => pj_ps st (pj_b (pf_X12_opens a1 z.1 z.2.1 z.2.2.1 z.2.2.2) fun r s l x y => K (pj_I r :: st) (s, l, x, y))
set_option maxRecDepth 100000 in
theorem pc_X12_opens {A : Type} {OK : A → Option Value → mj_M → Prop} {d j pc ix : Nat} {Y : mj_Y} {lf : pj_Z → mj_M} (hT : pj_Lt pj_TR lf) (hd : 1 ≤ d) (hl : mj_lk Y.2.2.2.2 pc = some (.invokevirtual ix, 3)) (hg : mj_pG ic_P j ix = some (12140, 1, some 12)) {lv : List (Nat × Value)} {st : List pj_V} {z : pj_Z} {K : List pj_V → pj_Z → Option A} {a : A} (hK : ∀ st z, K st z = some a → pj_Gd ic_P (mj_R ic_P d) j Y OK lf (pc + 3) lv (pj_es st) z a) (h : ph_X12_opens st z K = some a) : pj_Gd ic_P (mj_R ic_P d) j Y OK lf pc lv (pj_es st) z a := by
  obtain ⟨a1, r1, e1, h⟩ := pj_pi_inv h
  obtain ⟨r0, e0, h⟩ := pj_pr_inv h
  obtain ⟨hs, h⟩ := pj_ps_inv h
  obtain ⟨q, hq, h⟩ := pj_b_inv h
  exact pm_cv (o := 124) hl hg [.int a1] rfl (by rw [e1, e0]; rfl) hs (by decide) ((hT.2 124 _ rfl).1.2 z 0 (by decide)) (pm_rI q.1) hd (pm_X12_opens hT a1 z.1 z.2.1 z.2.2.1 z.2.2.2 q hq) rfl (hK _ _ h)
abbrev pe_X12_frameComes_18 (f : Int32 → Int32 → Int32 → Int32 → pj_F (Int32 × pj_Z)) : pj_K (Int32 × pj_Z) := fun lv st z => pj_xr lv 0 124 0 <| pj_xi lv 1 fun a1 => pj_xi lv 2 fun a2 => pj_xi lv 3 fun a3 => pj_pi st fun b1 st => pj_pr st 124 0 fun st => pj_pe st (f a1 a2 a3 b1 z.1 z.2.1 z.2.2.1 z.2.2.2)
abbrev pe_X12_frameComes_47 (f : Int32 → Int32 → Int32 → Int32 → pj_F (Int32 × pj_Z)) : pj_K (Int32 × pj_Z) := fun lv st z => pj_xr lv 0 124 0 <| pj_xi lv 1 fun a1 => pj_xi lv 2 fun a2 => pj_xi lv 3 fun a3 => pj_xi lv 4 fun a4 => pj_pe st (f a1 a2 a3 a4 z.1 z.2.1 z.2.2.1 z.2.2.2)
abbrev px_X12_frameComes : pj_C (Int32 × pj_Z) := ((pj_as [(124, 12, 195, 1, 0, true, 0, [(1, 1), (2, 125), (2, 126), (2, 127), (2, 128), (2, 129), (2, 130), (2, 131), (2, 132), (2, 133), (1, 2), (0, 44), (2, 134), (2, 135), (2, 136), (2, 137), (2, 138), (0, 69), (2, 139), (2, 140), (2, 141), (1, 3), (0, 93), (0, 94), (0, 45), (0, 46), (0, 48), (0, 49), (0, 47), (0, 50), (0, 51), (2, 142), (2, 143), (2, 144), (0, 19), (1, 4), (1, 5), (1, 6), (0, 20), (0, 21), (0, 22), (0, 23), (0, 24), (0, 25), (0, 27), (0, 28), (1, 7), (1, 8), (1, 9), (1, 10), (1, 11), (0, 26), (2, 145), (2, 146), (2, 147), (2, 148), (2, 149), (2, 150), (2, 151), (2, 152), (2, 153), (2, 154), (2, 155), (2, 156), (2, 157), (2, 158), (2, 159), (0, 57), (0, 58), (0, 59), (0, 60), (2, 160), (2, 161), (2, 162), (2, 163), (1, 12), (1, 13), (0, 95), (0, 73), (0, 74), (0, 71), (0, 72), (0, 75), (0, 76), (0, 77), (0, 80), (0, 78), (0, 79), (1, 14), (0, 29), (0, 30), (0, 31), (0, 34), (0, 35), (0, 32), (0, 33), (0, 36), (0, 37), (0, 38), (0, 39), (0, 40), (1, 15), (1, 16), (0, 43), (0, 41), (0, 42), (2, 164), (0, 96), (0, 89), (0, 90), (0, 91), (0, 92), (2, 165), (2, 166), (2, 167), (2, 168), (2, 169), (2, 170), (2, 171), (2, 172), (0, 87), (2, 173), (0, 88), (2, 174), (0, 62), (1, 17), (0, 66), (0, 63), (0, 64), (0, 65), (0, 67), (1, 18), (0, 68), (2, 175), (1, 19), (0, 52), (0, 53), (0, 54), (0, 55), (2, 176), (0, 56), (0, 85), (0, 86), (0, 81), (0, 82), (0, 83), (0, 84), (2, 177), (2, 178), (2, 179), (1, 20), (2, 180), (0, 6), (0, 7), (0, 8), (0, 16), (0, 17), (0, 61), (0, 9), (0, 10), (1, 21), (1, 22), (0, 11), (0, 12), (0, 13), (0, 18), (0, 14), (0, 15), (2, 181), (0, 70), (1, 23), (2, 182), (2, 183), (0, 1), (1, 24), (2, 184), (2, 185), (1, 25), (0, 2), (2, 186), (2, 187), (1, 26), (2, 188), (2, 189), (1, 27), (1, 28), (2, 190), (2, 191), (1, 29), (0, 3), (2, 192), (0, 4), (0, 5), (1, 30), (2, 193)]), (180, 100, 8, 1, 0, false, 12000, [])]), (pj_as [(194, 12, 151, 2, true), (259, 12, 0, 0, false), (381, 12, 153, 3, false), (519, 12, 23, 0, false)]), (fun _ => none), (pj_as [(1035, 2047)]), (fun _ => none), ic_X, 5, 2, pj_mI, (pj_as [(7, ph_X12_isIn), (111, ph_X12_percentage), (126, ph_X12_opens)]), fun _ => false)
abbrev pk_X12_frameComes : List (Nat × List (Nat × Instr × Nat)) := [(0, [(0, .aload_n 0, 1), (1, .iload_n 1, 1), (2, .i2l, 1), (3, .lconst 0, 1), (4, .ldc2_w 1035, 3), (7, .invokestatic 568, 3), (10, .ifCond .ne 7, 3)]), (13, [(13, .iconst 1, 1), (14, .goto 4, 3)]), (17, [(17, .iconst 0, 1)]), (18, [(18, .putfield 259, 3), (21, .aload_n 0, 1), (22, .getfield 259, 3), (25, .ifCond .gt 17, 3)]), (28, [(28, .aload_n 0, 1), (29, .getfield 519, 3), (32, .ifCond .eq 10, 3)]), (35, [(35, .aload_n 0, 1), (36, .getfield 381, 3), (39, .ifCond .eq 5, 3)]), (42, [(42, .iconst 0, 1), (43, .ireturn, 1)]), (44, [(44, .iconst 0, 1), (45, .istore 4, 2)]), (47, [(47, .iload 4, 2), (49, .iconst 4, 1), (50, .if_icmp .ge 53, 3)]), (53, [(53, .aload_n 0, 1), (54, .getfield 194, 3), (57, .iload 4, 2), (59, .iload_n 2, 1), (60, .bipush 24, 2), (62, .bipush 8, 2), (64, .iload 4, 2), (66, .imul, 1), (67, .isub, 1), (68, .ishr, 1), (69, .sipush 255, 3), (72, .iand, 1), (73, .iastore, 1), (74, .aload_n 0, 1), (75, .getfield 194, 3), (78, .iconst 4, 1), (79, .iload 4, 2), (81, .iadd, 1), (82, .iload_n 3, 1), (83, .bipush 24, 2), (85, .bipush 8, 2), (87, .iload 4, 2), (89, .imul, 1), (90, .isub, 1), (91, .ishr, 1), (92, .sipush 255, 3), (95, .iand, 1), (96, .iastore, 1), (97, .iinc 4 1, 3), (100, .goto (-53), 3)]), (103, [(103, .iload_n 1, 1), (104, .sipush 336, 3), (107, .if_icmp .ne 10, 3)]), (110, [(110, .aload_n 0, 1), (111, .invokevirtual 1037, 3), (114, .goto 23, 3)]), (117, [(117, .iload_n 1, 1), (118, .sipush 1281, 3), (121, .if_icmp .ne 15, 3)]), (124, [(124, .aload_n 0, 1), (125, .iload_n 2, 1), (126, .invokevirtual 1040, 3), (129, .ifCond .eq 7, 3)]), (132, [(132, .iconst 1, 1), (133, .goto 4, 3)]), (136, [(136, .iconst 0, 1)]), (137, [(137, .ireturn, 1)])]
set_option maxRecDepth 100000 in
theorem pq_X12_frameComes_47 (fu : Nat)  (n : Nat) (a1 : Int32) (a2 : Int32) (a3 : Int32) (a4 : Int32) (s : Nat → Int32) (l : Nat → Int64) (x : Nat → Int32) (y : Nat → Int64) : pl_X12_frameComes_47 fu (n + 1) a1 a2 a3 a4 s l x y = pj_bl px_X12_frameComes (pj_rn px_X12_frameComes (pj_as pk_X12_frameComes) (pj_as [(47, pe_X12_frameComes_47 (pl_X12_frameComes_47 fu n))]) 60) [(47, .iload 4, 2), (49, .iconst 4, 1), (50, .if_icmp .ge 53, 3)] 47 [(0, pj_O (124, 0)), (1, pj_I a1), (2, pj_I a2), (3, pj_I a3), (4, pj_I a4)] [] (s, l, x, y) := rfl
set_option maxRecDepth 100000 in
theorem pq_X12_frameComes_18 (fu : Nat)  (a1 : Int32) (a2 : Int32) (a3 : Int32) (b1 : Int32) (s : Nat → Int32) (l : Nat → Int64) (x : Nat → Int32) (y : Nat → Int64) : pl_X12_frameComes_18 fu a1 a2 a3 b1 s l x y = pj_bl px_X12_frameComes (pj_rn px_X12_frameComes (pj_as pk_X12_frameComes) (pj_as [(47, pe_X12_frameComes_47 (pl_X12_frameComes_47 fu fu))]) 60) [(18, .putfield 259, 3), (21, .aload_n 0, 1), (22, .getfield 259, 3), (25, .ifCond .gt 17, 3)] 18 [(0, pj_O (124, 0)), (1, pj_I a1), (2, pj_I a2), (3, pj_I a3)] [pj_I b1, pj_O (124, 0)] (s, l, x, y) := rfl
set_option maxRecDepth 100000 in
theorem pq_X12_frameComes_m (fu : Nat)  (a1 : Int32) (a2 : Int32) (a3 : Int32) (s : Nat → Int32) (l : Nat → Int64) (x : Nat → Int32) (y : Nat → Int64) : po_X12_frameComes fu a1 a2 a3 s l x y = pj_bl px_X12_frameComes (pj_rn px_X12_frameComes (pj_as pk_X12_frameComes) (pj_as [(18, pe_X12_frameComes_18 (pl_X12_frameComes_18 fu))]) 60) [(0, .aload_n 0, 1), (1, .iload_n 1, 1), (2, .i2l, 1), (3, .lconst 0, 1), (4, .ldc2_w 1035, 3), (7, .invokestatic 568, 3), (10, .ifCond .ne 7, 3)] 0 [(0, pj_O (124, 0)), (1, pj_I a1), (2, pj_I a2), (3, pj_I a3)] [] (s, l, x, y) := rfl
theorem pu_X12_frameComes_18 {lf : pj_Z → mj_M} {a : Int32 × pj_Z} (f : Int32 → Int32 → Int32 → Int32 → pj_F (Int32 × pj_Z)) (hf : ∀ (a1 : Int32) (a2 : Int32) (a3 : Int32) (b1 : Int32) (s : Nat → Int32) (l : Nat → Int64) (x : Nat → Int32) (y : Nat → Int64), f a1 a2 a3 b1 s l x y = some a → pm_Gd 2 12141 ie_X12_frameComes.1 pm_rI lf 18 [(0, .ref 124), (1, .int a1), (2, .int a2), (3, .int a3)] [.int b1, .ref 124] (s, l, x, y) a) : pm_Ex 2 12141 ie_X12_frameComes.1 pm_rI lf a 18 (pe_X12_frameComes_18 f) := by
  intro lv st z hd h
  obtain ⟨g0, h⟩ := pj_xr_inv h
  obtain ⟨a1, g1, h⟩ := pj_xi_inv h
  obtain ⟨a2, g2, h⟩ := pj_xi_inv h
  obtain ⟨a3, g3, h⟩ := pj_xi_inv h
  obtain ⟨b1, r1, e1, h⟩ := pj_pi_inv h
  obtain ⟨r0, e0, h⟩ := pj_pr_inv h
  obtain ⟨e9, h⟩ := pj_pe_inv h
  rw [e1, e0, e9]
  exact mj_wp_sub (mj_sub_cons g0 (mj_sub_cons g1 (mj_sub_cons g2 (mj_sub_cons g3 (mj_sub_nil hd))))) (hf _ _ _ _ _ _ _ _ h)
theorem pu_X12_frameComes_47 {lf : pj_Z → mj_M} {a : Int32 × pj_Z} (f : Int32 → Int32 → Int32 → Int32 → pj_F (Int32 × pj_Z)) (hf : ∀ (a1 : Int32) (a2 : Int32) (a3 : Int32) (a4 : Int32) (s : Nat → Int32) (l : Nat → Int64) (x : Nat → Int32) (y : Nat → Int64), f a1 a2 a3 a4 s l x y = some a → pm_Gd 2 12141 ie_X12_frameComes.1 pm_rI lf 47 [(0, .ref 124), (1, .int a1), (2, .int a2), (3, .int a3), (4, .int a4)] [] (s, l, x, y) a) : pm_Ex 2 12141 ie_X12_frameComes.1 pm_rI lf a 47 (pe_X12_frameComes_47 f) := by
  intro lv st z hd h
  obtain ⟨g0, h⟩ := pj_xr_inv h
  obtain ⟨a1, g1, h⟩ := pj_xi_inv h
  obtain ⟨a2, g2, h⟩ := pj_xi_inv h
  obtain ⟨a3, g3, h⟩ := pj_xi_inv h
  obtain ⟨a4, g4, h⟩ := pj_xi_inv h
  obtain ⟨e9, h⟩ := pj_pe_inv h
  rw [e9]
  exact mj_wp_sub (mj_sub_cons g0 (mj_sub_cons g1 (mj_sub_cons g2 (mj_sub_cons g3 (mj_sub_cons g4 (mj_sub_nil hd)))))) (hf _ _ _ _ _ _ _ _ h)
set_option maxRecDepth 100000 in
theorem pz_X12_frameComes {lf : pj_Z → mj_M} (hT : pj_Lt pj_TR lf) : pj_Cok ic_P (mj_R ic_P 2) 12141 ie_X12_frameComes.1 (pm_OK lf pm_rI) lf px_X12_frameComes := by
  exact pm_cok (c := px_X12_frameComes) (pm_part hT (pj_as_all (p := fun b e => pj_TR b = some e) (List.forall_mem_cons.mpr ⟨rfl, (List.forall_mem_cons.mpr ⟨rfl, (fun _ h => by cases h)⟩)⟩))) (pm_in_ok (L := [(194, 12, 151, 2, true), (259, 12, 0, 0, false), (381, 12, 153, 3, false), (519, 12, 23, 0, false)]) (f := mj_pF ic_P 12141) (by decide +kernel)) (fun _ _ h => by cases h) (pm_inL_ok (L := [(1035, 2047)]) (f := mj_pL ic_P 12141) (by decide +kernel)) (fun _ _ h => by cases h) rfl rfl ⟨by decide, rfl⟩ pm_mI (pj_as_all (p := pm_Cl 2 12141 ie_X12_frameComes.1 lf (pm_OK lf pm_rI)) (List.forall_mem_cons.mpr ⟨fun _ _ lv st z K a hK h => pc_X12_isIn hT (by decide) (ix := 568) rfl rfl hK h, (List.forall_mem_cons.mpr ⟨fun _ _ lv st z K a hK h => pc_X12_percentage hT (by decide) (ix := 1037) rfl rfl hK h, (List.forall_mem_cons.mpr ⟨fun _ _ lv st z K a hK h => pc_X12_opens hT (by decide) (ix := 1040) rfl rfl hK h, (fun _ h => by cases h)⟩)⟩)⟩)) (fun _ h => by cases h)
set_option maxRecDepth 100000 in
theorem pb_X12_frameComes : pm_bks ie_X12_frameComes.1.2.2.2.2 pk_X12_frameComes = true := by decide +kernel
set_option maxRecDepth 100000 in
theorem pg_X12_frameComes_47 {fu : Nat} {lf : pj_Z → mj_M} (hT : pj_Lt pj_TR lf) : ∀ (n : Nat), ∀ (a1 : Int32) (a2 : Int32) (a3 : Int32) (a4 : Int32) (s : Nat → Int32) (l : Nat → Int64) (x : Nat → Int32) (y : Nat → Int64) (a : Int32 × pj_Z), pl_X12_frameComes_47 fu n a1 a2 a3 a4 s l x y = some a → pm_Gd 2 12141 ie_X12_frameComes.1 pm_rI lf 47 [(0, .ref 124), (1, .int a1), (2, .int a2), (3, .int a3), (4, .int a4)] [] (s, l, x, y) a := by
  intro n
  induction n with
  | zero => intro a1 a2 a3 a4 s l x y a h; cases (show (none : Option (Int32 × pj_Z)) = some a from h)
  | succ n ih =>
    intro a1 a2 a3 a4 s l x y a h
    exact pm_run ((pq_X12_frameComes_47 fu n a1 a2 a3 a4 s l x y).symm.trans h) (pz_X12_frameComes hT) (pm_bks_ok pb_X12_frameComes) (pm_bks_ok pb_X12_frameComes _ _ rfl) (pm_ndb_ok rfl) (pj_as_all (p := pm_Ex 2 12141 ie_X12_frameComes.1 pm_rI lf a) (List.forall_mem_cons.mpr ⟨pu_X12_frameComes_47 _ (fun c0 c1 c2 c3 s l x y h => ih c0 c1 c2 c3 s l x y _ h), (fun _ h => by cases h)⟩))
set_option maxRecDepth 100000 in
theorem pg_X12_frameComes_18 {fu : Nat} {lf : pj_Z → mj_M} (hT : pj_Lt pj_TR lf) : ∀ (a1 : Int32) (a2 : Int32) (a3 : Int32) (b1 : Int32) (s : Nat → Int32) (l : Nat → Int64) (x : Nat → Int32) (y : Nat → Int64) (a : Int32 × pj_Z), pl_X12_frameComes_18 fu a1 a2 a3 b1 s l x y = some a → pm_Gd 2 12141 ie_X12_frameComes.1 pm_rI lf 18 [(0, .ref 124), (1, .int a1), (2, .int a2), (3, .int a3)] [.int b1, .ref 124] (s, l, x, y) a := by
  intro a1 a2 a3 b1 s l x y a h
  exact pm_run ((pq_X12_frameComes_18 fu a1 a2 a3 b1 s l x y).symm.trans h) (pz_X12_frameComes hT) (pm_bks_ok pb_X12_frameComes) (pm_bks_ok pb_X12_frameComes _ _ rfl) (pm_ndb_ok rfl) (pj_as_all (p := pm_Ex 2 12141 ie_X12_frameComes.1 pm_rI lf a) (List.forall_mem_cons.mpr ⟨pu_X12_frameComes_47 _ (fun c0 c1 c2 c3 s l x y h => pg_X12_frameComes_47 hT _ c0 c1 c2 c3 s l x y _ h), (fun _ h => by cases h)⟩))
set_option maxRecDepth 100000 in
theorem pm_X12_frameComes {lf : pj_Z → mj_M} (hT : pj_Lt pj_TR lf) (a1 : Int32) (a2 : Int32) (a3 : Int32) (s : Nat → Int32) (l : Nat → Int64) (x : Nat → Int32) (y : Nat → Int64) (a : Int32 × pj_Z) (h : pf_X12_frameComes a1 a2 a3 s l x y = some a) : mj_R ic_P 3 12141 [.ref 124, .int a1, .int a2, .int a3] (lf (s, l, x, y)) (pm_rI a.1) (lf a.2) := by
  refine pm_main (Y := ie_X12_frameComes.1) rfl (Nat.le_of_ble_eq_true rfl) ?_
  exact pm_run ((pq_X12_frameComes_m 1000 a1 a2 a3 s l x y).symm.trans h) (pz_X12_frameComes hT) (pm_bks_ok pb_X12_frameComes) (pm_bks_ok pb_X12_frameComes _ _ rfl) (pm_ndb_ok rfl) (pj_as_all (p := pm_Ex 2 12141 ie_X12_frameComes.1 pm_rI lf a) (List.forall_mem_cons.mpr ⟨pu_X12_frameComes_18 _ (fun c0 c1 c2 c3 s l x y h => pg_X12_frameComes_18 hT c0 c1 c2 c3 s l x y _ h), (fun _ h => by cases h)⟩))
abbrev ph_X12_frameComes {A : Type} : List pj_V → pj_Z → (List pj_V → pj_Z → Option A) → Option A := fun st z K => pj_pi st fun a3 st => pj_pi st fun a2 st => pj_pi st fun a1 st => pj_pr st 124 0 fun st => pj_ps st (pj_b (pf_X12_frameComes a1 a2 a3 z.1 z.2.1 z.2.2.1 z.2.2.2) fun r s l x y => K (pj_I r :: st) (s, l, x, y))
set_option maxRecDepth 100000 in
theorem pc_X12_frameComes {A : Type} {OK : A → Option Value → mj_M → Prop} {d j pc ix : Nat} {Y : mj_Y} {lf : pj_Z → mj_M} (hT : pj_Lt pj_TR lf) (hd : 3 ≤ d) (hl : mj_lk Y.2.2.2.2 pc = some (.invokevirtual ix, 3)) (hg : mj_pG ic_P j ix = some (12141, 3, some 12)) {lv : List (Nat × Value)} {st : List pj_V} {z : pj_Z} {K : List pj_V → pj_Z → Option A} {a : A} (hK : ∀ st z, K st z = some a → pj_Gd ic_P (mj_R ic_P d) j Y OK lf (pc + 3) lv (pj_es st) z a) (h : ph_X12_frameComes st z K = some a) : pj_Gd ic_P (mj_R ic_P d) j Y OK lf pc lv (pj_es st) z a := by
  obtain ⟨a3, r3, e3, h⟩ := pj_pi_inv h
  obtain ⟨a2, r2, e2, h⟩ := pj_pi_inv h
  obtain ⟨a1, r1, e1, h⟩ := pj_pi_inv h
  obtain ⟨r0, e0, h⟩ := pj_pr_inv h
  obtain ⟨hs, h⟩ := pj_ps_inv h
  obtain ⟨q, hq, h⟩ := pj_b_inv h
  exact pm_cv (o := 124) hl hg [.int a1, .int a2, .int a3] rfl (by rw [e3, e2, e1, e0]; rfl) hs (by decide) ((hT.2 124 _ rfl).1.2 z 0 (by decide)) (pm_rI q.1) hd (pm_X12_frameComes hT a1 a2 a3 z.1 z.2.1 z.2.2.1 z.2.2.2 q hq) rfl (hK _ _ h)
abbrev pe_X12_sent_21 (f : Int32 → Int32 → Int64 → pj_F (Int32 × pj_Z)) : pj_K (Int32 × pj_Z) := fun lv st z => pj_xr lv 0 124 0 <| pj_xi lv 1 fun a1 => pj_xi lv 2 fun a2 => pj_pl st fun b0 st => pj_pe st (f a1 a2 b0 z.1 z.2.1 z.2.2.1 z.2.2.2)
abbrev pe_X12_sent_47 (f : Int32 → Int32 → Int64 → pj_F (Int32 × pj_Z)) : pj_K (Int32 × pj_Z) := fun lv st z => pj_xr lv 0 124 0 <| pj_xi lv 1 fun a1 => pj_xi lv 2 fun a2 => pj_xl lv 3 fun a3 => pj_pr st 124 0 fun st => pj_pe st (f a1 a2 a3 z.1 z.2.1 z.2.2.1 z.2.2.2)
abbrev pe_X12_sent_52 (f : Int32 → Int32 → Int64 → Int32 → pj_F (Int32 × pj_Z)) : pj_K (Int32 × pj_Z) := fun lv st z => pj_xr lv 0 124 0 <| pj_xi lv 1 fun a1 => pj_xi lv 2 fun a2 => pj_xl lv 3 fun a3 => pj_pi st fun b1 st => pj_pr st 124 0 fun st => pj_pe st (f a1 a2 a3 b1 z.1 z.2.1 z.2.2.1 z.2.2.2)
abbrev px_X12_sent : pj_C (Int32 × pj_Z) := ((pj_as [(124, 12, 195, 1, 0, true, 0, [(1, 1), (2, 125), (2, 126), (2, 127), (2, 128), (2, 129), (2, 130), (2, 131), (2, 132), (2, 133), (1, 2), (0, 44), (2, 134), (2, 135), (2, 136), (2, 137), (2, 138), (0, 69), (2, 139), (2, 140), (2, 141), (1, 3), (0, 93), (0, 94), (0, 45), (0, 46), (0, 48), (0, 49), (0, 47), (0, 50), (0, 51), (2, 142), (2, 143), (2, 144), (0, 19), (1, 4), (1, 5), (1, 6), (0, 20), (0, 21), (0, 22), (0, 23), (0, 24), (0, 25), (0, 27), (0, 28), (1, 7), (1, 8), (1, 9), (1, 10), (1, 11), (0, 26), (2, 145), (2, 146), (2, 147), (2, 148), (2, 149), (2, 150), (2, 151), (2, 152), (2, 153), (2, 154), (2, 155), (2, 156), (2, 157), (2, 158), (2, 159), (0, 57), (0, 58), (0, 59), (0, 60), (2, 160), (2, 161), (2, 162), (2, 163), (1, 12), (1, 13), (0, 95), (0, 73), (0, 74), (0, 71), (0, 72), (0, 75), (0, 76), (0, 77), (0, 80), (0, 78), (0, 79), (1, 14), (0, 29), (0, 30), (0, 31), (0, 34), (0, 35), (0, 32), (0, 33), (0, 36), (0, 37), (0, 38), (0, 39), (0, 40), (1, 15), (1, 16), (0, 43), (0, 41), (0, 42), (2, 164), (0, 96), (0, 89), (0, 90), (0, 91), (0, 92), (2, 165), (2, 166), (2, 167), (2, 168), (2, 169), (2, 170), (2, 171), (2, 172), (0, 87), (2, 173), (0, 88), (2, 174), (0, 62), (1, 17), (0, 66), (0, 63), (0, 64), (0, 65), (0, 67), (1, 18), (0, 68), (2, 175), (1, 19), (0, 52), (0, 53), (0, 54), (0, 55), (2, 176), (0, 56), (0, 85), (0, 86), (0, 81), (0, 82), (0, 83), (0, 84), (2, 177), (2, 178), (2, 179), (1, 20), (2, 180), (0, 6), (0, 7), (0, 8), (0, 16), (0, 17), (0, 61), (0, 9), (0, 10), (1, 21), (1, 22), (0, 11), (0, 12), (0, 13), (0, 18), (0, 14), (0, 15), (2, 181), (0, 70), (1, 23), (2, 182), (2, 183), (0, 1), (1, 24), (2, 184), (2, 185), (1, 25), (0, 2), (2, 186), (2, 187), (1, 26), (2, 188), (2, 189), (1, 27), (1, 28), (2, 190), (2, 191), (1, 29), (0, 3), (2, 192), (0, 4), (0, 5), (1, 30), (2, 193)]), (177, 100, 64, 1, 0, true, 5000, []), (178, 100, 64, 1, 0, true, 6000, []), (179, 100, 64, 1, 0, true, 7000, [])]), (pj_as [(185, 12, 147, 2, true), (188, 12, 148, 2, true), (191, 12, 149, 2, true), (259, 12, 0, 0, false), (375, 12, 150, 1, false)]), (fun _ => none), (pj_as [(643, 2), (1011, 64)]), (fun _ => none), ic_X, 6, 1, pj_mI, (pj_as [(29, ph_X12_isIn), (41, ph_X12_isIn)]), fun _ => false)
abbrev pk_X12_sent : List (Nat × List (Nat × Instr × Nat)) := [(0, [(0, .aload_n 0, 1), (1, .getfield 375, 3), (4, .ldc2_w 1011, 3), (7, .lcmp, 1), (8, .ifCond .ge 10, 3)]), (11, [(11, .aload_n 0, 1), (12, .getfield 375, 3), (15, .goto 6, 3)]), (18, [(18, .ldc2_w 1011, 3)]), (21, [(21, .lstore_n 3, 1), (22, .aload_n 0, 1), (23, .iload_n 1, 1), (24, .i2l, 1), (25, .lconst 0, 1), (26, .lload_n 3, 1), (27, .lconst 1, 1), (28, .lsub, 1), (29, .invokestatic 568, 3), (32, .ifCond .eq 15, 3)]), (35, [(35, .iload_n 2, 1), (36, .i2l, 1), (37, .lconst 0, 1), (38, .ldc2_w 643, 3), (41, .invokestatic 568, 3), (44, .ifCond .ne 7, 3)]), (47, [(47, .iconst 1, 1), (48, .goto 4, 3)]), (51, [(51, .iconst 0, 1)]), (52, [(52, .putfield 259, 3), (55, .aload_n 0, 1), (56, .getfield 259, 3), (59, .ifCond .le 5, 3)]), (62, [(62, .iconst 0, 1), (63, .ireturn, 1)]), (64, [(64, .aload_n 0, 1), (65, .getfield 375, 3), (68, .lload_n 3, 1), (69, .lsub, 1), (70, .iload_n 1, 1), (71, .i2l, 1), (72, .ladd, 1), (73, .ldc2_w 1011, 3), (76, .lrem, 1), (77, .l2i, 1), (78, .istore 5, 2), (80, .iload_n 2, 1), (81, .ifCond .ne 13, 3)]), (84, [(84, .aload_n 0, 1), (85, .getfield 185, 3), (88, .iload 5, 2), (90, .iaload, 1), (91, .goto 25, 3)]), (94, [(94, .iload_n 2, 1), (95, .iconst 1, 1), (96, .if_icmp .ne 13, 3)]), (99, [(99, .aload_n 0, 1), (100, .getfield 188, 3), (103, .iload 5, 2), (105, .iaload, 1), (106, .goto 10, 3)]), (109, [(109, .aload_n 0, 1), (110, .getfield 191, 3), (113, .iload 5, 2), (115, .iaload, 1)]), (116, [(116, .ireturn, 1)])]
set_option maxRecDepth 100000 in
theorem pq_X12_sent_52  (a1 : Int32) (a2 : Int32) (a3 : Int64) (b1 : Int32) (s : Nat → Int32) (l : Nat → Int64) (x : Nat → Int32) (y : Nat → Int64) : pl_X12_sent_52 a1 a2 a3 b1 s l x y = pj_bl px_X12_sent (pj_rn px_X12_sent (pj_as pk_X12_sent) (fun _ => none) 60) [(52, .putfield 259, 3), (55, .aload_n 0, 1), (56, .getfield 259, 3), (59, .ifCond .le 5, 3)] 52 [(0, pj_O (124, 0)), (1, pj_I a1), (2, pj_I a2), (3, pj_L a3)] [pj_I b1, pj_O (124, 0)] (s, l, x, y) := rfl
set_option maxRecDepth 100000 in
theorem pq_X12_sent_47  (a1 : Int32) (a2 : Int32) (a3 : Int64) (s : Nat → Int32) (l : Nat → Int64) (x : Nat → Int32) (y : Nat → Int64) : pl_X12_sent_47 a1 a2 a3 s l x y = pj_bl px_X12_sent (pj_rn px_X12_sent (pj_as pk_X12_sent) (pj_as [(52, pe_X12_sent_52 (pl_X12_sent_52))]) 60) [(47, .iconst 1, 1), (48, .goto 4, 3)] 47 [(0, pj_O (124, 0)), (1, pj_I a1), (2, pj_I a2), (3, pj_L a3)] [pj_O (124, 0)] (s, l, x, y) := rfl
set_option maxRecDepth 100000 in
theorem pq_X12_sent_21  (a1 : Int32) (a2 : Int32) (b0 : Int64) (s : Nat → Int32) (l : Nat → Int64) (x : Nat → Int32) (y : Nat → Int64) : pl_X12_sent_21 a1 a2 b0 s l x y = pj_bl px_X12_sent (pj_rn px_X12_sent (pj_as pk_X12_sent) (pj_as [(47, pe_X12_sent_47 (pl_X12_sent_47)), (52, pe_X12_sent_52 (pl_X12_sent_52))]) 60) [(21, .lstore_n 3, 1), (22, .aload_n 0, 1), (23, .iload_n 1, 1), (24, .i2l, 1), (25, .lconst 0, 1), (26, .lload_n 3, 1), (27, .lconst 1, 1), (28, .lsub, 1), (29, .invokestatic 568, 3), (32, .ifCond .eq 15, 3)] 21 [(0, pj_O (124, 0)), (1, pj_I a1), (2, pj_I a2)] [pj_L b0] (s, l, x, y) := rfl
set_option maxRecDepth 100000 in
theorem pq_X12_sent_m  (a1 : Int32) (a2 : Int32) (s : Nat → Int32) (l : Nat → Int64) (x : Nat → Int32) (y : Nat → Int64) : pf_X12_sent a1 a2 s l x y = pj_bl px_X12_sent (pj_rn px_X12_sent (pj_as pk_X12_sent) (pj_as [(21, pe_X12_sent_21 (pl_X12_sent_21))]) 60) [(0, .aload_n 0, 1), (1, .getfield 375, 3), (4, .ldc2_w 1011, 3), (7, .lcmp, 1), (8, .ifCond .ge 10, 3)] 0 [(0, pj_O (124, 0)), (1, pj_I a1), (2, pj_I a2)] [] (s, l, x, y) := rfl
theorem pu_X12_sent_21 {lf : pj_Z → mj_M} {a : Int32 × pj_Z} (f : Int32 → Int32 → Int64 → pj_F (Int32 × pj_Z)) (hf : ∀ (a1 : Int32) (a2 : Int32) (b0 : Int64) (s : Nat → Int32) (l : Nat → Int64) (x : Nat → Int32) (y : Nat → Int64), f a1 a2 b0 s l x y = some a → pm_Gd 1 12142 ie_X12_sent.1 pm_rI lf 21 [(0, .ref 124), (1, .int a1), (2, .int a2)] [.long b0] (s, l, x, y) a) : pm_Ex 1 12142 ie_X12_sent.1 pm_rI lf a 21 (pe_X12_sent_21 f) := by
  intro lv st z hd h
  obtain ⟨g0, h⟩ := pj_xr_inv h
  obtain ⟨a1, g1, h⟩ := pj_xi_inv h
  obtain ⟨a2, g2, h⟩ := pj_xi_inv h
  obtain ⟨b0, r0, e0, h⟩ := pj_pl_inv h
  obtain ⟨e9, h⟩ := pj_pe_inv h
  rw [e0, e9]
  exact mj_wp_sub (mj_sub_cons g0 (mj_sub_cons g1 (mj_sub_cons g2 (mj_sub_nil hd)))) (hf _ _ _ _ _ _ _ h)
theorem pu_X12_sent_47 {lf : pj_Z → mj_M} {a : Int32 × pj_Z} (f : Int32 → Int32 → Int64 → pj_F (Int32 × pj_Z)) (hf : ∀ (a1 : Int32) (a2 : Int32) (a3 : Int64) (s : Nat → Int32) (l : Nat → Int64) (x : Nat → Int32) (y : Nat → Int64), f a1 a2 a3 s l x y = some a → pm_Gd 1 12142 ie_X12_sent.1 pm_rI lf 47 [(0, .ref 124), (1, .int a1), (2, .int a2), (3, .long a3)] [.ref 124] (s, l, x, y) a) : pm_Ex 1 12142 ie_X12_sent.1 pm_rI lf a 47 (pe_X12_sent_47 f) := by
  intro lv st z hd h
  obtain ⟨g0, h⟩ := pj_xr_inv h
  obtain ⟨a1, g1, h⟩ := pj_xi_inv h
  obtain ⟨a2, g2, h⟩ := pj_xi_inv h
  obtain ⟨a3, g3, h⟩ := pj_xl_inv h
  obtain ⟨r0, e0, h⟩ := pj_pr_inv h
  obtain ⟨e9, h⟩ := pj_pe_inv h
  rw [e0, e9]
  exact mj_wp_sub (mj_sub_cons g0 (mj_sub_cons g1 (mj_sub_cons g2 (mj_sub_cons g3 (mj_sub_nil hd))))) (hf _ _ _ _ _ _ _ h)
theorem pu_X12_sent_52 {lf : pj_Z → mj_M} {a : Int32 × pj_Z} (f : Int32 → Int32 → Int64 → Int32 → pj_F (Int32 × pj_Z)) (hf : ∀ (a1 : Int32) (a2 : Int32) (a3 : Int64) (b1 : Int32) (s : Nat → Int32) (l : Nat → Int64) (x : Nat → Int32) (y : Nat → Int64), f a1 a2 a3 b1 s l x y = some a → pm_Gd 1 12142 ie_X12_sent.1 pm_rI lf 52 [(0, .ref 124), (1, .int a1), (2, .int a2), (3, .long a3)] [.int b1, .ref 124] (s, l, x, y) a) : pm_Ex 1 12142 ie_X12_sent.1 pm_rI lf a 52 (pe_X12_sent_52 f) := by
  intro lv st z hd h
  obtain ⟨g0, h⟩ := pj_xr_inv h
  obtain ⟨a1, g1, h⟩ := pj_xi_inv h
  obtain ⟨a2, g2, h⟩ := pj_xi_inv h
  obtain ⟨a3, g3, h⟩ := pj_xl_inv h
  obtain ⟨b1, r1, e1, h⟩ := pj_pi_inv h
  obtain ⟨r0, e0, h⟩ := pj_pr_inv h
  obtain ⟨e9, h⟩ := pj_pe_inv h
  rw [e1, e0, e9]
  exact mj_wp_sub (mj_sub_cons g0 (mj_sub_cons g1 (mj_sub_cons g2 (mj_sub_cons g3 (mj_sub_nil hd))))) (hf _ _ _ _ _ _ _ _ h)
set_option maxRecDepth 100000 in
theorem pz_X12_sent {lf : pj_Z → mj_M} (hT : pj_Lt pj_TR lf) : pj_Cok ic_P (mj_R ic_P 1) 12142 ie_X12_sent.1 (pm_OK lf pm_rI) lf px_X12_sent := by
  exact pm_cok (c := px_X12_sent) (pm_part hT (pj_as_all (p := fun b e => pj_TR b = some e) (List.forall_mem_cons.mpr ⟨rfl, (List.forall_mem_cons.mpr ⟨rfl, (List.forall_mem_cons.mpr ⟨rfl, (List.forall_mem_cons.mpr ⟨rfl, (fun _ h => by cases h)⟩)⟩)⟩)⟩))) (pm_in_ok (L := [(185, 12, 147, 2, true), (188, 12, 148, 2, true), (191, 12, 149, 2, true), (259, 12, 0, 0, false), (375, 12, 150, 1, false)]) (f := mj_pF ic_P 12142) (by decide +kernel)) (fun _ _ h => by cases h) (pm_inL_ok (L := [(643, 2), (1011, 64)]) (f := mj_pL ic_P 12142) (by decide +kernel)) (fun _ _ h => by cases h) rfl rfl ⟨by decide, rfl⟩ pm_mI (pj_as_all (p := pm_Cl 1 12142 ie_X12_sent.1 lf (pm_OK lf pm_rI)) (List.forall_mem_cons.mpr ⟨fun _ _ lv st z K a hK h => pc_X12_isIn hT (by decide) (ix := 568) rfl rfl hK h, (List.forall_mem_cons.mpr ⟨fun _ _ lv st z K a hK h => pc_X12_isIn hT (by decide) (ix := 568) rfl rfl hK h, (fun _ h => by cases h)⟩)⟩)) (fun _ h => by cases h)
set_option maxRecDepth 100000 in
theorem pb_X12_sent : pm_bks ie_X12_sent.1.2.2.2.2 pk_X12_sent = true := by decide +kernel
set_option maxRecDepth 100000 in
theorem pg_X12_sent_52 {lf : pj_Z → mj_M} (hT : pj_Lt pj_TR lf) : ∀ (a1 : Int32) (a2 : Int32) (a3 : Int64) (b1 : Int32) (s : Nat → Int32) (l : Nat → Int64) (x : Nat → Int32) (y : Nat → Int64) (a : Int32 × pj_Z), pl_X12_sent_52 a1 a2 a3 b1 s l x y = some a → pm_Gd 1 12142 ie_X12_sent.1 pm_rI lf 52 [(0, .ref 124), (1, .int a1), (2, .int a2), (3, .long a3)] [.int b1, .ref 124] (s, l, x, y) a := by
  intro a1 a2 a3 b1 s l x y a h
  exact pm_run ((pq_X12_sent_52  a1 a2 a3 b1 s l x y).symm.trans h) (pz_X12_sent hT) (pm_bks_ok pb_X12_sent) (pm_bks_ok pb_X12_sent _ _ rfl) (pm_ndb_ok rfl) (fun _ _ h => by cases h)
set_option maxRecDepth 100000 in
theorem pg_X12_sent_47 {lf : pj_Z → mj_M} (hT : pj_Lt pj_TR lf) : ∀ (a1 : Int32) (a2 : Int32) (a3 : Int64) (s : Nat → Int32) (l : Nat → Int64) (x : Nat → Int32) (y : Nat → Int64) (a : Int32 × pj_Z), pl_X12_sent_47 a1 a2 a3 s l x y = some a → pm_Gd 1 12142 ie_X12_sent.1 pm_rI lf 47 [(0, .ref 124), (1, .int a1), (2, .int a2), (3, .long a3)] [.ref 124] (s, l, x, y) a := by
  intro a1 a2 a3 s l x y a h
  exact pm_run ((pq_X12_sent_47  a1 a2 a3 s l x y).symm.trans h) (pz_X12_sent hT) (pm_bks_ok pb_X12_sent) (pm_bks_ok pb_X12_sent _ _ rfl) (pm_ndb_ok rfl) (pj_as_all (p := pm_Ex 1 12142 ie_X12_sent.1 pm_rI lf a) (List.forall_mem_cons.mpr ⟨pu_X12_sent_52 _ (fun c0 c1 c2 c3 s l x y h => pg_X12_sent_52 hT c0 c1 c2 c3 s l x y _ h), (fun _ h => by cases h)⟩))
set_option maxRecDepth 100000 in
theorem pg_X12_sent_21 {lf : pj_Z → mj_M} (hT : pj_Lt pj_TR lf) : ∀ (a1 : Int32) (a2 : Int32) (b0 : Int64) (s : Nat → Int32) (l : Nat → Int64) (x : Nat → Int32) (y : Nat → Int64) (a : Int32 × pj_Z), pl_X12_sent_21 a1 a2 b0 s l x y = some a → pm_Gd 1 12142 ie_X12_sent.1 pm_rI lf 21 [(0, .ref 124), (1, .int a1), (2, .int a2)] [.long b0] (s, l, x, y) a := by
  intro a1 a2 b0 s l x y a h
  exact pm_run ((pq_X12_sent_21  a1 a2 b0 s l x y).symm.trans h) (pz_X12_sent hT) (pm_bks_ok pb_X12_sent) (pm_bks_ok pb_X12_sent _ _ rfl) (pm_ndb_ok rfl) (pj_as_all (p := pm_Ex 1 12142 ie_X12_sent.1 pm_rI lf a) (List.forall_mem_cons.mpr ⟨pu_X12_sent_47 _ (fun c0 c1 c2 s l x y h => pg_X12_sent_47 hT c0 c1 c2 s l x y _ h), (List.forall_mem_cons.mpr ⟨pu_X12_sent_52 _ (fun c0 c1 c2 c3 s l x y h => pg_X12_sent_52 hT c0 c1 c2 c3 s l x y _ h), (fun _ h => by cases h)⟩)⟩))
set_option maxRecDepth 100000 in
theorem pm_X12_sent {lf : pj_Z → mj_M} (hT : pj_Lt pj_TR lf) (a1 : Int32) (a2 : Int32) (s : Nat → Int32) (l : Nat → Int64) (x : Nat → Int32) (y : Nat → Int64) (a : Int32 × pj_Z) (h : pf_X12_sent a1 a2 s l x y = some a) : mj_R ic_P 2 12142 [.ref 124, .int a1, .int a2] (lf (s, l, x, y)) (pm_rI a.1) (lf a.2) := by
  refine pm_main (Y := ie_X12_sent.1) rfl (Nat.le_of_ble_eq_true rfl) ?_
  exact pm_run ((pq_X12_sent_m a1 a2 s l x y).symm.trans h) (pz_X12_sent hT) (pm_bks_ok pb_X12_sent) (pm_bks_ok pb_X12_sent _ _ rfl) (pm_ndb_ok rfl) (pj_as_all (p := pm_Ex 1 12142 ie_X12_sent.1 pm_rI lf a) (List.forall_mem_cons.mpr ⟨pu_X12_sent_21 _ (fun c0 c1 c2 s l x y h => pg_X12_sent_21 hT c0 c1 c2 s l x y _ h), (fun _ h => by cases h)⟩))
abbrev ph_X12_sent {A : Type} : List pj_V → pj_Z → (List pj_V → pj_Z → Option A) → Option A := fun st z K => pj_pi st fun a2 st => pj_pi st fun a1 st => pj_pr st 124 0 fun st => pj_ps st (pj_b (pf_X12_sent a1 a2 z.1 z.2.1 z.2.2.1 z.2.2.2) fun r s l x y => K (pj_I r :: st) (s, l, x, y))
set_option maxRecDepth 100000 in
theorem pc_X12_sent {A : Type} {OK : A → Option Value → mj_M → Prop} {d j pc ix : Nat} {Y : mj_Y} {lf : pj_Z → mj_M} (hT : pj_Lt pj_TR lf) (hd : 2 ≤ d) (hl : mj_lk Y.2.2.2.2 pc = some (.invokevirtual ix, 3)) (hg : mj_pG ic_P j ix = some (12142, 2, some 12)) {lv : List (Nat × Value)} {st : List pj_V} {z : pj_Z} {K : List pj_V → pj_Z → Option A} {a : A} (hK : ∀ st z, K st z = some a → pj_Gd ic_P (mj_R ic_P d) j Y OK lf (pc + 3) lv (pj_es st) z a) (h : ph_X12_sent st z K = some a) : pj_Gd ic_P (mj_R ic_P d) j Y OK lf pc lv (pj_es st) z a := by
  obtain ⟨a2, r2, e2, h⟩ := pj_pi_inv h
  obtain ⟨a1, r1, e1, h⟩ := pj_pi_inv h
  obtain ⟨r0, e0, h⟩ := pj_pr_inv h
  obtain ⟨hs, h⟩ := pj_ps_inv h
  obtain ⟨q, hq, h⟩ := pj_b_inv h
  exact pm_cv (o := 124) hl hg [.int a1, .int a2] rfl (by rw [e2, e1, e0]; rfl) hs (by decide) ((hT.2 124 _ rfl).1.2 z 0 (by decide)) (pm_rI q.1) hd (pm_X12_sent hT a1 a2 z.1 z.2.1 z.2.2.1 z.2.2.2 q hq) rfl (hK _ _ h)
abbrev pe_X12_noise_18 (f : Int32 → Int32 → pj_F (Int32 × pj_Z)) : pj_K (Int32 × pj_Z) := fun lv st z => pj_xr lv 0 124 0 <| pj_xi lv 1 fun a1 => pj_pi st fun b1 st => pj_pr st 124 0 fun st => pj_pe st (f a1 b1 z.1 z.2.1 z.2.2.1 z.2.2.2)
abbrev px_X12_noise : pj_C (Int32 × pj_Z) := ((pj_as [(124, 12, 195, 1, 0, true, 0, [(1, 1), (2, 125), (2, 126), (2, 127), (2, 128), (2, 129), (2, 130), (2, 131), (2, 132), (2, 133), (1, 2), (0, 44), (2, 134), (2, 135), (2, 136), (2, 137), (2, 138), (0, 69), (2, 139), (2, 140), (2, 141), (1, 3), (0, 93), (0, 94), (0, 45), (0, 46), (0, 48), (0, 49), (0, 47), (0, 50), (0, 51), (2, 142), (2, 143), (2, 144), (0, 19), (1, 4), (1, 5), (1, 6), (0, 20), (0, 21), (0, 22), (0, 23), (0, 24), (0, 25), (0, 27), (0, 28), (1, 7), (1, 8), (1, 9), (1, 10), (1, 11), (0, 26), (2, 145), (2, 146), (2, 147), (2, 148), (2, 149), (2, 150), (2, 151), (2, 152), (2, 153), (2, 154), (2, 155), (2, 156), (2, 157), (2, 158), (2, 159), (0, 57), (0, 58), (0, 59), (0, 60), (2, 160), (2, 161), (2, 162), (2, 163), (1, 12), (1, 13), (0, 95), (0, 73), (0, 74), (0, 71), (0, 72), (0, 75), (0, 76), (0, 77), (0, 80), (0, 78), (0, 79), (1, 14), (0, 29), (0, 30), (0, 31), (0, 34), (0, 35), (0, 32), (0, 33), (0, 36), (0, 37), (0, 38), (0, 39), (0, 40), (1, 15), (1, 16), (0, 43), (0, 41), (0, 42), (2, 164), (0, 96), (0, 89), (0, 90), (0, 91), (0, 92), (2, 165), (2, 166), (2, 167), (2, 168), (2, 169), (2, 170), (2, 171), (2, 172), (0, 87), (2, 173), (0, 88), (2, 174), (0, 62), (1, 17), (0, 66), (0, 63), (0, 64), (0, 65), (0, 67), (1, 18), (0, 68), (2, 175), (1, 19), (0, 52), (0, 53), (0, 54), (0, 55), (2, 176), (0, 56), (0, 85), (0, 86), (0, 81), (0, 82), (0, 83), (0, 84), (2, 177), (2, 178), (2, 179), (1, 20), (2, 180), (0, 6), (0, 7), (0, 8), (0, 16), (0, 17), (0, 61), (0, 9), (0, 10), (1, 21), (1, 22), (0, 11), (0, 12), (0, 13), (0, 18), (0, 14), (0, 15), (2, 181), (0, 70), (1, 23), (2, 182), (2, 183), (0, 1), (1, 24), (2, 184), (2, 185), (1, 25), (0, 2), (2, 186), (2, 187), (1, 26), (2, 188), (2, 189), (1, 27), (1, 28), (2, 190), (2, 191), (1, 29), (0, 3), (2, 192), (0, 4), (0, 5), (1, 30), (2, 193)])]), (pj_as [(259, 12, 0, 0, false), (378, 12, 152, 0, false), (381, 12, 153, 3, false), (384, 12, 154, 0, false), (519, 12, 23, 0, false)]), (fun _ => none), (pj_as [(1043, 300)]), (fun _ => none), ic_X, 2, 1, pj_mI, (pj_as [(7, ph_X12_isIn)]), fun _ => false)
abbrev pk_X12_noise : List (Nat × List (Nat × Instr × Nat)) := [(0, [(0, .aload_n 0, 1), (1, .iload_n 1, 1), (2, .i2l, 1), (3, .lconst 0, 1), (4, .ldc2_w 1043, 3), (7, .invokestatic 568, 3), (10, .ifCond .ne 7, 3)]), (13, [(13, .iconst 1, 1), (14, .goto 4, 3)]), (17, [(17, .iconst 0, 1)]), (18, [(18, .putfield 259, 3), (21, .aload_n 0, 1), (22, .getfield 259, 3), (25, .ifCond .le 5, 3)]), (28, [(28, .iconst 0, 1), (29, .ireturn, 1)]), (30, [(30, .aload_n 0, 1), (31, .getfield 519, 3), (34, .ifCond .eq 40, 3)]), (37, [(37, .aload_n 0, 1), (38, .getfield 381, 3), (41, .ifCond .ne 33, 3)]), (44, [(44, .aload_n 0, 1), (45, .aload_n 0, 1), (46, .getfield 378, 3), (49, .iload_n 1, 1), (50, .iadd, 1), (51, .putfield 378, 3), (54, .aload_n 0, 1), (55, .getfield 378, 3), (58, .sipush 256, 3), (61, .if_icmp .lt 13, 3)]), (64, [(64, .aload_n 0, 1), (65, .iconst 1, 1), (66, .putfield 381, 3), (69, .aload_n 0, 1), (70, .iconst 0, 1), (71, .putfield 384, 3)]), (74, [(74, .aload_n 0, 1), (75, .getfield 378, 3), (78, .ireturn, 1)])]
set_option maxRecDepth 100000 in
theorem pq_X12_noise_18  (a1 : Int32) (b1 : Int32) (s : Nat → Int32) (l : Nat → Int64) (x : Nat → Int32) (y : Nat → Int64) : pl_X12_noise_18 a1 b1 s l x y = pj_bl px_X12_noise (pj_rn px_X12_noise (pj_as pk_X12_noise) (fun _ => none) 60) [(18, .putfield 259, 3), (21, .aload_n 0, 1), (22, .getfield 259, 3), (25, .ifCond .le 5, 3)] 18 [(0, pj_O (124, 0)), (1, pj_I a1)] [pj_I b1, pj_O (124, 0)] (s, l, x, y) := rfl
set_option maxRecDepth 100000 in
theorem pq_X12_noise_m  (a1 : Int32) (s : Nat → Int32) (l : Nat → Int64) (x : Nat → Int32) (y : Nat → Int64) : pf_X12_noise a1 s l x y = pj_bl px_X12_noise (pj_rn px_X12_noise (pj_as pk_X12_noise) (pj_as [(18, pe_X12_noise_18 (pl_X12_noise_18))]) 60) [(0, .aload_n 0, 1), (1, .iload_n 1, 1), (2, .i2l, 1), (3, .lconst 0, 1), (4, .ldc2_w 1043, 3), (7, .invokestatic 568, 3), (10, .ifCond .ne 7, 3)] 0 [(0, pj_O (124, 0)), (1, pj_I a1)] [] (s, l, x, y) := rfl
theorem pu_X12_noise_18 {lf : pj_Z → mj_M} {a : Int32 × pj_Z} (f : Int32 → Int32 → pj_F (Int32 × pj_Z)) (hf : ∀ (a1 : Int32) (b1 : Int32) (s : Nat → Int32) (l : Nat → Int64) (x : Nat → Int32) (y : Nat → Int64), f a1 b1 s l x y = some a → pm_Gd 1 12143 ie_X12_noise.1 pm_rI lf 18 [(0, .ref 124), (1, .int a1)] [.int b1, .ref 124] (s, l, x, y) a) : pm_Ex 1 12143 ie_X12_noise.1 pm_rI lf a 18 (pe_X12_noise_18 f) := by
  intro lv st z hd h
  obtain ⟨g0, h⟩ := pj_xr_inv h
  obtain ⟨a1, g1, h⟩ := pj_xi_inv h
  obtain ⟨b1, r1, e1, h⟩ := pj_pi_inv h
  obtain ⟨r0, e0, h⟩ := pj_pr_inv h
  obtain ⟨e9, h⟩ := pj_pe_inv h
  rw [e1, e0, e9]
  exact mj_wp_sub (mj_sub_cons g0 (mj_sub_cons g1 (mj_sub_nil hd))) (hf _ _ _ _ _ _ h)
set_option maxRecDepth 100000 in
theorem pz_X12_noise {lf : pj_Z → mj_M} (hT : pj_Lt pj_TR lf) : pj_Cok ic_P (mj_R ic_P 1) 12143 ie_X12_noise.1 (pm_OK lf pm_rI) lf px_X12_noise := by
  exact pm_cok (c := px_X12_noise) (pm_part hT (pj_as_all (p := fun b e => pj_TR b = some e) (List.forall_mem_cons.mpr ⟨rfl, (fun _ h => by cases h)⟩))) (pm_in_ok (L := [(259, 12, 0, 0, false), (378, 12, 152, 0, false), (381, 12, 153, 3, false), (384, 12, 154, 0, false), (519, 12, 23, 0, false)]) (f := mj_pF ic_P 12143) (by decide +kernel)) (fun _ _ h => by cases h) (pm_inL_ok (L := [(1043, 300)]) (f := mj_pL ic_P 12143) (by decide +kernel)) (fun _ _ h => by cases h) rfl rfl ⟨by decide, rfl⟩ pm_mI (pj_as_all (p := pm_Cl 1 12143 ie_X12_noise.1 lf (pm_OK lf pm_rI)) (List.forall_mem_cons.mpr ⟨fun _ _ lv st z K a hK h => pc_X12_isIn hT (by decide) (ix := 568) rfl rfl hK h, (fun _ h => by cases h)⟩)) (fun _ h => by cases h)
set_option maxRecDepth 100000 in
theorem pb_X12_noise : pm_bks ie_X12_noise.1.2.2.2.2 pk_X12_noise = true := by decide +kernel
set_option maxRecDepth 100000 in
theorem pg_X12_noise_18 {lf : pj_Z → mj_M} (hT : pj_Lt pj_TR lf) : ∀ (a1 : Int32) (b1 : Int32) (s : Nat → Int32) (l : Nat → Int64) (x : Nat → Int32) (y : Nat → Int64) (a : Int32 × pj_Z), pl_X12_noise_18 a1 b1 s l x y = some a → pm_Gd 1 12143 ie_X12_noise.1 pm_rI lf 18 [(0, .ref 124), (1, .int a1)] [.int b1, .ref 124] (s, l, x, y) a := by
  intro a1 b1 s l x y a h
  exact pm_run ((pq_X12_noise_18  a1 b1 s l x y).symm.trans h) (pz_X12_noise hT) (pm_bks_ok pb_X12_noise) (pm_bks_ok pb_X12_noise _ _ rfl) (pm_ndb_ok rfl) (fun _ _ h => by cases h)
set_option maxRecDepth 100000 in
theorem pm_X12_noise {lf : pj_Z → mj_M} (hT : pj_Lt pj_TR lf) (a1 : Int32) (s : Nat → Int32) (l : Nat → Int64) (x : Nat → Int32) (y : Nat → Int64) (a : Int32 × pj_Z) (h : pf_X12_noise a1 s l x y = some a) : mj_R ic_P 2 12143 [.ref 124, .int a1] (lf (s, l, x, y)) (pm_rI a.1) (lf a.2) := by
  refine pm_main (Y := ie_X12_noise.1) rfl (Nat.le_of_ble_eq_true rfl) ?_
  exact pm_run ((pq_X12_noise_m a1 s l x y).symm.trans h) (pz_X12_noise hT) (pm_bks_ok pb_X12_noise) (pm_bks_ok pb_X12_noise _ _ rfl) (pm_ndb_ok rfl) (pj_as_all (p := pm_Ex 1 12143 ie_X12_noise.1 pm_rI lf a) (List.forall_mem_cons.mpr ⟨pu_X12_noise_18 _ (fun c0 c1 s l x y h => pg_X12_noise_18 hT c0 c1 s l x y _ h), (fun _ h => by cases h)⟩))
abbrev ph_X12_noise {A : Type} : List pj_V → pj_Z → (List pj_V → pj_Z → Option A) → Option A := fun st z K => pj_pi st fun a1 st => pj_pr st 124 0 fun st => pj_ps st (pj_b (pf_X12_noise a1 z.1 z.2.1 z.2.2.1 z.2.2.2) fun r s l x y => K (pj_I r :: st) (s, l, x, y))
set_option maxRecDepth 100000 in
theorem pc_X12_noise {A : Type} {OK : A → Option Value → mj_M → Prop} {d j pc ix : Nat} {Y : mj_Y} {lf : pj_Z → mj_M} (hT : pj_Lt pj_TR lf) (hd : 2 ≤ d) (hl : mj_lk Y.2.2.2.2 pc = some (.invokevirtual ix, 3)) (hg : mj_pG ic_P j ix = some (12143, 1, some 12)) {lv : List (Nat × Value)} {st : List pj_V} {z : pj_Z} {K : List pj_V → pj_Z → Option A} {a : A} (hK : ∀ st z, K st z = some a → pj_Gd ic_P (mj_R ic_P d) j Y OK lf (pc + 3) lv (pj_es st) z a) (h : ph_X12_noise st z K = some a) : pj_Gd ic_P (mj_R ic_P d) j Y OK lf pc lv (pj_es st) z a := by
  obtain ⟨a1, r1, e1, h⟩ := pj_pi_inv h
  obtain ⟨r0, e0, h⟩ := pj_pr_inv h
  obtain ⟨hs, h⟩ := pj_ps_inv h
  obtain ⟨q, hq, h⟩ := pj_b_inv h
  exact pm_cv (o := 124) hl hg [.int a1] rfl (by rw [e1, e0]; rfl) hs (by decide) ((hT.2 124 _ rfl).1.2 z 0 (by decide)) (pm_rI q.1) hd (pm_X12_noise hT a1 z.1 z.2.1 z.2.2.1 z.2.2.2 q hq) rfl (hK _ _ h)
abbrev pe_X12_lock_13 (f : Int32 → Int32 → pj_F (Int32 × pj_Z)) : pj_K (Int32 × pj_Z) := fun lv st z => pj_xr lv 0 124 0 <| pj_xi lv 1 fun a1 => pj_pi st fun b1 st => pj_pr st 124 0 fun st => pj_pe st (f a1 b1 z.1 z.2.1 z.2.2.1 z.2.2.2)
abbrev pe_X12_lock_37 (f : Int32 → Int32 → pj_F (Int32 × pj_Z)) : pj_K (Int32 × pj_Z) := fun lv st z => pj_xr lv 0 124 0 <| pj_xi lv 2 fun a2 => pj_pi st fun b1 st => pj_pr st 124 0 fun st => pj_pe st (f a2 b1 z.1 z.2.1 z.2.2.1 z.2.2.2)
abbrev px_X12_lock : pj_C (Int32 × pj_Z) := ((pj_as [(124, 12, 195, 1, 0, true, 0, [(1, 1), (2, 125), (2, 126), (2, 127), (2, 128), (2, 129), (2, 130), (2, 131), (2, 132), (2, 133), (1, 2), (0, 44), (2, 134), (2, 135), (2, 136), (2, 137), (2, 138), (0, 69), (2, 139), (2, 140), (2, 141), (1, 3), (0, 93), (0, 94), (0, 45), (0, 46), (0, 48), (0, 49), (0, 47), (0, 50), (0, 51), (2, 142), (2, 143), (2, 144), (0, 19), (1, 4), (1, 5), (1, 6), (0, 20), (0, 21), (0, 22), (0, 23), (0, 24), (0, 25), (0, 27), (0, 28), (1, 7), (1, 8), (1, 9), (1, 10), (1, 11), (0, 26), (2, 145), (2, 146), (2, 147), (2, 148), (2, 149), (2, 150), (2, 151), (2, 152), (2, 153), (2, 154), (2, 155), (2, 156), (2, 157), (2, 158), (2, 159), (0, 57), (0, 58), (0, 59), (0, 60), (2, 160), (2, 161), (2, 162), (2, 163), (1, 12), (1, 13), (0, 95), (0, 73), (0, 74), (0, 71), (0, 72), (0, 75), (0, 76), (0, 77), (0, 80), (0, 78), (0, 79), (1, 14), (0, 29), (0, 30), (0, 31), (0, 34), (0, 35), (0, 32), (0, 33), (0, 36), (0, 37), (0, 38), (0, 39), (0, 40), (1, 15), (1, 16), (0, 43), (0, 41), (0, 42), (2, 164), (0, 96), (0, 89), (0, 90), (0, 91), (0, 92), (2, 165), (2, 166), (2, 167), (2, 168), (2, 169), (2, 170), (2, 171), (2, 172), (0, 87), (2, 173), (0, 88), (2, 174), (0, 62), (1, 17), (0, 66), (0, 63), (0, 64), (0, 65), (0, 67), (1, 18), (0, 68), (2, 175), (1, 19), (0, 52), (0, 53), (0, 54), (0, 55), (2, 176), (0, 56), (0, 85), (0, 86), (0, 81), (0, 82), (0, 83), (0, 84), (2, 177), (2, 178), (2, 179), (1, 20), (2, 180), (0, 6), (0, 7), (0, 8), (0, 16), (0, 17), (0, 61), (0, 9), (0, 10), (1, 21), (1, 22), (0, 11), (0, 12), (0, 13), (0, 18), (0, 14), (0, 15), (2, 181), (0, 70), (1, 23), (2, 182), (2, 183), (0, 1), (1, 24), (2, 184), (2, 185), (1, 25), (0, 2), (2, 186), (2, 187), (1, 26), (2, 188), (2, 189), (1, 27), (1, 28), (2, 190), (2, 191), (1, 29), (0, 3), (2, 192), (0, 4), (0, 5), (1, 30), (2, 193)])]), (pj_as [(259, 12, 0, 0, false), (519, 12, 23, 0, false), (559, 12, 163, 0, false)]), (fun _ => none), (fun _ => none), (fun _ => none), ic_X, 3, 1, pj_mI, (fun _ => none), fun _ => false)
abbrev pk_X12_lock : List (Nat × List (Nat × Instr × Nat)) := [(0, [(0, .aload_n 0, 1), (1, .aload_n 0, 1), (2, .getfield 519, 3), (5, .ifCond .eq 7, 3)]), (8, [(8, .iconst 1, 1), (9, .goto 4, 3)]), (12, [(12, .iconst 0, 1)]), (13, [(13, .putfield 259, 3), (16, .aload_n 0, 1), (17, .getfield 559, 3), (20, .istore_n 2, 1), (21, .aload_n 0, 1), (22, .aload_n 0, 1), (23, .getfield 259, 3), (26, .ifCond .ne 7, 3)]), (29, [(29, .iload_n 1, 1), (30, .goto 7, 3)]), (33, [(33, .aload_n 0, 1), (34, .getfield 559, 3)]), (37, [(37, .putfield 559, 3), (40, .aload_n 0, 1), (41, .getfield 259, 3), (44, .ifCond .le 7, 3)]), (47, [(47, .iconst 0, 1), (48, .goto 4, 3)]), (51, [(51, .iload_n 2, 1)]), (52, [(52, .ireturn, 1)])]
set_option maxRecDepth 100000 in
theorem pq_X12_lock_37  (a2 : Int32) (b1 : Int32) (s : Nat → Int32) (l : Nat → Int64) (x : Nat → Int32) (y : Nat → Int64) : pl_X12_lock_37 a2 b1 s l x y = pj_bl px_X12_lock (pj_rn px_X12_lock (pj_as pk_X12_lock) (fun _ => none) 60) [(37, .putfield 559, 3), (40, .aload_n 0, 1), (41, .getfield 259, 3), (44, .ifCond .le 7, 3)] 37 [(0, pj_O (124, 0)), (2, pj_I a2)] [pj_I b1, pj_O (124, 0)] (s, l, x, y) := rfl
set_option maxRecDepth 100000 in
theorem pq_X12_lock_13  (a1 : Int32) (b1 : Int32) (s : Nat → Int32) (l : Nat → Int64) (x : Nat → Int32) (y : Nat → Int64) : pl_X12_lock_13 a1 b1 s l x y = pj_bl px_X12_lock (pj_rn px_X12_lock (pj_as pk_X12_lock) (pj_as [(37, pe_X12_lock_37 (pl_X12_lock_37))]) 60) [(13, .putfield 259, 3), (16, .aload_n 0, 1), (17, .getfield 559, 3), (20, .istore_n 2, 1), (21, .aload_n 0, 1), (22, .aload_n 0, 1), (23, .getfield 259, 3), (26, .ifCond .ne 7, 3)] 13 [(0, pj_O (124, 0)), (1, pj_I a1)] [pj_I b1, pj_O (124, 0)] (s, l, x, y) := rfl
set_option maxRecDepth 100000 in
theorem pq_X12_lock_m  (a1 : Int32) (s : Nat → Int32) (l : Nat → Int64) (x : Nat → Int32) (y : Nat → Int64) : pf_X12_lock a1 s l x y = pj_bl px_X12_lock (pj_rn px_X12_lock (pj_as pk_X12_lock) (pj_as [(13, pe_X12_lock_13 (pl_X12_lock_13))]) 60) [(0, .aload_n 0, 1), (1, .aload_n 0, 1), (2, .getfield 519, 3), (5, .ifCond .eq 7, 3)] 0 [(0, pj_O (124, 0)), (1, pj_I a1)] [] (s, l, x, y) := rfl
theorem pu_X12_lock_13 {lf : pj_Z → mj_M} {a : Int32 × pj_Z} (f : Int32 → Int32 → pj_F (Int32 × pj_Z)) (hf : ∀ (a1 : Int32) (b1 : Int32) (s : Nat → Int32) (l : Nat → Int64) (x : Nat → Int32) (y : Nat → Int64), f a1 b1 s l x y = some a → pm_Gd 0 12144 ie_X12_lock.1 pm_rI lf 13 [(0, .ref 124), (1, .int a1)] [.int b1, .ref 124] (s, l, x, y) a) : pm_Ex 0 12144 ie_X12_lock.1 pm_rI lf a 13 (pe_X12_lock_13 f) := by
  intro lv st z hd h
  obtain ⟨g0, h⟩ := pj_xr_inv h
  obtain ⟨a1, g1, h⟩ := pj_xi_inv h
  obtain ⟨b1, r1, e1, h⟩ := pj_pi_inv h
  obtain ⟨r0, e0, h⟩ := pj_pr_inv h
  obtain ⟨e9, h⟩ := pj_pe_inv h
  rw [e1, e0, e9]
  exact mj_wp_sub (mj_sub_cons g0 (mj_sub_cons g1 (mj_sub_nil hd))) (hf _ _ _ _ _ _ h)
theorem pu_X12_lock_37 {lf : pj_Z → mj_M} {a : Int32 × pj_Z} (f : Int32 → Int32 → pj_F (Int32 × pj_Z)) (hf : ∀ (a2 : Int32) (b1 : Int32) (s : Nat → Int32) (l : Nat → Int64) (x : Nat → Int32) (y : Nat → Int64), f a2 b1 s l x y = some a → pm_Gd 0 12144 ie_X12_lock.1 pm_rI lf 37 [(0, .ref 124), (2, .int a2)] [.int b1, .ref 124] (s, l, x, y) a) : pm_Ex 0 12144 ie_X12_lock.1 pm_rI lf a 37 (pe_X12_lock_37 f) := by
  intro lv st z hd h
  obtain ⟨g0, h⟩ := pj_xr_inv h
  obtain ⟨a2, g2, h⟩ := pj_xi_inv h
  obtain ⟨b1, r1, e1, h⟩ := pj_pi_inv h
  obtain ⟨r0, e0, h⟩ := pj_pr_inv h
  obtain ⟨e9, h⟩ := pj_pe_inv h
  rw [e1, e0, e9]
  exact mj_wp_sub (mj_sub_cons g0 (mj_sub_cons g2 (mj_sub_nil hd))) (hf _ _ _ _ _ _ h)
set_option maxRecDepth 100000 in
theorem pz_X12_lock {lf : pj_Z → mj_M} (hT : pj_Lt pj_TR lf) : pj_Cok ic_P (mj_R ic_P 0) 12144 ie_X12_lock.1 (pm_OK lf pm_rI) lf px_X12_lock := by
  exact pm_cok (c := px_X12_lock) (pm_part hT (pj_as_all (p := fun b e => pj_TR b = some e) (List.forall_mem_cons.mpr ⟨rfl, (fun _ h => by cases h)⟩))) (pm_in_ok (L := [(259, 12, 0, 0, false), (519, 12, 23, 0, false), (559, 12, 163, 0, false)]) (f := mj_pF ic_P 12144) (by decide +kernel)) (fun _ _ h => by cases h) (fun _ _ h => by cases h) (fun _ _ h => by cases h) rfl rfl ⟨by decide, rfl⟩ pm_mI (fun _ _ h => by cases h) (fun _ h => by cases h)
set_option maxRecDepth 100000 in
theorem pb_X12_lock : pm_bks ie_X12_lock.1.2.2.2.2 pk_X12_lock = true := by decide +kernel
set_option maxRecDepth 100000 in
theorem pg_X12_lock_37 {lf : pj_Z → mj_M} (hT : pj_Lt pj_TR lf) : ∀ (a2 : Int32) (b1 : Int32) (s : Nat → Int32) (l : Nat → Int64) (x : Nat → Int32) (y : Nat → Int64) (a : Int32 × pj_Z), pl_X12_lock_37 a2 b1 s l x y = some a → pm_Gd 0 12144 ie_X12_lock.1 pm_rI lf 37 [(0, .ref 124), (2, .int a2)] [.int b1, .ref 124] (s, l, x, y) a := by
  intro a2 b1 s l x y a h
  exact pm_run ((pq_X12_lock_37  a2 b1 s l x y).symm.trans h) (pz_X12_lock hT) (pm_bks_ok pb_X12_lock) (pm_bks_ok pb_X12_lock _ _ rfl) (pm_ndb_ok rfl) (fun _ _ h => by cases h)
set_option maxRecDepth 100000 in
theorem pg_X12_lock_13 {lf : pj_Z → mj_M} (hT : pj_Lt pj_TR lf) : ∀ (a1 : Int32) (b1 : Int32) (s : Nat → Int32) (l : Nat → Int64) (x : Nat → Int32) (y : Nat → Int64) (a : Int32 × pj_Z), pl_X12_lock_13 a1 b1 s l x y = some a → pm_Gd 0 12144 ie_X12_lock.1 pm_rI lf 13 [(0, .ref 124), (1, .int a1)] [.int b1, .ref 124] (s, l, x, y) a := by
  intro a1 b1 s l x y a h
  exact pm_run ((pq_X12_lock_13  a1 b1 s l x y).symm.trans h) (pz_X12_lock hT) (pm_bks_ok pb_X12_lock) (pm_bks_ok pb_X12_lock _ _ rfl) (pm_ndb_ok rfl) (pj_as_all (p := pm_Ex 0 12144 ie_X12_lock.1 pm_rI lf a) (List.forall_mem_cons.mpr ⟨pu_X12_lock_37 _ (fun c0 c1 s l x y h => pg_X12_lock_37 hT c0 c1 s l x y _ h), (fun _ h => by cases h)⟩))
set_option maxRecDepth 100000 in
theorem pm_X12_lock {lf : pj_Z → mj_M} (hT : pj_Lt pj_TR lf) (a1 : Int32) (s : Nat → Int32) (l : Nat → Int64) (x : Nat → Int32) (y : Nat → Int64) (a : Int32 × pj_Z) (h : pf_X12_lock a1 s l x y = some a) : mj_R ic_P 1 12144 [.ref 124, .int a1] (lf (s, l, x, y)) (pm_rI a.1) (lf a.2) := by
  refine pm_main (Y := ie_X12_lock.1) rfl (Nat.le_of_ble_eq_true rfl) ?_
  exact pm_run ((pq_X12_lock_m a1 s l x y).symm.trans h) (pz_X12_lock hT) (pm_bks_ok pb_X12_lock) (pm_bks_ok pb_X12_lock _ _ rfl) (pm_ndb_ok rfl) (pj_as_all (p := pm_Ex 0 12144 ie_X12_lock.1 pm_rI lf a) (List.forall_mem_cons.mpr ⟨pu_X12_lock_13 _ (fun c0 c1 s l x y h => pg_X12_lock_13 hT c0 c1 s l x y _ h), (fun _ h => by cases h)⟩))
abbrev ph_X12_lock {A : Type} : List pj_V → pj_Z → (List pj_V → pj_Z → Option A) → Option A := fun st z K => pj_pi st fun a1 st => pj_pr st 124 0 fun st => pj_ps st (pj_b (pf_X12_lock a1 z.1 z.2.1 z.2.2.1 z.2.2.2) fun r s l x y => K (pj_I r :: st) (s, l, x, y))
set_option maxRecDepth 100000 in
theorem pc_X12_lock {A : Type} {OK : A → Option Value → mj_M → Prop} {d j pc ix : Nat} {Y : mj_Y} {lf : pj_Z → mj_M} (hT : pj_Lt pj_TR lf) (hd : 1 ≤ d) (hl : mj_lk Y.2.2.2.2 pc = some (.invokevirtual ix, 3)) (hg : mj_pG ic_P j ix = some (12144, 1, some 12)) {lv : List (Nat × Value)} {st : List pj_V} {z : pj_Z} {K : List pj_V → pj_Z → Option A} {a : A} (hK : ∀ st z, K st z = some a → pj_Gd ic_P (mj_R ic_P d) j Y OK lf (pc + 3) lv (pj_es st) z a) (h : ph_X12_lock st z K = some a) : pj_Gd ic_P (mj_R ic_P d) j Y OK lf pc lv (pj_es st) z a := by
  obtain ⟨a1, r1, e1, h⟩ := pj_pi_inv h
  obtain ⟨r0, e0, h⟩ := pj_pr_inv h
  obtain ⟨hs, h⟩ := pj_ps_inv h
  obtain ⟨q, hq, h⟩ := pj_b_inv h
  exact pm_cv (o := 124) hl hg [.int a1] rfl (by rw [e1, e0]; rfl) hs (by decide) ((hT.2 124 _ rfl).1.2 z 0 (by decide)) (pm_rI q.1) hd (pm_X12_lock hT a1 z.1 z.2.1 z.2.2.1 z.2.2.2 q hq) rfl (hK _ _ h)
abbrev pe_X12_noPage_22 (f : pj_F (Int32 × pj_Z)) : pj_K (Int32 × pj_Z) := fun lv st z => pj_pe st (f  z.1 z.2.1 z.2.2.1 z.2.2.2)
abbrev px_X12_noPage : pj_C (Int32 × pj_Z) := ((fun _ => none), (fun _ => none), (fun _ => none), (pj_as [(1045, 33)]), (fun _ => none), ic_X, 2, 2, pj_mI, (pj_as [(4, ph_X12_isIn), (16, ph_X12_isIn)]), fun _ => false)
abbrev pk_X12_noPage : List (Nat × List (Nat × Instr × Nat)) := [(0, [(0, .iload_n 0, 1), (1, .i2l, 1), (2, .lconst 0, 1), (3, .lconst 1, 1), (4, .invokestatic 568, 3), (7, .ifCond .eq 15, 3)]), (10, [(10, .iload_n 1, 1), (11, .i2l, 1), (12, .lconst 0, 1), (13, .ldc2_w 1045, 3), (16, .invokestatic 568, 3), (19, .ifCond .ne 7, 3)]), (22, [(22, .iconst 1, 1), (23, .goto 4, 3)]), (26, [(26, .iconst 0, 1)]), (27, [(27, .ireturn, 1)])]
set_option maxRecDepth 100000 in
theorem pq_X12_noPage_22   (s : Nat → Int32) (l : Nat → Int64) (x : Nat → Int32) (y : Nat → Int64) : pl_X12_noPage_22 s l x y = pj_bl px_X12_noPage (pj_rn px_X12_noPage (pj_as pk_X12_noPage) (fun _ => none) 60) [(22, .iconst 1, 1), (23, .goto 4, 3)] 22 [] [] (s, l, x, y) := rfl
set_option maxRecDepth 100000 in
theorem pq_X12_noPage_m  (a0 : Int32) (a1 : Int32) (s : Nat → Int32) (l : Nat → Int64) (x : Nat → Int32) (y : Nat → Int64) : pf_X12_noPage a0 a1 s l x y = pj_bl px_X12_noPage (pj_rn px_X12_noPage (pj_as pk_X12_noPage) (pj_as [(22, pe_X12_noPage_22 (pl_X12_noPage_22))]) 60) [(0, .iload_n 0, 1), (1, .i2l, 1), (2, .lconst 0, 1), (3, .lconst 1, 1), (4, .invokestatic 568, 3), (7, .ifCond .eq 15, 3)] 0 [(0, pj_I a0), (1, pj_I a1)] [] (s, l, x, y) := rfl
theorem pu_X12_noPage_22 {lf : pj_Z → mj_M} {a : Int32 × pj_Z} (f : pj_F (Int32 × pj_Z)) (hf : ∀  (s : Nat → Int32) (l : Nat → Int64) (x : Nat → Int32) (y : Nat → Int64), f  s l x y = some a → pm_Gd 1 12145 ie_X12_noPage.1 pm_rI lf 22 [] [] (s, l, x, y) a) : pm_Ex 1 12145 ie_X12_noPage.1 pm_rI lf a 22 (pe_X12_noPage_22 f) := by
  intro lv st z hd h
  obtain ⟨e9, h⟩ := pj_pe_inv h
  rw [e9]
  exact mj_wp_sub (mj_sub_nil hd) (hf  _ _ _ _ h)
set_option maxRecDepth 100000 in
theorem pz_X12_noPage {lf : pj_Z → mj_M} (hT : pj_Lt pj_TR lf) : pj_Cok ic_P (mj_R ic_P 1) 12145 ie_X12_noPage.1 (pm_OK lf pm_rI) lf px_X12_noPage := by
  exact pm_cok (c := px_X12_noPage) (pm_none hT) (fun _ _ h => by cases h) (fun _ _ h => by cases h) (pm_inL_ok (L := [(1045, 33)]) (f := mj_pL ic_P 12145) (by decide +kernel)) (fun _ _ h => by cases h) rfl rfl ⟨by decide, rfl⟩ pm_mI (pj_as_all (p := pm_Cl 1 12145 ie_X12_noPage.1 lf (pm_OK lf pm_rI)) (List.forall_mem_cons.mpr ⟨fun _ _ lv st z K a hK h => pc_X12_isIn hT (by decide) (ix := 568) rfl rfl hK h, (List.forall_mem_cons.mpr ⟨fun _ _ lv st z K a hK h => pc_X12_isIn hT (by decide) (ix := 568) rfl rfl hK h, (fun _ h => by cases h)⟩)⟩)) (fun _ h => by cases h)
set_option maxRecDepth 100000 in
theorem pb_X12_noPage : pm_bks ie_X12_noPage.1.2.2.2.2 pk_X12_noPage = true := by decide +kernel
set_option maxRecDepth 100000 in
theorem pg_X12_noPage_22 {lf : pj_Z → mj_M} (hT : pj_Lt pj_TR lf) : ∀  (s : Nat → Int32) (l : Nat → Int64) (x : Nat → Int32) (y : Nat → Int64) (a : Int32 × pj_Z), pl_X12_noPage_22 s l x y = some a → pm_Gd 1 12145 ie_X12_noPage.1 pm_rI lf 22 [] [] (s, l, x, y) a := by
  intro  s l x y a h
  exact pm_run ((pq_X12_noPage_22   s l x y).symm.trans h) (pz_X12_noPage hT) (pm_bks_ok pb_X12_noPage) (pm_bks_ok pb_X12_noPage _ _ rfl) (pm_ndb_ok rfl) (fun _ _ h => by cases h)
set_option maxRecDepth 100000 in
theorem pm_X12_noPage {lf : pj_Z → mj_M} (hT : pj_Lt pj_TR lf) (a0 : Int32) (a1 : Int32) (s : Nat → Int32) (l : Nat → Int64) (x : Nat → Int32) (y : Nat → Int64) (a : Int32 × pj_Z) (h : pf_X12_noPage a0 a1 s l x y = some a) : mj_R ic_P 2 12145 [.int a0, .int a1] (lf (s, l, x, y)) (pm_rI a.1) (lf a.2) := by
  refine pm_main (Y := ie_X12_noPage.1) rfl (Nat.le_of_ble_eq_true rfl) ?_
  exact pm_run ((pq_X12_noPage_m a0 a1 s l x y).symm.trans h) (pz_X12_noPage hT) (pm_bks_ok pb_X12_noPage) (pm_bks_ok pb_X12_noPage _ _ rfl) (pm_ndb_ok rfl) (pj_as_all (p := pm_Ex 1 12145 ie_X12_noPage.1 pm_rI lf a) (List.forall_mem_cons.mpr ⟨pu_X12_noPage_22 _ (fun  s l x y h => pg_X12_noPage_22 hT  s l x y _ h), (fun _ h => by cases h)⟩))
abbrev ph_X12_noPage {A : Type} : List pj_V → pj_Z → (List pj_V → pj_Z → Option A) → Option A := fun st z K => pj_pi st fun a1 st => pj_pi st fun a0 st => pj_ps st (pj_b (pf_X12_noPage a0 a1 z.1 z.2.1 z.2.2.1 z.2.2.2) fun r s l x y => K (pj_I r :: st) (s, l, x, y))
set_option maxRecDepth 100000 in
theorem pc_X12_noPage {A : Type} {OK : A → Option Value → mj_M → Prop} {d j pc ix : Nat} {Y : mj_Y} {lf : pj_Z → mj_M} (hT : pj_Lt pj_TR lf) (hd : 2 ≤ d) (hl : mj_lk Y.2.2.2.2 pc = some (.invokestatic ix, 3)) (hg : mj_pG ic_P j ix = some (12145, 2, none)) {lv : List (Nat × Value)} {st : List pj_V} {z : pj_Z} {K : List pj_V → pj_Z → Option A} {a : A} (hK : ∀ st z, K st z = some a → pj_Gd ic_P (mj_R ic_P d) j Y OK lf (pc + 3) lv (pj_es st) z a) (h : ph_X12_noPage st z K = some a) : pj_Gd ic_P (mj_R ic_P d) j Y OK lf pc lv (pj_es st) z a := by
  obtain ⟨a1, r1, e1, h⟩ := pj_pi_inv h
  obtain ⟨a0, r0, e0, h⟩ := pj_pi_inv h
  obtain ⟨hs, h⟩ := pj_ps_inv h
  obtain ⟨q, hq, h⟩ := pj_b_inv h
  exact pm_cs hl hg [.int a0, .int a1] rfl (by rw [e1, e0]; rfl) hs (pm_rI q.1) hd (pm_X12_noPage hT a0 a1 z.1 z.2.1 z.2.2.1 z.2.2.2 q hq) rfl (hK _ _ h)
abbrev pe_X12_page_14 (f : Int32 → Int32 → Int32 → pj_F (Int32 × pj_Z)) : pj_K (Int32 × pj_Z) := fun lv st z => pj_xr lv 0 124 0 <| pj_xi lv 1 fun a1 => pj_xi lv 2 fun a2 => pj_pi st fun b1 st => pj_pr st 124 0 fun st => pj_pe st (f a1 a2 b1 z.1 z.2.1 z.2.2.1 z.2.2.2)
abbrev px_X12_page : pj_C (Int32 × pj_Z) := ((pj_as [(124, 12, 195, 1, 0, true, 0, [(1, 1), (2, 125), (2, 126), (2, 127), (2, 128), (2, 129), (2, 130), (2, 131), (2, 132), (2, 133), (1, 2), (0, 44), (2, 134), (2, 135), (2, 136), (2, 137), (2, 138), (0, 69), (2, 139), (2, 140), (2, 141), (1, 3), (0, 93), (0, 94), (0, 45), (0, 46), (0, 48), (0, 49), (0, 47), (0, 50), (0, 51), (2, 142), (2, 143), (2, 144), (0, 19), (1, 4), (1, 5), (1, 6), (0, 20), (0, 21), (0, 22), (0, 23), (0, 24), (0, 25), (0, 27), (0, 28), (1, 7), (1, 8), (1, 9), (1, 10), (1, 11), (0, 26), (2, 145), (2, 146), (2, 147), (2, 148), (2, 149), (2, 150), (2, 151), (2, 152), (2, 153), (2, 154), (2, 155), (2, 156), (2, 157), (2, 158), (2, 159), (0, 57), (0, 58), (0, 59), (0, 60), (2, 160), (2, 161), (2, 162), (2, 163), (1, 12), (1, 13), (0, 95), (0, 73), (0, 74), (0, 71), (0, 72), (0, 75), (0, 76), (0, 77), (0, 80), (0, 78), (0, 79), (1, 14), (0, 29), (0, 30), (0, 31), (0, 34), (0, 35), (0, 32), (0, 33), (0, 36), (0, 37), (0, 38), (0, 39), (0, 40), (1, 15), (1, 16), (0, 43), (0, 41), (0, 42), (2, 164), (0, 96), (0, 89), (0, 90), (0, 91), (0, 92), (2, 165), (2, 166), (2, 167), (2, 168), (2, 169), (2, 170), (2, 171), (2, 172), (0, 87), (2, 173), (0, 88), (2, 174), (0, 62), (1, 17), (0, 66), (0, 63), (0, 64), (0, 65), (0, 67), (1, 18), (0, 68), (2, 175), (1, 19), (0, 52), (0, 53), (0, 54), (0, 55), (2, 176), (0, 56), (0, 85), (0, 86), (0, 81), (0, 82), (0, 83), (0, 84), (2, 177), (2, 178), (2, 179), (1, 20), (2, 180), (0, 6), (0, 7), (0, 8), (0, 16), (0, 17), (0, 61), (0, 9), (0, 10), (1, 21), (1, 22), (0, 11), (0, 12), (0, 13), (0, 18), (0, 14), (0, 15), (2, 181), (0, 70), (1, 23), (2, 182), (2, 183), (0, 1), (1, 24), (2, 184), (2, 185), (1, 25), (0, 2), (2, 186), (2, 187), (1, 26), (2, 188), (2, 189), (1, 27), (1, 28), (2, 190), (2, 191), (1, 29), (0, 3), (2, 192), (0, 4), (0, 5), (1, 30), (2, 193)]), (181, 100, 68, 1, 0, true, 14000, [])]), (pj_as [(203, 12, 168, 2, true), (259, 12, 0, 0, false)]), (fun _ => none), (fun _ => none), (fun _ => none), ic_X, 3, 1, pj_mI, (pj_as [(3, ph_X12_noPage)]), fun _ => false)
abbrev pk_X12_page : List (Nat × List (Nat × Instr × Nat)) := [(0, [(0, .aload_n 0, 1), (1, .iload_n 1, 1), (2, .iload_n 2, 1), (3, .invokestatic 1047, 3), (6, .ifCond .eq 7, 3)]), (9, [(9, .iconst 1, 1), (10, .goto 4, 3)]), (13, [(13, .iconst 0, 1)]), (14, [(14, .putfield 259, 3), (17, .aload_n 0, 1), (18, .getfield 259, 3), (21, .ifCond .le 7, 3)]), (24, [(24, .iconst 0, 1), (25, .goto 14, 3)]), (28, [(28, .aload_n 0, 1), (29, .getfield 203, 3), (32, .bipush 34, 2), (34, .iload_n 1, 1), (35, .imul, 1), (36, .iload_n 2, 1), (37, .iadd, 1), (38, .iaload, 1)]), (39, [(39, .ireturn, 1)])]
set_option maxRecDepth 100000 in
theorem pq_X12_page_14  (a1 : Int32) (a2 : Int32) (b1 : Int32) (s : Nat → Int32) (l : Nat → Int64) (x : Nat → Int32) (y : Nat → Int64) : pl_X12_page_14 a1 a2 b1 s l x y = pj_bl px_X12_page (pj_rn px_X12_page (pj_as pk_X12_page) (fun _ => none) 60) [(14, .putfield 259, 3), (17, .aload_n 0, 1), (18, .getfield 259, 3), (21, .ifCond .le 7, 3)] 14 [(0, pj_O (124, 0)), (1, pj_I a1), (2, pj_I a2)] [pj_I b1, pj_O (124, 0)] (s, l, x, y) := rfl
set_option maxRecDepth 100000 in
theorem pq_X12_page_m  (a1 : Int32) (a2 : Int32) (s : Nat → Int32) (l : Nat → Int64) (x : Nat → Int32) (y : Nat → Int64) : pf_X12_page a1 a2 s l x y = pj_bl px_X12_page (pj_rn px_X12_page (pj_as pk_X12_page) (pj_as [(14, pe_X12_page_14 (pl_X12_page_14))]) 60) [(0, .aload_n 0, 1), (1, .iload_n 1, 1), (2, .iload_n 2, 1), (3, .invokestatic 1047, 3), (6, .ifCond .eq 7, 3)] 0 [(0, pj_O (124, 0)), (1, pj_I a1), (2, pj_I a2)] [] (s, l, x, y) := rfl
theorem pu_X12_page_14 {lf : pj_Z → mj_M} {a : Int32 × pj_Z} (f : Int32 → Int32 → Int32 → pj_F (Int32 × pj_Z)) (hf : ∀ (a1 : Int32) (a2 : Int32) (b1 : Int32) (s : Nat → Int32) (l : Nat → Int64) (x : Nat → Int32) (y : Nat → Int64), f a1 a2 b1 s l x y = some a → pm_Gd 2 12146 ie_X12_page.1 pm_rI lf 14 [(0, .ref 124), (1, .int a1), (2, .int a2)] [.int b1, .ref 124] (s, l, x, y) a) : pm_Ex 2 12146 ie_X12_page.1 pm_rI lf a 14 (pe_X12_page_14 f) := by
  intro lv st z hd h
  obtain ⟨g0, h⟩ := pj_xr_inv h
  obtain ⟨a1, g1, h⟩ := pj_xi_inv h
  obtain ⟨a2, g2, h⟩ := pj_xi_inv h
  obtain ⟨b1, r1, e1, h⟩ := pj_pi_inv h
  obtain ⟨r0, e0, h⟩ := pj_pr_inv h
  obtain ⟨e9, h⟩ := pj_pe_inv h
  rw [e1, e0, e9]
  exact mj_wp_sub (mj_sub_cons g0 (mj_sub_cons g1 (mj_sub_cons g2 (mj_sub_nil hd)))) (hf _ _ _ _ _ _ _ h)
set_option maxRecDepth 100000 in
theorem pz_X12_page {lf : pj_Z → mj_M} (hT : pj_Lt pj_TR lf) : pj_Cok ic_P (mj_R ic_P 2) 12146 ie_X12_page.1 (pm_OK lf pm_rI) lf px_X12_page := by
  exact pm_cok (c := px_X12_page) (pm_part hT (pj_as_all (p := fun b e => pj_TR b = some e) (List.forall_mem_cons.mpr ⟨rfl, (List.forall_mem_cons.mpr ⟨rfl, (fun _ h => by cases h)⟩)⟩))) (pm_in_ok (L := [(203, 12, 168, 2, true), (259, 12, 0, 0, false)]) (f := mj_pF ic_P 12146) (by decide +kernel)) (fun _ _ h => by cases h) (fun _ _ h => by cases h) (fun _ _ h => by cases h) rfl rfl ⟨by decide, rfl⟩ pm_mI (pj_as_all (p := pm_Cl 2 12146 ie_X12_page.1 lf (pm_OK lf pm_rI)) (List.forall_mem_cons.mpr ⟨fun _ _ lv st z K a hK h => pc_X12_noPage hT (by decide) (ix := 1047) rfl rfl hK h, (fun _ h => by cases h)⟩)) (fun _ h => by cases h)
set_option maxRecDepth 100000 in
theorem pb_X12_page : pm_bks ie_X12_page.1.2.2.2.2 pk_X12_page = true := by decide +kernel
set_option maxRecDepth 100000 in
theorem pg_X12_page_14 {lf : pj_Z → mj_M} (hT : pj_Lt pj_TR lf) : ∀ (a1 : Int32) (a2 : Int32) (b1 : Int32) (s : Nat → Int32) (l : Nat → Int64) (x : Nat → Int32) (y : Nat → Int64) (a : Int32 × pj_Z), pl_X12_page_14 a1 a2 b1 s l x y = some a → pm_Gd 2 12146 ie_X12_page.1 pm_rI lf 14 [(0, .ref 124), (1, .int a1), (2, .int a2)] [.int b1, .ref 124] (s, l, x, y) a := by
  intro a1 a2 b1 s l x y a h
  exact pm_run ((pq_X12_page_14  a1 a2 b1 s l x y).symm.trans h) (pz_X12_page hT) (pm_bks_ok pb_X12_page) (pm_bks_ok pb_X12_page _ _ rfl) (pm_ndb_ok rfl) (fun _ _ h => by cases h)
set_option maxRecDepth 100000 in
theorem pm_X12_page {lf : pj_Z → mj_M} (hT : pj_Lt pj_TR lf) (a1 : Int32) (a2 : Int32) (s : Nat → Int32) (l : Nat → Int64) (x : Nat → Int32) (y : Nat → Int64) (a : Int32 × pj_Z) (h : pf_X12_page a1 a2 s l x y = some a) : mj_R ic_P 3 12146 [.ref 124, .int a1, .int a2] (lf (s, l, x, y)) (pm_rI a.1) (lf a.2) := by
  refine pm_main (Y := ie_X12_page.1) rfl (Nat.le_of_ble_eq_true rfl) ?_
  exact pm_run ((pq_X12_page_m a1 a2 s l x y).symm.trans h) (pz_X12_page hT) (pm_bks_ok pb_X12_page) (pm_bks_ok pb_X12_page _ _ rfl) (pm_ndb_ok rfl) (pj_as_all (p := pm_Ex 2 12146 ie_X12_page.1 pm_rI lf a) (List.forall_mem_cons.mpr ⟨pu_X12_page_14 _ (fun c0 c1 c2 s l x y h => pg_X12_page_14 hT c0 c1 c2 s l x y _ h), (fun _ h => by cases h)⟩))
abbrev ph_X12_page {A : Type} : List pj_V → pj_Z → (List pj_V → pj_Z → Option A) → Option A := fun st z K => pj_pi st fun a2 st => pj_pi st fun a1 st => pj_pr st 124 0 fun st => pj_ps st (pj_b (pf_X12_page a1 a2 z.1 z.2.1 z.2.2.1 z.2.2.2) fun r s l x y => K (pj_I r :: st) (s, l, x, y))
set_option maxRecDepth 100000 in
theorem pc_X12_page {A : Type} {OK : A → Option Value → mj_M → Prop} {d j pc ix : Nat} {Y : mj_Y} {lf : pj_Z → mj_M} (hT : pj_Lt pj_TR lf) (hd : 3 ≤ d) (hl : mj_lk Y.2.2.2.2 pc = some (.invokevirtual ix, 3)) (hg : mj_pG ic_P j ix = some (12146, 2, some 12)) {lv : List (Nat × Value)} {st : List pj_V} {z : pj_Z} {K : List pj_V → pj_Z → Option A} {a : A} (hK : ∀ st z, K st z = some a → pj_Gd ic_P (mj_R ic_P d) j Y OK lf (pc + 3) lv (pj_es st) z a) (h : ph_X12_page st z K = some a) : pj_Gd ic_P (mj_R ic_P d) j Y OK lf pc lv (pj_es st) z a := by
  obtain ⟨a2, r2, e2, h⟩ := pj_pi_inv h
  obtain ⟨a1, r1, e1, h⟩ := pj_pi_inv h
  obtain ⟨r0, e0, h⟩ := pj_pr_inv h
  obtain ⟨hs, h⟩ := pj_ps_inv h
  obtain ⟨q, hq, h⟩ := pj_b_inv h
  exact pm_cv (o := 124) hl hg [.int a1, .int a2] rfl (by rw [e2, e1, e0]; rfl) hs (by decide) ((hT.2 124 _ rfl).1.2 z 0 (by decide)) (pm_rI q.1) hd (pm_X12_page hT a1 a2 z.1 z.2.1 z.2.2.1 z.2.2.2 q hq) rfl (hK _ _ h)

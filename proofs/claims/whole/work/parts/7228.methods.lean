/-! METHODS 28, printed by gen_meth.py -/
abbrev pe_X12_cam_18 (f : Int32 → Int32 → pj_F (Int32 × pj_Z)) : pj_K (Int32 × pj_Z) := fun lv st z => pj_xr lv 0 124 0 <| pj_xi lv 1 fun a1 => pj_pi st fun b1 st => pj_pr st 124 0 fun st => pj_pe st (f a1 b1 z.1 z.2.1 z.2.2.1 z.2.2.2)
abbrev px_X12_cam : pj_C (Int32 × pj_Z) := ((pj_as [(124, 12, 195, 1, 0, true, 0, [(1, 1), (2, 125), (2, 126), (2, 127), (2, 128), (2, 129), (2, 130), (2, 131), (2, 132), (2, 133), (1, 2), (0, 44), (2, 134), (2, 135), (2, 136), (2, 137), (2, 138), (0, 69), (2, 139), (2, 140), (2, 141), (1, 3), (0, 93), (0, 94), (0, 45), (0, 46), (0, 48), (0, 49), (0, 47), (0, 50), (0, 51), (2, 142), (2, 143), (2, 144), (0, 19), (1, 4), (1, 5), (1, 6), (0, 20), (0, 21), (0, 22), (0, 23), (0, 24), (0, 25), (0, 27), (0, 28), (1, 7), (1, 8), (1, 9), (1, 10), (1, 11), (0, 26), (2, 145), (2, 146), (2, 147), (2, 148), (2, 149), (2, 150), (2, 151), (2, 152), (2, 153), (2, 154), (2, 155), (2, 156), (2, 157), (2, 158), (2, 159), (0, 57), (0, 58), (0, 59), (0, 60), (2, 160), (2, 161), (2, 162), (2, 163), (1, 12), (1, 13), (0, 95), (0, 73), (0, 74), (0, 71), (0, 72), (0, 75), (0, 76), (0, 77), (0, 80), (0, 78), (0, 79), (1, 14), (0, 29), (0, 30), (0, 31), (0, 34), (0, 35), (0, 32), (0, 33), (0, 36), (0, 37), (0, 38), (0, 39), (0, 40), (1, 15), (1, 16), (0, 43), (0, 41), (0, 42), (2, 164), (0, 96), (0, 89), (0, 90), (0, 91), (0, 92), (2, 165), (2, 166), (2, 167), (2, 168), (2, 169), (2, 170), (2, 171), (2, 172), (0, 87), (2, 173), (0, 88), (2, 174), (0, 62), (1, 17), (0, 66), (0, 63), (0, 64), (0, 65), (0, 67), (1, 18), (0, 68), (2, 175), (1, 19), (0, 52), (0, 53), (0, 54), (0, 55), (2, 176), (0, 56), (0, 85), (0, 86), (0, 81), (0, 82), (0, 83), (0, 84), (2, 177), (2, 178), (2, 179), (1, 20), (2, 180), (0, 6), (0, 7), (0, 8), (0, 16), (0, 17), (0, 61), (0, 9), (0, 10), (1, 21), (1, 22), (0, 11), (0, 12), (0, 13), (0, 18), (0, 14), (0, 15), (2, 181), (0, 70), (1, 23), (2, 182), (2, 183), (0, 1), (1, 24), (2, 184), (2, 185), (1, 25), (0, 2), (2, 186), (2, 187), (1, 26), (2, 188), (2, 189), (1, 27), (1, 28), (2, 190), (2, 191), (1, 29), (0, 3), (2, 192), (0, 4), (0, 5), (1, 30), (2, 193)])]), (pj_as [(259, 12, 0, 0, false), (262, 12, 34, 0, false), (594, 12, 22, 1, false)]), (fun _ => none), (pj_as [(630, 1000000)]), (fun _ => none), ic_X, 2, 1, pj_mI, (pj_as [(7, ph_X12_isIn), (38, ph_X12_passTo), (42, ph_X12_camEdge)]), fun _ => false)
abbrev pk_X12_cam : List (Nat × List (Nat × Instr × Nat)) := [(0, [(0, .aload_n 0, 1), (1, .iload_n 1, 1), (2, .i2l, 1), (3, .lconst 0, 1), (4, .ldc2_w 630, 3), (7, .invokestatic 568, 3), (10, .ifCond .ne 7, 3)]), (13, [(13, .iconst 1, 1), (14, .goto 4, 3)]), (17, [(17, .iconst 0, 1)]), (18, [(18, .putfield 259, 3), (21, .aload_n 0, 1), (22, .getfield 259, 3), (25, .ifCond .le 5, 3)]), (28, [(28, .iconst 0, 1), (29, .ireturn, 1)]), (30, [(30, .aload_n 0, 1), (31, .aload_n 0, 1), (32, .getfield 594, 3), (35, .iload_n 1, 1), (36, .i2l, 1), (37, .ladd, 1), (38, .invokevirtual 894, 3), (41, .aload_n 0, 1), (42, .invokevirtual 903, 3), (45, .aload_n 0, 1), (46, .getfield 262, 3), (49, .ireturn, 1)])]
set_option maxRecDepth 100000 in
theorem pq_X12_cam_18  (a1 : Int32) (b1 : Int32) (s : Nat → Int32) (l : Nat → Int64) (x : Nat → Int32) (y : Nat → Int64) : pl_X12_cam_18 a1 b1 s l x y = pj_bl px_X12_cam (pj_rn px_X12_cam (pj_as pk_X12_cam) (fun _ => none) 60) [(18, .putfield 259, 3), (21, .aload_n 0, 1), (22, .getfield 259, 3), (25, .ifCond .le 5, 3)] 18 [(0, pj_O (124, 0)), (1, pj_I a1)] [pj_I b1, pj_O (124, 0)] (s, l, x, y) := rfl
set_option maxRecDepth 100000 in
theorem pq_X12_cam_m  (a1 : Int32) (s : Nat → Int32) (l : Nat → Int64) (x : Nat → Int32) (y : Nat → Int64) : pf_X12_cam a1 s l x y = pj_bl px_X12_cam (pj_rn px_X12_cam (pj_as pk_X12_cam) (pj_as [(18, pe_X12_cam_18 (pl_X12_cam_18))]) 60) [(0, .aload_n 0, 1), (1, .iload_n 1, 1), (2, .i2l, 1), (3, .lconst 0, 1), (4, .ldc2_w 630, 3), (7, .invokestatic 568, 3), (10, .ifCond .ne 7, 3)] 0 [(0, pj_O (124, 0)), (1, pj_I a1)] [] (s, l, x, y) := rfl
theorem pu_X12_cam_18 {lf : pj_Z → mj_M} {a : Int32 × pj_Z} (f : Int32 → Int32 → pj_F (Int32 × pj_Z)) (hf : ∀ (a1 : Int32) (b1 : Int32) (s : Nat → Int32) (l : Nat → Int64) (x : Nat → Int32) (y : Nat → Int64), f a1 b1 s l x y = some a → pm_Gd 9 12087 ie_X12_cam.1 pm_rI lf 18 [(0, .ref 124), (1, .int a1)] [.int b1, .ref 124] (s, l, x, y) a) : pm_Ex 9 12087 ie_X12_cam.1 pm_rI lf a 18 (pe_X12_cam_18 f) := by
  intro lv st z hd h
  obtain ⟨g0, h⟩ := pj_xr_inv h
  obtain ⟨a1, g1, h⟩ := pj_xi_inv h
  obtain ⟨b1, r1, e1, h⟩ := pj_pi_inv h
  obtain ⟨r0, e0, h⟩ := pj_pr_inv h
  obtain ⟨e9, h⟩ := pj_pe_inv h
  rw [e1, e0, e9]
  exact mj_wp_sub (mj_sub_cons g0 (mj_sub_cons g1 (mj_sub_nil hd))) (hf _ _ _ _ _ _ h)
set_option maxRecDepth 100000 in
theorem pz_X12_cam {lf : pj_Z → mj_M} (hT : pj_Lt pj_TR lf) : pj_Cok ic_P (mj_R ic_P 9) 12087 ie_X12_cam.1 (pm_OK lf pm_rI) lf px_X12_cam := by
  exact pm_cok (c := px_X12_cam) (pm_part hT (pj_as_all (p := fun b e => pj_TR b = some e) (List.forall_mem_cons.mpr ⟨rfl, (fun _ h => by cases h)⟩))) (pm_in_ok (L := [(259, 12, 0, 0, false), (262, 12, 34, 0, false), (594, 12, 22, 1, false)]) (f := mj_pF ic_P 12087) (by decide +kernel)) (fun _ _ h => by cases h) (pm_inL_ok (L := [(630, 1000000)]) (f := mj_pL ic_P 12087) (by decide +kernel)) (fun _ _ h => by cases h) rfl rfl ⟨by decide, rfl⟩ pm_mI (pj_as_all (p := pm_Cl 9 12087 ie_X12_cam.1 lf (pm_OK lf pm_rI)) (List.forall_mem_cons.mpr ⟨fun _ _ lv st z K a hK h => pc_X12_isIn hT (by decide) (ix := 568) rfl rfl hK h, (List.forall_mem_cons.mpr ⟨fun _ _ lv st z K a hK h => pc_X12_passTo hT (by decide) (ix := 894) rfl rfl hK h, (List.forall_mem_cons.mpr ⟨fun _ _ lv st z K a hK h => pc_X12_camEdge hT (by decide) (ix := 903) rfl rfl hK h, (fun _ h => by cases h)⟩)⟩)⟩)) (fun _ h => by cases h)
set_option maxRecDepth 100000 in
theorem pb_X12_cam : pm_bks ie_X12_cam.1.2.2.2.2 pk_X12_cam = true := by decide +kernel
set_option maxRecDepth 100000 in
theorem pg_X12_cam_18 {lf : pj_Z → mj_M} (hT : pj_Lt pj_TR lf) : ∀ (a1 : Int32) (b1 : Int32) (s : Nat → Int32) (l : Nat → Int64) (x : Nat → Int32) (y : Nat → Int64) (a : Int32 × pj_Z), pl_X12_cam_18 a1 b1 s l x y = some a → pm_Gd 9 12087 ie_X12_cam.1 pm_rI lf 18 [(0, .ref 124), (1, .int a1)] [.int b1, .ref 124] (s, l, x, y) a := by
  intro a1 b1 s l x y a h
  exact pm_run ((pq_X12_cam_18  a1 b1 s l x y).symm.trans h) (pz_X12_cam hT) (pm_bks_ok pb_X12_cam) (pm_bks_ok pb_X12_cam _ _ rfl) (pm_ndb_ok rfl) (fun _ _ h => by cases h)
set_option maxRecDepth 100000 in
theorem pm_X12_cam {lf : pj_Z → mj_M} (hT : pj_Lt pj_TR lf) (a1 : Int32) (s : Nat → Int32) (l : Nat → Int64) (x : Nat → Int32) (y : Nat → Int64) (a : Int32 × pj_Z) (h : pf_X12_cam a1 s l x y = some a) : mj_R ic_P 10 12087 [.ref 124, .int a1] (lf (s, l, x, y)) (pm_rI a.1) (lf a.2) := by
  refine pm_main (Y := ie_X12_cam.1) rfl (Nat.le_of_ble_eq_true rfl) ?_
  exact pm_run ((pq_X12_cam_m a1 s l x y).symm.trans h) (pz_X12_cam hT) (pm_bks_ok pb_X12_cam) (pm_bks_ok pb_X12_cam _ _ rfl) (pm_ndb_ok rfl) (pj_as_all (p := pm_Ex 9 12087 ie_X12_cam.1 pm_rI lf a) (List.forall_mem_cons.mpr ⟨pu_X12_cam_18 _ (fun c0 c1 s l x y h => pg_X12_cam_18 hT c0 c1 s l x y _ h), (fun _ h => by cases h)⟩))
abbrev ph_X12_cam {A : Type} : List pj_V → pj_Z → (List pj_V → pj_Z → Option A) → Option A := fun st z K => pj_pi st fun a1 st => pj_pr st 124 0 fun st => pj_ps st (pj_b (pf_X12_cam a1 z.1 z.2.1 z.2.2.1 z.2.2.2) fun r s l x y => K (pj_I r :: st) (s, l, x, y))
set_option maxRecDepth 100000 in
theorem pc_X12_cam {A : Type} {OK : A → Option Value → mj_M → Prop} {d j pc ix : Nat} {Y : mj_Y} {lf : pj_Z → mj_M} (hT : pj_Lt pj_TR lf) (hd : 10 ≤ d) (hl : mj_lk Y.2.2.2.2 pc = some (.invokevirtual ix, 3)) (hg : mj_pG ic_P j ix = some (12087, 1, some 12)) {lv : List (Nat × Value)} {st : List pj_V} {z : pj_Z} {K : List pj_V → pj_Z → Option A} {a : A} (hK : ∀ st z, K st z = some a → pj_Gd ic_P (mj_R ic_P d) j Y OK lf (pc + 3) lv (pj_es st) z a) (h : ph_X12_cam st z K = some a) : pj_Gd ic_P (mj_R ic_P d) j Y OK lf pc lv (pj_es st) z a := by
  obtain ⟨a1, r1, e1, h⟩ := pj_pi_inv h
  obtain ⟨r0, e0, h⟩ := pj_pr_inv h
  obtain ⟨hs, h⟩ := pj_ps_inv h
  obtain ⟨q, hq, h⟩ := pj_b_inv h
  exact pm_cv (o := 124) hl hg [.int a1] rfl (by rw [e1, e0]; rfl) hs (by decide) ((hT.2 124 _ rfl).1.2 z 0 (by decide)) (pm_rI q.1) hd (pm_X12_cam hT a1 z.1 z.2.1 z.2.2.1 z.2.2.2 q hq) rfl (hK _ _ h)
abbrev pe_X12_turn_27 (f : Int32 → Int32 → pj_F (Int32 × pj_Z)) : pj_K (Int32 × pj_Z) := fun lv st z => pj_xr lv 0 124 0 <| pj_xi lv 1 fun a1 => pj_xi lv 2 fun a2 => pj_pr st 124 0 fun st => pj_pe st (f a1 a2 z.1 z.2.1 z.2.2.1 z.2.2.2)
abbrev pe_X12_turn_32 (f : Int32 → Int32 → Int32 → pj_F (Int32 × pj_Z)) : pj_K (Int32 × pj_Z) := fun lv st z => pj_xr lv 0 124 0 <| pj_xi lv 1 fun a1 => pj_xi lv 2 fun a2 => pj_pi st fun b1 st => pj_pr st 124 0 fun st => pj_pe st (f a1 a2 b1 z.1 z.2.1 z.2.2.1 z.2.2.2)
abbrev pe_X12_turn_37 (f : Int32 → Int32 → Int32 → pj_F (Int32 × pj_Z)) : pj_K (Int32 × pj_Z) := fun lv st z => pj_xr lv 0 124 0 <| pj_xi lv 1 fun a1 => pj_xi lv 2 fun a2 => pj_xi lv 3 fun a3 => pj_pe st (f a1 a2 a3 z.1 z.2.1 z.2.2.1 z.2.2.2)
abbrev pe_X12_turn_61 (f : pj_F (Int32 × pj_Z)) : pj_K (Int32 × pj_Z) := fun lv st z => pj_xr lv 0 124 0 <| pj_pe st (f  z.1 z.2.1 z.2.2.1 z.2.2.2)
abbrev px_X12_turn : pj_C (Int32 × pj_Z) := ((pj_as [(124, 12, 195, 1, 0, true, 0, [(1, 1), (2, 125), (2, 126), (2, 127), (2, 128), (2, 129), (2, 130), (2, 131), (2, 132), (2, 133), (1, 2), (0, 44), (2, 134), (2, 135), (2, 136), (2, 137), (2, 138), (0, 69), (2, 139), (2, 140), (2, 141), (1, 3), (0, 93), (0, 94), (0, 45), (0, 46), (0, 48), (0, 49), (0, 47), (0, 50), (0, 51), (2, 142), (2, 143), (2, 144), (0, 19), (1, 4), (1, 5), (1, 6), (0, 20), (0, 21), (0, 22), (0, 23), (0, 24), (0, 25), (0, 27), (0, 28), (1, 7), (1, 8), (1, 9), (1, 10), (1, 11), (0, 26), (2, 145), (2, 146), (2, 147), (2, 148), (2, 149), (2, 150), (2, 151), (2, 152), (2, 153), (2, 154), (2, 155), (2, 156), (2, 157), (2, 158), (2, 159), (0, 57), (0, 58), (0, 59), (0, 60), (2, 160), (2, 161), (2, 162), (2, 163), (1, 12), (1, 13), (0, 95), (0, 73), (0, 74), (0, 71), (0, 72), (0, 75), (0, 76), (0, 77), (0, 80), (0, 78), (0, 79), (1, 14), (0, 29), (0, 30), (0, 31), (0, 34), (0, 35), (0, 32), (0, 33), (0, 36), (0, 37), (0, 38), (0, 39), (0, 40), (1, 15), (1, 16), (0, 43), (0, 41), (0, 42), (2, 164), (0, 96), (0, 89), (0, 90), (0, 91), (0, 92), (2, 165), (2, 166), (2, 167), (2, 168), (2, 169), (2, 170), (2, 171), (2, 172), (0, 87), (2, 173), (0, 88), (2, 174), (0, 62), (1, 17), (0, 66), (0, 63), (0, 64), (0, 65), (0, 67), (1, 18), (0, 68), (2, 175), (1, 19), (0, 52), (0, 53), (0, 54), (0, 55), (2, 176), (0, 56), (0, 85), (0, 86), (0, 81), (0, 82), (0, 83), (0, 84), (2, 177), (2, 178), (2, 179), (1, 20), (2, 180), (0, 6), (0, 7), (0, 8), (0, 16), (0, 17), (0, 61), (0, 9), (0, 10), (1, 21), (1, 22), (0, 11), (0, 12), (0, 13), (0, 18), (0, 14), (0, 15), (2, 181), (0, 70), (1, 23), (2, 182), (2, 183), (0, 1), (1, 24), (2, 184), (2, 185), (1, 25), (0, 2), (2, 186), (2, 187), (1, 26), (2, 188), (2, 189), (1, 27), (1, 28), (2, 190), (2, 191), (1, 29), (0, 3), (2, 192), (0, 4), (0, 5), (1, 30), (2, 193)])]), (pj_as [(259, 12, 0, 0, false), (262, 12, 34, 0, false)]), (fun _ => none), (pj_as [(717, 20), (913, 240), (915, 100000)]), (fun _ => none), ic_X, 4, 1, pj_mI, (pj_as [(7, ph_X12_isIn), (21, ph_X12_isIn), (52, ph_X12_step)]), fun _ => false)
abbrev pk_X12_turn : List (Nat × List (Nat × Instr × Nat)) := [(0, [(0, .aload_n 0, 1), (1, .iload_n 1, 1), (2, .i2l, 1), (3, .lconst 1, 1), (4, .ldc2_w 913, 3), (7, .invokestatic 568, 3), (10, .ifCond .eq 17, 3)]), (13, [(13, .iload_n 2, 1), (14, .i2l, 1), (15, .ldc2_w 717, 3), (18, .ldc2_w 915, 3), (21, .invokestatic 568, 3), (24, .ifCond .ne 7, 3)]), (27, [(27, .iconst 1, 1), (28, .goto 4, 3)]), (31, [(31, .iconst 0, 1)]), (32, [(32, .putfield 259, 3), (35, .iconst 0, 1), (36, .istore_n 3, 1)]), (37, [(37, .iload_n 3, 1), (38, .iload_n 1, 1), (39, .if_icmp .ge 22, 3)]), (42, [(42, .aload_n 0, 1), (43, .getfield 259, 3), (46, .ifCond .ne 15, 3)]), (49, [(49, .aload_n 0, 1), (50, .iload_n 2, 1), (51, .i2l, 1), (52, .invokevirtual 917, 3), (55, .iinc 3 1, 3), (58, .goto (-21), 3)]), (61, [(61, .aload_n 0, 1), (62, .getfield 259, 3), (65, .ifCond .le 7, 3)]), (68, [(68, .iconst 0, 1), (69, .goto 7, 3)]), (72, [(72, .aload_n 0, 1), (73, .getfield 262, 3)]), (76, [(76, .ireturn, 1)])]
set_option maxRecDepth 100000 in
theorem pq_X12_turn_61 (fu : Nat)   (s : Nat → Int32) (l : Nat → Int64) (x : Nat → Int32) (y : Nat → Int64) : pl_X12_turn_61 fu s l x y = pj_bl px_X12_turn (pj_rn px_X12_turn (pj_as pk_X12_turn) (fun _ => none) 60) [(61, .aload_n 0, 1), (62, .getfield 259, 3), (65, .ifCond .le 7, 3)] 61 [(0, pj_O (124, 0))] [] (s, l, x, y) := rfl
set_option maxRecDepth 100000 in
theorem pq_X12_turn_37 (fu : Nat)  (n : Nat) (a1 : Int32) (a2 : Int32) (a3 : Int32) (s : Nat → Int32) (l : Nat → Int64) (x : Nat → Int32) (y : Nat → Int64) : pl_X12_turn_37 fu (n + 1) a1 a2 a3 s l x y = pj_bl px_X12_turn (pj_rn px_X12_turn (pj_as pk_X12_turn) (pj_as [(37, pe_X12_turn_37 (pl_X12_turn_37 fu n)), (61, pe_X12_turn_61 (pl_X12_turn_61 fu))]) 60) [(37, .iload_n 3, 1), (38, .iload_n 1, 1), (39, .if_icmp .ge 22, 3)] 37 [(0, pj_O (124, 0)), (1, pj_I a1), (2, pj_I a2), (3, pj_I a3)] [] (s, l, x, y) := rfl
set_option maxRecDepth 100000 in
theorem pq_X12_turn_32 (fu : Nat)  (a1 : Int32) (a2 : Int32) (b1 : Int32) (s : Nat → Int32) (l : Nat → Int64) (x : Nat → Int32) (y : Nat → Int64) : pl_X12_turn_32 fu a1 a2 b1 s l x y = pj_bl px_X12_turn (pj_rn px_X12_turn (pj_as pk_X12_turn) (pj_as [(37, pe_X12_turn_37 (pl_X12_turn_37 fu fu))]) 60) [(32, .putfield 259, 3), (35, .iconst 0, 1), (36, .istore_n 3, 1)] 32 [(0, pj_O (124, 0)), (1, pj_I a1), (2, pj_I a2)] [pj_I b1, pj_O (124, 0)] (s, l, x, y) := rfl
set_option maxRecDepth 100000 in
theorem pq_X12_turn_27 (fu : Nat)  (a1 : Int32) (a2 : Int32) (s : Nat → Int32) (l : Nat → Int64) (x : Nat → Int32) (y : Nat → Int64) : pl_X12_turn_27 fu a1 a2 s l x y = pj_bl px_X12_turn (pj_rn px_X12_turn (pj_as pk_X12_turn) (pj_as [(32, pe_X12_turn_32 (pl_X12_turn_32 fu))]) 60) [(27, .iconst 1, 1), (28, .goto 4, 3)] 27 [(0, pj_O (124, 0)), (1, pj_I a1), (2, pj_I a2)] [pj_O (124, 0)] (s, l, x, y) := rfl
set_option maxRecDepth 100000 in
theorem pq_X12_turn_m (fu : Nat)  (a1 : Int32) (a2 : Int32) (s : Nat → Int32) (l : Nat → Int64) (x : Nat → Int32) (y : Nat → Int64) : po_X12_turn fu a1 a2 s l x y = pj_bl px_X12_turn (pj_rn px_X12_turn (pj_as pk_X12_turn) (pj_as [(27, pe_X12_turn_27 (pl_X12_turn_27 fu)), (32, pe_X12_turn_32 (pl_X12_turn_32 fu))]) 60) [(0, .aload_n 0, 1), (1, .iload_n 1, 1), (2, .i2l, 1), (3, .lconst 1, 1), (4, .ldc2_w 913, 3), (7, .invokestatic 568, 3), (10, .ifCond .eq 17, 3)] 0 [(0, pj_O (124, 0)), (1, pj_I a1), (2, pj_I a2)] [] (s, l, x, y) := rfl
theorem pu_X12_turn_27 {lf : pj_Z → mj_M} {a : Int32 × pj_Z} (f : Int32 → Int32 → pj_F (Int32 × pj_Z)) (hf : ∀ (a1 : Int32) (a2 : Int32) (s : Nat → Int32) (l : Nat → Int64) (x : Nat → Int32) (y : Nat → Int64), f a1 a2 s l x y = some a → pm_Gd 10 12088 ie_X12_turn.1 pm_rI lf 27 [(0, .ref 124), (1, .int a1), (2, .int a2)] [.ref 124] (s, l, x, y) a) : pm_Ex 10 12088 ie_X12_turn.1 pm_rI lf a 27 (pe_X12_turn_27 f) := by
  intro lv st z hd h
  obtain ⟨g0, h⟩ := pj_xr_inv h
  obtain ⟨a1, g1, h⟩ := pj_xi_inv h
  obtain ⟨a2, g2, h⟩ := pj_xi_inv h
  obtain ⟨r0, e0, h⟩ := pj_pr_inv h
  obtain ⟨e9, h⟩ := pj_pe_inv h
  rw [e0, e9]
  exact mj_wp_sub (mj_sub_cons g0 (mj_sub_cons g1 (mj_sub_cons g2 (mj_sub_nil hd)))) (hf _ _ _ _ _ _ h)
theorem pu_X12_turn_32 {lf : pj_Z → mj_M} {a : Int32 × pj_Z} (f : Int32 → Int32 → Int32 → pj_F (Int32 × pj_Z)) (hf : ∀ (a1 : Int32) (a2 : Int32) (b1 : Int32) (s : Nat → Int32) (l : Nat → Int64) (x : Nat → Int32) (y : Nat → Int64), f a1 a2 b1 s l x y = some a → pm_Gd 10 12088 ie_X12_turn.1 pm_rI lf 32 [(0, .ref 124), (1, .int a1), (2, .int a2)] [.int b1, .ref 124] (s, l, x, y) a) : pm_Ex 10 12088 ie_X12_turn.1 pm_rI lf a 32 (pe_X12_turn_32 f) := by
  intro lv st z hd h
  obtain ⟨g0, h⟩ := pj_xr_inv h
  obtain ⟨a1, g1, h⟩ := pj_xi_inv h
  obtain ⟨a2, g2, h⟩ := pj_xi_inv h
  obtain ⟨b1, r1, e1, h⟩ := pj_pi_inv h
  obtain ⟨r0, e0, h⟩ := pj_pr_inv h
  obtain ⟨e9, h⟩ := pj_pe_inv h
  rw [e1, e0, e9]
  exact mj_wp_sub (mj_sub_cons g0 (mj_sub_cons g1 (mj_sub_cons g2 (mj_sub_nil hd)))) (hf _ _ _ _ _ _ _ h)
theorem pu_X12_turn_37 {lf : pj_Z → mj_M} {a : Int32 × pj_Z} (f : Int32 → Int32 → Int32 → pj_F (Int32 × pj_Z)) (hf : ∀ (a1 : Int32) (a2 : Int32) (a3 : Int32) (s : Nat → Int32) (l : Nat → Int64) (x : Nat → Int32) (y : Nat → Int64), f a1 a2 a3 s l x y = some a → pm_Gd 10 12088 ie_X12_turn.1 pm_rI lf 37 [(0, .ref 124), (1, .int a1), (2, .int a2), (3, .int a3)] [] (s, l, x, y) a) : pm_Ex 10 12088 ie_X12_turn.1 pm_rI lf a 37 (pe_X12_turn_37 f) := by
  intro lv st z hd h
  obtain ⟨g0, h⟩ := pj_xr_inv h
  obtain ⟨a1, g1, h⟩ := pj_xi_inv h
  obtain ⟨a2, g2, h⟩ := pj_xi_inv h
  obtain ⟨a3, g3, h⟩ := pj_xi_inv h
  obtain ⟨e9, h⟩ := pj_pe_inv h
  rw [e9]
  exact mj_wp_sub (mj_sub_cons g0 (mj_sub_cons g1 (mj_sub_cons g2 (mj_sub_cons g3 (mj_sub_nil hd))))) (hf _ _ _ _ _ _ _ h)
theorem pu_X12_turn_61 {lf : pj_Z → mj_M} {a : Int32 × pj_Z} (f : pj_F (Int32 × pj_Z)) (hf : ∀  (s : Nat → Int32) (l : Nat → Int64) (x : Nat → Int32) (y : Nat → Int64), f  s l x y = some a → pm_Gd 10 12088 ie_X12_turn.1 pm_rI lf 61 [(0, .ref 124)] [] (s, l, x, y) a) : pm_Ex 10 12088 ie_X12_turn.1 pm_rI lf a 61 (pe_X12_turn_61 f) := by
  intro lv st z hd h
  obtain ⟨g0, h⟩ := pj_xr_inv h
  obtain ⟨e9, h⟩ := pj_pe_inv h
  rw [e9]
  exact mj_wp_sub (mj_sub_cons g0 (mj_sub_nil hd)) (hf  _ _ _ _ h)
set_option maxRecDepth 100000 in
theorem pz_X12_turn {lf : pj_Z → mj_M} (hT : pj_Lt pj_TR lf) : pj_Cok ic_P (mj_R ic_P 10) 12088 ie_X12_turn.1 (pm_OK lf pm_rI) lf px_X12_turn := by
  exact pm_cok (c := px_X12_turn) (pm_part hT (pj_as_all (p := fun b e => pj_TR b = some e) (List.forall_mem_cons.mpr ⟨rfl, (fun _ h => by cases h)⟩))) (pm_in_ok (L := [(259, 12, 0, 0, false), (262, 12, 34, 0, false)]) (f := mj_pF ic_P 12088) (by decide +kernel)) (fun _ _ h => by cases h) (pm_inL_ok (L := [(717, 20), (913, 240), (915, 100000)]) (f := mj_pL ic_P 12088) (by decide +kernel)) (fun _ _ h => by cases h) rfl rfl ⟨by decide, rfl⟩ pm_mI (pj_as_all (p := pm_Cl 10 12088 ie_X12_turn.1 lf (pm_OK lf pm_rI)) (List.forall_mem_cons.mpr ⟨fun _ _ lv st z K a hK h => pc_X12_isIn hT (by decide) (ix := 568) rfl rfl hK h, (List.forall_mem_cons.mpr ⟨fun _ _ lv st z K a hK h => pc_X12_isIn hT (by decide) (ix := 568) rfl rfl hK h, (List.forall_mem_cons.mpr ⟨fun _ _ lv st z K a hK h => pc_X12_step hT (by decide) (ix := 917) rfl rfl hK h, (fun _ h => by cases h)⟩)⟩)⟩)) (fun _ h => by cases h)
set_option maxRecDepth 100000 in
theorem pb_X12_turn : pm_bks ie_X12_turn.1.2.2.2.2 pk_X12_turn = true := by decide +kernel
set_option maxRecDepth 100000 in
theorem pg_X12_turn_61 {fu : Nat} {lf : pj_Z → mj_M} (hT : pj_Lt pj_TR lf) : ∀  (s : Nat → Int32) (l : Nat → Int64) (x : Nat → Int32) (y : Nat → Int64) (a : Int32 × pj_Z), pl_X12_turn_61 fu s l x y = some a → pm_Gd 10 12088 ie_X12_turn.1 pm_rI lf 61 [(0, .ref 124)] [] (s, l, x, y) a := by
  intro  s l x y a h
  exact pm_run ((pq_X12_turn_61 fu  s l x y).symm.trans h) (pz_X12_turn hT) (pm_bks_ok pb_X12_turn) (pm_bks_ok pb_X12_turn _ _ rfl) (pm_ndb_ok rfl) (fun _ _ h => by cases h)
set_option maxRecDepth 100000 in
theorem pg_X12_turn_37 {fu : Nat} {lf : pj_Z → mj_M} (hT : pj_Lt pj_TR lf) : ∀ (n : Nat), ∀ (a1 : Int32) (a2 : Int32) (a3 : Int32) (s : Nat → Int32) (l : Nat → Int64) (x : Nat → Int32) (y : Nat → Int64) (a : Int32 × pj_Z), pl_X12_turn_37 fu n a1 a2 a3 s l x y = some a → pm_Gd 10 12088 ie_X12_turn.1 pm_rI lf 37 [(0, .ref 124), (1, .int a1), (2, .int a2), (3, .int a3)] [] (s, l, x, y) a := by
  intro n
  induction n with
  | zero => intro a1 a2 a3 s l x y a h; cases (show (none : Option (Int32 × pj_Z)) = some a from h)
  | succ n ih =>
    intro a1 a2 a3 s l x y a h
    exact pm_run ((pq_X12_turn_37 fu n a1 a2 a3 s l x y).symm.trans h) (pz_X12_turn hT) (pm_bks_ok pb_X12_turn) (pm_bks_ok pb_X12_turn _ _ rfl) (pm_ndb_ok rfl) (pj_as_all (p := pm_Ex 10 12088 ie_X12_turn.1 pm_rI lf a) (List.forall_mem_cons.mpr ⟨pu_X12_turn_37 _ (fun c0 c1 c2 s l x y h => ih c0 c1 c2 s l x y _ h), (List.forall_mem_cons.mpr ⟨pu_X12_turn_61 _ (fun  s l x y h => pg_X12_turn_61 hT  s l x y _ h), (fun _ h => by cases h)⟩)⟩))
set_option maxRecDepth 100000 in
theorem pg_X12_turn_32 {fu : Nat} {lf : pj_Z → mj_M} (hT : pj_Lt pj_TR lf) : ∀ (a1 : Int32) (a2 : Int32) (b1 : Int32) (s : Nat → Int32) (l : Nat → Int64) (x : Nat → Int32) (y : Nat → Int64) (a : Int32 × pj_Z), pl_X12_turn_32 fu a1 a2 b1 s l x y = some a → pm_Gd 10 12088 ie_X12_turn.1 pm_rI lf 32 [(0, .ref 124), (1, .int a1), (2, .int a2)] [.int b1, .ref 124] (s, l, x, y) a := by
  intro a1 a2 b1 s l x y a h
  exact pm_run ((pq_X12_turn_32 fu a1 a2 b1 s l x y).symm.trans h) (pz_X12_turn hT) (pm_bks_ok pb_X12_turn) (pm_bks_ok pb_X12_turn _ _ rfl) (pm_ndb_ok rfl) (pj_as_all (p := pm_Ex 10 12088 ie_X12_turn.1 pm_rI lf a) (List.forall_mem_cons.mpr ⟨pu_X12_turn_37 _ (fun c0 c1 c2 s l x y h => pg_X12_turn_37 hT _ c0 c1 c2 s l x y _ h), (fun _ h => by cases h)⟩))
set_option maxRecDepth 100000 in
theorem pg_X12_turn_27 {fu : Nat} {lf : pj_Z → mj_M} (hT : pj_Lt pj_TR lf) : ∀ (a1 : Int32) (a2 : Int32) (s : Nat → Int32) (l : Nat → Int64) (x : Nat → Int32) (y : Nat → Int64) (a : Int32 × pj_Z), pl_X12_turn_27 fu a1 a2 s l x y = some a → pm_Gd 10 12088 ie_X12_turn.1 pm_rI lf 27 [(0, .ref 124), (1, .int a1), (2, .int a2)] [.ref 124] (s, l, x, y) a := by
  intro a1 a2 s l x y a h
  exact pm_run ((pq_X12_turn_27 fu a1 a2 s l x y).symm.trans h) (pz_X12_turn hT) (pm_bks_ok pb_X12_turn) (pm_bks_ok pb_X12_turn _ _ rfl) (pm_ndb_ok rfl) (pj_as_all (p := pm_Ex 10 12088 ie_X12_turn.1 pm_rI lf a) (List.forall_mem_cons.mpr ⟨pu_X12_turn_32 _ (fun c0 c1 c2 s l x y h => pg_X12_turn_32 hT c0 c1 c2 s l x y _ h), (fun _ h => by cases h)⟩))
set_option maxRecDepth 100000 in
theorem pm_X12_turn {lf : pj_Z → mj_M} (hT : pj_Lt pj_TR lf) (a1 : Int32) (a2 : Int32) (s : Nat → Int32) (l : Nat → Int64) (x : Nat → Int32) (y : Nat → Int64) (a : Int32 × pj_Z) (h : pf_X12_turn a1 a2 s l x y = some a) : mj_R ic_P 11 12088 [.ref 124, .int a1, .int a2] (lf (s, l, x, y)) (pm_rI a.1) (lf a.2) := by
  refine pm_main (Y := ie_X12_turn.1) rfl (Nat.le_of_ble_eq_true rfl) ?_
  exact pm_run ((pq_X12_turn_m 1000 a1 a2 s l x y).symm.trans h) (pz_X12_turn hT) (pm_bks_ok pb_X12_turn) (pm_bks_ok pb_X12_turn _ _ rfl) (pm_ndb_ok rfl) (pj_as_all (p := pm_Ex 10 12088 ie_X12_turn.1 pm_rI lf a) (List.forall_mem_cons.mpr ⟨pu_X12_turn_27 _ (fun c0 c1 s l x y h => pg_X12_turn_27 hT c0 c1 s l x y _ h), (List.forall_mem_cons.mpr ⟨pu_X12_turn_32 _ (fun c0 c1 c2 s l x y h => pg_X12_turn_32 hT c0 c1 c2 s l x y _ h), (fun _ h => by cases h)⟩)⟩))
abbrev ph_X12_turn {A : Type} : List pj_V → pj_Z → (List pj_V → pj_Z → Option A) → Option A := fun st z K => pj_pi st fun a2 st => pj_pi st fun a1 st => pj_pr st 124 0 fun st => pj_ps st (pj_b (pf_X12_turn a1 a2 z.1 z.2.1 z.2.2.1 z.2.2.2) fun r s l x y => K (pj_I r :: st) (s, l, x, y))
set_option maxRecDepth 100000 in
theorem pc_X12_turn {A : Type} {OK : A → Option Value → mj_M → Prop} {d j pc ix : Nat} {Y : mj_Y} {lf : pj_Z → mj_M} (hT : pj_Lt pj_TR lf) (hd : 11 ≤ d) (hl : mj_lk Y.2.2.2.2 pc = some (.invokevirtual ix, 3)) (hg : mj_pG ic_P j ix = some (12088, 2, some 12)) {lv : List (Nat × Value)} {st : List pj_V} {z : pj_Z} {K : List pj_V → pj_Z → Option A} {a : A} (hK : ∀ st z, K st z = some a → pj_Gd ic_P (mj_R ic_P d) j Y OK lf (pc + 3) lv (pj_es st) z a) (h : ph_X12_turn st z K = some a) : pj_Gd ic_P (mj_R ic_P d) j Y OK lf pc lv (pj_es st) z a := by
  obtain ⟨a2, r2, e2, h⟩ := pj_pi_inv h
  obtain ⟨a1, r1, e1, h⟩ := pj_pi_inv h
  obtain ⟨r0, e0, h⟩ := pj_pr_inv h
  obtain ⟨hs, h⟩ := pj_ps_inv h
  obtain ⟨q, hq, h⟩ := pj_b_inv h
  exact pm_cv (o := 124) hl hg [.int a1, .int a2] rfl (by rw [e2, e1, e0]; rfl) hs (by decide) ((hT.2 124 _ rfl).1.2 z 0 (by decide)) (pm_rI q.1) hd (pm_X12_turn hT a1 a2 z.1 z.2.1 z.2.2.1 z.2.2.2 q hq) rfl (hK _ _ h)
abbrev pe_X12_run_18 (f : Int32 → Int32 → pj_F (Int32 × pj_Z)) : pj_K (Int32 × pj_Z) := fun lv st z => pj_xr lv 0 124 0 <| pj_xi lv 1 fun a1 => pj_pi st fun b1 st => pj_pr st 124 0 fun st => pj_pe st (f a1 b1 z.1 z.2.1 z.2.2.1 z.2.2.2)
abbrev pe_X12_run_35 (f : Int32 → Int32 → pj_F (Int32 × pj_Z)) : pj_K (Int32 × pj_Z) := fun lv st z => pj_xr lv 0 124 0 <| pj_xi lv 1 fun a1 => pj_xc lv 2 0 <| pj_pi st fun b0 st => pj_pe st (f a1 b0 z.1 z.2.1 z.2.2.1 z.2.2.2)
abbrev pe_X12_run_36 (f : Int32 → Int32 → Int32 → pj_F (Int32 × pj_Z)) : pj_K (Int32 × pj_Z) := fun lv st z => pj_xr lv 0 124 0 <| pj_xi lv 1 fun a1 => pj_xi lv 2 fun a2 => pj_xi lv 3 fun a3 => pj_pe st (f a1 a2 a3 z.1 z.2.1 z.2.2.1 z.2.2.2)
abbrev pe_X12_run_69 (f : Int32 → Int32 → Int32 → pj_F (Int32 × pj_Z)) : pj_K (Int32 × pj_Z) := fun lv st z => pj_xr lv 0 124 0 <| pj_xi lv 1 fun a1 => pj_xi lv 2 fun a2 => pj_xi lv 3 fun a3 => pj_pr st 124 0 fun st => pj_pe st (f a1 a2 a3 z.1 z.2.1 z.2.2.1 z.2.2.2)
abbrev pe_X12_run_73 (f : Int32 → Int32 → Int32 → Int32 → pj_F (Int32 × pj_Z)) : pj_K (Int32 × pj_Z) := fun lv st z => pj_xr lv 0 124 0 <| pj_xi lv 1 fun a1 => pj_xi lv 2 fun a2 => pj_xi lv 3 fun a3 => pj_pi st fun b1 st => pj_pr st 124 0 fun st => pj_pe st (f a1 a2 a3 b1 z.1 z.2.1 z.2.2.1 z.2.2.2)
abbrev px_X12_run : pj_C (Int32 × pj_Z) := ((pj_as [(124, 12, 195, 1, 0, true, 0, [(1, 1), (2, 125), (2, 126), (2, 127), (2, 128), (2, 129), (2, 130), (2, 131), (2, 132), (2, 133), (1, 2), (0, 44), (2, 134), (2, 135), (2, 136), (2, 137), (2, 138), (0, 69), (2, 139), (2, 140), (2, 141), (1, 3), (0, 93), (0, 94), (0, 45), (0, 46), (0, 48), (0, 49), (0, 47), (0, 50), (0, 51), (2, 142), (2, 143), (2, 144), (0, 19), (1, 4), (1, 5), (1, 6), (0, 20), (0, 21), (0, 22), (0, 23), (0, 24), (0, 25), (0, 27), (0, 28), (1, 7), (1, 8), (1, 9), (1, 10), (1, 11), (0, 26), (2, 145), (2, 146), (2, 147), (2, 148), (2, 149), (2, 150), (2, 151), (2, 152), (2, 153), (2, 154), (2, 155), (2, 156), (2, 157), (2, 158), (2, 159), (0, 57), (0, 58), (0, 59), (0, 60), (2, 160), (2, 161), (2, 162), (2, 163), (1, 12), (1, 13), (0, 95), (0, 73), (0, 74), (0, 71), (0, 72), (0, 75), (0, 76), (0, 77), (0, 80), (0, 78), (0, 79), (1, 14), (0, 29), (0, 30), (0, 31), (0, 34), (0, 35), (0, 32), (0, 33), (0, 36), (0, 37), (0, 38), (0, 39), (0, 40), (1, 15), (1, 16), (0, 43), (0, 41), (0, 42), (2, 164), (0, 96), (0, 89), (0, 90), (0, 91), (0, 92), (2, 165), (2, 166), (2, 167), (2, 168), (2, 169), (2, 170), (2, 171), (2, 172), (0, 87), (2, 173), (0, 88), (2, 174), (0, 62), (1, 17), (0, 66), (0, 63), (0, 64), (0, 65), (0, 67), (1, 18), (0, 68), (2, 175), (1, 19), (0, 52), (0, 53), (0, 54), (0, 55), (2, 176), (0, 56), (0, 85), (0, 86), (0, 81), (0, 82), (0, 83), (0, 84), (2, 177), (2, 178), (2, 179), (1, 20), (2, 180), (0, 6), (0, 7), (0, 8), (0, 16), (0, 17), (0, 61), (0, 9), (0, 10), (1, 21), (1, 22), (0, 11), (0, 12), (0, 13), (0, 18), (0, 14), (0, 15), (2, 181), (0, 70), (1, 23), (2, 182), (2, 183), (0, 1), (1, 24), (2, 184), (2, 185), (1, 25), (0, 2), (2, 186), (2, 187), (1, 26), (2, 188), (2, 189), (1, 27), (1, 28), (2, 190), (2, 191), (1, 29), (0, 3), (2, 192), (0, 4), (0, 5), (1, 30), (2, 193)])]), (pj_as [(259, 12, 0, 0, false), (709, 12, 25, 0, false), (920, 12, 26, 3, false)]), (pj_as [(923, 1000000)]), (pj_as [(913, 240)]), (fun _ => none), ic_X, 4, 1, pj_mI, (pj_as [(7, ph_X12_isIn), (105, ph_X12_step), (109, ph_X12_burn)]), fun _ => false)
abbrev pk_X12_run : List (Nat × List (Nat × Instr × Nat)) := [(0, [(0, .aload_n 0, 1), (1, .iload_n 1, 1), (2, .i2l, 1), (3, .lconst 1, 1), (4, .ldc2_w 913, 3), (7, .invokestatic 568, 3), (10, .ifCond .ne 7, 3)]), (13, [(13, .iconst 1, 1), (14, .goto 4, 3)]), (17, [(17, .iconst 0, 1)]), (18, [(18, .putfield 259, 3), (21, .iconst 0, 1), (22, .istore_n 2, 1), (23, .aload_n 0, 1), (24, .getfield 259, 3), (27, .ifCond .ne 7, 3)]), (30, [(30, .iconst 1, 1), (31, .goto 4, 3)]), (34, [(34, .iconst 0, 1)]), (35, [(35, .istore_n 3, 1)]), (36, [(36, .iload_n 3, 1), (37, .ifCond .eq 81, 3)]), (40, [(40, .iload_n 2, 1), (41, .iload_n 1, 1), (42, .if_icmp .ge 76, 3)]), (45, [(45, .aload_n 0, 1), (46, .aload_n 0, 1), (47, .getfield 920, 3), (50, .ifCond .eq 19, 3)]), (53, [(53, .aload_n 0, 1), (54, .getfield 709, 3), (57, .sipush 250, 3), (60, .if_icmp .ge 9, 3)]), (63, [(63, .sipush 250, 3), (66, .goto 7, 3)]), (69, [(69, .aload_n 0, 1), (70, .getfield 709, 3)]), (73, [(73, .putfield 709, 3), (76, .aload_n 0, 1), (77, .getfield 709, 3), (80, .bipush 50, 2), (82, .if_icmp .ge 13, 3)]), (85, [(85, .aload_n 0, 1), (86, .iconst 0, 1), (87, .putfield 709, 3), (90, .iconst 0, 1), (91, .istore_n 3, 1), (92, .goto (-56), 3)]), (95, [(95, .aload_n 0, 1), (96, .ldc_w 923, 3), (99, .aload_n 0, 1), (100, .getfield 709, 3), (103, .idiv, 1), (104, .i2l, 1), (105, .invokevirtual 917, 3), (108, .aload_n 0, 1), (109, .invokevirtual 924, 3), (112, .iinc 2 1, 3), (115, .goto (-79), 3)]), (118, [(118, .iload_n 2, 1), (119, .ireturn, 1)])]
set_option maxRecDepth 100000 in
theorem pq_X12_run_73 (fu : Nat)  (k36 : Int32 → Int32 → Int32 → pj_F (Int32 × pj_Z)) (a1 : Int32) (a2 : Int32) (a3 : Int32) (b1 : Int32) (s : Nat → Int32) (l : Nat → Int64) (x : Nat → Int32) (y : Nat → Int64) : pl_X12_run_73 fu k36 a1 a2 a3 b1 s l x y = pj_bl px_X12_run (pj_rn px_X12_run (pj_as pk_X12_run) (pj_as [(36, pe_X12_run_36 k36)]) 60) [(73, .putfield 709, 3), (76, .aload_n 0, 1), (77, .getfield 709, 3), (80, .bipush 50, 2), (82, .if_icmp .ge 13, 3)] 73 [(0, pj_O (124, 0)), (1, pj_I a1), (2, pj_I a2), (3, pj_I a3)] [pj_I b1, pj_O (124, 0)] (s, l, x, y) := rfl
set_option maxRecDepth 100000 in
theorem pq_X12_run_69 (fu : Nat)  (k36 : Int32 → Int32 → Int32 → pj_F (Int32 × pj_Z)) (a1 : Int32) (a2 : Int32) (a3 : Int32) (s : Nat → Int32) (l : Nat → Int64) (x : Nat → Int32) (y : Nat → Int64) : pl_X12_run_69 fu k36 a1 a2 a3 s l x y = pj_bl px_X12_run (pj_rn px_X12_run (pj_as pk_X12_run) (pj_as [(36, pe_X12_run_36 k36), (73, pe_X12_run_73 (pl_X12_run_73 fu k36))]) 60) [(69, .aload_n 0, 1), (70, .getfield 709, 3)] 69 [(0, pj_O (124, 0)), (1, pj_I a1), (2, pj_I a2), (3, pj_I a3)] [pj_O (124, 0)] (s, l, x, y) := rfl
set_option maxRecDepth 100000 in
theorem pq_X12_run_36 (fu : Nat)  (n : Nat) (a1 : Int32) (a2 : Int32) (a3 : Int32) (s : Nat → Int32) (l : Nat → Int64) (x : Nat → Int32) (y : Nat → Int64) : pl_X12_run_36 fu (n + 1) a1 a2 a3 s l x y = pj_bl px_X12_run (pj_rn px_X12_run (pj_as pk_X12_run) (pj_as [(36, pe_X12_run_36 (pl_X12_run_36 fu n)), (69, pe_X12_run_69 (pl_X12_run_69 fu (pl_X12_run_36 fu n))), (73, pe_X12_run_73 (pl_X12_run_73 fu (pl_X12_run_36 fu n)))]) 60) [(36, .iload_n 3, 1), (37, .ifCond .eq 81, 3)] 36 [(0, pj_O (124, 0)), (1, pj_I a1), (2, pj_I a2), (3, pj_I a3)] [] (s, l, x, y) := rfl
set_option maxRecDepth 100000 in
theorem pq_X12_run_35 (fu : Nat)  (a1 : Int32) (b0 : Int32) (s : Nat → Int32) (l : Nat → Int64) (x : Nat → Int32) (y : Nat → Int64) : pl_X12_run_35 fu a1 b0 s l x y = pj_bl px_X12_run (pj_rn px_X12_run (pj_as pk_X12_run) (pj_as [(36, pe_X12_run_36 (pl_X12_run_36 fu fu))]) 60) [(35, .istore_n 3, 1)] 35 [(0, pj_O (124, 0)), (1, pj_I a1), (2, pj_N 0)] [pj_I b0] (s, l, x, y) := rfl
set_option maxRecDepth 100000 in
theorem pq_X12_run_18 (fu : Nat)  (a1 : Int32) (b1 : Int32) (s : Nat → Int32) (l : Nat → Int64) (x : Nat → Int32) (y : Nat → Int64) : pl_X12_run_18 fu a1 b1 s l x y = pj_bl px_X12_run (pj_rn px_X12_run (pj_as pk_X12_run) (pj_as [(35, pe_X12_run_35 (pl_X12_run_35 fu))]) 60) [(18, .putfield 259, 3), (21, .iconst 0, 1), (22, .istore_n 2, 1), (23, .aload_n 0, 1), (24, .getfield 259, 3), (27, .ifCond .ne 7, 3)] 18 [(0, pj_O (124, 0)), (1, pj_I a1)] [pj_I b1, pj_O (124, 0)] (s, l, x, y) := rfl
set_option maxRecDepth 100000 in
theorem pq_X12_run_m (fu : Nat)  (a1 : Int32) (s : Nat → Int32) (l : Nat → Int64) (x : Nat → Int32) (y : Nat → Int64) : po_X12_run fu a1 s l x y = pj_bl px_X12_run (pj_rn px_X12_run (pj_as pk_X12_run) (pj_as [(18, pe_X12_run_18 (pl_X12_run_18 fu))]) 60) [(0, .aload_n 0, 1), (1, .iload_n 1, 1), (2, .i2l, 1), (3, .lconst 1, 1), (4, .ldc2_w 913, 3), (7, .invokestatic 568, 3), (10, .ifCond .ne 7, 3)] 0 [(0, pj_O (124, 0)), (1, pj_I a1)] [] (s, l, x, y) := rfl
theorem pu_X12_run_18 {lf : pj_Z → mj_M} {a : Int32 × pj_Z} (f : Int32 → Int32 → pj_F (Int32 × pj_Z)) (hf : ∀ (a1 : Int32) (b1 : Int32) (s : Nat → Int32) (l : Nat → Int64) (x : Nat → Int32) (y : Nat → Int64), f a1 b1 s l x y = some a → pm_Gd 10 12089 ie_X12_run.1 pm_rI lf 18 [(0, .ref 124), (1, .int a1)] [.int b1, .ref 124] (s, l, x, y) a) : pm_Ex 10 12089 ie_X12_run.1 pm_rI lf a 18 (pe_X12_run_18 f) := by
  intro lv st z hd h
  obtain ⟨g0, h⟩ := pj_xr_inv h
  obtain ⟨a1, g1, h⟩ := pj_xi_inv h
  obtain ⟨b1, r1, e1, h⟩ := pj_pi_inv h
  obtain ⟨r0, e0, h⟩ := pj_pr_inv h
  obtain ⟨e9, h⟩ := pj_pe_inv h
  rw [e1, e0, e9]
  exact mj_wp_sub (mj_sub_cons g0 (mj_sub_cons g1 (mj_sub_nil hd))) (hf _ _ _ _ _ _ h)
theorem pu_X12_run_35 {lf : pj_Z → mj_M} {a : Int32 × pj_Z} (f : Int32 → Int32 → pj_F (Int32 × pj_Z)) (hf : ∀ (a1 : Int32) (b0 : Int32) (s : Nat → Int32) (l : Nat → Int64) (x : Nat → Int32) (y : Nat → Int64), f a1 b0 s l x y = some a → pm_Gd 10 12089 ie_X12_run.1 pm_rI lf 35 [(0, .ref 124), (1, .int a1), (2, .int (Int32.ofInt 0))] [.int b0] (s, l, x, y) a) : pm_Ex 10 12089 ie_X12_run.1 pm_rI lf a 35 (pe_X12_run_35 f) := by
  intro lv st z hd h
  obtain ⟨g0, h⟩ := pj_xr_inv h
  obtain ⟨a1, g1, h⟩ := pj_xi_inv h
  obtain ⟨g2, h⟩ := pj_xc_inv h
  obtain ⟨b0, r0, e0, h⟩ := pj_pi_inv h
  obtain ⟨e9, h⟩ := pj_pe_inv h
  rw [e0, e9]
  exact mj_wp_sub (mj_sub_cons g0 (mj_sub_cons g1 (mj_sub_cons g2 (mj_sub_nil hd)))) (hf _ _ _ _ _ _ h)
theorem pu_X12_run_36 {lf : pj_Z → mj_M} {a : Int32 × pj_Z} (f : Int32 → Int32 → Int32 → pj_F (Int32 × pj_Z)) (hf : ∀ (a1 : Int32) (a2 : Int32) (a3 : Int32) (s : Nat → Int32) (l : Nat → Int64) (x : Nat → Int32) (y : Nat → Int64), f a1 a2 a3 s l x y = some a → pm_Gd 10 12089 ie_X12_run.1 pm_rI lf 36 [(0, .ref 124), (1, .int a1), (2, .int a2), (3, .int a3)] [] (s, l, x, y) a) : pm_Ex 10 12089 ie_X12_run.1 pm_rI lf a 36 (pe_X12_run_36 f) := by
  intro lv st z hd h
  obtain ⟨g0, h⟩ := pj_xr_inv h
  obtain ⟨a1, g1, h⟩ := pj_xi_inv h
  obtain ⟨a2, g2, h⟩ := pj_xi_inv h
  obtain ⟨a3, g3, h⟩ := pj_xi_inv h
  obtain ⟨e9, h⟩ := pj_pe_inv h
  rw [e9]
  exact mj_wp_sub (mj_sub_cons g0 (mj_sub_cons g1 (mj_sub_cons g2 (mj_sub_cons g3 (mj_sub_nil hd))))) (hf _ _ _ _ _ _ _ h)
theorem pu_X12_run_69 {lf : pj_Z → mj_M} {a : Int32 × pj_Z} (f : Int32 → Int32 → Int32 → pj_F (Int32 × pj_Z)) (hf : ∀ (a1 : Int32) (a2 : Int32) (a3 : Int32) (s : Nat → Int32) (l : Nat → Int64) (x : Nat → Int32) (y : Nat → Int64), f a1 a2 a3 s l x y = some a → pm_Gd 10 12089 ie_X12_run.1 pm_rI lf 69 [(0, .ref 124), (1, .int a1), (2, .int a2), (3, .int a3)] [.ref 124] (s, l, x, y) a) : pm_Ex 10 12089 ie_X12_run.1 pm_rI lf a 69 (pe_X12_run_69 f) := by
  intro lv st z hd h
  obtain ⟨g0, h⟩ := pj_xr_inv h
  obtain ⟨a1, g1, h⟩ := pj_xi_inv h
  obtain ⟨a2, g2, h⟩ := pj_xi_inv h
  obtain ⟨a3, g3, h⟩ := pj_xi_inv h
  obtain ⟨r0, e0, h⟩ := pj_pr_inv h
  obtain ⟨e9, h⟩ := pj_pe_inv h
  rw [e0, e9]
  exact mj_wp_sub (mj_sub_cons g0 (mj_sub_cons g1 (mj_sub_cons g2 (mj_sub_cons g3 (mj_sub_nil hd))))) (hf _ _ _ _ _ _ _ h)
theorem pu_X12_run_73 {lf : pj_Z → mj_M} {a : Int32 × pj_Z} (f : Int32 → Int32 → Int32 → Int32 → pj_F (Int32 × pj_Z)) (hf : ∀ (a1 : Int32) (a2 : Int32) (a3 : Int32) (b1 : Int32) (s : Nat → Int32) (l : Nat → Int64) (x : Nat → Int32) (y : Nat → Int64), f a1 a2 a3 b1 s l x y = some a → pm_Gd 10 12089 ie_X12_run.1 pm_rI lf 73 [(0, .ref 124), (1, .int a1), (2, .int a2), (3, .int a3)] [.int b1, .ref 124] (s, l, x, y) a) : pm_Ex 10 12089 ie_X12_run.1 pm_rI lf a 73 (pe_X12_run_73 f) := by
  intro lv st z hd h
  obtain ⟨g0, h⟩ := pj_xr_inv h
  obtain ⟨a1, g1, h⟩ := pj_xi_inv h
  obtain ⟨a2, g2, h⟩ := pj_xi_inv h
  obtain ⟨a3, g3, h⟩ := pj_xi_inv h
  obtain ⟨b1, r1, e1, h⟩ := pj_pi_inv h
  obtain ⟨r0, e0, h⟩ := pj_pr_inv h
  obtain ⟨e9, h⟩ := pj_pe_inv h
  rw [e1, e0, e9]
  exact mj_wp_sub (mj_sub_cons g0 (mj_sub_cons g1 (mj_sub_cons g2 (mj_sub_cons g3 (mj_sub_nil hd))))) (hf _ _ _ _ _ _ _ _ h)
set_option maxRecDepth 100000 in
theorem pz_X12_run {lf : pj_Z → mj_M} (hT : pj_Lt pj_TR lf) : pj_Cok ic_P (mj_R ic_P 10) 12089 ie_X12_run.1 (pm_OK lf pm_rI) lf px_X12_run := by
  exact pm_cok (c := px_X12_run) (pm_part hT (pj_as_all (p := fun b e => pj_TR b = some e) (List.forall_mem_cons.mpr ⟨rfl, (fun _ h => by cases h)⟩))) (pm_in_ok (L := [(259, 12, 0, 0, false), (709, 12, 25, 0, false), (920, 12, 26, 3, false)]) (f := mj_pF ic_P 12089) (by decide +kernel)) (pm_inI_ok (L := [(923, 1000000)]) (f := mj_pK ic_P 12089) (by decide +kernel)) (pm_inL_ok (L := [(913, 240)]) (f := mj_pL ic_P 12089) (by decide +kernel)) (fun _ _ h => by cases h) rfl rfl ⟨by decide, rfl⟩ pm_mI (pj_as_all (p := pm_Cl 10 12089 ie_X12_run.1 lf (pm_OK lf pm_rI)) (List.forall_mem_cons.mpr ⟨fun _ _ lv st z K a hK h => pc_X12_isIn hT (by decide) (ix := 568) rfl rfl hK h, (List.forall_mem_cons.mpr ⟨fun _ _ lv st z K a hK h => pc_X12_step hT (by decide) (ix := 917) rfl rfl hK h, (List.forall_mem_cons.mpr ⟨fun _ _ lv st z K a hK h => pc_X12_burn hT (by decide) (ix := 924) rfl rfl hK h, (fun _ h => by cases h)⟩)⟩)⟩)) (fun _ h => by cases h)
set_option maxRecDepth 100000 in
theorem pb_X12_run : pm_bks ie_X12_run.1.2.2.2.2 pk_X12_run = true := by decide +kernel
set_option maxRecDepth 100000 in
theorem pg_X12_run_73 {fu : Nat} {lf : pj_Z → mj_M} (hT : pj_Lt pj_TR lf) {k36 : Int32 → Int32 → Int32 → pj_F (Int32 × pj_Z)} (hk36 : ∀ (a1 : Int32) (a2 : Int32) (a3 : Int32) (s : Nat → Int32) (l : Nat → Int64) (x : Nat → Int32) (y : Nat → Int64) (a : Int32 × pj_Z), k36 a1 a2 a3 s l x y = some a → pm_Gd 10 12089 ie_X12_run.1 pm_rI lf 36 [(0, .ref 124), (1, .int a1), (2, .int a2), (3, .int a3)] [] (s, l, x, y) a) : ∀ (a1 : Int32) (a2 : Int32) (a3 : Int32) (b1 : Int32) (s : Nat → Int32) (l : Nat → Int64) (x : Nat → Int32) (y : Nat → Int64) (a : Int32 × pj_Z), pl_X12_run_73 fu k36 a1 a2 a3 b1 s l x y = some a → pm_Gd 10 12089 ie_X12_run.1 pm_rI lf 73 [(0, .ref 124), (1, .int a1), (2, .int a2), (3, .int a3)] [.int b1, .ref 124] (s, l, x, y) a := by
  intro a1 a2 a3 b1 s l x y a h
  exact pm_run ((pq_X12_run_73 fu k36 a1 a2 a3 b1 s l x y).symm.trans h) (pz_X12_run hT) (pm_bks_ok pb_X12_run) (pm_bks_ok pb_X12_run _ _ rfl) (pm_ndb_ok rfl) (pj_as_all (p := pm_Ex 10 12089 ie_X12_run.1 pm_rI lf a) (List.forall_mem_cons.mpr ⟨pu_X12_run_36 _ (fun c0 c1 c2 s l x y h => hk36 c0 c1 c2 s l x y _ h), (fun _ h => by cases h)⟩))
set_option maxRecDepth 100000 in
theorem pg_X12_run_69 {fu : Nat} {lf : pj_Z → mj_M} (hT : pj_Lt pj_TR lf) {k36 : Int32 → Int32 → Int32 → pj_F (Int32 × pj_Z)} (hk36 : ∀ (a1 : Int32) (a2 : Int32) (a3 : Int32) (s : Nat → Int32) (l : Nat → Int64) (x : Nat → Int32) (y : Nat → Int64) (a : Int32 × pj_Z), k36 a1 a2 a3 s l x y = some a → pm_Gd 10 12089 ie_X12_run.1 pm_rI lf 36 [(0, .ref 124), (1, .int a1), (2, .int a2), (3, .int a3)] [] (s, l, x, y) a) : ∀ (a1 : Int32) (a2 : Int32) (a3 : Int32) (s : Nat → Int32) (l : Nat → Int64) (x : Nat → Int32) (y : Nat → Int64) (a : Int32 × pj_Z), pl_X12_run_69 fu k36 a1 a2 a3 s l x y = some a → pm_Gd 10 12089 ie_X12_run.1 pm_rI lf 69 [(0, .ref 124), (1, .int a1), (2, .int a2), (3, .int a3)] [.ref 124] (s, l, x, y) a := by
  intro a1 a2 a3 s l x y a h
  exact pm_run ((pq_X12_run_69 fu k36 a1 a2 a3 s l x y).symm.trans h) (pz_X12_run hT) (pm_bks_ok pb_X12_run) (pm_bks_ok pb_X12_run _ _ rfl) (pm_ndb_ok rfl) (pj_as_all (p := pm_Ex 10 12089 ie_X12_run.1 pm_rI lf a) (List.forall_mem_cons.mpr ⟨pu_X12_run_36 _ (fun c0 c1 c2 s l x y h => hk36 c0 c1 c2 s l x y _ h), (List.forall_mem_cons.mpr ⟨pu_X12_run_73 _ (fun c0 c1 c2 c3 s l x y h => pg_X12_run_73 hT hk36 c0 c1 c2 c3 s l x y _ h), (fun _ h => by cases h)⟩)⟩))
set_option maxRecDepth 100000 in
theorem pg_X12_run_36 {fu : Nat} {lf : pj_Z → mj_M} (hT : pj_Lt pj_TR lf) : ∀ (n : Nat), ∀ (a1 : Int32) (a2 : Int32) (a3 : Int32) (s : Nat → Int32) (l : Nat → Int64) (x : Nat → Int32) (y : Nat → Int64) (a : Int32 × pj_Z), pl_X12_run_36 fu n a1 a2 a3 s l x y = some a → pm_Gd 10 12089 ie_X12_run.1 pm_rI lf 36 [(0, .ref 124), (1, .int a1), (2, .int a2), (3, .int a3)] [] (s, l, x, y) a := by
  intro n
  induction n with
  | zero => intro a1 a2 a3 s l x y a h; cases (show (none : Option (Int32 × pj_Z)) = some a from h)
  | succ n ih =>
    intro a1 a2 a3 s l x y a h
    exact pm_run ((pq_X12_run_36 fu n a1 a2 a3 s l x y).symm.trans h) (pz_X12_run hT) (pm_bks_ok pb_X12_run) (pm_bks_ok pb_X12_run _ _ rfl) (pm_ndb_ok rfl) (pj_as_all (p := pm_Ex 10 12089 ie_X12_run.1 pm_rI lf a) (List.forall_mem_cons.mpr ⟨pu_X12_run_36 _ (fun c0 c1 c2 s l x y h => ih c0 c1 c2 s l x y _ h), (List.forall_mem_cons.mpr ⟨pu_X12_run_69 _ (fun c0 c1 c2 s l x y h => pg_X12_run_69 hT (fun a1 a2 a3 s l x y a h => ih a1 a2 a3 s l x y a h) c0 c1 c2 s l x y _ h), (List.forall_mem_cons.mpr ⟨pu_X12_run_73 _ (fun c0 c1 c2 c3 s l x y h => pg_X12_run_73 hT (fun a1 a2 a3 s l x y a h => ih a1 a2 a3 s l x y a h) c0 c1 c2 c3 s l x y _ h), (fun _ h => by cases h)⟩)⟩)⟩))
set_option maxRecDepth 100000 in
theorem pg_X12_run_35 {fu : Nat} {lf : pj_Z → mj_M} (hT : pj_Lt pj_TR lf) : ∀ (a1 : Int32) (b0 : Int32) (s : Nat → Int32) (l : Nat → Int64) (x : Nat → Int32) (y : Nat → Int64) (a : Int32 × pj_Z), pl_X12_run_35 fu a1 b0 s l x y = some a → pm_Gd 10 12089 ie_X12_run.1 pm_rI lf 35 [(0, .ref 124), (1, .int a1), (2, .int (Int32.ofInt 0))] [.int b0] (s, l, x, y) a := by
  intro a1 b0 s l x y a h
  exact pm_run ((pq_X12_run_35 fu a1 b0 s l x y).symm.trans h) (pz_X12_run hT) (pm_bks_ok pb_X12_run) (pm_bks_ok pb_X12_run _ _ rfl) (pm_ndb_ok rfl) (pj_as_all (p := pm_Ex 10 12089 ie_X12_run.1 pm_rI lf a) (List.forall_mem_cons.mpr ⟨pu_X12_run_36 _ (fun c0 c1 c2 s l x y h => pg_X12_run_36 hT _ c0 c1 c2 s l x y _ h), (fun _ h => by cases h)⟩))
set_option maxRecDepth 100000 in
theorem pg_X12_run_18 {fu : Nat} {lf : pj_Z → mj_M} (hT : pj_Lt pj_TR lf) : ∀ (a1 : Int32) (b1 : Int32) (s : Nat → Int32) (l : Nat → Int64) (x : Nat → Int32) (y : Nat → Int64) (a : Int32 × pj_Z), pl_X12_run_18 fu a1 b1 s l x y = some a → pm_Gd 10 12089 ie_X12_run.1 pm_rI lf 18 [(0, .ref 124), (1, .int a1)] [.int b1, .ref 124] (s, l, x, y) a := by
  intro a1 b1 s l x y a h
  exact pm_run ((pq_X12_run_18 fu a1 b1 s l x y).symm.trans h) (pz_X12_run hT) (pm_bks_ok pb_X12_run) (pm_bks_ok pb_X12_run _ _ rfl) (pm_ndb_ok rfl) (pj_as_all (p := pm_Ex 10 12089 ie_X12_run.1 pm_rI lf a) (List.forall_mem_cons.mpr ⟨pu_X12_run_35 _ (fun c0 c1 s l x y h => pg_X12_run_35 hT c0 c1 s l x y _ h), (fun _ h => by cases h)⟩))
set_option maxRecDepth 100000 in
theorem pm_X12_run {lf : pj_Z → mj_M} (hT : pj_Lt pj_TR lf) (a1 : Int32) (s : Nat → Int32) (l : Nat → Int64) (x : Nat → Int32) (y : Nat → Int64) (a : Int32 × pj_Z) (h : pf_X12_run a1 s l x y = some a) : mj_R ic_P 11 12089 [.ref 124, .int a1] (lf (s, l, x, y)) (pm_rI a.1) (lf a.2) := by
  refine pm_main (Y := ie_X12_run.1) rfl (Nat.le_of_ble_eq_true rfl) ?_
  exact pm_run ((pq_X12_run_m 1000 a1 s l x y).symm.trans h) (pz_X12_run hT) (pm_bks_ok pb_X12_run) (pm_bks_ok pb_X12_run _ _ rfl) (pm_ndb_ok rfl) (pj_as_all (p := pm_Ex 10 12089 ie_X12_run.1 pm_rI lf a) (List.forall_mem_cons.mpr ⟨pu_X12_run_18 _ (fun c0 c1 s l x y h => pg_X12_run_18 hT c0 c1 s l x y _ h), (fun _ h => by cases h)⟩))
abbrev ph_X12_run {A : Type} : List pj_V → pj_Z → (List pj_V → pj_Z → Option A) → Option A := fun st z K => pj_pi st fun a1 st => pj_pr st 124 0 fun st => pj_ps st (pj_b (pf_X12_run a1 z.1 z.2.1 z.2.2.1 z.2.2.2) fun r s l x y => K (pj_I r :: st) (s, l, x, y))
set_option maxRecDepth 100000 in
theorem pc_X12_run {A : Type} {OK : A → Option Value → mj_M → Prop} {d j pc ix : Nat} {Y : mj_Y} {lf : pj_Z → mj_M} (hT : pj_Lt pj_TR lf) (hd : 11 ≤ d) (hl : mj_lk Y.2.2.2.2 pc = some (.invokevirtual ix, 3)) (hg : mj_pG ic_P j ix = some (12089, 1, some 12)) {lv : List (Nat × Value)} {st : List pj_V} {z : pj_Z} {K : List pj_V → pj_Z → Option A} {a : A} (hK : ∀ st z, K st z = some a → pj_Gd ic_P (mj_R ic_P d) j Y OK lf (pc + 3) lv (pj_es st) z a) (h : ph_X12_run st z K = some a) : pj_Gd ic_P (mj_R ic_P d) j Y OK lf pc lv (pj_es st) z a := by
  obtain ⟨a1, r1, e1, h⟩ := pj_pi_inv h
  obtain ⟨r0, e0, h⟩ := pj_pr_inv h
  obtain ⟨hs, h⟩ := pj_ps_inv h
  obtain ⟨q, hq, h⟩ := pj_b_inv h
  exact pm_cv (o := 124) hl hg [.int a1] rfl (by rw [e1, e0]; rfl) hs (by decide) ((hT.2 124 _ rfl).1.2 z 0 (by decide)) (pm_rI q.1) hd (pm_X12_run hT a1 z.1 z.2.1 z.2.2.1 z.2.2.2 q hq) rfl (hK _ _ h)
abbrev pe_X12_set_16 (f : Int32 → Int32 → Int32 → pj_F (Int32 × pj_Z)) : pj_K (Int32 × pj_Z) := fun lv st z => pj_xr lv 0 124 0 <| pj_xi lv 1 fun a1 => pj_xi lv 2 fun a2 => pj_pi st fun b1 st => pj_pr st 124 0 fun st => pj_pe st (f a1 a2 b1 z.1 z.2.1 z.2.2.1 z.2.2.2)
abbrev pe_X12_set_43 (f : Int32 → Int32 → Int32 → pj_F (Int32 × pj_Z)) : pj_K (Int32 × pj_Z) := fun lv st z => pj_xr lv 0 124 0 <| pj_xi lv 1 fun a1 => pj_xi lv 2 fun a2 => pj_pi st fun b0 st => pj_pe st (f a1 a2 b0 z.1 z.2.1 z.2.2.1 z.2.2.2)
abbrev pe_X12_set_57 (f : Int32 → Int32 → Int32 → Int32 → pj_F (Int32 × pj_Z)) : pj_K (Int32 × pj_Z) := fun lv st z => pj_xr lv 0 124 0 <| pj_xi lv 1 fun a1 => pj_xi lv 2 fun a2 => pj_xi lv 3 fun a3 => pj_pi st fun b1 st => pj_pr st 124 0 fun st => pj_pe st (f a1 a2 a3 b1 z.1 z.2.1 z.2.2.1 z.2.2.2)
abbrev pe_X12_set_74 (f : Int32 → Int32 → Int32 → pj_F (Int32 × pj_Z)) : pj_K (Int32 × pj_Z) := fun lv st z => pj_xi lv 2 fun a2 => pj_xi lv 3 fun a3 => pj_pi st fun b1 st => pj_pr st 124 0 fun st => pj_pe st (f a2 a3 b1 z.1 z.2.1 z.2.2.1 z.2.2.2)
abbrev px_X12_set : pj_C (Int32 × pj_Z) := ((pj_as [(124, 12, 195, 1, 0, true, 0, [(1, 1), (2, 125), (2, 126), (2, 127), (2, 128), (2, 129), (2, 130), (2, 131), (2, 132), (2, 133), (1, 2), (0, 44), (2, 134), (2, 135), (2, 136), (2, 137), (2, 138), (0, 69), (2, 139), (2, 140), (2, 141), (1, 3), (0, 93), (0, 94), (0, 45), (0, 46), (0, 48), (0, 49), (0, 47), (0, 50), (0, 51), (2, 142), (2, 143), (2, 144), (0, 19), (1, 4), (1, 5), (1, 6), (0, 20), (0, 21), (0, 22), (0, 23), (0, 24), (0, 25), (0, 27), (0, 28), (1, 7), (1, 8), (1, 9), (1, 10), (1, 11), (0, 26), (2, 145), (2, 146), (2, 147), (2, 148), (2, 149), (2, 150), (2, 151), (2, 152), (2, 153), (2, 154), (2, 155), (2, 156), (2, 157), (2, 158), (2, 159), (0, 57), (0, 58), (0, 59), (0, 60), (2, 160), (2, 161), (2, 162), (2, 163), (1, 12), (1, 13), (0, 95), (0, 73), (0, 74), (0, 71), (0, 72), (0, 75), (0, 76), (0, 77), (0, 80), (0, 78), (0, 79), (1, 14), (0, 29), (0, 30), (0, 31), (0, 34), (0, 35), (0, 32), (0, 33), (0, 36), (0, 37), (0, 38), (0, 39), (0, 40), (1, 15), (1, 16), (0, 43), (0, 41), (0, 42), (2, 164), (0, 96), (0, 89), (0, 90), (0, 91), (0, 92), (2, 165), (2, 166), (2, 167), (2, 168), (2, 169), (2, 170), (2, 171), (2, 172), (0, 87), (2, 173), (0, 88), (2, 174), (0, 62), (1, 17), (0, 66), (0, 63), (0, 64), (0, 65), (0, 67), (1, 18), (0, 68), (2, 175), (1, 19), (0, 52), (0, 53), (0, 54), (0, 55), (2, 176), (0, 56), (0, 85), (0, 86), (0, 81), (0, 82), (0, 83), (0, 84), (2, 177), (2, 178), (2, 179), (1, 20), (2, 180), (0, 6), (0, 7), (0, 8), (0, 16), (0, 17), (0, 61), (0, 9), (0, 10), (1, 21), (1, 22), (0, 11), (0, 12), (0, 13), (0, 18), (0, 14), (0, 15), (2, 181), (0, 70), (1, 23), (2, 182), (2, 183), (0, 1), (1, 24), (2, 184), (2, 185), (1, 25), (0, 2), (2, 186), (2, 187), (1, 26), (2, 188), (2, 189), (1, 27), (1, 28), (2, 190), (2, 191), (1, 29), (0, 3), (2, 192), (0, 4), (0, 5), (1, 30), (2, 193)])]), (pj_as [(259, 12, 0, 0, false), (747, 12, 27, 3, false), (920, 12, 26, 3, false)]), (fun _ => none), (fun _ => none), (fun _ => none), ic_X, 4, 2, pj_mI, (pj_as [(5, ph_X12_isIn)]), fun _ => false)
abbrev pk_X12_set : List (Nat × List (Nat × Instr × Nat)) := [(0, [(0, .aload_n 0, 1), (1, .iload_n 1, 1), (2, .i2l, 1), (3, .lconst 0, 1), (4, .lconst 1, 1), (5, .invokestatic 568, 3), (8, .ifCond .ne 7, 3)]), (11, [(11, .iconst 1, 1), (12, .goto 4, 3)]), (15, [(15, .iconst 0, 1)]), (16, [(16, .putfield 259, 3), (19, .aload_n 0, 1), (20, .getfield 259, 3), (23, .ifCond .le 5, 3)]), (26, [(26, .iconst 0, 1), (27, .ireturn, 1)]), (28, [(28, .iload_n 1, 1), (29, .ifCond .ne 10, 3)]), (32, [(32, .aload_n 0, 1), (33, .getfield 920, 3), (36, .goto 7, 3)]), (39, [(39, .aload_n 0, 1), (40, .getfield 747, 3)]), (43, [(43, .istore_n 3, 1), (44, .aload_n 0, 1), (45, .iload_n 1, 1), (46, .ifCond .ne 7, 3)]), (49, [(49, .iload_n 2, 1), (50, .goto 7, 3)]), (53, [(53, .aload_n 0, 1), (54, .getfield 920, 3)]), (57, [(57, .putfield 920, 3), (60, .aload_n 0, 1), (61, .iload_n 1, 1), (62, .iconst 1, 1), (63, .if_icmp .ne 7, 3)]), (66, [(66, .iload_n 2, 1), (67, .goto 7, 3)]), (70, [(70, .aload_n 0, 1), (71, .getfield 747, 3)]), (74, [(74, .putfield 747, 3), (77, .iload_n 3, 1), (78, .iload_n 2, 1), (79, .if_icmp .eq 7, 3)]), (82, [(82, .iconst 1, 1), (83, .goto 4, 3)]), (86, [(86, .iconst 0, 1)]), (87, [(87, .ireturn, 1)])]
set_option maxRecDepth 100000 in
theorem pq_X12_set_74  (a2 : Int32) (a3 : Int32) (b1 : Int32) (s : Nat → Int32) (l : Nat → Int64) (x : Nat → Int32) (y : Nat → Int64) : pl_X12_set_74 a2 a3 b1 s l x y = pj_bl px_X12_set (pj_rn px_X12_set (pj_as pk_X12_set) (fun _ => none) 60) [(74, .putfield 747, 3), (77, .iload_n 3, 1), (78, .iload_n 2, 1), (79, .if_icmp .eq 7, 3)] 74 [(2, pj_I a2), (3, pj_I a3)] [pj_I b1, pj_O (124, 0)] (s, l, x, y) := rfl
set_option maxRecDepth 100000 in
theorem pq_X12_set_57  (a1 : Int32) (a2 : Int32) (a3 : Int32) (b1 : Int32) (s : Nat → Int32) (l : Nat → Int64) (x : Nat → Int32) (y : Nat → Int64) : pl_X12_set_57 a1 a2 a3 b1 s l x y = pj_bl px_X12_set (pj_rn px_X12_set (pj_as pk_X12_set) (pj_as [(74, pe_X12_set_74 (pl_X12_set_74))]) 60) [(57, .putfield 920, 3), (60, .aload_n 0, 1), (61, .iload_n 1, 1), (62, .iconst 1, 1), (63, .if_icmp .ne 7, 3)] 57 [(0, pj_O (124, 0)), (1, pj_I a1), (2, pj_I a2), (3, pj_I a3)] [pj_I b1, pj_O (124, 0)] (s, l, x, y) := rfl
set_option maxRecDepth 100000 in
theorem pq_X12_set_43  (a1 : Int32) (a2 : Int32) (b0 : Int32) (s : Nat → Int32) (l : Nat → Int64) (x : Nat → Int32) (y : Nat → Int64) : pl_X12_set_43 a1 a2 b0 s l x y = pj_bl px_X12_set (pj_rn px_X12_set (pj_as pk_X12_set) (pj_as [(57, pe_X12_set_57 (pl_X12_set_57))]) 60) [(43, .istore_n 3, 1), (44, .aload_n 0, 1), (45, .iload_n 1, 1), (46, .ifCond .ne 7, 3)] 43 [(0, pj_O (124, 0)), (1, pj_I a1), (2, pj_I a2)] [pj_I b0] (s, l, x, y) := rfl
set_option maxRecDepth 100000 in
theorem pq_X12_set_16  (a1 : Int32) (a2 : Int32) (b1 : Int32) (s : Nat → Int32) (l : Nat → Int64) (x : Nat → Int32) (y : Nat → Int64) : pl_X12_set_16 a1 a2 b1 s l x y = pj_bl px_X12_set (pj_rn px_X12_set (pj_as pk_X12_set) (pj_as [(43, pe_X12_set_43 (pl_X12_set_43))]) 60) [(16, .putfield 259, 3), (19, .aload_n 0, 1), (20, .getfield 259, 3), (23, .ifCond .le 5, 3)] 16 [(0, pj_O (124, 0)), (1, pj_I a1), (2, pj_I a2)] [pj_I b1, pj_O (124, 0)] (s, l, x, y) := rfl
set_option maxRecDepth 100000 in
theorem pq_X12_set_m  (a1 : Int32) (a2 : Int32) (s : Nat → Int32) (l : Nat → Int64) (x : Nat → Int32) (y : Nat → Int64) : pf_X12_set a1 a2 s l x y = pj_bl px_X12_set (pj_rn px_X12_set (pj_as pk_X12_set) (pj_as [(16, pe_X12_set_16 (pl_X12_set_16))]) 60) [(0, .aload_n 0, 1), (1, .iload_n 1, 1), (2, .i2l, 1), (3, .lconst 0, 1), (4, .lconst 1, 1), (5, .invokestatic 568, 3), (8, .ifCond .ne 7, 3)] 0 [(0, pj_O (124, 0)), (1, pj_I a1), (2, pj_I a2)] [] (s, l, x, y) := rfl
theorem pu_X12_set_16 {lf : pj_Z → mj_M} {a : Int32 × pj_Z} (f : Int32 → Int32 → Int32 → pj_F (Int32 × pj_Z)) (hf : ∀ (a1 : Int32) (a2 : Int32) (b1 : Int32) (s : Nat → Int32) (l : Nat → Int64) (x : Nat → Int32) (y : Nat → Int64), f a1 a2 b1 s l x y = some a → pm_Gd 1 12090 ie_X12_set.1 pm_rI lf 16 [(0, .ref 124), (1, .int a1), (2, .int a2)] [.int b1, .ref 124] (s, l, x, y) a) : pm_Ex 1 12090 ie_X12_set.1 pm_rI lf a 16 (pe_X12_set_16 f) := by
  intro lv st z hd h
  obtain ⟨g0, h⟩ := pj_xr_inv h
  obtain ⟨a1, g1, h⟩ := pj_xi_inv h
  obtain ⟨a2, g2, h⟩ := pj_xi_inv h
  obtain ⟨b1, r1, e1, h⟩ := pj_pi_inv h
  obtain ⟨r0, e0, h⟩ := pj_pr_inv h
  obtain ⟨e9, h⟩ := pj_pe_inv h
  rw [e1, e0, e9]
  exact mj_wp_sub (mj_sub_cons g0 (mj_sub_cons g1 (mj_sub_cons g2 (mj_sub_nil hd)))) (hf _ _ _ _ _ _ _ h)
theorem pu_X12_set_43 {lf : pj_Z → mj_M} {a : Int32 × pj_Z} (f : Int32 → Int32 → Int32 → pj_F (Int32 × pj_Z)) (hf : ∀ (a1 : Int32) (a2 : Int32) (b0 : Int32) (s : Nat → Int32) (l : Nat → Int64) (x : Nat → Int32) (y : Nat → Int64), f a1 a2 b0 s l x y = some a → pm_Gd 1 12090 ie_X12_set.1 pm_rI lf 43 [(0, .ref 124), (1, .int a1), (2, .int a2)] [.int b0] (s, l, x, y) a) : pm_Ex 1 12090 ie_X12_set.1 pm_rI lf a 43 (pe_X12_set_43 f) := by
  intro lv st z hd h
  obtain ⟨g0, h⟩ := pj_xr_inv h
  obtain ⟨a1, g1, h⟩ := pj_xi_inv h
  obtain ⟨a2, g2, h⟩ := pj_xi_inv h
  obtain ⟨b0, r0, e0, h⟩ := pj_pi_inv h
  obtain ⟨e9, h⟩ := pj_pe_inv h
  rw [e0, e9]
  exact mj_wp_sub (mj_sub_cons g0 (mj_sub_cons g1 (mj_sub_cons g2 (mj_sub_nil hd)))) (hf _ _ _ _ _ _ _ h)
theorem pu_X12_set_57 {lf : pj_Z → mj_M} {a : Int32 × pj_Z} (f : Int32 → Int32 → Int32 → Int32 → pj_F (Int32 × pj_Z)) (hf : ∀ (a1 : Int32) (a2 : Int32) (a3 : Int32) (b1 : Int32) (s : Nat → Int32) (l : Nat → Int64) (x : Nat → Int32) (y : Nat → Int64), f a1 a2 a3 b1 s l x y = some a → pm_Gd 1 12090 ie_X12_set.1 pm_rI lf 57 [(0, .ref 124), (1, .int a1), (2, .int a2), (3, .int a3)] [.int b1, .ref 124] (s, l, x, y) a) : pm_Ex 1 12090 ie_X12_set.1 pm_rI lf a 57 (pe_X12_set_57 f) := by
  intro lv st z hd h
  obtain ⟨g0, h⟩ := pj_xr_inv h
  obtain ⟨a1, g1, h⟩ := pj_xi_inv h
  obtain ⟨a2, g2, h⟩ := pj_xi_inv h
  obtain ⟨a3, g3, h⟩ := pj_xi_inv h
  obtain ⟨b1, r1, e1, h⟩ := pj_pi_inv h
  obtain ⟨r0, e0, h⟩ := pj_pr_inv h
  obtain ⟨e9, h⟩ := pj_pe_inv h
  rw [e1, e0, e9]
  exact mj_wp_sub (mj_sub_cons g0 (mj_sub_cons g1 (mj_sub_cons g2 (mj_sub_cons g3 (mj_sub_nil hd))))) (hf _ _ _ _ _ _ _ _ h)
theorem pu_X12_set_74 {lf : pj_Z → mj_M} {a : Int32 × pj_Z} (f : Int32 → Int32 → Int32 → pj_F (Int32 × pj_Z)) (hf : ∀ (a2 : Int32) (a3 : Int32) (b1 : Int32) (s : Nat → Int32) (l : Nat → Int64) (x : Nat → Int32) (y : Nat → Int64), f a2 a3 b1 s l x y = some a → pm_Gd 1 12090 ie_X12_set.1 pm_rI lf 74 [(2, .int a2), (3, .int a3)] [.int b1, .ref 124] (s, l, x, y) a) : pm_Ex 1 12090 ie_X12_set.1 pm_rI lf a 74 (pe_X12_set_74 f) := by
  intro lv st z hd h
  obtain ⟨a2, g2, h⟩ := pj_xi_inv h
  obtain ⟨a3, g3, h⟩ := pj_xi_inv h
  obtain ⟨b1, r1, e1, h⟩ := pj_pi_inv h
  obtain ⟨r0, e0, h⟩ := pj_pr_inv h
  obtain ⟨e9, h⟩ := pj_pe_inv h
  rw [e1, e0, e9]
  exact mj_wp_sub (mj_sub_cons g2 (mj_sub_cons g3 (mj_sub_nil hd))) (hf _ _ _ _ _ _ _ h)
set_option maxRecDepth 100000 in
theorem pz_X12_set {lf : pj_Z → mj_M} (hT : pj_Lt pj_TR lf) : pj_Cok ic_P (mj_R ic_P 1) 12090 ie_X12_set.1 (pm_OK lf pm_rI) lf px_X12_set := by
  exact pm_cok (c := px_X12_set) (pm_part hT (pj_as_all (p := fun b e => pj_TR b = some e) (List.forall_mem_cons.mpr ⟨rfl, (fun _ h => by cases h)⟩))) (pm_in_ok (L := [(259, 12, 0, 0, false), (747, 12, 27, 3, false), (920, 12, 26, 3, false)]) (f := mj_pF ic_P 12090) (by decide +kernel)) (fun _ _ h => by cases h) (fun _ _ h => by cases h) (fun _ _ h => by cases h) rfl rfl ⟨by decide, rfl⟩ pm_mI (pj_as_all (p := pm_Cl 1 12090 ie_X12_set.1 lf (pm_OK lf pm_rI)) (List.forall_mem_cons.mpr ⟨fun _ _ lv st z K a hK h => pc_X12_isIn hT (by decide) (ix := 568) rfl rfl hK h, (fun _ h => by cases h)⟩)) (fun _ h => by cases h)
set_option maxRecDepth 100000 in
theorem pb_X12_set : pm_bks ie_X12_set.1.2.2.2.2 pk_X12_set = true := by decide +kernel
set_option maxRecDepth 100000 in
theorem pg_X12_set_74 {lf : pj_Z → mj_M} (hT : pj_Lt pj_TR lf) : ∀ (a2 : Int32) (a3 : Int32) (b1 : Int32) (s : Nat → Int32) (l : Nat → Int64) (x : Nat → Int32) (y : Nat → Int64) (a : Int32 × pj_Z), pl_X12_set_74 a2 a3 b1 s l x y = some a → pm_Gd 1 12090 ie_X12_set.1 pm_rI lf 74 [(2, .int a2), (3, .int a3)] [.int b1, .ref 124] (s, l, x, y) a := by
  intro a2 a3 b1 s l x y a h
  exact pm_run ((pq_X12_set_74  a2 a3 b1 s l x y).symm.trans h) (pz_X12_set hT) (pm_bks_ok pb_X12_set) (pm_bks_ok pb_X12_set _ _ rfl) (pm_ndb_ok rfl) (fun _ _ h => by cases h)
set_option maxRecDepth 100000 in
theorem pg_X12_set_57 {lf : pj_Z → mj_M} (hT : pj_Lt pj_TR lf) : ∀ (a1 : Int32) (a2 : Int32) (a3 : Int32) (b1 : Int32) (s : Nat → Int32) (l : Nat → Int64) (x : Nat → Int32) (y : Nat → Int64) (a : Int32 × pj_Z), pl_X12_set_57 a1 a2 a3 b1 s l x y = some a → pm_Gd 1 12090 ie_X12_set.1 pm_rI lf 57 [(0, .ref 124), (1, .int a1), (2, .int a2), (3, .int a3)] [.int b1, .ref 124] (s, l, x, y) a := by
  intro a1 a2 a3 b1 s l x y a h
  exact pm_run ((pq_X12_set_57  a1 a2 a3 b1 s l x y).symm.trans h) (pz_X12_set hT) (pm_bks_ok pb_X12_set) (pm_bks_ok pb_X12_set _ _ rfl) (pm_ndb_ok rfl) (pj_as_all (p := pm_Ex 1 12090 ie_X12_set.1 pm_rI lf a) (List.forall_mem_cons.mpr ⟨pu_X12_set_74 _ (fun c0 c1 c2 s l x y h => pg_X12_set_74 hT c0 c1 c2 s l x y _ h), (fun _ h => by cases h)⟩))
set_option maxRecDepth 100000 in
theorem pg_X12_set_43 {lf : pj_Z → mj_M} (hT : pj_Lt pj_TR lf) : ∀ (a1 : Int32) (a2 : Int32) (b0 : Int32) (s : Nat → Int32) (l : Nat → Int64) (x : Nat → Int32) (y : Nat → Int64) (a : Int32 × pj_Z), pl_X12_set_43 a1 a2 b0 s l x y = some a → pm_Gd 1 12090 ie_X12_set.1 pm_rI lf 43 [(0, .ref 124), (1, .int a1), (2, .int a2)] [.int b0] (s, l, x, y) a := by
  intro a1 a2 b0 s l x y a h
  exact pm_run ((pq_X12_set_43  a1 a2 b0 s l x y).symm.trans h) (pz_X12_set hT) (pm_bks_ok pb_X12_set) (pm_bks_ok pb_X12_set _ _ rfl) (pm_ndb_ok rfl) (pj_as_all (p := pm_Ex 1 12090 ie_X12_set.1 pm_rI lf a) (List.forall_mem_cons.mpr ⟨pu_X12_set_57 _ (fun c0 c1 c2 c3 s l x y h => pg_X12_set_57 hT c0 c1 c2 c3 s l x y _ h), (fun _ h => by cases h)⟩))
set_option maxRecDepth 100000 in
theorem pg_X12_set_16 {lf : pj_Z → mj_M} (hT : pj_Lt pj_TR lf) : ∀ (a1 : Int32) (a2 : Int32) (b1 : Int32) (s : Nat → Int32) (l : Nat → Int64) (x : Nat → Int32) (y : Nat → Int64) (a : Int32 × pj_Z), pl_X12_set_16 a1 a2 b1 s l x y = some a → pm_Gd 1 12090 ie_X12_set.1 pm_rI lf 16 [(0, .ref 124), (1, .int a1), (2, .int a2)] [.int b1, .ref 124] (s, l, x, y) a := by
  intro a1 a2 b1 s l x y a h
  exact pm_run ((pq_X12_set_16  a1 a2 b1 s l x y).symm.trans h) (pz_X12_set hT) (pm_bks_ok pb_X12_set) (pm_bks_ok pb_X12_set _ _ rfl) (pm_ndb_ok rfl) (pj_as_all (p := pm_Ex 1 12090 ie_X12_set.1 pm_rI lf a) (List.forall_mem_cons.mpr ⟨pu_X12_set_43 _ (fun c0 c1 c2 s l x y h => pg_X12_set_43 hT c0 c1 c2 s l x y _ h), (fun _ h => by cases h)⟩))
set_option maxRecDepth 100000 in
theorem pm_X12_set {lf : pj_Z → mj_M} (hT : pj_Lt pj_TR lf) (a1 : Int32) (a2 : Int32) (s : Nat → Int32) (l : Nat → Int64) (x : Nat → Int32) (y : Nat → Int64) (a : Int32 × pj_Z) (h : pf_X12_set a1 a2 s l x y = some a) : mj_R ic_P 2 12090 [.ref 124, .int a1, .int a2] (lf (s, l, x, y)) (pm_rI a.1) (lf a.2) := by
  refine pm_main (Y := ie_X12_set.1) rfl (Nat.le_of_ble_eq_true rfl) ?_
  exact pm_run ((pq_X12_set_m a1 a2 s l x y).symm.trans h) (pz_X12_set hT) (pm_bks_ok pb_X12_set) (pm_bks_ok pb_X12_set _ _ rfl) (pm_ndb_ok rfl) (pj_as_all (p := pm_Ex 1 12090 ie_X12_set.1 pm_rI lf a) (List.forall_mem_cons.mpr ⟨pu_X12_set_16 _ (fun c0 c1 c2 s l x y h => pg_X12_set_16 hT c0 c1 c2 s l x y _ h), (fun _ h => by cases h)⟩))
abbrev ph_X12_set {A : Type} : List pj_V → pj_Z → (List pj_V → pj_Z → Option A) → Option A := fun st z K => pj_pi st fun a2 st => pj_pi st fun a1 st => pj_pr st 124 0 fun st => pj_ps st (pj_b (pf_X12_set a1 a2 z.1 z.2.1 z.2.2.1 z.2.2.2) fun r s l x y => K (pj_I r :: st) (s, l, x, y))
set_option maxRecDepth 100000 in
theorem pc_X12_set {A : Type} {OK : A → Option Value → mj_M → Prop} {d j pc ix : Nat} {Y : mj_Y} {lf : pj_Z → mj_M} (hT : pj_Lt pj_TR lf) (hd : 2 ≤ d) (hl : mj_lk Y.2.2.2.2 pc = some (.invokevirtual ix, 3)) (hg : mj_pG ic_P j ix = some (12090, 2, some 12)) {lv : List (Nat × Value)} {st : List pj_V} {z : pj_Z} {K : List pj_V → pj_Z → Option A} {a : A} (hK : ∀ st z, K st z = some a → pj_Gd ic_P (mj_R ic_P d) j Y OK lf (pc + 3) lv (pj_es st) z a) (h : ph_X12_set st z K = some a) : pj_Gd ic_P (mj_R ic_P d) j Y OK lf pc lv (pj_es st) z a := by
  obtain ⟨a2, r2, e2, h⟩ := pj_pi_inv h
  obtain ⟨a1, r1, e1, h⟩ := pj_pi_inv h
  obtain ⟨r0, e0, h⟩ := pj_pr_inv h
  obtain ⟨hs, h⟩ := pj_ps_inv h
  obtain ⟨q, hq, h⟩ := pj_b_inv h
  exact pm_cv (o := 124) hl hg [.int a1, .int a2] rfl (by rw [e2, e1, e0]; rfl) hs (by decide) ((hT.2 124 _ rfl).1.2 z 0 (by decide)) (pm_rI q.1) hd (pm_X12_set hT a1 a2 z.1 z.2.1 z.2.2.1 z.2.2.2 q hq) rfl (hK _ _ h)
abbrev pe_X12_load_18 (f : Int32 → Int32 → pj_F (Int32 × pj_Z)) : pj_K (Int32 × pj_Z) := fun lv st z => pj_xr lv 0 124 0 <| pj_xi lv 1 fun a1 => pj_pi st fun b1 st => pj_pr st 124 0 fun st => pj_pe st (f a1 b1 z.1 z.2.1 z.2.2.1 z.2.2.2)
abbrev pe_X12_load_42 (f : Int32 → Int32 → pj_F (Int32 × pj_Z)) : pj_K (Int32 × pj_Z) := fun lv st z => pj_xr lv 0 124 0 <| pj_xi lv 2 fun a2 => pj_pi st fun b1 st => pj_pr st 124 0 fun st => pj_pe st (f a2 b1 z.1 z.2.1 z.2.2.1 z.2.2.2)
abbrev px_X12_load : pj_C (Int32 × pj_Z) := ((pj_as [(124, 12, 195, 1, 0, true, 0, [(1, 1), (2, 125), (2, 126), (2, 127), (2, 128), (2, 129), (2, 130), (2, 131), (2, 132), (2, 133), (1, 2), (0, 44), (2, 134), (2, 135), (2, 136), (2, 137), (2, 138), (0, 69), (2, 139), (2, 140), (2, 141), (1, 3), (0, 93), (0, 94), (0, 45), (0, 46), (0, 48), (0, 49), (0, 47), (0, 50), (0, 51), (2, 142), (2, 143), (2, 144), (0, 19), (1, 4), (1, 5), (1, 6), (0, 20), (0, 21), (0, 22), (0, 23), (0, 24), (0, 25), (0, 27), (0, 28), (1, 7), (1, 8), (1, 9), (1, 10), (1, 11), (0, 26), (2, 145), (2, 146), (2, 147), (2, 148), (2, 149), (2, 150), (2, 151), (2, 152), (2, 153), (2, 154), (2, 155), (2, 156), (2, 157), (2, 158), (2, 159), (0, 57), (0, 58), (0, 59), (0, 60), (2, 160), (2, 161), (2, 162), (2, 163), (1, 12), (1, 13), (0, 95), (0, 73), (0, 74), (0, 71), (0, 72), (0, 75), (0, 76), (0, 77), (0, 80), (0, 78), (0, 79), (1, 14), (0, 29), (0, 30), (0, 31), (0, 34), (0, 35), (0, 32), (0, 33), (0, 36), (0, 37), (0, 38), (0, 39), (0, 40), (1, 15), (1, 16), (0, 43), (0, 41), (0, 42), (2, 164), (0, 96), (0, 89), (0, 90), (0, 91), (0, 92), (2, 165), (2, 166), (2, 167), (2, 168), (2, 169), (2, 170), (2, 171), (2, 172), (0, 87), (2, 173), (0, 88), (2, 174), (0, 62), (1, 17), (0, 66), (0, 63), (0, 64), (0, 65), (0, 67), (1, 18), (0, 68), (2, 175), (1, 19), (0, 52), (0, 53), (0, 54), (0, 55), (2, 176), (0, 56), (0, 85), (0, 86), (0, 81), (0, 82), (0, 83), (0, 84), (2, 177), (2, 178), (2, 179), (1, 20), (2, 180), (0, 6), (0, 7), (0, 8), (0, 16), (0, 17), (0, 61), (0, 9), (0, 10), (1, 21), (1, 22), (0, 11), (0, 12), (0, 13), (0, 18), (0, 14), (0, 15), (2, 181), (0, 70), (1, 23), (2, 182), (2, 183), (0, 1), (1, 24), (2, 184), (2, 185), (1, 25), (0, 2), (2, 186), (2, 187), (1, 26), (2, 188), (2, 189), (1, 27), (1, 28), (2, 190), (2, 191), (1, 29), (0, 3), (2, 192), (0, 4), (0, 5), (1, 30), (2, 193)])]), (pj_as [(259, 12, 0, 0, false), (908, 12, 28, 0, false)]), (fun _ => none), (pj_as [(927, 400)]), (fun _ => none), ic_X, 3, 1, pj_mI, (pj_as [(7, ph_X12_isIn)]), fun _ => false)
abbrev pk_X12_load : List (Nat × List (Nat × Instr × Nat)) := [(0, [(0, .aload_n 0, 1), (1, .iload_n 1, 1), (2, .i2l, 1), (3, .lconst 0, 1), (4, .ldc2_w 927, 3), (7, .invokestatic 568, 3), (10, .ifCond .ne 7, 3)]), (13, [(13, .iconst 1, 1), (14, .goto 4, 3)]), (17, [(17, .iconst 0, 1)]), (18, [(18, .putfield 259, 3), (21, .aload_n 0, 1), (22, .getfield 908, 3), (25, .istore_n 2, 1), (26, .aload_n 0, 1), (27, .aload_n 0, 1), (28, .getfield 259, 3), (31, .ifCond .ne 7, 3)]), (34, [(34, .iload_n 1, 1), (35, .goto 7, 3)]), (38, [(38, .aload_n 0, 1), (39, .getfield 908, 3)]), (42, [(42, .putfield 908, 3), (45, .aload_n 0, 1), (46, .getfield 259, 3), (49, .ifCond .le 7, 3)]), (52, [(52, .iconst 0, 1), (53, .goto 4, 3)]), (56, [(56, .iload_n 2, 1)]), (57, [(57, .ireturn, 1)])]
set_option maxRecDepth 100000 in
theorem pq_X12_load_42  (a2 : Int32) (b1 : Int32) (s : Nat → Int32) (l : Nat → Int64) (x : Nat → Int32) (y : Nat → Int64) : pl_X12_load_42 a2 b1 s l x y = pj_bl px_X12_load (pj_rn px_X12_load (pj_as pk_X12_load) (fun _ => none) 60) [(42, .putfield 908, 3), (45, .aload_n 0, 1), (46, .getfield 259, 3), (49, .ifCond .le 7, 3)] 42 [(0, pj_O (124, 0)), (2, pj_I a2)] [pj_I b1, pj_O (124, 0)] (s, l, x, y) := rfl
set_option maxRecDepth 100000 in
theorem pq_X12_load_18  (a1 : Int32) (b1 : Int32) (s : Nat → Int32) (l : Nat → Int64) (x : Nat → Int32) (y : Nat → Int64) : pl_X12_load_18 a1 b1 s l x y = pj_bl px_X12_load (pj_rn px_X12_load (pj_as pk_X12_load) (pj_as [(42, pe_X12_load_42 (pl_X12_load_42))]) 60) [(18, .putfield 259, 3), (21, .aload_n 0, 1), (22, .getfield 908, 3), (25, .istore_n 2, 1), (26, .aload_n 0, 1), (27, .aload_n 0, 1), (28, .getfield 259, 3), (31, .ifCond .ne 7, 3)] 18 [(0, pj_O (124, 0)), (1, pj_I a1)] [pj_I b1, pj_O (124, 0)] (s, l, x, y) := rfl
set_option maxRecDepth 100000 in
theorem pq_X12_load_m  (a1 : Int32) (s : Nat → Int32) (l : Nat → Int64) (x : Nat → Int32) (y : Nat → Int64) : pf_X12_load a1 s l x y = pj_bl px_X12_load (pj_rn px_X12_load (pj_as pk_X12_load) (pj_as [(18, pe_X12_load_18 (pl_X12_load_18))]) 60) [(0, .aload_n 0, 1), (1, .iload_n 1, 1), (2, .i2l, 1), (3, .lconst 0, 1), (4, .ldc2_w 927, 3), (7, .invokestatic 568, 3), (10, .ifCond .ne 7, 3)] 0 [(0, pj_O (124, 0)), (1, pj_I a1)] [] (s, l, x, y) := rfl
theorem pu_X12_load_18 {lf : pj_Z → mj_M} {a : Int32 × pj_Z} (f : Int32 → Int32 → pj_F (Int32 × pj_Z)) (hf : ∀ (a1 : Int32) (b1 : Int32) (s : Nat → Int32) (l : Nat → Int64) (x : Nat → Int32) (y : Nat → Int64), f a1 b1 s l x y = some a → pm_Gd 1 12091 ie_X12_load.1 pm_rI lf 18 [(0, .ref 124), (1, .int a1)] [.int b1, .ref 124] (s, l, x, y) a) : pm_Ex 1 12091 ie_X12_load.1 pm_rI lf a 18 (pe_X12_load_18 f) := by
  intro lv st z hd h
  obtain ⟨g0, h⟩ := pj_xr_inv h
  obtain ⟨a1, g1, h⟩ := pj_xi_inv h
  obtain ⟨b1, r1, e1, h⟩ := pj_pi_inv h
  obtain ⟨r0, e0, h⟩ := pj_pr_inv h
  obtain ⟨e9, h⟩ := pj_pe_inv h
  rw [e1, e0, e9]
  exact mj_wp_sub (mj_sub_cons g0 (mj_sub_cons g1 (mj_sub_nil hd))) (hf _ _ _ _ _ _ h)
theorem pu_X12_load_42 {lf : pj_Z → mj_M} {a : Int32 × pj_Z} (f : Int32 → Int32 → pj_F (Int32 × pj_Z)) (hf : ∀ (a2 : Int32) (b1 : Int32) (s : Nat → Int32) (l : Nat → Int64) (x : Nat → Int32) (y : Nat → Int64), f a2 b1 s l x y = some a → pm_Gd 1 12091 ie_X12_load.1 pm_rI lf 42 [(0, .ref 124), (2, .int a2)] [.int b1, .ref 124] (s, l, x, y) a) : pm_Ex 1 12091 ie_X12_load.1 pm_rI lf a 42 (pe_X12_load_42 f) := by
  intro lv st z hd h
  obtain ⟨g0, h⟩ := pj_xr_inv h
  obtain ⟨a2, g2, h⟩ := pj_xi_inv h
  obtain ⟨b1, r1, e1, h⟩ := pj_pi_inv h
  obtain ⟨r0, e0, h⟩ := pj_pr_inv h
  obtain ⟨e9, h⟩ := pj_pe_inv h
  rw [e1, e0, e9]
  exact mj_wp_sub (mj_sub_cons g0 (mj_sub_cons g2 (mj_sub_nil hd))) (hf _ _ _ _ _ _ h)
set_option maxRecDepth 100000 in
theorem pz_X12_load {lf : pj_Z → mj_M} (hT : pj_Lt pj_TR lf) : pj_Cok ic_P (mj_R ic_P 1) 12091 ie_X12_load.1 (pm_OK lf pm_rI) lf px_X12_load := by
  exact pm_cok (c := px_X12_load) (pm_part hT (pj_as_all (p := fun b e => pj_TR b = some e) (List.forall_mem_cons.mpr ⟨rfl, (fun _ h => by cases h)⟩))) (pm_in_ok (L := [(259, 12, 0, 0, false), (908, 12, 28, 0, false)]) (f := mj_pF ic_P 12091) (by decide +kernel)) (fun _ _ h => by cases h) (pm_inL_ok (L := [(927, 400)]) (f := mj_pL ic_P 12091) (by decide +kernel)) (fun _ _ h => by cases h) rfl rfl ⟨by decide, rfl⟩ pm_mI (pj_as_all (p := pm_Cl 1 12091 ie_X12_load.1 lf (pm_OK lf pm_rI)) (List.forall_mem_cons.mpr ⟨fun _ _ lv st z K a hK h => pc_X12_isIn hT (by decide) (ix := 568) rfl rfl hK h, (fun _ h => by cases h)⟩)) (fun _ h => by cases h)
set_option maxRecDepth 100000 in
theorem pb_X12_load : pm_bks ie_X12_load.1.2.2.2.2 pk_X12_load = true := by decide +kernel
set_option maxRecDepth 100000 in
theorem pg_X12_load_42 {lf : pj_Z → mj_M} (hT : pj_Lt pj_TR lf) : ∀ (a2 : Int32) (b1 : Int32) (s : Nat → Int32) (l : Nat → Int64) (x : Nat → Int32) (y : Nat → Int64) (a : Int32 × pj_Z), pl_X12_load_42 a2 b1 s l x y = some a → pm_Gd 1 12091 ie_X12_load.1 pm_rI lf 42 [(0, .ref 124), (2, .int a2)] [.int b1, .ref 124] (s, l, x, y) a := by
  intro a2 b1 s l x y a h
  exact pm_run ((pq_X12_load_42  a2 b1 s l x y).symm.trans h) (pz_X12_load hT) (pm_bks_ok pb_X12_load) (pm_bks_ok pb_X12_load _ _ rfl) (pm_ndb_ok rfl) (fun _ _ h => by cases h)
set_option maxRecDepth 100000 in
theorem pg_X12_load_18 {lf : pj_Z → mj_M} (hT : pj_Lt pj_TR lf) : ∀ (a1 : Int32) (b1 : Int32) (s : Nat → Int32) (l : Nat → Int64) (x : Nat → Int32) (y : Nat → Int64) (a : Int32 × pj_Z), pl_X12_load_18 a1 b1 s l x y = some a → pm_Gd 1 12091 ie_X12_load.1 pm_rI lf 18 [(0, .ref 124), (1, .int a1)] [.int b1, .ref 124] (s, l, x, y) a := by
  intro a1 b1 s l x y a h
  exact pm_run ((pq_X12_load_18  a1 b1 s l x y).symm.trans h) (pz_X12_load hT) (pm_bks_ok pb_X12_load) (pm_bks_ok pb_X12_load _ _ rfl) (pm_ndb_ok rfl) (pj_as_all (p := pm_Ex 1 12091 ie_X12_load.1 pm_rI lf a) (List.forall_mem_cons.mpr ⟨pu_X12_load_42 _ (fun c0 c1 s l x y h => pg_X12_load_42 hT c0 c1 s l x y _ h), (fun _ h => by cases h)⟩))
set_option maxRecDepth 100000 in
theorem pm_X12_load {lf : pj_Z → mj_M} (hT : pj_Lt pj_TR lf) (a1 : Int32) (s : Nat → Int32) (l : Nat → Int64) (x : Nat → Int32) (y : Nat → Int64) (a : Int32 × pj_Z) (h : pf_X12_load a1 s l x y = some a) : mj_R ic_P 2 12091 [.ref 124, .int a1] (lf (s, l, x, y)) (pm_rI a.1) (lf a.2) := by
  refine pm_main (Y := ie_X12_load.1) rfl (Nat.le_of_ble_eq_true rfl) ?_
  exact pm_run ((pq_X12_load_m a1 s l x y).symm.trans h) (pz_X12_load hT) (pm_bks_ok pb_X12_load) (pm_bks_ok pb_X12_load _ _ rfl) (pm_ndb_ok rfl) (pj_as_all (p := pm_Ex 1 12091 ie_X12_load.1 pm_rI lf a) (List.forall_mem_cons.mpr ⟨pu_X12_load_18 _ (fun c0 c1 s l x y h => pg_X12_load_18 hT c0 c1 s l x y _ h), (fun _ h => by cases h)⟩))
abbrev ph_X12_load {A : Type} : List pj_V → pj_Z → (List pj_V → pj_Z → Option A) → Option A := fun st z K => pj_pi st fun a1 st => pj_pr st 124 0 fun st => pj_ps st (pj_b (pf_X12_load a1 z.1 z.2.1 z.2.2.1 z.2.2.2) fun r s l x y => K (pj_I r :: st) (s, l, x, y))
set_option maxRecDepth 100000 in
theorem pc_X12_load {A : Type} {OK : A → Option Value → mj_M → Prop} {d j pc ix : Nat} {Y : mj_Y} {lf : pj_Z → mj_M} (hT : pj_Lt pj_TR lf) (hd : 2 ≤ d) (hl : mj_lk Y.2.2.2.2 pc = some (.invokevirtual ix, 3)) (hg : mj_pG ic_P j ix = some (12091, 1, some 12)) {lv : List (Nat × Value)} {st : List pj_V} {z : pj_Z} {K : List pj_V → pj_Z → Option A} {a : A} (hK : ∀ st z, K st z = some a → pj_Gd ic_P (mj_R ic_P d) j Y OK lf (pc + 3) lv (pj_es st) z a) (h : ph_X12_load st z K = some a) : pj_Gd ic_P (mj_R ic_P d) j Y OK lf pc lv (pj_es st) z a := by
  obtain ⟨a1, r1, e1, h⟩ := pj_pi_inv h
  obtain ⟨r0, e0, h⟩ := pj_pr_inv h
  obtain ⟨hs, h⟩ := pj_ps_inv h
  obtain ⟨q, hq, h⟩ := pj_b_inv h
  exact pm_cv (o := 124) hl hg [.int a1] rfl (by rw [e1, e0]; rfl) hs (by decide) ((hT.2 124 _ rfl).1.2 z 0 (by decide)) (pm_rI q.1) hd (pm_X12_load hT a1 z.1 z.2.1 z.2.2.1 z.2.2.2 q hq) rfl (hK _ _ h)
abbrev pe_X12_pin_34 (f : Int32 → Int32 → Int32 → pj_F (Int32 × pj_Z)) : pj_K (Int32 × pj_Z) := fun lv st z => pj_xr lv 0 124 0 <| pj_xi lv 1 fun a1 => pj_xi lv 2 fun a2 => pj_pi st fun b1 st => pj_pr st 124 0 fun st => pj_pe st (f a1 a2 b1 z.1 z.2.1 z.2.2.1 z.2.2.2)
abbrev px_X12_pin : pj_C (Int32 × pj_Z) := ((pj_as [(124, 12, 195, 1, 0, true, 0, [(1, 1), (2, 125), (2, 126), (2, 127), (2, 128), (2, 129), (2, 130), (2, 131), (2, 132), (2, 133), (1, 2), (0, 44), (2, 134), (2, 135), (2, 136), (2, 137), (2, 138), (0, 69), (2, 139), (2, 140), (2, 141), (1, 3), (0, 93), (0, 94), (0, 45), (0, 46), (0, 48), (0, 49), (0, 47), (0, 50), (0, 51), (2, 142), (2, 143), (2, 144), (0, 19), (1, 4), (1, 5), (1, 6), (0, 20), (0, 21), (0, 22), (0, 23), (0, 24), (0, 25), (0, 27), (0, 28), (1, 7), (1, 8), (1, 9), (1, 10), (1, 11), (0, 26), (2, 145), (2, 146), (2, 147), (2, 148), (2, 149), (2, 150), (2, 151), (2, 152), (2, 153), (2, 154), (2, 155), (2, 156), (2, 157), (2, 158), (2, 159), (0, 57), (0, 58), (0, 59), (0, 60), (2, 160), (2, 161), (2, 162), (2, 163), (1, 12), (1, 13), (0, 95), (0, 73), (0, 74), (0, 71), (0, 72), (0, 75), (0, 76), (0, 77), (0, 80), (0, 78), (0, 79), (1, 14), (0, 29), (0, 30), (0, 31), (0, 34), (0, 35), (0, 32), (0, 33), (0, 36), (0, 37), (0, 38), (0, 39), (0, 40), (1, 15), (1, 16), (0, 43), (0, 41), (0, 42), (2, 164), (0, 96), (0, 89), (0, 90), (0, 91), (0, 92), (2, 165), (2, 166), (2, 167), (2, 168), (2, 169), (2, 170), (2, 171), (2, 172), (0, 87), (2, 173), (0, 88), (2, 174), (0, 62), (1, 17), (0, 66), (0, 63), (0, 64), (0, 65), (0, 67), (1, 18), (0, 68), (2, 175), (1, 19), (0, 52), (0, 53), (0, 54), (0, 55), (2, 176), (0, 56), (0, 85), (0, 86), (0, 81), (0, 82), (0, 83), (0, 84), (2, 177), (2, 178), (2, 179), (1, 20), (2, 180), (0, 6), (0, 7), (0, 8), (0, 16), (0, 17), (0, 61), (0, 9), (0, 10), (1, 21), (1, 22), (0, 11), (0, 12), (0, 13), (0, 18), (0, 14), (0, 15), (2, 181), (0, 70), (1, 23), (2, 182), (2, 183), (0, 1), (1, 24), (2, 184), (2, 185), (1, 25), (0, 2), (2, 186), (2, 187), (1, 26), (2, 188), (2, 189), (1, 27), (1, 28), (2, 190), (2, 191), (1, 29), (0, 3), (2, 192), (0, 4), (0, 5), (1, 30), (2, 193)]), (134, 100, 10, 1, 0, true, 29000, [])]), (pj_as [(44, 12, 12, 2, true), (259, 12, 0, 0, false)]), (fun _ => none), (pj_as [(929, 9), (931, 1023)]), (fun _ => none), ic_X, 4, 1, pj_mI, (pj_as [(7, ph_X12_isIn), (23, ph_X12_isIn)]), fun _ => false)
abbrev pk_X12_pin : List (Nat × List (Nat × Instr × Nat)) := [(0, [(0, .aload_n 0, 1), (1, .iload_n 1, 1), (2, .i2l, 1), (3, .lconst 0, 1), (4, .ldc2_w 929, 3), (7, .invokestatic 568, 3), (10, .ifCond .ne 7, 3)]), (13, [(13, .iconst 1, 1), (14, .goto 20, 3)]), (17, [(17, .iload_n 2, 1), (18, .i2l, 1), (19, .lconst 0, 1), (20, .ldc2_w 931, 3), (23, .invokestatic 568, 3), (26, .ifCond .ne 7, 3)]), (29, [(29, .iconst 2, 1), (30, .goto 4, 3)]), (33, [(33, .iconst 0, 1)]), (34, [(34, .putfield 259, 3), (37, .aload_n 0, 1), (38, .getfield 259, 3), (41, .ifCond .le 5, 3)]), (44, [(44, .iconst 0, 1), (45, .ireturn, 1)]), (46, [(46, .aload_n 0, 1), (47, .getfield 44, 3), (50, .iload_n 1, 1), (51, .iaload, 1), (52, .istore_n 3, 1), (53, .aload_n 0, 1), (54, .getfield 44, 3), (57, .iload_n 1, 1), (58, .iload_n 2, 1), (59, .iastore, 1), (60, .iload_n 3, 1), (61, .ireturn, 1)])]
set_option maxRecDepth 100000 in
theorem pq_X12_pin_34  (a1 : Int32) (a2 : Int32) (b1 : Int32) (s : Nat → Int32) (l : Nat → Int64) (x : Nat → Int32) (y : Nat → Int64) : pl_X12_pin_34 a1 a2 b1 s l x y = pj_bl px_X12_pin (pj_rn px_X12_pin (pj_as pk_X12_pin) (fun _ => none) 60) [(34, .putfield 259, 3), (37, .aload_n 0, 1), (38, .getfield 259, 3), (41, .ifCond .le 5, 3)] 34 [(0, pj_O (124, 0)), (1, pj_I a1), (2, pj_I a2)] [pj_I b1, pj_O (124, 0)] (s, l, x, y) := rfl
set_option maxRecDepth 100000 in
theorem pq_X12_pin_m  (a1 : Int32) (a2 : Int32) (s : Nat → Int32) (l : Nat → Int64) (x : Nat → Int32) (y : Nat → Int64) : pf_X12_pin a1 a2 s l x y = pj_bl px_X12_pin (pj_rn px_X12_pin (pj_as pk_X12_pin) (pj_as [(34, pe_X12_pin_34 (pl_X12_pin_34))]) 60) [(0, .aload_n 0, 1), (1, .iload_n 1, 1), (2, .i2l, 1), (3, .lconst 0, 1), (4, .ldc2_w 929, 3), (7, .invokestatic 568, 3), (10, .ifCond .ne 7, 3)] 0 [(0, pj_O (124, 0)), (1, pj_I a1), (2, pj_I a2)] [] (s, l, x, y) := rfl
theorem pu_X12_pin_34 {lf : pj_Z → mj_M} {a : Int32 × pj_Z} (f : Int32 → Int32 → Int32 → pj_F (Int32 × pj_Z)) (hf : ∀ (a1 : Int32) (a2 : Int32) (b1 : Int32) (s : Nat → Int32) (l : Nat → Int64) (x : Nat → Int32) (y : Nat → Int64), f a1 a2 b1 s l x y = some a → pm_Gd 1 12092 ie_X12_pin.1 pm_rI lf 34 [(0, .ref 124), (1, .int a1), (2, .int a2)] [.int b1, .ref 124] (s, l, x, y) a) : pm_Ex 1 12092 ie_X12_pin.1 pm_rI lf a 34 (pe_X12_pin_34 f) := by
  intro lv st z hd h
  obtain ⟨g0, h⟩ := pj_xr_inv h
  obtain ⟨a1, g1, h⟩ := pj_xi_inv h
  obtain ⟨a2, g2, h⟩ := pj_xi_inv h
  obtain ⟨b1, r1, e1, h⟩ := pj_pi_inv h
  obtain ⟨r0, e0, h⟩ := pj_pr_inv h
  obtain ⟨e9, h⟩ := pj_pe_inv h
  rw [e1, e0, e9]
  exact mj_wp_sub (mj_sub_cons g0 (mj_sub_cons g1 (mj_sub_cons g2 (mj_sub_nil hd)))) (hf _ _ _ _ _ _ _ h)
set_option maxRecDepth 100000 in
theorem pz_X12_pin {lf : pj_Z → mj_M} (hT : pj_Lt pj_TR lf) : pj_Cok ic_P (mj_R ic_P 1) 12092 ie_X12_pin.1 (pm_OK lf pm_rI) lf px_X12_pin := by
  exact pm_cok (c := px_X12_pin) (pm_part hT (pj_as_all (p := fun b e => pj_TR b = some e) (List.forall_mem_cons.mpr ⟨rfl, (List.forall_mem_cons.mpr ⟨rfl, (fun _ h => by cases h)⟩)⟩))) (pm_in_ok (L := [(44, 12, 12, 2, true), (259, 12, 0, 0, false)]) (f := mj_pF ic_P 12092) (by decide +kernel)) (fun _ _ h => by cases h) (pm_inL_ok (L := [(929, 9), (931, 1023)]) (f := mj_pL ic_P 12092) (by decide +kernel)) (fun _ _ h => by cases h) rfl rfl ⟨by decide, rfl⟩ pm_mI (pj_as_all (p := pm_Cl 1 12092 ie_X12_pin.1 lf (pm_OK lf pm_rI)) (List.forall_mem_cons.mpr ⟨fun _ _ lv st z K a hK h => pc_X12_isIn hT (by decide) (ix := 568) rfl rfl hK h, (List.forall_mem_cons.mpr ⟨fun _ _ lv st z K a hK h => pc_X12_isIn hT (by decide) (ix := 568) rfl rfl hK h, (fun _ h => by cases h)⟩)⟩)) (fun _ h => by cases h)
set_option maxRecDepth 100000 in
theorem pb_X12_pin : pm_bks ie_X12_pin.1.2.2.2.2 pk_X12_pin = true := by decide +kernel
set_option maxRecDepth 100000 in
theorem pg_X12_pin_34 {lf : pj_Z → mj_M} (hT : pj_Lt pj_TR lf) : ∀ (a1 : Int32) (a2 : Int32) (b1 : Int32) (s : Nat → Int32) (l : Nat → Int64) (x : Nat → Int32) (y : Nat → Int64) (a : Int32 × pj_Z), pl_X12_pin_34 a1 a2 b1 s l x y = some a → pm_Gd 1 12092 ie_X12_pin.1 pm_rI lf 34 [(0, .ref 124), (1, .int a1), (2, .int a2)] [.int b1, .ref 124] (s, l, x, y) a := by
  intro a1 a2 b1 s l x y a h
  exact pm_run ((pq_X12_pin_34  a1 a2 b1 s l x y).symm.trans h) (pz_X12_pin hT) (pm_bks_ok pb_X12_pin) (pm_bks_ok pb_X12_pin _ _ rfl) (pm_ndb_ok rfl) (fun _ _ h => by cases h)
set_option maxRecDepth 100000 in
theorem pm_X12_pin {lf : pj_Z → mj_M} (hT : pj_Lt pj_TR lf) (a1 : Int32) (a2 : Int32) (s : Nat → Int32) (l : Nat → Int64) (x : Nat → Int32) (y : Nat → Int64) (a : Int32 × pj_Z) (h : pf_X12_pin a1 a2 s l x y = some a) : mj_R ic_P 2 12092 [.ref 124, .int a1, .int a2] (lf (s, l, x, y)) (pm_rI a.1) (lf a.2) := by
  refine pm_main (Y := ie_X12_pin.1) rfl (Nat.le_of_ble_eq_true rfl) ?_
  exact pm_run ((pq_X12_pin_m a1 a2 s l x y).symm.trans h) (pz_X12_pin hT) (pm_bks_ok pb_X12_pin) (pm_bks_ok pb_X12_pin _ _ rfl) (pm_ndb_ok rfl) (pj_as_all (p := pm_Ex 1 12092 ie_X12_pin.1 pm_rI lf a) (List.forall_mem_cons.mpr ⟨pu_X12_pin_34 _ (fun c0 c1 c2 s l x y h => pg_X12_pin_34 hT c0 c1 c2 s l x y _ h), (fun _ h => by cases h)⟩))
abbrev ph_X12_pin {A : Type} : List pj_V → pj_Z → (List pj_V → pj_Z → Option A) → Option A := fun st z K => pj_pi st fun a2 st => pj_pi st fun a1 st => pj_pr st 124 0 fun st => pj_ps st (pj_b (pf_X12_pin a1 a2 z.1 z.2.1 z.2.2.1 z.2.2.2) fun r s l x y => K (pj_I r :: st) (s, l, x, y))
set_option maxRecDepth 100000 in
theorem pc_X12_pin {A : Type} {OK : A → Option Value → mj_M → Prop} {d j pc ix : Nat} {Y : mj_Y} {lf : pj_Z → mj_M} (hT : pj_Lt pj_TR lf) (hd : 2 ≤ d) (hl : mj_lk Y.2.2.2.2 pc = some (.invokevirtual ix, 3)) (hg : mj_pG ic_P j ix = some (12092, 2, some 12)) {lv : List (Nat × Value)} {st : List pj_V} {z : pj_Z} {K : List pj_V → pj_Z → Option A} {a : A} (hK : ∀ st z, K st z = some a → pj_Gd ic_P (mj_R ic_P d) j Y OK lf (pc + 3) lv (pj_es st) z a) (h : ph_X12_pin st z K = some a) : pj_Gd ic_P (mj_R ic_P d) j Y OK lf pc lv (pj_es st) z a := by
  obtain ⟨a2, r2, e2, h⟩ := pj_pi_inv h
  obtain ⟨a1, r1, e1, h⟩ := pj_pi_inv h
  obtain ⟨r0, e0, h⟩ := pj_pr_inv h
  obtain ⟨hs, h⟩ := pj_ps_inv h
  obtain ⟨q, hq, h⟩ := pj_b_inv h
  exact pm_cv (o := 124) hl hg [.int a1, .int a2] rfl (by rw [e2, e1, e0]; rfl) hs (by decide) ((hT.2 124 _ rfl).1.2 z 0 (by decide)) (pm_rI q.1) hd (pm_X12_pin hT a1 a2 z.1 z.2.1 z.2.2.1 z.2.2.2 q hq) rfl (hK _ _ h)
abbrev pe_X12_limits_46 (f : Int32 → Int32 → Int32 → Int32 → pj_F (Unit × pj_Z)) : pj_K (Unit × pj_Z) := fun lv st z => pj_xr lv 0 124 0 <| pj_xi lv 1 fun a1 => pj_xi lv 2 fun a2 => pj_xi lv 3 fun a3 => pj_xi lv 4 fun a4 => pj_pe st (f a1 a2 a3 a4 z.1 z.2.1 z.2.2.1 z.2.2.2)
abbrev pe_X12_limits_47 (f : Int32 → Int32 → Int32 → Int32 → Int32 → pj_F (Unit × pj_Z)) : pj_K (Unit × pj_Z) := fun lv st z => pj_xr lv 0 124 0 <| pj_xi lv 1 fun a1 => pj_xi lv 2 fun a2 => pj_xi lv 3 fun a3 => pj_xi lv 4 fun a4 => pj_pi st fun b0 st => pj_pe st (f a1 a2 a3 a4 b0 z.1 z.2.1 z.2.2.1 z.2.2.2)
abbrev pe_X12_limits_87 (f : Int32 → Int32 → Int32 → Int32 → Int32 → pj_F (Unit × pj_Z)) : pj_K (Unit × pj_Z) := fun lv st z => pj_xr lv 0 124 0 <| pj_xi lv 1 fun a1 => pj_xi lv 2 fun a2 => pj_xi lv 3 fun a3 => pj_xi lv 4 fun a4 => pj_pi st fun b1 st => pj_pr st 124 0 fun st => pj_pe st (f a1 a2 a3 a4 b1 z.1 z.2.1 z.2.2.1 z.2.2.2)
abbrev px_X12_limits : pj_C (Unit × pj_Z) := ((pj_as [(124, 12, 195, 1, 0, true, 0, [(1, 1), (2, 125), (2, 126), (2, 127), (2, 128), (2, 129), (2, 130), (2, 131), (2, 132), (2, 133), (1, 2), (0, 44), (2, 134), (2, 135), (2, 136), (2, 137), (2, 138), (0, 69), (2, 139), (2, 140), (2, 141), (1, 3), (0, 93), (0, 94), (0, 45), (0, 46), (0, 48), (0, 49), (0, 47), (0, 50), (0, 51), (2, 142), (2, 143), (2, 144), (0, 19), (1, 4), (1, 5), (1, 6), (0, 20), (0, 21), (0, 22), (0, 23), (0, 24), (0, 25), (0, 27), (0, 28), (1, 7), (1, 8), (1, 9), (1, 10), (1, 11), (0, 26), (2, 145), (2, 146), (2, 147), (2, 148), (2, 149), (2, 150), (2, 151), (2, 152), (2, 153), (2, 154), (2, 155), (2, 156), (2, 157), (2, 158), (2, 159), (0, 57), (0, 58), (0, 59), (0, 60), (2, 160), (2, 161), (2, 162), (2, 163), (1, 12), (1, 13), (0, 95), (0, 73), (0, 74), (0, 71), (0, 72), (0, 75), (0, 76), (0, 77), (0, 80), (0, 78), (0, 79), (1, 14), (0, 29), (0, 30), (0, 31), (0, 34), (0, 35), (0, 32), (0, 33), (0, 36), (0, 37), (0, 38), (0, 39), (0, 40), (1, 15), (1, 16), (0, 43), (0, 41), (0, 42), (2, 164), (0, 96), (0, 89), (0, 90), (0, 91), (0, 92), (2, 165), (2, 166), (2, 167), (2, 168), (2, 169), (2, 170), (2, 171), (2, 172), (0, 87), (2, 173), (0, 88), (2, 174), (0, 62), (1, 17), (0, 66), (0, 63), (0, 64), (0, 65), (0, 67), (1, 18), (0, 68), (2, 175), (1, 19), (0, 52), (0, 53), (0, 54), (0, 55), (2, 176), (0, 56), (0, 85), (0, 86), (0, 81), (0, 82), (0, 83), (0, 84), (2, 177), (2, 178), (2, 179), (1, 20), (2, 180), (0, 6), (0, 7), (0, 8), (0, 16), (0, 17), (0, 61), (0, 9), (0, 10), (1, 21), (1, 22), (0, 11), (0, 12), (0, 13), (0, 18), (0, 14), (0, 15), (2, 181), (0, 70), (1, 23), (2, 182), (2, 183), (0, 1), (1, 24), (2, 184), (2, 185), (1, 25), (0, 2), (2, 186), (2, 187), (1, 26), (2, 188), (2, 189), (1, 27), (1, 28), (2, 190), (2, 191), (1, 29), (0, 3), (2, 192), (0, 4), (0, 5), (1, 30), (2, 193)]), (135, 100, 10, 1, 0, true, 31000, []), (136, 100, 10, 1, 0, true, 32000, []), (137, 100, 10, 1, 0, true, 33000, [])]), (pj_as [(47, 12, 13, 2, true), (50, 12, 14, 2, true), (53, 12, 15, 2, true), (259, 12, 0, 0, false), (519, 12, 23, 0, false)]), (fun _ => none), (pj_as [(929, 9), (931, 1023)]), (fun _ => none), ic_X, 6, 0, pj_mU, (pj_as [(6, ph_X12_isIn), (18, ph_X12_isIn), (31, ph_X12_isIn), (56, ph_X12_isIn)]), fun _ => false)
abbrev pk_X12_limits : List (Nat × List (Nat × Instr × Nat)) := [(0, [(0, .iload_n 2, 1), (1, .i2l, 1), (2, .lconst 0, 1), (3, .ldc2_w 931, 3), (6, .invokestatic 568, 3), (9, .ifCond .eq 37, 3)]), (12, [(12, .iload_n 3, 1), (13, .i2l, 1), (14, .lconst 0, 1), (15, .ldc2_w 931, 3), (18, .invokestatic 568, 3), (21, .ifCond .eq 25, 3)]), (24, [(24, .iload 4, 2), (26, .i2l, 1), (27, .lconst 0, 1), (28, .ldc2_w 931, 3), (31, .invokestatic 568, 3), (34, .ifCond .eq 12, 3)]), (37, [(37, .iload_n 2, 1), (38, .iload_n 3, 1), (39, .if_icmp .gt 7, 3)]), (42, [(42, .iconst 1, 1), (43, .goto 4, 3)]), (46, [(46, .iconst 0, 1)]), (47, [(47, .istore 5, 2), (49, .aload_n 0, 1), (50, .iload_n 1, 1), (51, .i2l, 1), (52, .lconst 0, 1), (53, .ldc2_w 929, 3), (56, .invokestatic 568, 3), (59, .ifCond .ne 7, 3)]), (62, [(62, .iconst 1, 1), (63, .goto 24, 3)]), (66, [(66, .iload 5, 2), (68, .ifCond .ne 7, 3)]), (71, [(71, .iconst 2, 1), (72, .goto 15, 3)]), (75, [(75, .aload_n 0, 1), (76, .getfield 519, 3), (79, .ifCond .eq 7, 3)]), (82, [(82, .iconst 3, 1), (83, .goto 4, 3)]), (86, [(86, .iconst 0, 1)]), (87, [(87, .putfield 259, 3), (90, .aload_n 0, 1), (91, .getfield 259, 3), (94, .ifCond .ne 25, 3)]), (97, [(97, .aload_n 0, 1), (98, .getfield 47, 3), (101, .iload_n 1, 1), (102, .iload_n 2, 1), (103, .iastore, 1), (104, .aload_n 0, 1), (105, .getfield 50, 3), (108, .iload_n 1, 1), (109, .iload_n 3, 1), (110, .iastore, 1), (111, .aload_n 0, 1), (112, .getfield 53, 3), (115, .iload_n 1, 1), (116, .iload 4, 2), (118, .iastore, 1)]), (119, [(119, .return_, 1)])]
set_option maxRecDepth 100000 in
theorem pq_X12_limits_87  (a1 : Int32) (a2 : Int32) (a3 : Int32) (a4 : Int32) (b1 : Int32) (s : Nat → Int32) (l : Nat → Int64) (x : Nat → Int32) (y : Nat → Int64) : pl_X12_limits_87 a1 a2 a3 a4 b1 s l x y = pj_bl px_X12_limits (pj_rn px_X12_limits (pj_as pk_X12_limits) (fun _ => none) 60) [(87, .putfield 259, 3), (90, .aload_n 0, 1), (91, .getfield 259, 3), (94, .ifCond .ne 25, 3)] 87 [(0, pj_O (124, 0)), (1, pj_I a1), (2, pj_I a2), (3, pj_I a3), (4, pj_I a4)] [pj_I b1, pj_O (124, 0)] (s, l, x, y) := rfl
set_option maxRecDepth 100000 in
theorem pq_X12_limits_47  (a1 : Int32) (a2 : Int32) (a3 : Int32) (a4 : Int32) (b0 : Int32) (s : Nat → Int32) (l : Nat → Int64) (x : Nat → Int32) (y : Nat → Int64) : pl_X12_limits_47 a1 a2 a3 a4 b0 s l x y = pj_bl px_X12_limits (pj_rn px_X12_limits (pj_as pk_X12_limits) (pj_as [(87, pe_X12_limits_87 (pl_X12_limits_87))]) 60) [(47, .istore 5, 2), (49, .aload_n 0, 1), (50, .iload_n 1, 1), (51, .i2l, 1), (52, .lconst 0, 1), (53, .ldc2_w 929, 3), (56, .invokestatic 568, 3), (59, .ifCond .ne 7, 3)] 47 [(0, pj_O (124, 0)), (1, pj_I a1), (2, pj_I a2), (3, pj_I a3), (4, pj_I a4)] [pj_I b0] (s, l, x, y) := rfl
set_option maxRecDepth 100000 in
theorem pq_X12_limits_46  (a1 : Int32) (a2 : Int32) (a3 : Int32) (a4 : Int32) (s : Nat → Int32) (l : Nat → Int64) (x : Nat → Int32) (y : Nat → Int64) : pl_X12_limits_46 a1 a2 a3 a4 s l x y = pj_bl px_X12_limits (pj_rn px_X12_limits (pj_as pk_X12_limits) (pj_as [(47, pe_X12_limits_47 (pl_X12_limits_47))]) 60) [(46, .iconst 0, 1)] 46 [(0, pj_O (124, 0)), (1, pj_I a1), (2, pj_I a2), (3, pj_I a3), (4, pj_I a4)] [] (s, l, x, y) := rfl
set_option maxRecDepth 100000 in
theorem pq_X12_limits_m  (a1 : Int32) (a2 : Int32) (a3 : Int32) (a4 : Int32) (s : Nat → Int32) (l : Nat → Int64) (x : Nat → Int32) (y : Nat → Int64) : pf_X12_limits a1 a2 a3 a4 s l x y = pj_bl px_X12_limits (pj_rn px_X12_limits (pj_as pk_X12_limits) (pj_as [(46, pe_X12_limits_46 (pl_X12_limits_46)), (47, pe_X12_limits_47 (pl_X12_limits_47))]) 60) [(0, .iload_n 2, 1), (1, .i2l, 1), (2, .lconst 0, 1), (3, .ldc2_w 931, 3), (6, .invokestatic 568, 3), (9, .ifCond .eq 37, 3)] 0 [(0, pj_O (124, 0)), (1, pj_I a1), (2, pj_I a2), (3, pj_I a3), (4, pj_I a4)] [] (s, l, x, y) := rfl
theorem pu_X12_limits_46 {lf : pj_Z → mj_M} {a : Unit × pj_Z} (f : Int32 → Int32 → Int32 → Int32 → pj_F (Unit × pj_Z)) (hf : ∀ (a1 : Int32) (a2 : Int32) (a3 : Int32) (a4 : Int32) (s : Nat → Int32) (l : Nat → Int64) (x : Nat → Int32) (y : Nat → Int64), f a1 a2 a3 a4 s l x y = some a → pm_Gd 1 12093 ie_X12_limits.1 pm_rU lf 46 [(0, .ref 124), (1, .int a1), (2, .int a2), (3, .int a3), (4, .int a4)] [] (s, l, x, y) a) : pm_Ex 1 12093 ie_X12_limits.1 pm_rU lf a 46 (pe_X12_limits_46 f) := by
  intro lv st z hd h
  obtain ⟨g0, h⟩ := pj_xr_inv h
  obtain ⟨a1, g1, h⟩ := pj_xi_inv h
  obtain ⟨a2, g2, h⟩ := pj_xi_inv h
  obtain ⟨a3, g3, h⟩ := pj_xi_inv h
  obtain ⟨a4, g4, h⟩ := pj_xi_inv h
  obtain ⟨e9, h⟩ := pj_pe_inv h
  rw [e9]
  exact mj_wp_sub (mj_sub_cons g0 (mj_sub_cons g1 (mj_sub_cons g2 (mj_sub_cons g3 (mj_sub_cons g4 (mj_sub_nil hd)))))) (hf _ _ _ _ _ _ _ _ h)
theorem pu_X12_limits_47 {lf : pj_Z → mj_M} {a : Unit × pj_Z} (f : Int32 → Int32 → Int32 → Int32 → Int32 → pj_F (Unit × pj_Z)) (hf : ∀ (a1 : Int32) (a2 : Int32) (a3 : Int32) (a4 : Int32) (b0 : Int32) (s : Nat → Int32) (l : Nat → Int64) (x : Nat → Int32) (y : Nat → Int64), f a1 a2 a3 a4 b0 s l x y = some a → pm_Gd 1 12093 ie_X12_limits.1 pm_rU lf 47 [(0, .ref 124), (1, .int a1), (2, .int a2), (3, .int a3), (4, .int a4)] [.int b0] (s, l, x, y) a) : pm_Ex 1 12093 ie_X12_limits.1 pm_rU lf a 47 (pe_X12_limits_47 f) := by
  intro lv st z hd h
  obtain ⟨g0, h⟩ := pj_xr_inv h
  obtain ⟨a1, g1, h⟩ := pj_xi_inv h
  obtain ⟨a2, g2, h⟩ := pj_xi_inv h
  obtain ⟨a3, g3, h⟩ := pj_xi_inv h
  obtain ⟨a4, g4, h⟩ := pj_xi_inv h
  obtain ⟨b0, r0, e0, h⟩ := pj_pi_inv h
  obtain ⟨e9, h⟩ := pj_pe_inv h
  rw [e0, e9]
  exact mj_wp_sub (mj_sub_cons g0 (mj_sub_cons g1 (mj_sub_cons g2 (mj_sub_cons g3 (mj_sub_cons g4 (mj_sub_nil hd)))))) (hf _ _ _ _ _ _ _ _ _ h)
theorem pu_X12_limits_87 {lf : pj_Z → mj_M} {a : Unit × pj_Z} (f : Int32 → Int32 → Int32 → Int32 → Int32 → pj_F (Unit × pj_Z)) (hf : ∀ (a1 : Int32) (a2 : Int32) (a3 : Int32) (a4 : Int32) (b1 : Int32) (s : Nat → Int32) (l : Nat → Int64) (x : Nat → Int32) (y : Nat → Int64), f a1 a2 a3 a4 b1 s l x y = some a → pm_Gd 1 12093 ie_X12_limits.1 pm_rU lf 87 [(0, .ref 124), (1, .int a1), (2, .int a2), (3, .int a3), (4, .int a4)] [.int b1, .ref 124] (s, l, x, y) a) : pm_Ex 1 12093 ie_X12_limits.1 pm_rU lf a 87 (pe_X12_limits_87 f) := by
  intro lv st z hd h
  obtain ⟨g0, h⟩ := pj_xr_inv h
  obtain ⟨a1, g1, h⟩ := pj_xi_inv h
  obtain ⟨a2, g2, h⟩ := pj_xi_inv h
  obtain ⟨a3, g3, h⟩ := pj_xi_inv h
  obtain ⟨a4, g4, h⟩ := pj_xi_inv h
  obtain ⟨b1, r1, e1, h⟩ := pj_pi_inv h
  obtain ⟨r0, e0, h⟩ := pj_pr_inv h
  obtain ⟨e9, h⟩ := pj_pe_inv h
  rw [e1, e0, e9]
  exact mj_wp_sub (mj_sub_cons g0 (mj_sub_cons g1 (mj_sub_cons g2 (mj_sub_cons g3 (mj_sub_cons g4 (mj_sub_nil hd)))))) (hf _ _ _ _ _ _ _ _ _ h)
set_option maxRecDepth 100000 in
theorem pz_X12_limits {lf : pj_Z → mj_M} (hT : pj_Lt pj_TR lf) : pj_Cok ic_P (mj_R ic_P 1) 12093 ie_X12_limits.1 (pm_OK lf pm_rU) lf px_X12_limits := by
  exact pm_cok (c := px_X12_limits) (pm_part hT (pj_as_all (p := fun b e => pj_TR b = some e) (List.forall_mem_cons.mpr ⟨rfl, (List.forall_mem_cons.mpr ⟨rfl, (List.forall_mem_cons.mpr ⟨rfl, (List.forall_mem_cons.mpr ⟨rfl, (fun _ h => by cases h)⟩)⟩)⟩)⟩))) (pm_in_ok (L := [(47, 12, 13, 2, true), (50, 12, 14, 2, true), (53, 12, 15, 2, true), (259, 12, 0, 0, false), (519, 12, 23, 0, false)]) (f := mj_pF ic_P 12093) (by decide +kernel)) (fun _ _ h => by cases h) (pm_inL_ok (L := [(929, 9), (931, 1023)]) (f := mj_pL ic_P 12093) (by decide +kernel)) (fun _ _ h => by cases h) rfl rfl ⟨by decide, rfl⟩ pm_mU (pj_as_all (p := pm_Cl 1 12093 ie_X12_limits.1 lf (pm_OK lf pm_rU)) (List.forall_mem_cons.mpr ⟨fun _ _ lv st z K a hK h => pc_X12_isIn hT (by decide) (ix := 568) rfl rfl hK h, (List.forall_mem_cons.mpr ⟨fun _ _ lv st z K a hK h => pc_X12_isIn hT (by decide) (ix := 568) rfl rfl hK h, (List.forall_mem_cons.mpr ⟨fun _ _ lv st z K a hK h => pc_X12_isIn hT (by decide) (ix := 568) rfl rfl hK h, (List.forall_mem_cons.mpr ⟨fun _ _ lv st z K a hK h => pc_X12_isIn hT (by decide) (ix := 568) rfl rfl hK h, (fun _ h => by cases h)⟩)⟩)⟩)⟩)) (fun _ h => by cases h)
set_option maxRecDepth 100000 in
theorem pb_X12_limits : pm_bks ie_X12_limits.1.2.2.2.2 pk_X12_limits = true := by decide +kernel
set_option maxRecDepth 100000 in
theorem pg_X12_limits_87 {lf : pj_Z → mj_M} (hT : pj_Lt pj_TR lf) : ∀ (a1 : Int32) (a2 : Int32) (a3 : Int32) (a4 : Int32) (b1 : Int32) (s : Nat → Int32) (l : Nat → Int64) (x : Nat → Int32) (y : Nat → Int64) (a : Unit × pj_Z), pl_X12_limits_87 a1 a2 a3 a4 b1 s l x y = some a → pm_Gd 1 12093 ie_X12_limits.1 pm_rU lf 87 [(0, .ref 124), (1, .int a1), (2, .int a2), (3, .int a3), (4, .int a4)] [.int b1, .ref 124] (s, l, x, y) a := by
  intro a1 a2 a3 a4 b1 s l x y a h
  exact pm_run ((pq_X12_limits_87  a1 a2 a3 a4 b1 s l x y).symm.trans h) (pz_X12_limits hT) (pm_bks_ok pb_X12_limits) (pm_bks_ok pb_X12_limits _ _ rfl) (pm_ndb_ok rfl) (fun _ _ h => by cases h)
set_option maxRecDepth 100000 in
theorem pg_X12_limits_47 {lf : pj_Z → mj_M} (hT : pj_Lt pj_TR lf) : ∀ (a1 : Int32) (a2 : Int32) (a3 : Int32) (a4 : Int32) (b0 : Int32) (s : Nat → Int32) (l : Nat → Int64) (x : Nat → Int32) (y : Nat → Int64) (a : Unit × pj_Z), pl_X12_limits_47 a1 a2 a3 a4 b0 s l x y = some a → pm_Gd 1 12093 ie_X12_limits.1 pm_rU lf 47 [(0, .ref 124), (1, .int a1), (2, .int a2), (3, .int a3), (4, .int a4)] [.int b0] (s, l, x, y) a := by
  intro a1 a2 a3 a4 b0 s l x y a h
  exact pm_run ((pq_X12_limits_47  a1 a2 a3 a4 b0 s l x y).symm.trans h) (pz_X12_limits hT) (pm_bks_ok pb_X12_limits) (pm_bks_ok pb_X12_limits _ _ rfl) (pm_ndb_ok rfl) (pj_as_all (p := pm_Ex 1 12093 ie_X12_limits.1 pm_rU lf a) (List.forall_mem_cons.mpr ⟨pu_X12_limits_87 _ (fun c0 c1 c2 c3 c4 s l x y h => pg_X12_limits_87 hT c0 c1 c2 c3 c4 s l x y _ h), (fun _ h => by cases h)⟩))
set_option maxRecDepth 100000 in
theorem pg_X12_limits_46 {lf : pj_Z → mj_M} (hT : pj_Lt pj_TR lf) : ∀ (a1 : Int32) (a2 : Int32) (a3 : Int32) (a4 : Int32) (s : Nat → Int32) (l : Nat → Int64) (x : Nat → Int32) (y : Nat → Int64) (a : Unit × pj_Z), pl_X12_limits_46 a1 a2 a3 a4 s l x y = some a → pm_Gd 1 12093 ie_X12_limits.1 pm_rU lf 46 [(0, .ref 124), (1, .int a1), (2, .int a2), (3, .int a3), (4, .int a4)] [] (s, l, x, y) a := by
  intro a1 a2 a3 a4 s l x y a h
  exact pm_run ((pq_X12_limits_46  a1 a2 a3 a4 s l x y).symm.trans h) (pz_X12_limits hT) (pm_bks_ok pb_X12_limits) (pm_bks_ok pb_X12_limits _ _ rfl) (pm_ndb_ok rfl) (pj_as_all (p := pm_Ex 1 12093 ie_X12_limits.1 pm_rU lf a) (List.forall_mem_cons.mpr ⟨pu_X12_limits_47 _ (fun c0 c1 c2 c3 c4 s l x y h => pg_X12_limits_47 hT c0 c1 c2 c3 c4 s l x y _ h), (fun _ h => by cases h)⟩))
set_option maxRecDepth 100000 in
theorem pm_X12_limits {lf : pj_Z → mj_M} (hT : pj_Lt pj_TR lf) (a1 : Int32) (a2 : Int32) (a3 : Int32) (a4 : Int32) (s : Nat → Int32) (l : Nat → Int64) (x : Nat → Int32) (y : Nat → Int64) (a : Unit × pj_Z) (h : pf_X12_limits a1 a2 a3 a4 s l x y = some a) : mj_R ic_P 2 12093 [.ref 124, .int a1, .int a2, .int a3, .int a4] (lf (s, l, x, y)) (pm_rU a.1) (lf a.2) := by
  refine pm_main (Y := ie_X12_limits.1) rfl (Nat.le_of_ble_eq_true rfl) ?_
  exact pm_run ((pq_X12_limits_m a1 a2 a3 a4 s l x y).symm.trans h) (pz_X12_limits hT) (pm_bks_ok pb_X12_limits) (pm_bks_ok pb_X12_limits _ _ rfl) (pm_ndb_ok rfl) (pj_as_all (p := pm_Ex 1 12093 ie_X12_limits.1 pm_rU lf a) (List.forall_mem_cons.mpr ⟨pu_X12_limits_46 _ (fun c0 c1 c2 c3 s l x y h => pg_X12_limits_46 hT c0 c1 c2 c3 s l x y _ h), (List.forall_mem_cons.mpr ⟨pu_X12_limits_47 _ (fun c0 c1 c2 c3 c4 s l x y h => pg_X12_limits_47 hT c0 c1 c2 c3 c4 s l x y _ h), (fun _ h => by cases h)⟩)⟩))
abbrev ph_X12_limits {A : Type} : List pj_V → pj_Z → (List pj_V → pj_Z → Option A) → Option A := fun st z K => pj_pi st fun a4 st => pj_pi st fun a3 st => pj_pi st fun a2 st => pj_pi st fun a1 st => pj_pr st 124 0 fun st => pj_ps st (pj_b (pf_X12_limits a1 a2 a3 a4 z.1 z.2.1 z.2.2.1 z.2.2.2) fun r s l x y => K st (s, l, x, y))
set_option maxRecDepth 100000 in
theorem pc_X12_limits {A : Type} {OK : A → Option Value → mj_M → Prop} {d j pc ix : Nat} {Y : mj_Y} {lf : pj_Z → mj_M} (hT : pj_Lt pj_TR lf) (hd : 2 ≤ d) (hl : mj_lk Y.2.2.2.2 pc = some (.invokevirtual ix, 3)) (hg : mj_pG ic_P j ix = some (12093, 4, some 12)) {lv : List (Nat × Value)} {st : List pj_V} {z : pj_Z} {K : List pj_V → pj_Z → Option A} {a : A} (hK : ∀ st z, K st z = some a → pj_Gd ic_P (mj_R ic_P d) j Y OK lf (pc + 3) lv (pj_es st) z a) (h : ph_X12_limits st z K = some a) : pj_Gd ic_P (mj_R ic_P d) j Y OK lf pc lv (pj_es st) z a := by
  obtain ⟨a4, r4, e4, h⟩ := pj_pi_inv h
  obtain ⟨a3, r3, e3, h⟩ := pj_pi_inv h
  obtain ⟨a2, r2, e2, h⟩ := pj_pi_inv h
  obtain ⟨a1, r1, e1, h⟩ := pj_pi_inv h
  obtain ⟨r0, e0, h⟩ := pj_pr_inv h
  obtain ⟨hs, h⟩ := pj_ps_inv h
  obtain ⟨q, hq, h⟩ := pj_b_inv h
  exact pm_cv (o := 124) hl hg [.int a1, .int a2, .int a3, .int a4] rfl (by rw [e4, e3, e2, e1, e0]; rfl) hs (by decide) ((hT.2 124 _ rfl).1.2 z 0 (by decide)) (pm_rU q.1) hd (pm_X12_limits hT a1 a2 a3 a4 z.1 z.2.1 z.2.2.1 z.2.2.2 q hq) rfl (hK _ _ h)
abbrev pe_X12_isPoint_31 (f : Int64 → Int64 → pj_F (Int32 × pj_Z)) : pj_K (Int32 × pj_Z) := fun lv st z => pj_pl st fun b1 st => pj_pl st fun b0 st => pj_pe st (f b0 b1 z.1 z.2.1 z.2.2.1 z.2.2.2)
abbrev px_X12_isPoint : pj_C (Int32 × pj_Z) := ((fun _ => none), (fun _ => none), (fun _ => none), (pj_as [(574, 100), (933, (-10000)), (935, 30000)]), (fun _ => none), ic_X, 3, 2, pj_mI, (pj_as [(8, ph_X12_isIn), (34, ph_X12_isIn)]), fun _ => false)
abbrev pk_X12_isPoint : List (Nat × List (Nat × Instr × Nat)) := [(0, [(0, .iload_n 1, 1), (1, .i2l, 1), (2, .ldc2_w 933, 3), (5, .ldc2_w 935, 3), (8, .invokestatic 568, 3), (11, .ifCond .eq 33, 3)]), (14, [(14, .iload_n 2, 1), (15, .i2l, 1), (16, .iload_n 0, 1), (17, .bipush 12, 2), (19, .if_icmp .ne 9, 3)]), (22, [(22, .ldc2_w 574, 3), (25, .goto 6, 3)]), (28, [(28, .ldc2_w 933, 3)]), (31, [(31, .ldc2_w 935, 3), (34, .invokestatic 568, 3), (37, .ifCond .eq 7, 3)]), (40, [(40, .iconst 1, 1), (41, .goto 4, 3)]), (44, [(44, .iconst 0, 1)]), (45, [(45, .ireturn, 1)])]
set_option maxRecDepth 100000 in
theorem pq_X12_isPoint_31  (b0 : Int64) (b1 : Int64) (s : Nat → Int32) (l : Nat → Int64) (x : Nat → Int32) (y : Nat → Int64) : pl_X12_isPoint_31 b0 b1 s l x y = pj_bl px_X12_isPoint (pj_rn px_X12_isPoint (pj_as pk_X12_isPoint) (fun _ => none) 60) [(31, .ldc2_w 935, 3), (34, .invokestatic 568, 3), (37, .ifCond .eq 7, 3)] 31 [] [pj_L b1, pj_L b0] (s, l, x, y) := rfl
set_option maxRecDepth 100000 in
theorem pq_X12_isPoint_m  (a0 : Int32) (a1 : Int32) (a2 : Int32) (s : Nat → Int32) (l : Nat → Int64) (x : Nat → Int32) (y : Nat → Int64) : pf_X12_isPoint a0 a1 a2 s l x y = pj_bl px_X12_isPoint (pj_rn px_X12_isPoint (pj_as pk_X12_isPoint) (pj_as [(31, pe_X12_isPoint_31 (pl_X12_isPoint_31))]) 60) [(0, .iload_n 1, 1), (1, .i2l, 1), (2, .ldc2_w 933, 3), (5, .ldc2_w 935, 3), (8, .invokestatic 568, 3), (11, .ifCond .eq 33, 3)] 0 [(0, pj_I a0), (1, pj_I a1), (2, pj_I a2)] [] (s, l, x, y) := rfl
theorem pu_X12_isPoint_31 {lf : pj_Z → mj_M} {a : Int32 × pj_Z} (f : Int64 → Int64 → pj_F (Int32 × pj_Z)) (hf : ∀ (b0 : Int64) (b1 : Int64) (s : Nat → Int32) (l : Nat → Int64) (x : Nat → Int32) (y : Nat → Int64), f b0 b1 s l x y = some a → pm_Gd 1 12094 ie_X12_isPoint.1 pm_rI lf 31 [] [.long b1, .long b0] (s, l, x, y) a) : pm_Ex 1 12094 ie_X12_isPoint.1 pm_rI lf a 31 (pe_X12_isPoint_31 f) := by
  intro lv st z hd h
  obtain ⟨b1, r1, e1, h⟩ := pj_pl_inv h
  obtain ⟨b0, r0, e0, h⟩ := pj_pl_inv h
  obtain ⟨e9, h⟩ := pj_pe_inv h
  rw [e1, e0, e9]
  exact mj_wp_sub (mj_sub_nil hd) (hf _ _ _ _ _ _ h)
set_option maxRecDepth 100000 in
theorem pz_X12_isPoint {lf : pj_Z → mj_M} (hT : pj_Lt pj_TR lf) : pj_Cok ic_P (mj_R ic_P 1) 12094 ie_X12_isPoint.1 (pm_OK lf pm_rI) lf px_X12_isPoint := by
  exact pm_cok (c := px_X12_isPoint) (pm_none hT) (fun _ _ h => by cases h) (fun _ _ h => by cases h) (pm_inL_ok (L := [(574, 100), (933, (-10000)), (935, 30000)]) (f := mj_pL ic_P 12094) (by decide +kernel)) (fun _ _ h => by cases h) rfl rfl ⟨by decide, rfl⟩ pm_mI (pj_as_all (p := pm_Cl 1 12094 ie_X12_isPoint.1 lf (pm_OK lf pm_rI)) (List.forall_mem_cons.mpr ⟨fun _ _ lv st z K a hK h => pc_X12_isIn hT (by decide) (ix := 568) rfl rfl hK h, (List.forall_mem_cons.mpr ⟨fun _ _ lv st z K a hK h => pc_X12_isIn hT (by decide) (ix := 568) rfl rfl hK h, (fun _ h => by cases h)⟩)⟩)) (fun _ h => by cases h)
set_option maxRecDepth 100000 in
theorem pb_X12_isPoint : pm_bks ie_X12_isPoint.1.2.2.2.2 pk_X12_isPoint = true := by decide +kernel
set_option maxRecDepth 100000 in
theorem pg_X12_isPoint_31 {lf : pj_Z → mj_M} (hT : pj_Lt pj_TR lf) : ∀ (b0 : Int64) (b1 : Int64) (s : Nat → Int32) (l : Nat → Int64) (x : Nat → Int32) (y : Nat → Int64) (a : Int32 × pj_Z), pl_X12_isPoint_31 b0 b1 s l x y = some a → pm_Gd 1 12094 ie_X12_isPoint.1 pm_rI lf 31 [] [.long b1, .long b0] (s, l, x, y) a := by
  intro b0 b1 s l x y a h
  exact pm_run ((pq_X12_isPoint_31  b0 b1 s l x y).symm.trans h) (pz_X12_isPoint hT) (pm_bks_ok pb_X12_isPoint) (pm_bks_ok pb_X12_isPoint _ _ rfl) (pm_ndb_ok rfl) (fun _ _ h => by cases h)
set_option maxRecDepth 100000 in
theorem pm_X12_isPoint {lf : pj_Z → mj_M} (hT : pj_Lt pj_TR lf) (a0 : Int32) (a1 : Int32) (a2 : Int32) (s : Nat → Int32) (l : Nat → Int64) (x : Nat → Int32) (y : Nat → Int64) (a : Int32 × pj_Z) (h : pf_X12_isPoint a0 a1 a2 s l x y = some a) : mj_R ic_P 2 12094 [.int a0, .int a1, .int a2] (lf (s, l, x, y)) (pm_rI a.1) (lf a.2) := by
  refine pm_main (Y := ie_X12_isPoint.1) rfl (Nat.le_of_ble_eq_true rfl) ?_
  exact pm_run ((pq_X12_isPoint_m a0 a1 a2 s l x y).symm.trans h) (pz_X12_isPoint hT) (pm_bks_ok pb_X12_isPoint) (pm_bks_ok pb_X12_isPoint _ _ rfl) (pm_ndb_ok rfl) (pj_as_all (p := pm_Ex 1 12094 ie_X12_isPoint.1 pm_rI lf a) (List.forall_mem_cons.mpr ⟨pu_X12_isPoint_31 _ (fun c0 c1 s l x y h => pg_X12_isPoint_31 hT c0 c1 s l x y _ h), (fun _ h => by cases h)⟩))
abbrev ph_X12_isPoint {A : Type} : List pj_V → pj_Z → (List pj_V → pj_Z → Option A) → Option A := fun st z K => pj_pi st fun a2 st => pj_pi st fun a1 st => pj_pi st fun a0 st => pj_ps st (pj_b (pf_X12_isPoint a0 a1 a2 z.1 z.2.1 z.2.2.1 z.2.2.2) fun r s l x y => K (pj_I r :: st) (s, l, x, y))
set_option maxRecDepth 100000 in
theorem pc_X12_isPoint {A : Type} {OK : A → Option Value → mj_M → Prop} {d j pc ix : Nat} {Y : mj_Y} {lf : pj_Z → mj_M} (hT : pj_Lt pj_TR lf) (hd : 2 ≤ d) (hl : mj_lk Y.2.2.2.2 pc = some (.invokestatic ix, 3)) (hg : mj_pG ic_P j ix = some (12094, 3, none)) {lv : List (Nat × Value)} {st : List pj_V} {z : pj_Z} {K : List pj_V → pj_Z → Option A} {a : A} (hK : ∀ st z, K st z = some a → pj_Gd ic_P (mj_R ic_P d) j Y OK lf (pc + 3) lv (pj_es st) z a) (h : ph_X12_isPoint st z K = some a) : pj_Gd ic_P (mj_R ic_P d) j Y OK lf pc lv (pj_es st) z a := by
  obtain ⟨a2, r2, e2, h⟩ := pj_pi_inv h
  obtain ⟨a1, r1, e1, h⟩ := pj_pi_inv h
  obtain ⟨a0, r0, e0, h⟩ := pj_pi_inv h
  obtain ⟨hs, h⟩ := pj_ps_inv h
  obtain ⟨q, hq, h⟩ := pj_b_inv h
  exact pm_cs hl hg [.int a0, .int a1, .int a2] rfl (by rw [e2, e1, e0]; rfl) hs (pm_rI q.1) hd (pm_X12_isPoint hT a0 a1 a2 z.1 z.2.1 z.2.2.1 z.2.2.2 q hq) rfl (hK _ _ h)
abbrev pe_X12_line_30 (f : Int32 → Int32 → Int32 → Int32 → Int32 → pj_F (Unit × pj_Z)) : pj_K (Unit × pj_Z) := fun lv st z => pj_xr lv 0 124 0 <| pj_xi lv 1 fun a1 => pj_xi lv 2 fun a2 => pj_xi lv 3 fun a3 => pj_xi lv 4 fun a4 => pj_xi lv 5 fun a5 => pj_pe st (f a1 a2 a3 a4 a5 z.1 z.2.1 z.2.2.1 z.2.2.2)
abbrev pe_X12_line_31 (f : Int32 → Int32 → Int32 → Int32 → Int32 → Int32 → pj_F (Unit × pj_Z)) : pj_K (Unit × pj_Z) := fun lv st z => pj_xr lv 0 124 0 <| pj_xi lv 1 fun a1 => pj_xi lv 2 fun a2 => pj_xi lv 3 fun a3 => pj_xi lv 4 fun a4 => pj_xi lv 5 fun a5 => pj_pi st fun b0 st => pj_pe st (f a1 a2 a3 a4 a5 b0 z.1 z.2.1 z.2.2.1 z.2.2.2)
abbrev pe_X12_line_71 (f : Int32 → Int32 → Int32 → Int32 → Int32 → Int32 → pj_F (Unit × pj_Z)) : pj_K (Unit × pj_Z) := fun lv st z => pj_xr lv 0 124 0 <| pj_xi lv 1 fun a1 => pj_xi lv 2 fun a2 => pj_xi lv 3 fun a3 => pj_xi lv 4 fun a4 => pj_xi lv 5 fun a5 => pj_pi st fun b1 st => pj_pr st 124 0 fun st => pj_pe st (f a1 a2 a3 a4 a5 b1 z.1 z.2.1 z.2.2.1 z.2.2.2)
abbrev px_X12_line : pj_C (Unit × pj_Z) := ((pj_as [(124, 12, 195, 1, 0, true, 0, [(1, 1), (2, 125), (2, 126), (2, 127), (2, 128), (2, 129), (2, 130), (2, 131), (2, 132), (2, 133), (1, 2), (0, 44), (2, 134), (2, 135), (2, 136), (2, 137), (2, 138), (0, 69), (2, 139), (2, 140), (2, 141), (1, 3), (0, 93), (0, 94), (0, 45), (0, 46), (0, 48), (0, 49), (0, 47), (0, 50), (0, 51), (2, 142), (2, 143), (2, 144), (0, 19), (1, 4), (1, 5), (1, 6), (0, 20), (0, 21), (0, 22), (0, 23), (0, 24), (0, 25), (0, 27), (0, 28), (1, 7), (1, 8), (1, 9), (1, 10), (1, 11), (0, 26), (2, 145), (2, 146), (2, 147), (2, 148), (2, 149), (2, 150), (2, 151), (2, 152), (2, 153), (2, 154), (2, 155), (2, 156), (2, 157), (2, 158), (2, 159), (0, 57), (0, 58), (0, 59), (0, 60), (2, 160), (2, 161), (2, 162), (2, 163), (1, 12), (1, 13), (0, 95), (0, 73), (0, 74), (0, 71), (0, 72), (0, 75), (0, 76), (0, 77), (0, 80), (0, 78), (0, 79), (1, 14), (0, 29), (0, 30), (0, 31), (0, 34), (0, 35), (0, 32), (0, 33), (0, 36), (0, 37), (0, 38), (0, 39), (0, 40), (1, 15), (1, 16), (0, 43), (0, 41), (0, 42), (2, 164), (0, 96), (0, 89), (0, 90), (0, 91), (0, 92), (2, 165), (2, 166), (2, 167), (2, 168), (2, 169), (2, 170), (2, 171), (2, 172), (0, 87), (2, 173), (0, 88), (2, 174), (0, 62), (1, 17), (0, 66), (0, 63), (0, 64), (0, 65), (0, 67), (1, 18), (0, 68), (2, 175), (1, 19), (0, 52), (0, 53), (0, 54), (0, 55), (2, 176), (0, 56), (0, 85), (0, 86), (0, 81), (0, 82), (0, 83), (0, 84), (2, 177), (2, 178), (2, 179), (1, 20), (2, 180), (0, 6), (0, 7), (0, 8), (0, 16), (0, 17), (0, 61), (0, 9), (0, 10), (1, 21), (1, 22), (0, 11), (0, 12), (0, 13), (0, 18), (0, 14), (0, 15), (2, 181), (0, 70), (1, 23), (2, 182), (2, 183), (0, 1), (1, 24), (2, 184), (2, 185), (1, 25), (0, 2), (2, 186), (2, 187), (1, 26), (2, 188), (2, 189), (1, 27), (1, 28), (2, 190), (2, 191), (1, 29), (0, 3), (2, 192), (0, 4), (0, 5), (1, 30), (2, 193)]), (128, 100, 13, 1, 0, true, 28000, []), (129, 100, 104, 1, 0, true, 26000, []), (130, 100, 104, 1, 0, true, 27000, [])]), (pj_as [(22, 12, 4, 2, true), (25, 12, 5, 2, true), (28, 12, 6, 2, true), (259, 12, 0, 0, false), (519, 12, 23, 0, false)]), (fun _ => none), (pj_as [(940, 12)]), (fun _ => none), ic_X, 7, 0, pj_mU, (pj_as [(3, ph_X12_isPoint), (14, ph_X12_isPoint), (40, ph_X12_isIn)]), fun _ => false)
abbrev pk_X12_line : List (Nat × List (Nat × Instr × Nat)) := [(0, [(0, .iload_n 1, 1), (1, .iload_n 2, 1), (2, .iload_n 3, 1), (3, .invokestatic 937, 3), (6, .ifCond .eq 24, 3)]), (9, [(9, .iload_n 1, 1), (10, .iload 4, 2), (12, .iload 5, 2), (14, .invokestatic 937, 3), (17, .ifCond .eq 13, 3)]), (20, [(20, .iload_n 2, 1), (21, .iload 4, 2), (23, .if_icmp .ge 7, 3)]), (26, [(26, .iconst 1, 1), (27, .goto 4, 3)]), (30, [(30, .iconst 0, 1)]), (31, [(31, .istore 6, 2), (33, .aload_n 0, 1), (34, .iload_n 1, 1), (35, .i2l, 1), (36, .lconst 0, 1), (37, .ldc2_w 940, 3), (40, .invokestatic 568, 3), (43, .ifCond .ne 7, 3)]), (46, [(46, .iconst 1, 1), (47, .goto 24, 3)]), (50, [(50, .iload 6, 2), (52, .ifCond .ne 7, 3)]), (55, [(55, .iconst 2, 1), (56, .goto 15, 3)]), (59, [(59, .aload_n 0, 1), (60, .getfield 519, 3), (63, .ifCond .eq 7, 3)]), (66, [(66, .iconst 3, 1), (67, .goto 4, 3)]), (70, [(70, .iconst 0, 1)]), (71, [(71, .putfield 259, 3), (74, .aload_n 0, 1), (75, .getfield 259, 3), (78, .ifCond .ne 56, 3)]), (81, [(81, .aload_n 0, 1), (82, .getfield 22, 3), (85, .iload_n 1, 1), (86, .iconst 2, 1), (87, .iastore, 1), (88, .aload_n 0, 1), (89, .getfield 25, 3), (92, .bipush 8, 2), (94, .iload_n 1, 1), (95, .imul, 1), (96, .iload_n 2, 1), (97, .iastore, 1), (98, .aload_n 0, 1), (99, .getfield 28, 3), (102, .bipush 8, 2), (104, .iload_n 1, 1), (105, .imul, 1), (106, .iload_n 3, 1), (107, .iastore, 1), (108, .aload_n 0, 1), (109, .getfield 25, 3), (112, .bipush 8, 2), (114, .iload_n 1, 1), (115, .imul, 1), (116, .iconst 1, 1), (117, .iadd, 1), (118, .iload 4, 2), (120, .iastore, 1), (121, .aload_n 0, 1), (122, .getfield 28, 3), (125, .bipush 8, 2), (127, .iload_n 1, 1), (128, .imul, 1), (129, .iconst 1, 1), (130, .iadd, 1), (131, .iload 5, 2), (133, .iastore, 1)]), (134, [(134, .return_, 1)])]
set_option maxRecDepth 100000 in
theorem pq_X12_line_71  (a1 : Int32) (a2 : Int32) (a3 : Int32) (a4 : Int32) (a5 : Int32) (b1 : Int32) (s : Nat → Int32) (l : Nat → Int64) (x : Nat → Int32) (y : Nat → Int64) : pl_X12_line_71 a1 a2 a3 a4 a5 b1 s l x y = pj_bl px_X12_line (pj_rn px_X12_line (pj_as pk_X12_line) (fun _ => none) 60) [(71, .putfield 259, 3), (74, .aload_n 0, 1), (75, .getfield 259, 3), (78, .ifCond .ne 56, 3)] 71 [(0, pj_O (124, 0)), (1, pj_I a1), (2, pj_I a2), (3, pj_I a3), (4, pj_I a4), (5, pj_I a5)] [pj_I b1, pj_O (124, 0)] (s, l, x, y) := rfl
set_option maxRecDepth 100000 in
theorem pq_X12_line_31  (a1 : Int32) (a2 : Int32) (a3 : Int32) (a4 : Int32) (a5 : Int32) (b0 : Int32) (s : Nat → Int32) (l : Nat → Int64) (x : Nat → Int32) (y : Nat → Int64) : pl_X12_line_31 a1 a2 a3 a4 a5 b0 s l x y = pj_bl px_X12_line (pj_rn px_X12_line (pj_as pk_X12_line) (pj_as [(71, pe_X12_line_71 (pl_X12_line_71))]) 60) [(31, .istore 6, 2), (33, .aload_n 0, 1), (34, .iload_n 1, 1), (35, .i2l, 1), (36, .lconst 0, 1), (37, .ldc2_w 940, 3), (40, .invokestatic 568, 3), (43, .ifCond .ne 7, 3)] 31 [(0, pj_O (124, 0)), (1, pj_I a1), (2, pj_I a2), (3, pj_I a3), (4, pj_I a4), (5, pj_I a5)] [pj_I b0] (s, l, x, y) := rfl
set_option maxRecDepth 100000 in
theorem pq_X12_line_30  (a1 : Int32) (a2 : Int32) (a3 : Int32) (a4 : Int32) (a5 : Int32) (s : Nat → Int32) (l : Nat → Int64) (x : Nat → Int32) (y : Nat → Int64) : pl_X12_line_30 a1 a2 a3 a4 a5 s l x y = pj_bl px_X12_line (pj_rn px_X12_line (pj_as pk_X12_line) (pj_as [(31, pe_X12_line_31 (pl_X12_line_31))]) 60) [(30, .iconst 0, 1)] 30 [(0, pj_O (124, 0)), (1, pj_I a1), (2, pj_I a2), (3, pj_I a3), (4, pj_I a4), (5, pj_I a5)] [] (s, l, x, y) := rfl
set_option maxRecDepth 100000 in
theorem pq_X12_line_m  (a1 : Int32) (a2 : Int32) (a3 : Int32) (a4 : Int32) (a5 : Int32) (s : Nat → Int32) (l : Nat → Int64) (x : Nat → Int32) (y : Nat → Int64) : pf_X12_line a1 a2 a3 a4 a5 s l x y = pj_bl px_X12_line (pj_rn px_X12_line (pj_as pk_X12_line) (pj_as [(30, pe_X12_line_30 (pl_X12_line_30)), (31, pe_X12_line_31 (pl_X12_line_31))]) 60) [(0, .iload_n 1, 1), (1, .iload_n 2, 1), (2, .iload_n 3, 1), (3, .invokestatic 937, 3), (6, .ifCond .eq 24, 3)] 0 [(0, pj_O (124, 0)), (1, pj_I a1), (2, pj_I a2), (3, pj_I a3), (4, pj_I a4), (5, pj_I a5)] [] (s, l, x, y) := rfl
theorem pu_X12_line_30 {lf : pj_Z → mj_M} {a : Unit × pj_Z} (f : Int32 → Int32 → Int32 → Int32 → Int32 → pj_F (Unit × pj_Z)) (hf : ∀ (a1 : Int32) (a2 : Int32) (a3 : Int32) (a4 : Int32) (a5 : Int32) (s : Nat → Int32) (l : Nat → Int64) (x : Nat → Int32) (y : Nat → Int64), f a1 a2 a3 a4 a5 s l x y = some a → pm_Gd 2 12095 ie_X12_line.1 pm_rU lf 30 [(0, .ref 124), (1, .int a1), (2, .int a2), (3, .int a3), (4, .int a4), (5, .int a5)] [] (s, l, x, y) a) : pm_Ex 2 12095 ie_X12_line.1 pm_rU lf a 30 (pe_X12_line_30 f) := by
  intro lv st z hd h
  obtain ⟨g0, h⟩ := pj_xr_inv h
  obtain ⟨a1, g1, h⟩ := pj_xi_inv h
  obtain ⟨a2, g2, h⟩ := pj_xi_inv h
  obtain ⟨a3, g3, h⟩ := pj_xi_inv h
  obtain ⟨a4, g4, h⟩ := pj_xi_inv h
  obtain ⟨a5, g5, h⟩ := pj_xi_inv h
  obtain ⟨e9, h⟩ := pj_pe_inv h
  rw [e9]
  exact mj_wp_sub (mj_sub_cons g0 (mj_sub_cons g1 (mj_sub_cons g2 (mj_sub_cons g3 (mj_sub_cons g4 (mj_sub_cons g5 (mj_sub_nil hd))))))) (hf _ _ _ _ _ _ _ _ _ h)
theorem pu_X12_line_31 {lf : pj_Z → mj_M} {a : Unit × pj_Z} (f : Int32 → Int32 → Int32 → Int32 → Int32 → Int32 → pj_F (Unit × pj_Z)) (hf : ∀ (a1 : Int32) (a2 : Int32) (a3 : Int32) (a4 : Int32) (a5 : Int32) (b0 : Int32) (s : Nat → Int32) (l : Nat → Int64) (x : Nat → Int32) (y : Nat → Int64), f a1 a2 a3 a4 a5 b0 s l x y = some a → pm_Gd 2 12095 ie_X12_line.1 pm_rU lf 31 [(0, .ref 124), (1, .int a1), (2, .int a2), (3, .int a3), (4, .int a4), (5, .int a5)] [.int b0] (s, l, x, y) a) : pm_Ex 2 12095 ie_X12_line.1 pm_rU lf a 31 (pe_X12_line_31 f) := by
  intro lv st z hd h
  obtain ⟨g0, h⟩ := pj_xr_inv h
  obtain ⟨a1, g1, h⟩ := pj_xi_inv h
  obtain ⟨a2, g2, h⟩ := pj_xi_inv h
  obtain ⟨a3, g3, h⟩ := pj_xi_inv h
  obtain ⟨a4, g4, h⟩ := pj_xi_inv h
  obtain ⟨a5, g5, h⟩ := pj_xi_inv h
  obtain ⟨b0, r0, e0, h⟩ := pj_pi_inv h
  obtain ⟨e9, h⟩ := pj_pe_inv h
  rw [e0, e9]
  exact mj_wp_sub (mj_sub_cons g0 (mj_sub_cons g1 (mj_sub_cons g2 (mj_sub_cons g3 (mj_sub_cons g4 (mj_sub_cons g5 (mj_sub_nil hd))))))) (hf _ _ _ _ _ _ _ _ _ _ h)
theorem pu_X12_line_71 {lf : pj_Z → mj_M} {a : Unit × pj_Z} (f : Int32 → Int32 → Int32 → Int32 → Int32 → Int32 → pj_F (Unit × pj_Z)) (hf : ∀ (a1 : Int32) (a2 : Int32) (a3 : Int32) (a4 : Int32) (a5 : Int32) (b1 : Int32) (s : Nat → Int32) (l : Nat → Int64) (x : Nat → Int32) (y : Nat → Int64), f a1 a2 a3 a4 a5 b1 s l x y = some a → pm_Gd 2 12095 ie_X12_line.1 pm_rU lf 71 [(0, .ref 124), (1, .int a1), (2, .int a2), (3, .int a3), (4, .int a4), (5, .int a5)] [.int b1, .ref 124] (s, l, x, y) a) : pm_Ex 2 12095 ie_X12_line.1 pm_rU lf a 71 (pe_X12_line_71 f) := by
  intro lv st z hd h
  obtain ⟨g0, h⟩ := pj_xr_inv h
  obtain ⟨a1, g1, h⟩ := pj_xi_inv h
  obtain ⟨a2, g2, h⟩ := pj_xi_inv h
  obtain ⟨a3, g3, h⟩ := pj_xi_inv h
  obtain ⟨a4, g4, h⟩ := pj_xi_inv h
  obtain ⟨a5, g5, h⟩ := pj_xi_inv h
  obtain ⟨b1, r1, e1, h⟩ := pj_pi_inv h
  obtain ⟨r0, e0, h⟩ := pj_pr_inv h
  obtain ⟨e9, h⟩ := pj_pe_inv h
  rw [e1, e0, e9]
  exact mj_wp_sub (mj_sub_cons g0 (mj_sub_cons g1 (mj_sub_cons g2 (mj_sub_cons g3 (mj_sub_cons g4 (mj_sub_cons g5 (mj_sub_nil hd))))))) (hf _ _ _ _ _ _ _ _ _ _ h)
set_option maxRecDepth 100000 in
theorem pz_X12_line {lf : pj_Z → mj_M} (hT : pj_Lt pj_TR lf) : pj_Cok ic_P (mj_R ic_P 2) 12095 ie_X12_line.1 (pm_OK lf pm_rU) lf px_X12_line := by
  exact pm_cok (c := px_X12_line) (pm_part hT (pj_as_all (p := fun b e => pj_TR b = some e) (List.forall_mem_cons.mpr ⟨rfl, (List.forall_mem_cons.mpr ⟨rfl, (List.forall_mem_cons.mpr ⟨rfl, (List.forall_mem_cons.mpr ⟨rfl, (fun _ h => by cases h)⟩)⟩)⟩)⟩))) (pm_in_ok (L := [(22, 12, 4, 2, true), (25, 12, 5, 2, true), (28, 12, 6, 2, true), (259, 12, 0, 0, false), (519, 12, 23, 0, false)]) (f := mj_pF ic_P 12095) (by decide +kernel)) (fun _ _ h => by cases h) (pm_inL_ok (L := [(940, 12)]) (f := mj_pL ic_P 12095) (by decide +kernel)) (fun _ _ h => by cases h) rfl rfl ⟨by decide, rfl⟩ pm_mU (pj_as_all (p := pm_Cl 2 12095 ie_X12_line.1 lf (pm_OK lf pm_rU)) (List.forall_mem_cons.mpr ⟨fun _ _ lv st z K a hK h => pc_X12_isPoint hT (by decide) (ix := 937) rfl rfl hK h, (List.forall_mem_cons.mpr ⟨fun _ _ lv st z K a hK h => pc_X12_isPoint hT (by decide) (ix := 937) rfl rfl hK h, (List.forall_mem_cons.mpr ⟨fun _ _ lv st z K a hK h => pc_X12_isIn hT (by decide) (ix := 568) rfl rfl hK h, (fun _ h => by cases h)⟩)⟩)⟩)) (fun _ h => by cases h)
set_option maxRecDepth 100000 in
theorem pb_X12_line : pm_bks ie_X12_line.1.2.2.2.2 pk_X12_line = true := by decide +kernel
set_option maxRecDepth 100000 in
theorem pg_X12_line_71 {lf : pj_Z → mj_M} (hT : pj_Lt pj_TR lf) : ∀ (a1 : Int32) (a2 : Int32) (a3 : Int32) (a4 : Int32) (a5 : Int32) (b1 : Int32) (s : Nat → Int32) (l : Nat → Int64) (x : Nat → Int32) (y : Nat → Int64) (a : Unit × pj_Z), pl_X12_line_71 a1 a2 a3 a4 a5 b1 s l x y = some a → pm_Gd 2 12095 ie_X12_line.1 pm_rU lf 71 [(0, .ref 124), (1, .int a1), (2, .int a2), (3, .int a3), (4, .int a4), (5, .int a5)] [.int b1, .ref 124] (s, l, x, y) a := by
  intro a1 a2 a3 a4 a5 b1 s l x y a h
  exact pm_run ((pq_X12_line_71  a1 a2 a3 a4 a5 b1 s l x y).symm.trans h) (pz_X12_line hT) (pm_bks_ok pb_X12_line) (pm_bks_ok pb_X12_line _ _ rfl) (pm_ndb_ok rfl) (fun _ _ h => by cases h)
set_option maxRecDepth 100000 in
theorem pg_X12_line_31 {lf : pj_Z → mj_M} (hT : pj_Lt pj_TR lf) : ∀ (a1 : Int32) (a2 : Int32) (a3 : Int32) (a4 : Int32) (a5 : Int32) (b0 : Int32) (s : Nat → Int32) (l : Nat → Int64) (x : Nat → Int32) (y : Nat → Int64) (a : Unit × pj_Z), pl_X12_line_31 a1 a2 a3 a4 a5 b0 s l x y = some a → pm_Gd 2 12095 ie_X12_line.1 pm_rU lf 31 [(0, .ref 124), (1, .int a1), (2, .int a2), (3, .int a3), (4, .int a4), (5, .int a5)] [.int b0] (s, l, x, y) a := by
  intro a1 a2 a3 a4 a5 b0 s l x y a h
  exact pm_run ((pq_X12_line_31  a1 a2 a3 a4 a5 b0 s l x y).symm.trans h) (pz_X12_line hT) (pm_bks_ok pb_X12_line) (pm_bks_ok pb_X12_line _ _ rfl) (pm_ndb_ok rfl) (pj_as_all (p := pm_Ex 2 12095 ie_X12_line.1 pm_rU lf a) (List.forall_mem_cons.mpr ⟨pu_X12_line_71 _ (fun c0 c1 c2 c3 c4 c5 s l x y h => pg_X12_line_71 hT c0 c1 c2 c3 c4 c5 s l x y _ h), (fun _ h => by cases h)⟩))
set_option maxRecDepth 100000 in
theorem pg_X12_line_30 {lf : pj_Z → mj_M} (hT : pj_Lt pj_TR lf) : ∀ (a1 : Int32) (a2 : Int32) (a3 : Int32) (a4 : Int32) (a5 : Int32) (s : Nat → Int32) (l : Nat → Int64) (x : Nat → Int32) (y : Nat → Int64) (a : Unit × pj_Z), pl_X12_line_30 a1 a2 a3 a4 a5 s l x y = some a → pm_Gd 2 12095 ie_X12_line.1 pm_rU lf 30 [(0, .ref 124), (1, .int a1), (2, .int a2), (3, .int a3), (4, .int a4), (5, .int a5)] [] (s, l, x, y) a := by
  intro a1 a2 a3 a4 a5 s l x y a h
  exact pm_run ((pq_X12_line_30  a1 a2 a3 a4 a5 s l x y).symm.trans h) (pz_X12_line hT) (pm_bks_ok pb_X12_line) (pm_bks_ok pb_X12_line _ _ rfl) (pm_ndb_ok rfl) (pj_as_all (p := pm_Ex 2 12095 ie_X12_line.1 pm_rU lf a) (List.forall_mem_cons.mpr ⟨pu_X12_line_31 _ (fun c0 c1 c2 c3 c4 c5 s l x y h => pg_X12_line_31 hT c0 c1 c2 c3 c4 c5 s l x y _ h), (fun _ h => by cases h)⟩))
set_option maxRecDepth 100000 in
theorem pm_X12_line {lf : pj_Z → mj_M} (hT : pj_Lt pj_TR lf) (a1 : Int32) (a2 : Int32) (a3 : Int32) (a4 : Int32) (a5 : Int32) (s : Nat → Int32) (l : Nat → Int64) (x : Nat → Int32) (y : Nat → Int64) (a : Unit × pj_Z) (h : pf_X12_line a1 a2 a3 a4 a5 s l x y = some a) : mj_R ic_P 3 12095 [.ref 124, .int a1, .int a2, .int a3, .int a4, .int a5] (lf (s, l, x, y)) (pm_rU a.1) (lf a.2) := by
  refine pm_main (Y := ie_X12_line.1) rfl (Nat.le_of_ble_eq_true rfl) ?_
  exact pm_run ((pq_X12_line_m a1 a2 a3 a4 a5 s l x y).symm.trans h) (pz_X12_line hT) (pm_bks_ok pb_X12_line) (pm_bks_ok pb_X12_line _ _ rfl) (pm_ndb_ok rfl) (pj_as_all (p := pm_Ex 2 12095 ie_X12_line.1 pm_rU lf a) (List.forall_mem_cons.mpr ⟨pu_X12_line_30 _ (fun c0 c1 c2 c3 c4 s l x y h => pg_X12_line_30 hT c0 c1 c2 c3 c4 s l x y _ h), (List.forall_mem_cons.mpr ⟨pu_X12_line_31 _ (fun c0 c1 c2 c3 c4 c5 s l x y h => pg_X12_line_31 hT c0 c1 c2 c3 c4 c5 s l x y _ h), (fun _ h => by cases h)⟩)⟩))
abbrev ph_X12_line {A : Type} : List pj_V → pj_Z → (List pj_V → pj_Z → Option A) → Option A := fun st z K => pj_pi st fun a5 st => pj_pi st fun a4 st => pj_pi st fun a3 st => pj_pi st fun a2 st => pj_pi st fun a1 st => pj_pr st 124 0 fun st => pj_ps st (pj_b (pf_X12_line a1 a2 a3 a4 a5 z.1 z.2.1 z.2.2.1 z.2.2.2) fun r s l x y => K st (s, l, x, y))
set_option maxRecDepth 100000 in
theorem pc_X12_line {A : Type} {OK : A → Option Value → mj_M → Prop} {d j pc ix : Nat} {Y : mj_Y} {lf : pj_Z → mj_M} (hT : pj_Lt pj_TR lf) (hd : 3 ≤ d) (hl : mj_lk Y.2.2.2.2 pc = some (.invokevirtual ix, 3)) (hg : mj_pG ic_P j ix = some (12095, 5, some 12)) {lv : List (Nat × Value)} {st : List pj_V} {z : pj_Z} {K : List pj_V → pj_Z → Option A} {a : A} (hK : ∀ st z, K st z = some a → pj_Gd ic_P (mj_R ic_P d) j Y OK lf (pc + 3) lv (pj_es st) z a) (h : ph_X12_line st z K = some a) : pj_Gd ic_P (mj_R ic_P d) j Y OK lf pc lv (pj_es st) z a := by
  obtain ⟨a5, r5, e5, h⟩ := pj_pi_inv h
  obtain ⟨a4, r4, e4, h⟩ := pj_pi_inv h
  obtain ⟨a3, r3, e3, h⟩ := pj_pi_inv h
  obtain ⟨a2, r2, e2, h⟩ := pj_pi_inv h
  obtain ⟨a1, r1, e1, h⟩ := pj_pi_inv h
  obtain ⟨r0, e0, h⟩ := pj_pr_inv h
  obtain ⟨hs, h⟩ := pj_ps_inv h
  obtain ⟨q, hq, h⟩ := pj_b_inv h
  exact pm_cv (o := 124) hl hg [.int a1, .int a2, .int a3, .int a4, .int a5] rfl (by rw [e5, e4, e3, e2, e1, e0]; rfl) hs (by decide) ((hT.2 124 _ rfl).1.2 z 0 (by decide)) (pm_rU q.1) hd (pm_X12_line hT a1 a2 a3 a4 a5 z.1 z.2.1 z.2.2.1 z.2.2.2 q hq) rfl (hK _ _ h)

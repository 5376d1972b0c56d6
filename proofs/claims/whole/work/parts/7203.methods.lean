/-! METHODS 3, printed by gen_meth.py -/
abbrev px_X3_feelHeat : pj_C (Unit × pj_Z) := ((pj_as [(2, 100, 24, 1, 0, true, 10000, []), (83, 3, 20, 1, 0, true, 0, [(0, 29), (0, 30), (1, 14), (1, 15), (0, 31), (0, 32), (0, 33), (0, 34), (0, 35), (0, 36), (0, 37), (0, 38), (0, 39), (0, 40), (1, 16), (1, 17), (0, 41), (0, 42), (0, 43), (2, 84)])]), (pj_as [(47, 3, 10, 3, false), (50, 3, 11, 3, false), (53, 3, 12, 3, false)]), (fun _ => none), (fun _ => none), (fun _ => none), ic_X, 3, 0, pj_mU, (pj_as [(18, ph_X3_isOver), (34, ph_X3_isOver), (50, ph_X3_isOver)]), fun _ => false)
abbrev pk_X3_feelHeat : List (Nat × List (Nat × Instr × Nat)) := [(0, [(0, .aload_n 2, 1), (1, .arraylength, 1), (2, .bipush 24, 2), (4, .if_icmp .ge 4, 3)]), (7, [(7, .return_, 1)]), (8, [(8, .aload_n 0, 1), (9, .aload_n 0, 1), (10, .getfield 47, 3), (13, .iload_n 1, 1), (14, .aload_n 2, 1), (15, .bipush 8, 2), (17, .iaload, 1), (18, .invokestatic 98, 3), (21, .putfield 47, 3), (24, .aload_n 0, 1), (25, .aload_n 0, 1), (26, .getfield 50, 3), (29, .iload_n 1, 1), (30, .aload_n 2, 1), (31, .bipush 14, 2), (33, .iaload, 1), (34, .invokestatic 98, 3), (37, .putfield 50, 3), (40, .aload_n 0, 1), (41, .aload_n 0, 1), (42, .getfield 53, 3), (45, .iload_n 1, 1), (46, .aload_n 2, 1), (47, .bipush 15, 2), (49, .iaload, 1), (50, .invokestatic 98, 3), (53, .putfield 53, 3), (56, .return_, 1)])]
set_option maxRecDepth 100000 in
theorem pq_X3_feelHeat_m  (a1 : Int32) (s : Nat → Int32) (l : Nat → Int64) (x : Nat → Int32) (y : Nat → Int64) : pf_X3_feelHeat a1 s l x y = pj_bl px_X3_feelHeat (pj_rn px_X3_feelHeat (pj_as pk_X3_feelHeat) (fun _ => none) 60) [(0, .aload_n 2, 1), (1, .arraylength, 1), (2, .bipush 24, 2), (4, .if_icmp .ge 4, 3)] 0 [(0, pj_O (83, 0)), (1, pj_I a1), (2, pj_O (2, 0))] [] (s, l, x, y) := rfl
set_option maxRecDepth 100000 in
theorem pz_X3_feelHeat {lf : pj_Z → mj_M} (hT : pj_Lt pj_TC lf) : pj_Cok ic_P (mj_R ic_P 1) 3007 ie_X3_feelHeat.1 (pm_OK lf pm_rU) lf px_X3_feelHeat := by
  exact pm_cok (c := px_X3_feelHeat) (pm_part hT (pj_as_all (p := fun b e => pj_TC b = some e) (List.forall_mem_cons.mpr ⟨rfl, (List.forall_mem_cons.mpr ⟨rfl, (fun _ h => by cases h)⟩)⟩))) (pm_in_ok (L := [(47, 3, 10, 3, false), (50, 3, 11, 3, false), (53, 3, 12, 3, false)]) (f := mj_pF ic_P 3007) (by decide +kernel)) (fun _ _ h => by cases h) (fun _ _ h => by cases h) (fun _ _ h => by cases h) rfl rfl ⟨by decide, rfl⟩ pm_mU (pj_as_all (p := pm_Cl 1 3007 ie_X3_feelHeat.1 lf (pm_OK lf pm_rU)) (List.forall_mem_cons.mpr ⟨fun _ _ lv st z K a hK h => pc_X3_isOver hT (by decide) (ix := 98) rfl rfl hK h, (List.forall_mem_cons.mpr ⟨fun _ _ lv st z K a hK h => pc_X3_isOver hT (by decide) (ix := 98) rfl rfl hK h, (List.forall_mem_cons.mpr ⟨fun _ _ lv st z K a hK h => pc_X3_isOver hT (by decide) (ix := 98) rfl rfl hK h, (fun _ h => by cases h)⟩)⟩)⟩)) (fun _ h => by cases h)
set_option maxRecDepth 100000 in
theorem pb_X3_feelHeat : pm_bks ie_X3_feelHeat.1.2.2.2.2 pk_X3_feelHeat = true := by decide +kernel
set_option maxRecDepth 100000 in
theorem pm_X3_feelHeat {lf : pj_Z → mj_M} (hT : pj_Lt pj_TC lf) (a1 : Int32) (s : Nat → Int32) (l : Nat → Int64) (x : Nat → Int32) (y : Nat → Int64) (a : Unit × pj_Z) (h : pf_X3_feelHeat a1 s l x y = some a) : mj_R ic_P 2 3007 [.ref 83, .int a1, .ref 2] (lf (s, l, x, y)) (pm_rU a.1) (lf a.2) := by
  refine pm_main (Y := ie_X3_feelHeat.1) rfl (Nat.le_of_ble_eq_true rfl) ?_
  exact pm_run ((pq_X3_feelHeat_m a1 s l x y).symm.trans h) (pz_X3_feelHeat hT) (pm_bks_ok pb_X3_feelHeat) (pm_bks_ok pb_X3_feelHeat _ _ rfl) (pm_ndb_ok rfl) (fun _ _ h => by cases h)
abbrev ph_X3_feelHeat {A : Type} : List pj_V → pj_Z → (List pj_V → pj_Z → Option A) → Option A := fun st z K => pj_pr st 2 0 fun st => pj_pi st fun a1 st => pj_pr st 83 0 fun st => pj_ps st (pj_b (pf_X3_feelHeat a1 z.1 z.2.1 z.2.2.1 z.2.2.2) fun r s l x y => K st (s, l, x, y))
set_option maxRecDepth 100000 in
theorem pc_X3_feelHeat {A : Type} {OK : A → Option Value → mj_M → Prop} {d j pc ix : Nat} {Y : mj_Y} {lf : pj_Z → mj_M} (hT : pj_Lt pj_TC lf) (hd : 2 ≤ d) (hl : mj_lk Y.2.2.2.2 pc = some (.invokevirtual ix, 3)) (hg : mj_pG ic_P j ix = some (3007, 2, some 3)) {lv : List (Nat × Value)} {st : List pj_V} {z : pj_Z} {K : List pj_V → pj_Z → Option A} {a : A} (hK : ∀ st z, K st z = some a → pj_Gd ic_P (mj_R ic_P d) j Y OK lf (pc + 3) lv (pj_es st) z a) (h : ph_X3_feelHeat st z K = some a) : pj_Gd ic_P (mj_R ic_P d) j Y OK lf pc lv (pj_es st) z a := by
  obtain ⟨r2, e2, h⟩ := pj_pr_inv h
  obtain ⟨a1, r1, e1, h⟩ := pj_pi_inv h
  obtain ⟨r0, e0, h⟩ := pj_pr_inv h
  obtain ⟨hs, h⟩ := pj_ps_inv h
  obtain ⟨q, hq, h⟩ := pj_b_inv h
  exact pm_cv (o := 83) hl hg [.int a1, .ref 2] rfl (by rw [e2, e1, e0]; rfl) hs (by decide) ((hT.2 83 _ rfl).1.2 z 0 (by decide)) (pm_rU q.1) hd (pm_X3_feelHeat hT a1 z.1 z.2.1 z.2.2.1 z.2.2.2 q hq) rfl (hK _ _ h)
abbrev pe_X11_cellAtHand_38 (f : Int32 → Int32 → pj_F (Int32 × pj_Z)) : pj_K (Int32 × pj_Z) := fun lv st z => pj_xi lv 1 fun a1 => pj_pi st fun b0 st => pj_pe st (f a1 b0 z.1 z.2.1 z.2.2.1 z.2.2.2)
abbrev pe_X11_cellAtHand_61 (f : Int32 → Int32 → pj_F (Int32 × pj_Z)) : pj_K (Int32 × pj_Z) := fun lv st z => pj_xi lv 2 fun a2 => pj_pi st fun b0 st => pj_pe st (f a2 b0 z.1 z.2.1 z.2.2.1 z.2.2.2)
abbrev px_X11_cellAtHand : pj_C (Int32 × pj_Z) := ((pj_as [(0, 11, 17, 1, 0, true, 0, [(2, 1), (2, 20), (2, 58), (2, 68), (2, 82), (2, 83), (2, 85), (2, 96), (2, 102), (2, 106), (2, 122), (0, 93), (0, 94), (0, 95), (1, 1), (1, 2), (0, 96)]), (20, 7, 11, 1, 0, true, 0, [(2, 21), (2, 35), (2, 49), (2, 50), (2, 51), (2, 52), (2, 53), (2, 54), (2, 55), (2, 56), (2, 57)]), (55, 100, 10, 1, 0, true, 34000, []), (58, 2, 19, 1, 0, true, 0, [(0, 19), (0, 20), (1, 4), (1, 5), (1, 6), (1, 7), (0, 21), (0, 22), (0, 23), (0, 24), (0, 25), (2, 59), (2, 63), (0, 26), (1, 8), (1, 9), (1, 10), (0, 27), (0, 28)])]), (pj_as [(19, 11, 1, 2, true), (26, 11, 2, 2, true), (400, 7, 8, 2, true), (628, 2, 3, 0, false)]), (fun _ => none), (fun _ => none), (fun _ => none), ic_X, 4, 1, pj_mI, (fun _ => none), fun _ => false)
abbrev pk_X11_cellAtHand : List (Nat × List (Nat × Instr × Nat)) := [(0, [(0, .aload_n 0, 1), (1, .getfield 19, 3), (4, .getfield 400, 3), (7, .iconst 4, 1), (8, .iaload, 1), (9, .istore_n 1, 1), (10, .aload_n 0, 1), (11, .getfield 26, 3), (14, .getfield 628, 3), (17, .sipush 4500, 3), (20, .if_icmp .lt 7, 3)]), (23, [(23, .iconst 3, 1), (24, .goto 14, 3)]), (27, [(27, .aload_n 0, 1), (28, .getfield 26, 3), (31, .getfield 628, 3), (34, .sipush 1500, 3), (37, .idiv, 1)]), (38, [(38, .istore_n 2, 1), (39, .iload_n 1, 1), (40, .ifCond .ge 7, 3)]), (43, [(43, .iconst 0, 1), (44, .goto 17, 3)]), (47, [(47, .iload_n 1, 1), (48, .bipush 90, 2), (50, .if_icmp .lt 7, 3)]), (53, [(53, .iconst 3, 1), (54, .goto 7, 3)]), (57, [(57, .iload_n 1, 1), (58, .bipush 30, 2), (60, .idiv, 1)]), (61, [(61, .istore_n 3, 1), (62, .iconst 4, 1), (63, .iload_n 2, 1), (64, .imul, 1), (65, .iload_n 3, 1), (66, .iadd, 1), (67, .ireturn, 1)])]
set_option maxRecDepth 100000 in
theorem pq_X11_cellAtHand_61  (a2 : Int32) (b0 : Int32) (s : Nat → Int32) (l : Nat → Int64) (x : Nat → Int32) (y : Nat → Int64) : pl_X11_cellAtHand_61 a2 b0 s l x y = pj_bl px_X11_cellAtHand (pj_rn px_X11_cellAtHand (pj_as pk_X11_cellAtHand) (fun _ => none) 60) [(61, .istore_n 3, 1), (62, .iconst 4, 1), (63, .iload_n 2, 1), (64, .imul, 1), (65, .iload_n 3, 1), (66, .iadd, 1), (67, .ireturn, 1)] 61 [(2, pj_I a2)] [pj_I b0] (s, l, x, y) := rfl
set_option maxRecDepth 100000 in
theorem pq_X11_cellAtHand_38  (a1 : Int32) (b0 : Int32) (s : Nat → Int32) (l : Nat → Int64) (x : Nat → Int32) (y : Nat → Int64) : pl_X11_cellAtHand_38 a1 b0 s l x y = pj_bl px_X11_cellAtHand (pj_rn px_X11_cellAtHand (pj_as pk_X11_cellAtHand) (pj_as [(61, pe_X11_cellAtHand_61 (pl_X11_cellAtHand_61))]) 60) [(38, .istore_n 2, 1), (39, .iload_n 1, 1), (40, .ifCond .ge 7, 3)] 38 [(1, pj_I a1)] [pj_I b0] (s, l, x, y) := rfl
set_option maxRecDepth 100000 in
theorem pq_X11_cellAtHand_m   (s : Nat → Int32) (l : Nat → Int64) (x : Nat → Int32) (y : Nat → Int64) : pf_X11_cellAtHand  s l x y = pj_bl px_X11_cellAtHand (pj_rn px_X11_cellAtHand (pj_as pk_X11_cellAtHand) (pj_as [(38, pe_X11_cellAtHand_38 (pl_X11_cellAtHand_38))]) 60) [(0, .aload_n 0, 1), (1, .getfield 19, 3), (4, .getfield 400, 3), (7, .iconst 4, 1), (8, .iaload, 1), (9, .istore_n 1, 1), (10, .aload_n 0, 1), (11, .getfield 26, 3), (14, .getfield 628, 3), (17, .sipush 4500, 3), (20, .if_icmp .lt 7, 3)] 0 [(0, pj_O (0, 0))] [] (s, l, x, y) := rfl
theorem pu_X11_cellAtHand_38 {lf : pj_Z → mj_M} {a : Int32 × pj_Z} (f : Int32 → Int32 → pj_F (Int32 × pj_Z)) (hf : ∀ (a1 : Int32) (b0 : Int32) (s : Nat → Int32) (l : Nat → Int64) (x : Nat → Int32) (y : Nat → Int64), f a1 b0 s l x y = some a → pm_Gd 0 11066 ie_X11_cellAtHand.1 pm_rI lf 38 [(1, .int a1)] [.int b0] (s, l, x, y) a) : pm_Ex 0 11066 ie_X11_cellAtHand.1 pm_rI lf a 38 (pe_X11_cellAtHand_38 f) := by
  intro lv st z hd h
  obtain ⟨a1, g1, h⟩ := pj_xi_inv h
  obtain ⟨b0, r0, e0, h⟩ := pj_pi_inv h
  obtain ⟨e9, h⟩ := pj_pe_inv h
  rw [e0, e9]
  exact mj_wp_sub (mj_sub_cons g1 (mj_sub_nil hd)) (hf _ _ _ _ _ _ h)
theorem pu_X11_cellAtHand_61 {lf : pj_Z → mj_M} {a : Int32 × pj_Z} (f : Int32 → Int32 → pj_F (Int32 × pj_Z)) (hf : ∀ (a2 : Int32) (b0 : Int32) (s : Nat → Int32) (l : Nat → Int64) (x : Nat → Int32) (y : Nat → Int64), f a2 b0 s l x y = some a → pm_Gd 0 11066 ie_X11_cellAtHand.1 pm_rI lf 61 [(2, .int a2)] [.int b0] (s, l, x, y) a) : pm_Ex 0 11066 ie_X11_cellAtHand.1 pm_rI lf a 61 (pe_X11_cellAtHand_61 f) := by
  intro lv st z hd h
  obtain ⟨a2, g2, h⟩ := pj_xi_inv h
  obtain ⟨b0, r0, e0, h⟩ := pj_pi_inv h
  obtain ⟨e9, h⟩ := pj_pe_inv h
  rw [e0, e9]
  exact mj_wp_sub (mj_sub_cons g2 (mj_sub_nil hd)) (hf _ _ _ _ _ _ h)
set_option maxRecDepth 100000 in
theorem pz_X11_cellAtHand {lf : pj_Z → mj_M} (hT : pj_Lt pj_TC lf) : pj_Cok ic_P (mj_R ic_P 0) 11066 ie_X11_cellAtHand.1 (pm_OK lf pm_rI) lf px_X11_cellAtHand := by
  exact pm_cok (c := px_X11_cellAtHand) (pm_part hT (pj_as_all (p := fun b e => pj_TC b = some e) (List.forall_mem_cons.mpr ⟨rfl, (List.forall_mem_cons.mpr ⟨rfl, (List.forall_mem_cons.mpr ⟨rfl, (List.forall_mem_cons.mpr ⟨rfl, (fun _ h => by cases h)⟩)⟩)⟩)⟩))) (pm_in_ok (L := [(19, 11, 1, 2, true), (26, 11, 2, 2, true), (400, 7, 8, 2, true), (628, 2, 3, 0, false)]) (f := mj_pF ic_P 11066) (by decide +kernel)) (fun _ _ h => by cases h) (fun _ _ h => by cases h) (fun _ _ h => by cases h) rfl rfl ⟨by decide, rfl⟩ pm_mI (fun _ _ h => by cases h) (fun _ h => by cases h)
set_option maxRecDepth 100000 in
theorem pb_X11_cellAtHand : pm_bks ie_X11_cellAtHand.1.2.2.2.2 pk_X11_cellAtHand = true := by decide +kernel
set_option maxRecDepth 100000 in
theorem pg_X11_cellAtHand_61 {lf : pj_Z → mj_M} (hT : pj_Lt pj_TC lf) : ∀ (a2 : Int32) (b0 : Int32) (s : Nat → Int32) (l : Nat → Int64) (x : Nat → Int32) (y : Nat → Int64) (a : Int32 × pj_Z), pl_X11_cellAtHand_61 a2 b0 s l x y = some a → pm_Gd 0 11066 ie_X11_cellAtHand.1 pm_rI lf 61 [(2, .int a2)] [.int b0] (s, l, x, y) a := by
  intro a2 b0 s l x y a h
  exact pm_run ((pq_X11_cellAtHand_61  a2 b0 s l x y).symm.trans h) (pz_X11_cellAtHand hT) (pm_bks_ok pb_X11_cellAtHand) (pm_bks_ok pb_X11_cellAtHand _ _ rfl) (pm_ndb_ok rfl) (fun _ _ h => by cases h)
set_option maxRecDepth 100000 in
theorem pg_X11_cellAtHand_38 {lf : pj_Z → mj_M} (hT : pj_Lt pj_TC lf) : ∀ (a1 : Int32) (b0 : Int32) (s : Nat → Int32) (l : Nat → Int64) (x : Nat → Int32) (y : Nat → Int64) (a : Int32 × pj_Z), pl_X11_cellAtHand_38 a1 b0 s l x y = some a → pm_Gd 0 11066 ie_X11_cellAtHand.1 pm_rI lf 38 [(1, .int a1)] [.int b0] (s, l, x, y) a := by
  intro a1 b0 s l x y a h
  exact pm_run ((pq_X11_cellAtHand_38  a1 b0 s l x y).symm.trans h) (pz_X11_cellAtHand hT) (pm_bks_ok pb_X11_cellAtHand) (pm_bks_ok pb_X11_cellAtHand _ _ rfl) (pm_ndb_ok rfl) (pj_as_all (p := pm_Ex 0 11066 ie_X11_cellAtHand.1 pm_rI lf a) (List.forall_mem_cons.mpr ⟨pu_X11_cellAtHand_61 _ (fun c0 c1 s l x y h => pg_X11_cellAtHand_61 hT c0 c1 s l x y _ h), (fun _ h => by cases h)⟩))
set_option maxRecDepth 100000 in
theorem pm_X11_cellAtHand {lf : pj_Z → mj_M} (hT : pj_Lt pj_TC lf)  (s : Nat → Int32) (l : Nat → Int64) (x : Nat → Int32) (y : Nat → Int64) (a : Int32 × pj_Z) (h : pf_X11_cellAtHand  s l x y = some a) : mj_R ic_P 1 11066 [.ref 0] (lf (s, l, x, y)) (pm_rI a.1) (lf a.2) := by
  refine pm_main (Y := ie_X11_cellAtHand.1) rfl (Nat.le_of_ble_eq_true rfl) ?_
  exact pm_run ((pq_X11_cellAtHand_m  s l x y).symm.trans h) (pz_X11_cellAtHand hT) (pm_bks_ok pb_X11_cellAtHand) (pm_bks_ok pb_X11_cellAtHand _ _ rfl) (pm_ndb_ok rfl) (pj_as_all (p := pm_Ex 0 11066 ie_X11_cellAtHand.1 pm_rI lf a) (List.forall_mem_cons.mpr ⟨pu_X11_cellAtHand_38 _ (fun c0 c1 s l x y h => pg_X11_cellAtHand_38 hT c0 c1 s l x y _ h), (fun _ h => by cases h)⟩))
abbrev ph_X11_cellAtHand {A : Type} : List pj_V → pj_Z → (List pj_V → pj_Z → Option A) → Option A := fun st z K => pj_pr st 0 0 fun st => pj_ps st (pj_b (pf_X11_cellAtHand  z.1 z.2.1 z.2.2.1 z.2.2.2) fun r s l x y => K (pj_I r :: st) (s, l, x, y))
set_option maxRecDepth 100000 in
theorem pc_X11_cellAtHand {A : Type} {OK : A → Option Value → mj_M → Prop} {d j pc ix : Nat} {Y : mj_Y} {lf : pj_Z → mj_M} (hT : pj_Lt pj_TC lf) (hd : 1 ≤ d) (hl : mj_lk Y.2.2.2.2 pc = some (.invokevirtual ix, 3)) (hg : mj_pG ic_P j ix = some (11066, 0, some 11)) {lv : List (Nat × Value)} {st : List pj_V} {z : pj_Z} {K : List pj_V → pj_Z → Option A} {a : A} (hK : ∀ st z, K st z = some a → pj_Gd ic_P (mj_R ic_P d) j Y OK lf (pc + 3) lv (pj_es st) z a) (h : ph_X11_cellAtHand st z K = some a) : pj_Gd ic_P (mj_R ic_P d) j Y OK lf pc lv (pj_es st) z a := by
  obtain ⟨r0, e0, h⟩ := pj_pr_inv h
  obtain ⟨hs, h⟩ := pj_ps_inv h
  obtain ⟨q, hq, h⟩ := pj_b_inv h
  exact pm_cv (o := 0) hl hg [] rfl (by rw [e0]; rfl) hs (by decide) ((hT.2 0 _ rfl).1.2 z 0 (by decide)) (pm_rI q.1) hd (pm_X11_cellAtHand hT  z.1 z.2.1 z.2.2.1 z.2.2.2 q hq) rfl (hK _ _ h)
abbrev pe_X3_trim_30 (f : Int32 → Int32 → Int32 → Int32 → pj_F (Unit × pj_Z)) : pj_K (Unit × pj_Z) := fun lv st z => pj_xr lv 0 83 0 <| pj_xi lv 1 fun a1 => pj_xi lv 2 fun a2 => pj_xi lv 3 fun a3 => pj_xi lv 4 fun a4 => pj_pe st (f a1 a2 a3 a4 z.1 z.2.1 z.2.2.1 z.2.2.2)
abbrev pe_X3_trim_31 (f : Int32 → Int32 → Int32 → Int32 → Int32 → pj_F (Unit × pj_Z)) : pj_K (Unit × pj_Z) := fun lv st z => pj_xr lv 0 83 0 <| pj_xi lv 1 fun a1 => pj_xi lv 2 fun a2 => pj_xi lv 3 fun a3 => pj_xi lv 4 fun a4 => pj_pi st fun b0 st => pj_pe st (f a1 a2 a3 a4 b0 z.1 z.2.1 z.2.2.1 z.2.2.2)
abbrev pe_X3_trim_47 (f : Int32 → Int32 → Int32 → Int32 → Int32 → pj_F (Unit × pj_Z)) : pj_K (Unit × pj_Z) := fun lv st z => pj_xr lv 0 83 0 <| pj_xi lv 1 fun a1 => pj_xi lv 2 fun a2 => pj_xi lv 3 fun a3 => pj_xi lv 5 fun a5 => pj_pi st fun b0 st => pj_pe st (f a1 a2 a3 a5 b0 z.1 z.2.1 z.2.2.1 z.2.2.2)
abbrev pe_X3_trim_71 (f : Int32 → Int32 → Int32 → Int32 → Int32 → pj_F (Unit × pj_Z)) : pj_K (Unit × pj_Z) := fun lv st z => pj_xr lv 0 83 0 <| pj_xi lv 1 fun a1 => pj_xi lv 2 fun a2 => pj_xi lv 3 fun a3 => pj_xi lv 6 fun a6 => pj_pi st fun b1 st => pj_pr st 83 0 fun st => pj_pe st (f a1 a2 a3 a6 b1 z.1 z.2.1 z.2.2.1 z.2.2.2)
abbrev pe_X3_trim_98 (f : Int32 → Int32 → Int32 → Int64 → pj_F (Unit × pj_Z)) : pj_K (Unit × pj_Z) := fun lv st z => pj_xr lv 0 83 0 <| pj_xi lv 1 fun a1 => pj_xi lv 2 fun a2 => pj_xi lv 3 fun a3 => pj_pl st fun b1 st => pj_pr st 83 0 fun st => pj_pe st (f a1 a2 a3 b1 z.1 z.2.1 z.2.2.1 z.2.2.2)
abbrev pe_X3_trim_132 (f : Int32 → Int32 → pj_F (Unit × pj_Z)) : pj_K (Unit × pj_Z) := fun lv st z => pj_xr lv 0 83 0 <| pj_xi lv 2 fun a2 => pj_xi lv 3 fun a3 => pj_pr st 83 0 fun st => pj_pe st (f a2 a3 z.1 z.2.1 z.2.2.1 z.2.2.2)
abbrev pe_X3_trim_133 (f : Int32 → Int32 → Int32 → pj_F (Unit × pj_Z)) : pj_K (Unit × pj_Z) := fun lv st z => pj_xr lv 0 83 0 <| pj_xi lv 2 fun a2 => pj_xi lv 3 fun a3 => pj_pi st fun b1 st => pj_pr st 83 0 fun st => pj_pe st (f a2 a3 b1 z.1 z.2.1 z.2.2.1 z.2.2.2)
abbrev pe_X3_trim_177 (f : Int32 → Int32 → Int32 → pj_F (Unit × pj_Z)) : pj_K (Unit × pj_Z) := fun lv st z => pj_xr lv 0 83 0 <| pj_xi lv 2 fun a2 => pj_xi lv 3 fun a3 => pj_pi st fun b0 st => pj_pe st (f a2 a3 b0 z.1 z.2.1 z.2.2.1 z.2.2.2)
abbrev pe_X3_trim_202 (f : Int32 → Int32 → pj_F (Unit × pj_Z)) : pj_K (Unit × pj_Z) := fun lv st z => pj_xr lv 0 83 0 <| pj_xi lv 2 fun a2 => pj_xi lv 3 fun a3 => pj_pe st (f a2 a3 z.1 z.2.1 z.2.2.1 z.2.2.2)
abbrev px_X3_trim : pj_C (Unit × pj_Z) := ((pj_as [(83, 3, 20, 1, 0, true, 0, [(0, 29), (0, 30), (1, 14), (1, 15), (0, 31), (0, 32), (0, 33), (0, 34), (0, 35), (0, 36), (0, 37), (0, 38), (0, 39), (0, 40), (1, 16), (1, 17), (0, 41), (0, 42), (0, 43), (2, 84)]), (84, 100, 16, 1, 0, true, 9000, [])]), (pj_as [(9, 3, 19, 2, true), (59, 3, 14, 3, false), (62, 3, 15, 0, false), (65, 3, 16, 0, false), (68, 3, 17, 0, false), (71, 3, 18, 0, false)]), (fun _ => none), (fun _ => none), (fun _ => none), ic_X, 8, 0, pj_mU, (pj_as [(68, ph_J9_min_7cf53), (104, ph_X11_clip), (198, ph_X11_clip)]), fun _ => false)
abbrev pk_X3_trim : List (Nat × List (Nat × Instr × Nat)) := [(0, [(0, .iload_n 3, 1), (1, .ifCond .lt 12, 3)]), (4, [(4, .iload_n 3, 1), (5, .aload_n 0, 1), (6, .getfield 9, 3), (9, .arraylength, 1), (10, .if_icmp .lt 4, 3)]), (13, [(13, .return_, 1)]), (14, [(14, .iload_n 1, 1), (15, .ifCond .eq 15, 3)]), (18, [(18, .iload_n 2, 1), (19, .aload_n 0, 1), (20, .getfield 59, 3), (23, .if_icmp .eq 7, 3)]), (26, [(26, .iconst 1, 1), (27, .goto 4, 3)]), (30, [(30, .iconst 0, 1)]), (31, [(31, .istore 5, 2), (33, .iload 5, 2), (35, .ifCond .eq 10, 3)]), (38, [(38, .iconst 5, 1), (39, .iload 4, 2), (41, .imul, 1), (42, .goto 5, 3)]), (45, [(45, .iload 4, 2)]), (47, [(47, .istore 6, 2), (49, .aload_n 0, 1), (50, .iload 5, 2), (52, .ifCond .eq 7, 3)]), (55, [(55, .iconst 0, 1), (56, .goto 15, 3)]), (59, [(59, .sipush 1000, 3), (62, .aload_n 0, 1), (63, .getfield 65, 3), (66, .iconst 1, 1), (67, .iadd, 1), (68, .invokestatic 102, 3)]), (71, [(71, .putfield 65, 3), (74, .aload_n 0, 1), (75, .iload_n 2, 1), (76, .ifCond .eq 14, 3)]), (79, [(79, .aload_n 0, 1), (80, .getfield 71, 3), (83, .iload 6, 2), (85, .isub, 1), (86, .i2l, 1), (87, .goto 11, 3)]), (90, [(90, .aload_n 0, 1), (91, .getfield 71, 3), (94, .iload 6, 2), (96, .iadd, 1), (97, .i2l, 1)]), (98, [(98, .sipush (-250), 3), (101, .sipush 250, 3), (104, .invokestatic 82, 3), (107, .putfield 71, 3), (110, .aload_n 0, 1), (111, .iload_n 1, 1), (112, .ifCond .eq 20, 3)]), (115, [(115, .iload_n 3, 1), (116, .aload_n 0, 1), (117, .getfield 62, 3), (120, .if_icmp .ne 12, 3)]), (123, [(123, .aload_n 0, 1), (124, .getfield 68, 3), (127, .iconst 1, 1), (128, .iadd, 1), (129, .goto 4, 3)]), (132, [(132, .iconst 0, 1)]), (133, [(133, .putfield 68, 3), (136, .aload_n 0, 1), (137, .getfield 68, 3), (140, .bipush 100, 2), (142, .if_icmp .ne 60, 3)]), (145, [(145, .aload_n 0, 1), (146, .iconst 0, 1), (147, .putfield 68, 3), (150, .aload_n 0, 1), (151, .getfield 71, 3), (154, .bipush 20, 2), (156, .if_icmp .le 7, 3)]), (159, [(159, .iconst 1, 1), (160, .goto 17, 3)]), (163, [(163, .aload_n 0, 1), (164, .getfield 71, 3), (167, .bipush (-20), 2), (169, .if_icmp .ge 7, 3)]), (172, [(172, .iconst (-1), 1), (173, .goto 4, 3)]), (176, [(176, .iconst 0, 1)]), (177, [(177, .istore 7, 2), (179, .aload_n 0, 1), (180, .getfield 9, 3), (183, .iload_n 3, 1), (184, .aload_n 0, 1), (185, .getfield 9, 3), (188, .iload_n 3, 1), (189, .iaload, 1), (190, .iload 7, 2), (192, .iadd, 1), (193, .i2l, 1), (194, .bipush (-100), 2), (196, .bipush 100, 2), (198, .invokestatic 82, 3), (201, .iastore, 1)]), (202, [(202, .aload_n 0, 1), (203, .iload_n 2, 1), (204, .putfield 59, 3), (207, .aload_n 0, 1), (208, .iload_n 3, 1), (209, .putfield 62, 3), (212, .return_, 1)])]
set_option maxRecDepth 100000 in
theorem pq_X3_trim_202  (a2 : Int32) (a3 : Int32) (s : Nat → Int32) (l : Nat → Int64) (x : Nat → Int32) (y : Nat → Int64) : pl_X3_trim_202 a2 a3 s l x y = pj_bl px_X3_trim (pj_rn px_X3_trim (pj_as pk_X3_trim) (fun _ => none) 60) [(202, .aload_n 0, 1), (203, .iload_n 2, 1), (204, .putfield 59, 3), (207, .aload_n 0, 1), (208, .iload_n 3, 1), (209, .putfield 62, 3), (212, .return_, 1)] 202 [(0, pj_O (83, 0)), (2, pj_I a2), (3, pj_I a3)] [] (s, l, x, y) := rfl
set_option maxRecDepth 100000 in
theorem pq_X3_trim_177  (a2 : Int32) (a3 : Int32) (b0 : Int32) (s : Nat → Int32) (l : Nat → Int64) (x : Nat → Int32) (y : Nat → Int64) : pl_X3_trim_177 a2 a3 b0 s l x y = pj_bl px_X3_trim (pj_rn px_X3_trim (pj_as pk_X3_trim) (pj_as [(202, pe_X3_trim_202 (pl_X3_trim_202))]) 60) [(177, .istore 7, 2), (179, .aload_n 0, 1), (180, .getfield 9, 3), (183, .iload_n 3, 1), (184, .aload_n 0, 1), (185, .getfield 9, 3), (188, .iload_n 3, 1), (189, .iaload, 1), (190, .iload 7, 2), (192, .iadd, 1), (193, .i2l, 1), (194, .bipush (-100), 2), (196, .bipush 100, 2), (198, .invokestatic 82, 3), (201, .iastore, 1)] 177 [(0, pj_O (83, 0)), (2, pj_I a2), (3, pj_I a3)] [pj_I b0] (s, l, x, y) := rfl
set_option maxRecDepth 100000 in
theorem pq_X3_trim_133  (a2 : Int32) (a3 : Int32) (b1 : Int32) (s : Nat → Int32) (l : Nat → Int64) (x : Nat → Int32) (y : Nat → Int64) : pl_X3_trim_133 a2 a3 b1 s l x y = pj_bl px_X3_trim (pj_rn px_X3_trim (pj_as pk_X3_trim) (pj_as [(177, pe_X3_trim_177 (pl_X3_trim_177)), (202, pe_X3_trim_202 (pl_X3_trim_202))]) 60) [(133, .putfield 68, 3), (136, .aload_n 0, 1), (137, .getfield 68, 3), (140, .bipush 100, 2), (142, .if_icmp .ne 60, 3)] 133 [(0, pj_O (83, 0)), (2, pj_I a2), (3, pj_I a3)] [pj_I b1, pj_O (83, 0)] (s, l, x, y) := rfl
set_option maxRecDepth 100000 in
theorem pq_X3_trim_132  (a2 : Int32) (a3 : Int32) (s : Nat → Int32) (l : Nat → Int64) (x : Nat → Int32) (y : Nat → Int64) : pl_X3_trim_132 a2 a3 s l x y = pj_bl px_X3_trim (pj_rn px_X3_trim (pj_as pk_X3_trim) (pj_as [(133, pe_X3_trim_133 (pl_X3_trim_133))]) 60) [(132, .iconst 0, 1)] 132 [(0, pj_O (83, 0)), (2, pj_I a2), (3, pj_I a3)] [pj_O (83, 0)] (s, l, x, y) := rfl
set_option maxRecDepth 100000 in
theorem pq_X3_trim_98  (a1 : Int32) (a2 : Int32) (a3 : Int32) (b1 : Int64) (s : Nat → Int32) (l : Nat → Int64) (x : Nat → Int32) (y : Nat → Int64) : pl_X3_trim_98 a1 a2 a3 b1 s l x y = pj_bl px_X3_trim (pj_rn px_X3_trim (pj_as pk_X3_trim) (pj_as [(132, pe_X3_trim_132 (pl_X3_trim_132)), (133, pe_X3_trim_133 (pl_X3_trim_133))]) 60) [(98, .sipush (-250), 3), (101, .sipush 250, 3), (104, .invokestatic 82, 3), (107, .putfield 71, 3), (110, .aload_n 0, 1), (111, .iload_n 1, 1), (112, .ifCond .eq 20, 3)] 98 [(0, pj_O (83, 0)), (1, pj_I a1), (2, pj_I a2), (3, pj_I a3)] [pj_L b1, pj_O (83, 0)] (s, l, x, y) := rfl
set_option maxRecDepth 100000 in
theorem pq_X3_trim_71  (a1 : Int32) (a2 : Int32) (a3 : Int32) (a6 : Int32) (b1 : Int32) (s : Nat → Int32) (l : Nat → Int64) (x : Nat → Int32) (y : Nat → Int64) : pl_X3_trim_71 a1 a2 a3 a6 b1 s l x y = pj_bl px_X3_trim (pj_rn px_X3_trim (pj_as pk_X3_trim) (pj_as [(98, pe_X3_trim_98 (pl_X3_trim_98))]) 60) [(71, .putfield 65, 3), (74, .aload_n 0, 1), (75, .iload_n 2, 1), (76, .ifCond .eq 14, 3)] 71 [(0, pj_O (83, 0)), (1, pj_I a1), (2, pj_I a2), (3, pj_I a3), (6, pj_I a6)] [pj_I b1, pj_O (83, 0)] (s, l, x, y) := rfl
set_option maxRecDepth 100000 in
theorem pq_X3_trim_47  (a1 : Int32) (a2 : Int32) (a3 : Int32) (a5 : Int32) (b0 : Int32) (s : Nat → Int32) (l : Nat → Int64) (x : Nat → Int32) (y : Nat → Int64) : pl_X3_trim_47 a1 a2 a3 a5 b0 s l x y = pj_bl px_X3_trim (pj_rn px_X3_trim (pj_as pk_X3_trim) (pj_as [(71, pe_X3_trim_71 (pl_X3_trim_71))]) 60) [(47, .istore 6, 2), (49, .aload_n 0, 1), (50, .iload 5, 2), (52, .ifCond .eq 7, 3)] 47 [(0, pj_O (83, 0)), (1, pj_I a1), (2, pj_I a2), (3, pj_I a3), (5, pj_I a5)] [pj_I b0] (s, l, x, y) := rfl
set_option maxRecDepth 100000 in
theorem pq_X3_trim_31  (a1 : Int32) (a2 : Int32) (a3 : Int32) (a4 : Int32) (b0 : Int32) (s : Nat → Int32) (l : Nat → Int64) (x : Nat → Int32) (y : Nat → Int64) : pl_X3_trim_31 a1 a2 a3 a4 b0 s l x y = pj_bl px_X3_trim (pj_rn px_X3_trim (pj_as pk_X3_trim) (pj_as [(47, pe_X3_trim_47 (pl_X3_trim_47))]) 60) [(31, .istore 5, 2), (33, .iload 5, 2), (35, .ifCond .eq 10, 3)] 31 [(0, pj_O (83, 0)), (1, pj_I a1), (2, pj_I a2), (3, pj_I a3), (4, pj_I a4)] [pj_I b0] (s, l, x, y) := rfl
set_option maxRecDepth 100000 in
theorem pq_X3_trim_30  (a1 : Int32) (a2 : Int32) (a3 : Int32) (a4 : Int32) (s : Nat → Int32) (l : Nat → Int64) (x : Nat → Int32) (y : Nat → Int64) : pl_X3_trim_30 a1 a2 a3 a4 s l x y = pj_bl px_X3_trim (pj_rn px_X3_trim (pj_as pk_X3_trim) (pj_as [(31, pe_X3_trim_31 (pl_X3_trim_31))]) 60) [(30, .iconst 0, 1)] 30 [(0, pj_O (83, 0)), (1, pj_I a1), (2, pj_I a2), (3, pj_I a3), (4, pj_I a4)] [] (s, l, x, y) := rfl
set_option maxRecDepth 100000 in
theorem pq_X3_trim_m  (a1 : Int32) (a2 : Int32) (a3 : Int32) (a4 : Int32) (s : Nat → Int32) (l : Nat → Int64) (x : Nat → Int32) (y : Nat → Int64) : pf_X3_trim a1 a2 a3 a4 s l x y = pj_bl px_X3_trim (pj_rn px_X3_trim (pj_as pk_X3_trim) (pj_as [(30, pe_X3_trim_30 (pl_X3_trim_30)), (31, pe_X3_trim_31 (pl_X3_trim_31))]) 60) [(0, .iload_n 3, 1), (1, .ifCond .lt 12, 3)] 0 [(0, pj_O (83, 0)), (1, pj_I a1), (2, pj_I a2), (3, pj_I a3), (4, pj_I a4)] [] (s, l, x, y) := rfl
theorem pu_X3_trim_30 {lf : pj_Z → mj_M} {a : Unit × pj_Z} (f : Int32 → Int32 → Int32 → Int32 → pj_F (Unit × pj_Z)) (hf : ∀ (a1 : Int32) (a2 : Int32) (a3 : Int32) (a4 : Int32) (s : Nat → Int32) (l : Nat → Int64) (x : Nat → Int32) (y : Nat → Int64), f a1 a2 a3 a4 s l x y = some a → pm_Gd 1 3009 ie_X3_trim.1 pm_rU lf 30 [(0, .ref 83), (1, .int a1), (2, .int a2), (3, .int a3), (4, .int a4)] [] (s, l, x, y) a) : pm_Ex 1 3009 ie_X3_trim.1 pm_rU lf a 30 (pe_X3_trim_30 f) := by
  intro lv st z hd h
  obtain ⟨g0, h⟩ := pj_xr_inv h
  obtain ⟨a1, g1, h⟩ := pj_xi_inv h
  obtain ⟨a2, g2, h⟩ := pj_xi_inv h
  obtain ⟨a3, g3, h⟩ := pj_xi_inv h
  obtain ⟨a4, g4, h⟩ := pj_xi_inv h
  obtain ⟨e9, h⟩ := pj_pe_inv h
  rw [e9]
  exact mj_wp_sub (mj_sub_cons g0 (mj_sub_cons g1 (mj_sub_cons g2 (mj_sub_cons g3 (mj_sub_cons g4 (mj_sub_nil hd)))))) (hf _ _ _ _ _ _ _ _ h)
theorem pu_X3_trim_31 {lf : pj_Z → mj_M} {a : Unit × pj_Z} (f : Int32 → Int32 → Int32 → Int32 → Int32 → pj_F (Unit × pj_Z)) (hf : ∀ (a1 : Int32) (a2 : Int32) (a3 : Int32) (a4 : Int32) (b0 : Int32) (s : Nat → Int32) (l : Nat → Int64) (x : Nat → Int32) (y : Nat → Int64), f a1 a2 a3 a4 b0 s l x y = some a → pm_Gd 1 3009 ie_X3_trim.1 pm_rU lf 31 [(0, .ref 83), (1, .int a1), (2, .int a2), (3, .int a3), (4, .int a4)] [.int b0] (s, l, x, y) a) : pm_Ex 1 3009 ie_X3_trim.1 pm_rU lf a 31 (pe_X3_trim_31 f) := by
  intro lv st z hd h
  obtain ⟨g0, h⟩ := pj_xr_inv h
  obtain ⟨a1, g1, h⟩ := pj_xi_inv h
  obtain ⟨a2, g2, h⟩ := pj_xi_inv h
  obtain ⟨a3, g3, h⟩ := pj_xi_inv h
  obtain ⟨a4, g4, h⟩ := pj_xi_inv h
  obtain ⟨b0, r0, e0, h⟩ := pj_pi_inv h
  obtain ⟨e9, h⟩ := pj_pe_inv h
  rw [e0, e9]
  exact mj_wp_sub (mj_sub_cons g0 (mj_sub_cons g1 (mj_sub_cons g2 (mj_sub_cons g3 (mj_sub_cons g4 (mj_sub_nil hd)))))) (hf _ _ _ _ _ _ _ _ _ h)
theorem pu_X3_trim_47 {lf : pj_Z → mj_M} {a : Unit × pj_Z} (f : Int32 → Int32 → Int32 → Int32 → Int32 → pj_F (Unit × pj_Z)) (hf : ∀ (a1 : Int32) (a2 : Int32) (a3 : Int32) (a5 : Int32) (b0 : Int32) (s : Nat → Int32) (l : Nat → Int64) (x : Nat → Int32) (y : Nat → Int64), f a1 a2 a3 a5 b0 s l x y = some a → pm_Gd 1 3009 ie_X3_trim.1 pm_rU lf 47 [(0, .ref 83), (1, .int a1), (2, .int a2), (3, .int a3), (5, .int a5)] [.int b0] (s, l, x, y) a) : pm_Ex 1 3009 ie_X3_trim.1 pm_rU lf a 47 (pe_X3_trim_47 f) := by
  intro lv st z hd h
  obtain ⟨g0, h⟩ := pj_xr_inv h
  obtain ⟨a1, g1, h⟩ := pj_xi_inv h
  obtain ⟨a2, g2, h⟩ := pj_xi_inv h
  obtain ⟨a3, g3, h⟩ := pj_xi_inv h
  obtain ⟨a5, g5, h⟩ := pj_xi_inv h
  obtain ⟨b0, r0, e0, h⟩ := pj_pi_inv h
  obtain ⟨e9, h⟩ := pj_pe_inv h
  rw [e0, e9]
  exact mj_wp_sub (mj_sub_cons g0 (mj_sub_cons g1 (mj_sub_cons g2 (mj_sub_cons g3 (mj_sub_cons g5 (mj_sub_nil hd)))))) (hf _ _ _ _ _ _ _ _ _ h)
theorem pu_X3_trim_71 {lf : pj_Z → mj_M} {a : Unit × pj_Z} (f : Int32 → Int32 → Int32 → Int32 → Int32 → pj_F (Unit × pj_Z)) (hf : ∀ (a1 : Int32) (a2 : Int32) (a3 : Int32) (a6 : Int32) (b1 : Int32) (s : Nat → Int32) (l : Nat → Int64) (x : Nat → Int32) (y : Nat → Int64), f a1 a2 a3 a6 b1 s l x y = some a → pm_Gd 1 3009 ie_X3_trim.1 pm_rU lf 71 [(0, .ref 83), (1, .int a1), (2, .int a2), (3, .int a3), (6, .int a6)] [.int b1, .ref 83] (s, l, x, y) a) : pm_Ex 1 3009 ie_X3_trim.1 pm_rU lf a 71 (pe_X3_trim_71 f) := by
  intro lv st z hd h
  obtain ⟨g0, h⟩ := pj_xr_inv h
  obtain ⟨a1, g1, h⟩ := pj_xi_inv h
  obtain ⟨a2, g2, h⟩ := pj_xi_inv h
  obtain ⟨a3, g3, h⟩ := pj_xi_inv h
  obtain ⟨a6, g6, h⟩ := pj_xi_inv h
  obtain ⟨b1, r1, e1, h⟩ := pj_pi_inv h
  obtain ⟨r0, e0, h⟩ := pj_pr_inv h
  obtain ⟨e9, h⟩ := pj_pe_inv h
  rw [e1, e0, e9]
  exact mj_wp_sub (mj_sub_cons g0 (mj_sub_cons g1 (mj_sub_cons g2 (mj_sub_cons g3 (mj_sub_cons g6 (mj_sub_nil hd)))))) (hf _ _ _ _ _ _ _ _ _ h)
theorem pu_X3_trim_98 {lf : pj_Z → mj_M} {a : Unit × pj_Z} (f : Int32 → Int32 → Int32 → Int64 → pj_F (Unit × pj_Z)) (hf : ∀ (a1 : Int32) (a2 : Int32) (a3 : Int32) (b1 : Int64) (s : Nat → Int32) (l : Nat → Int64) (x : Nat → Int32) (y : Nat → Int64), f a1 a2 a3 b1 s l x y = some a → pm_Gd 1 3009 ie_X3_trim.1 pm_rU lf 98 [(0, .ref 83), (1, .int a1), (2, .int a2), (3, .int a3)] [.long b1, .ref 83] (s, l, x, y) a) : pm_Ex 1 3009 ie_X3_trim.1 pm_rU lf a 98 (pe_X3_trim_98 f) := by
  intro lv st z hd h
  obtain ⟨g0, h⟩ := pj_xr_inv h
  obtain ⟨a1, g1, h⟩ := pj_xi_inv h
  obtain ⟨a2, g2, h⟩ := pj_xi_inv h
  obtain ⟨a3, g3, h⟩ := pj_xi_inv h
  obtain ⟨b1, r1, e1, h⟩ := pj_pl_inv h
  obtain ⟨r0, e0, h⟩ := pj_pr_inv h
  obtain ⟨e9, h⟩ := pj_pe_inv h
  rw [e1, e0, e9]
  exact mj_wp_sub (mj_sub_cons g0 (mj_sub_cons g1 (mj_sub_cons g2 (mj_sub_cons g3 (mj_sub_nil hd))))) (hf _ _ _ _ _ _ _ _ h)
theorem pu_X3_trim_132 {lf : pj_Z → mj_M} {a : Unit × pj_Z} (f : Int32 → Int32 → pj_F (Unit × pj_Z)) (hf : ∀ (a2 : Int32) (a3 : Int32) (s : Nat → Int32) (l : Nat → Int64) (x : Nat → Int32) (y : Nat → Int64), f a2 a3 s l x y = some a → pm_Gd 1 3009 ie_X3_trim.1 pm_rU lf 132 [(0, .ref 83), (2, .int a2), (3, .int a3)] [.ref 83] (s, l, x, y) a) : pm_Ex 1 3009 ie_X3_trim.1 pm_rU lf a 132 (pe_X3_trim_132 f) := by
  intro lv st z hd h
  obtain ⟨g0, h⟩ := pj_xr_inv h
  obtain ⟨a2, g2, h⟩ := pj_xi_inv h
  obtain ⟨a3, g3, h⟩ := pj_xi_inv h
  obtain ⟨r0, e0, h⟩ := pj_pr_inv h
  obtain ⟨e9, h⟩ := pj_pe_inv h
  rw [e0, e9]
  exact mj_wp_sub (mj_sub_cons g0 (mj_sub_cons g2 (mj_sub_cons g3 (mj_sub_nil hd)))) (hf _ _ _ _ _ _ h)
theorem pu_X3_trim_133 {lf : pj_Z → mj_M} {a : Unit × pj_Z} (f : Int32 → Int32 → Int32 → pj_F (Unit × pj_Z)) (hf : ∀ (a2 : Int32) (a3 : Int32) (b1 : Int32) (s : Nat → Int32) (l : Nat → Int64) (x : Nat → Int32) (y : Nat → Int64), f a2 a3 b1 s l x y = some a → pm_Gd 1 3009 ie_X3_trim.1 pm_rU lf 133 [(0, .ref 83), (2, .int a2), (3, .int a3)] [.int b1, .ref 83] (s, l, x, y) a) : pm_Ex 1 3009 ie_X3_trim.1 pm_rU lf a 133 (pe_X3_trim_133 f) := by
  intro lv st z hd h
  obtain ⟨g0, h⟩ := pj_xr_inv h
  obtain ⟨a2, g2, h⟩ := pj_xi_inv h
  obtain ⟨a3, g3, h⟩ := pj_xi_inv h
  obtain ⟨b1, r1, e1, h⟩ := pj_pi_inv h
  obtain ⟨r0, e0, h⟩ := pj_pr_inv h
  obtain ⟨e9, h⟩ := pj_pe_inv h
  rw [e1, e0, e9]
  exact mj_wp_sub (mj_sub_cons g0 (mj_sub_cons g2 (mj_sub_cons g3 (mj_sub_nil hd)))) (hf _ _ _ _ _ _ _ h)
theorem pu_X3_trim_177 {lf : pj_Z → mj_M} {a : Unit × pj_Z} (f : Int32 → Int32 → Int32 → pj_F (Unit × pj_Z)) (hf : ∀ (a2 : Int32) (a3 : Int32) (b0 : Int32) (s : Nat → Int32) (l : Nat → Int64) (x : Nat → Int32) (y : Nat → Int64), f a2 a3 b0 s l x y = some a → pm_Gd 1 3009 ie_X3_trim.1 pm_rU lf 177 [(0, .ref 83), (2, .int a2), (3, .int a3)] [.int b0] (s, l, x, y) a) : pm_Ex 1 3009 ie_X3_trim.1 pm_rU lf a 177 (pe_X3_trim_177 f) := by
  intro lv st z hd h
  obtain ⟨g0, h⟩ := pj_xr_inv h
  obtain ⟨a2, g2, h⟩ := pj_xi_inv h
  obtain ⟨a3, g3, h⟩ := pj_xi_inv h
  obtain ⟨b0, r0, e0, h⟩ := pj_pi_inv h
  obtain ⟨e9, h⟩ := pj_pe_inv h
  rw [e0, e9]
  exact mj_wp_sub (mj_sub_cons g0 (mj_sub_cons g2 (mj_sub_cons g3 (mj_sub_nil hd)))) (hf _ _ _ _ _ _ _ h)
theorem pu_X3_trim_202 {lf : pj_Z → mj_M} {a : Unit × pj_Z} (f : Int32 → Int32 → pj_F (Unit × pj_Z)) (hf : ∀ (a2 : Int32) (a3 : Int32) (s : Nat → Int32) (l : Nat → Int64) (x : Nat → Int32) (y : Nat → Int64), f a2 a3 s l x y = some a → pm_Gd 1 3009 ie_X3_trim.1 pm_rU lf 202 [(0, .ref 83), (2, .int a2), (3, .int a3)] [] (s, l, x, y) a) : pm_Ex 1 3009 ie_X3_trim.1 pm_rU lf a 202 (pe_X3_trim_202 f) := by
  intro lv st z hd h
  obtain ⟨g0, h⟩ := pj_xr_inv h
  obtain ⟨a2, g2, h⟩ := pj_xi_inv h
  obtain ⟨a3, g3, h⟩ := pj_xi_inv h
  obtain ⟨e9, h⟩ := pj_pe_inv h
  rw [e9]
  exact mj_wp_sub (mj_sub_cons g0 (mj_sub_cons g2 (mj_sub_cons g3 (mj_sub_nil hd)))) (hf _ _ _ _ _ _ h)
set_option maxRecDepth 100000 in
theorem pz_X3_trim {lf : pj_Z → mj_M} (hT : pj_Lt pj_TC lf) : pj_Cok ic_P (mj_R ic_P 1) 3009 ie_X3_trim.1 (pm_OK lf pm_rU) lf px_X3_trim := by
  exact pm_cok (c := px_X3_trim) (pm_part hT (pj_as_all (p := fun b e => pj_TC b = some e) (List.forall_mem_cons.mpr ⟨rfl, (List.forall_mem_cons.mpr ⟨rfl, (fun _ h => by cases h)⟩)⟩))) (pm_in_ok (L := [(9, 3, 19, 2, true), (59, 3, 14, 3, false), (62, 3, 15, 0, false), (65, 3, 16, 0, false), (68, 3, 17, 0, false), (71, 3, 18, 0, false)]) (f := mj_pF ic_P 3009) (by decide +kernel)) (fun _ _ h => by cases h) (fun _ _ h => by cases h) (fun _ _ h => by cases h) rfl rfl ⟨by decide, rfl⟩ pm_mU (pj_as_all (p := pm_Cl 1 3009 ie_X3_trim.1 lf (pm_OK lf pm_rU)) (List.forall_mem_cons.mpr ⟨fun _ _ lv st z K a hK h => pc_J9_min_7cf53 (pm_none hT) (by decide) (ix := 102) rfl rfl hK h, (List.forall_mem_cons.mpr ⟨fun _ _ lv st z K a hK h => pc_X11_clip hT (by decide) (ix := 82) rfl rfl hK h, (List.forall_mem_cons.mpr ⟨fun _ _ lv st z K a hK h => pc_X11_clip hT (by decide) (ix := 82) rfl rfl hK h, (fun _ h => by cases h)⟩)⟩)⟩)) (fun _ h => by cases h)
set_option maxRecDepth 100000 in
theorem pb_X3_trim : pm_bks ie_X3_trim.1.2.2.2.2 pk_X3_trim = true := by decide +kernel
set_option maxRecDepth 100000 in
theorem pg_X3_trim_202 {lf : pj_Z → mj_M} (hT : pj_Lt pj_TC lf) : ∀ (a2 : Int32) (a3 : Int32) (s : Nat → Int32) (l : Nat → Int64) (x : Nat → Int32) (y : Nat → Int64) (a : Unit × pj_Z), pl_X3_trim_202 a2 a3 s l x y = some a → pm_Gd 1 3009 ie_X3_trim.1 pm_rU lf 202 [(0, .ref 83), (2, .int a2), (3, .int a3)] [] (s, l, x, y) a := by
  intro a2 a3 s l x y a h
  exact pm_run ((pq_X3_trim_202  a2 a3 s l x y).symm.trans h) (pz_X3_trim hT) (pm_bks_ok pb_X3_trim) (pm_bks_ok pb_X3_trim _ _ rfl) (pm_ndb_ok rfl) (fun _ _ h => by cases h)
set_option maxRecDepth 100000 in
theorem pg_X3_trim_177 {lf : pj_Z → mj_M} (hT : pj_Lt pj_TC lf) : ∀ (a2 : Int32) (a3 : Int32) (b0 : Int32) (s : Nat → Int32) (l : Nat → Int64) (x : Nat → Int32) (y : Nat → Int64) (a : Unit × pj_Z), pl_X3_trim_177 a2 a3 b0 s l x y = some a → pm_Gd 1 3009 ie_X3_trim.1 pm_rU lf 177 [(0, .ref 83), (2, .int a2), (3, .int a3)] [.int b0] (s, l, x, y) a := by
  intro a2 a3 b0 s l x y a h
  exact pm_run ((pq_X3_trim_177  a2 a3 b0 s l x y).symm.trans h) (pz_X3_trim hT) (pm_bks_ok pb_X3_trim) (pm_bks_ok pb_X3_trim _ _ rfl) (pm_ndb_ok rfl) (pj_as_all (p := pm_Ex 1 3009 ie_X3_trim.1 pm_rU lf a) (List.forall_mem_cons.mpr ⟨pu_X3_trim_202 _ (fun c0 c1 s l x y h => pg_X3_trim_202 hT c0 c1 s l x y _ h), (fun _ h => by cases h)⟩))
set_option maxRecDepth 100000 in
theorem pg_X3_trim_133 {lf : pj_Z → mj_M} (hT : pj_Lt pj_TC lf) : ∀ (a2 : Int32) (a3 : Int32) (b1 : Int32) (s : Nat → Int32) (l : Nat → Int64) (x : Nat → Int32) (y : Nat → Int64) (a : Unit × pj_Z), pl_X3_trim_133 a2 a3 b1 s l x y = some a → pm_Gd 1 3009 ie_X3_trim.1 pm_rU lf 133 [(0, .ref 83), (2, .int a2), (3, .int a3)] [.int b1, .ref 83] (s, l, x, y) a := by
  intro a2 a3 b1 s l x y a h
  exact pm_run ((pq_X3_trim_133  a2 a3 b1 s l x y).symm.trans h) (pz_X3_trim hT) (pm_bks_ok pb_X3_trim) (pm_bks_ok pb_X3_trim _ _ rfl) (pm_ndb_ok rfl) (pj_as_all (p := pm_Ex 1 3009 ie_X3_trim.1 pm_rU lf a) (List.forall_mem_cons.mpr ⟨pu_X3_trim_177 _ (fun c0 c1 c2 s l x y h => pg_X3_trim_177 hT c0 c1 c2 s l x y _ h), (List.forall_mem_cons.mpr ⟨pu_X3_trim_202 _ (fun c0 c1 s l x y h => pg_X3_trim_202 hT c0 c1 s l x y _ h), (fun _ h => by cases h)⟩)⟩))
set_option maxRecDepth 100000 in
theorem pg_X3_trim_132 {lf : pj_Z → mj_M} (hT : pj_Lt pj_TC lf) : ∀ (a2 : Int32) (a3 : Int32) (s : Nat → Int32) (l : Nat → Int64) (x : Nat → Int32) (y : Nat → Int64) (a : Unit × pj_Z), pl_X3_trim_132 a2 a3 s l x y = some a → pm_Gd 1 3009 ie_X3_trim.1 pm_rU lf 132 [(0, .ref 83), (2, .int a2), (3, .int a3)] [.ref 83] (s, l, x, y) a := by
  intro a2 a3 s l x y a h
  exact pm_run ((pq_X3_trim_132  a2 a3 s l x y).symm.trans h) (pz_X3_trim hT) (pm_bks_ok pb_X3_trim) (pm_bks_ok pb_X3_trim _ _ rfl) (pm_ndb_ok rfl) (pj_as_all (p := pm_Ex 1 3009 ie_X3_trim.1 pm_rU lf a) (List.forall_mem_cons.mpr ⟨pu_X3_trim_133 _ (fun c0 c1 c2 s l x y h => pg_X3_trim_133 hT c0 c1 c2 s l x y _ h), (fun _ h => by cases h)⟩))
set_option maxRecDepth 100000 in
theorem pg_X3_trim_98 {lf : pj_Z → mj_M} (hT : pj_Lt pj_TC lf) : ∀ (a1 : Int32) (a2 : Int32) (a3 : Int32) (b1 : Int64) (s : Nat → Int32) (l : Nat → Int64) (x : Nat → Int32) (y : Nat → Int64) (a : Unit × pj_Z), pl_X3_trim_98 a1 a2 a3 b1 s l x y = some a → pm_Gd 1 3009 ie_X3_trim.1 pm_rU lf 98 [(0, .ref 83), (1, .int a1), (2, .int a2), (3, .int a3)] [.long b1, .ref 83] (s, l, x, y) a := by
  intro a1 a2 a3 b1 s l x y a h
  exact pm_run ((pq_X3_trim_98  a1 a2 a3 b1 s l x y).symm.trans h) (pz_X3_trim hT) (pm_bks_ok pb_X3_trim) (pm_bks_ok pb_X3_trim _ _ rfl) (pm_ndb_ok rfl) (pj_as_all (p := pm_Ex 1 3009 ie_X3_trim.1 pm_rU lf a) (List.forall_mem_cons.mpr ⟨pu_X3_trim_132 _ (fun c0 c1 s l x y h => pg_X3_trim_132 hT c0 c1 s l x y _ h), (List.forall_mem_cons.mpr ⟨pu_X3_trim_133 _ (fun c0 c1 c2 s l x y h => pg_X3_trim_133 hT c0 c1 c2 s l x y _ h), (fun _ h => by cases h)⟩)⟩))
set_option maxRecDepth 100000 in
theorem pg_X3_trim_71 {lf : pj_Z → mj_M} (hT : pj_Lt pj_TC lf) : ∀ (a1 : Int32) (a2 : Int32) (a3 : Int32) (a6 : Int32) (b1 : Int32) (s : Nat → Int32) (l : Nat → Int64) (x : Nat → Int32) (y : Nat → Int64) (a : Unit × pj_Z), pl_X3_trim_71 a1 a2 a3 a6 b1 s l x y = some a → pm_Gd 1 3009 ie_X3_trim.1 pm_rU lf 71 [(0, .ref 83), (1, .int a1), (2, .int a2), (3, .int a3), (6, .int a6)] [.int b1, .ref 83] (s, l, x, y) a := by
  intro a1 a2 a3 a6 b1 s l x y a h
  exact pm_run ((pq_X3_trim_71  a1 a2 a3 a6 b1 s l x y).symm.trans h) (pz_X3_trim hT) (pm_bks_ok pb_X3_trim) (pm_bks_ok pb_X3_trim _ _ rfl) (pm_ndb_ok rfl) (pj_as_all (p := pm_Ex 1 3009 ie_X3_trim.1 pm_rU lf a) (List.forall_mem_cons.mpr ⟨pu_X3_trim_98 _ (fun c0 c1 c2 c3 s l x y h => pg_X3_trim_98 hT c0 c1 c2 c3 s l x y _ h), (fun _ h => by cases h)⟩))
set_option maxRecDepth 100000 in
theorem pg_X3_trim_47 {lf : pj_Z → mj_M} (hT : pj_Lt pj_TC lf) : ∀ (a1 : Int32) (a2 : Int32) (a3 : Int32) (a5 : Int32) (b0 : Int32) (s : Nat → Int32) (l : Nat → Int64) (x : Nat → Int32) (y : Nat → Int64) (a : Unit × pj_Z), pl_X3_trim_47 a1 a2 a3 a5 b0 s l x y = some a → pm_Gd 1 3009 ie_X3_trim.1 pm_rU lf 47 [(0, .ref 83), (1, .int a1), (2, .int a2), (3, .int a3), (5, .int a5)] [.int b0] (s, l, x, y) a := by
  intro a1 a2 a3 a5 b0 s l x y a h
  exact pm_run ((pq_X3_trim_47  a1 a2 a3 a5 b0 s l x y).symm.trans h) (pz_X3_trim hT) (pm_bks_ok pb_X3_trim) (pm_bks_ok pb_X3_trim _ _ rfl) (pm_ndb_ok rfl) (pj_as_all (p := pm_Ex 1 3009 ie_X3_trim.1 pm_rU lf a) (List.forall_mem_cons.mpr ⟨pu_X3_trim_71 _ (fun c0 c1 c2 c3 c4 s l x y h => pg_X3_trim_71 hT c0 c1 c2 c3 c4 s l x y _ h), (fun _ h => by cases h)⟩))
set_option maxRecDepth 100000 in
theorem pg_X3_trim_31 {lf : pj_Z → mj_M} (hT : pj_Lt pj_TC lf) : ∀ (a1 : Int32) (a2 : Int32) (a3 : Int32) (a4 : Int32) (b0 : Int32) (s : Nat → Int32) (l : Nat → Int64) (x : Nat → Int32) (y : Nat → Int64) (a : Unit × pj_Z), pl_X3_trim_31 a1 a2 a3 a4 b0 s l x y = some a → pm_Gd 1 3009 ie_X3_trim.1 pm_rU lf 31 [(0, .ref 83), (1, .int a1), (2, .int a2), (3, .int a3), (4, .int a4)] [.int b0] (s, l, x, y) a := by
  intro a1 a2 a3 a4 b0 s l x y a h
  exact pm_run ((pq_X3_trim_31  a1 a2 a3 a4 b0 s l x y).symm.trans h) (pz_X3_trim hT) (pm_bks_ok pb_X3_trim) (pm_bks_ok pb_X3_trim _ _ rfl) (pm_ndb_ok rfl) (pj_as_all (p := pm_Ex 1 3009 ie_X3_trim.1 pm_rU lf a) (List.forall_mem_cons.mpr ⟨pu_X3_trim_47 _ (fun c0 c1 c2 c3 c4 s l x y h => pg_X3_trim_47 hT c0 c1 c2 c3 c4 s l x y _ h), (fun _ h => by cases h)⟩))
set_option maxRecDepth 100000 in
theorem pg_X3_trim_30 {lf : pj_Z → mj_M} (hT : pj_Lt pj_TC lf) : ∀ (a1 : Int32) (a2 : Int32) (a3 : Int32) (a4 : Int32) (s : Nat → Int32) (l : Nat → Int64) (x : Nat → Int32) (y : Nat → Int64) (a : Unit × pj_Z), pl_X3_trim_30 a1 a2 a3 a4 s l x y = some a → pm_Gd 1 3009 ie_X3_trim.1 pm_rU lf 30 [(0, .ref 83), (1, .int a1), (2, .int a2), (3, .int a3), (4, .int a4)] [] (s, l, x, y) a := by
  intro a1 a2 a3 a4 s l x y a h
  exact pm_run ((pq_X3_trim_30  a1 a2 a3 a4 s l x y).symm.trans h) (pz_X3_trim hT) (pm_bks_ok pb_X3_trim) (pm_bks_ok pb_X3_trim _ _ rfl) (pm_ndb_ok rfl) (pj_as_all (p := pm_Ex 1 3009 ie_X3_trim.1 pm_rU lf a) (List.forall_mem_cons.mpr ⟨pu_X3_trim_31 _ (fun c0 c1 c2 c3 c4 s l x y h => pg_X3_trim_31 hT c0 c1 c2 c3 c4 s l x y _ h), (fun _ h => by cases h)⟩))
set_option maxRecDepth 100000 in
theorem pm_X3_trim {lf : pj_Z → mj_M} (hT : pj_Lt pj_TC lf) (a1 : Int32) (a2 : Int32) (a3 : Int32) (a4 : Int32) (s : Nat → Int32) (l : Nat → Int64) (x : Nat → Int32) (y : Nat → Int64) (a : Unit × pj_Z) (h : pf_X3_trim a1 a2 a3 a4 s l x y = some a) : mj_R ic_P 2 3009 [.ref 83, .int a1, .int a2, .int a3, .int a4] (lf (s, l, x, y)) (pm_rU a.1) (lf a.2) := by
  refine pm_main (Y := ie_X3_trim.1) rfl (Nat.le_of_ble_eq_true rfl) ?_
  exact pm_run ((pq_X3_trim_m a1 a2 a3 a4 s l x y).symm.trans h) (pz_X3_trim hT) (pm_bks_ok pb_X3_trim) (pm_bks_ok pb_X3_trim _ _ rfl) (pm_ndb_ok rfl) (pj_as_all (p := pm_Ex 1 3009 ie_X3_trim.1 pm_rU lf a) (List.forall_mem_cons.mpr ⟨pu_X3_trim_30 _ (fun c0 c1 c2 c3 s l x y h => pg_X3_trim_30 hT c0 c1 c2 c3 s l x y _ h), (List.forall_mem_cons.mpr ⟨pu_X3_trim_31 _ (fun c0 c1 c2 c3 c4 s l x y h => pg_X3_trim_31 hT c0 c1 c2 c3 c4 s l x y _ h), (fun _ h => by cases h)⟩)⟩))
abbrev ph_X3_trim {A : Type} : List pj_V → pj_Z → (List pj_V → pj_Z → Option A) → Option A := fun st z K => pj_pi st fun a4 st => pj_pi st fun a3 st => pj_pi st fun a2 st => pj_pi st fun a1 st => pj_pr st 83 0 fun st => pj_ps st (pj_b (pf_X3_trim a1 a2 a3 a4 z.1 z.2.1 z.2.2.1 z.2.2.2) fun r s l x y => K st (s, l, x, y))
set_option maxRecDepth 100000 in
theorem pc_X3_trim {A : Type} {OK : A → Option Value → mj_M → Prop} {d j pc ix : Nat} {Y : mj_Y} {lf : pj_Z → mj_M} (hT : pj_Lt pj_TC lf) (hd : 2 ≤ d) (hl : mj_lk Y.2.2.2.2 pc = some (.invokevirtual ix, 3)) (hg : mj_pG ic_P j ix = some (3009, 4, some 3)) {lv : List (Nat × Value)} {st : List pj_V} {z : pj_Z} {K : List pj_V → pj_Z → Option A} {a : A} (hK : ∀ st z, K st z = some a → pj_Gd ic_P (mj_R ic_P d) j Y OK lf (pc + 3) lv (pj_es st) z a) (h : ph_X3_trim st z K = some a) : pj_Gd ic_P (mj_R ic_P d) j Y OK lf pc lv (pj_es st) z a := by
  obtain ⟨a4, r4, e4, h⟩ := pj_pi_inv h
  obtain ⟨a3, r3, e3, h⟩ := pj_pi_inv h
  obtain ⟨a2, r2, e2, h⟩ := pj_pi_inv h
  obtain ⟨a1, r1, e1, h⟩ := pj_pi_inv h
  obtain ⟨r0, e0, h⟩ := pj_pr_inv h
  obtain ⟨hs, h⟩ := pj_ps_inv h
  obtain ⟨q, hq, h⟩ := pj_b_inv h
  exact pm_cv (o := 83) hl hg [.int a1, .int a2, .int a3, .int a4] rfl (by rw [e4, e3, e2, e1, e0]; rfl) hs (by decide) ((hT.2 83 _ rfl).1.2 z 0 (by decide)) (pm_rU q.1) hd (pm_X3_trim hT a1 a2 a3 a4 z.1 z.2.1 z.2.2.1 z.2.2.2 q hq) rfl (hK _ _ h)
abbrev pe_X3_relax_28 (f : Int32 → Int32 → pj_F (Unit × pj_Z)) : pj_K (Unit × pj_Z) := fun lv st z => pj_xr lv 0 83 0 <| pj_pi st fun b2 st => pj_pi st fun b1 st => pj_pr st 83 0 fun st => pj_pe st (f b1 b2 z.1 z.2.1 z.2.2.1 z.2.2.2)
abbrev px_X3_relax : pj_C (Unit × pj_Z) := ((pj_as [(83, 3, 20, 1, 0, true, 0, [(0, 29), (0, 30), (1, 14), (1, 15), (0, 31), (0, 32), (0, 33), (0, 34), (0, 35), (0, 36), (0, 37), (0, 38), (0, 39), (0, 40), (1, 16), (1, 17), (0, 41), (0, 42), (0, 43), (2, 84)])]), (pj_as [(65, 3, 16, 0, false), (68, 3, 17, 0, false), (71, 3, 18, 0, false)]), (fun _ => none), (fun _ => none), (fun _ => none), ic_X, 1, 0, pj_mU, (fun _ => none), fun _ => false)
abbrev pk_X3_relax : List (Nat × List (Nat × Instr × Nat)) := [(0, [(0, .aload_n 0, 1), (1, .dup, 1), (2, .getfield 71, 3), (5, .aload_n 0, 1), (6, .getfield 71, 3), (9, .ifCond .le 7, 3)]), (12, [(12, .iconst (-1), 1), (13, .goto 15, 3)]), (16, [(16, .aload_n 0, 1), (17, .getfield 71, 3), (20, .ifCond .ge 7, 3)]), (23, [(23, .iconst 1, 1), (24, .goto 4, 3)]), (27, [(27, .iconst 0, 1)]), (28, [(28, .iadd, 1), (29, .putfield 71, 3), (32, .aload_n 0, 1), (33, .iconst 0, 1), (34, .putfield 65, 3), (37, .aload_n 0, 1), (38, .iconst 0, 1), (39, .putfield 68, 3), (42, .return_, 1)])]
set_option maxRecDepth 100000 in
theorem pq_X3_relax_28  (b1 : Int32) (b2 : Int32) (s : Nat → Int32) (l : Nat → Int64) (x : Nat → Int32) (y : Nat → Int64) : pl_X3_relax_28 b1 b2 s l x y = pj_bl px_X3_relax (pj_rn px_X3_relax (pj_as pk_X3_relax) (fun _ => none) 60) [(28, .iadd, 1), (29, .putfield 71, 3), (32, .aload_n 0, 1), (33, .iconst 0, 1), (34, .putfield 65, 3), (37, .aload_n 0, 1), (38, .iconst 0, 1), (39, .putfield 68, 3), (42, .return_, 1)] 28 [(0, pj_O (83, 0))] [pj_I b2, pj_I b1, pj_O (83, 0)] (s, l, x, y) := rfl
set_option maxRecDepth 100000 in
theorem pq_X3_relax_m   (s : Nat → Int32) (l : Nat → Int64) (x : Nat → Int32) (y : Nat → Int64) : pf_X3_relax  s l x y = pj_bl px_X3_relax (pj_rn px_X3_relax (pj_as pk_X3_relax) (pj_as [(28, pe_X3_relax_28 (pl_X3_relax_28))]) 60) [(0, .aload_n 0, 1), (1, .dup, 1), (2, .getfield 71, 3), (5, .aload_n 0, 1), (6, .getfield 71, 3), (9, .ifCond .le 7, 3)] 0 [(0, pj_O (83, 0))] [] (s, l, x, y) := rfl
theorem pu_X3_relax_28 {lf : pj_Z → mj_M} {a : Unit × pj_Z} (f : Int32 → Int32 → pj_F (Unit × pj_Z)) (hf : ∀ (b1 : Int32) (b2 : Int32) (s : Nat → Int32) (l : Nat → Int64) (x : Nat → Int32) (y : Nat → Int64), f b1 b2 s l x y = some a → pm_Gd 0 3010 ie_X3_relax.1 pm_rU lf 28 [(0, .ref 83)] [.int b2, .int b1, .ref 83] (s, l, x, y) a) : pm_Ex 0 3010 ie_X3_relax.1 pm_rU lf a 28 (pe_X3_relax_28 f) := by
  intro lv st z hd h
  obtain ⟨g0, h⟩ := pj_xr_inv h
  obtain ⟨b2, r2, e2, h⟩ := pj_pi_inv h
  obtain ⟨b1, r1, e1, h⟩ := pj_pi_inv h
  obtain ⟨r0, e0, h⟩ := pj_pr_inv h
  obtain ⟨e9, h⟩ := pj_pe_inv h
  rw [e2, e1, e0, e9]
  exact mj_wp_sub (mj_sub_cons g0 (mj_sub_nil hd)) (hf _ _ _ _ _ _ h)
set_option maxRecDepth 100000 in
theorem pz_X3_relax {lf : pj_Z → mj_M} (hT : pj_Lt pj_TC lf) : pj_Cok ic_P (mj_R ic_P 0) 3010 ie_X3_relax.1 (pm_OK lf pm_rU) lf px_X3_relax := by
  exact pm_cok (c := px_X3_relax) (pm_part hT (pj_as_all (p := fun b e => pj_TC b = some e) (List.forall_mem_cons.mpr ⟨rfl, (fun _ h => by cases h)⟩))) (pm_in_ok (L := [(65, 3, 16, 0, false), (68, 3, 17, 0, false), (71, 3, 18, 0, false)]) (f := mj_pF ic_P 3010) (by decide +kernel)) (fun _ _ h => by cases h) (fun _ _ h => by cases h) (fun _ _ h => by cases h) rfl rfl ⟨by decide, rfl⟩ pm_mU (fun _ _ h => by cases h) (fun _ h => by cases h)
set_option maxRecDepth 100000 in
theorem pb_X3_relax : pm_bks ie_X3_relax.1.2.2.2.2 pk_X3_relax = true := by decide +kernel
set_option maxRecDepth 100000 in
theorem pg_X3_relax_28 {lf : pj_Z → mj_M} (hT : pj_Lt pj_TC lf) : ∀ (b1 : Int32) (b2 : Int32) (s : Nat → Int32) (l : Nat → Int64) (x : Nat → Int32) (y : Nat → Int64) (a : Unit × pj_Z), pl_X3_relax_28 b1 b2 s l x y = some a → pm_Gd 0 3010 ie_X3_relax.1 pm_rU lf 28 [(0, .ref 83)] [.int b2, .int b1, .ref 83] (s, l, x, y) a := by
  intro b1 b2 s l x y a h
  exact pm_run ((pq_X3_relax_28  b1 b2 s l x y).symm.trans h) (pz_X3_relax hT) (pm_bks_ok pb_X3_relax) (pm_bks_ok pb_X3_relax _ _ rfl) (pm_ndb_ok rfl) (fun _ _ h => by cases h)
set_option maxRecDepth 100000 in
theorem pm_X3_relax {lf : pj_Z → mj_M} (hT : pj_Lt pj_TC lf)  (s : Nat → Int32) (l : Nat → Int64) (x : Nat → Int32) (y : Nat → Int64) (a : Unit × pj_Z) (h : pf_X3_relax  s l x y = some a) : mj_R ic_P 1 3010 [.ref 83] (lf (s, l, x, y)) (pm_rU a.1) (lf a.2) := by
  refine pm_main (Y := ie_X3_relax.1) rfl (Nat.le_of_ble_eq_true rfl) ?_
  exact pm_run ((pq_X3_relax_m  s l x y).symm.trans h) (pz_X3_relax hT) (pm_bks_ok pb_X3_relax) (pm_bks_ok pb_X3_relax _ _ rfl) (pm_ndb_ok rfl) (pj_as_all (p := pm_Ex 0 3010 ie_X3_relax.1 pm_rU lf a) (List.forall_mem_cons.mpr ⟨pu_X3_relax_28 _ (fun c0 c1 s l x y h => pg_X3_relax_28 hT c0 c1 s l x y _ h), (fun _ h => by cases h)⟩))
abbrev ph_X3_relax {A : Type} : List pj_V → pj_Z → (List pj_V → pj_Z → Option A) → Option A := fun st z K => pj_pr st 83 0 fun st => pj_ps st (pj_b (pf_X3_relax  z.1 z.2.1 z.2.2.1 z.2.2.2) fun r s l x y => K st (s, l, x, y))
set_option maxRecDepth 100000 in
theorem pc_X3_relax {A : Type} {OK : A → Option Value → mj_M → Prop} {d j pc ix : Nat} {Y : mj_Y} {lf : pj_Z → mj_M} (hT : pj_Lt pj_TC lf) (hd : 1 ≤ d) (hl : mj_lk Y.2.2.2.2 pc = some (.invokevirtual ix, 3)) (hg : mj_pG ic_P j ix = some (3010, 0, some 3)) {lv : List (Nat × Value)} {st : List pj_V} {z : pj_Z} {K : List pj_V → pj_Z → Option A} {a : A} (hK : ∀ st z, K st z = some a → pj_Gd ic_P (mj_R ic_P d) j Y OK lf (pc + 3) lv (pj_es st) z a) (h : ph_X3_relax st z K = some a) : pj_Gd ic_P (mj_R ic_P d) j Y OK lf pc lv (pj_es st) z a := by
  obtain ⟨r0, e0, h⟩ := pj_pr_inv h
  obtain ⟨hs, h⟩ := pj_ps_inv h
  obtain ⟨q, hq, h⟩ := pj_b_inv h
  exact pm_cv (o := 83) hl hg [] rfl (by rw [e0]; rfl) hs (by decide) ((hT.2 83 _ rfl).1.2 z 0 (by decide)) (pm_rU q.1) hd (pm_X3_relax hT  z.1 z.2.1 z.2.2.1 z.2.2.2 q hq) rfl (hK _ _ h)
abbrev pe_X11_trimMixture_126 (f : Int32 → pj_F (Unit × pj_Z)) : pj_K (Unit × pj_Z) := fun lv st z => pj_xr lv 0 0 0 <| pj_xi lv 1 fun a1 => pj_pr st 83 0 fun st => pj_pe st (f a1 z.1 z.2.1 z.2.2.1 z.2.2.2)
abbrev pe_X11_trimMixture_127 (f : Int32 → Int32 → pj_F (Unit × pj_Z)) : pj_K (Unit × pj_Z) := fun lv st z => pj_xr lv 0 0 0 <| pj_xi lv 1 fun a1 => pj_pi st fun b1 st => pj_pr st 83 0 fun st => pj_pe st (f a1 b1 z.1 z.2.1 z.2.2.1 z.2.2.2)
abbrev pe_X11_trimMixture_166 (f : Int32 → Int32 → pj_F (Unit × pj_Z)) : pj_K (Unit × pj_Z) := fun lv st z => pj_xr lv 0 0 0 <| pj_pi st fun b2 st => pj_pi st fun b1 st => pj_pr st 83 0 fun st => pj_pe st (f b1 b2 z.1 z.2.1 z.2.2.1 z.2.2.2)
abbrev px_X11_trimMixture : pj_C (Unit × pj_Z) := ((pj_as [(0, 11, 17, 1, 0, true, 0, [(2, 1), (2, 20), (2, 58), (2, 68), (2, 82), (2, 83), (2, 85), (2, 96), (2, 102), (2, 106), (2, 122), (0, 93), (0, 94), (0, 95), (1, 1), (1, 2), (0, 96)]), (1, 4, 10, 1, 0, true, 0, [(2, 2), (2, 3), (2, 8), (2, 11), (2, 14), (2, 17), (2, 18), (2, 19), (0, 44), (1, 3)]), (2, 100, 24, 1, 0, true, 10000, []), (20, 7, 11, 1, 0, true, 0, [(2, 21), (2, 35), (2, 49), (2, 50), (2, 51), (2, 52), (2, 53), (2, 54), (2, 55), (2, 56), (2, 57)]), (55, 100, 10, 1, 0, true, 34000, []), (57, 102, 10, 1, 0, true, 36000, []), (58, 2, 19, 1, 0, true, 0, [(0, 19), (0, 20), (1, 4), (1, 5), (1, 6), (1, 7), (0, 21), (0, 22), (0, 23), (0, 24), (0, 25), (2, 59), (2, 63), (0, 26), (1, 8), (1, 9), (1, 10), (0, 27), (0, 28)]), (82, 9, 18, 1, 0, true, 0, [(0, 71), (0, 72), (1, 12), (0, 73), (0, 74), (0, 75), (0, 76), (0, 77), (0, 78), (0, 79), (0, 80), (1, 13), (0, 81), (0, 82), (0, 83), (0, 84), (0, 85), (0, 86)]), (83, 3, 20, 1, 0, true, 0, [(0, 29), (0, 30), (1, 14), (1, 15), (0, 31), (0, 32), (0, 33), (0, 34), (0, 35), (0, 36), (0, 37), (0, 38), (0, 39), (0, 40), (1, 16), (1, 17), (0, 41), (0, 42), (0, 43), (2, 84)])]), (pj_as [(10, 11, 0, 2, true), (19, 11, 1, 2, true), (26, 11, 2, 2, true), (40, 11, 4, 2, true), (47, 11, 5, 2, true), (90, 11, 12, 0, false), (127, 2, 0, 0, false), (287, 4, 0, 2, true), (400, 7, 8, 2, true), (406, 7, 10, 2, true), (628, 2, 3, 0, false), (631, 2, 18, 3, false), (667, 3, 9, 3, false), (679, 9, 5, 0, false), (761, 3, 13, 3, false)]), (fun _ => none), (fun _ => none), (fun _ => none), ic_X, 2, 0, pj_mU, (pj_as [(167, ph_X11_cellAtHand), (180, ph_X3_trim), (190, ph_X3_relax)]), fun _ => false)
abbrev pk_X11_trimMixture : List (Nat × List (Nat × Instr × Nat)) := [(0, [(0, .aload_n 0, 1), (1, .getfield 47, 3), (4, .getfield 761, 3), (7, .istore_n 1, 1), (8, .aload_n 0, 1), (9, .getfield 47, 3), (12, .aload_n 0, 1), (13, .getfield 90, 3), (16, .iconst 1, 1), (17, .if_icmp .ne 109, 3)]), (20, [(20, .aload_n 0, 1), (21, .getfield 26, 3), (24, .getfield 127, 3), (27, .iconst 3, 1), (28, .if_icmp .ne 98, 3)]), (31, [(31, .aload_n 0, 1), (32, .getfield 19, 3), (35, .getfield 400, 3), (38, .iconst 5, 1), (39, .iaload, 1), (40, .aload_n 0, 1), (41, .getfield 10, 3), (44, .getfield 287, 3), (47, .bipush 13, 2), (49, .iaload, 1), (50, .if_icmp .lt 76, 3)]), (53, [(53, .aload_n 0, 1), (54, .getfield 19, 3), (57, .getfield 406, 3), (60, .bipush 7, 2), (62, .baload, 1), (63, .ifCond .ne 63, 3)]), (66, [(66, .aload_n 0, 1), (67, .getfield 26, 3), (70, .getfield 631, 3), (73, .ifCond .ne 53, 3)]), (76, [(76, .aload_n 0, 1), (77, .getfield 47, 3), (80, .getfield 667, 3), (83, .ifCond .ne 43, 3)]), (86, [(86, .aload_n 0, 1), (87, .getfield 26, 3), (90, .getfield 628, 3), (93, .sipush 500, 3), (96, .if_icmp .lt 30, 3)]), (99, [(99, .aload_n 0, 1), (100, .getfield 26, 3), (103, .getfield 628, 3), (106, .sipush 4500, 3), (109, .if_icmp .gt 17, 3)]), (112, [(112, .aload_n 0, 1), (113, .getfield 40, 3), (116, .getfield 679, 3), (119, .ifCond .ne 7, 3)]), (122, [(122, .iconst 1, 1), (123, .goto 4, 3)]), (126, [(126, .iconst 0, 1)]), (127, [(127, .putfield 761, 3), (130, .aload_n 0, 1), (131, .getfield 47, 3), (134, .getfield 761, 3), (137, .ifCond .eq 49, 3)]), (140, [(140, .aload_n 0, 1), (141, .getfield 47, 3), (144, .iload_n 1, 1), (145, .aload_n 0, 1), (146, .getfield 19, 3), (149, .getfield 400, 3), (152, .bipush 7, 2), (154, .iaload, 1), (155, .sipush 450, 3), (158, .if_icmp .le 7, 3)]), (161, [(161, .iconst 1, 1), (162, .goto 4, 3)]), (165, [(165, .iconst 0, 1)]), (166, [(166, .aload_n 0, 1), (167, .invokevirtual 688, 3), (170, .aload_n 0, 1), (171, .getfield 10, 3), (174, .getfield 287, 3), (177, .bipush 12, 2), (179, .iaload, 1), (180, .invokevirtual 764, 3), (183, .goto 10, 3)]), (186, [(186, .aload_n 0, 1), (187, .getfield 47, 3), (190, .invokevirtual 768, 3)]), (193, [(193, .return_, 1)])]
set_option maxRecDepth 100000 in
theorem pq_X11_trimMixture_166  (b1 : Int32) (b2 : Int32) (s : Nat → Int32) (l : Nat → Int64) (x : Nat → Int32) (y : Nat → Int64) : pl_X11_trimMixture_166 b1 b2 s l x y = pj_bl px_X11_trimMixture (pj_rn px_X11_trimMixture (pj_as pk_X11_trimMixture) (fun _ => none) 60) [(166, .aload_n 0, 1), (167, .invokevirtual 688, 3), (170, .aload_n 0, 1), (171, .getfield 10, 3), (174, .getfield 287, 3), (177, .bipush 12, 2), (179, .iaload, 1), (180, .invokevirtual 764, 3), (183, .goto 10, 3)] 166 [(0, pj_O (0, 0))] [pj_I b2, pj_I b1, pj_O (83, 0)] (s, l, x, y) := rfl
set_option maxRecDepth 100000 in
theorem pq_X11_trimMixture_127  (a1 : Int32) (b1 : Int32) (s : Nat → Int32) (l : Nat → Int64) (x : Nat → Int32) (y : Nat → Int64) : pl_X11_trimMixture_127 a1 b1 s l x y = pj_bl px_X11_trimMixture (pj_rn px_X11_trimMixture (pj_as pk_X11_trimMixture) (pj_as [(166, pe_X11_trimMixture_166 (pl_X11_trimMixture_166))]) 60) [(127, .putfield 761, 3), (130, .aload_n 0, 1), (131, .getfield 47, 3), (134, .getfield 761, 3), (137, .ifCond .eq 49, 3)] 127 [(0, pj_O (0, 0)), (1, pj_I a1)] [pj_I b1, pj_O (83, 0)] (s, l, x, y) := rfl
set_option maxRecDepth 100000 in
theorem pq_X11_trimMixture_126  (a1 : Int32) (s : Nat → Int32) (l : Nat → Int64) (x : Nat → Int32) (y : Nat → Int64) : pl_X11_trimMixture_126 a1 s l x y = pj_bl px_X11_trimMixture (pj_rn px_X11_trimMixture (pj_as pk_X11_trimMixture) (pj_as [(127, pe_X11_trimMixture_127 (pl_X11_trimMixture_127))]) 60) [(126, .iconst 0, 1)] 126 [(0, pj_O (0, 0)), (1, pj_I a1)] [pj_O (83, 0)] (s, l, x, y) := rfl
set_option maxRecDepth 100000 in
theorem pq_X11_trimMixture_m   (s : Nat → Int32) (l : Nat → Int64) (x : Nat → Int32) (y : Nat → Int64) : pf_X11_trimMixture  s l x y = pj_bl px_X11_trimMixture (pj_rn px_X11_trimMixture (pj_as pk_X11_trimMixture) (pj_as [(126, pe_X11_trimMixture_126 (pl_X11_trimMixture_126)), (127, pe_X11_trimMixture_127 (pl_X11_trimMixture_127))]) 60) [(0, .aload_n 0, 1), (1, .getfield 47, 3), (4, .getfield 761, 3), (7, .istore_n 1, 1), (8, .aload_n 0, 1), (9, .getfield 47, 3), (12, .aload_n 0, 1), (13, .getfield 90, 3), (16, .iconst 1, 1), (17, .if_icmp .ne 109, 3)] 0 [(0, pj_O (0, 0))] [] (s, l, x, y) := rfl
theorem pu_X11_trimMixture_126 {lf : pj_Z → mj_M} {a : Unit × pj_Z} (f : Int32 → pj_F (Unit × pj_Z)) (hf : ∀ (a1 : Int32) (s : Nat → Int32) (l : Nat → Int64) (x : Nat → Int32) (y : Nat → Int64), f a1 s l x y = some a → pm_Gd 2 11074 ie_X11_trimMixture.1 pm_rU lf 126 [(0, .ref 0), (1, .int a1)] [.ref 83] (s, l, x, y) a) : pm_Ex 2 11074 ie_X11_trimMixture.1 pm_rU lf a 126 (pe_X11_trimMixture_126 f) := by
  intro lv st z hd h
  obtain ⟨g0, h⟩ := pj_xr_inv h
  obtain ⟨a1, g1, h⟩ := pj_xi_inv h
  obtain ⟨r0, e0, h⟩ := pj_pr_inv h
  obtain ⟨e9, h⟩ := pj_pe_inv h
  rw [e0, e9]
  exact mj_wp_sub (mj_sub_cons g0 (mj_sub_cons g1 (mj_sub_nil hd))) (hf _ _ _ _ _ h)
theorem pu_X11_trimMixture_127 {lf : pj_Z → mj_M} {a : Unit × pj_Z} (f : Int32 → Int32 → pj_F (Unit × pj_Z)) (hf : ∀ (a1 : Int32) (b1 : Int32) (s : Nat → Int32) (l : Nat → Int64) (x : Nat → Int32) (y : Nat → Int64), f a1 b1 s l x y = some a → pm_Gd 2 11074 ie_X11_trimMixture.1 pm_rU lf 127 [(0, .ref 0), (1, .int a1)] [.int b1, .ref 83] (s, l, x, y) a) : pm_Ex 2 11074 ie_X11_trimMixture.1 pm_rU lf a 127 (pe_X11_trimMixture_127 f) := by
  intro lv st z hd h
  obtain ⟨g0, h⟩ := pj_xr_inv h
  obtain ⟨a1, g1, h⟩ := pj_xi_inv h
  obtain ⟨b1, r1, e1, h⟩ := pj_pi_inv h
  obtain ⟨r0, e0, h⟩ := pj_pr_inv h
  obtain ⟨e9, h⟩ := pj_pe_inv h
  rw [e1, e0, e9]
  exact mj_wp_sub (mj_sub_cons g0 (mj_sub_cons g1 (mj_sub_nil hd))) (hf _ _ _ _ _ _ h)
theorem pu_X11_trimMixture_166 {lf : pj_Z → mj_M} {a : Unit × pj_Z} (f : Int32 → Int32 → pj_F (Unit × pj_Z)) (hf : ∀ (b1 : Int32) (b2 : Int32) (s : Nat → Int32) (l : Nat → Int64) (x : Nat → Int32) (y : Nat → Int64), f b1 b2 s l x y = some a → pm_Gd 2 11074 ie_X11_trimMixture.1 pm_rU lf 166 [(0, .ref 0)] [.int b2, .int b1, .ref 83] (s, l, x, y) a) : pm_Ex 2 11074 ie_X11_trimMixture.1 pm_rU lf a 166 (pe_X11_trimMixture_166 f) := by
  intro lv st z hd h
  obtain ⟨g0, h⟩ := pj_xr_inv h
  obtain ⟨b2, r2, e2, h⟩ := pj_pi_inv h
  obtain ⟨b1, r1, e1, h⟩ := pj_pi_inv h
  obtain ⟨r0, e0, h⟩ := pj_pr_inv h
  obtain ⟨e9, h⟩ := pj_pe_inv h
  rw [e2, e1, e0, e9]
  exact mj_wp_sub (mj_sub_cons g0 (mj_sub_nil hd)) (hf _ _ _ _ _ _ h)
set_option maxRecDepth 100000 in
theorem pz_X11_trimMixture {lf : pj_Z → mj_M} (hT : pj_Lt pj_TC lf) : pj_Cok ic_P (mj_R ic_P 2) 11074 ie_X11_trimMixture.1 (pm_OK lf pm_rU) lf px_X11_trimMixture := by
  exact pm_cok (c := px_X11_trimMixture) (pm_part hT (pj_as_all (p := fun b e => pj_TC b = some e) (List.forall_mem_cons.mpr ⟨rfl, (List.forall_mem_cons.mpr ⟨rfl, (List.forall_mem_cons.mpr ⟨rfl, (List.forall_mem_cons.mpr ⟨rfl, (List.forall_mem_cons.mpr ⟨rfl, (List.forall_mem_cons.mpr ⟨rfl, (List.forall_mem_cons.mpr ⟨rfl, (List.forall_mem_cons.mpr ⟨rfl, (List.forall_mem_cons.mpr ⟨rfl, (fun _ h => by cases h)⟩)⟩)⟩)⟩)⟩)⟩)⟩)⟩)⟩))) (pm_in_ok (L := [(10, 11, 0, 2, true), (19, 11, 1, 2, true), (26, 11, 2, 2, true), (40, 11, 4, 2, true), (47, 11, 5, 2, true), (90, 11, 12, 0, false), (127, 2, 0, 0, false), (287, 4, 0, 2, true), (400, 7, 8, 2, true), (406, 7, 10, 2, true), (628, 2, 3, 0, false), (631, 2, 18, 3, false), (667, 3, 9, 3, false), (679, 9, 5, 0, false), (761, 3, 13, 3, false)]) (f := mj_pF ic_P 11074) (by decide +kernel)) (fun _ _ h => by cases h) (fun _ _ h => by cases h) (fun _ _ h => by cases h) rfl rfl ⟨by decide, rfl⟩ pm_mU (pj_as_all (p := pm_Cl 2 11074 ie_X11_trimMixture.1 lf (pm_OK lf pm_rU)) (List.forall_mem_cons.mpr ⟨fun _ _ lv st z K a hK h => pc_X11_cellAtHand hT (by decide) (ix := 688) rfl rfl hK h, (List.forall_mem_cons.mpr ⟨fun _ _ lv st z K a hK h => pc_X3_trim hT (by decide) (ix := 764) rfl rfl hK h, (List.forall_mem_cons.mpr ⟨fun _ _ lv st z K a hK h => pc_X3_relax hT (by decide) (ix := 768) rfl rfl hK h, (fun _ h => by cases h)⟩)⟩)⟩)) (fun _ h => by cases h)
set_option maxRecDepth 100000 in
theorem pb_X11_trimMixture : pm_bks ie_X11_trimMixture.1.2.2.2.2 pk_X11_trimMixture = true := by decide +kernel
set_option maxRecDepth 100000 in
theorem pg_X11_trimMixture_166 {lf : pj_Z → mj_M} (hT : pj_Lt pj_TC lf) : ∀ (b1 : Int32) (b2 : Int32) (s : Nat → Int32) (l : Nat → Int64) (x : Nat → Int32) (y : Nat → Int64) (a : Unit × pj_Z), pl_X11_trimMixture_166 b1 b2 s l x y = some a → pm_Gd 2 11074 ie_X11_trimMixture.1 pm_rU lf 166 [(0, .ref 0)] [.int b2, .int b1, .ref 83] (s, l, x, y) a := by
  intro b1 b2 s l x y a h
  exact pm_run ((pq_X11_trimMixture_166  b1 b2 s l x y).symm.trans h) (pz_X11_trimMixture hT) (pm_bks_ok pb_X11_trimMixture) (pm_bks_ok pb_X11_trimMixture _ _ rfl) (pm_ndb_ok rfl) (fun _ _ h => by cases h)
set_option maxRecDepth 100000 in
theorem pg_X11_trimMixture_127 {lf : pj_Z → mj_M} (hT : pj_Lt pj_TC lf) : ∀ (a1 : Int32) (b1 : Int32) (s : Nat → Int32) (l : Nat → Int64) (x : Nat → Int32) (y : Nat → Int64) (a : Unit × pj_Z), pl_X11_trimMixture_127 a1 b1 s l x y = some a → pm_Gd 2 11074 ie_X11_trimMixture.1 pm_rU lf 127 [(0, .ref 0), (1, .int a1)] [.int b1, .ref 83] (s, l, x, y) a := by
  intro a1 b1 s l x y a h
  exact pm_run ((pq_X11_trimMixture_127  a1 b1 s l x y).symm.trans h) (pz_X11_trimMixture hT) (pm_bks_ok pb_X11_trimMixture) (pm_bks_ok pb_X11_trimMixture _ _ rfl) (pm_ndb_ok rfl) (pj_as_all (p := pm_Ex 2 11074 ie_X11_trimMixture.1 pm_rU lf a) (List.forall_mem_cons.mpr ⟨pu_X11_trimMixture_166 _ (fun c0 c1 s l x y h => pg_X11_trimMixture_166 hT c0 c1 s l x y _ h), (fun _ h => by cases h)⟩))
set_option maxRecDepth 100000 in
theorem pg_X11_trimMixture_126 {lf : pj_Z → mj_M} (hT : pj_Lt pj_TC lf) : ∀ (a1 : Int32) (s : Nat → Int32) (l : Nat → Int64) (x : Nat → Int32) (y : Nat → Int64) (a : Unit × pj_Z), pl_X11_trimMixture_126 a1 s l x y = some a → pm_Gd 2 11074 ie_X11_trimMixture.1 pm_rU lf 126 [(0, .ref 0), (1, .int a1)] [.ref 83] (s, l, x, y) a := by
  intro a1 s l x y a h
  exact pm_run ((pq_X11_trimMixture_126  a1 s l x y).symm.trans h) (pz_X11_trimMixture hT) (pm_bks_ok pb_X11_trimMixture) (pm_bks_ok pb_X11_trimMixture _ _ rfl) (pm_ndb_ok rfl) (pj_as_all (p := pm_Ex 2 11074 ie_X11_trimMixture.1 pm_rU lf a) (List.forall_mem_cons.mpr ⟨pu_X11_trimMixture_127 _ (fun c0 c1 s l x y h => pg_X11_trimMixture_127 hT c0 c1 s l x y _ h), (fun _ h => by cases h)⟩))
set_option maxRecDepth 100000 in
theorem pm_X11_trimMixture {lf : pj_Z → mj_M} (hT : pj_Lt pj_TC lf)  (s : Nat → Int32) (l : Nat → Int64) (x : Nat → Int32) (y : Nat → Int64) (a : Unit × pj_Z) (h : pf_X11_trimMixture  s l x y = some a) : mj_R ic_P 3 11074 [.ref 0] (lf (s, l, x, y)) (pm_rU a.1) (lf a.2) := by
  refine pm_main (Y := ie_X11_trimMixture.1) rfl (Nat.le_of_ble_eq_true rfl) ?_
  exact pm_run ((pq_X11_trimMixture_m  s l x y).symm.trans h) (pz_X11_trimMixture hT) (pm_bks_ok pb_X11_trimMixture) (pm_bks_ok pb_X11_trimMixture _ _ rfl) (pm_ndb_ok rfl) (pj_as_all (p := pm_Ex 2 11074 ie_X11_trimMixture.1 pm_rU lf a) (List.forall_mem_cons.mpr ⟨pu_X11_trimMixture_126 _ (fun c0 s l x y h => pg_X11_trimMixture_126 hT c0 s l x y _ h), (List.forall_mem_cons.mpr ⟨pu_X11_trimMixture_127 _ (fun c0 c1 s l x y h => pg_X11_trimMixture_127 hT c0 c1 s l x y _ h), (fun _ h => by cases h)⟩)⟩))
abbrev ph_X11_trimMixture {A : Type} : List pj_V → pj_Z → (List pj_V → pj_Z → Option A) → Option A := fun st z K => pj_pr st 0 0 fun st => pj_ps st (pj_b (pf_X11_trimMixture  z.1 z.2.1 z.2.2.1 z.2.2.2) fun r s l x y => K st (s, l, x, y))
set_option maxRecDepth 100000 in
theorem pc_X11_trimMixture {A : Type} {OK : A → Option Value → mj_M → Prop} {d j pc ix : Nat} {Y : mj_Y} {lf : pj_Z → mj_M} (hT : pj_Lt pj_TC lf) (hd : 3 ≤ d) (hl : mj_lk Y.2.2.2.2 pc = some (.invokevirtual ix, 3)) (hg : mj_pG ic_P j ix = some (11074, 0, some 11)) {lv : List (Nat × Value)} {st : List pj_V} {z : pj_Z} {K : List pj_V → pj_Z → Option A} {a : A} (hK : ∀ st z, K st z = some a → pj_Gd ic_P (mj_R ic_P d) j Y OK lf (pc + 3) lv (pj_es st) z a) (h : ph_X11_trimMixture st z K = some a) : pj_Gd ic_P (mj_R ic_P d) j Y OK lf pc lv (pj_es st) z a := by
  obtain ⟨r0, e0, h⟩ := pj_pr_inv h
  obtain ⟨hs, h⟩ := pj_ps_inv h
  obtain ⟨q, hq, h⟩ := pj_b_inv h
  exact pm_cv (o := 0) hl hg [] rfl (by rw [e0]; rfl) hs (by decide) ((hT.2 0 _ rfl).1.2 z 0 (by decide)) (pm_rU q.1) hd (pm_X11_trimMixture hT  z.1 z.2.1 z.2.2.1 z.2.2.2 q hq) rfl (hK _ _ h)
abbrev pe_X10_countFail_36 (f : Int32 → pj_F (Int32 × pj_Z)) : pj_K (Int32 × pj_Z) := fun lv st z => pj_xr lv 0 85 0 <| pj_xi lv 1 fun a1 => pj_pe st (f a1 z.1 z.2.1 z.2.2.1 z.2.2.2)
abbrev pe_X10_countFail_71 (f : Int32 → pj_F (Int32 × pj_Z)) : pj_K (Int32 × pj_Z) := fun lv st z => pj_xr lv 0 85 0 <| pj_xi lv 1 fun a1 => pj_pe st (f a1 z.1 z.2.1 z.2.2.1 z.2.2.2)
abbrev pe_X10_countFail_80 (f : Int32 → pj_F (Int32 × pj_Z)) : pj_K (Int32 × pj_Z) := fun lv st z => pj_xr lv 0 85 0 <| pj_xi lv 1 fun a1 => pj_pe st (f a1 z.1 z.2.1 z.2.2.1 z.2.2.2)
abbrev pe_X10_countFail_89 (f : Int32 → pj_F (Int32 × pj_Z)) : pj_K (Int32 × pj_Z) := fun lv st z => pj_xr lv 0 85 0 <| pj_xi lv 1 fun a1 => pj_pe st (f a1 z.1 z.2.1 z.2.2.1 z.2.2.2)
abbrev px_X10_countFail : pj_C (Int32 × pj_Z) := ((pj_as [(85, 10, 8, 1, 0, true, 0, [(2, 86), (2, 95), (0, 87), (0, 88), (0, 89), (0, 90), (0, 91), (0, 92)]), (86, 103, 8, 1, 0, true, 87, []), (87, 100, 28, 8, 1, true, 40000, [])]), (pj_as [(11, 10, 0, 2, true)]), (fun _ => none), (fun _ => none), (fun _ => none), ic_X, 2, 2, pj_mI, (pj_as [(32, ph_J9_min_7cf53)]), fun _ => false)
abbrev pk_X10_countFail : List (Nat × List (Nat × Instr × Nat)) := [(0, [(0, .iload_n 1, 1), (1, .ifCond .lt 9, 3)]), (4, [(4, .iload_n 1, 1), (5, .bipush 28, 2), (7, .if_icmp .lt 5, 3)]), (10, [(10, .iconst 0, 1), (11, .ireturn, 1)]), (12, [(12, .aload_n 0, 1), (13, .getfield 11, 3), (16, .iconst 0, 1), (17, .aaload, 1), (18, .iload_n 1, 1), (19, .bipush 127, 2), (21, .aload_n 0, 1), (22, .getfield 11, 3), (25, .iconst 0, 1), (26, .aaload, 1), (27, .iload_n 1, 1), (28, .iaload, 1), (29, .bipush 32, 2), (31, .iadd, 1), (32, .invokestatic 49, 3), (35, .iastore, 1)]), (36, [(36, .aload_n 0, 1), (37, .getfield 11, 3), (40, .iconst 0, 1), (41, .aaload, 1), (42, .iload_n 1, 1), (43, .iaload, 1), (44, .bipush 127, 2), (46, .if_icmp .lt 14, 3)]), (49, [(49, .aload_n 0, 1), (50, .getfield 11, 3), (53, .iconst 1, 1), (54, .aaload, 1), (55, .iload_n 1, 1), (56, .iaload, 1), (57, .ifCond .eq 5, 3)]), (60, [(60, .iconst 0, 1), (61, .ireturn, 1)]), (62, [(62, .aload_n 0, 1), (63, .getfield 11, 3), (66, .iconst 1, 1), (67, .aaload, 1), (68, .iload_n 1, 1), (69, .iconst 1, 1), (70, .iastore, 1)]), (71, [(71, .aload_n 0, 1), (72, .getfield 11, 3), (75, .iconst 5, 1), (76, .aaload, 1), (77, .iload_n 1, 1), (78, .iconst 1, 1), (79, .iastore, 1)]), (80, [(80, .aload_n 0, 1), (81, .getfield 11, 3), (84, .iconst 2, 1), (85, .aaload, 1), (86, .iload_n 1, 1), (87, .iconst 1, 1), (88, .iastore, 1)]), (89, [(89, .aload_n 0, 1), (90, .getfield 11, 3), (93, .bipush 7, 2), (95, .aaload, 1), (96, .iload_n 1, 1), (97, .iaload, 1), (98, .ifCond .eq 21, 3)]), (101, [(101, .aload_n 0, 1), (102, .getfield 11, 3), (105, .iconst 3, 1), (106, .aaload, 1), (107, .iload_n 1, 1), (108, .iconst 1, 1), (109, .iastore, 1), (110, .aload_n 0, 1), (111, .getfield 11, 3), (114, .iconst 4, 1), (115, .aaload, 1), (116, .iload_n 1, 1), (117, .iconst 0, 1), (118, .iastore, 1)]), (119, [(119, .iconst 1, 1), (120, .ireturn, 1)])]
set_option maxRecDepth 100000 in
theorem pq_X10_countFail_89  (a1 : Int32) (s : Nat → Int32) (l : Nat → Int64) (x : Nat → Int32) (y : Nat → Int64) : pl_X10_countFail_89 a1 s l x y = pj_bl px_X10_countFail (pj_rn px_X10_countFail (pj_as pk_X10_countFail) (fun _ => none) 60) [(89, .aload_n 0, 1), (90, .getfield 11, 3), (93, .bipush 7, 2), (95, .aaload, 1), (96, .iload_n 1, 1), (97, .iaload, 1), (98, .ifCond .eq 21, 3)] 89 [(0, pj_O (85, 0)), (1, pj_I a1)] [] (s, l, x, y) := rfl
set_option maxRecDepth 100000 in
theorem pq_X10_countFail_80  (a1 : Int32) (s : Nat → Int32) (l : Nat → Int64) (x : Nat → Int32) (y : Nat → Int64) : pl_X10_countFail_80 a1 s l x y = pj_bl px_X10_countFail (pj_rn px_X10_countFail (pj_as pk_X10_countFail) (pj_as [(89, pe_X10_countFail_89 (pl_X10_countFail_89))]) 60) [(80, .aload_n 0, 1), (81, .getfield 11, 3), (84, .iconst 2, 1), (85, .aaload, 1), (86, .iload_n 1, 1), (87, .iconst 1, 1), (88, .iastore, 1)] 80 [(0, pj_O (85, 0)), (1, pj_I a1)] [] (s, l, x, y) := rfl
set_option maxRecDepth 100000 in
theorem pq_X10_countFail_71  (a1 : Int32) (s : Nat → Int32) (l : Nat → Int64) (x : Nat → Int32) (y : Nat → Int64) : pl_X10_countFail_71 a1 s l x y = pj_bl px_X10_countFail (pj_rn px_X10_countFail (pj_as pk_X10_countFail) (pj_as [(80, pe_X10_countFail_80 (pl_X10_countFail_80))]) 60) [(71, .aload_n 0, 1), (72, .getfield 11, 3), (75, .iconst 5, 1), (76, .aaload, 1), (77, .iload_n 1, 1), (78, .iconst 1, 1), (79, .iastore, 1)] 71 [(0, pj_O (85, 0)), (1, pj_I a1)] [] (s, l, x, y) := rfl
set_option maxRecDepth 100000 in
theorem pq_X10_countFail_36  (a1 : Int32) (s : Nat → Int32) (l : Nat → Int64) (x : Nat → Int32) (y : Nat → Int64) : pl_X10_countFail_36 a1 s l x y = pj_bl px_X10_countFail (pj_rn px_X10_countFail (pj_as pk_X10_countFail) (pj_as [(71, pe_X10_countFail_71 (pl_X10_countFail_71))]) 60) [(36, .aload_n 0, 1), (37, .getfield 11, 3), (40, .iconst 0, 1), (41, .aaload, 1), (42, .iload_n 1, 1), (43, .iaload, 1), (44, .bipush 127, 2), (46, .if_icmp .lt 14, 3)] 36 [(0, pj_O (85, 0)), (1, pj_I a1)] [] (s, l, x, y) := rfl
set_option maxRecDepth 100000 in
theorem pq_X10_countFail_m  (a1 : Int32) (s : Nat → Int32) (l : Nat → Int64) (x : Nat → Int32) (y : Nat → Int64) : pf_X10_countFail a1 s l x y = pj_bl px_X10_countFail (pj_rn px_X10_countFail (pj_as pk_X10_countFail) (pj_as [(36, pe_X10_countFail_36 (pl_X10_countFail_36))]) 60) [(0, .iload_n 1, 1), (1, .ifCond .lt 9, 3)] 0 [(0, pj_O (85, 0)), (1, pj_I a1)] [] (s, l, x, y) := rfl
theorem pu_X10_countFail_36 {lf : pj_Z → mj_M} {a : Int32 × pj_Z} (f : Int32 → pj_F (Int32 × pj_Z)) (hf : ∀ (a1 : Int32) (s : Nat → Int32) (l : Nat → Int64) (x : Nat → Int32) (y : Nat → Int64), f a1 s l x y = some a → pm_Gd 1 10004 ie_X10_countFail.1 pm_rI lf 36 [(0, .ref 85), (1, .int a1)] [] (s, l, x, y) a) : pm_Ex 1 10004 ie_X10_countFail.1 pm_rI lf a 36 (pe_X10_countFail_36 f) := by
  intro lv st z hd h
  obtain ⟨g0, h⟩ := pj_xr_inv h
  obtain ⟨a1, g1, h⟩ := pj_xi_inv h
  obtain ⟨e9, h⟩ := pj_pe_inv h
  rw [e9]
  exact mj_wp_sub (mj_sub_cons g0 (mj_sub_cons g1 (mj_sub_nil hd))) (hf _ _ _ _ _ h)
theorem pu_X10_countFail_71 {lf : pj_Z → mj_M} {a : Int32 × pj_Z} (f : Int32 → pj_F (Int32 × pj_Z)) (hf : ∀ (a1 : Int32) (s : Nat → Int32) (l : Nat → Int64) (x : Nat → Int32) (y : Nat → Int64), f a1 s l x y = some a → pm_Gd 1 10004 ie_X10_countFail.1 pm_rI lf 71 [(0, .ref 85), (1, .int a1)] [] (s, l, x, y) a) : pm_Ex 1 10004 ie_X10_countFail.1 pm_rI lf a 71 (pe_X10_countFail_71 f) := by
  intro lv st z hd h
  obtain ⟨g0, h⟩ := pj_xr_inv h
  obtain ⟨a1, g1, h⟩ := pj_xi_inv h
  obtain ⟨e9, h⟩ := pj_pe_inv h
  rw [e9]
  exact mj_wp_sub (mj_sub_cons g0 (mj_sub_cons g1 (mj_sub_nil hd))) (hf _ _ _ _ _ h)
theorem pu_X10_countFail_80 {lf : pj_Z → mj_M} {a : Int32 × pj_Z} (f : Int32 → pj_F (Int32 × pj_Z)) (hf : ∀ (a1 : Int32) (s : Nat → Int32) (l : Nat → Int64) (x : Nat → Int32) (y : Nat → Int64), f a1 s l x y = some a → pm_Gd 1 10004 ie_X10_countFail.1 pm_rI lf 80 [(0, .ref 85), (1, .int a1)] [] (s, l, x, y) a) : pm_Ex 1 10004 ie_X10_countFail.1 pm_rI lf a 80 (pe_X10_countFail_80 f) := by
  intro lv st z hd h
  obtain ⟨g0, h⟩ := pj_xr_inv h
  obtain ⟨a1, g1, h⟩ := pj_xi_inv h
  obtain ⟨e9, h⟩ := pj_pe_inv h
  rw [e9]
  exact mj_wp_sub (mj_sub_cons g0 (mj_sub_cons g1 (mj_sub_nil hd))) (hf _ _ _ _ _ h)
theorem pu_X10_countFail_89 {lf : pj_Z → mj_M} {a : Int32 × pj_Z} (f : Int32 → pj_F (Int32 × pj_Z)) (hf : ∀ (a1 : Int32) (s : Nat → Int32) (l : Nat → Int64) (x : Nat → Int32) (y : Nat → Int64), f a1 s l x y = some a → pm_Gd 1 10004 ie_X10_countFail.1 pm_rI lf 89 [(0, .ref 85), (1, .int a1)] [] (s, l, x, y) a) : pm_Ex 1 10004 ie_X10_countFail.1 pm_rI lf a 89 (pe_X10_countFail_89 f) := by
  intro lv st z hd h
  obtain ⟨g0, h⟩ := pj_xr_inv h
  obtain ⟨a1, g1, h⟩ := pj_xi_inv h
  obtain ⟨e9, h⟩ := pj_pe_inv h
  rw [e9]
  exact mj_wp_sub (mj_sub_cons g0 (mj_sub_cons g1 (mj_sub_nil hd))) (hf _ _ _ _ _ h)
set_option maxRecDepth 100000 in
theorem pz_X10_countFail {lf : pj_Z → mj_M} (hT : pj_Lt pj_TC lf) : pj_Cok ic_P (mj_R ic_P 1) 10004 ie_X10_countFail.1 (pm_OK lf pm_rI) lf px_X10_countFail := by
  exact pm_cok (c := px_X10_countFail) (pm_part hT (pj_as_all (p := fun b e => pj_TC b = some e) (List.forall_mem_cons.mpr ⟨rfl, (List.forall_mem_cons.mpr ⟨rfl, (List.forall_mem_cons.mpr ⟨rfl, (fun _ h => by cases h)⟩)⟩)⟩))) (pm_in_ok (L := [(11, 10, 0, 2, true)]) (f := mj_pF ic_P 10004) (by decide +kernel)) (fun _ _ h => by cases h) (fun _ _ h => by cases h) (fun _ _ h => by cases h) rfl rfl ⟨by decide, rfl⟩ pm_mI (pj_as_all (p := pm_Cl 1 10004 ie_X10_countFail.1 lf (pm_OK lf pm_rI)) (List.forall_mem_cons.mpr ⟨fun _ _ lv st z K a hK h => pc_J9_min_7cf53 (pm_none hT) (by decide) (ix := 49) rfl rfl hK h, (fun _ h => by cases h)⟩)) (fun _ h => by cases h)
set_option maxRecDepth 100000 in
theorem pb_X10_countFail : pm_bks ie_X10_countFail.1.2.2.2.2 pk_X10_countFail = true := by decide +kernel
set_option maxRecDepth 100000 in
theorem pg_X10_countFail_89 {lf : pj_Z → mj_M} (hT : pj_Lt pj_TC lf) : ∀ (a1 : Int32) (s : Nat → Int32) (l : Nat → Int64) (x : Nat → Int32) (y : Nat → Int64) (a : Int32 × pj_Z), pl_X10_countFail_89 a1 s l x y = some a → pm_Gd 1 10004 ie_X10_countFail.1 pm_rI lf 89 [(0, .ref 85), (1, .int a1)] [] (s, l, x, y) a := by
  intro a1 s l x y a h
  exact pm_run ((pq_X10_countFail_89  a1 s l x y).symm.trans h) (pz_X10_countFail hT) (pm_bks_ok pb_X10_countFail) (pm_bks_ok pb_X10_countFail _ _ rfl) (pm_ndb_ok rfl) (fun _ _ h => by cases h)
set_option maxRecDepth 100000 in
theorem pg_X10_countFail_80 {lf : pj_Z → mj_M} (hT : pj_Lt pj_TC lf) : ∀ (a1 : Int32) (s : Nat → Int32) (l : Nat → Int64) (x : Nat → Int32) (y : Nat → Int64) (a : Int32 × pj_Z), pl_X10_countFail_80 a1 s l x y = some a → pm_Gd 1 10004 ie_X10_countFail.1 pm_rI lf 80 [(0, .ref 85), (1, .int a1)] [] (s, l, x, y) a := by
  intro a1 s l x y a h
  exact pm_run ((pq_X10_countFail_80  a1 s l x y).symm.trans h) (pz_X10_countFail hT) (pm_bks_ok pb_X10_countFail) (pm_bks_ok pb_X10_countFail _ _ rfl) (pm_ndb_ok rfl) (pj_as_all (p := pm_Ex 1 10004 ie_X10_countFail.1 pm_rI lf a) (List.forall_mem_cons.mpr ⟨pu_X10_countFail_89 _ (fun c0 s l x y h => pg_X10_countFail_89 hT c0 s l x y _ h), (fun _ h => by cases h)⟩))
set_option maxRecDepth 100000 in
theorem pg_X10_countFail_71 {lf : pj_Z → mj_M} (hT : pj_Lt pj_TC lf) : ∀ (a1 : Int32) (s : Nat → Int32) (l : Nat → Int64) (x : Nat → Int32) (y : Nat → Int64) (a : Int32 × pj_Z), pl_X10_countFail_71 a1 s l x y = some a → pm_Gd 1 10004 ie_X10_countFail.1 pm_rI lf 71 [(0, .ref 85), (1, .int a1)] [] (s, l, x, y) a := by
  intro a1 s l x y a h
  exact pm_run ((pq_X10_countFail_71  a1 s l x y).symm.trans h) (pz_X10_countFail hT) (pm_bks_ok pb_X10_countFail) (pm_bks_ok pb_X10_countFail _ _ rfl) (pm_ndb_ok rfl) (pj_as_all (p := pm_Ex 1 10004 ie_X10_countFail.1 pm_rI lf a) (List.forall_mem_cons.mpr ⟨pu_X10_countFail_80 _ (fun c0 s l x y h => pg_X10_countFail_80 hT c0 s l x y _ h), (fun _ h => by cases h)⟩))
set_option maxRecDepth 100000 in
theorem pg_X10_countFail_36 {lf : pj_Z → mj_M} (hT : pj_Lt pj_TC lf) : ∀ (a1 : Int32) (s : Nat → Int32) (l : Nat → Int64) (x : Nat → Int32) (y : Nat → Int64) (a : Int32 × pj_Z), pl_X10_countFail_36 a1 s l x y = some a → pm_Gd 1 10004 ie_X10_countFail.1 pm_rI lf 36 [(0, .ref 85), (1, .int a1)] [] (s, l, x, y) a := by
  intro a1 s l x y a h
  exact pm_run ((pq_X10_countFail_36  a1 s l x y).symm.trans h) (pz_X10_countFail hT) (pm_bks_ok pb_X10_countFail) (pm_bks_ok pb_X10_countFail _ _ rfl) (pm_ndb_ok rfl) (pj_as_all (p := pm_Ex 1 10004 ie_X10_countFail.1 pm_rI lf a) (List.forall_mem_cons.mpr ⟨pu_X10_countFail_71 _ (fun c0 s l x y h => pg_X10_countFail_71 hT c0 s l x y _ h), (fun _ h => by cases h)⟩))
set_option maxRecDepth 100000 in
theorem pm_X10_countFail {lf : pj_Z → mj_M} (hT : pj_Lt pj_TC lf) (a1 : Int32) (s : Nat → Int32) (l : Nat → Int64) (x : Nat → Int32) (y : Nat → Int64) (a : Int32 × pj_Z) (h : pf_X10_countFail a1 s l x y = some a) : mj_R ic_P 2 10004 [.ref 85, .int a1] (lf (s, l, x, y)) (pm_rI a.1) (lf a.2) := by
  refine pm_main (Y := ie_X10_countFail.1) rfl (Nat.le_of_ble_eq_true rfl) ?_
  exact pm_run ((pq_X10_countFail_m a1 s l x y).symm.trans h) (pz_X10_countFail hT) (pm_bks_ok pb_X10_countFail) (pm_bks_ok pb_X10_countFail _ _ rfl) (pm_ndb_ok rfl) (pj_as_all (p := pm_Ex 1 10004 ie_X10_countFail.1 pm_rI lf a) (List.forall_mem_cons.mpr ⟨pu_X10_countFail_36 _ (fun c0 s l x y h => pg_X10_countFail_36 hT c0 s l x y _ h), (fun _ h => by cases h)⟩))
abbrev ph_X10_countFail {A : Type} : List pj_V → pj_Z → (List pj_V → pj_Z → Option A) → Option A := fun st z K => pj_pi st fun a1 st => pj_pr st 85 0 fun st => pj_ps st (pj_b (pf_X10_countFail a1 z.1 z.2.1 z.2.2.1 z.2.2.2) fun r s l x y => K (pj_I r :: st) (s, l, x, y))
set_option maxRecDepth 100000 in
theorem pc_X10_countFail {A : Type} {OK : A → Option Value → mj_M → Prop} {d j pc ix : Nat} {Y : mj_Y} {lf : pj_Z → mj_M} (hT : pj_Lt pj_TC lf) (hd : 2 ≤ d) (hl : mj_lk Y.2.2.2.2 pc = some (.invokevirtual ix, 3)) (hg : mj_pG ic_P j ix = some (10004, 1, some 10)) {lv : List (Nat × Value)} {st : List pj_V} {z : pj_Z} {K : List pj_V → pj_Z → Option A} {a : A} (hK : ∀ st z, K st z = some a → pj_Gd ic_P (mj_R ic_P d) j Y OK lf (pc + 3) lv (pj_es st) z a) (h : ph_X10_countFail st z K = some a) : pj_Gd ic_P (mj_R ic_P d) j Y OK lf pc lv (pj_es st) z a := by
  obtain ⟨a1, r1, e1, h⟩ := pj_pi_inv h
  obtain ⟨r0, e0, h⟩ := pj_pr_inv h
  obtain ⟨hs, h⟩ := pj_ps_inv h
  obtain ⟨q, hq, h⟩ := pj_b_inv h
  exact pm_cv (o := 85) hl hg [.int a1] rfl (by rw [e1, e0]; rfl) hs (by decide) ((hT.2 85 _ rfl).1.2 z 0 (by decide)) (pm_rI q.1) hd (pm_X10_countFail hT a1 z.1 z.2.1 z.2.2.1 z.2.2.2 q hq) rfl (hK _ _ h)
abbrev px_X11_fillView : pj_C (Unit × pj_Z) := ((pj_as [(0, 11, 17, 1, 0, true, 0, [(2, 1), (2, 20), (2, 58), (2, 68), (2, 82), (2, 83), (2, 85), (2, 96), (2, 102), (2, 106), (2, 122), (0, 93), (0, 94), (0, 95), (1, 1), (1, 2), (0, 96)]), (20, 7, 11, 1, 0, true, 0, [(2, 21), (2, 35), (2, 49), (2, 50), (2, 51), (2, 52), (2, 53), (2, 54), (2, 55), (2, 56), (2, 57)]), (55, 100, 10, 1, 0, true, 34000, []), (58, 2, 19, 1, 0, true, 0, [(0, 19), (0, 20), (1, 4), (1, 5), (1, 6), (1, 7), (0, 21), (0, 22), (0, 23), (0, 24), (0, 25), (2, 59), (2, 63), (0, 26), (1, 8), (1, 9), (1, 10), (0, 27), (0, 28)]), (82, 9, 18, 1, 0, true, 0, [(0, 71), (0, 72), (1, 12), (0, 73), (0, 74), (0, 75), (0, 76), (0, 77), (0, 78), (0, 79), (0, 80), (1, 13), (0, 81), (0, 82), (0, 83), (0, 84), (0, 85), (0, 86)]), (83, 3, 20, 1, 0, true, 0, [(0, 29), (0, 30), (1, 14), (1, 15), (0, 31), (0, 32), (0, 33), (0, 34), (0, 35), (0, 36), (0, 37), (0, 38), (0, 39), (0, 40), (1, 16), (1, 17), (0, 41), (0, 42), (0, 43), (2, 84)]), (84, 100, 16, 1, 0, true, 9000, []), (95, 100, 8, 1, 0, false, 8000, [])]), (pj_as [(19, 11, 1, 2, true), (26, 11, 2, 2, true), (40, 11, 4, 2, true), (47, 11, 5, 2, true), (400, 7, 8, 2, true), (454, 11, 14, 0, false), (628, 2, 3, 0, false), (682, 3, 18, 0, false), (685, 3, 19, 2, true), (774, 9, 1, 0, false)]), (fun _ => none), (fun _ => none), (fun _ => none), ic_X, 3, 0, pj_mU, (pj_as [(77, ph_X11_cellAtHand)]), fun _ => false)
abbrev pk_X11_fillView : List (Nat × List (Nat × Instr × Nat)) := [(0, [(0, .aload_n 2, 1), (1, .arraylength, 1), (2, .bipush 8, 2), (4, .if_icmp .ge 4, 3)]), (7, [(7, .return_, 1)]), (8, [(8, .aload_n 2, 1), (9, .iconst 0, 1), (10, .iload_n 1, 1), (11, .iastore, 1), (12, .aload_n 2, 1), (13, .iconst 1, 1), (14, .aload_n 0, 1), (15, .getfield 26, 3), (18, .getfield 628, 3), (21, .iastore, 1), (22, .aload_n 2, 1), (23, .iconst 2, 1), (24, .aload_n 0, 1), (25, .getfield 19, 3), (28, .getfield 400, 3), (31, .iconst 4, 1), (32, .iaload, 1), (33, .iastore, 1), (34, .aload_n 2, 1), (35, .iconst 3, 1), (36, .aload_n 0, 1), (37, .getfield 19, 3), (40, .getfield 400, 3), (43, .iconst 5, 1), (44, .iaload, 1), (45, .iastore, 1), (46, .aload_n 2, 1), (47, .iconst 4, 1), (48, .aload_n 0, 1), (49, .getfield 40, 3), (52, .getfield 774, 3), (55, .iastore, 1), (56, .aload_n 2, 1), (57, .iconst 5, 1), (58, .aload_n 0, 1), (59, .getfield 47, 3), (62, .getfield 682, 3), (65, .iastore, 1), (66, .aload_n 2, 1), (67, .bipush 6, 2), (69, .aload_n 0, 1), (70, .getfield 47, 3), (73, .getfield 685, 3), (76, .aload_n 0, 1), (77, .invokevirtual 688, 3), (80, .iaload, 1), (81, .iastore, 1), (82, .aload_n 2, 1), (83, .bipush 7, 2), (85, .aload_n 0, 1), (86, .getfield 454, 3), (89, .iastore, 1), (90, .return_, 1)])]
set_option maxRecDepth 100000 in
theorem pq_X11_fillView_m  (a1 : Int32) (s : Nat → Int32) (l : Nat → Int64) (x : Nat → Int32) (y : Nat → Int64) : pf_X11_fillView a1 s l x y = pj_bl px_X11_fillView (pj_rn px_X11_fillView (pj_as pk_X11_fillView) (fun _ => none) 60) [(0, .aload_n 2, 1), (1, .arraylength, 1), (2, .bipush 8, 2), (4, .if_icmp .ge 4, 3)] 0 [(0, pj_O (0, 0)), (1, pj_I a1), (2, pj_O (95, 0))] [] (s, l, x, y) := rfl
set_option maxRecDepth 100000 in
theorem pz_X11_fillView {lf : pj_Z → mj_M} (hT : pj_Lt pj_TC lf) : pj_Cok ic_P (mj_R ic_P 1) 11080 ie_X11_fillView.1 (pm_OK lf pm_rU) lf px_X11_fillView := by
  exact pm_cok (c := px_X11_fillView) (pm_part hT (pj_as_all (p := fun b e => pj_TC b = some e) (List.forall_mem_cons.mpr ⟨rfl, (List.forall_mem_cons.mpr ⟨rfl, (List.forall_mem_cons.mpr ⟨rfl, (List.forall_mem_cons.mpr ⟨rfl, (List.forall_mem_cons.mpr ⟨rfl, (List.forall_mem_cons.mpr ⟨rfl, (List.forall_mem_cons.mpr ⟨rfl, (List.forall_mem_cons.mpr ⟨rfl, (fun _ h => by cases h)⟩)⟩)⟩)⟩)⟩)⟩)⟩)⟩))) (pm_in_ok (L := [(19, 11, 1, 2, true), (26, 11, 2, 2, true), (40, 11, 4, 2, true), (47, 11, 5, 2, true), (400, 7, 8, 2, true), (454, 11, 14, 0, false), (628, 2, 3, 0, false), (682, 3, 18, 0, false), (685, 3, 19, 2, true), (774, 9, 1, 0, false)]) (f := mj_pF ic_P 11080) (by decide +kernel)) (fun _ _ h => by cases h) (fun _ _ h => by cases h) (fun _ _ h => by cases h) rfl rfl ⟨by decide, rfl⟩ pm_mU (pj_as_all (p := pm_Cl 1 11080 ie_X11_fillView.1 lf (pm_OK lf pm_rU)) (List.forall_mem_cons.mpr ⟨fun _ _ lv st z K a hK h => pc_X11_cellAtHand hT (by decide) (ix := 688) rfl rfl hK h, (fun _ h => by cases h)⟩)) (fun _ h => by cases h)
set_option maxRecDepth 100000 in
theorem pb_X11_fillView : pm_bks ie_X11_fillView.1.2.2.2.2 pk_X11_fillView = true := by decide +kernel
set_option maxRecDepth 100000 in
theorem pm_X11_fillView {lf : pj_Z → mj_M} (hT : pj_Lt pj_TC lf) (a1 : Int32) (s : Nat → Int32) (l : Nat → Int64) (x : Nat → Int32) (y : Nat → Int64) (a : Unit × pj_Z) (h : pf_X11_fillView a1 s l x y = some a) : mj_R ic_P 2 11080 [.ref 0, .int a1, .ref 95] (lf (s, l, x, y)) (pm_rU a.1) (lf a.2) := by
  refine pm_main (Y := ie_X11_fillView.1) rfl (Nat.le_of_ble_eq_true rfl) ?_
  exact pm_run ((pq_X11_fillView_m a1 s l x y).symm.trans h) (pz_X11_fillView hT) (pm_bks_ok pb_X11_fillView) (pm_bks_ok pb_X11_fillView _ _ rfl) (pm_ndb_ok rfl) (fun _ _ h => by cases h)
abbrev ph_X11_fillView {A : Type} : List pj_V → pj_Z → (List pj_V → pj_Z → Option A) → Option A := fun st z K => pj_pr st 95 0 fun st => pj_pi st fun a1 st => pj_pr st 0 0 fun st => pj_ps st (pj_b (pf_X11_fillView a1 z.1 z.2.1 z.2.2.1 z.2.2.2) fun r s l x y => K st (s, l, x, y))
set_option maxRecDepth 100000 in
theorem pc_X11_fillView {A : Type} {OK : A → Option Value → mj_M → Prop} {d j pc ix : Nat} {Y : mj_Y} {lf : pj_Z → mj_M} (hT : pj_Lt pj_TC lf) (hd : 2 ≤ d) (hl : mj_lk Y.2.2.2.2 pc = some (.invokevirtual ix, 3)) (hg : mj_pG ic_P j ix = some (11080, 2, some 11)) {lv : List (Nat × Value)} {st : List pj_V} {z : pj_Z} {K : List pj_V → pj_Z → Option A} {a : A} (hK : ∀ st z, K st z = some a → pj_Gd ic_P (mj_R ic_P d) j Y OK lf (pc + 3) lv (pj_es st) z a) (h : ph_X11_fillView st z K = some a) : pj_Gd ic_P (mj_R ic_P d) j Y OK lf pc lv (pj_es st) z a := by
  obtain ⟨r2, e2, h⟩ := pj_pr_inv h
  obtain ⟨a1, r1, e1, h⟩ := pj_pi_inv h
  obtain ⟨r0, e0, h⟩ := pj_pr_inv h
  obtain ⟨hs, h⟩ := pj_ps_inv h
  obtain ⟨q, hq, h⟩ := pj_b_inv h
  exact pm_cv (o := 0) hl hg [.int a1, .ref 95] rfl (by rw [e2, e1, e0]; rfl) hs (by decide) ((hT.2 0 _ rfl).1.2 z 0 (by decide)) (pm_rU q.1) hd (pm_X11_fillView hT a1 z.1 z.2.1 z.2.2.1 z.2.2.2 q hq) rfl (hK _ _ h)
abbrev pe_X10_countPass_34 (f : Int32 → pj_F (Unit × pj_Z)) : pj_K (Unit × pj_Z) := fun lv st z => pj_xr lv 0 85 0 <| pj_xi lv 1 fun a1 => pj_pe st (f a1 z.1 z.2.1 z.2.2.1 z.2.2.2)
abbrev px_X10_countPass : pj_C (Unit × pj_Z) := ((pj_as [(85, 10, 8, 1, 0, true, 0, [(2, 86), (2, 95), (0, 87), (0, 88), (0, 89), (0, 90), (0, 91), (0, 92)]), (86, 103, 8, 1, 0, true, 87, []), (87, 100, 28, 8, 1, true, 40000, [])]), (pj_as [(11, 10, 0, 2, true)]), (fun _ => none), (fun _ => none), (fun _ => none), ic_X, 2, 0, pj_mU, (pj_as [(30, ph_J9_max_7cf53)]), fun _ => false)
abbrev pk_X10_countPass : List (Nat × List (Nat × Instr × Nat)) := [(0, [(0, .iload_n 1, 1), (1, .ifCond .lt 9, 3)]), (4, [(4, .iload_n 1, 1), (5, .bipush 28, 2), (7, .if_icmp .lt 4, 3)]), (10, [(10, .return_, 1)]), (11, [(11, .aload_n 0, 1), (12, .getfield 11, 3), (15, .iconst 0, 1), (16, .aaload, 1), (17, .iload_n 1, 1), (18, .bipush (-128), 2), (20, .aload_n 0, 1), (21, .getfield 11, 3), (24, .iconst 0, 1), (25, .aaload, 1), (26, .iload_n 1, 1), (27, .iaload, 1), (28, .iconst 4, 1), (29, .isub, 1), (30, .invokestatic 55, 3), (33, .iastore, 1)]), (34, [(34, .aload_n 0, 1), (35, .getfield 11, 3), (38, .iconst 0, 1), (39, .aaload, 1), (40, .iload_n 1, 1), (41, .iaload, 1), (42, .bipush (-128), 2), (44, .if_icmp .ne 22, 3)]), (47, [(47, .aload_n 0, 1), (48, .getfield 11, 3), (51, .iconst 1, 1), (52, .aaload, 1), (53, .iload_n 1, 1), (54, .iconst 0, 1), (55, .iastore, 1), (56, .aload_n 0, 1), (57, .getfield 11, 3), (60, .bipush 6, 2), (62, .aaload, 1), (63, .iload_n 1, 1), (64, .iconst 1, 1), (65, .iastore, 1)]), (66, [(66, .return_, 1)])]
set_option maxRecDepth 100000 in
theorem pq_X10_countPass_34  (a1 : Int32) (s : Nat → Int32) (l : Nat → Int64) (x : Nat → Int32) (y : Nat → Int64) : pl_X10_countPass_34 a1 s l x y = pj_bl px_X10_countPass (pj_rn px_X10_countPass (pj_as pk_X10_countPass) (fun _ => none) 60) [(34, .aload_n 0, 1), (35, .getfield 11, 3), (38, .iconst 0, 1), (39, .aaload, 1), (40, .iload_n 1, 1), (41, .iaload, 1), (42, .bipush (-128), 2), (44, .if_icmp .ne 22, 3)] 34 [(0, pj_O (85, 0)), (1, pj_I a1)] [] (s, l, x, y) := rfl
set_option maxRecDepth 100000 in
theorem pq_X10_countPass_m  (a1 : Int32) (s : Nat → Int32) (l : Nat → Int64) (x : Nat → Int32) (y : Nat → Int64) : pf_X10_countPass a1 s l x y = pj_bl px_X10_countPass (pj_rn px_X10_countPass (pj_as pk_X10_countPass) (pj_as [(34, pe_X10_countPass_34 (pl_X10_countPass_34))]) 60) [(0, .iload_n 1, 1), (1, .ifCond .lt 9, 3)] 0 [(0, pj_O (85, 0)), (1, pj_I a1)] [] (s, l, x, y) := rfl
theorem pu_X10_countPass_34 {lf : pj_Z → mj_M} {a : Unit × pj_Z} (f : Int32 → pj_F (Unit × pj_Z)) (hf : ∀ (a1 : Int32) (s : Nat → Int32) (l : Nat → Int64) (x : Nat → Int32) (y : Nat → Int64), f a1 s l x y = some a → pm_Gd 1 10005 ie_X10_countPass.1 pm_rU lf 34 [(0, .ref 85), (1, .int a1)] [] (s, l, x, y) a) : pm_Ex 1 10005 ie_X10_countPass.1 pm_rU lf a 34 (pe_X10_countPass_34 f) := by
  intro lv st z hd h
  obtain ⟨g0, h⟩ := pj_xr_inv h
  obtain ⟨a1, g1, h⟩ := pj_xi_inv h
  obtain ⟨e9, h⟩ := pj_pe_inv h
  rw [e9]
  exact mj_wp_sub (mj_sub_cons g0 (mj_sub_cons g1 (mj_sub_nil hd))) (hf _ _ _ _ _ h)
set_option maxRecDepth 100000 in
theorem pz_X10_countPass {lf : pj_Z → mj_M} (hT : pj_Lt pj_TC lf) : pj_Cok ic_P (mj_R ic_P 1) 10005 ie_X10_countPass.1 (pm_OK lf pm_rU) lf px_X10_countPass := by
  exact pm_cok (c := px_X10_countPass) (pm_part hT (pj_as_all (p := fun b e => pj_TC b = some e) (List.forall_mem_cons.mpr ⟨rfl, (List.forall_mem_cons.mpr ⟨rfl, (List.forall_mem_cons.mpr ⟨rfl, (fun _ h => by cases h)⟩)⟩)⟩))) (pm_in_ok (L := [(11, 10, 0, 2, true)]) (f := mj_pF ic_P 10005) (by decide +kernel)) (fun _ _ h => by cases h) (fun _ _ h => by cases h) (fun _ _ h => by cases h) rfl rfl ⟨by decide, rfl⟩ pm_mU (pj_as_all (p := pm_Cl 1 10005 ie_X10_countPass.1 lf (pm_OK lf pm_rU)) (List.forall_mem_cons.mpr ⟨fun _ _ lv st z K a hK h => pc_J9_max_7cf53 (pm_none hT) (by decide) (ix := 55) rfl rfl hK h, (fun _ h => by cases h)⟩)) (fun _ h => by cases h)
set_option maxRecDepth 100000 in
theorem pb_X10_countPass : pm_bks ie_X10_countPass.1.2.2.2.2 pk_X10_countPass = true := by decide +kernel
set_option maxRecDepth 100000 in
theorem pg_X10_countPass_34 {lf : pj_Z → mj_M} (hT : pj_Lt pj_TC lf) : ∀ (a1 : Int32) (s : Nat → Int32) (l : Nat → Int64) (x : Nat → Int32) (y : Nat → Int64) (a : Unit × pj_Z), pl_X10_countPass_34 a1 s l x y = some a → pm_Gd 1 10005 ie_X10_countPass.1 pm_rU lf 34 [(0, .ref 85), (1, .int a1)] [] (s, l, x, y) a := by
  intro a1 s l x y a h
  exact pm_run ((pq_X10_countPass_34  a1 s l x y).symm.trans h) (pz_X10_countPass hT) (pm_bks_ok pb_X10_countPass) (pm_bks_ok pb_X10_countPass _ _ rfl) (pm_ndb_ok rfl) (fun _ _ h => by cases h)
set_option maxRecDepth 100000 in
theorem pm_X10_countPass {lf : pj_Z → mj_M} (hT : pj_Lt pj_TC lf) (a1 : Int32) (s : Nat → Int32) (l : Nat → Int64) (x : Nat → Int32) (y : Nat → Int64) (a : Unit × pj_Z) (h : pf_X10_countPass a1 s l x y = some a) : mj_R ic_P 2 10005 [.ref 85, .int a1] (lf (s, l, x, y)) (pm_rU a.1) (lf a.2) := by
  refine pm_main (Y := ie_X10_countPass.1) rfl (Nat.le_of_ble_eq_true rfl) ?_
  exact pm_run ((pq_X10_countPass_m a1 s l x y).symm.trans h) (pz_X10_countPass hT) (pm_bks_ok pb_X10_countPass) (pm_bks_ok pb_X10_countPass _ _ rfl) (pm_ndb_ok rfl) (pj_as_all (p := pm_Ex 1 10005 ie_X10_countPass.1 pm_rU lf a) (List.forall_mem_cons.mpr ⟨pu_X10_countPass_34 _ (fun c0 s l x y h => pg_X10_countPass_34 hT c0 s l x y _ h), (fun _ h => by cases h)⟩))
abbrev ph_X10_countPass {A : Type} : List pj_V → pj_Z → (List pj_V → pj_Z → Option A) → Option A := fun st z K => pj_pi st fun a1 st => pj_pr st 85 0 fun st => pj_ps st (pj_b (pf_X10_countPass a1 z.1 z.2.1 z.2.2.1 z.2.2.2) fun r s l x y => K st (s, l, x, y))
set_option maxRecDepth 100000 in
theorem pc_X10_countPass {A : Type} {OK : A → Option Value → mj_M → Prop} {d j pc ix : Nat} {Y : mj_Y} {lf : pj_Z → mj_M} (hT : pj_Lt pj_TC lf) (hd : 2 ≤ d) (hl : mj_lk Y.2.2.2.2 pc = some (.invokevirtual ix, 3)) (hg : mj_pG ic_P j ix = some (10005, 1, some 10)) {lv : List (Nat × Value)} {st : List pj_V} {z : pj_Z} {K : List pj_V → pj_Z → Option A} {a : A} (hK : ∀ st z, K st z = some a → pj_Gd ic_P (mj_R ic_P d) j Y OK lf (pc + 3) lv (pj_es st) z a) (h : ph_X10_countPass st z K = some a) : pj_Gd ic_P (mj_R ic_P d) j Y OK lf pc lv (pj_es st) z a := by
  obtain ⟨a1, r1, e1, h⟩ := pj_pi_inv h
  obtain ⟨r0, e0, h⟩ := pj_pr_inv h
  obtain ⟨hs, h⟩ := pj_ps_inv h
  obtain ⟨q, hq, h⟩ := pj_b_inv h
  exact pm_cv (o := 85) hl hg [.int a1] rfl (by rw [e1, e0]; rfl) hs (by decide) ((hT.2 85 _ rfl).1.2 z 0 (by decide)) (pm_rU q.1) hd (pm_X10_countPass hT a1 z.1 z.2.1 z.2.2.1 z.2.2.2 q hq) rfl (hK _ _ h)
abbrev px_X11_judge : pj_C (Unit × pj_Z) := ((pj_as [(0, 11, 17, 1, 0, true, 0, [(2, 1), (2, 20), (2, 58), (2, 68), (2, 82), (2, 83), (2, 85), (2, 96), (2, 102), (2, 106), (2, 122), (0, 93), (0, 94), (0, 95), (1, 1), (1, 2), (0, 96)]), (85, 10, 8, 1, 0, true, 0, [(2, 86), (2, 95), (0, 87), (0, 88), (0, 89), (0, 90), (0, 91), (0, 92)])]), (pj_as [(54, 11, 6, 2, true), (441, 10, 2, 3, false), (444, 10, 1, 2, true)]), (fun _ => none), (fun _ => none), (fun _ => none), ic_X, 4, 0, pj_mU, (pj_as [(20, ph_X10_countFail), (53, ph_X11_fillView), (68, ph_X10_countPass)]), fun _ => false)
abbrev pk_X11_judge : List (Nat × List (Nat × Instr × Nat)) := [(0, [(0, .iload_n 1, 1), (1, .ifCond .lt 9, 3)]), (4, [(4, .iload_n 1, 1), (5, .bipush 28, 2), (7, .if_icmp .lt 4, 3)]), (10, [(10, .return_, 1)]), (11, [(11, .iload_n 2, 1), (12, .ifCond .eq 47, 3)]), (15, [(15, .aload_n 0, 1), (16, .getfield 54, 3), (19, .iload_n 1, 1), (20, .invokevirtual 849, 3), (23, .ifCond .eq 48, 3)]), (26, [(26, .aload_n 0, 1), (27, .getfield 54, 3), (30, .getfield 441, 3), (33, .ifCond .ne 38, 3)]), (36, [(36, .aload_n 0, 1), (37, .getfield 54, 3), (40, .iconst 1, 1), (41, .putfield 441, 3), (44, .aload_n 0, 1), (45, .iload_n 1, 1), (46, .aload_n 0, 1), (47, .getfield 54, 3), (50, .getfield 444, 3), (53, .invokevirtual 852, 3), (56, .goto 15, 3)]), (59, [(59, .iload_n 3, 1), (60, .ifCond .eq 11, 3)]), (63, [(63, .aload_n 0, 1), (64, .getfield 54, 3), (67, .iload_n 1, 1), (68, .invokevirtual 855, 3)]), (71, [(71, .return_, 1)])]
set_option maxRecDepth 100000 in
theorem pq_X11_judge_m  (a1 : Int32) (a2 : Int32) (a3 : Int32) (s : Nat → Int32) (l : Nat → Int64) (x : Nat → Int32) (y : Nat → Int64) : pf_X11_judge a1 a2 a3 s l x y = pj_bl px_X11_judge (pj_rn px_X11_judge (pj_as pk_X11_judge) (fun _ => none) 60) [(0, .iload_n 1, 1), (1, .ifCond .lt 9, 3)] 0 [(0, pj_O (0, 0)), (1, pj_I a1), (2, pj_I a2), (3, pj_I a3)] [] (s, l, x, y) := rfl
set_option maxRecDepth 100000 in
theorem pz_X11_judge {lf : pj_Z → mj_M} (hT : pj_Lt pj_TC lf) : pj_Cok ic_P (mj_R ic_P 2) 11079 ie_X11_judge.1 (pm_OK lf pm_rU) lf px_X11_judge := by
  exact pm_cok (c := px_X11_judge) (pm_part hT (pj_as_all (p := fun b e => pj_TC b = some e) (List.forall_mem_cons.mpr ⟨rfl, (List.forall_mem_cons.mpr ⟨rfl, (fun _ h => by cases h)⟩)⟩))) (pm_in_ok (L := [(54, 11, 6, 2, true), (441, 10, 2, 3, false), (444, 10, 1, 2, true)]) (f := mj_pF ic_P 11079) (by decide +kernel)) (fun _ _ h => by cases h) (fun _ _ h => by cases h) (fun _ _ h => by cases h) rfl rfl ⟨by decide, rfl⟩ pm_mU (pj_as_all (p := pm_Cl 2 11079 ie_X11_judge.1 lf (pm_OK lf pm_rU)) (List.forall_mem_cons.mpr ⟨fun _ _ lv st z K a hK h => pc_X10_countFail hT (by decide) (ix := 849) rfl rfl hK h, (List.forall_mem_cons.mpr ⟨fun _ _ lv st z K a hK h => pc_X11_fillView hT (by decide) (ix := 852) rfl rfl hK h, (List.forall_mem_cons.mpr ⟨fun _ _ lv st z K a hK h => pc_X10_countPass hT (by decide) (ix := 855) rfl rfl hK h, (fun _ h => by cases h)⟩)⟩)⟩)) (fun _ h => by cases h)
set_option maxRecDepth 100000 in
theorem pb_X11_judge : pm_bks ie_X11_judge.1.2.2.2.2 pk_X11_judge = true := by decide +kernel
set_option maxRecDepth 100000 in
theorem pm_X11_judge {lf : pj_Z → mj_M} (hT : pj_Lt pj_TC lf) (a1 : Int32) (a2 : Int32) (a3 : Int32) (s : Nat → Int32) (l : Nat → Int64) (x : Nat → Int32) (y : Nat → Int64) (a : Unit × pj_Z) (h : pf_X11_judge a1 a2 a3 s l x y = some a) : mj_R ic_P 3 11079 [.ref 0, .int a1, .int a2, .int a3] (lf (s, l, x, y)) (pm_rU a.1) (lf a.2) := by
  refine pm_main (Y := ie_X11_judge.1) rfl (Nat.le_of_ble_eq_true rfl) ?_
  exact pm_run ((pq_X11_judge_m a1 a2 a3 s l x y).symm.trans h) (pz_X11_judge hT) (pm_bks_ok pb_X11_judge) (pm_bks_ok pb_X11_judge _ _ rfl) (pm_ndb_ok rfl) (fun _ _ h => by cases h)
abbrev ph_X11_judge {A : Type} : List pj_V → pj_Z → (List pj_V → pj_Z → Option A) → Option A := fun st z K => pj_pi st fun a3 st => pj_pi st fun a2 st => pj_pi st fun a1 st => pj_pr st 0 0 fun st => pj_ps st (pj_b (pf_X11_judge a1 a2 a3 z.1 z.2.1 z.2.2.1 z.2.2.2) fun r s l x y => K st (s, l, x, y))
set_option maxRecDepth 100000 in
theorem pc_X11_judge {A : Type} {OK : A → Option Value → mj_M → Prop} {d j pc ix : Nat} {Y : mj_Y} {lf : pj_Z → mj_M} (hT : pj_Lt pj_TC lf) (hd : 3 ≤ d) (hl : mj_lk Y.2.2.2.2 pc = some (.invokevirtual ix, 3)) (hg : mj_pG ic_P j ix = some (11079, 3, some 11)) {lv : List (Nat × Value)} {st : List pj_V} {z : pj_Z} {K : List pj_V → pj_Z → Option A} {a : A} (hK : ∀ st z, K st z = some a → pj_Gd ic_P (mj_R ic_P d) j Y OK lf (pc + 3) lv (pj_es st) z a) (h : ph_X11_judge st z K = some a) : pj_Gd ic_P (mj_R ic_P d) j Y OK lf pc lv (pj_es st) z a := by
  obtain ⟨a3, r3, e3, h⟩ := pj_pi_inv h
  obtain ⟨a2, r2, e2, h⟩ := pj_pi_inv h
  obtain ⟨a1, r1, e1, h⟩ := pj_pi_inv h
  obtain ⟨r0, e0, h⟩ := pj_pr_inv h
  obtain ⟨hs, h⟩ := pj_ps_inv h
  obtain ⟨q, hq, h⟩ := pj_b_inv h
  exact pm_cv (o := 0) hl hg [.int a1, .int a2, .int a3] rfl (by rw [e3, e2, e1, e0]; rfl) hs (by decide) ((hT.2 0 _ rfl).1.2 z 0 (by decide)) (pm_rU q.1) hd (pm_X11_judge hT a1 a2 a3 z.1 z.2.1 z.2.2.1 z.2.2.2 q hq) rfl (hK _ _ h)
abbrev pe_X11_testChannels_2 (f : Int32 → pj_F (Unit × pj_Z)) : pj_K (Unit × pj_Z) := fun lv st z => pj_xr lv 0 0 0 <| pj_xi lv 1 fun a1 => pj_pe st (f a1 z.1 z.2.1 z.2.2.1 z.2.2.2)
abbrev pe_X11_testChannels_36 (f : Int32 → Int32 → Int32 → Int32 → pj_F (Unit × pj_Z)) : pj_K (Unit × pj_Z) := fun lv st z => pj_xr lv 0 0 0 <| pj_xi lv 1 fun a1 => pj_pi st fun b3 st => pj_pi st fun b2 st => pj_pi st fun b1 st => pj_pr st 0 0 fun st => pj_pe st (f a1 b1 b2 b3 z.1 z.2.1 z.2.2.1 z.2.2.2)
abbrev pe_X11_testChannels_73 (f : pj_F (Unit × pj_Z)) : pj_K (Unit × pj_Z) := fun lv st z => pj_xr lv 0 0 0 <| pj_pe st (f  z.1 z.2.1 z.2.2.1 z.2.2.2)
abbrev pe_X11_testChannels_74 (f : Int32 → pj_F (Unit × pj_Z)) : pj_K (Unit × pj_Z) := fun lv st z => pj_xr lv 0 0 0 <| pj_pi st fun b0 st => pj_pe st (f b0 z.1 z.2.1 z.2.2.1 z.2.2.2)
abbrev pe_X11_testChannels_103 (f : Int32 → pj_F (Unit × pj_Z)) : pj_K (Unit × pj_Z) := fun lv st z => pj_xr lv 0 0 0 <| pj_xi lv 1 fun a1 => pj_pe st (f a1 z.1 z.2.1 z.2.2.1 z.2.2.2)
abbrev pe_X11_testChannels_104 (f : Int32 → Int32 → pj_F (Unit × pj_Z)) : pj_K (Unit × pj_Z) := fun lv st z => pj_xr lv 0 0 0 <| pj_xi lv 1 fun a1 => pj_pi st fun b0 st => pj_pe st (f a1 b0 z.1 z.2.1 z.2.2.1 z.2.2.2)
abbrev pe_X11_testChannels_125 (f : Int32 → Int32 → Int32 → pj_F (Unit × pj_Z)) : pj_K (Unit × pj_Z) := fun lv st z => pj_xr lv 0 0 0 <| pj_xi lv 1 fun a1 => pj_xi lv 2 fun a2 => pj_pi st fun b2 st => pj_pc st 10 fun st => pj_pr st 0 0 fun st => pj_pe st (f a1 a2 b2 z.1 z.2.1 z.2.2.1 z.2.2.2)
abbrev pe_X11_testChannels_143 (f : Int32 → Int32 → pj_F (Unit × pj_Z)) : pj_K (Unit × pj_Z) := fun lv st z => pj_xr lv 0 0 0 <| pj_xi lv 2 fun a2 => pj_pi st fun b2 st => pj_pc st 10 fun st => pj_pr st 0 0 fun st => pj_pe st (f a2 b2 z.1 z.2.1 z.2.2.1 z.2.2.2)
abbrev pe_X11_testChannels_144 (f : Int32 → Int32 → Int32 → pj_F (Unit × pj_Z)) : pj_K (Unit × pj_Z) := fun lv st z => pj_xr lv 0 0 0 <| pj_xi lv 2 fun a2 => pj_pi st fun b3 st => pj_pi st fun b2 st => pj_pc st 10 fun st => pj_pr st 0 0 fun st => pj_pe st (f a2 b2 b3 z.1 z.2.1 z.2.2.1 z.2.2.2)
abbrev pe_X11_testChannels_167 (f : Int32 → Int32 → pj_F (Unit × pj_Z)) : pj_K (Unit × pj_Z) := fun lv st z => pj_xr lv 0 0 0 <| pj_xi lv 2 fun a2 => pj_pi st fun b2 st => pj_pc st 11 fun st => pj_pr st 0 0 fun st => pj_pe st (f a2 b2 z.1 z.2.1 z.2.2.1 z.2.2.2)
abbrev pe_X11_testChannels_185 (f : Int32 → pj_F (Unit × pj_Z)) : pj_K (Unit × pj_Z) := fun lv st z => pj_pi st fun b2 st => pj_pc st 11 fun st => pj_pr st 0 0 fun st => pj_pe st (f b2 z.1 z.2.1 z.2.2.1 z.2.2.2)
abbrev pe_X11_testChannels_186 (f : Int32 → Int32 → pj_F (Unit × pj_Z)) : pj_K (Unit × pj_Z) := fun lv st z => pj_pi st fun b3 st => pj_pi st fun b2 st => pj_pc st 11 fun st => pj_pr st 0 0 fun st => pj_pe st (f b2 b3 z.1 z.2.1 z.2.2.1 z.2.2.2)
abbrev px_X11_testChannels : pj_C (Unit × pj_Z) := ((pj_as [(0, 11, 17, 1, 0, true, 0, [(2, 1), (2, 20), (2, 58), (2, 68), (2, 82), (2, 83), (2, 85), (2, 96), (2, 102), (2, 106), (2, 122), (0, 93), (0, 94), (0, 95), (1, 1), (1, 2), (0, 96)]), (20, 7, 11, 1, 0, true, 0, [(2, 21), (2, 35), (2, 49), (2, 50), (2, 51), (2, 52), (2, 53), (2, 54), (2, 55), (2, 56), (2, 57)]), (56, 100, 10, 1, 0, true, 35000, []), (57, 102, 10, 1, 0, true, 36000, []), (82, 9, 18, 1, 0, true, 0, [(0, 71), (0, 72), (1, 12), (0, 73), (0, 74), (0, 75), (0, 76), (0, 77), (0, 78), (0, 79), (0, 80), (1, 13), (0, 81), (0, 82), (0, 83), (0, 84), (0, 85), (0, 86)])]), (pj_as [(19, 11, 1, 2, true), (40, 11, 4, 2, true), (403, 7, 9, 2, true), (406, 7, 10, 2, true), (798, 9, 3, 0, false), (801, 9, 4, 0, false)]), (fun _ => none), (fun _ => none), (fun _ => none), ic_X, 3, 0, pj_mU, (pj_as [(36, ph_X11_judge), (144, ph_X11_judge), (186, ph_X11_judge)]), fun _ => false)
abbrev pk_X11_testChannels : List (Nat × List (Nat × Instr × Nat)) := [(0, [(0, .iconst 0, 1), (1, .istore_n 1, 1)]), (2, [(2, .iload_n 1, 1), (3, .bipush 10, 2), (5, .if_icmp .ge 40, 3)]), (8, [(8, .aload_n 0, 1), (9, .iload_n 1, 1), (10, .aload_n 0, 1), (11, .getfield 19, 3), (14, .getfield 406, 3), (17, .iload_n 1, 1), (18, .baload, 1), (19, .aload_n 0, 1), (20, .getfield 19, 3), (23, .getfield 403, 3), (26, .iload_n 1, 1), (27, .iaload, 1), (28, .ifCond .ne 7, 3)]), (31, [(31, .iconst 1, 1), (32, .goto 4, 3)]), (35, [(35, .iconst 0, 1)]), (36, [(36, .invokevirtual 657, 3), (39, .iinc 1 1, 3), (42, .goto (-40), 3)]), (45, [(45, .aload_n 0, 1), (46, .getfield 19, 3), (49, .getfield 406, 3), (52, .iconst 0, 1), (53, .baload, 1), (54, .ifCond .ne 19, 3)]), (57, [(57, .aload_n 0, 1), (58, .getfield 19, 3), (61, .getfield 406, 3), (64, .iconst 1, 1), (65, .baload, 1), (66, .ifCond .ne 7, 3)]), (69, [(69, .iconst 1, 1), (70, .goto 4, 3)]), (73, [(73, .iconst 0, 1)]), (74, [(74, .istore_n 1, 1), (75, .aload_n 0, 1), (76, .getfield 19, 3), (79, .getfield 406, 3), (82, .iconst 2, 1), (83, .baload, 1), (84, .ifCond .ne 19, 3)]), (87, [(87, .aload_n 0, 1), (88, .getfield 19, 3), (91, .getfield 406, 3), (94, .iconst 3, 1), (95, .baload, 1), (96, .ifCond .ne 7, 3)]), (99, [(99, .iconst 1, 1), (100, .goto 4, 3)]), (103, [(103, .iconst 0, 1)]), (104, [(104, .istore_n 2, 1), (105, .aload_n 0, 1), (106, .bipush 10, 2), (108, .aload_n 0, 1), (109, .getfield 40, 3), (112, .getfield 798, 3), (115, .bipush 10, 2), (117, .if_icmp .lt 7, 3)]), (120, [(120, .iconst 1, 1), (121, .goto 4, 3)]), (124, [(124, .iconst 0, 1)]), (125, [(125, .aload_n 0, 1), (126, .getfield 40, 3), (129, .getfield 798, 3), (132, .ifCond .ne 11, 3)]), (135, [(135, .iload_n 1, 1), (136, .ifCond .eq 7, 3)]), (139, [(139, .iconst 1, 1), (140, .goto 4, 3)]), (143, [(143, .iconst 0, 1)]), (144, [(144, .invokevirtual 657, 3), (147, .aload_n 0, 1), (148, .bipush 11, 2), (150, .aload_n 0, 1), (151, .getfield 40, 3), (154, .getfield 801, 3), (157, .bipush 10, 2), (159, .if_icmp .lt 7, 3)]), (162, [(162, .iconst 1, 1), (163, .goto 4, 3)]), (166, [(166, .iconst 0, 1)]), (167, [(167, .aload_n 0, 1), (168, .getfield 40, 3), (171, .getfield 801, 3), (174, .ifCond .ne 11, 3)]), (177, [(177, .iload_n 2, 1), (178, .ifCond .eq 7, 3)]), (181, [(181, .iconst 1, 1), (182, .goto 4, 3)]), (185, [(185, .iconst 0, 1)]), (186, [(186, .invokevirtual 657, 3), (189, .return_, 1)])]
set_option maxRecDepth 100000 in
theorem pq_X11_testChannels_36 (fu : Nat)  (k2 : Int32 → pj_F (Unit × pj_Z)) (a1 : Int32) (b1 : Int32) (b2 : Int32) (b3 : Int32) (s : Nat → Int32) (l : Nat → Int64) (x : Nat → Int32) (y : Nat → Int64) : pl_X11_testChannels_36 fu k2 a1 b1 b2 b3 s l x y = pj_bl px_X11_testChannels (pj_rn px_X11_testChannels (pj_as pk_X11_testChannels) (pj_as [(2, pe_X11_testChannels_2 k2)]) 60) [(36, .invokevirtual 657, 3), (39, .iinc 1 1, 3), (42, .goto (-40), 3)] 36 [(0, pj_O (0, 0)), (1, pj_I a1)] [pj_I b3, pj_I b2, pj_I b1, pj_O (0, 0)] (s, l, x, y) := rfl
set_option maxRecDepth 100000 in
theorem pq_X11_testChannels_186 (fu : Nat)  (b2 : Int32) (b3 : Int32) (s : Nat → Int32) (l : Nat → Int64) (x : Nat → Int32) (y : Nat → Int64) : pl_X11_testChannels_186 fu b2 b3 s l x y = pj_bl px_X11_testChannels (pj_rn px_X11_testChannels (pj_as pk_X11_testChannels) (fun _ => none) 60) [(186, .invokevirtual 657, 3), (189, .return_, 1)] 186 [] [pj_I b3, pj_I b2, pj_N 11, pj_O (0, 0)] (s, l, x, y) := rfl
set_option maxRecDepth 100000 in
theorem pq_X11_testChannels_185 (fu : Nat)  (b2 : Int32) (s : Nat → Int32) (l : Nat → Int64) (x : Nat → Int32) (y : Nat → Int64) : pl_X11_testChannels_185 fu b2 s l x y = pj_bl px_X11_testChannels (pj_rn px_X11_testChannels (pj_as pk_X11_testChannels) (pj_as [(186, pe_X11_testChannels_186 (pl_X11_testChannels_186 fu))]) 60) [(185, .iconst 0, 1)] 185 [] [pj_I b2, pj_N 11, pj_O (0, 0)] (s, l, x, y) := rfl
set_option maxRecDepth 100000 in
theorem pq_X11_testChannels_167 (fu : Nat)  (a2 : Int32) (b2 : Int32) (s : Nat → Int32) (l : Nat → Int64) (x : Nat → Int32) (y : Nat → Int64) : pl_X11_testChannels_167 fu a2 b2 s l x y = pj_bl px_X11_testChannels (pj_rn px_X11_testChannels (pj_as pk_X11_testChannels) (pj_as [(185, pe_X11_testChannels_185 (pl_X11_testChannels_185 fu)), (186, pe_X11_testChannels_186 (pl_X11_testChannels_186 fu))]) 60) [(167, .aload_n 0, 1), (168, .getfield 40, 3), (171, .getfield 801, 3), (174, .ifCond .ne 11, 3)] 167 [(0, pj_O (0, 0)), (2, pj_I a2)] [pj_I b2, pj_N 11, pj_O (0, 0)] (s, l, x, y) := rfl
set_option maxRecDepth 100000 in
theorem pq_X11_testChannels_144 (fu : Nat)  (a2 : Int32) (b2 : Int32) (b3 : Int32) (s : Nat → Int32) (l : Nat → Int64) (x : Nat → Int32) (y : Nat → Int64) : pl_X11_testChannels_144 fu a2 b2 b3 s l x y = pj_bl px_X11_testChannels (pj_rn px_X11_testChannels (pj_as pk_X11_testChannels) (pj_as [(167, pe_X11_testChannels_167 (pl_X11_testChannels_167 fu))]) 60) [(144, .invokevirtual 657, 3), (147, .aload_n 0, 1), (148, .bipush 11, 2), (150, .aload_n 0, 1), (151, .getfield 40, 3), (154, .getfield 801, 3), (157, .bipush 10, 2), (159, .if_icmp .lt 7, 3)] 144 [(0, pj_O (0, 0)), (2, pj_I a2)] [pj_I b3, pj_I b2, pj_N 10, pj_O (0, 0)] (s, l, x, y) := rfl
set_option maxRecDepth 100000 in
theorem pq_X11_testChannels_143 (fu : Nat)  (a2 : Int32) (b2 : Int32) (s : Nat → Int32) (l : Nat → Int64) (x : Nat → Int32) (y : Nat → Int64) : pl_X11_testChannels_143 fu a2 b2 s l x y = pj_bl px_X11_testChannels (pj_rn px_X11_testChannels (pj_as pk_X11_testChannels) (pj_as [(144, pe_X11_testChannels_144 (pl_X11_testChannels_144 fu))]) 60) [(143, .iconst 0, 1)] 143 [(0, pj_O (0, 0)), (2, pj_I a2)] [pj_I b2, pj_N 10, pj_O (0, 0)] (s, l, x, y) := rfl
set_option maxRecDepth 100000 in
theorem pq_X11_testChannels_125 (fu : Nat)  (a1 : Int32) (a2 : Int32) (b2 : Int32) (s : Nat → Int32) (l : Nat → Int64) (x : Nat → Int32) (y : Nat → Int64) : pl_X11_testChannels_125 fu a1 a2 b2 s l x y = pj_bl px_X11_testChannels (pj_rn px_X11_testChannels (pj_as pk_X11_testChannels) (pj_as [(143, pe_X11_testChannels_143 (pl_X11_testChannels_143 fu)), (144, pe_X11_testChannels_144 (pl_X11_testChannels_144 fu))]) 60) [(125, .aload_n 0, 1), (126, .getfield 40, 3), (129, .getfield 798, 3), (132, .ifCond .ne 11, 3)] 125 [(0, pj_O (0, 0)), (1, pj_I a1), (2, pj_I a2)] [pj_I b2, pj_N 10, pj_O (0, 0)] (s, l, x, y) := rfl
set_option maxRecDepth 100000 in
theorem pq_X11_testChannels_104 (fu : Nat)  (a1 : Int32) (b0 : Int32) (s : Nat → Int32) (l : Nat → Int64) (x : Nat → Int32) (y : Nat → Int64) : pl_X11_testChannels_104 fu a1 b0 s l x y = pj_bl px_X11_testChannels (pj_rn px_X11_testChannels (pj_as pk_X11_testChannels) (pj_as [(125, pe_X11_testChannels_125 (pl_X11_testChannels_125 fu))]) 60) [(104, .istore_n 2, 1), (105, .aload_n 0, 1), (106, .bipush 10, 2), (108, .aload_n 0, 1), (109, .getfield 40, 3), (112, .getfield 798, 3), (115, .bipush 10, 2), (117, .if_icmp .lt 7, 3)] 104 [(0, pj_O (0, 0)), (1, pj_I a1)] [pj_I b0] (s, l, x, y) := rfl
set_option maxRecDepth 100000 in
theorem pq_X11_testChannels_103 (fu : Nat)  (a1 : Int32) (s : Nat → Int32) (l : Nat → Int64) (x : Nat → Int32) (y : Nat → Int64) : pl_X11_testChannels_103 fu a1 s l x y = pj_bl px_X11_testChannels (pj_rn px_X11_testChannels (pj_as pk_X11_testChannels) (pj_as [(104, pe_X11_testChannels_104 (pl_X11_testChannels_104 fu))]) 60) [(103, .iconst 0, 1)] 103 [(0, pj_O (0, 0)), (1, pj_I a1)] [] (s, l, x, y) := rfl
set_option maxRecDepth 100000 in
theorem pq_X11_testChannels_74 (fu : Nat)  (b0 : Int32) (s : Nat → Int32) (l : Nat → Int64) (x : Nat → Int32) (y : Nat → Int64) : pl_X11_testChannels_74 fu b0 s l x y = pj_bl px_X11_testChannels (pj_rn px_X11_testChannels (pj_as pk_X11_testChannels) (pj_as [(103, pe_X11_testChannels_103 (pl_X11_testChannels_103 fu)), (104, pe_X11_testChannels_104 (pl_X11_testChannels_104 fu))]) 60) [(74, .istore_n 1, 1), (75, .aload_n 0, 1), (76, .getfield 19, 3), (79, .getfield 406, 3), (82, .iconst 2, 1), (83, .baload, 1), (84, .ifCond .ne 19, 3)] 74 [(0, pj_O (0, 0))] [pj_I b0] (s, l, x, y) := rfl
set_option maxRecDepth 100000 in
theorem pq_X11_testChannels_73 (fu : Nat)   (s : Nat → Int32) (l : Nat → Int64) (x : Nat → Int32) (y : Nat → Int64) : pl_X11_testChannels_73 fu s l x y = pj_bl px_X11_testChannels (pj_rn px_X11_testChannels (pj_as pk_X11_testChannels) (pj_as [(74, pe_X11_testChannels_74 (pl_X11_testChannels_74 fu))]) 60) [(73, .iconst 0, 1)] 73 [(0, pj_O (0, 0))] [] (s, l, x, y) := rfl
set_option maxRecDepth 100000 in
theorem pq_X11_testChannels_2 (fu : Nat)  (n : Nat) (a1 : Int32) (s : Nat → Int32) (l : Nat → Int64) (x : Nat → Int32) (y : Nat → Int64) : pl_X11_testChannels_2 fu (n + 1) a1 s l x y = pj_bl px_X11_testChannels (pj_rn px_X11_testChannels (pj_as pk_X11_testChannels) (pj_as [(2, pe_X11_testChannels_2 (pl_X11_testChannels_2 fu n)), (36, pe_X11_testChannels_36 (pl_X11_testChannels_36 fu (pl_X11_testChannels_2 fu n))), (73, pe_X11_testChannels_73 (pl_X11_testChannels_73 fu)), (74, pe_X11_testChannels_74 (pl_X11_testChannels_74 fu))]) 60) [(2, .iload_n 1, 1), (3, .bipush 10, 2), (5, .if_icmp .ge 40, 3)] 2 [(0, pj_O (0, 0)), (1, pj_I a1)] [] (s, l, x, y) := rfl
set_option maxRecDepth 100000 in
theorem pq_X11_testChannels_m (fu : Nat)   (s : Nat → Int32) (l : Nat → Int64) (x : Nat → Int32) (y : Nat → Int64) : po_X11_testChannels fu  s l x y = pj_bl px_X11_testChannels (pj_rn px_X11_testChannels (pj_as pk_X11_testChannels) (pj_as [(2, pe_X11_testChannels_2 (pl_X11_testChannels_2 fu fu))]) 60) [(0, .iconst 0, 1), (1, .istore_n 1, 1)] 0 [(0, pj_O (0, 0))] [] (s, l, x, y) := rfl
theorem pu_X11_testChannels_2 {lf : pj_Z → mj_M} {a : Unit × pj_Z} (f : Int32 → pj_F (Unit × pj_Z)) (hf : ∀ (a1 : Int32) (s : Nat → Int32) (l : Nat → Int64) (x : Nat → Int32) (y : Nat → Int64), f a1 s l x y = some a → pm_Gd 3 11077 ie_X11_testChannels.1 pm_rU lf 2 [(0, .ref 0), (1, .int a1)] [] (s, l, x, y) a) : pm_Ex 3 11077 ie_X11_testChannels.1 pm_rU lf a 2 (pe_X11_testChannels_2 f) := by
  intro lv st z hd h
  obtain ⟨g0, h⟩ := pj_xr_inv h
  obtain ⟨a1, g1, h⟩ := pj_xi_inv h
  obtain ⟨e9, h⟩ := pj_pe_inv h
  rw [e9]
  exact mj_wp_sub (mj_sub_cons g0 (mj_sub_cons g1 (mj_sub_nil hd))) (hf _ _ _ _ _ h)
theorem pu_X11_testChannels_36 {lf : pj_Z → mj_M} {a : Unit × pj_Z} (f : Int32 → Int32 → Int32 → Int32 → pj_F (Unit × pj_Z)) (hf : ∀ (a1 : Int32) (b1 : Int32) (b2 : Int32) (b3 : Int32) (s : Nat → Int32) (l : Nat → Int64) (x : Nat → Int32) (y : Nat → Int64), f a1 b1 b2 b3 s l x y = some a → pm_Gd 3 11077 ie_X11_testChannels.1 pm_rU lf 36 [(0, .ref 0), (1, .int a1)] [.int b3, .int b2, .int b1, .ref 0] (s, l, x, y) a) : pm_Ex 3 11077 ie_X11_testChannels.1 pm_rU lf a 36 (pe_X11_testChannels_36 f) := by
  intro lv st z hd h
  obtain ⟨g0, h⟩ := pj_xr_inv h
  obtain ⟨a1, g1, h⟩ := pj_xi_inv h
  obtain ⟨b3, r3, e3, h⟩ := pj_pi_inv h
  obtain ⟨b2, r2, e2, h⟩ := pj_pi_inv h
  obtain ⟨b1, r1, e1, h⟩ := pj_pi_inv h
  obtain ⟨r0, e0, h⟩ := pj_pr_inv h
  obtain ⟨e9, h⟩ := pj_pe_inv h
  rw [e3, e2, e1, e0, e9]
  exact mj_wp_sub (mj_sub_cons g0 (mj_sub_cons g1 (mj_sub_nil hd))) (hf _ _ _ _ _ _ _ _ h)
theorem pu_X11_testChannels_73 {lf : pj_Z → mj_M} {a : Unit × pj_Z} (f : pj_F (Unit × pj_Z)) (hf : ∀  (s : Nat → Int32) (l : Nat → Int64) (x : Nat → Int32) (y : Nat → Int64), f  s l x y = some a → pm_Gd 3 11077 ie_X11_testChannels.1 pm_rU lf 73 [(0, .ref 0)] [] (s, l, x, y) a) : pm_Ex 3 11077 ie_X11_testChannels.1 pm_rU lf a 73 (pe_X11_testChannels_73 f) := by
  intro lv st z hd h
  obtain ⟨g0, h⟩ := pj_xr_inv h
  obtain ⟨e9, h⟩ := pj_pe_inv h
  rw [e9]
  exact mj_wp_sub (mj_sub_cons g0 (mj_sub_nil hd)) (hf  _ _ _ _ h)
theorem pu_X11_testChannels_74 {lf : pj_Z → mj_M} {a : Unit × pj_Z} (f : Int32 → pj_F (Unit × pj_Z)) (hf : ∀ (b0 : Int32) (s : Nat → Int32) (l : Nat → Int64) (x : Nat → Int32) (y : Nat → Int64), f b0 s l x y = some a → pm_Gd 3 11077 ie_X11_testChannels.1 pm_rU lf 74 [(0, .ref 0)] [.int b0] (s, l, x, y) a) : pm_Ex 3 11077 ie_X11_testChannels.1 pm_rU lf a 74 (pe_X11_testChannels_74 f) := by
  intro lv st z hd h
  obtain ⟨g0, h⟩ := pj_xr_inv h
  obtain ⟨b0, r0, e0, h⟩ := pj_pi_inv h
  obtain ⟨e9, h⟩ := pj_pe_inv h
  rw [e0, e9]
  exact mj_wp_sub (mj_sub_cons g0 (mj_sub_nil hd)) (hf _ _ _ _ _ h)
theorem pu_X11_testChannels_103 {lf : pj_Z → mj_M} {a : Unit × pj_Z} (f : Int32 → pj_F (Unit × pj_Z)) (hf : ∀ (a1 : Int32) (s : Nat → Int32) (l : Nat → Int64) (x : Nat → Int32) (y : Nat → Int64), f a1 s l x y = some a → pm_Gd 3 11077 ie_X11_testChannels.1 pm_rU lf 103 [(0, .ref 0), (1, .int a1)] [] (s, l, x, y) a) : pm_Ex 3 11077 ie_X11_testChannels.1 pm_rU lf a 103 (pe_X11_testChannels_103 f) := by
  intro lv st z hd h
  obtain ⟨g0, h⟩ := pj_xr_inv h
  obtain ⟨a1, g1, h⟩ := pj_xi_inv h
  obtain ⟨e9, h⟩ := pj_pe_inv h
  rw [e9]
  exact mj_wp_sub (mj_sub_cons g0 (mj_sub_cons g1 (mj_sub_nil hd))) (hf _ _ _ _ _ h)
theorem pu_X11_testChannels_104 {lf : pj_Z → mj_M} {a : Unit × pj_Z} (f : Int32 → Int32 → pj_F (Unit × pj_Z)) (hf : ∀ (a1 : Int32) (b0 : Int32) (s : Nat → Int32) (l : Nat → Int64) (x : Nat → Int32) (y : Nat → Int64), f a1 b0 s l x y = some a → pm_Gd 3 11077 ie_X11_testChannels.1 pm_rU lf 104 [(0, .ref 0), (1, .int a1)] [.int b0] (s, l, x, y) a) : pm_Ex 3 11077 ie_X11_testChannels.1 pm_rU lf a 104 (pe_X11_testChannels_104 f) := by
  intro lv st z hd h
  obtain ⟨g0, h⟩ := pj_xr_inv h
  obtain ⟨a1, g1, h⟩ := pj_xi_inv h
  obtain ⟨b0, r0, e0, h⟩ := pj_pi_inv h
  obtain ⟨e9, h⟩ := pj_pe_inv h
  rw [e0, e9]
  exact mj_wp_sub (mj_sub_cons g0 (mj_sub_cons g1 (mj_sub_nil hd))) (hf _ _ _ _ _ _ h)
theorem pu_X11_testChannels_125 {lf : pj_Z → mj_M} {a : Unit × pj_Z} (f : Int32 → Int32 → Int32 → pj_F (Unit × pj_Z)) (hf : ∀ (a1 : Int32) (a2 : Int32) (b2 : Int32) (s : Nat → Int32) (l : Nat → Int64) (x : Nat → Int32) (y : Nat → Int64), f a1 a2 b2 s l x y = some a → pm_Gd 3 11077 ie_X11_testChannels.1 pm_rU lf 125 [(0, .ref 0), (1, .int a1), (2, .int a2)] [.int b2, .int (Int32.ofInt 10), .ref 0] (s, l, x, y) a) : pm_Ex 3 11077 ie_X11_testChannels.1 pm_rU lf a 125 (pe_X11_testChannels_125 f) := by
  intro lv st z hd h
  obtain ⟨g0, h⟩ := pj_xr_inv h
  obtain ⟨a1, g1, h⟩ := pj_xi_inv h
  obtain ⟨a2, g2, h⟩ := pj_xi_inv h
  obtain ⟨b2, r2, e2, h⟩ := pj_pi_inv h
  obtain ⟨r1, e1, h⟩ := pj_pc_inv h
  obtain ⟨r0, e0, h⟩ := pj_pr_inv h
  obtain ⟨e9, h⟩ := pj_pe_inv h
  rw [e2, e1, e0, e9]
  exact mj_wp_sub (mj_sub_cons g0 (mj_sub_cons g1 (mj_sub_cons g2 (mj_sub_nil hd)))) (hf _ _ _ _ _ _ _ h)
theorem pu_X11_testChannels_143 {lf : pj_Z → mj_M} {a : Unit × pj_Z} (f : Int32 → Int32 → pj_F (Unit × pj_Z)) (hf : ∀ (a2 : Int32) (b2 : Int32) (s : Nat → Int32) (l : Nat → Int64) (x : Nat → Int32) (y : Nat → Int64), f a2 b2 s l x y = some a → pm_Gd 3 11077 ie_X11_testChannels.1 pm_rU lf 143 [(0, .ref 0), (2, .int a2)] [.int b2, .int (Int32.ofInt 10), .ref 0] (s, l, x, y) a) : pm_Ex 3 11077 ie_X11_testChannels.1 pm_rU lf a 143 (pe_X11_testChannels_143 f) := by
  intro lv st z hd h
  obtain ⟨g0, h⟩ := pj_xr_inv h
  obtain ⟨a2, g2, h⟩ := pj_xi_inv h
  obtain ⟨b2, r2, e2, h⟩ := pj_pi_inv h
  obtain ⟨r1, e1, h⟩ := pj_pc_inv h
  obtain ⟨r0, e0, h⟩ := pj_pr_inv h
  obtain ⟨e9, h⟩ := pj_pe_inv h
  rw [e2, e1, e0, e9]
  exact mj_wp_sub (mj_sub_cons g0 (mj_sub_cons g2 (mj_sub_nil hd))) (hf _ _ _ _ _ _ h)
theorem pu_X11_testChannels_144 {lf : pj_Z → mj_M} {a : Unit × pj_Z} (f : Int32 → Int32 → Int32 → pj_F (Unit × pj_Z)) (hf : ∀ (a2 : Int32) (b2 : Int32) (b3 : Int32) (s : Nat → Int32) (l : Nat → Int64) (x : Nat → Int32) (y : Nat → Int64), f a2 b2 b3 s l x y = some a → pm_Gd 3 11077 ie_X11_testChannels.1 pm_rU lf 144 [(0, .ref 0), (2, .int a2)] [.int b3, .int b2, .int (Int32.ofInt 10), .ref 0] (s, l, x, y) a) : pm_Ex 3 11077 ie_X11_testChannels.1 pm_rU lf a 144 (pe_X11_testChannels_144 f) := by
  intro lv st z hd h
  obtain ⟨g0, h⟩ := pj_xr_inv h
  obtain ⟨a2, g2, h⟩ := pj_xi_inv h
  obtain ⟨b3, r3, e3, h⟩ := pj_pi_inv h
  obtain ⟨b2, r2, e2, h⟩ := pj_pi_inv h
  obtain ⟨r1, e1, h⟩ := pj_pc_inv h
  obtain ⟨r0, e0, h⟩ := pj_pr_inv h
  obtain ⟨e9, h⟩ := pj_pe_inv h
  rw [e3, e2, e1, e0, e9]
  exact mj_wp_sub (mj_sub_cons g0 (mj_sub_cons g2 (mj_sub_nil hd))) (hf _ _ _ _ _ _ _ h)
theorem pu_X11_testChannels_167 {lf : pj_Z → mj_M} {a : Unit × pj_Z} (f : Int32 → Int32 → pj_F (Unit × pj_Z)) (hf : ∀ (a2 : Int32) (b2 : Int32) (s : Nat → Int32) (l : Nat → Int64) (x : Nat → Int32) (y : Nat → Int64), f a2 b2 s l x y = some a → pm_Gd 3 11077 ie_X11_testChannels.1 pm_rU lf 167 [(0, .ref 0), (2, .int a2)] [.int b2, .int (Int32.ofInt 11), .ref 0] (s, l, x, y) a) : pm_Ex 3 11077 ie_X11_testChannels.1 pm_rU lf a 167 (pe_X11_testChannels_167 f) := by
  intro lv st z hd h
  obtain ⟨g0, h⟩ := pj_xr_inv h
  obtain ⟨a2, g2, h⟩ := pj_xi_inv h
  obtain ⟨b2, r2, e2, h⟩ := pj_pi_inv h
  obtain ⟨r1, e1, h⟩ := pj_pc_inv h
  obtain ⟨r0, e0, h⟩ := pj_pr_inv h
  obtain ⟨e9, h⟩ := pj_pe_inv h
  rw [e2, e1, e0, e9]
  exact mj_wp_sub (mj_sub_cons g0 (mj_sub_cons g2 (mj_sub_nil hd))) (hf _ _ _ _ _ _ h)
theorem pu_X11_testChannels_185 {lf : pj_Z → mj_M} {a : Unit × pj_Z} (f : Int32 → pj_F (Unit × pj_Z)) (hf : ∀ (b2 : Int32) (s : Nat → Int32) (l : Nat → Int64) (x : Nat → Int32) (y : Nat → Int64), f b2 s l x y = some a → pm_Gd 3 11077 ie_X11_testChannels.1 pm_rU lf 185 [] [.int b2, .int (Int32.ofInt 11), .ref 0] (s, l, x, y) a) : pm_Ex 3 11077 ie_X11_testChannels.1 pm_rU lf a 185 (pe_X11_testChannels_185 f) := by
  intro lv st z hd h
  obtain ⟨b2, r2, e2, h⟩ := pj_pi_inv h
  obtain ⟨r1, e1, h⟩ := pj_pc_inv h
  obtain ⟨r0, e0, h⟩ := pj_pr_inv h
  obtain ⟨e9, h⟩ := pj_pe_inv h
  rw [e2, e1, e0, e9]
  exact mj_wp_sub (mj_sub_nil hd) (hf _ _ _ _ _ h)
theorem pu_X11_testChannels_186 {lf : pj_Z → mj_M} {a : Unit × pj_Z} (f : Int32 → Int32 → pj_F (Unit × pj_Z)) (hf : ∀ (b2 : Int32) (b3 : Int32) (s : Nat → Int32) (l : Nat → Int64) (x : Nat → Int32) (y : Nat → Int64), f b2 b3 s l x y = some a → pm_Gd 3 11077 ie_X11_testChannels.1 pm_rU lf 186 [] [.int b3, .int b2, .int (Int32.ofInt 11), .ref 0] (s, l, x, y) a) : pm_Ex 3 11077 ie_X11_testChannels.1 pm_rU lf a 186 (pe_X11_testChannels_186 f) := by
  intro lv st z hd h
  obtain ⟨b3, r3, e3, h⟩ := pj_pi_inv h
  obtain ⟨b2, r2, e2, h⟩ := pj_pi_inv h
  obtain ⟨r1, e1, h⟩ := pj_pc_inv h
  obtain ⟨r0, e0, h⟩ := pj_pr_inv h
  obtain ⟨e9, h⟩ := pj_pe_inv h
  rw [e3, e2, e1, e0, e9]
  exact mj_wp_sub (mj_sub_nil hd) (hf _ _ _ _ _ _ h)
set_option maxRecDepth 100000 in
theorem pz_X11_testChannels {lf : pj_Z → mj_M} (hT : pj_Lt pj_TC lf) : pj_Cok ic_P (mj_R ic_P 3) 11077 ie_X11_testChannels.1 (pm_OK lf pm_rU) lf px_X11_testChannels := by
  exact pm_cok (c := px_X11_testChannels) (pm_part hT (pj_as_all (p := fun b e => pj_TC b = some e) (List.forall_mem_cons.mpr ⟨rfl, (List.forall_mem_cons.mpr ⟨rfl, (List.forall_mem_cons.mpr ⟨rfl, (List.forall_mem_cons.mpr ⟨rfl, (List.forall_mem_cons.mpr ⟨rfl, (fun _ h => by cases h)⟩)⟩)⟩)⟩)⟩))) (pm_in_ok (L := [(19, 11, 1, 2, true), (40, 11, 4, 2, true), (403, 7, 9, 2, true), (406, 7, 10, 2, true), (798, 9, 3, 0, false), (801, 9, 4, 0, false)]) (f := mj_pF ic_P 11077) (by decide +kernel)) (fun _ _ h => by cases h) (fun _ _ h => by cases h) (fun _ _ h => by cases h) rfl rfl ⟨by decide, rfl⟩ pm_mU (pj_as_all (p := pm_Cl 3 11077 ie_X11_testChannels.1 lf (pm_OK lf pm_rU)) (List.forall_mem_cons.mpr ⟨fun _ _ lv st z K a hK h => pc_X11_judge hT (by decide) (ix := 657) rfl rfl hK h, (List.forall_mem_cons.mpr ⟨fun _ _ lv st z K a hK h => pc_X11_judge hT (by decide) (ix := 657) rfl rfl hK h, (List.forall_mem_cons.mpr ⟨fun _ _ lv st z K a hK h => pc_X11_judge hT (by decide) (ix := 657) rfl rfl hK h, (fun _ h => by cases h)⟩)⟩)⟩)) (fun _ h => by cases h)
set_option maxRecDepth 100000 in
theorem pb_X11_testChannels : pm_bks ie_X11_testChannels.1.2.2.2.2 pk_X11_testChannels = true := by decide +kernel
set_option maxRecDepth 100000 in
theorem pg_X11_testChannels_36 {fu : Nat} {lf : pj_Z → mj_M} (hT : pj_Lt pj_TC lf) {k2 : Int32 → pj_F (Unit × pj_Z)} (hk2 : ∀ (a1 : Int32) (s : Nat → Int32) (l : Nat → Int64) (x : Nat → Int32) (y : Nat → Int64) (a : Unit × pj_Z), k2 a1 s l x y = some a → pm_Gd 3 11077 ie_X11_testChannels.1 pm_rU lf 2 [(0, .ref 0), (1, .int a1)] [] (s, l, x, y) a) : ∀ (a1 : Int32) (b1 : Int32) (b2 : Int32) (b3 : Int32) (s : Nat → Int32) (l : Nat → Int64) (x : Nat → Int32) (y : Nat → Int64) (a : Unit × pj_Z), pl_X11_testChannels_36 fu k2 a1 b1 b2 b3 s l x y = some a → pm_Gd 3 11077 ie_X11_testChannels.1 pm_rU lf 36 [(0, .ref 0), (1, .int a1)] [.int b3, .int b2, .int b1, .ref 0] (s, l, x, y) a := by
  intro a1 b1 b2 b3 s l x y a h
  exact pm_run ((pq_X11_testChannels_36 fu k2 a1 b1 b2 b3 s l x y).symm.trans h) (pz_X11_testChannels hT) (pm_bks_ok pb_X11_testChannels) (pm_bks_ok pb_X11_testChannels _ _ rfl) (pm_ndb_ok rfl) (pj_as_all (p := pm_Ex 3 11077 ie_X11_testChannels.1 pm_rU lf a) (List.forall_mem_cons.mpr ⟨pu_X11_testChannels_2 _ (fun c0 s l x y h => hk2 c0 s l x y _ h), (fun _ h => by cases h)⟩))
set_option maxRecDepth 100000 in
theorem pg_X11_testChannels_186 {fu : Nat} {lf : pj_Z → mj_M} (hT : pj_Lt pj_TC lf) : ∀ (b2 : Int32) (b3 : Int32) (s : Nat → Int32) (l : Nat → Int64) (x : Nat → Int32) (y : Nat → Int64) (a : Unit × pj_Z), pl_X11_testChannels_186 fu b2 b3 s l x y = some a → pm_Gd 3 11077 ie_X11_testChannels.1 pm_rU lf 186 [] [.int b3, .int b2, .int (Int32.ofInt 11), .ref 0] (s, l, x, y) a := by
  intro b2 b3 s l x y a h
  exact pm_run ((pq_X11_testChannels_186 fu b2 b3 s l x y).symm.trans h) (pz_X11_testChannels hT) (pm_bks_ok pb_X11_testChannels) (pm_bks_ok pb_X11_testChannels _ _ rfl) (pm_ndb_ok rfl) (fun _ _ h => by cases h)
set_option maxRecDepth 100000 in
theorem pg_X11_testChannels_185 {fu : Nat} {lf : pj_Z → mj_M} (hT : pj_Lt pj_TC lf) : ∀ (b2 : Int32) (s : Nat → Int32) (l : Nat → Int64) (x : Nat → Int32) (y : Nat → Int64) (a : Unit × pj_Z), pl_X11_testChannels_185 fu b2 s l x y = some a → pm_Gd 3 11077 ie_X11_testChannels.1 pm_rU lf 185 [] [.int b2, .int (Int32.ofInt 11), .ref 0] (s, l, x, y) a := by
  intro b2 s l x y a h
  exact pm_run ((pq_X11_testChannels_185 fu b2 s l x y).symm.trans h) (pz_X11_testChannels hT) (pm_bks_ok pb_X11_testChannels) (pm_bks_ok pb_X11_testChannels _ _ rfl) (pm_ndb_ok rfl) (pj_as_all (p := pm_Ex 3 11077 ie_X11_testChannels.1 pm_rU lf a) (List.forall_mem_cons.mpr ⟨pu_X11_testChannels_186 _ (fun c0 c1 s l x y h => pg_X11_testChannels_186 hT c0 c1 s l x y _ h), (fun _ h => by cases h)⟩))
set_option maxRecDepth 100000 in
theorem pg_X11_testChannels_167 {fu : Nat} {lf : pj_Z → mj_M} (hT : pj_Lt pj_TC lf) : ∀ (a2 : Int32) (b2 : Int32) (s : Nat → Int32) (l : Nat → Int64) (x : Nat → Int32) (y : Nat → Int64) (a : Unit × pj_Z), pl_X11_testChannels_167 fu a2 b2 s l x y = some a → pm_Gd 3 11077 ie_X11_testChannels.1 pm_rU lf 167 [(0, .ref 0), (2, .int a2)] [.int b2, .int (Int32.ofInt 11), .ref 0] (s, l, x, y) a := by
  intro a2 b2 s l x y a h
  exact pm_run ((pq_X11_testChannels_167 fu a2 b2 s l x y).symm.trans h) (pz_X11_testChannels hT) (pm_bks_ok pb_X11_testChannels) (pm_bks_ok pb_X11_testChannels _ _ rfl) (pm_ndb_ok rfl) (pj_as_all (p := pm_Ex 3 11077 ie_X11_testChannels.1 pm_rU lf a) (List.forall_mem_cons.mpr ⟨pu_X11_testChannels_185 _ (fun c0 s l x y h => pg_X11_testChannels_185 hT c0 s l x y _ h), (List.forall_mem_cons.mpr ⟨pu_X11_testChannels_186 _ (fun c0 c1 s l x y h => pg_X11_testChannels_186 hT c0 c1 s l x y _ h), (fun _ h => by cases h)⟩)⟩))
set_option maxRecDepth 100000 in
theorem pg_X11_testChannels_144 {fu : Nat} {lf : pj_Z → mj_M} (hT : pj_Lt pj_TC lf) : ∀ (a2 : Int32) (b2 : Int32) (b3 : Int32) (s : Nat → Int32) (l : Nat → Int64) (x : Nat → Int32) (y : Nat → Int64) (a : Unit × pj_Z), pl_X11_testChannels_144 fu a2 b2 b3 s l x y = some a → pm_Gd 3 11077 ie_X11_testChannels.1 pm_rU lf 144 [(0, .ref 0), (2, .int a2)] [.int b3, .int b2, .int (Int32.ofInt 10), .ref 0] (s, l, x, y) a := by
  intro a2 b2 b3 s l x y a h
  exact pm_run ((pq_X11_testChannels_144 fu a2 b2 b3 s l x y).symm.trans h) (pz_X11_testChannels hT) (pm_bks_ok pb_X11_testChannels) (pm_bks_ok pb_X11_testChannels _ _ rfl) (pm_ndb_ok rfl) (pj_as_all (p := pm_Ex 3 11077 ie_X11_testChannels.1 pm_rU lf a) (List.forall_mem_cons.mpr ⟨pu_X11_testChannels_167 _ (fun c0 c1 s l x y h => pg_X11_testChannels_167 hT c0 c1 s l x y _ h), (fun _ h => by cases h)⟩))
set_option maxRecDepth 100000 in
theorem pg_X11_testChannels_143 {fu : Nat} {lf : pj_Z → mj_M} (hT : pj_Lt pj_TC lf) : ∀ (a2 : Int32) (b2 : Int32) (s : Nat → Int32) (l : Nat → Int64) (x : Nat → Int32) (y : Nat → Int64) (a : Unit × pj_Z), pl_X11_testChannels_143 fu a2 b2 s l x y = some a → pm_Gd 3 11077 ie_X11_testChannels.1 pm_rU lf 143 [(0, .ref 0), (2, .int a2)] [.int b2, .int (Int32.ofInt 10), .ref 0] (s, l, x, y) a := by
  intro a2 b2 s l x y a h
  exact pm_run ((pq_X11_testChannels_143 fu a2 b2 s l x y).symm.trans h) (pz_X11_testChannels hT) (pm_bks_ok pb_X11_testChannels) (pm_bks_ok pb_X11_testChannels _ _ rfl) (pm_ndb_ok rfl) (pj_as_all (p := pm_Ex 3 11077 ie_X11_testChannels.1 pm_rU lf a) (List.forall_mem_cons.mpr ⟨pu_X11_testChannels_144 _ (fun c0 c1 c2 s l x y h => pg_X11_testChannels_144 hT c0 c1 c2 s l x y _ h), (fun _ h => by cases h)⟩))
set_option maxRecDepth 100000 in
theorem pg_X11_testChannels_125 {fu : Nat} {lf : pj_Z → mj_M} (hT : pj_Lt pj_TC lf) : ∀ (a1 : Int32) (a2 : Int32) (b2 : Int32) (s : Nat → Int32) (l : Nat → Int64) (x : Nat → Int32) (y : Nat → Int64) (a : Unit × pj_Z), pl_X11_testChannels_125 fu a1 a2 b2 s l x y = some a → pm_Gd 3 11077 ie_X11_testChannels.1 pm_rU lf 125 [(0, .ref 0), (1, .int a1), (2, .int a2)] [.int b2, .int (Int32.ofInt 10), .ref 0] (s, l, x, y) a := by
  intro a1 a2 b2 s l x y a h
  exact pm_run ((pq_X11_testChannels_125 fu a1 a2 b2 s l x y).symm.trans h) (pz_X11_testChannels hT) (pm_bks_ok pb_X11_testChannels) (pm_bks_ok pb_X11_testChannels _ _ rfl) (pm_ndb_ok rfl) (pj_as_all (p := pm_Ex 3 11077 ie_X11_testChannels.1 pm_rU lf a) (List.forall_mem_cons.mpr ⟨pu_X11_testChannels_143 _ (fun c0 c1 s l x y h => pg_X11_testChannels_143 hT c0 c1 s l x y _ h), (List.forall_mem_cons.mpr ⟨pu_X11_testChannels_144 _ (fun c0 c1 c2 s l x y h => pg_X11_testChannels_144 hT c0 c1 c2 s l x y _ h), (fun _ h => by cases h)⟩)⟩))
set_option maxRecDepth 100000 in
theorem pg_X11_testChannels_104 {fu : Nat} {lf : pj_Z → mj_M} (hT : pj_Lt pj_TC lf) : ∀ (a1 : Int32) (b0 : Int32) (s : Nat → Int32) (l : Nat → Int64) (x : Nat → Int32) (y : Nat → Int64) (a : Unit × pj_Z), pl_X11_testChannels_104 fu a1 b0 s l x y = some a → pm_Gd 3 11077 ie_X11_testChannels.1 pm_rU lf 104 [(0, .ref 0), (1, .int a1)] [.int b0] (s, l, x, y) a := by
  intro a1 b0 s l x y a h
  exact pm_run ((pq_X11_testChannels_104 fu a1 b0 s l x y).symm.trans h) (pz_X11_testChannels hT) (pm_bks_ok pb_X11_testChannels) (pm_bks_ok pb_X11_testChannels _ _ rfl) (pm_ndb_ok rfl) (pj_as_all (p := pm_Ex 3 11077 ie_X11_testChannels.1 pm_rU lf a) (List.forall_mem_cons.mpr ⟨pu_X11_testChannels_125 _ (fun c0 c1 c2 s l x y h => pg_X11_testChannels_125 hT c0 c1 c2 s l x y _ h), (fun _ h => by cases h)⟩))
set_option maxRecDepth 100000 in
theorem pg_X11_testChannels_103 {fu : Nat} {lf : pj_Z → mj_M} (hT : pj_Lt pj_TC lf) : ∀ (a1 : Int32) (s : Nat → Int32) (l : Nat → Int64) (x : Nat → Int32) (y : Nat → Int64) (a : Unit × pj_Z), pl_X11_testChannels_103 fu a1 s l x y = some a → pm_Gd 3 11077 ie_X11_testChannels.1 pm_rU lf 103 [(0, .ref 0), (1, .int a1)] [] (s, l, x, y) a := by
  intro a1 s l x y a h
  exact pm_run ((pq_X11_testChannels_103 fu a1 s l x y).symm.trans h) (pz_X11_testChannels hT) (pm_bks_ok pb_X11_testChannels) (pm_bks_ok pb_X11_testChannels _ _ rfl) (pm_ndb_ok rfl) (pj_as_all (p := pm_Ex 3 11077 ie_X11_testChannels.1 pm_rU lf a) (List.forall_mem_cons.mpr ⟨pu_X11_testChannels_104 _ (fun c0 c1 s l x y h => pg_X11_testChannels_104 hT c0 c1 s l x y _ h), (fun _ h => by cases h)⟩))
set_option maxRecDepth 100000 in
theorem pg_X11_testChannels_74 {fu : Nat} {lf : pj_Z → mj_M} (hT : pj_Lt pj_TC lf) : ∀ (b0 : Int32) (s : Nat → Int32) (l : Nat → Int64) (x : Nat → Int32) (y : Nat → Int64) (a : Unit × pj_Z), pl_X11_testChannels_74 fu b0 s l x y = some a → pm_Gd 3 11077 ie_X11_testChannels.1 pm_rU lf 74 [(0, .ref 0)] [.int b0] (s, l, x, y) a := by
  intro b0 s l x y a h
  exact pm_run ((pq_X11_testChannels_74 fu b0 s l x y).symm.trans h) (pz_X11_testChannels hT) (pm_bks_ok pb_X11_testChannels) (pm_bks_ok pb_X11_testChannels _ _ rfl) (pm_ndb_ok rfl) (pj_as_all (p := pm_Ex 3 11077 ie_X11_testChannels.1 pm_rU lf a) (List.forall_mem_cons.mpr ⟨pu_X11_testChannels_103 _ (fun c0 s l x y h => pg_X11_testChannels_103 hT c0 s l x y _ h), (List.forall_mem_cons.mpr ⟨pu_X11_testChannels_104 _ (fun c0 c1 s l x y h => pg_X11_testChannels_104 hT c0 c1 s l x y _ h), (fun _ h => by cases h)⟩)⟩))
set_option maxRecDepth 100000 in
theorem pg_X11_testChannels_73 {fu : Nat} {lf : pj_Z → mj_M} (hT : pj_Lt pj_TC lf) : ∀  (s : Nat → Int32) (l : Nat → Int64) (x : Nat → Int32) (y : Nat → Int64) (a : Unit × pj_Z), pl_X11_testChannels_73 fu s l x y = some a → pm_Gd 3 11077 ie_X11_testChannels.1 pm_rU lf 73 [(0, .ref 0)] [] (s, l, x, y) a := by
  intro  s l x y a h
  exact pm_run ((pq_X11_testChannels_73 fu  s l x y).symm.trans h) (pz_X11_testChannels hT) (pm_bks_ok pb_X11_testChannels) (pm_bks_ok pb_X11_testChannels _ _ rfl) (pm_ndb_ok rfl) (pj_as_all (p := pm_Ex 3 11077 ie_X11_testChannels.1 pm_rU lf a) (List.forall_mem_cons.mpr ⟨pu_X11_testChannels_74 _ (fun c0 s l x y h => pg_X11_testChannels_74 hT c0 s l x y _ h), (fun _ h => by cases h)⟩))
set_option maxRecDepth 100000 in
theorem pg_X11_testChannels_2 {fu : Nat} {lf : pj_Z → mj_M} (hT : pj_Lt pj_TC lf) : ∀ (n : Nat), ∀ (a1 : Int32) (s : Nat → Int32) (l : Nat → Int64) (x : Nat → Int32) (y : Nat → Int64) (a : Unit × pj_Z), pl_X11_testChannels_2 fu n a1 s l x y = some a → pm_Gd 3 11077 ie_X11_testChannels.1 pm_rU lf 2 [(0, .ref 0), (1, .int a1)] [] (s, l, x, y) a := by
  intro n
  induction n with
  | zero => intro a1 s l x y a h; cases (show (none : Option (Unit × pj_Z)) = some a from h)
  | succ n ih =>
    intro a1 s l x y a h
    exact pm_run ((pq_X11_testChannels_2 fu n a1 s l x y).symm.trans h) (pz_X11_testChannels hT) (pm_bks_ok pb_X11_testChannels) (pm_bks_ok pb_X11_testChannels _ _ rfl) (pm_ndb_ok rfl) (pj_as_all (p := pm_Ex 3 11077 ie_X11_testChannels.1 pm_rU lf a) (List.forall_mem_cons.mpr ⟨pu_X11_testChannels_2 _ (fun c0 s l x y h => ih c0 s l x y _ h), (List.forall_mem_cons.mpr ⟨pu_X11_testChannels_36 _ (fun c0 c1 c2 c3 s l x y h => pg_X11_testChannels_36 hT (fun a1 s l x y a h => ih a1 s l x y a h) c0 c1 c2 c3 s l x y _ h), (List.forall_mem_cons.mpr ⟨pu_X11_testChannels_73 _ (fun  s l x y h => pg_X11_testChannels_73 hT  s l x y _ h), (List.forall_mem_cons.mpr ⟨pu_X11_testChannels_74 _ (fun c0 s l x y h => pg_X11_testChannels_74 hT c0 s l x y _ h), (fun _ h => by cases h)⟩)⟩)⟩)⟩))
set_option maxRecDepth 100000 in
theorem pm_X11_testChannels {lf : pj_Z → mj_M} (hT : pj_Lt pj_TC lf)  (s : Nat → Int32) (l : Nat → Int64) (x : Nat → Int32) (y : Nat → Int64) (a : Unit × pj_Z) (h : pf_X11_testChannels  s l x y = some a) : mj_R ic_P 4 11077 [.ref 0] (lf (s, l, x, y)) (pm_rU a.1) (lf a.2) := by
  refine pm_main (Y := ie_X11_testChannels.1) rfl (Nat.le_of_ble_eq_true rfl) ?_
  exact pm_run ((pq_X11_testChannels_m 1000  s l x y).symm.trans h) (pz_X11_testChannels hT) (pm_bks_ok pb_X11_testChannels) (pm_bks_ok pb_X11_testChannels _ _ rfl) (pm_ndb_ok rfl) (pj_as_all (p := pm_Ex 3 11077 ie_X11_testChannels.1 pm_rU lf a) (List.forall_mem_cons.mpr ⟨pu_X11_testChannels_2 _ (fun c0 s l x y h => pg_X11_testChannels_2 hT _ c0 s l x y _ h), (fun _ h => by cases h)⟩))
abbrev ph_X11_testChannels {A : Type} : List pj_V → pj_Z → (List pj_V → pj_Z → Option A) → Option A := fun st z K => pj_pr st 0 0 fun st => pj_ps st (pj_b (pf_X11_testChannels  z.1 z.2.1 z.2.2.1 z.2.2.2) fun r s l x y => K st (s, l, x, y))
set_option maxRecDepth 100000 in
theorem pc_X11_testChannels {A : Type} {OK : A → Option Value → mj_M → Prop} {d j pc ix : Nat} {Y : mj_Y} {lf : pj_Z → mj_M} (hT : pj_Lt pj_TC lf) (hd : 4 ≤ d) (hl : mj_lk Y.2.2.2.2 pc = some (.invokevirtual ix, 3)) (hg : mj_pG ic_P j ix = some (11077, 0, some 11)) {lv : List (Nat × Value)} {st : List pj_V} {z : pj_Z} {K : List pj_V → pj_Z → Option A} {a : A} (hK : ∀ st z, K st z = some a → pj_Gd ic_P (mj_R ic_P d) j Y OK lf (pc + 3) lv (pj_es st) z a) (h : ph_X11_testChannels st z K = some a) : pj_Gd ic_P (mj_R ic_P d) j Y OK lf pc lv (pj_es st) z a := by
  obtain ⟨r0, e0, h⟩ := pj_pr_inv h
  obtain ⟨hs, h⟩ := pj_ps_inv h
  obtain ⟨q, hq, h⟩ := pj_b_inv h
  exact pm_cv (o := 0) hl hg [] rfl (by rw [e0]; rfl) hs (by decide) ((hT.2 0 _ rfl).1.2 z 0 (by decide)) (pm_rU q.1) hd (pm_X11_testChannels hT  z.1 z.2.1 z.2.2.1 z.2.2.2 q hq) rfl (hK _ _ h)

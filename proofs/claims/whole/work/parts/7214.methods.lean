/-! METHODS 14, printed by gen_meth.py -/
abbrev pe_X11_noise_11 (f : pj_F (Int32 × pj_Z)) : pj_K (Int32 × pj_Z) := fun lv st z => pj_pe st (f  z.1 z.2.1 z.2.2.1 z.2.2.2)
abbrev px_X11_noise : pj_C (Int32 × pj_Z) := (pj_TC, (pj_as [(68, 11, 8, 2, true), (90, 11, 12, 0, false), (363, 1, 6, 0, false)]), (fun _ => none), (fun _ => none), (fun _ => none), ic_X, 2, 1, pj_mI, (pj_as [(34, ph_X1_disturb)]), fun _ => false)
abbrev pk_X11_noise : List (Nat × List (Nat × Instr × Nat)) := [(0, [(0, .iload_n 1, 1), (1, .ifCond .lt 10, 3)]), (4, [(4, .iload_n 1, 1), (5, .sipush 300, 3), (8, .if_icmp .le 14, 3)]), (11, [(11, .new 107, 3)]), (22, [(22, .aload_n 0, 1), (23, .getfield 90, 3), (26, .ifCond .eq 11, 3)]), (29, [(29, .aload_n 0, 1), (30, .getfield 68, 3), (33, .iload_n 1, 1), (34, .invokevirtual 360, 3)]), (37, [(37, .aload_n 0, 1), (38, .getfield 68, 3), (41, .getfield 363, 3), (44, .ireturn, 1)])]
set_option maxRecDepth 100000 in
theorem pq_X11_noise_11  (s : Nat → Int32) (l : Nat → Int64) (x : Nat → Int32) (y : Nat → Int64) : pl_X11_noise_11 s l x y = pj_bl px_X11_noise (pj_rn px_X11_noise (pj_as pk_X11_noise) (fun _ => none) 60) [(11, .new 107, 3)] 11 [] [] (s, l, x, y) := rfl
set_option maxRecDepth 100000 in
theorem pq_X11_noise_m (a1 : Int32) (s : Nat → Int32) (l : Nat → Int64) (x : Nat → Int32) (y : Nat → Int64) : pf_X11_noise a1 s l x y = pj_bl px_X11_noise (pj_rn px_X11_noise (pj_as pk_X11_noise) (pj_as [(11, pe_X11_noise_11 (pl_X11_noise_11))]) 60) [(0, .iload_n 1, 1), (1, .ifCond .lt 10, 3)] 0 [(0, pj_O (0, 0)), (1, pj_I a1)] [] (s, l, x, y) := rfl
theorem pu_X11_noise_11 {lf : pj_Z → mj_M} {a : Int32 × pj_Z} (f : pj_F (Int32 × pj_Z)) (hf : ∀  (s : Nat → Int32) (l : Nat → Int64) (x : Nat → Int32) (y : Nat → Int64), f  s l x y = some a → pm_Gd 1 11035 ie_X11_noise.1 pm_rI lf 11 [] [] (s, l, x, y) a) : pm_Ex 1 11035 ie_X11_noise.1 pm_rI lf a 11 (pe_X11_noise_11 f) := by
  intro lv st z hd h
  obtain ⟨e9, h⟩ := pj_pe_inv h
  rw [e9]
  exact mj_wp_sub (mj_sub_nil hd) (hf  _ _ _ _ h)
set_option maxRecDepth 100000 in
theorem pz_X11_noise {lf : pj_Z → mj_M} (hT : pj_Lt pj_TC lf) : pj_Cok ic_P (mj_R ic_P 1) 11035 ie_X11_noise.1 (pm_OK lf pm_rI) lf px_X11_noise := by
  exact pm_cok (c := px_X11_noise) hT (pm_in_ok (L := [(68, 11, 8, 2, true), (90, 11, 12, 0, false), (363, 1, 6, 0, false)]) (f := mj_pF ic_P 11035) (by decide +kernel)) (fun _ _ h => by cases h) (fun _ _ h => by cases h) (fun _ _ h => by cases h) rfl rfl ⟨by decide, rfl⟩ pm_mI (pj_as_all (p := pm_Cl 1 11035 ie_X11_noise.1 lf (pm_OK lf pm_rI)) (List.forall_mem_cons.mpr ⟨fun _ _ lv st z K a hK h => pc_X1_disturb hT (by decide) (ix := 360) rfl rfl hK h, (fun _ h => by cases h)⟩)) (fun _ h => by cases h)
set_option maxRecDepth 100000 in
theorem pb_X11_noise : pm_bks ie_X11_noise.1.2.2.2.2 pk_X11_noise = true := by decide +kernel
set_option maxRecDepth 100000 in
theorem pg_X11_noise_11 {lf : pj_Z → mj_M} (hT : pj_Lt pj_TC lf) : ∀  (s : Nat → Int32) (l : Nat → Int64) (x : Nat → Int32) (y : Nat → Int64) (a : Int32 × pj_Z), pl_X11_noise_11 s l x y = some a → pm_Gd 1 11035 ie_X11_noise.1 pm_rI lf 11 [] [] (s, l, x, y) a := by
  intro  s l x y a h
  exact pj_bl_ok (pz_X11_noise hT) (fun t lv st z hd h => pj_rn_ok (pz_X11_noise hT) (pm_bks_ok pb_X11_noise) (fun _ _ h => by cases h) 60 t lv st z hd h) [(11, .new 107, 3)] 11 [] [] (s, l, x, y) (pm_bks_ok pb_X11_noise _ _ rfl) (pm_ndb_ok rfl) ((pq_X11_noise_11   s l x y).symm.trans h)
set_option maxRecDepth 100000 in
theorem pm_X11_noise {lf : pj_Z → mj_M} (hT : pj_Lt pj_TC lf) (a1 : Int32) (s : Nat → Int32) (l : Nat → Int64) (x : Nat → Int32) (y : Nat → Int64) (a : Int32 × pj_Z) (h : pf_X11_noise a1 s l x y = some a) : mj_R ic_P 2 11035 [.ref 0, .int a1] (lf (s, l, x, y)) (pm_rI a.1) (lf a.2) := by
  refine pm_main (Y := ie_X11_noise.1) rfl (Nat.le_of_ble_eq_true rfl) ?_
  exact pj_bl_ok (pz_X11_noise hT) (fun t lv st z hd h => pj_rn_ok (pz_X11_noise hT) (pm_bks_ok pb_X11_noise) (pj_as_all (p := pm_Ex 1 11035 ie_X11_noise.1 pm_rI lf a) (List.forall_mem_cons.mpr ⟨pu_X11_noise_11 _ (fun  s l x y h => pg_X11_noise_11 hT  s l x y _ h), (fun _ h => by cases h)⟩)) 60 t lv st z hd h) [(0, .iload_n 1, 1), (1, .ifCond .lt 10, 3)] 0 [(0, pj_O (0, 0)), (1, pj_I a1)] [] (s, l, x, y) (pm_bks_ok pb_X11_noise _ _ rfl) (pm_ndb_ok rfl) ((pq_X11_noise_m a1 s l x y).symm.trans h)
abbrev ph_X11_noise {A : Type} : List pj_V → pj_Z → (List pj_V → pj_Z → Option A) → Option A := fun st z K => pj_pi st fun a1 st => pj_pr st 0 0 fun st => pj_ps st (pj_b (pf_X11_noise a1 z.1 z.2.1 z.2.2.1 z.2.2.2) fun r s l x y => K (pj_I r :: st) (s, l, x, y))
set_option maxRecDepth 100000 in
theorem pc_X11_noise {A : Type} {OK : A → Option Value → mj_M → Prop} {d j pc ix : Nat} {Y : mj_Y} {lf : pj_Z → mj_M} (hT : pj_Lt pj_TC lf) (hd : 2 ≤ d) (hl : mj_lk Y.2.2.2.2 pc = some (.invokevirtual ix, 3)) (hg : mj_pG ic_P j ix = some (11035, 1, some 11)) {lv : List (Nat × Value)} {st : List pj_V} {z : pj_Z} {K : List pj_V → pj_Z → Option A} {a : A} (hK : ∀ st z, K st z = some a → pj_Gd ic_P (mj_R ic_P d) j Y OK lf (pc + 3) lv (pj_es st) z a) (h : ph_X11_noise st z K = some a) : pj_Gd ic_P (mj_R ic_P d) j Y OK lf pc lv (pj_es st) z a := by
  obtain ⟨a1, r1, e1, h⟩ := pj_pi_inv h
  obtain ⟨r0, e0, h⟩ := pj_pr_inv h
  obtain ⟨hs, h⟩ := pj_ps_inv h
  obtain ⟨q, hq, h⟩ := pj_b_inv h
  exact pm_cv (o := 0) hl hg [.int a1] rfl (by rw [e1, e0]; rfl) hs (by decide) ((hT.2 0 _ rfl).1.2 z 0 (by decide)) (pm_rI q.1) hd (pm_X11_noise hT a1 z.1 z.2.1 z.2.2.1 z.2.2.2 q hq) rfl (hK _ _ h)
abbrev px_X0_addUnit : pj_C (Int32 × pj_Z) := (pj_TC, (pj_as [(11, 0, 0, 2, true), (53, 0, 1, 0, false)]), (fun _ => none), (fun _ => none), (fun _ => none), ic_X, 2, 2, pj_mI, (fun _ => none), fun _ => false)
abbrev pk_X0_addUnit : List (Nat × List (Nat × Instr × Nat)) := [(0, [(0, .aload_n 0, 1), (1, .getfield 53, 3), (4, .sipush 200, 3), (7, .if_icmp .ge 15, 3)]), (10, [(10, .iload_n 1, 1), (11, .bipush 32, 2), (13, .if_icmp .lt 9, 3)]), (16, [(16, .iload_n 1, 1), (17, .bipush 126, 2), (19, .if_icmp .le 5, 3)]), (22, [(22, .iconst 0, 1), (23, .ireturn, 1)]), (24, [(24, .aload_n 0, 1), (25, .getfield 11, 3), (28, .aload_n 0, 1), (29, .getfield 53, 3), (32, .iload_n 1, 1), (33, .iastore, 1), (34, .aload_n 0, 1), (35, .dup, 1), (36, .getfield 53, 3), (39, .iconst 1, 1), (40, .iadd, 1), (41, .putfield 53, 3), (44, .iconst 1, 1), (45, .ireturn, 1)])]
set_option maxRecDepth 100000 in
theorem pq_X0_addUnit_m (a1 : Int32) (s : Nat → Int32) (l : Nat → Int64) (x : Nat → Int32) (y : Nat → Int64) : pf_X0_addUnit a1 s l x y = pj_bl px_X0_addUnit (pj_rn px_X0_addUnit (pj_as pk_X0_addUnit) (fun _ => none) 60) [(0, .aload_n 0, 1), (1, .getfield 53, 3), (4, .sipush 200, 3), (7, .if_icmp .ge 15, 3)] 0 [(0, pj_O (106, 0)), (1, pj_I a1)] [] (s, l, x, y) := rfl
set_option maxRecDepth 100000 in
theorem pz_X0_addUnit {lf : pj_Z → mj_M} (hT : pj_Lt pj_TC lf) : pj_Cok ic_P (mj_R ic_P 0) 2 ie_X0_addUnit.1 (pm_OK lf pm_rI) lf px_X0_addUnit := by
  exact pm_cok (c := px_X0_addUnit) hT (pm_in_ok (L := [(11, 0, 0, 2, true), (53, 0, 1, 0, false)]) (f := mj_pF ic_P 2) (by decide +kernel)) (fun _ _ h => by cases h) (fun _ _ h => by cases h) (fun _ _ h => by cases h) rfl rfl ⟨by decide, rfl⟩ pm_mI (fun _ _ h => by cases h) (fun _ h => by cases h)
set_option maxRecDepth 100000 in
theorem pb_X0_addUnit : pm_bks ie_X0_addUnit.1.2.2.2.2 pk_X0_addUnit = true := by decide +kernel
set_option maxRecDepth 100000 in
theorem pm_X0_addUnit {lf : pj_Z → mj_M} (hT : pj_Lt pj_TC lf) (a1 : Int32) (s : Nat → Int32) (l : Nat → Int64) (x : Nat → Int32) (y : Nat → Int64) (a : Int32 × pj_Z) (h : pf_X0_addUnit a1 s l x y = some a) : mj_R ic_P 1 2 [.ref 106, .int a1] (lf (s, l, x, y)) (pm_rI a.1) (lf a.2) := by
  refine pm_main (Y := ie_X0_addUnit.1) rfl (Nat.le_of_ble_eq_true rfl) ?_
  exact pj_bl_ok (pz_X0_addUnit hT) (fun t lv st z hd h => pj_rn_ok (pz_X0_addUnit hT) (pm_bks_ok pb_X0_addUnit) (fun _ _ h => by cases h) 60 t lv st z hd h) [(0, .aload_n 0, 1), (1, .getfield 53, 3), (4, .sipush 200, 3), (7, .if_icmp .ge 15, 3)] 0 [(0, pj_O (106, 0)), (1, pj_I a1)] [] (s, l, x, y) (pm_bks_ok pb_X0_addUnit _ _ rfl) (pm_ndb_ok rfl) ((pq_X0_addUnit_m a1 s l x y).symm.trans h)
abbrev ph_X0_addUnit {A : Type} : List pj_V → pj_Z → (List pj_V → pj_Z → Option A) → Option A := fun st z K => pj_pi st fun a1 st => pj_pr st 106 0 fun st => pj_ps st (pj_b (pf_X0_addUnit a1 z.1 z.2.1 z.2.2.1 z.2.2.2) fun r s l x y => K (pj_I r :: st) (s, l, x, y))
set_option maxRecDepth 100000 in
theorem pc_X0_addUnit {A : Type} {OK : A → Option Value → mj_M → Prop} {d j pc ix : Nat} {Y : mj_Y} {lf : pj_Z → mj_M} (hT : pj_Lt pj_TC lf) (hd : 1 ≤ d) (hl : mj_lk Y.2.2.2.2 pc = some (.invokevirtual ix, 3)) (hg : mj_pG ic_P j ix = some (2, 1, some 0)) {lv : List (Nat × Value)} {st : List pj_V} {z : pj_Z} {K : List pj_V → pj_Z → Option A} {a : A} (hK : ∀ st z, K st z = some a → pj_Gd ic_P (mj_R ic_P d) j Y OK lf (pc + 3) lv (pj_es st) z a) (h : ph_X0_addUnit st z K = some a) : pj_Gd ic_P (mj_R ic_P d) j Y OK lf pc lv (pj_es st) z a := by
  obtain ⟨a1, r1, e1, h⟩ := pj_pi_inv h
  obtain ⟨r0, e0, h⟩ := pj_pr_inv h
  obtain ⟨hs, h⟩ := pj_ps_inv h
  obtain ⟨q, hq, h⟩ := pj_b_inv h
  exact pm_cv (o := 106) hl hg [.int a1] rfl (by rw [e1, e0]; rfl) hs (by decide) ((hT.2 106 _ rfl).1.2 z 0 (by decide)) (pm_rI q.1) hd (pm_X0_addUnit hT a1 z.1 z.2.1 z.2.2.1 z.2.2.2 q hq) rfl (hK _ _ h)
abbrev px_X11_unit : pj_C (Int32 × pj_Z) := (pj_TC, (pj_as [(75, 11, 9, 2, true)]), (fun _ => none), (fun _ => none), (fun _ => none), ic_X, 2, 2, pj_mI, (pj_as [(5, ph_X0_addUnit)]), fun _ => false)
abbrev pk_X11_unit : List (Nat × List (Nat × Instr × Nat)) := [(0, [(0, .aload_n 0, 1), (1, .getfield 75, 3), (4, .iload_n 1, 1), (5, .invokevirtual 366, 3), (8, .ireturn, 1)])]
set_option maxRecDepth 100000 in
theorem pq_X11_unit_m (a1 : Int32) (s : Nat → Int32) (l : Nat → Int64) (x : Nat → Int32) (y : Nat → Int64) : pf_X11_unit a1 s l x y = pj_bl px_X11_unit (pj_rn px_X11_unit (pj_as pk_X11_unit) (fun _ => none) 60) [(0, .aload_n 0, 1), (1, .getfield 75, 3), (4, .iload_n 1, 1), (5, .invokevirtual 366, 3), (8, .ireturn, 1)] 0 [(0, pj_O (0, 0)), (1, pj_I a1)] [] (s, l, x, y) := rfl
set_option maxRecDepth 100000 in
theorem pz_X11_unit {lf : pj_Z → mj_M} (hT : pj_Lt pj_TC lf) : pj_Cok ic_P (mj_R ic_P 1) 11036 ie_X11_unit.1 (pm_OK lf pm_rI) lf px_X11_unit := by
  exact pm_cok (c := px_X11_unit) hT (pm_in_ok (L := [(75, 11, 9, 2, true)]) (f := mj_pF ic_P 11036) (by decide +kernel)) (fun _ _ h => by cases h) (fun _ _ h => by cases h) (fun _ _ h => by cases h) rfl rfl ⟨by decide, rfl⟩ pm_mI (pj_as_all (p := pm_Cl 1 11036 ie_X11_unit.1 lf (pm_OK lf pm_rI)) (List.forall_mem_cons.mpr ⟨fun _ _ lv st z K a hK h => pc_X0_addUnit hT (by decide) (ix := 366) rfl rfl hK h, (fun _ h => by cases h)⟩)) (fun _ h => by cases h)
set_option maxRecDepth 100000 in
theorem pb_X11_unit : pm_bks ie_X11_unit.1.2.2.2.2 pk_X11_unit = true := by decide +kernel
set_option maxRecDepth 100000 in
theorem pm_X11_unit {lf : pj_Z → mj_M} (hT : pj_Lt pj_TC lf) (a1 : Int32) (s : Nat → Int32) (l : Nat → Int64) (x : Nat → Int32) (y : Nat → Int64) (a : Int32 × pj_Z) (h : pf_X11_unit a1 s l x y = some a) : mj_R ic_P 2 11036 [.ref 0, .int a1] (lf (s, l, x, y)) (pm_rI a.1) (lf a.2) := by
  refine pm_main (Y := ie_X11_unit.1) rfl (Nat.le_of_ble_eq_true rfl) ?_
  exact pj_bl_ok (pz_X11_unit hT) (fun t lv st z hd h => pj_rn_ok (pz_X11_unit hT) (pm_bks_ok pb_X11_unit) (fun _ _ h => by cases h) 60 t lv st z hd h) [(0, .aload_n 0, 1), (1, .getfield 75, 3), (4, .iload_n 1, 1), (5, .invokevirtual 366, 3), (8, .ireturn, 1)] 0 [(0, pj_O (0, 0)), (1, pj_I a1)] [] (s, l, x, y) (pm_bks_ok pb_X11_unit _ _ rfl) (pm_ndb_ok rfl) ((pq_X11_unit_m a1 s l x y).symm.trans h)
abbrev ph_X11_unit {A : Type} : List pj_V → pj_Z → (List pj_V → pj_Z → Option A) → Option A := fun st z K => pj_pi st fun a1 st => pj_pr st 0 0 fun st => pj_ps st (pj_b (pf_X11_unit a1 z.1 z.2.1 z.2.2.1 z.2.2.2) fun r s l x y => K (pj_I r :: st) (s, l, x, y))
set_option maxRecDepth 100000 in
theorem pc_X11_unit {A : Type} {OK : A → Option Value → mj_M → Prop} {d j pc ix : Nat} {Y : mj_Y} {lf : pj_Z → mj_M} (hT : pj_Lt pj_TC lf) (hd : 2 ≤ d) (hl : mj_lk Y.2.2.2.2 pc = some (.invokevirtual ix, 3)) (hg : mj_pG ic_P j ix = some (11036, 1, some 11)) {lv : List (Nat × Value)} {st : List pj_V} {z : pj_Z} {K : List pj_V → pj_Z → Option A} {a : A} (hK : ∀ st z, K st z = some a → pj_Gd ic_P (mj_R ic_P d) j Y OK lf (pc + 3) lv (pj_es st) z a) (h : ph_X11_unit st z K = some a) : pj_Gd ic_P (mj_R ic_P d) j Y OK lf pc lv (pj_es st) z a := by
  obtain ⟨a1, r1, e1, h⟩ := pj_pi_inv h
  obtain ⟨r0, e0, h⟩ := pj_pr_inv h
  obtain ⟨hs, h⟩ := pj_ps_inv h
  obtain ⟨q, hq, h⟩ := pj_b_inv h
  exact pm_cv (o := 0) hl hg [.int a1] rfl (by rw [e1, e0]; rfl) hs (by decide) ((hT.2 0 _ rfl).1.2 z 0 (by decide)) (pm_rI q.1) hd (pm_X11_unit hT a1 z.1 z.2.1 z.2.2.1 z.2.2.2 q hq) rfl (hK _ _ h)
abbrev pe_X0_nextSign_0 (f : pj_F (Int32 × pj_Z)) : pj_K (Int32 × pj_Z) := fun lv st z => pj_xr lv 0 106 0 <| pj_pe st (f  z.1 z.2.1 z.2.2.1 z.2.2.2)
abbrev pe_X0_nextSign_48 (f : pj_F (Int32 × pj_Z)) : pj_K (Int32 × pj_Z) := fun lv st z => pj_xr lv 0 106 0 <| pj_pe st (f  z.1 z.2.1 z.2.2.1 z.2.2.2)
abbrev px_X0_nextSign : pj_C (Int32 × pj_Z) := (pj_TC, (pj_as [(11, 0, 0, 2, true), (53, 0, 1, 0, false), (56, 0, 7, 0, false)]), (fun _ => none), (fun _ => none), (fun _ => none), ic_X, 1, 1, pj_mI, (fun _ => none), fun _ => false)
abbrev pk_X0_nextSign : List (Nat × List (Nat × Instr × Nat)) := [(0, [(0, .aload_n 0, 1), (1, .getfield 56, 3), (4, .aload_n 0, 1), (5, .getfield 53, 3), (8, .if_icmp .ge 40, 3)]), (11, [(11, .aload_n 0, 1), (12, .getfield 56, 3), (15, .sipush 200, 3), (18, .if_icmp .ge 30, 3)]), (21, [(21, .aload_n 0, 1), (22, .getfield 11, 3), (25, .aload_n 0, 1), (26, .getfield 56, 3), (29, .iaload, 1), (30, .bipush 32, 2), (32, .if_icmp .ne 16, 3)]), (35, [(35, .aload_n 0, 1), (36, .dup, 1), (37, .getfield 56, 3), (40, .iconst 1, 1), (41, .iadd, 1), (42, .putfield 56, 3), (45, .goto (-45), 3)]), (48, [(48, .aload_n 0, 1), (49, .getfield 56, 3), (52, .aload_n 0, 1), (53, .getfield 53, 3), (56, .if_icmp .ge 25, 3)]), (59, [(59, .aload_n 0, 1), (60, .getfield 56, 3), (63, .sipush 200, 3), (66, .if_icmp .ge 15, 3)]), (69, [(69, .aload_n 0, 1), (70, .getfield 11, 3), (73, .aload_n 0, 1), (74, .getfield 56, 3), (77, .iaload, 1), (78, .goto 4, 3)]), (81, [(81, .iconst (-1), 1)]), (82, [(82, .ireturn, 1)])]
set_option maxRecDepth 100000 in
theorem pq_X0_nextSign_48  (s : Nat → Int32) (l : Nat → Int64) (x : Nat → Int32) (y : Nat → Int64) : pl_X0_nextSign_48 s l x y = pj_bl px_X0_nextSign (pj_rn px_X0_nextSign (pj_as pk_X0_nextSign) (fun _ => none) 60) [(48, .aload_n 0, 1), (49, .getfield 56, 3), (52, .aload_n 0, 1), (53, .getfield 53, 3), (56, .if_icmp .ge 25, 3)] 48 [(0, pj_O (106, 0))] [] (s, l, x, y) := rfl
set_option maxRecDepth 100000 in
theorem pq_X0_nextSign_0 (n : Nat)  (s : Nat → Int32) (l : Nat → Int64) (x : Nat → Int32) (y : Nat → Int64) : pl_X0_nextSign_0 (n + 1) s l x y = pj_bl px_X0_nextSign (pj_rn px_X0_nextSign (pj_as pk_X0_nextSign) (pj_as [(0, pe_X0_nextSign_0 (pl_X0_nextSign_0 n)), (48, pe_X0_nextSign_48 (pl_X0_nextSign_48))]) 60) [(0, .aload_n 0, 1), (1, .getfield 56, 3), (4, .aload_n 0, 1), (5, .getfield 53, 3), (8, .if_icmp .ge 40, 3)] 0 [(0, pj_O (106, 0))] [] (s, l, x, y) := rfl
theorem pu_X0_nextSign_0 {lf : pj_Z → mj_M} {a : Int32 × pj_Z} (f : pj_F (Int32 × pj_Z)) (hf : ∀  (s : Nat → Int32) (l : Nat → Int64) (x : Nat → Int32) (y : Nat → Int64), f  s l x y = some a → pm_Gd 0 4 ie_X0_nextSign.1 pm_rI lf 0 [(0, .ref 106)] [] (s, l, x, y) a) : pm_Ex 0 4 ie_X0_nextSign.1 pm_rI lf a 0 (pe_X0_nextSign_0 f) := by
  intro lv st z hd h
  obtain ⟨g0, h⟩ := pj_xr_inv h
  obtain ⟨e9, h⟩ := pj_pe_inv h
  rw [e9]
  exact mj_wp_sub (mj_sub_cons g0 (mj_sub_nil hd)) (hf  _ _ _ _ h)
theorem pu_X0_nextSign_48 {lf : pj_Z → mj_M} {a : Int32 × pj_Z} (f : pj_F (Int32 × pj_Z)) (hf : ∀  (s : Nat → Int32) (l : Nat → Int64) (x : Nat → Int32) (y : Nat → Int64), f  s l x y = some a → pm_Gd 0 4 ie_X0_nextSign.1 pm_rI lf 48 [(0, .ref 106)] [] (s, l, x, y) a) : pm_Ex 0 4 ie_X0_nextSign.1 pm_rI lf a 48 (pe_X0_nextSign_48 f) := by
  intro lv st z hd h
  obtain ⟨g0, h⟩ := pj_xr_inv h
  obtain ⟨e9, h⟩ := pj_pe_inv h
  rw [e9]
  exact mj_wp_sub (mj_sub_cons g0 (mj_sub_nil hd)) (hf  _ _ _ _ h)
set_option maxRecDepth 100000 in
theorem pz_X0_nextSign {lf : pj_Z → mj_M} (hT : pj_Lt pj_TC lf) : pj_Cok ic_P (mj_R ic_P 0) 4 ie_X0_nextSign.1 (pm_OK lf pm_rI) lf px_X0_nextSign := by
  exact pm_cok (c := px_X0_nextSign) hT (pm_in_ok (L := [(11, 0, 0, 2, true), (53, 0, 1, 0, false), (56, 0, 7, 0, false)]) (f := mj_pF ic_P 4) (by decide +kernel)) (fun _ _ h => by cases h) (fun _ _ h => by cases h) (fun _ _ h => by cases h) rfl rfl ⟨by decide, rfl⟩ pm_mI (fun _ _ h => by cases h) (fun _ h => by cases h)
set_option maxRecDepth 100000 in
theorem pb_X0_nextSign : pm_bks ie_X0_nextSign.1.2.2.2.2 pk_X0_nextSign = true := by decide +kernel
set_option maxRecDepth 100000 in
theorem pg_X0_nextSign_48 {lf : pj_Z → mj_M} (hT : pj_Lt pj_TC lf) : ∀  (s : Nat → Int32) (l : Nat → Int64) (x : Nat → Int32) (y : Nat → Int64) (a : Int32 × pj_Z), pl_X0_nextSign_48 s l x y = some a → pm_Gd 0 4 ie_X0_nextSign.1 pm_rI lf 48 [(0, .ref 106)] [] (s, l, x, y) a := by
  intro  s l x y a h
  exact pj_bl_ok (pz_X0_nextSign hT) (fun t lv st z hd h => pj_rn_ok (pz_X0_nextSign hT) (pm_bks_ok pb_X0_nextSign) (fun _ _ h => by cases h) 60 t lv st z hd h) [(48, .aload_n 0, 1), (49, .getfield 56, 3), (52, .aload_n 0, 1), (53, .getfield 53, 3), (56, .if_icmp .ge 25, 3)] 48 [(0, pj_O (106, 0))] [] (s, l, x, y) (pm_bks_ok pb_X0_nextSign _ _ rfl) (pm_ndb_ok rfl) ((pq_X0_nextSign_48   s l x y).symm.trans h)
set_option maxRecDepth 100000 in
theorem pg_X0_nextSign_0 {lf : pj_Z → mj_M} (hT : pj_Lt pj_TC lf) : ∀ (n : Nat), ∀  (s : Nat → Int32) (l : Nat → Int64) (x : Nat → Int32) (y : Nat → Int64) (a : Int32 × pj_Z), pl_X0_nextSign_0 n s l x y = some a → pm_Gd 0 4 ie_X0_nextSign.1 pm_rI lf 0 [(0, .ref 106)] [] (s, l, x, y) a := by
  intro n
  induction n with
  | zero => intro  s l x y a h; cases (show (none : Option (Int32 × pj_Z)) = some a from h)
  | succ n ih =>
    intro  s l x y a h
    exact pj_bl_ok (pz_X0_nextSign hT) (fun t lv st z hd h => pj_rn_ok (pz_X0_nextSign hT) (pm_bks_ok pb_X0_nextSign) (pj_as_all (p := pm_Ex 0 4 ie_X0_nextSign.1 pm_rI lf a) (List.forall_mem_cons.mpr ⟨pu_X0_nextSign_0 _ (fun  s l x y h => ih  s l x y _ h), (List.forall_mem_cons.mpr ⟨pu_X0_nextSign_48 _ (fun  s l x y h => pg_X0_nextSign_48 hT  s l x y _ h), (fun _ h => by cases h)⟩)⟩)) 60 t lv st z hd h) [(0, .aload_n 0, 1), (1, .getfield 56, 3), (4, .aload_n 0, 1), (5, .getfield 53, 3), (8, .if_icmp .ge 40, 3)] 0 [(0, pj_O (106, 0))] [] (s, l, x, y) (pm_bks_ok pb_X0_nextSign _ _ rfl) (pm_ndb_ok rfl) ((pq_X0_nextSign_0 n  s l x y).symm.trans h)
set_option maxRecDepth 100000 in
theorem pm_X0_nextSign {lf : pj_Z → mj_M} (hT : pj_Lt pj_TC lf)  (s : Nat → Int32) (l : Nat → Int64) (x : Nat → Int32) (y : Nat → Int64) (a : Int32 × pj_Z) (h : pf_X0_nextSign  s l x y = some a) : mj_R ic_P 1 4 [.ref 106] (lf (s, l, x, y)) (pm_rI a.1) (lf a.2) := by
  refine pm_main (Y := ie_X0_nextSign.1) rfl (Nat.le_of_ble_eq_true rfl) ?_
  exact pg_X0_nextSign_0 hT (pj_fu 0)  s l x y a h
abbrev ph_X0_nextSign {A : Type} : List pj_V → pj_Z → (List pj_V → pj_Z → Option A) → Option A := fun st z K => pj_pr st 106 0 fun st => pj_ps st (pj_b (pf_X0_nextSign  z.1 z.2.1 z.2.2.1 z.2.2.2) fun r s l x y => K (pj_I r :: st) (s, l, x, y))
set_option maxRecDepth 100000 in
theorem pc_X0_nextSign {A : Type} {OK : A → Option Value → mj_M → Prop} {d j pc ix : Nat} {Y : mj_Y} {lf : pj_Z → mj_M} (hT : pj_Lt pj_TC lf) (hd : 1 ≤ d) (hl : mj_lk Y.2.2.2.2 pc = some (.invokevirtual ix, 3)) (hg : mj_pG ic_P j ix = some (4, 0, some 0)) {lv : List (Nat × Value)} {st : List pj_V} {z : pj_Z} {K : List pj_V → pj_Z → Option A} {a : A} (hK : ∀ st z, K st z = some a → pj_Gd ic_P (mj_R ic_P d) j Y OK lf (pc + 3) lv (pj_es st) z a) (h : ph_X0_nextSign st z K = some a) : pj_Gd ic_P (mj_R ic_P d) j Y OK lf pc lv (pj_es st) z a := by
  obtain ⟨r0, e0, h⟩ := pj_pr_inv h
  obtain ⟨hs, h⟩ := pj_ps_inv h
  obtain ⟨q, hq, h⟩ := pj_b_inv h
  exact pm_cv (o := 106) hl hg [] rfl (by rw [e0]; rfl) hs (by decide) ((hT.2 106 _ rfl).1.2 z 0 (by decide)) (pm_rI q.1) hd (pm_X0_nextSign hT  z.1 z.2.1 z.2.2.1 z.2.2.2 q hq) rfl (hK _ _ h)
abbrev px_X0_readSign : pj_C (Int32 × pj_Z) := (pj_TC, (pj_as [(56, 0, 7, 0, false)]), (fun _ => none), (fun _ => none), (fun _ => none), ic_X, 2, 2, pj_mI, (pj_as [(1, ph_X0_nextSign)]), fun _ => false)
abbrev pk_X0_readSign : List (Nat × List (Nat × Instr × Nat)) := [(0, [(0, .aload_n 0, 1), (1, .invokevirtual 70, 3), (4, .iload_n 1, 1), (5, .if_icmp .eq 5, 3)]), (8, [(8, .iconst 0, 1), (9, .ireturn, 1)]), (10, [(10, .aload_n 0, 1), (11, .dup, 1), (12, .getfield 56, 3), (15, .iconst 1, 1), (16, .iadd, 1), (17, .putfield 56, 3), (20, .iconst 1, 1), (21, .ireturn, 1)])]
set_option maxRecDepth 100000 in
theorem pq_X0_readSign_m (a1 : Int32) (s : Nat → Int32) (l : Nat → Int64) (x : Nat → Int32) (y : Nat → Int64) : pf_X0_readSign a1 s l x y = pj_bl px_X0_readSign (pj_rn px_X0_readSign (pj_as pk_X0_readSign) (fun _ => none) 60) [(0, .aload_n 0, 1), (1, .invokevirtual 70, 3), (4, .iload_n 1, 1), (5, .if_icmp .eq 5, 3)] 0 [(0, pj_O (106, 0)), (1, pj_I a1)] [] (s, l, x, y) := rfl
set_option maxRecDepth 100000 in
theorem pz_X0_readSign {lf : pj_Z → mj_M} (hT : pj_Lt pj_TC lf) : pj_Cok ic_P (mj_R ic_P 1) 5 ie_X0_readSign.1 (pm_OK lf pm_rI) lf px_X0_readSign := by
  exact pm_cok (c := px_X0_readSign) hT (pm_in_ok (L := [(56, 0, 7, 0, false)]) (f := mj_pF ic_P 5) (by decide +kernel)) (fun _ _ h => by cases h) (fun _ _ h => by cases h) (fun _ _ h => by cases h) rfl rfl ⟨by decide, rfl⟩ pm_mI (pj_as_all (p := pm_Cl 1 5 ie_X0_readSign.1 lf (pm_OK lf pm_rI)) (List.forall_mem_cons.mpr ⟨fun _ _ lv st z K a hK h => pc_X0_nextSign hT (by decide) (ix := 70) rfl rfl hK h, (fun _ h => by cases h)⟩)) (fun _ h => by cases h)
set_option maxRecDepth 100000 in
theorem pb_X0_readSign : pm_bks ie_X0_readSign.1.2.2.2.2 pk_X0_readSign = true := by decide +kernel
set_option maxRecDepth 100000 in
theorem pm_X0_readSign {lf : pj_Z → mj_M} (hT : pj_Lt pj_TC lf) (a1 : Int32) (s : Nat → Int32) (l : Nat → Int64) (x : Nat → Int32) (y : Nat → Int64) (a : Int32 × pj_Z) (h : pf_X0_readSign a1 s l x y = some a) : mj_R ic_P 2 5 [.ref 106, .int a1] (lf (s, l, x, y)) (pm_rI a.1) (lf a.2) := by
  refine pm_main (Y := ie_X0_readSign.1) rfl (Nat.le_of_ble_eq_true rfl) ?_
  exact pj_bl_ok (pz_X0_readSign hT) (fun t lv st z hd h => pj_rn_ok (pz_X0_readSign hT) (pm_bks_ok pb_X0_readSign) (fun _ _ h => by cases h) 60 t lv st z hd h) [(0, .aload_n 0, 1), (1, .invokevirtual 70, 3), (4, .iload_n 1, 1), (5, .if_icmp .eq 5, 3)] 0 [(0, pj_O (106, 0)), (1, pj_I a1)] [] (s, l, x, y) (pm_bks_ok pb_X0_readSign _ _ rfl) (pm_ndb_ok rfl) ((pq_X0_readSign_m a1 s l x y).symm.trans h)
abbrev ph_X0_readSign {A : Type} : List pj_V → pj_Z → (List pj_V → pj_Z → Option A) → Option A := fun st z K => pj_pi st fun a1 st => pj_pr st 106 0 fun st => pj_ps st (pj_b (pf_X0_readSign a1 z.1 z.2.1 z.2.2.1 z.2.2.2) fun r s l x y => K (pj_I r :: st) (s, l, x, y))
set_option maxRecDepth 100000 in
theorem pc_X0_readSign {A : Type} {OK : A → Option Value → mj_M → Prop} {d j pc ix : Nat} {Y : mj_Y} {lf : pj_Z → mj_M} (hT : pj_Lt pj_TC lf) (hd : 2 ≤ d) (hl : mj_lk Y.2.2.2.2 pc = some (.invokevirtual ix, 3)) (hg : mj_pG ic_P j ix = some (5, 1, some 0)) {lv : List (Nat × Value)} {st : List pj_V} {z : pj_Z} {K : List pj_V → pj_Z → Option A} {a : A} (hK : ∀ st z, K st z = some a → pj_Gd ic_P (mj_R ic_P d) j Y OK lf (pc + 3) lv (pj_es st) z a) (h : ph_X0_readSign st z K = some a) : pj_Gd ic_P (mj_R ic_P d) j Y OK lf pc lv (pj_es st) z a := by
  obtain ⟨a1, r1, e1, h⟩ := pj_pi_inv h
  obtain ⟨r0, e0, h⟩ := pj_pr_inv h
  obtain ⟨hs, h⟩ := pj_ps_inv h
  obtain ⟨q, hq, h⟩ := pj_b_inv h
  exact pm_cv (o := 106) hl hg [.int a1] rfl (by rw [e1, e0]; rfl) hs (by decide) ((hT.2 106 _ rfl).1.2 z 0 (by decide)) (pm_rI q.1) hd (pm_X0_readSign hT a1 z.1 z.2.1 z.2.2.1 z.2.2.2 q hq) rfl (hK _ _ h)
abbrev pe_X0_readNumber_4 (f : Int32 → Int32 → pj_F (Int32 × pj_Z)) : pj_K (Int32 × pj_Z) := fun lv st z => pj_xr lv 0 106 0 <| pj_xi lv 1 fun a1 => pj_xi lv 2 fun a2 => pj_pe st (f a1 a2 z.1 z.2.1 z.2.2.1 z.2.2.2)
abbrev px_X0_readNumber : pj_C (Int32 × pj_Z) := (pj_TC, (pj_as [(11, 0, 0, 2, true), (53, 0, 1, 0, false), (56, 0, 7, 0, false)]), (fun _ => none), (fun _ => none), (fun _ => none), ic_X, 3, 1, pj_mI, (fun _ => none), fun _ => false)
abbrev pk_X0_readNumber : List (Nat × List (Nat × Instr × Nat)) := [(0, [(0, .iconst 0, 1), (1, .istore_n 1, 1), (2, .iconst 0, 1), (3, .istore_n 2, 1)]), (4, [(4, .iload_n 2, 1), (5, .bipush 6, 2), (7, .if_icmp .ge 94, 3)]), (10, [(10, .aload_n 0, 1), (11, .getfield 56, 3), (14, .aload_n 0, 1), (15, .getfield 53, 3), (18, .if_icmp .ge 83, 3)]), (21, [(21, .aload_n 0, 1), (22, .getfield 56, 3), (25, .sipush 200, 3), (28, .if_icmp .ge 73, 3)]), (31, [(31, .aload_n 0, 1), (32, .getfield 11, 3), (35, .aload_n 0, 1), (36, .getfield 56, 3), (39, .iaload, 1), (40, .bipush 48, 2), (42, .if_icmp .lt 59, 3)]), (45, [(45, .aload_n 0, 1), (46, .getfield 11, 3), (49, .aload_n 0, 1), (50, .getfield 56, 3), (53, .iaload, 1), (54, .bipush 57, 2), (56, .if_icmp .gt 45, 3)]), (59, [(59, .iinc 2 1, 3), (62, .iload_n 2, 1), (63, .bipush 6, 2), (65, .if_icmp .ne 5, 3)]), (68, [(68, .iconst (-1), 1), (69, .ireturn, 1)]), (70, [(70, .bipush 10, 2), (72, .iload_n 1, 1), (73, .imul, 1), (74, .aload_n 0, 1), (75, .getfield 11, 3), (78, .aload_n 0, 1), (79, .getfield 56, 3), (82, .iaload, 1), (83, .iadd, 1), (84, .bipush 48, 2), (86, .isub, 1), (87, .istore_n 1, 1), (88, .aload_n 0, 1), (89, .dup, 1), (90, .getfield 56, 3), (93, .iconst 1, 1), (94, .iadd, 1), (95, .putfield 56, 3), (98, .goto (-94), 3)]), (101, [(101, .iload_n 1, 1), (102, .ireturn, 1)])]
set_option maxRecDepth 100000 in
theorem pq_X0_readNumber_4 (n : Nat) (a1 : Int32) (a2 : Int32) (s : Nat → Int32) (l : Nat → Int64) (x : Nat → Int32) (y : Nat → Int64) : pl_X0_readNumber_4 (n + 1) a1 a2 s l x y = pj_bl px_X0_readNumber (pj_rn px_X0_readNumber (pj_as pk_X0_readNumber) (pj_as [(4, pe_X0_readNumber_4 (pl_X0_readNumber_4 n))]) 60) [(4, .iload_n 2, 1), (5, .bipush 6, 2), (7, .if_icmp .ge 94, 3)] 4 [(0, pj_O (106, 0)), (1, pj_I a1), (2, pj_I a2)] [] (s, l, x, y) := rfl
set_option maxRecDepth 100000 in
theorem pq_X0_readNumber_m  (s : Nat → Int32) (l : Nat → Int64) (x : Nat → Int32) (y : Nat → Int64) : pf_X0_readNumber  s l x y = pj_bl px_X0_readNumber (pj_rn px_X0_readNumber (pj_as pk_X0_readNumber) (pj_as [(4, pe_X0_readNumber_4 (pl_X0_readNumber_4 (pj_fu 0)))]) 60) [(0, .iconst 0, 1), (1, .istore_n 1, 1), (2, .iconst 0, 1), (3, .istore_n 2, 1)] 0 [(0, pj_O (106, 0))] [] (s, l, x, y) := rfl
theorem pu_X0_readNumber_4 {lf : pj_Z → mj_M} {a : Int32 × pj_Z} (f : Int32 → Int32 → pj_F (Int32 × pj_Z)) (hf : ∀ (a1 : Int32) (a2 : Int32) (s : Nat → Int32) (l : Nat → Int64) (x : Nat → Int32) (y : Nat → Int64), f a1 a2 s l x y = some a → pm_Gd 0 13 ie_X0_readNumber.1 pm_rI lf 4 [(0, .ref 106), (1, .int a1), (2, .int a2)] [] (s, l, x, y) a) : pm_Ex 0 13 ie_X0_readNumber.1 pm_rI lf a 4 (pe_X0_readNumber_4 f) := by
  intro lv st z hd h
  obtain ⟨g0, h⟩ := pj_xr_inv h
  obtain ⟨a1, g1, h⟩ := pj_xi_inv h
  obtain ⟨a2, g2, h⟩ := pj_xi_inv h
  obtain ⟨e9, h⟩ := pj_pe_inv h
  rw [e9]
  exact mj_wp_sub (mj_sub_cons g0 (mj_sub_cons g1 (mj_sub_cons g2 (mj_sub_nil hd)))) (hf _ _ _ _ _ _ h)
set_option maxRecDepth 100000 in
theorem pz_X0_readNumber {lf : pj_Z → mj_M} (hT : pj_Lt pj_TC lf) : pj_Cok ic_P (mj_R ic_P 0) 13 ie_X0_readNumber.1 (pm_OK lf pm_rI) lf px_X0_readNumber := by
  exact pm_cok (c := px_X0_readNumber) hT (pm_in_ok (L := [(11, 0, 0, 2, true), (53, 0, 1, 0, false), (56, 0, 7, 0, false)]) (f := mj_pF ic_P 13) (by decide +kernel)) (fun _ _ h => by cases h) (fun _ _ h => by cases h) (fun _ _ h => by cases h) rfl rfl ⟨by decide, rfl⟩ pm_mI (fun _ _ h => by cases h) (fun _ h => by cases h)
set_option maxRecDepth 100000 in
theorem pb_X0_readNumber : pm_bks ie_X0_readNumber.1.2.2.2.2 pk_X0_readNumber = true := by decide +kernel
set_option maxRecDepth 100000 in
theorem pg_X0_readNumber_4 {lf : pj_Z → mj_M} (hT : pj_Lt pj_TC lf) : ∀ (n : Nat), ∀ (a1 : Int32) (a2 : Int32) (s : Nat → Int32) (l : Nat → Int64) (x : Nat → Int32) (y : Nat → Int64) (a : Int32 × pj_Z), pl_X0_readNumber_4 n a1 a2 s l x y = some a → pm_Gd 0 13 ie_X0_readNumber.1 pm_rI lf 4 [(0, .ref 106), (1, .int a1), (2, .int a2)] [] (s, l, x, y) a := by
  intro n
  induction n with
  | zero => intro a1 a2 s l x y a h; cases (show (none : Option (Int32 × pj_Z)) = some a from h)
  | succ n ih =>
    intro a1 a2 s l x y a h
    exact pj_bl_ok (pz_X0_readNumber hT) (fun t lv st z hd h => pj_rn_ok (pz_X0_readNumber hT) (pm_bks_ok pb_X0_readNumber) (pj_as_all (p := pm_Ex 0 13 ie_X0_readNumber.1 pm_rI lf a) (List.forall_mem_cons.mpr ⟨pu_X0_readNumber_4 _ (fun c0 c1 s l x y h => ih c0 c1 s l x y _ h), (fun _ h => by cases h)⟩)) 60 t lv st z hd h) [(4, .iload_n 2, 1), (5, .bipush 6, 2), (7, .if_icmp .ge 94, 3)] 4 [(0, pj_O (106, 0)), (1, pj_I a1), (2, pj_I a2)] [] (s, l, x, y) (pm_bks_ok pb_X0_readNumber _ _ rfl) (pm_ndb_ok rfl) ((pq_X0_readNumber_4 n a1 a2 s l x y).symm.trans h)
set_option maxRecDepth 100000 in
theorem pm_X0_readNumber {lf : pj_Z → mj_M} (hT : pj_Lt pj_TC lf)  (s : Nat → Int32) (l : Nat → Int64) (x : Nat → Int32) (y : Nat → Int64) (a : Int32 × pj_Z) (h : pf_X0_readNumber  s l x y = some a) : mj_R ic_P 1 13 [.ref 106] (lf (s, l, x, y)) (pm_rI a.1) (lf a.2) := by
  refine pm_main (Y := ie_X0_readNumber.1) rfl (Nat.le_of_ble_eq_true rfl) ?_
  exact pj_bl_ok (pz_X0_readNumber hT) (fun t lv st z hd h => pj_rn_ok (pz_X0_readNumber hT) (pm_bks_ok pb_X0_readNumber) (pj_as_all (p := pm_Ex 0 13 ie_X0_readNumber.1 pm_rI lf a) (List.forall_mem_cons.mpr ⟨pu_X0_readNumber_4 _ (fun c0 c1 s l x y h => pg_X0_readNumber_4 hT (pj_fu 0) c0 c1 s l x y _ h), (fun _ h => by cases h)⟩)) 60 t lv st z hd h) [(0, .iconst 0, 1), (1, .istore_n 1, 1), (2, .iconst 0, 1), (3, .istore_n 2, 1)] 0 [(0, pj_O (106, 0))] [] (s, l, x, y) (pm_bks_ok pb_X0_readNumber _ _ rfl) (pm_ndb_ok rfl) ((pq_X0_readNumber_m  s l x y).symm.trans h)
abbrev ph_X0_readNumber {A : Type} : List pj_V → pj_Z → (List pj_V → pj_Z → Option A) → Option A := fun st z K => pj_pr st 106 0 fun st => pj_ps st (pj_b (pf_X0_readNumber  z.1 z.2.1 z.2.2.1 z.2.2.2) fun r s l x y => K (pj_I r :: st) (s, l, x, y))
set_option maxRecDepth 100000 in
theorem pc_X0_readNumber {A : Type} {OK : A → Option Value → mj_M → Prop} {d j pc ix : Nat} {Y : mj_Y} {lf : pj_Z → mj_M} (hT : pj_Lt pj_TC lf) (hd : 1 ≤ d) (hl : mj_lk Y.2.2.2.2 pc = some (.invokevirtual ix, 3)) (hg : mj_pG ic_P j ix = some (13, 0, some 0)) {lv : List (Nat × Value)} {st : List pj_V} {z : pj_Z} {K : List pj_V → pj_Z → Option A} {a : A} (hK : ∀ st z, K st z = some a → pj_Gd ic_P (mj_R ic_P d) j Y OK lf (pc + 3) lv (pj_es st) z a) (h : ph_X0_readNumber st z K = some a) : pj_Gd ic_P (mj_R ic_P d) j Y OK lf pc lv (pj_es st) z a := by
  obtain ⟨r0, e0, h⟩ := pj_pr_inv h
  obtain ⟨hs, h⟩ := pj_ps_inv h
  obtain ⟨q, hq, h⟩ := pj_b_inv h
  exact pm_cv (o := 106) hl hg [] rfl (by rw [e0]; rfl) hs (by decide) ((hT.2 106 _ rfl).1.2 z 0 (by decide)) (pm_rI q.1) hd (pm_X0_readNumber hT  z.1 z.2.1 z.2.2.1 z.2.2.2 q hq) rfl (hK _ _ h)
abbrev px_X0_addStep : pj_C (Int32 × pj_Z) := (pj_TC, (pj_as [(20, 0, 5, 2, true), (59, 0, 6, 0, false)]), (fun _ => none), (fun _ => none), (fun _ => none), ic_X, 4, 1, pj_mI, (fun _ => none), fun _ => false)
abbrev pk_X0_addStep : List (Nat × List (Nat × Instr × Nat)) := [(0, [(0, .aload_n 0, 1), (1, .getfield 59, 3), (4, .istore_n 3, 1), (5, .iload_n 3, 1), (6, .sipush 256, 3), (9, .if_icmp .ge 31, 3)]), (12, [(12, .aload_n 0, 1), (13, .getfield 20, 3), (16, .iconst 0, 1), (17, .aaload, 1), (18, .iload_n 3, 1), (19, .iload_n 1, 1), (20, .iastore, 1), (21, .aload_n 0, 1), (22, .getfield 20, 3), (25, .iconst 1, 1), (26, .aaload, 1), (27, .iload_n 3, 1), (28, .iload_n 2, 1), (29, .iastore, 1), (30, .aload_n 0, 1), (31, .dup, 1), (32, .getfield 59, 3), (35, .iconst 1, 1), (36, .iadd, 1), (37, .putfield 59, 3)]), (40, [(40, .iload_n 3, 1), (41, .ireturn, 1)])]
set_option maxRecDepth 100000 in
theorem pq_X0_addStep_m (a1 : Int32) (a2 : Int32) (s : Nat → Int32) (l : Nat → Int64) (x : Nat → Int32) (y : Nat → Int64) : pf_X0_addStep a1 a2 s l x y = pj_bl px_X0_addStep (pj_rn px_X0_addStep (pj_as pk_X0_addStep) (fun _ => none) 60) [(0, .aload_n 0, 1), (1, .getfield 59, 3), (4, .istore_n 3, 1), (5, .iload_n 3, 1), (6, .sipush 256, 3), (9, .if_icmp .ge 31, 3)] 0 [(0, pj_O (106, 0)), (1, pj_I a1), (2, pj_I a2)] [] (s, l, x, y) := rfl
set_option maxRecDepth 100000 in
theorem pz_X0_addStep {lf : pj_Z → mj_M} (hT : pj_Lt pj_TC lf) : pj_Cok ic_P (mj_R ic_P 0) 6 ie_X0_addStep.1 (pm_OK lf pm_rI) lf px_X0_addStep := by
  exact pm_cok (c := px_X0_addStep) hT (pm_in_ok (L := [(20, 0, 5, 2, true), (59, 0, 6, 0, false)]) (f := mj_pF ic_P 6) (by decide +kernel)) (fun _ _ h => by cases h) (fun _ _ h => by cases h) (fun _ _ h => by cases h) rfl rfl ⟨by decide, rfl⟩ pm_mI (fun _ _ h => by cases h) (fun _ h => by cases h)
set_option maxRecDepth 100000 in
theorem pb_X0_addStep : pm_bks ie_X0_addStep.1.2.2.2.2 pk_X0_addStep = true := by decide +kernel
set_option maxRecDepth 100000 in
theorem pm_X0_addStep {lf : pj_Z → mj_M} (hT : pj_Lt pj_TC lf) (a1 : Int32) (a2 : Int32) (s : Nat → Int32) (l : Nat → Int64) (x : Nat → Int32) (y : Nat → Int64) (a : Int32 × pj_Z) (h : pf_X0_addStep a1 a2 s l x y = some a) : mj_R ic_P 1 6 [.ref 106, .int a1, .int a2] (lf (s, l, x, y)) (pm_rI a.1) (lf a.2) := by
  refine pm_main (Y := ie_X0_addStep.1) rfl (Nat.le_of_ble_eq_true rfl) ?_
  exact pj_bl_ok (pz_X0_addStep hT) (fun t lv st z hd h => pj_rn_ok (pz_X0_addStep hT) (pm_bks_ok pb_X0_addStep) (fun _ _ h => by cases h) 60 t lv st z hd h) [(0, .aload_n 0, 1), (1, .getfield 59, 3), (4, .istore_n 3, 1), (5, .iload_n 3, 1), (6, .sipush 256, 3), (9, .if_icmp .ge 31, 3)] 0 [(0, pj_O (106, 0)), (1, pj_I a1), (2, pj_I a2)] [] (s, l, x, y) (pm_bks_ok pb_X0_addStep _ _ rfl) (pm_ndb_ok rfl) ((pq_X0_addStep_m a1 a2 s l x y).symm.trans h)
abbrev ph_X0_addStep {A : Type} : List pj_V → pj_Z → (List pj_V → pj_Z → Option A) → Option A := fun st z K => pj_pi st fun a2 st => pj_pi st fun a1 st => pj_pr st 106 0 fun st => pj_ps st (pj_b (pf_X0_addStep a1 a2 z.1 z.2.1 z.2.2.1 z.2.2.2) fun r s l x y => K (pj_I r :: st) (s, l, x, y))
set_option maxRecDepth 100000 in
theorem pc_X0_addStep {A : Type} {OK : A → Option Value → mj_M → Prop} {d j pc ix : Nat} {Y : mj_Y} {lf : pj_Z → mj_M} (hT : pj_Lt pj_TC lf) (hd : 1 ≤ d) (hl : mj_lk Y.2.2.2.2 pc = some (.invokevirtual ix, 3)) (hg : mj_pG ic_P j ix = some (6, 2, some 0)) {lv : List (Nat × Value)} {st : List pj_V} {z : pj_Z} {K : List pj_V → pj_Z → Option A} {a : A} (hK : ∀ st z, K st z = some a → pj_Gd ic_P (mj_R ic_P d) j Y OK lf (pc + 3) lv (pj_es st) z a) (h : ph_X0_addStep st z K = some a) : pj_Gd ic_P (mj_R ic_P d) j Y OK lf pc lv (pj_es st) z a := by
  obtain ⟨a2, r2, e2, h⟩ := pj_pi_inv h
  obtain ⟨a1, r1, e1, h⟩ := pj_pi_inv h
  obtain ⟨r0, e0, h⟩ := pj_pr_inv h
  obtain ⟨hs, h⟩ := pj_ps_inv h
  obtain ⟨q, hq, h⟩ := pj_b_inv h
  exact pm_cv (o := 106) hl hg [.int a1, .int a2] rfl (by rw [e2, e1, e0]; rfl) hs (by decide) ((hT.2 106 _ rfl).1.2 z 0 (by decide)) (pm_rI q.1) hd (pm_X0_addStep hT a1 a2 z.1 z.2.1 z.2.2.1 z.2.2.2 q hq) rfl (hK _ _ h)
abbrev px_X0_beginRows : pj_C (Unit × pj_Z) := (pj_TC, (pj_as [(32, 0, 12, 2, true), (40, 0, 17, 0, false), (50, 0, 18, 0, false), (127, 0, 11, 0, false), (130, 0, 14, 0, false), (133, 0, 15, 0, false), (136, 0, 16, 3, false)]), (fun _ => none), (fun _ => none), (fun _ => none), ic_X, 5, 0, pj_mU, (fun _ => none), fun _ => false)
abbrev pk_X0_beginRows : List (Nat × List (Nat × Instr × Nat)) := [(0, [(0, .aload_n 0, 1), (1, .iload_n 1, 1), (2, .putfield 127, 3), (5, .aload_n 0, 1), (6, .getfield 32, 3), (9, .iconst 0, 1), (10, .iload_n 2, 1), (11, .iastore, 1), (12, .aload_n 0, 1), (13, .getfield 32, 3), (16, .iconst 1, 1), (17, .iload_n 3, 1), (18, .iastore, 1), (19, .aload_n 0, 1), (20, .getfield 32, 3), (23, .iconst 2, 1), (24, .iload 4, 2), (26, .iastore, 1), (27, .aload_n 0, 1), (28, .iconst 0, 1), (29, .putfield 130, 3), (32, .aload_n 0, 1), (33, .iconst 0, 1), (34, .putfield 133, 3), (37, .aload_n 0, 1), (38, .iconst 1, 1), (39, .putfield 136, 3), (42, .aload_n 0, 1), (43, .iconst (-1), 1), (44, .putfield 40, 3), (47, .aload_n 0, 1), (48, .iconst 0, 1), (49, .putfield 50, 3), (52, .return_, 1)])]
set_option maxRecDepth 100000 in
theorem pq_X0_beginRows_m (a1 : Int32) (a2 : Int32) (a3 : Int32) (a4 : Int32) (s : Nat → Int32) (l : Nat → Int64) (x : Nat → Int32) (y : Nat → Int64) : pf_X0_beginRows a1 a2 a3 a4 s l x y = pj_bl px_X0_beginRows (pj_rn px_X0_beginRows (pj_as pk_X0_beginRows) (fun _ => none) 60) [(0, .aload_n 0, 1), (1, .iload_n 1, 1), (2, .putfield 127, 3), (5, .aload_n 0, 1), (6, .getfield 32, 3), (9, .iconst 0, 1), (10, .iload_n 2, 1), (11, .iastore, 1), (12, .aload_n 0, 1), (13, .getfield 32, 3), (16, .iconst 1, 1), (17, .iload_n 3, 1), (18, .iastore, 1), (19, .aload_n 0, 1), (20, .getfield 32, 3), (23, .iconst 2, 1), (24, .iload 4, 2), (26, .iastore, 1), (27, .aload_n 0, 1), (28, .iconst 0, 1), (29, .putfield 130, 3), (32, .aload_n 0, 1), (33, .iconst 0, 1), (34, .putfield 133, 3), (37, .aload_n 0, 1), (38, .iconst 1, 1), (39, .putfield 136, 3), (42, .aload_n 0, 1), (43, .iconst (-1), 1), (44, .putfield 40, 3), (47, .aload_n 0, 1), (48, .iconst 0, 1), (49, .putfield 50, 3), (52, .return_, 1)] 0 [(0, pj_O (106, 0)), (1, pj_I a1), (2, pj_I a2), (3, pj_I a3), (4, pj_I a4)] [] (s, l, x, y) := rfl
set_option maxRecDepth 100000 in
theorem pz_X0_beginRows {lf : pj_Z → mj_M} (hT : pj_Lt pj_TC lf) : pj_Cok ic_P (mj_R ic_P 0) 18 ie_X0_beginRows.1 (pm_OK lf pm_rU) lf px_X0_beginRows := by
  exact pm_cok (c := px_X0_beginRows) hT (pm_in_ok (L := [(32, 0, 12, 2, true), (40, 0, 17, 0, false), (50, 0, 18, 0, false), (127, 0, 11, 0, false), (130, 0, 14, 0, false), (133, 0, 15, 0, false), (136, 0, 16, 3, false)]) (f := mj_pF ic_P 18) (by decide +kernel)) (fun _ _ h => by cases h) (fun _ _ h => by cases h) (fun _ _ h => by cases h) rfl rfl ⟨by decide, rfl⟩ pm_mU (fun _ _ h => by cases h) (fun _ h => by cases h)
set_option maxRecDepth 100000 in
theorem pb_X0_beginRows : pm_bks ie_X0_beginRows.1.2.2.2.2 pk_X0_beginRows = true := by decide +kernel
set_option maxRecDepth 100000 in
theorem pm_X0_beginRows {lf : pj_Z → mj_M} (hT : pj_Lt pj_TC lf) (a1 : Int32) (a2 : Int32) (a3 : Int32) (a4 : Int32) (s : Nat → Int32) (l : Nat → Int64) (x : Nat → Int32) (y : Nat → Int64) (a : Unit × pj_Z) (h : pf_X0_beginRows a1 a2 a3 a4 s l x y = some a) : mj_R ic_P 1 18 [.ref 106, .int a1, .int a2, .int a3, .int a4] (lf (s, l, x, y)) (pm_rU a.1) (lf a.2) := by
  refine pm_main (Y := ie_X0_beginRows.1) rfl (Nat.le_of_ble_eq_true rfl) ?_
  exact pj_bl_ok (pz_X0_beginRows hT) (fun t lv st z hd h => pj_rn_ok (pz_X0_beginRows hT) (pm_bks_ok pb_X0_beginRows) (fun _ _ h => by cases h) 60 t lv st z hd h) [(0, .aload_n 0, 1), (1, .iload_n 1, 1), (2, .putfield 127, 3), (5, .aload_n 0, 1), (6, .getfield 32, 3), (9, .iconst 0, 1), (10, .iload_n 2, 1), (11, .iastore, 1), (12, .aload_n 0, 1), (13, .getfield 32, 3), (16, .iconst 1, 1), (17, .iload_n 3, 1), (18, .iastore, 1), (19, .aload_n 0, 1), (20, .getfield 32, 3), (23, .iconst 2, 1), (24, .iload 4, 2), (26, .iastore, 1), (27, .aload_n 0, 1), (28, .iconst 0, 1), (29, .putfield 130, 3), (32, .aload_n 0, 1), (33, .iconst 0, 1), (34, .putfield 133, 3), (37, .aload_n 0, 1), (38, .iconst 1, 1), (39, .putfield 136, 3), (42, .aload_n 0, 1), (43, .iconst (-1), 1), (44, .putfield 40, 3), (47, .aload_n 0, 1), (48, .iconst 0, 1), (49, .putfield 50, 3), (52, .return_, 1)] 0 [(0, pj_O (106, 0)), (1, pj_I a1), (2, pj_I a2), (3, pj_I a3), (4, pj_I a4)] [] (s, l, x, y) (pm_bks_ok pb_X0_beginRows _ _ rfl) (pm_ndb_ok rfl) ((pq_X0_beginRows_m a1 a2 a3 a4 s l x y).symm.trans h)
abbrev ph_X0_beginRows {A : Type} : List pj_V → pj_Z → (List pj_V → pj_Z → Option A) → Option A := fun st z K => pj_pi st fun a4 st => pj_pi st fun a3 st => pj_pi st fun a2 st => pj_pi st fun a1 st => pj_pr st 106 0 fun st => pj_ps st (pj_b (pf_X0_beginRows a1 a2 a3 a4 z.1 z.2.1 z.2.2.1 z.2.2.2) fun r s l x y => K st (s, l, x, y))
set_option maxRecDepth 100000 in
theorem pc_X0_beginRows {A : Type} {OK : A → Option Value → mj_M → Prop} {d j pc ix : Nat} {Y : mj_Y} {lf : pj_Z → mj_M} (hT : pj_Lt pj_TC lf) (hd : 1 ≤ d) (hl : mj_lk Y.2.2.2.2 pc = some (.invokevirtual ix, 3)) (hg : mj_pG ic_P j ix = some (18, 4, some 0)) {lv : List (Nat × Value)} {st : List pj_V} {z : pj_Z} {K : List pj_V → pj_Z → Option A} {a : A} (hK : ∀ st z, K st z = some a → pj_Gd ic_P (mj_R ic_P d) j Y OK lf (pc + 3) lv (pj_es st) z a) (h : ph_X0_beginRows st z K = some a) : pj_Gd ic_P (mj_R ic_P d) j Y OK lf pc lv (pj_es st) z a := by
  obtain ⟨a4, r4, e4, h⟩ := pj_pi_inv h
  obtain ⟨a3, r3, e3, h⟩ := pj_pi_inv h
  obtain ⟨a2, r2, e2, h⟩ := pj_pi_inv h
  obtain ⟨a1, r1, e1, h⟩ := pj_pi_inv h
  obtain ⟨r0, e0, h⟩ := pj_pr_inv h
  obtain ⟨hs, h⟩ := pj_ps_inv h
  obtain ⟨q, hq, h⟩ := pj_b_inv h
  exact pm_cv (o := 106) hl hg [.int a1, .int a2, .int a3, .int a4] rfl (by rw [e4, e3, e2, e1, e0]; rfl) hs (by decide) ((hT.2 106 _ rfl).1.2 z 0 (by decide)) (pm_rU q.1) hd (pm_X0_beginRows hT a1 a2 a3 a4 z.1 z.2.1 z.2.2.1 z.2.2.2 q hq) rfl (hK _ _ h)
abbrev pe_X11_record_32 (f : pj_F (Unit × pj_Z)) : pj_K (Unit × pj_Z) := fun lv st z => pj_pe st (f  z.1 z.2.1 z.2.2.1 z.2.2.2)
abbrev pe_X11_record_54 (f : pj_F (Unit × pj_Z)) : pj_K (Unit × pj_Z) := fun lv st z => pj_pe st (f  z.1 z.2.1 z.2.2.1 z.2.2.2)
abbrev px_X11_record : pj_C (Unit × pj_Z) := (pj_TC, (pj_as [(75, 11, 9, 2, true)]), (fun _ => none), (fun _ => none), (fun _ => none), ic_X, 5, 0, pj_mU, (pj_as [(74, ph_X0_beginRows)]), fun _ => false)
abbrev pk_X11_record : List (Nat × List (Nat × Instr × Nat)) := [(0, [(0, .iload_n 2, 1), (1, .ifCond .lt 31, 3)]), (4, [(4, .iload_n 2, 1), (5, .bipush 80, 2), (7, .if_icmp .ge 25, 3)]), (10, [(10, .iload_n 3, 1), (11, .ifCond .lt 21, 3)]), (14, [(14, .iload_n 3, 1), (15, .bipush 80, 2), (17, .if_icmp .ge 15, 3)]), (20, [(20, .iload 4, 2), (22, .ifCond .lt 10, 3)]), (25, [(25, .iload 4, 2), (27, .bipush 80, 2), (29, .if_icmp .lt 14, 3)]), (32, [(32, .new 158, 3)]), (43, [(43, .iload_n 1, 1), (44, .iconst 1, 1), (45, .if_icmp .lt 9, 3)]), (48, [(48, .iload_n 1, 1), (49, .bipush 100, 2), (51, .if_icmp .le 14, 3)]), (54, [(54, .new 107, 3)]), (65, [(65, .aload_n 0, 1), (66, .getfield 75, 3), (69, .iload_n 1, 1), (70, .iload_n 2, 1), (71, .iload_n 3, 1), (72, .iload 4, 2), (74, .invokevirtual 376, 3), (77, .return_, 1)])]
set_option maxRecDepth 100000 in
theorem pq_X11_record_32  (s : Nat → Int32) (l : Nat → Int64) (x : Nat → Int32) (y : Nat → Int64) : pl_X11_record_32 s l x y = pj_bl px_X11_record (pj_rn px_X11_record (pj_as pk_X11_record) (fun _ => none) 60) [(32, .new 158, 3)] 32 [] [] (s, l, x, y) := rfl
set_option maxRecDepth 100000 in
theorem pq_X11_record_54  (s : Nat → Int32) (l : Nat → Int64) (x : Nat → Int32) (y : Nat → Int64) : pl_X11_record_54 s l x y = pj_bl px_X11_record (pj_rn px_X11_record (pj_as pk_X11_record) (fun _ => none) 60) [(54, .new 107, 3)] 54 [] [] (s, l, x, y) := rfl
set_option maxRecDepth 100000 in
theorem pq_X11_record_m (a1 : Int32) (a2 : Int32) (a3 : Int32) (a4 : Int32) (s : Nat → Int32) (l : Nat → Int64) (x : Nat → Int32) (y : Nat → Int64) : pf_X11_record a1 a2 a3 a4 s l x y = pj_bl px_X11_record (pj_rn px_X11_record (pj_as pk_X11_record) (pj_as [(32, pe_X11_record_32 (pl_X11_record_32)), (54, pe_X11_record_54 (pl_X11_record_54))]) 60) [(0, .iload_n 2, 1), (1, .ifCond .lt 31, 3)] 0 [(0, pj_O (0, 0)), (1, pj_I a1), (2, pj_I a2), (3, pj_I a3), (4, pj_I a4)] [] (s, l, x, y) := rfl
theorem pu_X11_record_32 {lf : pj_Z → mj_M} {a : Unit × pj_Z} (f : pj_F (Unit × pj_Z)) (hf : ∀  (s : Nat → Int32) (l : Nat → Int64) (x : Nat → Int32) (y : Nat → Int64), f  s l x y = some a → pm_Gd 1 11038 ie_X11_record.1 pm_rU lf 32 [] [] (s, l, x, y) a) : pm_Ex 1 11038 ie_X11_record.1 pm_rU lf a 32 (pe_X11_record_32 f) := by
  intro lv st z hd h
  obtain ⟨e9, h⟩ := pj_pe_inv h
  rw [e9]
  exact mj_wp_sub (mj_sub_nil hd) (hf  _ _ _ _ h)
theorem pu_X11_record_54 {lf : pj_Z → mj_M} {a : Unit × pj_Z} (f : pj_F (Unit × pj_Z)) (hf : ∀  (s : Nat → Int32) (l : Nat → Int64) (x : Nat → Int32) (y : Nat → Int64), f  s l x y = some a → pm_Gd 1 11038 ie_X11_record.1 pm_rU lf 54 [] [] (s, l, x, y) a) : pm_Ex 1 11038 ie_X11_record.1 pm_rU lf a 54 (pe_X11_record_54 f) := by
  intro lv st z hd h
  obtain ⟨e9, h⟩ := pj_pe_inv h
  rw [e9]
  exact mj_wp_sub (mj_sub_nil hd) (hf  _ _ _ _ h)
set_option maxRecDepth 100000 in
theorem pz_X11_record {lf : pj_Z → mj_M} (hT : pj_Lt pj_TC lf) : pj_Cok ic_P (mj_R ic_P 1) 11038 ie_X11_record.1 (pm_OK lf pm_rU) lf px_X11_record := by
  exact pm_cok (c := px_X11_record) hT (pm_in_ok (L := [(75, 11, 9, 2, true)]) (f := mj_pF ic_P 11038) (by decide +kernel)) (fun _ _ h => by cases h) (fun _ _ h => by cases h) (fun _ _ h => by cases h) rfl rfl ⟨by decide, rfl⟩ pm_mU (pj_as_all (p := pm_Cl 1 11038 ie_X11_record.1 lf (pm_OK lf pm_rU)) (List.forall_mem_cons.mpr ⟨fun _ _ lv st z K a hK h => pc_X0_beginRows hT (by decide) (ix := 376) rfl rfl hK h, (fun _ h => by cases h)⟩)) (fun _ h => by cases h)
set_option maxRecDepth 100000 in
theorem pb_X11_record : pm_bks ie_X11_record.1.2.2.2.2 pk_X11_record = true := by decide +kernel
set_option maxRecDepth 100000 in
theorem pg_X11_record_32 {lf : pj_Z → mj_M} (hT : pj_Lt pj_TC lf) : ∀  (s : Nat → Int32) (l : Nat → Int64) (x : Nat → Int32) (y : Nat → Int64) (a : Unit × pj_Z), pl_X11_record_32 s l x y = some a → pm_Gd 1 11038 ie_X11_record.1 pm_rU lf 32 [] [] (s, l, x, y) a := by
  intro  s l x y a h
  exact pj_bl_ok (pz_X11_record hT) (fun t lv st z hd h => pj_rn_ok (pz_X11_record hT) (pm_bks_ok pb_X11_record) (fun _ _ h => by cases h) 60 t lv st z hd h) [(32, .new 158, 3)] 32 [] [] (s, l, x, y) (pm_bks_ok pb_X11_record _ _ rfl) (pm_ndb_ok rfl) ((pq_X11_record_32   s l x y).symm.trans h)
set_option maxRecDepth 100000 in
theorem pg_X11_record_54 {lf : pj_Z → mj_M} (hT : pj_Lt pj_TC lf) : ∀  (s : Nat → Int32) (l : Nat → Int64) (x : Nat → Int32) (y : Nat → Int64) (a : Unit × pj_Z), pl_X11_record_54 s l x y = some a → pm_Gd 1 11038 ie_X11_record.1 pm_rU lf 54 [] [] (s, l, x, y) a := by
  intro  s l x y a h
  exact pj_bl_ok (pz_X11_record hT) (fun t lv st z hd h => pj_rn_ok (pz_X11_record hT) (pm_bks_ok pb_X11_record) (fun _ _ h => by cases h) 60 t lv st z hd h) [(54, .new 107, 3)] 54 [] [] (s, l, x, y) (pm_bks_ok pb_X11_record _ _ rfl) (pm_ndb_ok rfl) ((pq_X11_record_54   s l x y).symm.trans h)
set_option maxRecDepth 100000 in
theorem pm_X11_record {lf : pj_Z → mj_M} (hT : pj_Lt pj_TC lf) (a1 : Int32) (a2 : Int32) (a3 : Int32) (a4 : Int32) (s : Nat → Int32) (l : Nat → Int64) (x : Nat → Int32) (y : Nat → Int64) (a : Unit × pj_Z) (h : pf_X11_record a1 a2 a3 a4 s l x y = some a) : mj_R ic_P 2 11038 [.ref 0, .int a1, .int a2, .int a3, .int a4] (lf (s, l, x, y)) (pm_rU a.1) (lf a.2) := by
  refine pm_main (Y := ie_X11_record.1) rfl (Nat.le_of_ble_eq_true rfl) ?_
  exact pj_bl_ok (pz_X11_record hT) (fun t lv st z hd h => pj_rn_ok (pz_X11_record hT) (pm_bks_ok pb_X11_record) (pj_as_all (p := pm_Ex 1 11038 ie_X11_record.1 pm_rU lf a) (List.forall_mem_cons.mpr ⟨pu_X11_record_32 _ (fun  s l x y h => pg_X11_record_32 hT  s l x y _ h), (List.forall_mem_cons.mpr ⟨pu_X11_record_54 _ (fun  s l x y h => pg_X11_record_54 hT  s l x y _ h), (fun _ h => by cases h)⟩)⟩)) 60 t lv st z hd h) [(0, .iload_n 2, 1), (1, .ifCond .lt 31, 3)] 0 [(0, pj_O (0, 0)), (1, pj_I a1), (2, pj_I a2), (3, pj_I a3), (4, pj_I a4)] [] (s, l, x, y) (pm_bks_ok pb_X11_record _ _ rfl) (pm_ndb_ok rfl) ((pq_X11_record_m a1 a2 a3 a4 s l x y).symm.trans h)
abbrev ph_X11_record {A : Type} : List pj_V → pj_Z → (List pj_V → pj_Z → Option A) → Option A := fun st z K => pj_pi st fun a4 st => pj_pi st fun a3 st => pj_pi st fun a2 st => pj_pi st fun a1 st => pj_pr st 0 0 fun st => pj_ps st (pj_b (pf_X11_record a1 a2 a3 a4 z.1 z.2.1 z.2.2.1 z.2.2.2) fun r s l x y => K st (s, l, x, y))
set_option maxRecDepth 100000 in
theorem pc_X11_record {A : Type} {OK : A → Option Value → mj_M → Prop} {d j pc ix : Nat} {Y : mj_Y} {lf : pj_Z → mj_M} (hT : pj_Lt pj_TC lf) (hd : 2 ≤ d) (hl : mj_lk Y.2.2.2.2 pc = some (.invokevirtual ix, 3)) (hg : mj_pG ic_P j ix = some (11038, 4, some 11)) {lv : List (Nat × Value)} {st : List pj_V} {z : pj_Z} {K : List pj_V → pj_Z → Option A} {a : A} (hK : ∀ st z, K st z = some a → pj_Gd ic_P (mj_R ic_P d) j Y OK lf (pc + 3) lv (pj_es st) z a) (h : ph_X11_record st z K = some a) : pj_Gd ic_P (mj_R ic_P d) j Y OK lf pc lv (pj_es st) z a := by
  obtain ⟨a4, r4, e4, h⟩ := pj_pi_inv h
  obtain ⟨a3, r3, e3, h⟩ := pj_pi_inv h
  obtain ⟨a2, r2, e2, h⟩ := pj_pi_inv h
  obtain ⟨a1, r1, e1, h⟩ := pj_pi_inv h
  obtain ⟨r0, e0, h⟩ := pj_pr_inv h
  obtain ⟨hs, h⟩ := pj_ps_inv h
  obtain ⟨q, hq, h⟩ := pj_b_inv h
  exact pm_cv (o := 0) hl hg [.int a1, .int a2, .int a3, .int a4] rfl (by rw [e4, e3, e2, e1, e0]; rfl) hs (by decide) ((hT.2 0 _ rfl).1.2 z 0 (by decide)) (pm_rU q.1) hd (pm_X11_record hT a1 a2 a3 a4 z.1 z.2.1 z.2.2.1 z.2.2.2 q hq) rfl (hK _ _ h)
abbrev pe_X11_row_24 (f : pj_F (Int64 × pj_Z)) : pj_K (Int64 × pj_Z) := fun lv st z => pj_pe st (f  z.1 z.2.1 z.2.2.1 z.2.2.2)
abbrev px_X11_row : pj_C (Int64 × pj_Z) := (pj_TC, (pj_as [(75, 11, 9, 2, true), (380, 0, 14, 0, false), (385, 0, 13, 2, true), (389, 0, 15, 0, false)]), (fun _ => none), (fun _ => none), (fun _ => none), ic_X, 3, 3, pj_mL, (fun _ => none), fun _ => false)
abbrev pk_X11_row : List (Nat × List (Nat × Instr × Nat)) := [(0, [(0, .iload_n 1, 1), (1, .ifCond .lt 23, 3)]), (4, [(4, .iload_n 1, 1), (5, .aload_n 0, 1), (6, .getfield 75, 3), (9, .getfield 380, 3), (12, .if_icmp .ge 12, 3)]), (15, [(15, .iload_n 2, 1), (16, .ifCond .lt 8, 3)]), (19, [(19, .iload_n 2, 1), (20, .iconst 2, 1), (21, .if_icmp .le 14, 3)]), (24, [(24, .new 158, 3)]), (35, [(35, .aload_n 0, 1), (36, .getfield 75, 3), (39, .getfield 385, 3), (42, .iload_n 2, 1), (43, .aaload, 1), (44, .aload_n 0, 1), (45, .getfield 75, 3), (48, .getfield 389, 3), (51, .iload_n 1, 1), (52, .iadd, 1), (53, .sipush 128, 3), (56, .irem, 1), (57, .laload, 1), (58, .lreturn, 1)])]
set_option maxRecDepth 100000 in
theorem pq_X11_row_24  (s : Nat → Int32) (l : Nat → Int64) (x : Nat → Int32) (y : Nat → Int64) : pl_X11_row_24 s l x y = pj_bl px_X11_row (pj_rn px_X11_row (pj_as pk_X11_row) (fun _ => none) 60) [(24, .new 158, 3)] 24 [] [] (s, l, x, y) := rfl
set_option maxRecDepth 100000 in
theorem pq_X11_row_m (a1 : Int32) (a2 : Int32) (s : Nat → Int32) (l : Nat → Int64) (x : Nat → Int32) (y : Nat → Int64) : pf_X11_row a1 a2 s l x y = pj_bl px_X11_row (pj_rn px_X11_row (pj_as pk_X11_row) (pj_as [(24, pe_X11_row_24 (pl_X11_row_24))]) 60) [(0, .iload_n 1, 1), (1, .ifCond .lt 23, 3)] 0 [(0, pj_O (0, 0)), (1, pj_I a1), (2, pj_I a2)] [] (s, l, x, y) := rfl
theorem pu_X11_row_24 {lf : pj_Z → mj_M} {a : Int64 × pj_Z} (f : pj_F (Int64 × pj_Z)) (hf : ∀  (s : Nat → Int32) (l : Nat → Int64) (x : Nat → Int32) (y : Nat → Int64), f  s l x y = some a → pm_Gd 0 11039 ie_X11_row.1 pm_rL lf 24 [] [] (s, l, x, y) a) : pm_Ex 0 11039 ie_X11_row.1 pm_rL lf a 24 (pe_X11_row_24 f) := by
  intro lv st z hd h
  obtain ⟨e9, h⟩ := pj_pe_inv h
  rw [e9]
  exact mj_wp_sub (mj_sub_nil hd) (hf  _ _ _ _ h)
set_option maxRecDepth 100000 in
theorem pz_X11_row {lf : pj_Z → mj_M} (hT : pj_Lt pj_TC lf) : pj_Cok ic_P (mj_R ic_P 0) 11039 ie_X11_row.1 (pm_OK lf pm_rL) lf px_X11_row := by
  exact pm_cok (c := px_X11_row) hT (pm_in_ok (L := [(75, 11, 9, 2, true), (380, 0, 14, 0, false), (385, 0, 13, 2, true), (389, 0, 15, 0, false)]) (f := mj_pF ic_P 11039) (by decide +kernel)) (fun _ _ h => by cases h) (fun _ _ h => by cases h) (fun _ _ h => by cases h) rfl rfl ⟨by decide, rfl⟩ pm_mL (fun _ _ h => by cases h) (fun _ h => by cases h)
set_option maxRecDepth 100000 in
theorem pb_X11_row : pm_bks ie_X11_row.1.2.2.2.2 pk_X11_row = true := by decide +kernel
set_option maxRecDepth 100000 in
theorem pg_X11_row_24 {lf : pj_Z → mj_M} (hT : pj_Lt pj_TC lf) : ∀  (s : Nat → Int32) (l : Nat → Int64) (x : Nat → Int32) (y : Nat → Int64) (a : Int64 × pj_Z), pl_X11_row_24 s l x y = some a → pm_Gd 0 11039 ie_X11_row.1 pm_rL lf 24 [] [] (s, l, x, y) a := by
  intro  s l x y a h
  exact pj_bl_ok (pz_X11_row hT) (fun t lv st z hd h => pj_rn_ok (pz_X11_row hT) (pm_bks_ok pb_X11_row) (fun _ _ h => by cases h) 60 t lv st z hd h) [(24, .new 158, 3)] 24 [] [] (s, l, x, y) (pm_bks_ok pb_X11_row _ _ rfl) (pm_ndb_ok rfl) ((pq_X11_row_24   s l x y).symm.trans h)
set_option maxRecDepth 100000 in
theorem pm_X11_row {lf : pj_Z → mj_M} (hT : pj_Lt pj_TC lf) (a1 : Int32) (a2 : Int32) (s : Nat → Int32) (l : Nat → Int64) (x : Nat → Int32) (y : Nat → Int64) (a : Int64 × pj_Z) (h : pf_X11_row a1 a2 s l x y = some a) : mj_R ic_P 1 11039 [.ref 0, .int a1, .int a2] (lf (s, l, x, y)) (pm_rL a.1) (lf a.2) := by
  refine pm_main (Y := ie_X11_row.1) rfl (Nat.le_of_ble_eq_true rfl) ?_
  exact pj_bl_ok (pz_X11_row hT) (fun t lv st z hd h => pj_rn_ok (pz_X11_row hT) (pm_bks_ok pb_X11_row) (pj_as_all (p := pm_Ex 0 11039 ie_X11_row.1 pm_rL lf a) (List.forall_mem_cons.mpr ⟨pu_X11_row_24 _ (fun  s l x y h => pg_X11_row_24 hT  s l x y _ h), (fun _ h => by cases h)⟩)) 60 t lv st z hd h) [(0, .iload_n 1, 1), (1, .ifCond .lt 23, 3)] 0 [(0, pj_O (0, 0)), (1, pj_I a1), (2, pj_I a2)] [] (s, l, x, y) (pm_bks_ok pb_X11_row _ _ rfl) (pm_ndb_ok rfl) ((pq_X11_row_m a1 a2 s l x y).symm.trans h)
abbrev ph_X11_row {A : Type} : List pj_V → pj_Z → (List pj_V → pj_Z → Option A) → Option A := fun st z K => pj_pi st fun a2 st => pj_pi st fun a1 st => pj_pr st 0 0 fun st => pj_ps st (pj_b (pf_X11_row a1 a2 z.1 z.2.1 z.2.2.1 z.2.2.2) fun r s l x y => K (pj_L r :: st) (s, l, x, y))
set_option maxRecDepth 100000 in
theorem pc_X11_row {A : Type} {OK : A → Option Value → mj_M → Prop} {d j pc ix : Nat} {Y : mj_Y} {lf : pj_Z → mj_M} (hT : pj_Lt pj_TC lf) (hd : 1 ≤ d) (hl : mj_lk Y.2.2.2.2 pc = some (.invokevirtual ix, 3)) (hg : mj_pG ic_P j ix = some (11039, 2, some 11)) {lv : List (Nat × Value)} {st : List pj_V} {z : pj_Z} {K : List pj_V → pj_Z → Option A} {a : A} (hK : ∀ st z, K st z = some a → pj_Gd ic_P (mj_R ic_P d) j Y OK lf (pc + 3) lv (pj_es st) z a) (h : ph_X11_row st z K = some a) : pj_Gd ic_P (mj_R ic_P d) j Y OK lf pc lv (pj_es st) z a := by
  obtain ⟨a2, r2, e2, h⟩ := pj_pi_inv h
  obtain ⟨a1, r1, e1, h⟩ := pj_pi_inv h
  obtain ⟨r0, e0, h⟩ := pj_pr_inv h
  obtain ⟨hs, h⟩ := pj_ps_inv h
  obtain ⟨q, hq, h⟩ := pj_b_inv h
  exact pm_cv (o := 0) hl hg [.int a1, .int a2] rfl (by rw [e2, e1, e0]; rfl) hs (by decide) ((hT.2 0 _ rfl).1.2 z 0 (by decide)) (pm_rL q.1) hd (pm_X11_row hT a1 a2 z.1 z.2.1 z.2.2.1 z.2.2.2 q hq) rfl (hK _ _ h)
abbrev pe_X11_about_10 (f : pj_F (Int64 × pj_Z)) : pj_K (Int64 × pj_Z) := fun lv st z => pj_pe st (f  z.1 z.2.1 z.2.2.1 z.2.2.2)
abbrev px_X11_about : pj_C (Int64 × pj_Z) := (pj_TC, (fun _ => none), (fun _ => none), (fun _ => none), (fun _ => none), ic_X, 2, 3, pj_mL, (pj_as [(23, ph_X11_tell)]), fun _ => false)
abbrev pk_X11_about : List (Nat × List (Nat × Instr × Nat)) := [(0, [(0, .iload_n 1, 1), (1, .ifCond .lt 9, 3)]), (4, [(4, .iload_n 1, 1), (5, .bipush 80, 2), (7, .if_icmp .lt 14, 3)]), (10, [(10, .new 158, 3)]), (21, [(21, .aload_n 0, 1), (22, .iload_n 1, 1), (23, .invokevirtual 394, 3), (26, .lreturn, 1)])]
set_option maxRecDepth 100000 in
theorem pq_X11_about_10  (s : Nat → Int32) (l : Nat → Int64) (x : Nat → Int32) (y : Nat → Int64) : pl_X11_about_10 s l x y = pj_bl px_X11_about (pj_rn px_X11_about (pj_as pk_X11_about) (fun _ => none) 60) [(10, .new 158, 3)] 10 [] [] (s, l, x, y) := rfl
set_option maxRecDepth 100000 in
theorem pq_X11_about_m (a1 : Int32) (s : Nat → Int32) (l : Nat → Int64) (x : Nat → Int32) (y : Nat → Int64) : pf_X11_about a1 s l x y = pj_bl px_X11_about (pj_rn px_X11_about (pj_as pk_X11_about) (pj_as [(10, pe_X11_about_10 (pl_X11_about_10))]) 60) [(0, .iload_n 1, 1), (1, .ifCond .lt 9, 3)] 0 [(0, pj_O (0, 0)), (1, pj_I a1)] [] (s, l, x, y) := rfl
theorem pu_X11_about_10 {lf : pj_Z → mj_M} {a : Int64 × pj_Z} (f : pj_F (Int64 × pj_Z)) (hf : ∀  (s : Nat → Int32) (l : Nat → Int64) (x : Nat → Int32) (y : Nat → Int64), f  s l x y = some a → pm_Gd 4 11040 ie_X11_about.1 pm_rL lf 10 [] [] (s, l, x, y) a) : pm_Ex 4 11040 ie_X11_about.1 pm_rL lf a 10 (pe_X11_about_10 f) := by
  intro lv st z hd h
  obtain ⟨e9, h⟩ := pj_pe_inv h
  rw [e9]
  exact mj_wp_sub (mj_sub_nil hd) (hf  _ _ _ _ h)
set_option maxRecDepth 100000 in
theorem pz_X11_about {lf : pj_Z → mj_M} (hT : pj_Lt pj_TC lf) : pj_Cok ic_P (mj_R ic_P 4) 11040 ie_X11_about.1 (pm_OK lf pm_rL) lf px_X11_about := by
  exact pm_cok (c := px_X11_about) hT (fun _ _ h => by cases h) (fun _ _ h => by cases h) (fun _ _ h => by cases h) (fun _ _ h => by cases h) rfl rfl ⟨by decide, rfl⟩ pm_mL (pj_as_all (p := pm_Cl 4 11040 ie_X11_about.1 lf (pm_OK lf pm_rL)) (List.forall_mem_cons.mpr ⟨fun _ _ lv st z K a hK h => pc_X11_tell hT (by decide) (ix := 394) rfl rfl hK h, (fun _ h => by cases h)⟩)) (fun _ h => by cases h)
set_option maxRecDepth 100000 in
theorem pb_X11_about : pm_bks ie_X11_about.1.2.2.2.2 pk_X11_about = true := by decide +kernel
set_option maxRecDepth 100000 in
theorem pg_X11_about_10 {lf : pj_Z → mj_M} (hT : pj_Lt pj_TC lf) : ∀  (s : Nat → Int32) (l : Nat → Int64) (x : Nat → Int32) (y : Nat → Int64) (a : Int64 × pj_Z), pl_X11_about_10 s l x y = some a → pm_Gd 4 11040 ie_X11_about.1 pm_rL lf 10 [] [] (s, l, x, y) a := by
  intro  s l x y a h
  exact pj_bl_ok (pz_X11_about hT) (fun t lv st z hd h => pj_rn_ok (pz_X11_about hT) (pm_bks_ok pb_X11_about) (fun _ _ h => by cases h) 60 t lv st z hd h) [(10, .new 158, 3)] 10 [] [] (s, l, x, y) (pm_bks_ok pb_X11_about _ _ rfl) (pm_ndb_ok rfl) ((pq_X11_about_10   s l x y).symm.trans h)
set_option maxRecDepth 100000 in
theorem pm_X11_about {lf : pj_Z → mj_M} (hT : pj_Lt pj_TC lf) (a1 : Int32) (s : Nat → Int32) (l : Nat → Int64) (x : Nat → Int32) (y : Nat → Int64) (a : Int64 × pj_Z) (h : pf_X11_about a1 s l x y = some a) : mj_R ic_P 5 11040 [.ref 0, .int a1] (lf (s, l, x, y)) (pm_rL a.1) (lf a.2) := by
  refine pm_main (Y := ie_X11_about.1) rfl (Nat.le_of_ble_eq_true rfl) ?_
  exact pj_bl_ok (pz_X11_about hT) (fun t lv st z hd h => pj_rn_ok (pz_X11_about hT) (pm_bks_ok pb_X11_about) (pj_as_all (p := pm_Ex 4 11040 ie_X11_about.1 pm_rL lf a) (List.forall_mem_cons.mpr ⟨pu_X11_about_10 _ (fun  s l x y h => pg_X11_about_10 hT  s l x y _ h), (fun _ h => by cases h)⟩)) 60 t lv st z hd h) [(0, .iload_n 1, 1), (1, .ifCond .lt 9, 3)] 0 [(0, pj_O (0, 0)), (1, pj_I a1)] [] (s, l, x, y) (pm_bks_ok pb_X11_about _ _ rfl) (pm_ndb_ok rfl) ((pq_X11_about_m a1 s l x y).symm.trans h)
abbrev ph_X11_about {A : Type} : List pj_V → pj_Z → (List pj_V → pj_Z → Option A) → Option A := fun st z K => pj_pi st fun a1 st => pj_pr st 0 0 fun st => pj_ps st (pj_b (pf_X11_about a1 z.1 z.2.1 z.2.2.1 z.2.2.2) fun r s l x y => K (pj_L r :: st) (s, l, x, y))
set_option maxRecDepth 100000 in
theorem pc_X11_about {A : Type} {OK : A → Option Value → mj_M → Prop} {d j pc ix : Nat} {Y : mj_Y} {lf : pj_Z → mj_M} (hT : pj_Lt pj_TC lf) (hd : 5 ≤ d) (hl : mj_lk Y.2.2.2.2 pc = some (.invokevirtual ix, 3)) (hg : mj_pG ic_P j ix = some (11040, 1, some 11)) {lv : List (Nat × Value)} {st : List pj_V} {z : pj_Z} {K : List pj_V → pj_Z → Option A} {a : A} (hK : ∀ st z, K st z = some a → pj_Gd ic_P (mj_R ic_P d) j Y OK lf (pc + 3) lv (pj_es st) z a) (h : ph_X11_about st z K = some a) : pj_Gd ic_P (mj_R ic_P d) j Y OK lf pc lv (pj_es st) z a := by
  obtain ⟨a1, r1, e1, h⟩ := pj_pi_inv h
  obtain ⟨r0, e0, h⟩ := pj_pr_inv h
  obtain ⟨hs, h⟩ := pj_ps_inv h
  obtain ⟨q, hq, h⟩ := pj_b_inv h
  exact pm_cv (o := 0) hl hg [.int a1] rfl (by rw [e1, e0]; rfl) hs (by decide) ((hT.2 0 _ rfl).1.2 z 0 (by decide)) (pm_rL q.1) hd (pm_X11_about hT a1 z.1 z.2.1 z.2.2.1 z.2.2.2 q hq) rfl (hK _ _ h)
abbrev pe_X11_channel_19 (f : pj_F (Int32 × pj_Z)) : pj_K (Int32 × pj_Z) := fun lv st z => pj_pe st (f  z.1 z.2.1 z.2.2.1 z.2.2.2)
abbrev px_X11_channel : pj_C (Int32 × pj_Z) := (pj_TC, (pj_as [(19, 11, 1, 2, true), (183, 7, 3, 2, true), (400, 7, 8, 2, true), (403, 7, 9, 2, true), (406, 7, 10, 2, true)]), (fun _ => none), (fun _ => none), (fun _ => none), ic_X, 3, 1, pj_mI, (pj_as [(95, ph_X11_bit)]), fun _ => false)
abbrev pk_X11_channel : List (Nat × List (Nat × Instr × Nat)) := [(0, [(0, .iload_n 1, 1), (1, .ifCond .lt 18, 3)]), (4, [(4, .iload_n 1, 1), (5, .bipush 10, 2), (7, .if_icmp .ge 12, 3)]), (10, [(10, .iload_n 2, 1), (11, .ifCond .lt 8, 3)]), (14, [(14, .iload_n 2, 1), (15, .iconst 3, 1), (16, .if_icmp .le 14, 3)]), (19, [(19, .new 158, 3)]), (30, [(30, .iload_n 2, 1), (31, .tableswitch 55 0 2 #[25, 35, 45], 25)]), (56, [(56, .aload_n 0, 1), (57, .getfield 19, 3), (60, .getfield 183, 3), (63, .iload_n 1, 1), (64, .iaload, 1), (65, .ireturn, 1)]), (66, [(66, .aload_n 0, 1), (67, .getfield 19, 3), (70, .getfield 400, 3), (73, .iload_n 1, 1), (74, .iaload, 1), (75, .ireturn, 1)]), (76, [(76, .aload_n 0, 1), (77, .getfield 19, 3), (80, .getfield 403, 3), (83, .iload_n 1, 1), (84, .iaload, 1), (85, .ireturn, 1)]), (86, [(86, .aload_n 0, 1), (87, .getfield 19, 3), (90, .getfield 406, 3), (93, .iload_n 1, 1), (94, .baload, 1), (95, .invokestatic 409, 3), (98, .ireturn, 1)])]
set_option maxRecDepth 100000 in
theorem pq_X11_channel_19  (s : Nat → Int32) (l : Nat → Int64) (x : Nat → Int32) (y : Nat → Int64) : pl_X11_channel_19 s l x y = pj_bl px_X11_channel (pj_rn px_X11_channel (pj_as pk_X11_channel) (fun _ => none) 60) [(19, .new 158, 3)] 19 [] [] (s, l, x, y) := rfl
set_option maxRecDepth 100000 in
theorem pq_X11_channel_m (a1 : Int32) (a2 : Int32) (s : Nat → Int32) (l : Nat → Int64) (x : Nat → Int32) (y : Nat → Int64) : pf_X11_channel a1 a2 s l x y = pj_bl px_X11_channel (pj_rn px_X11_channel (pj_as pk_X11_channel) (pj_as [(19, pe_X11_channel_19 (pl_X11_channel_19))]) 60) [(0, .iload_n 1, 1), (1, .ifCond .lt 18, 3)] 0 [(0, pj_O (0, 0)), (1, pj_I a1), (2, pj_I a2)] [] (s, l, x, y) := rfl
theorem pu_X11_channel_19 {lf : pj_Z → mj_M} {a : Int32 × pj_Z} (f : pj_F (Int32 × pj_Z)) (hf : ∀  (s : Nat → Int32) (l : Nat → Int64) (x : Nat → Int32) (y : Nat → Int64), f  s l x y = some a → pm_Gd 1 11041 ie_X11_channel.1 pm_rI lf 19 [] [] (s, l, x, y) a) : pm_Ex 1 11041 ie_X11_channel.1 pm_rI lf a 19 (pe_X11_channel_19 f) := by
  intro lv st z hd h
  obtain ⟨e9, h⟩ := pj_pe_inv h
  rw [e9]
  exact mj_wp_sub (mj_sub_nil hd) (hf  _ _ _ _ h)
set_option maxRecDepth 100000 in
theorem pz_X11_channel {lf : pj_Z → mj_M} (hT : pj_Lt pj_TC lf) : pj_Cok ic_P (mj_R ic_P 1) 11041 ie_X11_channel.1 (pm_OK lf pm_rI) lf px_X11_channel := by
  exact pm_cok (c := px_X11_channel) hT (pm_in_ok (L := [(19, 11, 1, 2, true), (183, 7, 3, 2, true), (400, 7, 8, 2, true), (403, 7, 9, 2, true), (406, 7, 10, 2, true)]) (f := mj_pF ic_P 11041) (by decide +kernel)) (fun _ _ h => by cases h) (fun _ _ h => by cases h) (fun _ _ h => by cases h) rfl rfl ⟨by decide, rfl⟩ pm_mI (pj_as_all (p := pm_Cl 1 11041 ie_X11_channel.1 lf (pm_OK lf pm_rI)) (List.forall_mem_cons.mpr ⟨fun _ _ lv st z K a hK h => pc_X11_bit hT (by decide) (ix := 409) rfl rfl hK h, (fun _ h => by cases h)⟩)) (fun _ h => by cases h)
set_option maxRecDepth 100000 in
theorem pb_X11_channel : pm_bks ie_X11_channel.1.2.2.2.2 pk_X11_channel = true := by decide +kernel
set_option maxRecDepth 100000 in
theorem pg_X11_channel_19 {lf : pj_Z → mj_M} (hT : pj_Lt pj_TC lf) : ∀  (s : Nat → Int32) (l : Nat → Int64) (x : Nat → Int32) (y : Nat → Int64) (a : Int32 × pj_Z), pl_X11_channel_19 s l x y = some a → pm_Gd 1 11041 ie_X11_channel.1 pm_rI lf 19 [] [] (s, l, x, y) a := by
  intro  s l x y a h
  exact pj_bl_ok (pz_X11_channel hT) (fun t lv st z hd h => pj_rn_ok (pz_X11_channel hT) (pm_bks_ok pb_X11_channel) (fun _ _ h => by cases h) 60 t lv st z hd h) [(19, .new 158, 3)] 19 [] [] (s, l, x, y) (pm_bks_ok pb_X11_channel _ _ rfl) (pm_ndb_ok rfl) ((pq_X11_channel_19   s l x y).symm.trans h)
set_option maxRecDepth 100000 in
theorem pm_X11_channel {lf : pj_Z → mj_M} (hT : pj_Lt pj_TC lf) (a1 : Int32) (a2 : Int32) (s : Nat → Int32) (l : Nat → Int64) (x : Nat → Int32) (y : Nat → Int64) (a : Int32 × pj_Z) (h : pf_X11_channel a1 a2 s l x y = some a) : mj_R ic_P 2 11041 [.ref 0, .int a1, .int a2] (lf (s, l, x, y)) (pm_rI a.1) (lf a.2) := by
  refine pm_main (Y := ie_X11_channel.1) rfl (Nat.le_of_ble_eq_true rfl) ?_
  exact pj_bl_ok (pz_X11_channel hT) (fun t lv st z hd h => pj_rn_ok (pz_X11_channel hT) (pm_bks_ok pb_X11_channel) (pj_as_all (p := pm_Ex 1 11041 ie_X11_channel.1 pm_rI lf a) (List.forall_mem_cons.mpr ⟨pu_X11_channel_19 _ (fun  s l x y h => pg_X11_channel_19 hT  s l x y _ h), (fun _ h => by cases h)⟩)) 60 t lv st z hd h) [(0, .iload_n 1, 1), (1, .ifCond .lt 18, 3)] 0 [(0, pj_O (0, 0)), (1, pj_I a1), (2, pj_I a2)] [] (s, l, x, y) (pm_bks_ok pb_X11_channel _ _ rfl) (pm_ndb_ok rfl) ((pq_X11_channel_m a1 a2 s l x y).symm.trans h)
abbrev ph_X11_channel {A : Type} : List pj_V → pj_Z → (List pj_V → pj_Z → Option A) → Option A := fun st z K => pj_pi st fun a2 st => pj_pi st fun a1 st => pj_pr st 0 0 fun st => pj_ps st (pj_b (pf_X11_channel a1 a2 z.1 z.2.1 z.2.2.1 z.2.2.2) fun r s l x y => K (pj_I r :: st) (s, l, x, y))
set_option maxRecDepth 100000 in
theorem pc_X11_channel {A : Type} {OK : A → Option Value → mj_M → Prop} {d j pc ix : Nat} {Y : mj_Y} {lf : pj_Z → mj_M} (hT : pj_Lt pj_TC lf) (hd : 2 ≤ d) (hl : mj_lk Y.2.2.2.2 pc = some (.invokevirtual ix, 3)) (hg : mj_pG ic_P j ix = some (11041, 2, some 11)) {lv : List (Nat × Value)} {st : List pj_V} {z : pj_Z} {K : List pj_V → pj_Z → Option A} {a : A} (hK : ∀ st z, K st z = some a → pj_Gd ic_P (mj_R ic_P d) j Y OK lf (pc + 3) lv (pj_es st) z a) (h : ph_X11_channel st z K = some a) : pj_Gd ic_P (mj_R ic_P d) j Y OK lf pc lv (pj_es st) z a := by
  obtain ⟨a2, r2, e2, h⟩ := pj_pi_inv h
  obtain ⟨a1, r1, e1, h⟩ := pj_pi_inv h
  obtain ⟨r0, e0, h⟩ := pj_pr_inv h
  obtain ⟨hs, h⟩ := pj_ps_inv h
  obtain ⟨q, hq, h⟩ := pj_b_inv h
  exact pm_cv (o := 0) hl hg [.int a1, .int a2] rfl (by rw [e2, e1, e0]; rfl) hs (by decide) ((hT.2 0 _ rfl).1.2 z 0 (by decide)) (pm_rI q.1) hd (pm_X11_channel hT a1 a2 z.1 z.2.1 z.2.2.1 z.2.2.2 q hq) rfl (hK _ _ h)
abbrev pe_X2_waitingBits_29 (f : Int32 → Int32 → pj_F (Int32 × pj_Z)) : pj_K (Int32 × pj_Z) := fun lv st z => pj_xr lv 0 58 0 <| pj_xi lv 1 fun a1 => pj_pi st fun b0 st => pj_pe st (f a1 b0 z.1 z.2.1 z.2.2.1 z.2.2.2)
abbrev pe_X2_waitingBits_50 (f : Int32 → Int32 → Int32 → pj_F (Int32 × pj_Z)) : pj_K (Int32 × pj_Z) := fun lv st z => pj_xr lv 0 58 0 <| pj_xi lv 1 fun a1 => pj_pi st fun b2 st => pj_pc st 2 fun st => pj_pi st fun b0 st => pj_pe st (f a1 b0 b2 z.1 z.2.1 z.2.2.1 z.2.2.2)
abbrev pe_X2_waitingBits_73 (f : Int32 → Int32 → pj_F (Int32 × pj_Z)) : pj_K (Int32 × pj_Z) := fun lv st z => pj_pi st fun b2 st => pj_pc st 4 fun st => pj_pi st fun b0 st => pj_pe st (f b0 b2 z.1 z.2.1 z.2.2.1 z.2.2.2)
abbrev px_X2_waitingBits : pj_C (Int32 × pj_Z) := (pj_TC, (pj_as [(11, 2, 11, 2, true)]), (fun _ => none), (fun _ => none), (fun _ => none), ic_X, 2, 1, pj_mI, (pj_as [(29, ph_X11_bit), (50, ph_X11_bit), (73, ph_X11_bit)]), fun _ => false)
abbrev pk_X2_waitingBits : List (Nat × List (Nat × Instr × Nat)) := [(0, [(0, .iload_n 1, 1), (1, .ifCond .lt 9, 3)]), (4, [(4, .iload_n 1, 1), (5, .bipush 8, 2), (7, .if_icmp .lt 5, 3)]), (10, [(10, .iconst 0, 1), (11, .ireturn, 1)]), (12, [(12, .aload_n 0, 1), (13, .getfield 11, 3), (16, .iconst 0, 1), (17, .aaload, 1), (18, .iload_n 1, 1), (19, .iaload, 1), (20, .iconst (-1), 1), (21, .if_icmp .eq 7, 3)]), (24, [(24, .iconst 1, 1), (25, .goto 4, 3)]), (28, [(28, .iconst 0, 1)]), (29, [(29, .invokestatic 141, 3), (32, .iconst 2, 1), (33, .aload_n 0, 1), (34, .getfield 11, 3), (37, .iconst 1, 1), (38, .aaload, 1), (39, .iload_n 1, 1), (40, .iaload, 1), (41, .iconst (-1), 1), (42, .if_icmp .eq 7, 3)]), (45, [(45, .iconst 1, 1), (46, .goto 4, 3)]), (49, [(49, .iconst 0, 1)]), (50, [(50, .invokestatic 141, 3), (53, .imul, 1), (54, .iadd, 1), (55, .iconst 4, 1), (56, .aload_n 0, 1), (57, .getfield 11, 3), (60, .iconst 2, 1), (61, .aaload, 1), (62, .iload_n 1, 1), (63, .iaload, 1), (64, .iconst (-1), 1), (65, .if_icmp .eq 7, 3)]), (68, [(68, .iconst 1, 1), (69, .goto 4, 3)]), (72, [(72, .iconst 0, 1)]), (73, [(73, .invokestatic 141, 3), (76, .imul, 1), (77, .iadd, 1), (78, .ireturn, 1)])]
set_option maxRecDepth 100000 in
theorem pq_X2_waitingBits_73 (b0 : Int32) (b2 : Int32) (s : Nat → Int32) (l : Nat → Int64) (x : Nat → Int32) (y : Nat → Int64) : pl_X2_waitingBits_73 b0 b2 s l x y = pj_bl px_X2_waitingBits (pj_rn px_X2_waitingBits (pj_as pk_X2_waitingBits) (fun _ => none) 60) [(73, .invokestatic 141, 3), (76, .imul, 1), (77, .iadd, 1), (78, .ireturn, 1)] 73 [] [pj_I b2, pj_N 4, pj_I b0] (s, l, x, y) := rfl
set_option maxRecDepth 100000 in
theorem pq_X2_waitingBits_50 (a1 : Int32) (b0 : Int32) (b2 : Int32) (s : Nat → Int32) (l : Nat → Int64) (x : Nat → Int32) (y : Nat → Int64) : pl_X2_waitingBits_50 a1 b0 b2 s l x y = pj_bl px_X2_waitingBits (pj_rn px_X2_waitingBits (pj_as pk_X2_waitingBits) (pj_as [(73, pe_X2_waitingBits_73 (pl_X2_waitingBits_73))]) 60) [(50, .invokestatic 141, 3), (53, .imul, 1), (54, .iadd, 1), (55, .iconst 4, 1), (56, .aload_n 0, 1), (57, .getfield 11, 3), (60, .iconst 2, 1), (61, .aaload, 1), (62, .iload_n 1, 1), (63, .iaload, 1), (64, .iconst (-1), 1), (65, .if_icmp .eq 7, 3)] 50 [(0, pj_O (58, 0)), (1, pj_I a1)] [pj_I b2, pj_N 2, pj_I b0] (s, l, x, y) := rfl
set_option maxRecDepth 100000 in
theorem pq_X2_waitingBits_29 (a1 : Int32) (b0 : Int32) (s : Nat → Int32) (l : Nat → Int64) (x : Nat → Int32) (y : Nat → Int64) : pl_X2_waitingBits_29 a1 b0 s l x y = pj_bl px_X2_waitingBits (pj_rn px_X2_waitingBits (pj_as pk_X2_waitingBits) (pj_as [(50, pe_X2_waitingBits_50 (pl_X2_waitingBits_50))]) 60) [(29, .invokestatic 141, 3), (32, .iconst 2, 1), (33, .aload_n 0, 1), (34, .getfield 11, 3), (37, .iconst 1, 1), (38, .aaload, 1), (39, .iload_n 1, 1), (40, .iaload, 1), (41, .iconst (-1), 1), (42, .if_icmp .eq 7, 3)] 29 [(0, pj_O (58, 0)), (1, pj_I a1)] [pj_I b0] (s, l, x, y) := rfl
set_option maxRecDepth 100000 in
theorem pq_X2_waitingBits_m (a1 : Int32) (s : Nat → Int32) (l : Nat → Int64) (x : Nat → Int32) (y : Nat → Int64) : pf_X2_waitingBits a1 s l x y = pj_bl px_X2_waitingBits (pj_rn px_X2_waitingBits (pj_as pk_X2_waitingBits) (pj_as [(29, pe_X2_waitingBits_29 (pl_X2_waitingBits_29))]) 60) [(0, .iload_n 1, 1), (1, .ifCond .lt 9, 3)] 0 [(0, pj_O (58, 0)), (1, pj_I a1)] [] (s, l, x, y) := rfl
theorem pu_X2_waitingBits_29 {lf : pj_Z → mj_M} {a : Int32 × pj_Z} (f : Int32 → Int32 → pj_F (Int32 × pj_Z)) (hf : ∀ (a1 : Int32) (b0 : Int32) (s : Nat → Int32) (l : Nat → Int64) (x : Nat → Int32) (y : Nat → Int64), f a1 b0 s l x y = some a → pm_Gd 1 2016 ie_X2_waitingBits.1 pm_rI lf 29 [(0, .ref 58), (1, .int a1)] [.int b0] (s, l, x, y) a) : pm_Ex 1 2016 ie_X2_waitingBits.1 pm_rI lf a 29 (pe_X2_waitingBits_29 f) := by
  intro lv st z hd h
  obtain ⟨g0, h⟩ := pj_xr_inv h
  obtain ⟨a1, g1, h⟩ := pj_xi_inv h
  obtain ⟨b0, r0, e0, h⟩ := pj_pi_inv h
  obtain ⟨e9, h⟩ := pj_pe_inv h
  rw [e0, e9]
  exact mj_wp_sub (mj_sub_cons g0 (mj_sub_cons g1 (mj_sub_nil hd))) (hf _ _ _ _ _ _ h)
theorem pu_X2_waitingBits_50 {lf : pj_Z → mj_M} {a : Int32 × pj_Z} (f : Int32 → Int32 → Int32 → pj_F (Int32 × pj_Z)) (hf : ∀ (a1 : Int32) (b0 : Int32) (b2 : Int32) (s : Nat → Int32) (l : Nat → Int64) (x : Nat → Int32) (y : Nat → Int64), f a1 b0 b2 s l x y = some a → pm_Gd 1 2016 ie_X2_waitingBits.1 pm_rI lf 50 [(0, .ref 58), (1, .int a1)] [.int b2, .int (Int32.ofInt 2), .int b0] (s, l, x, y) a) : pm_Ex 1 2016 ie_X2_waitingBits.1 pm_rI lf a 50 (pe_X2_waitingBits_50 f) := by
  intro lv st z hd h
  obtain ⟨g0, h⟩ := pj_xr_inv h
  obtain ⟨a1, g1, h⟩ := pj_xi_inv h
  obtain ⟨b2, r2, e2, h⟩ := pj_pi_inv h
  obtain ⟨r1, e1, h⟩ := pj_pc_inv h
  obtain ⟨b0, r0, e0, h⟩ := pj_pi_inv h
  obtain ⟨e9, h⟩ := pj_pe_inv h
  rw [e2, e1, e0, e9]
  exact mj_wp_sub (mj_sub_cons g0 (mj_sub_cons g1 (mj_sub_nil hd))) (hf _ _ _ _ _ _ _ h)
theorem pu_X2_waitingBits_73 {lf : pj_Z → mj_M} {a : Int32 × pj_Z} (f : Int32 → Int32 → pj_F (Int32 × pj_Z)) (hf : ∀ (b0 : Int32) (b2 : Int32) (s : Nat → Int32) (l : Nat → Int64) (x : Nat → Int32) (y : Nat → Int64), f b0 b2 s l x y = some a → pm_Gd 1 2016 ie_X2_waitingBits.1 pm_rI lf 73 [] [.int b2, .int (Int32.ofInt 4), .int b0] (s, l, x, y) a) : pm_Ex 1 2016 ie_X2_waitingBits.1 pm_rI lf a 73 (pe_X2_waitingBits_73 f) := by
  intro lv st z hd h
  obtain ⟨b2, r2, e2, h⟩ := pj_pi_inv h
  obtain ⟨r1, e1, h⟩ := pj_pc_inv h
  obtain ⟨b0, r0, e0, h⟩ := pj_pi_inv h
  obtain ⟨e9, h⟩ := pj_pe_inv h
  rw [e2, e1, e0, e9]
  exact mj_wp_sub (mj_sub_nil hd) (hf _ _ _ _ _ _ h)
set_option maxRecDepth 100000 in
theorem pz_X2_waitingBits {lf : pj_Z → mj_M} (hT : pj_Lt pj_TC lf) : pj_Cok ic_P (mj_R ic_P 1) 2016 ie_X2_waitingBits.1 (pm_OK lf pm_rI) lf px_X2_waitingBits := by
  exact pm_cok (c := px_X2_waitingBits) hT (pm_in_ok (L := [(11, 2, 11, 2, true)]) (f := mj_pF ic_P 2016) (by decide +kernel)) (fun _ _ h => by cases h) (fun _ _ h => by cases h) (fun _ _ h => by cases h) rfl rfl ⟨by decide, rfl⟩ pm_mI (pj_as_all (p := pm_Cl 1 2016 ie_X2_waitingBits.1 lf (pm_OK lf pm_rI)) (List.forall_mem_cons.mpr ⟨fun _ _ lv st z K a hK h => pc_X11_bit hT (by decide) (ix := 141) rfl rfl hK h, (List.forall_mem_cons.mpr ⟨fun _ _ lv st z K a hK h => pc_X11_bit hT (by decide) (ix := 141) rfl rfl hK h, (List.forall_mem_cons.mpr ⟨fun _ _ lv st z K a hK h => pc_X11_bit hT (by decide) (ix := 141) rfl rfl hK h, (fun _ h => by cases h)⟩)⟩)⟩)) (fun _ h => by cases h)
set_option maxRecDepth 100000 in
theorem pb_X2_waitingBits : pm_bks ie_X2_waitingBits.1.2.2.2.2 pk_X2_waitingBits = true := by decide +kernel
set_option maxRecDepth 100000 in
theorem pg_X2_waitingBits_73 {lf : pj_Z → mj_M} (hT : pj_Lt pj_TC lf) : ∀ (b0 : Int32) (b2 : Int32) (s : Nat → Int32) (l : Nat → Int64) (x : Nat → Int32) (y : Nat → Int64) (a : Int32 × pj_Z), pl_X2_waitingBits_73 b0 b2 s l x y = some a → pm_Gd 1 2016 ie_X2_waitingBits.1 pm_rI lf 73 [] [.int b2, .int (Int32.ofInt 4), .int b0] (s, l, x, y) a := by
  intro b0 b2 s l x y a h
  exact pj_bl_ok (pz_X2_waitingBits hT) (fun t lv st z hd h => pj_rn_ok (pz_X2_waitingBits hT) (pm_bks_ok pb_X2_waitingBits) (fun _ _ h => by cases h) 60 t lv st z hd h) [(73, .invokestatic 141, 3), (76, .imul, 1), (77, .iadd, 1), (78, .ireturn, 1)] 73 [] [pj_I b2, pj_N 4, pj_I b0] (s, l, x, y) (pm_bks_ok pb_X2_waitingBits _ _ rfl) (pm_ndb_ok rfl) ((pq_X2_waitingBits_73  b0 b2 s l x y).symm.trans h)
set_option maxRecDepth 100000 in
theorem pg_X2_waitingBits_50 {lf : pj_Z → mj_M} (hT : pj_Lt pj_TC lf) : ∀ (a1 : Int32) (b0 : Int32) (b2 : Int32) (s : Nat → Int32) (l : Nat → Int64) (x : Nat → Int32) (y : Nat → Int64) (a : Int32 × pj_Z), pl_X2_waitingBits_50 a1 b0 b2 s l x y = some a → pm_Gd 1 2016 ie_X2_waitingBits.1 pm_rI lf 50 [(0, .ref 58), (1, .int a1)] [.int b2, .int (Int32.ofInt 2), .int b0] (s, l, x, y) a := by
  intro a1 b0 b2 s l x y a h
  exact pj_bl_ok (pz_X2_waitingBits hT) (fun t lv st z hd h => pj_rn_ok (pz_X2_waitingBits hT) (pm_bks_ok pb_X2_waitingBits) (pj_as_all (p := pm_Ex 1 2016 ie_X2_waitingBits.1 pm_rI lf a) (List.forall_mem_cons.mpr ⟨pu_X2_waitingBits_73 _ (fun c0 c1 s l x y h => pg_X2_waitingBits_73 hT c0 c1 s l x y _ h), (fun _ h => by cases h)⟩)) 60 t lv st z hd h) [(50, .invokestatic 141, 3), (53, .imul, 1), (54, .iadd, 1), (55, .iconst 4, 1), (56, .aload_n 0, 1), (57, .getfield 11, 3), (60, .iconst 2, 1), (61, .aaload, 1), (62, .iload_n 1, 1), (63, .iaload, 1), (64, .iconst (-1), 1), (65, .if_icmp .eq 7, 3)] 50 [(0, pj_O (58, 0)), (1, pj_I a1)] [pj_I b2, pj_N 2, pj_I b0] (s, l, x, y) (pm_bks_ok pb_X2_waitingBits _ _ rfl) (pm_ndb_ok rfl) ((pq_X2_waitingBits_50  a1 b0 b2 s l x y).symm.trans h)
set_option maxRecDepth 100000 in
theorem pg_X2_waitingBits_29 {lf : pj_Z → mj_M} (hT : pj_Lt pj_TC lf) : ∀ (a1 : Int32) (b0 : Int32) (s : Nat → Int32) (l : Nat → Int64) (x : Nat → Int32) (y : Nat → Int64) (a : Int32 × pj_Z), pl_X2_waitingBits_29 a1 b0 s l x y = some a → pm_Gd 1 2016 ie_X2_waitingBits.1 pm_rI lf 29 [(0, .ref 58), (1, .int a1)] [.int b0] (s, l, x, y) a := by
  intro a1 b0 s l x y a h
  exact pj_bl_ok (pz_X2_waitingBits hT) (fun t lv st z hd h => pj_rn_ok (pz_X2_waitingBits hT) (pm_bks_ok pb_X2_waitingBits) (pj_as_all (p := pm_Ex 1 2016 ie_X2_waitingBits.1 pm_rI lf a) (List.forall_mem_cons.mpr ⟨pu_X2_waitingBits_50 _ (fun c0 c1 c2 s l x y h => pg_X2_waitingBits_50 hT c0 c1 c2 s l x y _ h), (fun _ h => by cases h)⟩)) 60 t lv st z hd h) [(29, .invokestatic 141, 3), (32, .iconst 2, 1), (33, .aload_n 0, 1), (34, .getfield 11, 3), (37, .iconst 1, 1), (38, .aaload, 1), (39, .iload_n 1, 1), (40, .iaload, 1), (41, .iconst (-1), 1), (42, .if_icmp .eq 7, 3)] 29 [(0, pj_O (58, 0)), (1, pj_I a1)] [pj_I b0] (s, l, x, y) (pm_bks_ok pb_X2_waitingBits _ _ rfl) (pm_ndb_ok rfl) ((pq_X2_waitingBits_29  a1 b0 s l x y).symm.trans h)
set_option maxRecDepth 100000 in
theorem pm_X2_waitingBits {lf : pj_Z → mj_M} (hT : pj_Lt pj_TC lf) (a1 : Int32) (s : Nat → Int32) (l : Nat → Int64) (x : Nat → Int32) (y : Nat → Int64) (a : Int32 × pj_Z) (h : pf_X2_waitingBits a1 s l x y = some a) : mj_R ic_P 2 2016 [.ref 58, .int a1] (lf (s, l, x, y)) (pm_rI a.1) (lf a.2) := by
  refine pm_main (Y := ie_X2_waitingBits.1) rfl (Nat.le_of_ble_eq_true rfl) ?_
  exact pj_bl_ok (pz_X2_waitingBits hT) (fun t lv st z hd h => pj_rn_ok (pz_X2_waitingBits hT) (pm_bks_ok pb_X2_waitingBits) (pj_as_all (p := pm_Ex 1 2016 ie_X2_waitingBits.1 pm_rI lf a) (List.forall_mem_cons.mpr ⟨pu_X2_waitingBits_29 _ (fun c0 c1 s l x y h => pg_X2_waitingBits_29 hT c0 c1 s l x y _ h), (fun _ h => by cases h)⟩)) 60 t lv st z hd h) [(0, .iload_n 1, 1), (1, .ifCond .lt 9, 3)] 0 [(0, pj_O (58, 0)), (1, pj_I a1)] [] (s, l, x, y) (pm_bks_ok pb_X2_waitingBits _ _ rfl) (pm_ndb_ok rfl) ((pq_X2_waitingBits_m a1 s l x y).symm.trans h)
abbrev ph_X2_waitingBits {A : Type} : List pj_V → pj_Z → (List pj_V → pj_Z → Option A) → Option A := fun st z K => pj_pi st fun a1 st => pj_pr st 58 0 fun st => pj_ps st (pj_b (pf_X2_waitingBits a1 z.1 z.2.1 z.2.2.1 z.2.2.2) fun r s l x y => K (pj_I r :: st) (s, l, x, y))
set_option maxRecDepth 100000 in
theorem pc_X2_waitingBits {A : Type} {OK : A → Option Value → mj_M → Prop} {d j pc ix : Nat} {Y : mj_Y} {lf : pj_Z → mj_M} (hT : pj_Lt pj_TC lf) (hd : 2 ≤ d) (hl : mj_lk Y.2.2.2.2 pc = some (.invokevirtual ix, 3)) (hg : mj_pG ic_P j ix = some (2016, 1, some 2)) {lv : List (Nat × Value)} {st : List pj_V} {z : pj_Z} {K : List pj_V → pj_Z → Option A} {a : A} (hK : ∀ st z, K st z = some a → pj_Gd ic_P (mj_R ic_P d) j Y OK lf (pc + 3) lv (pj_es st) z a) (h : ph_X2_waitingBits st z K = some a) : pj_Gd ic_P (mj_R ic_P d) j Y OK lf pc lv (pj_es st) z a := by
  obtain ⟨a1, r1, e1, h⟩ := pj_pi_inv h
  obtain ⟨r0, e0, h⟩ := pj_pr_inv h
  obtain ⟨hs, h⟩ := pj_ps_inv h
  obtain ⟨q, hq, h⟩ := pj_b_inv h
  exact pm_cv (o := 58) hl hg [.int a1] rfl (by rw [e1, e0]; rfl) hs (by decide) ((hT.2 58 _ rfl).1.2 z 0 (by decide)) (pm_rI q.1) hd (pm_X2_waitingBits hT a1 z.1 z.2.1 z.2.2.1 z.2.2.2 q hq) rfl (hK _ _ h)
abbrev pe_X11_cylinder_33 (f : pj_F (Int32 × pj_Z)) : pj_K (Int32 × pj_Z) := fun lv st z => pj_pe st (f  z.1 z.2.1 z.2.2.1 z.2.2.2)
abbrev px_X11_cylinder : pj_C (Int32 × pj_Z) := (pj_TC, (pj_as [(10, 11, 0, 2, true), (26, 11, 2, 2, true), (33, 11, 3, 2, true), (287, 4, 0, 2, true), (418, 2, 12, 2, true), (421, 6, 6, 2, true), (424, 6, 7, 2, true)]), (fun _ => none), (fun _ => none), (fun _ => none), ic_X, 3, 1, pj_mI, (pj_as [(90, ph_X11_topOf), (127, ph_X11_bit), (140, ph_X11_bit), (173, ph_X2_waitingBits)]), fun _ => false)
abbrev pk_X11_cylinder : List (Nat × List (Nat × Instr × Nat)) := [(0, [(0, .iload_n 1, 1), (1, .ifCond .lt 32, 3)]), (4, [(4, .iload_n 1, 1), (5, .aload_n 0, 1), (6, .getfield 10, 3), (9, .getfield 287, 3), (12, .iconst 0, 1), (13, .iaload, 1), (14, .if_icmp .ge 19, 3)]), (17, [(17, .iload_n 1, 1), (18, .bipush 8, 2), (20, .if_icmp .ge 13, 3)]), (23, [(23, .iload_n 2, 1), (24, .ifCond .lt 9, 3)]), (27, [(27, .iload_n 2, 1), (28, .bipush 7, 2), (30, .if_icmp .le 14, 3)]), (33, [(33, .new 158, 3)]), (44, [(44, .iload_n 2, 1), (45, .tableswitch 123 0 6 #[43, 49, 61, 73, 86, 99, 111], 43)]), (88, [(88, .aload_n 0, 1), (89, .iload_n 1, 1), (90, .invokevirtual 415, 3), (93, .ireturn, 1)]), (94, [(94, .aload_n 0, 1), (95, .getfield 26, 3), (98, .getfield 418, 3), (101, .iconst 0, 1), (102, .aaload, 1), (103, .iload_n 1, 1), (104, .iaload, 1), (105, .ireturn, 1)]), (106, [(106, .aload_n 0, 1), (107, .getfield 26, 3), (110, .getfield 418, 3), (113, .iconst 1, 1), (114, .aaload, 1), (115, .iload_n 1, 1), (116, .iaload, 1), (117, .ireturn, 1)]), (118, [(118, .aload_n 0, 1), (119, .getfield 33, 3), (122, .getfield 421, 3), (125, .iload_n 1, 1), (126, .baload, 1), (127, .invokestatic 409, 3), (130, .ireturn, 1)]), (131, [(131, .aload_n 0, 1), (132, .getfield 33, 3), (135, .getfield 424, 3), (138, .iload_n 1, 1), (139, .baload, 1), (140, .invokestatic 409, 3), (143, .ireturn, 1)]), (144, [(144, .aload_n 0, 1), (145, .getfield 26, 3), (148, .getfield 418, 3), (151, .iconst 2, 1), (152, .aaload, 1), (153, .iload_n 1, 1), (154, .iaload, 1), (155, .ireturn, 1)]), (156, [(156, .aload_n 0, 1), (157, .getfield 26, 3), (160, .getfield 418, 3), (163, .iconst 3, 1), (164, .aaload, 1), (165, .iload_n 1, 1), (166, .iaload, 1), (167, .ireturn, 1)]), (168, [(168, .aload_n 0, 1), (169, .getfield 26, 3), (172, .iload_n 1, 1), (173, .invokevirtual 427, 3), (176, .ireturn, 1)])]
set_option maxRecDepth 100000 in
theorem pq_X11_cylinder_33  (s : Nat → Int32) (l : Nat → Int64) (x : Nat → Int32) (y : Nat → Int64) : pl_X11_cylinder_33 s l x y = pj_bl px_X11_cylinder (pj_rn px_X11_cylinder (pj_as pk_X11_cylinder) (fun _ => none) 60) [(33, .new 158, 3)] 33 [] [] (s, l, x, y) := rfl
set_option maxRecDepth 100000 in
theorem pq_X11_cylinder_m (a1 : Int32) (a2 : Int32) (s : Nat → Int32) (l : Nat → Int64) (x : Nat → Int32) (y : Nat → Int64) : pf_X11_cylinder a1 a2 s l x y = pj_bl px_X11_cylinder (pj_rn px_X11_cylinder (pj_as pk_X11_cylinder) (pj_as [(33, pe_X11_cylinder_33 (pl_X11_cylinder_33))]) 60) [(0, .iload_n 1, 1), (1, .ifCond .lt 32, 3)] 0 [(0, pj_O (0, 0)), (1, pj_I a1), (2, pj_I a2)] [] (s, l, x, y) := rfl
theorem pu_X11_cylinder_33 {lf : pj_Z → mj_M} {a : Int32 × pj_Z} (f : pj_F (Int32 × pj_Z)) (hf : ∀  (s : Nat → Int32) (l : Nat → Int64) (x : Nat → Int32) (y : Nat → Int64), f  s l x y = some a → pm_Gd 2 11042 ie_X11_cylinder.1 pm_rI lf 33 [] [] (s, l, x, y) a) : pm_Ex 2 11042 ie_X11_cylinder.1 pm_rI lf a 33 (pe_X11_cylinder_33 f) := by
  intro lv st z hd h
  obtain ⟨e9, h⟩ := pj_pe_inv h
  rw [e9]
  exact mj_wp_sub (mj_sub_nil hd) (hf  _ _ _ _ h)
set_option maxRecDepth 100000 in
theorem pz_X11_cylinder {lf : pj_Z → mj_M} (hT : pj_Lt pj_TC lf) : pj_Cok ic_P (mj_R ic_P 2) 11042 ie_X11_cylinder.1 (pm_OK lf pm_rI) lf px_X11_cylinder := by
  exact pm_cok (c := px_X11_cylinder) hT (pm_in_ok (L := [(10, 11, 0, 2, true), (26, 11, 2, 2, true), (33, 11, 3, 2, true), (287, 4, 0, 2, true), (418, 2, 12, 2, true), (421, 6, 6, 2, true), (424, 6, 7, 2, true)]) (f := mj_pF ic_P 11042) (by decide +kernel)) (fun _ _ h => by cases h) (fun _ _ h => by cases h) (fun _ _ h => by cases h) rfl rfl ⟨by decide, rfl⟩ pm_mI (pj_as_all (p := pm_Cl 2 11042 ie_X11_cylinder.1 lf (pm_OK lf pm_rI)) (List.forall_mem_cons.mpr ⟨fun _ _ lv st z K a hK h => pc_X11_topOf hT (by decide) (ix := 415) rfl rfl hK h, (List.forall_mem_cons.mpr ⟨fun _ _ lv st z K a hK h => pc_X11_bit hT (by decide) (ix := 409) rfl rfl hK h, (List.forall_mem_cons.mpr ⟨fun _ _ lv st z K a hK h => pc_X11_bit hT (by decide) (ix := 409) rfl rfl hK h, (List.forall_mem_cons.mpr ⟨fun _ _ lv st z K a hK h => pc_X2_waitingBits hT (by decide) (ix := 427) rfl rfl hK h, (fun _ h => by cases h)⟩)⟩)⟩)⟩)) (fun _ h => by cases h)
set_option maxRecDepth 100000 in
theorem pb_X11_cylinder : pm_bks ie_X11_cylinder.1.2.2.2.2 pk_X11_cylinder = true := by decide +kernel
set_option maxRecDepth 100000 in
theorem pg_X11_cylinder_33 {lf : pj_Z → mj_M} (hT : pj_Lt pj_TC lf) : ∀  (s : Nat → Int32) (l : Nat → Int64) (x : Nat → Int32) (y : Nat → Int64) (a : Int32 × pj_Z), pl_X11_cylinder_33 s l x y = some a → pm_Gd 2 11042 ie_X11_cylinder.1 pm_rI lf 33 [] [] (s, l, x, y) a := by
  intro  s l x y a h
  exact pj_bl_ok (pz_X11_cylinder hT) (fun t lv st z hd h => pj_rn_ok (pz_X11_cylinder hT) (pm_bks_ok pb_X11_cylinder) (fun _ _ h => by cases h) 60 t lv st z hd h) [(33, .new 158, 3)] 33 [] [] (s, l, x, y) (pm_bks_ok pb_X11_cylinder _ _ rfl) (pm_ndb_ok rfl) ((pq_X11_cylinder_33   s l x y).symm.trans h)
set_option maxRecDepth 100000 in
theorem pm_X11_cylinder {lf : pj_Z → mj_M} (hT : pj_Lt pj_TC lf) (a1 : Int32) (a2 : Int32) (s : Nat → Int32) (l : Nat → Int64) (x : Nat → Int32) (y : Nat → Int64) (a : Int32 × pj_Z) (h : pf_X11_cylinder a1 a2 s l x y = some a) : mj_R ic_P 3 11042 [.ref 0, .int a1, .int a2] (lf (s, l, x, y)) (pm_rI a.1) (lf a.2) := by
  refine pm_main (Y := ie_X11_cylinder.1) rfl (Nat.le_of_ble_eq_true rfl) ?_
  exact pj_bl_ok (pz_X11_cylinder hT) (fun t lv st z hd h => pj_rn_ok (pz_X11_cylinder hT) (pm_bks_ok pb_X11_cylinder) (pj_as_all (p := pm_Ex 2 11042 ie_X11_cylinder.1 pm_rI lf a) (List.forall_mem_cons.mpr ⟨pu_X11_cylinder_33 _ (fun  s l x y h => pg_X11_cylinder_33 hT  s l x y _ h), (fun _ h => by cases h)⟩)) 60 t lv st z hd h) [(0, .iload_n 1, 1), (1, .ifCond .lt 32, 3)] 0 [(0, pj_O (0, 0)), (1, pj_I a1), (2, pj_I a2)] [] (s, l, x, y) (pm_bks_ok pb_X11_cylinder _ _ rfl) (pm_ndb_ok rfl) ((pq_X11_cylinder_m a1 a2 s l x y).symm.trans h)
abbrev ph_X11_cylinder {A : Type} : List pj_V → pj_Z → (List pj_V → pj_Z → Option A) → Option A := fun st z K => pj_pi st fun a2 st => pj_pi st fun a1 st => pj_pr st 0 0 fun st => pj_ps st (pj_b (pf_X11_cylinder a1 a2 z.1 z.2.1 z.2.2.1 z.2.2.2) fun r s l x y => K (pj_I r :: st) (s, l, x, y))
set_option maxRecDepth 100000 in
theorem pc_X11_cylinder {A : Type} {OK : A → Option Value → mj_M → Prop} {d j pc ix : Nat} {Y : mj_Y} {lf : pj_Z → mj_M} (hT : pj_Lt pj_TC lf) (hd : 3 ≤ d) (hl : mj_lk Y.2.2.2.2 pc = some (.invokevirtual ix, 3)) (hg : mj_pG ic_P j ix = some (11042, 2, some 11)) {lv : List (Nat × Value)} {st : List pj_V} {z : pj_Z} {K : List pj_V → pj_Z → Option A} {a : A} (hK : ∀ st z, K st z = some a → pj_Gd ic_P (mj_R ic_P d) j Y OK lf (pc + 3) lv (pj_es st) z a) (h : ph_X11_cylinder st z K = some a) : pj_Gd ic_P (mj_R ic_P d) j Y OK lf pc lv (pj_es st) z a := by
  obtain ⟨a2, r2, e2, h⟩ := pj_pi_inv h
  obtain ⟨a1, r1, e1, h⟩ := pj_pi_inv h
  obtain ⟨r0, e0, h⟩ := pj_pr_inv h
  obtain ⟨hs, h⟩ := pj_ps_inv h
  obtain ⟨q, hq, h⟩ := pj_b_inv h
  exact pm_cv (o := 0) hl hg [.int a1, .int a2] rfl (by rw [e2, e1, e0]; rfl) hs (by decide) ((hT.2 0 _ rfl).1.2 z 0 (by decide)) (pm_rI q.1) hd (pm_X11_cylinder hT a1 a2 z.1 z.2.1 z.2.2.1 z.2.2.2 q hq) rfl (hK _ _ h)
abbrev px_X6_edgeNumber : pj_C (Int64 × pj_Z) := (pj_TC, (pj_as [(35, 6, 9, 2, true), (38, 6, 10, 2, true), (41, 6, 11, 2, true), (93, 6, 12, 0, false)]), (fun _ => none), (fun _ => none), (fun _ => none), ic_X, 5, 3, pj_mL, (pj_as [(9, ph_J9_max_7cf53), (19, ph_J9_floorMod_7cf53)]), fun _ => false)
abbrev pk_X6_edgeNumber : List (Nat × List (Nat × Instr × Nat)) := [(0, [(0, .iconst 0, 1), (1, .aload_n 0, 1), (2, .getfield 93, 3), (5, .sipush 200, 3), (8, .isub, 1), (9, .invokestatic 96, 3), (12, .istore_n 3, 1), (13, .iload_n 3, 1), (14, .iload_n 1, 1), (15, .iadd, 1), (16, .sipush 200, 3), (19, .invokestatic 102, 3), (22, .istore 4, 2), (24, .iload_n 2, 1), (25, .ifCond .ne 13, 3)]), (28, [(28, .aload_n 0, 1), (29, .getfield 35, 3), (32, .iload 4, 2), (34, .laload, 1), (35, .goto 27, 3)]), (38, [(38, .iload_n 2, 1), (39, .iconst 1, 1), (40, .if_icmp .ne 14, 3)]), (43, [(43, .aload_n 0, 1), (44, .getfield 38, 3), (47, .iload 4, 2), (49, .iaload, 1), (50, .i2l, 1), (51, .goto 11, 3)]), (54, [(54, .aload_n 0, 1), (55, .getfield 41, 3), (58, .iload 4, 2), (60, .iaload, 1), (61, .i2l, 1)]), (62, [(62, .lreturn, 1)])]
set_option maxRecDepth 100000 in
theorem pq_X6_edgeNumber_m (a1 : Int32) (a2 : Int32) (s : Nat → Int32) (l : Nat → Int64) (x : Nat → Int32) (y : Nat → Int64) : pf_X6_edgeNumber a1 a2 s l x y = pj_bl px_X6_edgeNumber (pj_rn px_X6_edgeNumber (pj_as pk_X6_edgeNumber) (fun _ => none) 60) [(0, .iconst 0, 1), (1, .aload_n 0, 1), (2, .getfield 93, 3), (5, .sipush 200, 3), (8, .isub, 1), (9, .invokestatic 96, 3), (12, .istore_n 3, 1), (13, .iload_n 3, 1), (14, .iload_n 1, 1), (15, .iadd, 1), (16, .sipush 200, 3), (19, .invokestatic 102, 3), (22, .istore 4, 2), (24, .iload_n 2, 1), (25, .ifCond .ne 13, 3)] 0 [(0, pj_O (68, 0)), (1, pj_I a1), (2, pj_I a2)] [] (s, l, x, y) := rfl
set_option maxRecDepth 100000 in
theorem pz_X6_edgeNumber {lf : pj_Z → mj_M} (hT : pj_Lt pj_TC lf) : pj_Cok ic_P (mj_R ic_P 1) 6009 ie_X6_edgeNumber.1 (pm_OK lf pm_rL) lf px_X6_edgeNumber := by
  exact pm_cok (c := px_X6_edgeNumber) hT (pm_in_ok (L := [(35, 6, 9, 2, true), (38, 6, 10, 2, true), (41, 6, 11, 2, true), (93, 6, 12, 0, false)]) (f := mj_pF ic_P 6009) (by decide +kernel)) (fun _ _ h => by cases h) (fun _ _ h => by cases h) (fun _ _ h => by cases h) rfl rfl ⟨by decide, rfl⟩ pm_mL (pj_as_all (p := pm_Cl 1 6009 ie_X6_edgeNumber.1 lf (pm_OK lf pm_rL)) (List.forall_mem_cons.mpr ⟨fun _ _ lv st z K a hK h => pc_J9_max_7cf53 (pm_none hT) (by decide) (ix := 96) rfl rfl hK h, (List.forall_mem_cons.mpr ⟨fun _ _ lv st z K a hK h => pc_J9_floorMod_7cf53 (pm_none hT) (by decide) (ix := 102) rfl rfl hK h, (fun _ h => by cases h)⟩)⟩)) (fun _ h => by cases h)
set_option maxRecDepth 100000 in
theorem pb_X6_edgeNumber : pm_bks ie_X6_edgeNumber.1.2.2.2.2 pk_X6_edgeNumber = true := by decide +kernel
set_option maxRecDepth 100000 in
theorem pm_X6_edgeNumber {lf : pj_Z → mj_M} (hT : pj_Lt pj_TC lf) (a1 : Int32) (a2 : Int32) (s : Nat → Int32) (l : Nat → Int64) (x : Nat → Int32) (y : Nat → Int64) (a : Int64 × pj_Z) (h : pf_X6_edgeNumber a1 a2 s l x y = some a) : mj_R ic_P 2 6009 [.ref 68, .int a1, .int a2] (lf (s, l, x, y)) (pm_rL a.1) (lf a.2) := by
  refine pm_main (Y := ie_X6_edgeNumber.1) rfl (Nat.le_of_ble_eq_true rfl) ?_
  exact pj_bl_ok (pz_X6_edgeNumber hT) (fun t lv st z hd h => pj_rn_ok (pz_X6_edgeNumber hT) (pm_bks_ok pb_X6_edgeNumber) (fun _ _ h => by cases h) 60 t lv st z hd h) [(0, .iconst 0, 1), (1, .aload_n 0, 1), (2, .getfield 93, 3), (5, .sipush 200, 3), (8, .isub, 1), (9, .invokestatic 96, 3), (12, .istore_n 3, 1), (13, .iload_n 3, 1), (14, .iload_n 1, 1), (15, .iadd, 1), (16, .sipush 200, 3), (19, .invokestatic 102, 3), (22, .istore 4, 2), (24, .iload_n 2, 1), (25, .ifCond .ne 13, 3)] 0 [(0, pj_O (68, 0)), (1, pj_I a1), (2, pj_I a2)] [] (s, l, x, y) (pm_bks_ok pb_X6_edgeNumber _ _ rfl) (pm_ndb_ok rfl) ((pq_X6_edgeNumber_m a1 a2 s l x y).symm.trans h)
abbrev ph_X6_edgeNumber {A : Type} : List pj_V → pj_Z → (List pj_V → pj_Z → Option A) → Option A := fun st z K => pj_pi st fun a2 st => pj_pi st fun a1 st => pj_pr st 68 0 fun st => pj_ps st (pj_b (pf_X6_edgeNumber a1 a2 z.1 z.2.1 z.2.2.1 z.2.2.2) fun r s l x y => K (pj_L r :: st) (s, l, x, y))
set_option maxRecDepth 100000 in
theorem pc_X6_edgeNumber {A : Type} {OK : A → Option Value → mj_M → Prop} {d j pc ix : Nat} {Y : mj_Y} {lf : pj_Z → mj_M} (hT : pj_Lt pj_TC lf) (hd : 2 ≤ d) (hl : mj_lk Y.2.2.2.2 pc = some (.invokevirtual ix, 3)) (hg : mj_pG ic_P j ix = some (6009, 2, some 6)) {lv : List (Nat × Value)} {st : List pj_V} {z : pj_Z} {K : List pj_V → pj_Z → Option A} {a : A} (hK : ∀ st z, K st z = some a → pj_Gd ic_P (mj_R ic_P d) j Y OK lf (pc + 3) lv (pj_es st) z a) (h : ph_X6_edgeNumber st z K = some a) : pj_Gd ic_P (mj_R ic_P d) j Y OK lf pc lv (pj_es st) z a := by
  obtain ⟨a2, r2, e2, h⟩ := pj_pi_inv h
  obtain ⟨a1, r1, e1, h⟩ := pj_pi_inv h
  obtain ⟨r0, e0, h⟩ := pj_pr_inv h
  obtain ⟨hs, h⟩ := pj_ps_inv h
  obtain ⟨q, hq, h⟩ := pj_b_inv h
  exact pm_cv (o := 68) hl hg [.int a1, .int a2] rfl (by rw [e2, e1, e0]; rfl) hs (by decide) ((hT.2 68 _ rfl).1.2 z 0 (by decide)) (pm_rL q.1) hd (pm_X6_edgeNumber hT a1 a2 z.1 z.2.1 z.2.2.1 z.2.2.2 q hq) rfl (hK _ _ h)
abbrev pe_X11_edge_30 (f : pj_F (Int64 × pj_Z)) : pj_K (Int64 × pj_Z) := fun lv st z => pj_pe st (f  z.1 z.2.1 z.2.2.1 z.2.2.2)
abbrev px_X11_edge : pj_C (Int64 × pj_Z) := (pj_TC, (pj_as [(33, 11, 3, 2, true), (114, 6, 12, 0, false)]), (fun _ => none), (fun _ => none), (fun _ => none), ic_X, 3, 3, pj_mL, (pj_as [(15, ph_J9_min_7cf53), (47, ph_X6_edgeNumber)]), fun _ => false)
abbrev pk_X11_edge : List (Nat × List (Nat × Instr × Nat)) := [(0, [(0, .iload_n 1, 1), (1, .ifCond .lt 29, 3)]), (4, [(4, .iload_n 1, 1), (5, .aload_n 0, 1), (6, .getfield 33, 3), (9, .getfield 114, 3), (12, .sipush 200, 3), (15, .invokestatic 348, 3), (18, .if_icmp .ge 12, 3)]), (21, [(21, .iload_n 2, 1), (22, .ifCond .lt 8, 3)]), (25, [(25, .iload_n 2, 1), (26, .iconst 2, 1), (27, .if_icmp .le 14, 3)]), (30, [(30, .new 158, 3)]), (41, [(41, .aload_n 0, 1), (42, .getfield 33, 3), (45, .iload_n 1, 1), (46, .iload_n 2, 1), (47, .invokevirtual 432, 3), (50, .lreturn, 1)])]
set_option maxRecDepth 100000 in
theorem pq_X11_edge_30  (s : Nat → Int32) (l : Nat → Int64) (x : Nat → Int32) (y : Nat → Int64) : pl_X11_edge_30 s l x y = pj_bl px_X11_edge (pj_rn px_X11_edge (pj_as pk_X11_edge) (fun _ => none) 60) [(30, .new 158, 3)] 30 [] [] (s, l, x, y) := rfl
set_option maxRecDepth 100000 in
theorem pq_X11_edge_m (a1 : Int32) (a2 : Int32) (s : Nat → Int32) (l : Nat → Int64) (x : Nat → Int32) (y : Nat → Int64) : pf_X11_edge a1 a2 s l x y = pj_bl px_X11_edge (pj_rn px_X11_edge (pj_as pk_X11_edge) (pj_as [(30, pe_X11_edge_30 (pl_X11_edge_30))]) 60) [(0, .iload_n 1, 1), (1, .ifCond .lt 29, 3)] 0 [(0, pj_O (0, 0)), (1, pj_I a1), (2, pj_I a2)] [] (s, l, x, y) := rfl
theorem pu_X11_edge_30 {lf : pj_Z → mj_M} {a : Int64 × pj_Z} (f : pj_F (Int64 × pj_Z)) (hf : ∀  (s : Nat → Int32) (l : Nat → Int64) (x : Nat → Int32) (y : Nat → Int64), f  s l x y = some a → pm_Gd 2 11043 ie_X11_edge.1 pm_rL lf 30 [] [] (s, l, x, y) a) : pm_Ex 2 11043 ie_X11_edge.1 pm_rL lf a 30 (pe_X11_edge_30 f) := by
  intro lv st z hd h
  obtain ⟨e9, h⟩ := pj_pe_inv h
  rw [e9]
  exact mj_wp_sub (mj_sub_nil hd) (hf  _ _ _ _ h)
set_option maxRecDepth 100000 in
theorem pz_X11_edge {lf : pj_Z → mj_M} (hT : pj_Lt pj_TC lf) : pj_Cok ic_P (mj_R ic_P 2) 11043 ie_X11_edge.1 (pm_OK lf pm_rL) lf px_X11_edge := by
  exact pm_cok (c := px_X11_edge) hT (pm_in_ok (L := [(33, 11, 3, 2, true), (114, 6, 12, 0, false)]) (f := mj_pF ic_P 11043) (by decide +kernel)) (fun _ _ h => by cases h) (fun _ _ h => by cases h) (fun _ _ h => by cases h) rfl rfl ⟨by decide, rfl⟩ pm_mL (pj_as_all (p := pm_Cl 2 11043 ie_X11_edge.1 lf (pm_OK lf pm_rL)) (List.forall_mem_cons.mpr ⟨fun _ _ lv st z K a hK h => pc_J9_min_7cf53 (pm_none hT) (by decide) (ix := 348) rfl rfl hK h, (List.forall_mem_cons.mpr ⟨fun _ _ lv st z K a hK h => pc_X6_edgeNumber hT (by decide) (ix := 432) rfl rfl hK h, (fun _ h => by cases h)⟩)⟩)) (fun _ h => by cases h)
set_option maxRecDepth 100000 in
theorem pb_X11_edge : pm_bks ie_X11_edge.1.2.2.2.2 pk_X11_edge = true := by decide +kernel
set_option maxRecDepth 100000 in
theorem pg_X11_edge_30 {lf : pj_Z → mj_M} (hT : pj_Lt pj_TC lf) : ∀  (s : Nat → Int32) (l : Nat → Int64) (x : Nat → Int32) (y : Nat → Int64) (a : Int64 × pj_Z), pl_X11_edge_30 s l x y = some a → pm_Gd 2 11043 ie_X11_edge.1 pm_rL lf 30 [] [] (s, l, x, y) a := by
  intro  s l x y a h
  exact pj_bl_ok (pz_X11_edge hT) (fun t lv st z hd h => pj_rn_ok (pz_X11_edge hT) (pm_bks_ok pb_X11_edge) (fun _ _ h => by cases h) 60 t lv st z hd h) [(30, .new 158, 3)] 30 [] [] (s, l, x, y) (pm_bks_ok pb_X11_edge _ _ rfl) (pm_ndb_ok rfl) ((pq_X11_edge_30   s l x y).symm.trans h)
set_option maxRecDepth 100000 in
theorem pm_X11_edge {lf : pj_Z → mj_M} (hT : pj_Lt pj_TC lf) (a1 : Int32) (a2 : Int32) (s : Nat → Int32) (l : Nat → Int64) (x : Nat → Int32) (y : Nat → Int64) (a : Int64 × pj_Z) (h : pf_X11_edge a1 a2 s l x y = some a) : mj_R ic_P 3 11043 [.ref 0, .int a1, .int a2] (lf (s, l, x, y)) (pm_rL a.1) (lf a.2) := by
  refine pm_main (Y := ie_X11_edge.1) rfl (Nat.le_of_ble_eq_true rfl) ?_
  exact pj_bl_ok (pz_X11_edge hT) (fun t lv st z hd h => pj_rn_ok (pz_X11_edge hT) (pm_bks_ok pb_X11_edge) (pj_as_all (p := pm_Ex 2 11043 ie_X11_edge.1 pm_rL lf a) (List.forall_mem_cons.mpr ⟨pu_X11_edge_30 _ (fun  s l x y h => pg_X11_edge_30 hT  s l x y _ h), (fun _ h => by cases h)⟩)) 60 t lv st z hd h) [(0, .iload_n 1, 1), (1, .ifCond .lt 29, 3)] 0 [(0, pj_O (0, 0)), (1, pj_I a1), (2, pj_I a2)] [] (s, l, x, y) (pm_bks_ok pb_X11_edge _ _ rfl) (pm_ndb_ok rfl) ((pq_X11_edge_m a1 a2 s l x y).symm.trans h)
abbrev ph_X11_edge {A : Type} : List pj_V → pj_Z → (List pj_V → pj_Z → Option A) → Option A := fun st z K => pj_pi st fun a2 st => pj_pi st fun a1 st => pj_pr st 0 0 fun st => pj_ps st (pj_b (pf_X11_edge a1 a2 z.1 z.2.1 z.2.2.1 z.2.2.2) fun r s l x y => K (pj_L r :: st) (s, l, x, y))
set_option maxRecDepth 100000 in
theorem pc_X11_edge {A : Type} {OK : A → Option Value → mj_M → Prop} {d j pc ix : Nat} {Y : mj_Y} {lf : pj_Z → mj_M} (hT : pj_Lt pj_TC lf) (hd : 3 ≤ d) (hl : mj_lk Y.2.2.2.2 pc = some (.invokevirtual ix, 3)) (hg : mj_pG ic_P j ix = some (11043, 2, some 11)) {lv : List (Nat × Value)} {st : List pj_V} {z : pj_Z} {K : List pj_V → pj_Z → Option A} {a : A} (hK : ∀ st z, K st z = some a → pj_Gd ic_P (mj_R ic_P d) j Y OK lf (pc + 3) lv (pj_es st) z a) (h : ph_X11_edge st z K = some a) : pj_Gd ic_P (mj_R ic_P d) j Y OK lf pc lv (pj_es st) z a := by
  obtain ⟨a2, r2, e2, h⟩ := pj_pi_inv h
  obtain ⟨a1, r1, e1, h⟩ := pj_pi_inv h
  obtain ⟨r0, e0, h⟩ := pj_pr_inv h
  obtain ⟨hs, h⟩ := pj_ps_inv h
  obtain ⟨q, hq, h⟩ := pj_b_inv h
  exact pm_cv (o := 0) hl hg [.int a1, .int a2] rfl (by rw [e2, e1, e0]; rfl) hs (by decide) ((hT.2 0 _ rfl).1.2 z 0 (by decide)) (pm_rL q.1) hd (pm_X11_edge hT a1 a2 z.1 z.2.1 z.2.2.1 z.2.2.2 q hq) rfl (hK _ _ h)
abbrev pe_X11_trouble_20 (f : pj_F (Int32 × pj_Z)) : pj_K (Int32 × pj_Z) := fun lv st z => pj_pe st (f  z.1 z.2.1 z.2.2.1 z.2.2.2)
abbrev px_X11_trouble : pj_C (Int32 × pj_Z) := (pj_TC, (pj_as [(54, 11, 6, 2, true), (438, 10, 0, 2, true)]), (fun _ => none), (fun _ => none), (fun _ => none), ic_X, 3, 1, pj_mI, (fun _ => none), fun _ => false)
abbrev pk_X11_trouble : List (Nat × List (Nat × Instr × Nat)) := [(0, [(0, .iload_n 1, 1), (1, .ifCond .lt 19, 3)]), (4, [(4, .iload_n 1, 1), (5, .bipush 28, 2), (7, .if_icmp .ge 13, 3)]), (10, [(10, .iload_n 2, 1), (11, .ifCond .lt 9, 3)]), (14, [(14, .iload_n 2, 1), (15, .bipush 6, 2), (17, .if_icmp .le 14, 3)]), (20, [(20, .new 158, 3)]), (31, [(31, .aload_n 0, 1), (32, .getfield 54, 3), (35, .getfield 438, 3), (38, .iload_n 2, 1), (39, .aaload, 1), (40, .iload_n 1, 1), (41, .iaload, 1), (42, .ireturn, 1)])]
set_option maxRecDepth 100000 in
theorem pq_X11_trouble_20  (s : Nat → Int32) (l : Nat → Int64) (x : Nat → Int32) (y : Nat → Int64) : pl_X11_trouble_20 s l x y = pj_bl px_X11_trouble (pj_rn px_X11_trouble (pj_as pk_X11_trouble) (fun _ => none) 60) [(20, .new 158, 3)] 20 [] [] (s, l, x, y) := rfl
set_option maxRecDepth 100000 in
theorem pq_X11_trouble_m (a1 : Int32) (a2 : Int32) (s : Nat → Int32) (l : Nat → Int64) (x : Nat → Int32) (y : Nat → Int64) : pf_X11_trouble a1 a2 s l x y = pj_bl px_X11_trouble (pj_rn px_X11_trouble (pj_as pk_X11_trouble) (pj_as [(20, pe_X11_trouble_20 (pl_X11_trouble_20))]) 60) [(0, .iload_n 1, 1), (1, .ifCond .lt 19, 3)] 0 [(0, pj_O (0, 0)), (1, pj_I a1), (2, pj_I a2)] [] (s, l, x, y) := rfl
theorem pu_X11_trouble_20 {lf : pj_Z → mj_M} {a : Int32 × pj_Z} (f : pj_F (Int32 × pj_Z)) (hf : ∀  (s : Nat → Int32) (l : Nat → Int64) (x : Nat → Int32) (y : Nat → Int64), f  s l x y = some a → pm_Gd 0 11044 ie_X11_trouble.1 pm_rI lf 20 [] [] (s, l, x, y) a) : pm_Ex 0 11044 ie_X11_trouble.1 pm_rI lf a 20 (pe_X11_trouble_20 f) := by
  intro lv st z hd h
  obtain ⟨e9, h⟩ := pj_pe_inv h
  rw [e9]
  exact mj_wp_sub (mj_sub_nil hd) (hf  _ _ _ _ h)
set_option maxRecDepth 100000 in
theorem pz_X11_trouble {lf : pj_Z → mj_M} (hT : pj_Lt pj_TC lf) : pj_Cok ic_P (mj_R ic_P 0) 11044 ie_X11_trouble.1 (pm_OK lf pm_rI) lf px_X11_trouble := by
  exact pm_cok (c := px_X11_trouble) hT (pm_in_ok (L := [(54, 11, 6, 2, true), (438, 10, 0, 2, true)]) (f := mj_pF ic_P 11044) (by decide +kernel)) (fun _ _ h => by cases h) (fun _ _ h => by cases h) (fun _ _ h => by cases h) rfl rfl ⟨by decide, rfl⟩ pm_mI (fun _ _ h => by cases h) (fun _ h => by cases h)
set_option maxRecDepth 100000 in
theorem pb_X11_trouble : pm_bks ie_X11_trouble.1.2.2.2.2 pk_X11_trouble = true := by decide +kernel
set_option maxRecDepth 100000 in
theorem pg_X11_trouble_20 {lf : pj_Z → mj_M} (hT : pj_Lt pj_TC lf) : ∀  (s : Nat → Int32) (l : Nat → Int64) (x : Nat → Int32) (y : Nat → Int64) (a : Int32 × pj_Z), pl_X11_trouble_20 s l x y = some a → pm_Gd 0 11044 ie_X11_trouble.1 pm_rI lf 20 [] [] (s, l, x, y) a := by
  intro  s l x y a h
  exact pj_bl_ok (pz_X11_trouble hT) (fun t lv st z hd h => pj_rn_ok (pz_X11_trouble hT) (pm_bks_ok pb_X11_trouble) (fun _ _ h => by cases h) 60 t lv st z hd h) [(20, .new 158, 3)] 20 [] [] (s, l, x, y) (pm_bks_ok pb_X11_trouble _ _ rfl) (pm_ndb_ok rfl) ((pq_X11_trouble_20   s l x y).symm.trans h)
set_option maxRecDepth 100000 in
theorem pm_X11_trouble {lf : pj_Z → mj_M} (hT : pj_Lt pj_TC lf) (a1 : Int32) (a2 : Int32) (s : Nat → Int32) (l : Nat → Int64) (x : Nat → Int32) (y : Nat → Int64) (a : Int32 × pj_Z) (h : pf_X11_trouble a1 a2 s l x y = some a) : mj_R ic_P 1 11044 [.ref 0, .int a1, .int a2] (lf (s, l, x, y)) (pm_rI a.1) (lf a.2) := by
  refine pm_main (Y := ie_X11_trouble.1) rfl (Nat.le_of_ble_eq_true rfl) ?_
  exact pj_bl_ok (pz_X11_trouble hT) (fun t lv st z hd h => pj_rn_ok (pz_X11_trouble hT) (pm_bks_ok pb_X11_trouble) (pj_as_all (p := pm_Ex 0 11044 ie_X11_trouble.1 pm_rI lf a) (List.forall_mem_cons.mpr ⟨pu_X11_trouble_20 _ (fun  s l x y h => pg_X11_trouble_20 hT  s l x y _ h), (fun _ h => by cases h)⟩)) 60 t lv st z hd h) [(0, .iload_n 1, 1), (1, .ifCond .lt 19, 3)] 0 [(0, pj_O (0, 0)), (1, pj_I a1), (2, pj_I a2)] [] (s, l, x, y) (pm_bks_ok pb_X11_trouble _ _ rfl) (pm_ndb_ok rfl) ((pq_X11_trouble_m a1 a2 s l x y).symm.trans h)
abbrev ph_X11_trouble {A : Type} : List pj_V → pj_Z → (List pj_V → pj_Z → Option A) → Option A := fun st z K => pj_pi st fun a2 st => pj_pi st fun a1 st => pj_pr st 0 0 fun st => pj_ps st (pj_b (pf_X11_trouble a1 a2 z.1 z.2.1 z.2.2.1 z.2.2.2) fun r s l x y => K (pj_I r :: st) (s, l, x, y))
set_option maxRecDepth 100000 in
theorem pc_X11_trouble {A : Type} {OK : A → Option Value → mj_M → Prop} {d j pc ix : Nat} {Y : mj_Y} {lf : pj_Z → mj_M} (hT : pj_Lt pj_TC lf) (hd : 1 ≤ d) (hl : mj_lk Y.2.2.2.2 pc = some (.invokevirtual ix, 3)) (hg : mj_pG ic_P j ix = some (11044, 2, some 11)) {lv : List (Nat × Value)} {st : List pj_V} {z : pj_Z} {K : List pj_V → pj_Z → Option A} {a : A} (hK : ∀ st z, K st z = some a → pj_Gd ic_P (mj_R ic_P d) j Y OK lf (pc + 3) lv (pj_es st) z a) (h : ph_X11_trouble st z K = some a) : pj_Gd ic_P (mj_R ic_P d) j Y OK lf pc lv (pj_es st) z a := by
  obtain ⟨a2, r2, e2, h⟩ := pj_pi_inv h
  obtain ⟨a1, r1, e1, h⟩ := pj_pi_inv h
  obtain ⟨r0, e0, h⟩ := pj_pr_inv h
  obtain ⟨hs, h⟩ := pj_ps_inv h
  obtain ⟨q, hq, h⟩ := pj_b_inv h
  exact pm_cv (o := 0) hl hg [.int a1, .int a2] rfl (by rw [e2, e1, e0]; rfl) hs (by decide) ((hT.2 0 _ rfl).1.2 z 0 (by decide)) (pm_rI q.1) hd (pm_X11_trouble hT a1 a2 z.1 z.2.1 z.2.2.1 z.2.2.2 q hq) rfl (hK _ _ h)
abbrev pe_X11_frame_10 (f : pj_F (Int32 × pj_Z)) : pj_K (Int32 × pj_Z) := fun lv st z => pj_pe st (f  z.1 z.2.1 z.2.2.1 z.2.2.2)
abbrev px_X11_frame : pj_C (Int32 × pj_Z) := (pj_TC, (pj_as [(54, 11, 6, 2, true), (441, 10, 2, 3, false), (444, 10, 1, 2, true)]), (fun _ => none), (fun _ => none), (fun _ => none), ic_X, 2, 1, pj_mI, (fun _ => none), fun _ => false)
abbrev pk_X11_frame : List (Nat × List (Nat × Instr × Nat)) := [(0, [(0, .iload_n 1, 1), (1, .ifCond .lt 9, 3)]), (4, [(4, .iload_n 1, 1), (5, .bipush 7, 2), (7, .if_icmp .le 14, 3)]), (10, [(10, .new 158, 3)]), (21, [(21, .aload_n 0, 1), (22, .getfield 54, 3), (25, .getfield 441, 3), (28, .ifCond .eq 15, 3)]), (31, [(31, .aload_n 0, 1), (32, .getfield 54, 3), (35, .getfield 444, 3), (38, .iload_n 1, 1), (39, .iaload, 1), (40, .goto 4, 3)]), (43, [(43, .iconst (-1), 1)]), (44, [(44, .ireturn, 1)])]
set_option maxRecDepth 100000 in
theorem pq_X11_frame_10  (s : Nat → Int32) (l : Nat → Int64) (x : Nat → Int32) (y : Nat → Int64) : pl_X11_frame_10 s l x y = pj_bl px_X11_frame (pj_rn px_X11_frame (pj_as pk_X11_frame) (fun _ => none) 60) [(10, .new 158, 3)] 10 [] [] (s, l, x, y) := rfl
set_option maxRecDepth 100000 in
theorem pq_X11_frame_m (a1 : Int32) (s : Nat → Int32) (l : Nat → Int64) (x : Nat → Int32) (y : Nat → Int64) : pf_X11_frame a1 s l x y = pj_bl px_X11_frame (pj_rn px_X11_frame (pj_as pk_X11_frame) (pj_as [(10, pe_X11_frame_10 (pl_X11_frame_10))]) 60) [(0, .iload_n 1, 1), (1, .ifCond .lt 9, 3)] 0 [(0, pj_O (0, 0)), (1, pj_I a1)] [] (s, l, x, y) := rfl
theorem pu_X11_frame_10 {lf : pj_Z → mj_M} {a : Int32 × pj_Z} (f : pj_F (Int32 × pj_Z)) (hf : ∀  (s : Nat → Int32) (l : Nat → Int64) (x : Nat → Int32) (y : Nat → Int64), f  s l x y = some a → pm_Gd 0 11045 ie_X11_frame.1 pm_rI lf 10 [] [] (s, l, x, y) a) : pm_Ex 0 11045 ie_X11_frame.1 pm_rI lf a 10 (pe_X11_frame_10 f) := by
  intro lv st z hd h
  obtain ⟨e9, h⟩ := pj_pe_inv h
  rw [e9]
  exact mj_wp_sub (mj_sub_nil hd) (hf  _ _ _ _ h)
set_option maxRecDepth 100000 in
theorem pz_X11_frame {lf : pj_Z → mj_M} (hT : pj_Lt pj_TC lf) : pj_Cok ic_P (mj_R ic_P 0) 11045 ie_X11_frame.1 (pm_OK lf pm_rI) lf px_X11_frame := by
  exact pm_cok (c := px_X11_frame) hT (pm_in_ok (L := [(54, 11, 6, 2, true), (441, 10, 2, 3, false), (444, 10, 1, 2, true)]) (f := mj_pF ic_P 11045) (by decide +kernel)) (fun _ _ h => by cases h) (fun _ _ h => by cases h) (fun _ _ h => by cases h) rfl rfl ⟨by decide, rfl⟩ pm_mI (fun _ _ h => by cases h) (fun _ h => by cases h)
set_option maxRecDepth 100000 in
theorem pb_X11_frame : pm_bks ie_X11_frame.1.2.2.2.2 pk_X11_frame = true := by decide +kernel
set_option maxRecDepth 100000 in
theorem pg_X11_frame_10 {lf : pj_Z → mj_M} (hT : pj_Lt pj_TC lf) : ∀  (s : Nat → Int32) (l : Nat → Int64) (x : Nat → Int32) (y : Nat → Int64) (a : Int32 × pj_Z), pl_X11_frame_10 s l x y = some a → pm_Gd 0 11045 ie_X11_frame.1 pm_rI lf 10 [] [] (s, l, x, y) a := by
  intro  s l x y a h
  exact pj_bl_ok (pz_X11_frame hT) (fun t lv st z hd h => pj_rn_ok (pz_X11_frame hT) (pm_bks_ok pb_X11_frame) (fun _ _ h => by cases h) 60 t lv st z hd h) [(10, .new 158, 3)] 10 [] [] (s, l, x, y) (pm_bks_ok pb_X11_frame _ _ rfl) (pm_ndb_ok rfl) ((pq_X11_frame_10   s l x y).symm.trans h)
set_option maxRecDepth 100000 in
theorem pm_X11_frame {lf : pj_Z → mj_M} (hT : pj_Lt pj_TC lf) (a1 : Int32) (s : Nat → Int32) (l : Nat → Int64) (x : Nat → Int32) (y : Nat → Int64) (a : Int32 × pj_Z) (h : pf_X11_frame a1 s l x y = some a) : mj_R ic_P 1 11045 [.ref 0, .int a1] (lf (s, l, x, y)) (pm_rI a.1) (lf a.2) := by
  refine pm_main (Y := ie_X11_frame.1) rfl (Nat.le_of_ble_eq_true rfl) ?_
  exact pj_bl_ok (pz_X11_frame hT) (fun t lv st z hd h => pj_rn_ok (pz_X11_frame hT) (pm_bks_ok pb_X11_frame) (pj_as_all (p := pm_Ex 0 11045 ie_X11_frame.1 pm_rI lf a) (List.forall_mem_cons.mpr ⟨pu_X11_frame_10 _ (fun  s l x y h => pg_X11_frame_10 hT  s l x y _ h), (fun _ h => by cases h)⟩)) 60 t lv st z hd h) [(0, .iload_n 1, 1), (1, .ifCond .lt 9, 3)] 0 [(0, pj_O (0, 0)), (1, pj_I a1)] [] (s, l, x, y) (pm_bks_ok pb_X11_frame _ _ rfl) (pm_ndb_ok rfl) ((pq_X11_frame_m a1 s l x y).symm.trans h)
abbrev ph_X11_frame {A : Type} : List pj_V → pj_Z → (List pj_V → pj_Z → Option A) → Option A := fun st z K => pj_pi st fun a1 st => pj_pr st 0 0 fun st => pj_ps st (pj_b (pf_X11_frame a1 z.1 z.2.1 z.2.2.1 z.2.2.2) fun r s l x y => K (pj_I r :: st) (s, l, x, y))
set_option maxRecDepth 100000 in
theorem pc_X11_frame {A : Type} {OK : A → Option Value → mj_M → Prop} {d j pc ix : Nat} {Y : mj_Y} {lf : pj_Z → mj_M} (hT : pj_Lt pj_TC lf) (hd : 1 ≤ d) (hl : mj_lk Y.2.2.2.2 pc = some (.invokevirtual ix, 3)) (hg : mj_pG ic_P j ix = some (11045, 1, some 11)) {lv : List (Nat × Value)} {st : List pj_V} {z : pj_Z} {K : List pj_V → pj_Z → Option A} {a : A} (hK : ∀ st z, K st z = some a → pj_Gd ic_P (mj_R ic_P d) j Y OK lf (pc + 3) lv (pj_es st) z a) (h : ph_X11_frame st z K = some a) : pj_Gd ic_P (mj_R ic_P d) j Y OK lf pc lv (pj_es st) z a := by
  obtain ⟨a1, r1, e1, h⟩ := pj_pi_inv h
  obtain ⟨r0, e0, h⟩ := pj_pr_inv h
  obtain ⟨hs, h⟩ := pj_ps_inv h
  obtain ⟨q, hq, h⟩ := pj_b_inv h
  exact pm_cv (o := 0) hl hg [.int a1] rfl (by rw [e1, e0]; rfl) hs (by decide) ((hT.2 0 _ rfl).1.2 z 0 (by decide)) (pm_rI q.1) hd (pm_X11_frame hT a1 z.1 z.2.1 z.2.2.1 z.2.2.2 q hq) rfl (hK _ _ h)
abbrev pe_X11_comes_11 (f : pj_F (Int64 × pj_Z)) : pj_K (Int64 × pj_Z) := fun lv st z => pj_pe st (f  z.1 z.2.1 z.2.2.1 z.2.2.2)
abbrev px_X11_comes : pj_C (Int64 × pj_Z) := (pj_TC, (pj_as [(26, 11, 2, 2, true), (127, 2, 0, 0, false)]), (fun _ => none), (fun _ => none), (fun _ => none), ic_X, 2, 3, pj_mL, (pj_as [(49, ph_X2_comesAt)]), fun _ => false)
abbrev pk_X11_comes : List (Nat × List (Nat × Instr × Nat)) := [(0, [(0, .iload_n 1, 1), (1, .ifCond .lt 10, 3)]), (4, [(4, .iload_n 1, 1), (5, .sipush 7200, 3), (8, .if_icmp .lt 14, 3)]), (11, [(11, .new 107, 3)]), (22, [(22, .aload_n 0, 1), (23, .getfield 26, 3), (26, .getfield 127, 3), (29, .iconst 3, 1), (30, .if_icmp .eq 14, 3)]), (33, [(33, .new 189, 3)]), (44, [(44, .aload_n 0, 1), (45, .getfield 26, 3), (48, .iload_n 1, 1), (49, .invokevirtual 451, 3), (52, .lreturn, 1)])]
set_option maxRecDepth 100000 in
theorem pq_X11_comes_11  (s : Nat → Int32) (l : Nat → Int64) (x : Nat → Int32) (y : Nat → Int64) : pl_X11_comes_11 s l x y = pj_bl px_X11_comes (pj_rn px_X11_comes (pj_as pk_X11_comes) (fun _ => none) 60) [(11, .new 107, 3)] 11 [] [] (s, l, x, y) := rfl
set_option maxRecDepth 100000 in
theorem pq_X11_comes_m (a1 : Int32) (s : Nat → Int32) (l : Nat → Int64) (x : Nat → Int32) (y : Nat → Int64) : pf_X11_comes a1 s l x y = pj_bl px_X11_comes (pj_rn px_X11_comes (pj_as pk_X11_comes) (pj_as [(11, pe_X11_comes_11 (pl_X11_comes_11))]) 60) [(0, .iload_n 1, 1), (1, .ifCond .lt 10, 3)] 0 [(0, pj_O (0, 0)), (1, pj_I a1)] [] (s, l, x, y) := rfl
theorem pu_X11_comes_11 {lf : pj_Z → mj_M} {a : Int64 × pj_Z} (f : pj_F (Int64 × pj_Z)) (hf : ∀  (s : Nat → Int32) (l : Nat → Int64) (x : Nat → Int32) (y : Nat → Int64), f  s l x y = some a → pm_Gd 2 11046 ie_X11_comes.1 pm_rL lf 11 [] [] (s, l, x, y) a) : pm_Ex 2 11046 ie_X11_comes.1 pm_rL lf a 11 (pe_X11_comes_11 f) := by
  intro lv st z hd h
  obtain ⟨e9, h⟩ := pj_pe_inv h
  rw [e9]
  exact mj_wp_sub (mj_sub_nil hd) (hf  _ _ _ _ h)
set_option maxRecDepth 100000 in
theorem pz_X11_comes {lf : pj_Z → mj_M} (hT : pj_Lt pj_TC lf) : pj_Cok ic_P (mj_R ic_P 2) 11046 ie_X11_comes.1 (pm_OK lf pm_rL) lf px_X11_comes := by
  exact pm_cok (c := px_X11_comes) hT (pm_in_ok (L := [(26, 11, 2, 2, true), (127, 2, 0, 0, false)]) (f := mj_pF ic_P 11046) (by decide +kernel)) (fun _ _ h => by cases h) (fun _ _ h => by cases h) (fun _ _ h => by cases h) rfl rfl ⟨by decide, rfl⟩ pm_mL (pj_as_all (p := pm_Cl 2 11046 ie_X11_comes.1 lf (pm_OK lf pm_rL)) (List.forall_mem_cons.mpr ⟨fun _ _ lv st z K a hK h => pc_X2_comesAt hT (by decide) (ix := 451) rfl rfl hK h, (fun _ h => by cases h)⟩)) (fun _ h => by cases h)
set_option maxRecDepth 100000 in
theorem pb_X11_comes : pm_bks ie_X11_comes.1.2.2.2.2 pk_X11_comes = true := by decide +kernel
set_option maxRecDepth 100000 in
theorem pg_X11_comes_11 {lf : pj_Z → mj_M} (hT : pj_Lt pj_TC lf) : ∀  (s : Nat → Int32) (l : Nat → Int64) (x : Nat → Int32) (y : Nat → Int64) (a : Int64 × pj_Z), pl_X11_comes_11 s l x y = some a → pm_Gd 2 11046 ie_X11_comes.1 pm_rL lf 11 [] [] (s, l, x, y) a := by
  intro  s l x y a h
  exact pj_bl_ok (pz_X11_comes hT) (fun t lv st z hd h => pj_rn_ok (pz_X11_comes hT) (pm_bks_ok pb_X11_comes) (fun _ _ h => by cases h) 60 t lv st z hd h) [(11, .new 107, 3)] 11 [] [] (s, l, x, y) (pm_bks_ok pb_X11_comes _ _ rfl) (pm_ndb_ok rfl) ((pq_X11_comes_11   s l x y).symm.trans h)
set_option maxRecDepth 100000 in
theorem pm_X11_comes {lf : pj_Z → mj_M} (hT : pj_Lt pj_TC lf) (a1 : Int32) (s : Nat → Int32) (l : Nat → Int64) (x : Nat → Int32) (y : Nat → Int64) (a : Int64 × pj_Z) (h : pf_X11_comes a1 s l x y = some a) : mj_R ic_P 3 11046 [.ref 0, .int a1] (lf (s, l, x, y)) (pm_rL a.1) (lf a.2) := by
  refine pm_main (Y := ie_X11_comes.1) rfl (Nat.le_of_ble_eq_true rfl) ?_
  exact pj_bl_ok (pz_X11_comes hT) (fun t lv st z hd h => pj_rn_ok (pz_X11_comes hT) (pm_bks_ok pb_X11_comes) (pj_as_all (p := pm_Ex 2 11046 ie_X11_comes.1 pm_rL lf a) (List.forall_mem_cons.mpr ⟨pu_X11_comes_11 _ (fun  s l x y h => pg_X11_comes_11 hT  s l x y _ h), (fun _ h => by cases h)⟩)) 60 t lv st z hd h) [(0, .iload_n 1, 1), (1, .ifCond .lt 10, 3)] 0 [(0, pj_O (0, 0)), (1, pj_I a1)] [] (s, l, x, y) (pm_bks_ok pb_X11_comes _ _ rfl) (pm_ndb_ok rfl) ((pq_X11_comes_m a1 s l x y).symm.trans h)
abbrev ph_X11_comes {A : Type} : List pj_V → pj_Z → (List pj_V → pj_Z → Option A) → Option A := fun st z K => pj_pi st fun a1 st => pj_pr st 0 0 fun st => pj_ps st (pj_b (pf_X11_comes a1 z.1 z.2.1 z.2.2.1 z.2.2.2) fun r s l x y => K (pj_L r :: st) (s, l, x, y))
set_option maxRecDepth 100000 in
theorem pc_X11_comes {A : Type} {OK : A → Option Value → mj_M → Prop} {d j pc ix : Nat} {Y : mj_Y} {lf : pj_Z → mj_M} (hT : pj_Lt pj_TC lf) (hd : 3 ≤ d) (hl : mj_lk Y.2.2.2.2 pc = some (.invokevirtual ix, 3)) (hg : mj_pG ic_P j ix = some (11046, 1, some 11)) {lv : List (Nat × Value)} {st : List pj_V} {z : pj_Z} {K : List pj_V → pj_Z → Option A} {a : A} (hK : ∀ st z, K st z = some a → pj_Gd ic_P (mj_R ic_P d) j Y OK lf (pc + 3) lv (pj_es st) z a) (h : ph_X11_comes st z K = some a) : pj_Gd ic_P (mj_R ic_P d) j Y OK lf pc lv (pj_es st) z a := by
  obtain ⟨a1, r1, e1, h⟩ := pj_pi_inv h
  obtain ⟨r0, e0, h⟩ := pj_pr_inv h
  obtain ⟨hs, h⟩ := pj_ps_inv h
  obtain ⟨q, hq, h⟩ := pj_b_inv h
  exact pm_cv (o := 0) hl hg [.int a1] rfl (by rw [e1, e0]; rfl) hs (by decide) ((hT.2 0 _ rfl).1.2 z 0 (by decide)) (pm_rL q.1) hd (pm_X11_comes hT a1 z.1 z.2.1 z.2.2.1 z.2.2.2 q hq) rfl (hK _ _ h)
abbrev px_X11_fillView_v1 : pj_C (Unit × pj_Z) := (pj_TC, (pj_as [(19, 11, 1, 2, true), (26, 11, 2, 2, true), (40, 11, 4, 2, true), (47, 11, 5, 2, true), (400, 7, 8, 2, true), (454, 11, 14, 0, false), (628, 2, 3, 0, false), (682, 3, 18, 0, false), (685, 3, 19, 2, true), (774, 9, 1, 0, false)]), (fun _ => none), (fun _ => none), (fun _ => none), ic_X, 3, 0, pj_mU, (pj_as [(77, ph_X11_cellAtHand)]), fun _ => false)
abbrev pk_X11_fillView_v1 : List (Nat × List (Nat × Instr × Nat)) := [(0, [(0, .aload_n 2, 1), (1, .arraylength, 1), (2, .bipush 8, 2), (4, .if_icmp .ge 4, 3)]), (7, [(7, .return_, 1)]), (8, [(8, .aload_n 2, 1), (9, .iconst 0, 1), (10, .iload_n 1, 1), (11, .iastore, 1), (12, .aload_n 2, 1), (13, .iconst 1, 1), (14, .aload_n 0, 1), (15, .getfield 26, 3), (18, .getfield 628, 3), (21, .iastore, 1), (22, .aload_n 2, 1), (23, .iconst 2, 1), (24, .aload_n 0, 1), (25, .getfield 19, 3), (28, .getfield 400, 3), (31, .iconst 4, 1), (32, .iaload, 1), (33, .iastore, 1), (34, .aload_n 2, 1), (35, .iconst 3, 1), (36, .aload_n 0, 1), (37, .getfield 19, 3), (40, .getfield 400, 3), (43, .iconst 5, 1), (44, .iaload, 1), (45, .iastore, 1), (46, .aload_n 2, 1), (47, .iconst 4, 1), (48, .aload_n 0, 1), (49, .getfield 40, 3), (52, .getfield 774, 3), (55, .iastore, 1), (56, .aload_n 2, 1), (57, .iconst 5, 1), (58, .aload_n 0, 1), (59, .getfield 47, 3), (62, .getfield 682, 3), (65, .iastore, 1), (66, .aload_n 2, 1), (67, .bipush 6, 2), (69, .aload_n 0, 1), (70, .getfield 47, 3), (73, .getfield 685, 3), (76, .aload_n 0, 1), (77, .invokevirtual 688, 3), (80, .iaload, 1), (81, .iastore, 1), (82, .aload_n 2, 1), (83, .bipush 7, 2), (85, .aload_n 0, 1), (86, .getfield 454, 3), (89, .iastore, 1), (90, .return_, 1)])]
set_option maxRecDepth 100000 in
theorem pq_X11_fillView_v1_m (a1 : Int32) (s : Nat → Int32) (l : Nat → Int64) (x : Nat → Int32) (y : Nat → Int64) : pf_X11_fillView_v1 a1 s l x y = pj_bl px_X11_fillView_v1 (pj_rn px_X11_fillView_v1 (pj_as pk_X11_fillView_v1) (fun _ => none) 60) [(0, .aload_n 2, 1), (1, .arraylength, 1), (2, .bipush 8, 2), (4, .if_icmp .ge 4, 3)] 0 [(0, pj_O (0, 0)), (1, pj_I a1), (2, pj_O (101, 0))] [] (s, l, x, y) := rfl
set_option maxRecDepth 100000 in
theorem pz_X11_fillView_v1 {lf : pj_Z → mj_M} (hT : pj_Lt pj_TC lf) : pj_Cok ic_P (mj_R ic_P 1) 11080 ie_X11_fillView.1 (pm_OK lf pm_rU) lf px_X11_fillView_v1 := by
  exact pm_cok (c := px_X11_fillView_v1) hT (pm_in_ok (L := [(19, 11, 1, 2, true), (26, 11, 2, 2, true), (40, 11, 4, 2, true), (47, 11, 5, 2, true), (400, 7, 8, 2, true), (454, 11, 14, 0, false), (628, 2, 3, 0, false), (682, 3, 18, 0, false), (685, 3, 19, 2, true), (774, 9, 1, 0, false)]) (f := mj_pF ic_P 11080) (by decide +kernel)) (fun _ _ h => by cases h) (fun _ _ h => by cases h) (fun _ _ h => by cases h) rfl rfl ⟨by decide, rfl⟩ pm_mU (pj_as_all (p := pm_Cl 1 11080 ie_X11_fillView.1 lf (pm_OK lf pm_rU)) (List.forall_mem_cons.mpr ⟨fun _ _ lv st z K a hK h => pc_X11_cellAtHand hT (by decide) (ix := 688) rfl rfl hK h, (fun _ h => by cases h)⟩)) (fun _ h => by cases h)
set_option maxRecDepth 100000 in
theorem pb_X11_fillView_v1 : pm_bks ie_X11_fillView.1.2.2.2.2 pk_X11_fillView_v1 = true := by decide +kernel
set_option maxRecDepth 100000 in
theorem pm_X11_fillView_v1 {lf : pj_Z → mj_M} (hT : pj_Lt pj_TC lf) (a1 : Int32) (s : Nat → Int32) (l : Nat → Int64) (x : Nat → Int32) (y : Nat → Int64) (a : Unit × pj_Z) (h : pf_X11_fillView_v1 a1 s l x y = some a) : mj_R ic_P 2 11080 [.ref 0, .int a1, .ref 101] (lf (s, l, x, y)) (pm_rU a.1) (lf a.2) := by
  refine pm_main (Y := ie_X11_fillView.1) rfl (Nat.le_of_ble_eq_true rfl) ?_
  exact pj_bl_ok (pz_X11_fillView_v1 hT) (fun t lv st z hd h => pj_rn_ok (pz_X11_fillView_v1 hT) (pm_bks_ok pb_X11_fillView_v1) (fun _ _ h => by cases h) 60 t lv st z hd h) [(0, .aload_n 2, 1), (1, .arraylength, 1), (2, .bipush 8, 2), (4, .if_icmp .ge 4, 3)] 0 [(0, pj_O (0, 0)), (1, pj_I a1), (2, pj_O (101, 0))] [] (s, l, x, y) (pm_bks_ok pb_X11_fillView_v1 _ _ rfl) (pm_ndb_ok rfl) ((pq_X11_fillView_v1_m a1 s l x y).symm.trans h)
abbrev ph_X11_fillView_v1 {A : Type} : List pj_V → pj_Z → (List pj_V → pj_Z → Option A) → Option A := fun st z K => pj_pr st 101 0 fun st => pj_pi st fun a1 st => pj_pr st 0 0 fun st => pj_ps st (pj_b (pf_X11_fillView_v1 a1 z.1 z.2.1 z.2.2.1 z.2.2.2) fun r s l x y => K st (s, l, x, y))
set_option maxRecDepth 100000 in
theorem pc_X11_fillView_v1 {A : Type} {OK : A → Option Value → mj_M → Prop} {d j pc ix : Nat} {Y : mj_Y} {lf : pj_Z → mj_M} (hT : pj_Lt pj_TC lf) (hd : 2 ≤ d) (hl : mj_lk Y.2.2.2.2 pc = some (.invokevirtual ix, 3)) (hg : mj_pG ic_P j ix = some (11080, 2, some 11)) {lv : List (Nat × Value)} {st : List pj_V} {z : pj_Z} {K : List pj_V → pj_Z → Option A} {a : A} (hK : ∀ st z, K st z = some a → pj_Gd ic_P (mj_R ic_P d) j Y OK lf (pc + 3) lv (pj_es st) z a) (h : ph_X11_fillView_v1 st z K = some a) : pj_Gd ic_P (mj_R ic_P d) j Y OK lf pc lv (pj_es st) z a := by
  obtain ⟨r2, e2, h⟩ := pj_pr_inv h
  obtain ⟨a1, r1, e1, h⟩ := pj_pi_inv h
  obtain ⟨r0, e0, h⟩ := pj_pr_inv h
  obtain ⟨hs, h⟩ := pj_ps_inv h
  obtain ⟨q, hq, h⟩ := pj_b_inv h
  exact pm_cv (o := 0) hl hg [.int a1, .ref 101] rfl (by rw [e2, e1, e0]; rfl) hs (by decide) ((hT.2 0 _ rfl).1.2 z 0 (by decide)) (pm_rU q.1) hd (pm_X11_fillView_v1 hT a1 z.1 z.2.1 z.2.2.1 z.2.2.2 q hq) rfl (hK _ _ h)
abbrev px_X8_sayByte : pj_C (Int32 × pj_Z) := (pj_TC, (fun _ => none), (fun _ => none), (fun _ => none), (fun _ => none), ic_X, 3, 1, pj_mI, (pj_as [(6, ph_X11_clip), (9, ph_X8_say)]), fun _ => false)
abbrev pk_X8_sayByte : List (Nat × List (Nat × Instr × Nat)) := [(0, [(0, .aload_n 0, 1), (1, .lload_n 1, 1), (2, .iconst 0, 1), (3, .sipush 255, 3), (6, .invokestatic 82, 3), (9, .invokevirtual 74, 3), (12, .ireturn, 1)])]
set_option maxRecDepth 100000 in
theorem pq_X8_sayByte_m (a1 : Int64) (s : Nat → Int32) (l : Nat → Int64) (x : Nat → Int32) (y : Nat → Int64) : pf_X8_sayByte a1 s l x y = pj_bl px_X8_sayByte (pj_rn px_X8_sayByte (pj_as pk_X8_sayByte) (fun _ => none) 60) [(0, .aload_n 0, 1), (1, .lload_n 1, 1), (2, .iconst 0, 1), (3, .sipush 255, 3), (6, .invokestatic 82, 3), (9, .invokevirtual 74, 3), (12, .ireturn, 1)] 0 [(0, pj_O (96, 0)), (1, pj_L a1)] [] (s, l, x, y) := rfl
set_option maxRecDepth 100000 in
theorem pz_X8_sayByte {lf : pj_Z → mj_M} (hT : pj_Lt pj_TC lf) : pj_Cok ic_P (mj_R ic_P 1) 8011 ie_X8_sayByte.1 (pm_OK lf pm_rI) lf px_X8_sayByte := by
  exact pm_cok (c := px_X8_sayByte) hT (fun _ _ h => by cases h) (fun _ _ h => by cases h) (fun _ _ h => by cases h) (fun _ _ h => by cases h) rfl rfl ⟨by decide, rfl⟩ pm_mI (pj_as_all (p := pm_Cl 1 8011 ie_X8_sayByte.1 lf (pm_OK lf pm_rI)) (List.forall_mem_cons.mpr ⟨fun _ _ lv st z K a hK h => pc_X11_clip hT (by decide) (ix := 82) rfl rfl hK h, (List.forall_mem_cons.mpr ⟨fun _ _ lv st z K a hK h => pc_X8_say hT (by decide) (ix := 74) rfl rfl hK h, (fun _ h => by cases h)⟩)⟩)) (fun _ h => by cases h)
set_option maxRecDepth 100000 in
theorem pb_X8_sayByte : pm_bks ie_X8_sayByte.1.2.2.2.2 pk_X8_sayByte = true := by decide +kernel
set_option maxRecDepth 100000 in
theorem pm_X8_sayByte {lf : pj_Z → mj_M} (hT : pj_Lt pj_TC lf) (a1 : Int64) (s : Nat → Int32) (l : Nat → Int64) (x : Nat → Int32) (y : Nat → Int64) (a : Int32 × pj_Z) (h : pf_X8_sayByte a1 s l x y = some a) : mj_R ic_P 2 8011 [.ref 96, .long a1] (lf (s, l, x, y)) (pm_rI a.1) (lf a.2) := by
  refine pm_main (Y := ie_X8_sayByte.1) rfl (Nat.le_of_ble_eq_true rfl) ?_
  exact pj_bl_ok (pz_X8_sayByte hT) (fun t lv st z hd h => pj_rn_ok (pz_X8_sayByte hT) (pm_bks_ok pb_X8_sayByte) (fun _ _ h => by cases h) 60 t lv st z hd h) [(0, .aload_n 0, 1), (1, .lload_n 1, 1), (2, .iconst 0, 1), (3, .sipush 255, 3), (6, .invokestatic 82, 3), (9, .invokevirtual 74, 3), (12, .ireturn, 1)] 0 [(0, pj_O (96, 0)), (1, pj_L a1)] [] (s, l, x, y) (pm_bks_ok pb_X8_sayByte _ _ rfl) (pm_ndb_ok rfl) ((pq_X8_sayByte_m a1 s l x y).symm.trans h)
abbrev ph_X8_sayByte {A : Type} : List pj_V → pj_Z → (List pj_V → pj_Z → Option A) → Option A := fun st z K => pj_pl st fun a1 st => pj_pr st 96 0 fun st => pj_ps st (pj_b (pf_X8_sayByte a1 z.1 z.2.1 z.2.2.1 z.2.2.2) fun r s l x y => K (pj_I r :: st) (s, l, x, y))
set_option maxRecDepth 100000 in
theorem pc_X8_sayByte {A : Type} {OK : A → Option Value → mj_M → Prop} {d j pc ix : Nat} {Y : mj_Y} {lf : pj_Z → mj_M} (hT : pj_Lt pj_TC lf) (hd : 2 ≤ d) (hl : mj_lk Y.2.2.2.2 pc = some (.invokevirtual ix, 3)) (hg : mj_pG ic_P j ix = some (8011, 1, some 8)) {lv : List (Nat × Value)} {st : List pj_V} {z : pj_Z} {K : List pj_V → pj_Z → Option A} {a : A} (hK : ∀ st z, K st z = some a → pj_Gd ic_P (mj_R ic_P d) j Y OK lf (pc + 3) lv (pj_es st) z a) (h : ph_X8_sayByte st z K = some a) : pj_Gd ic_P (mj_R ic_P d) j Y OK lf pc lv (pj_es st) z a := by
  obtain ⟨a1, r1, e1, h⟩ := pj_pl_inv h
  obtain ⟨r0, e0, h⟩ := pj_pr_inv h
  obtain ⟨hs, h⟩ := pj_ps_inv h
  obtain ⟨q, hq, h⟩ := pj_b_inv h
  exact pm_cv (o := 96) hl hg [.long a1] rfl (by rw [e1, e0]; rfl) hs (by decide) ((hT.2 96 _ rfl).1.2 z 0 (by decide)) (pm_rI q.1) hd (pm_X8_sayByte hT a1 z.1 z.2.1 z.2.2.1 z.2.2.2 q hq) rfl (hK _ _ h)
abbrev px_X8_describe : pj_C (Int32 × pj_Z) := (pj_TC, (fun _ => none), (pj_as [(125, 65535)]), (pj_as [(104, 255), (106, 100), (111, 40), (113, 128), (115, 1000), (123, 4)]), (fun _ => none), ic_X, 3, 2, pj_mI, (pj_as [(93, ph_X8_sayByte), (108, ph_X8_sayByte), (129, ph_J9_floorDiv_f86c9), (133, ph_X8_sayByte), (155, ph_J9_floorDiv_f86c9), (159, ph_X8_sayByte), (170, ph_X8_sayByte), (188, ph_X11_clip), (192, ph_X8_sayTwo), (211, ph_X8_sayByte)]), fun _ => false)
abbrev pk_X8_describe : List (Nat × List (Nat × Instr × Nat)) := [(0, [(0, .aload_n 2, 1), (1, .arraylength, 1), (2, .bipush 8, 2), (4, .if_icmp .ge 5, 3)]), (7, [(7, .iconst 0, 1), (8, .ireturn, 1)]), (9, [(9, .iload_n 1, 1), (10, .tableswitch 207 4 17 #[70, 89, 104, 129, 207, 207, 207, 155, 166, 207, 207, 207, 207, 188], 70)]), (80, [(80, .aload_n 0, 1), (81, .aload_n 2, 1), (82, .iconst 2, 1), (83, .iaload, 1), (84, .i2l, 1), (85, .ldc2_w 104, 3), (88, .lmul, 1), (89, .ldc2_w 106, 3), (92, .ldiv, 1), (93, .invokevirtual 108, 3), (96, .pop, 1), (97, .iconst 1, 1), (98, .ireturn, 1)]), (99, [(99, .aload_n 0, 1), (100, .aload_n 2, 1), (101, .iconst 3, 1), (102, .iaload, 1), (103, .i2l, 1), (104, .ldc2_w 111, 3), (107, .ladd, 1), (108, .invokevirtual 108, 3), (111, .pop, 1), (112, .iconst 1, 1), (113, .ireturn, 1)]), (114, [(114, .aload_n 0, 1), (115, .ldc2_w 113, 3), (118, .aload_n 2, 1), (119, .iconst 5, 1), (120, .iaload, 1), (121, .i2l, 1), (122, .ldc2_w 113, 3), (125, .lmul, 1), (126, .ldc2_w 115, 3), (129, .invokestatic 117, 3), (132, .ladd, 1), (133, .invokevirtual 108, 3), (136, .pop, 1), (137, .iconst 1, 1), (138, .ireturn, 1)]), (139, [(139, .aload_n 0, 1), (140, .ldc2_w 113, 3), (143, .aload_n 2, 1), (144, .bipush 6, 2), (146, .iaload, 1), (147, .i2l, 1), (148, .ldc2_w 113, 3), (151, .lmul, 1), (152, .ldc2_w 115, 3), (155, .invokestatic 117, 3), (158, .ladd, 1), (159, .invokevirtual 108, 3), (162, .pop, 1), (163, .iconst 1, 1), (164, .ireturn, 1)]), (165, [(165, .aload_n 0, 1), (166, .aload_n 2, 1), (167, .iconst 2, 1), (168, .iaload, 1), (169, .i2l, 1), (170, .invokevirtual 108, 3), (173, .pop, 1), (174, .iconst 1, 1), (175, .ireturn, 1)]), (176, [(176, .aload_n 0, 1), (177, .aload_n 2, 1), (178, .iconst 1, 1), (179, .iaload, 1), (180, .i2l, 1), (181, .ldc2_w 123, 3), (184, .lmul, 1), (185, .iconst 0, 1), (186, .ldc 125, 2), (188, .invokestatic 82, 3), (191, .i2l, 1), (192, .invokevirtual 78, 3), (195, .pop, 1), (196, .iconst 1, 1), (197, .ireturn, 1)]), (198, [(198, .aload_n 0, 1), (199, .aload_n 2, 1), (200, .iconst 4, 1), (201, .iaload, 1), (202, .i2l, 1), (203, .ldc2_w 104, 3), (206, .lmul, 1), (207, .ldc2_w 115, 3), (210, .ldiv, 1), (211, .invokevirtual 108, 3), (214, .pop, 1), (215, .iconst 1, 1), (216, .ireturn, 1)]), (217, [(217, .iconst 0, 1), (218, .ireturn, 1)])]
set_option maxRecDepth 100000 in
theorem pq_X8_describe_m (a1 : Int32) (s : Nat → Int32) (l : Nat → Int64) (x : Nat → Int32) (y : Nat → Int64) : pf_X8_describe a1 s l x y = pj_bl px_X8_describe (pj_rn px_X8_describe (pj_as pk_X8_describe) (fun _ => none) 60) [(0, .aload_n 2, 1), (1, .arraylength, 1), (2, .bipush 8, 2), (4, .if_icmp .ge 5, 3)] 0 [(0, pj_O (96, 0)), (1, pj_I a1), (2, pj_O (101, 0))] [] (s, l, x, y) := rfl
set_option maxRecDepth 100000 in
theorem pz_X8_describe {lf : pj_Z → mj_M} (hT : pj_Lt pj_TC lf) : pj_Cok ic_P (mj_R ic_P 2) 8014 ie_X8_describe.1 (pm_OK lf pm_rI) lf px_X8_describe := by
  exact pm_cok (c := px_X8_describe) hT (fun _ _ h => by cases h) (pm_inI_ok (L := [(125, 65535)]) (f := mj_pK ic_P 8014) (by decide +kernel)) (pm_inL_ok (L := [(104, 255), (106, 100), (111, 40), (113, 128), (115, 1000), (123, 4)]) (f := mj_pL ic_P 8014) (by decide +kernel)) (fun _ _ h => by cases h) rfl rfl ⟨by decide, rfl⟩ pm_mI (pj_as_all (p := pm_Cl 2 8014 ie_X8_describe.1 lf (pm_OK lf pm_rI)) (List.forall_mem_cons.mpr ⟨fun _ _ lv st z K a hK h => pc_X8_sayByte hT (by decide) (ix := 108) rfl rfl hK h, (List.forall_mem_cons.mpr ⟨fun _ _ lv st z K a hK h => pc_X8_sayByte hT (by decide) (ix := 108) rfl rfl hK h, (List.forall_mem_cons.mpr ⟨fun _ _ lv st z K a hK h => pc_J9_floorDiv_f86c9 (pm_none hT) (by decide) (ix := 117) rfl rfl hK h, (List.forall_mem_cons.mpr ⟨fun _ _ lv st z K a hK h => pc_X8_sayByte hT (by decide) (ix := 108) rfl rfl hK h, (List.forall_mem_cons.mpr ⟨fun _ _ lv st z K a hK h => pc_J9_floorDiv_f86c9 (pm_none hT) (by decide) (ix := 117) rfl rfl hK h, (List.forall_mem_cons.mpr ⟨fun _ _ lv st z K a hK h => pc_X8_sayByte hT (by decide) (ix := 108) rfl rfl hK h, (List.forall_mem_cons.mpr ⟨fun _ _ lv st z K a hK h => pc_X8_sayByte hT (by decide) (ix := 108) rfl rfl hK h, (List.forall_mem_cons.mpr ⟨fun _ _ lv st z K a hK h => pc_X11_clip hT (by decide) (ix := 82) rfl rfl hK h, (List.forall_mem_cons.mpr ⟨fun _ _ lv st z K a hK h => pc_X8_sayTwo hT (by decide) (ix := 78) rfl rfl hK h, (List.forall_mem_cons.mpr ⟨fun _ _ lv st z K a hK h => pc_X8_sayByte hT (by decide) (ix := 108) rfl rfl hK h, (fun _ h => by cases h)⟩)⟩)⟩)⟩)⟩)⟩)⟩)⟩)⟩)⟩)) (fun _ h => by cases h)
set_option maxRecDepth 100000 in
theorem pb_X8_describe : pm_bks ie_X8_describe.1.2.2.2.2 pk_X8_describe = true := by decide +kernel
set_option maxRecDepth 100000 in
theorem pm_X8_describe {lf : pj_Z → mj_M} (hT : pj_Lt pj_TC lf) (a1 : Int32) (s : Nat → Int32) (l : Nat → Int64) (x : Nat → Int32) (y : Nat → Int64) (a : Int32 × pj_Z) (h : pf_X8_describe a1 s l x y = some a) : mj_R ic_P 3 8014 [.ref 96, .int a1, .ref 101] (lf (s, l, x, y)) (pm_rI a.1) (lf a.2) := by
  refine pm_main (Y := ie_X8_describe.1) rfl (Nat.le_of_ble_eq_true rfl) ?_
  exact pj_bl_ok (pz_X8_describe hT) (fun t lv st z hd h => pj_rn_ok (pz_X8_describe hT) (pm_bks_ok pb_X8_describe) (fun _ _ h => by cases h) 60 t lv st z hd h) [(0, .aload_n 2, 1), (1, .arraylength, 1), (2, .bipush 8, 2), (4, .if_icmp .ge 5, 3)] 0 [(0, pj_O (96, 0)), (1, pj_I a1), (2, pj_O (101, 0))] [] (s, l, x, y) (pm_bks_ok pb_X8_describe _ _ rfl) (pm_ndb_ok rfl) ((pq_X8_describe_m a1 s l x y).symm.trans h)
abbrev ph_X8_describe {A : Type} : List pj_V → pj_Z → (List pj_V → pj_Z → Option A) → Option A := fun st z K => pj_pr st 101 0 fun st => pj_pi st fun a1 st => pj_pr st 96 0 fun st => pj_ps st (pj_b (pf_X8_describe a1 z.1 z.2.1 z.2.2.1 z.2.2.2) fun r s l x y => K (pj_I r :: st) (s, l, x, y))
set_option maxRecDepth 100000 in
theorem pc_X8_describe {A : Type} {OK : A → Option Value → mj_M → Prop} {d j pc ix : Nat} {Y : mj_Y} {lf : pj_Z → mj_M} (hT : pj_Lt pj_TC lf) (hd : 3 ≤ d) (hl : mj_lk Y.2.2.2.2 pc = some (.invokevirtual ix, 3)) (hg : mj_pG ic_P j ix = some (8014, 2, some 8)) {lv : List (Nat × Value)} {st : List pj_V} {z : pj_Z} {K : List pj_V → pj_Z → Option A} {a : A} (hK : ∀ st z, K st z = some a → pj_Gd ic_P (mj_R ic_P d) j Y OK lf (pc + 3) lv (pj_es st) z a) (h : ph_X8_describe st z K = some a) : pj_Gd ic_P (mj_R ic_P d) j Y OK lf pc lv (pj_es st) z a := by
  obtain ⟨r2, e2, h⟩ := pj_pr_inv h
  obtain ⟨a1, r1, e1, h⟩ := pj_pi_inv h
  obtain ⟨r0, e0, h⟩ := pj_pr_inv h
  obtain ⟨hs, h⟩ := pj_ps_inv h
  obtain ⟨q, hq, h⟩ := pj_b_inv h
  exact pm_cv (o := 96) hl hg [.int a1, .ref 101] rfl (by rw [e2, e1, e0]; rfl) hs (by decide) ((hT.2 96 _ rfl).1.2 z 0 (by decide)) (pm_rI q.1) hd (pm_X8_describe hT a1 z.1 z.2.1 z.2.2.1 z.2.2.2 q hq) rfl (hK _ _ h)
abbrev px_X11_mixtureState : pj_C (Int32 × pj_Z) := (pj_TC, (pj_as [(19, 11, 1, 2, true), (26, 11, 2, 2, true), (47, 11, 5, 2, true), (127, 2, 0, 0, false), (406, 7, 10, 2, true), (631, 2, 18, 3, false), (761, 3, 13, 3, false)]), (fun _ => none), (fun _ => none), (fun _ => none), ic_X, 1, 1, pj_mI, (fun _ => none), fun _ => false)
abbrev pk_X11_mixtureState : List (Nat × List (Nat × Instr × Nat)) := [(0, [(0, .aload_n 0, 1), (1, .getfield 26, 3), (4, .getfield 127, 3), (7, .iconst 2, 1), (8, .if_icmp .ge 5, 3)]), (11, [(11, .iconst 0, 1), (12, .ireturn, 1)]), (13, [(13, .aload_n 0, 1), (14, .getfield 19, 3), (17, .getfield 406, 3), (20, .bipush 7, 2), (22, .baload, 1), (23, .ifCond .eq 8, 3)]), (26, [(26, .bipush 8, 2), (28, .goto 32, 3)]), (31, [(31, .aload_n 0, 1), (32, .getfield 26, 3), (35, .getfield 631, 3), (38, .ifCond .eq 7, 3)]), (41, [(41, .iconst 4, 1), (42, .goto 18, 3)]), (45, [(45, .aload_n 0, 1), (46, .getfield 47, 3), (49, .getfield 761, 3), (52, .ifCond .eq 7, 3)]), (55, [(55, .iconst 2, 1), (56, .goto 4, 3)]), (59, [(59, .iconst 1, 1)]), (60, [(60, .ireturn, 1)])]
set_option maxRecDepth 100000 in
theorem pq_X11_mixtureState_m  (s : Nat → Int32) (l : Nat → Int64) (x : Nat → Int32) (y : Nat → Int64) : pf_X11_mixtureState  s l x y = pj_bl px_X11_mixtureState (pj_rn px_X11_mixtureState (pj_as pk_X11_mixtureState) (fun _ => none) 60) [(0, .aload_n 0, 1), (1, .getfield 26, 3), (4, .getfield 127, 3), (7, .iconst 2, 1), (8, .if_icmp .ge 5, 3)] 0 [(0, pj_O (0, 0))] [] (s, l, x, y) := rfl
set_option maxRecDepth 100000 in
theorem pz_X11_mixtureState {lf : pj_Z → mj_M} (hT : pj_Lt pj_TC lf) : pj_Cok ic_P (mj_R ic_P 0) 11090 ie_X11_mixtureState.1 (pm_OK lf pm_rI) lf px_X11_mixtureState := by
  exact pm_cok (c := px_X11_mixtureState) hT (pm_in_ok (L := [(19, 11, 1, 2, true), (26, 11, 2, 2, true), (47, 11, 5, 2, true), (127, 2, 0, 0, false), (406, 7, 10, 2, true), (631, 2, 18, 3, false), (761, 3, 13, 3, false)]) (f := mj_pF ic_P 11090) (by decide +kernel)) (fun _ _ h => by cases h) (fun _ _ h => by cases h) (fun _ _ h => by cases h) rfl rfl ⟨by decide, rfl⟩ pm_mI (fun _ _ h => by cases h) (fun _ h => by cases h)
set_option maxRecDepth 100000 in
theorem pb_X11_mixtureState : pm_bks ie_X11_mixtureState.1.2.2.2.2 pk_X11_mixtureState = true := by decide +kernel
set_option maxRecDepth 100000 in
theorem pm_X11_mixtureState {lf : pj_Z → mj_M} (hT : pj_Lt pj_TC lf)  (s : Nat → Int32) (l : Nat → Int64) (x : Nat → Int32) (y : Nat → Int64) (a : Int32 × pj_Z) (h : pf_X11_mixtureState  s l x y = some a) : mj_R ic_P 1 11090 [.ref 0] (lf (s, l, x, y)) (pm_rI a.1) (lf a.2) := by
  refine pm_main (Y := ie_X11_mixtureState.1) rfl (Nat.le_of_ble_eq_true rfl) ?_
  exact pj_bl_ok (pz_X11_mixtureState hT) (fun t lv st z hd h => pj_rn_ok (pz_X11_mixtureState hT) (pm_bks_ok pb_X11_mixtureState) (fun _ _ h => by cases h) 60 t lv st z hd h) [(0, .aload_n 0, 1), (1, .getfield 26, 3), (4, .getfield 127, 3), (7, .iconst 2, 1), (8, .if_icmp .ge 5, 3)] 0 [(0, pj_O (0, 0))] [] (s, l, x, y) (pm_bks_ok pb_X11_mixtureState _ _ rfl) (pm_ndb_ok rfl) ((pq_X11_mixtureState_m  s l x y).symm.trans h)
abbrev ph_X11_mixtureState {A : Type} : List pj_V → pj_Z → (List pj_V → pj_Z → Option A) → Option A := fun st z K => pj_pr st 0 0 fun st => pj_ps st (pj_b (pf_X11_mixtureState  z.1 z.2.1 z.2.2.1 z.2.2.2) fun r s l x y => K (pj_I r :: st) (s, l, x, y))
set_option maxRecDepth 100000 in
theorem pc_X11_mixtureState {A : Type} {OK : A → Option Value → mj_M → Prop} {d j pc ix : Nat} {Y : mj_Y} {lf : pj_Z → mj_M} (hT : pj_Lt pj_TC lf) (hd : 1 ≤ d) (hl : mj_lk Y.2.2.2.2 pc = some (.invokevirtual ix, 3)) (hg : mj_pG ic_P j ix = some (11090, 0, some 11)) {lv : List (Nat × Value)} {st : List pj_V} {z : pj_Z} {K : List pj_V → pj_Z → Option A} {a : A} (hK : ∀ st z, K st z = some a → pj_Gd ic_P (mj_R ic_P d) j Y OK lf (pc + 3) lv (pj_es st) z a) (h : ph_X11_mixtureState st z K = some a) : pj_Gd ic_P (mj_R ic_P d) j Y OK lf pc lv (pj_es st) z a := by
  obtain ⟨r0, e0, h⟩ := pj_pr_inv h
  obtain ⟨hs, h⟩ := pj_ps_inv h
  obtain ⟨q, hq, h⟩ := pj_b_inv h
  exact pm_cv (o := 0) hl hg [] rfl (by rw [e0]; rfl) hs (by decide) ((hT.2 0 _ rfl).1.2 z 0 (by decide)) (pm_rI q.1) hd (pm_X11_mixtureState hT  z.1 z.2.1 z.2.2.1 z.2.2.2 q hq) rfl (hK _ _ h)

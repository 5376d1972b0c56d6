/-! METHODS 12, printed by gen_meth.py -/
abbrev pe_X11_tear_19 (f : pj_F (Int32 × pj_Z)) : pj_K (Int32 × pj_Z) := fun lv st z => pj_pe st (f  z.1 z.2.1 z.2.2.1 z.2.2.2)
abbrev px_X11_tear : pj_C (Int32 × pj_Z) := ((pj_as [(0, 11, 17, 1, 0, true, 0, [(2, 1), (2, 20), (2, 58), (2, 68), (2, 82), (2, 83), (2, 85), (2, 96), (2, 102), (2, 106), (2, 122), (0, 93), (0, 94), (0, 95), (1, 1), (1, 2), (0, 96)]), (1, 4, 10, 1, 0, true, 0, [(2, 2), (2, 3), (2, 8), (2, 11), (2, 14), (2, 17), (2, 18), (2, 19), (0, 44), (1, 3)]), (14, 103, 2, 1, 0, true, 15, []), (15, 100, 34, 2, 1, true, 14000, [])]), (pj_as [(10, 11, 0, 2, true), (90, 11, 12, 0, false), (299, 4, 4, 2, true)]), (fun _ => none), (fun _ => none), (fun _ => none), ic_X, 5, 1, pj_mI, (pj_as [(77, ph_X4_lookOver_v1)]), fun _ => false)
abbrev pk_X11_tear : List (Nat × List (Nat × Instr × Nat)) := [(0, [(0, .iload_n 1, 1), (1, .ifCond .lt 18, 3)]), (4, [(4, .iload_n 1, 1), (5, .iconst 1, 1), (6, .if_icmp .gt 13, 3)]), (9, [(9, .iload_n 2, 1), (10, .ifCond .lt 9, 3)]), (13, [(13, .iload_n 2, 1), (14, .bipush 34, 2), (16, .if_icmp .lt 14, 3)]), (19, [(19, .new 158, 3)]), (30, [(30, .aload_n 0, 1), (31, .getfield 90, 3), (34, .ifCond .eq 13, 3)]), (37, [(37, .new 189, 3)]), (47, [(47, .aload_n 0, 1), (48, .getfield 10, 3), (51, .getfield 299, 3), (54, .iload_n 1, 1), (55, .aaload, 1), (56, .iload_n 2, 1), (57, .iaload, 1), (58, .istore 4, 2), (60, .aload_n 0, 1), (61, .getfield 10, 3), (64, .getfield 299, 3), (67, .iload_n 1, 1), (68, .aaload, 1), (69, .iload_n 2, 1), (70, .iload_n 3, 1), (71, .iastore, 1), (72, .aload_n 0, 1), (73, .getfield 10, 3), (76, .iconst 1, 1), (77, .invokevirtual 295, 3), (80, .iload 4, 2), (82, .ireturn, 1)])]
set_option maxRecDepth 100000 in
theorem pq_X11_tear_19   (s : Nat → Int32) (l : Nat → Int64) (x : Nat → Int32) (y : Nat → Int64) : pl_X11_tear_19 s l x y = pj_bl px_X11_tear (pj_rn px_X11_tear (pj_as pk_X11_tear) (fun _ => none) 60) [(19, .new 158, 3)] 19 [] [] (s, l, x, y) := rfl
set_option maxRecDepth 100000 in
theorem pq_X11_tear_m  (a1 : Int32) (a2 : Int32) (a3 : Int32) (s : Nat → Int32) (l : Nat → Int64) (x : Nat → Int32) (y : Nat → Int64) : pf_X11_tear a1 a2 a3 s l x y = pj_bl px_X11_tear (pj_rn px_X11_tear (pj_as pk_X11_tear) (pj_as [(19, pe_X11_tear_19 (pl_X11_tear_19))]) 60) [(0, .iload_n 1, 1), (1, .ifCond .lt 18, 3)] 0 [(0, pj_O (0, 0)), (1, pj_I a1), (2, pj_I a2), (3, pj_I a3)] [] (s, l, x, y) := rfl
theorem pu_X11_tear_19 {lf : pj_Z → mj_M} {a : Int32 × pj_Z} (f : pj_F (Int32 × pj_Z)) (hf : ∀  (s : Nat → Int32) (l : Nat → Int64) (x : Nat → Int32) (y : Nat → Int64), f  s l x y = some a → pm_Gd 3 11025 ie_X11_tear.1 pm_rI lf 19 [] [] (s, l, x, y) a) : pm_Ex 3 11025 ie_X11_tear.1 pm_rI lf a 19 (pe_X11_tear_19 f) := by
  intro lv st z hd h
  obtain ⟨e9, h⟩ := pj_pe_inv h
  rw [e9]
  exact mj_wp_sub (mj_sub_nil hd) (hf  _ _ _ _ h)
set_option maxRecDepth 100000 in
theorem pz_X11_tear {lf : pj_Z → mj_M} (hT : pj_Lt pj_TC lf) : pj_Cok ic_P (mj_R ic_P 3) 11025 ie_X11_tear.1 (pm_OK lf pm_rI) lf px_X11_tear := by
  exact pm_cok (c := px_X11_tear) (pm_part hT (pj_as_all (p := fun b e => pj_TC b = some e) (List.forall_mem_cons.mpr ⟨rfl, (List.forall_mem_cons.mpr ⟨rfl, (List.forall_mem_cons.mpr ⟨rfl, (List.forall_mem_cons.mpr ⟨rfl, (fun _ h => by cases h)⟩)⟩)⟩)⟩))) (pm_in_ok (L := [(10, 11, 0, 2, true), (90, 11, 12, 0, false), (299, 4, 4, 2, true)]) (f := mj_pF ic_P 11025) (by decide +kernel)) (fun _ _ h => by cases h) (fun _ _ h => by cases h) (fun _ _ h => by cases h) rfl rfl ⟨by decide, rfl⟩ pm_mI (pj_as_all (p := pm_Cl 3 11025 ie_X11_tear.1 lf (pm_OK lf pm_rI)) (List.forall_mem_cons.mpr ⟨fun _ _ lv st z K a hK h => pc_X4_lookOver_v1 hT (by decide) (ix := 295) rfl rfl hK h, (fun _ h => by cases h)⟩)) (fun _ h => by cases h)
set_option maxRecDepth 100000 in
theorem pb_X11_tear : pm_bks ie_X11_tear.1.2.2.2.2 pk_X11_tear = true := by decide +kernel
set_option maxRecDepth 100000 in
theorem pg_X11_tear_19 {lf : pj_Z → mj_M} (hT : pj_Lt pj_TC lf) : ∀  (s : Nat → Int32) (l : Nat → Int64) (x : Nat → Int32) (y : Nat → Int64) (a : Int32 × pj_Z), pl_X11_tear_19 s l x y = some a → pm_Gd 3 11025 ie_X11_tear.1 pm_rI lf 19 [] [] (s, l, x, y) a := by
  intro  s l x y a h
  exact pm_run ((pq_X11_tear_19   s l x y).symm.trans h) (pz_X11_tear hT) (pm_bks_ok pb_X11_tear) (pm_bks_ok pb_X11_tear _ _ rfl) (pm_ndb_ok rfl) (fun _ _ h => by cases h)
set_option maxRecDepth 100000 in
theorem pm_X11_tear {lf : pj_Z → mj_M} (hT : pj_Lt pj_TC lf) (a1 : Int32) (a2 : Int32) (a3 : Int32) (s : Nat → Int32) (l : Nat → Int64) (x : Nat → Int32) (y : Nat → Int64) (a : Int32 × pj_Z) (h : pf_X11_tear a1 a2 a3 s l x y = some a) : mj_R ic_P 4 11025 [.ref 0, .int a1, .int a2, .int a3] (lf (s, l, x, y)) (pm_rI a.1) (lf a.2) := by
  refine pm_main (Y := ie_X11_tear.1) rfl (Nat.le_of_ble_eq_true rfl) ?_
  exact pm_run ((pq_X11_tear_m a1 a2 a3 s l x y).symm.trans h) (pz_X11_tear hT) (pm_bks_ok pb_X11_tear) (pm_bks_ok pb_X11_tear _ _ rfl) (pm_ndb_ok rfl) (pj_as_all (p := pm_Ex 3 11025 ie_X11_tear.1 pm_rI lf a) (List.forall_mem_cons.mpr ⟨pu_X11_tear_19 _ (fun  s l x y h => pg_X11_tear_19 hT  s l x y _ h), (fun _ h => by cases h)⟩))
abbrev ph_X11_tear {A : Type} : List pj_V → pj_Z → (List pj_V → pj_Z → Option A) → Option A := fun st z K => pj_pi st fun a3 st => pj_pi st fun a2 st => pj_pi st fun a1 st => pj_pr st 0 0 fun st => pj_ps st (pj_b (pf_X11_tear a1 a2 a3 z.1 z.2.1 z.2.2.1 z.2.2.2) fun r s l x y => K (pj_I r :: st) (s, l, x, y))
set_option maxRecDepth 100000 in
theorem pc_X11_tear {A : Type} {OK : A → Option Value → mj_M → Prop} {d j pc ix : Nat} {Y : mj_Y} {lf : pj_Z → mj_M} (hT : pj_Lt pj_TC lf) (hd : 4 ≤ d) (hl : mj_lk Y.2.2.2.2 pc = some (.invokevirtual ix, 3)) (hg : mj_pG ic_P j ix = some (11025, 3, some 11)) {lv : List (Nat × Value)} {st : List pj_V} {z : pj_Z} {K : List pj_V → pj_Z → Option A} {a : A} (hK : ∀ st z, K st z = some a → pj_Gd ic_P (mj_R ic_P d) j Y OK lf (pc + 3) lv (pj_es st) z a) (h : ph_X11_tear st z K = some a) : pj_Gd ic_P (mj_R ic_P d) j Y OK lf pc lv (pj_es st) z a := by
  obtain ⟨a3, r3, e3, h⟩ := pj_pi_inv h
  obtain ⟨a2, r2, e2, h⟩ := pj_pi_inv h
  obtain ⟨a1, r1, e1, h⟩ := pj_pi_inv h
  obtain ⟨r0, e0, h⟩ := pj_pr_inv h
  obtain ⟨hs, h⟩ := pj_ps_inv h
  obtain ⟨q, hq, h⟩ := pj_b_inv h
  exact pm_cv (o := 0) hl hg [.int a1, .int a2, .int a3] rfl (by rw [e3, e2, e1, e0]; rfl) hs (by decide) ((hT.2 0 _ rfl).1.2 z 0 (by decide)) (pm_rI q.1) hd (pm_X11_tear hT a1 a2 a3 z.1 z.2.1 z.2.2.1 z.2.2.2 q hq) rfl (hK _ _ h)
abbrev px_X11_lock : pj_C (Int32 × pj_Z) := ((pj_as [(0, 11, 17, 1, 0, true, 0, [(2, 1), (2, 20), (2, 58), (2, 68), (2, 82), (2, 83), (2, 85), (2, 96), (2, 102), (2, 106), (2, 122), (0, 93), (0, 94), (0, 95), (1, 1), (1, 2), (0, 96)]), (102, 1, 18, 1, 0, true, 0, [(2, 103), (2, 104), (2, 105), (1, 22), (0, 16), (0, 17), (0, 6), (0, 7), (0, 8), (0, 9), (0, 10), (1, 23), (0, 11), (0, 12), (0, 13), (0, 18), (0, 14), (0, 15)])]), (pj_as [(68, 11, 8, 2, true), (90, 11, 12, 0, false), (302, 1, 13, 0, false)]), (fun _ => none), (fun _ => none), (fun _ => none), ic_X, 3, 1, pj_mI, (fun _ => none), fun _ => false)
abbrev pk_X11_lock : List (Nat × List (Nat × Instr × Nat)) := [(0, [(0, .aload_n 0, 1), (1, .getfield 90, 3), (4, .ifCond .eq 13, 3)]), (7, [(7, .new 189, 3)]), (17, [(17, .aload_n 0, 1), (18, .getfield 68, 3), (21, .getfield 302, 3), (24, .istore_n 2, 1), (25, .aload_n 0, 1), (26, .getfield 68, 3), (29, .iload_n 1, 1), (30, .putfield 302, 3), (33, .iload_n 2, 1), (34, .ireturn, 1)])]
set_option maxRecDepth 100000 in
theorem pq_X11_lock_m  (a1 : Int32) (s : Nat → Int32) (l : Nat → Int64) (x : Nat → Int32) (y : Nat → Int64) : pf_X11_lock a1 s l x y = pj_bl px_X11_lock (pj_rn px_X11_lock (pj_as pk_X11_lock) (fun _ => none) 60) [(0, .aload_n 0, 1), (1, .getfield 90, 3), (4, .ifCond .eq 13, 3)] 0 [(0, pj_O (0, 0)), (1, pj_I a1)] [] (s, l, x, y) := rfl
set_option maxRecDepth 100000 in
theorem pz_X11_lock {lf : pj_Z → mj_M} (hT : pj_Lt pj_TC lf) : pj_Cok ic_P (mj_R ic_P 0) 11026 ie_X11_lock.1 (pm_OK lf pm_rI) lf px_X11_lock := by
  exact pm_cok (c := px_X11_lock) (pm_part hT (pj_as_all (p := fun b e => pj_TC b = some e) (List.forall_mem_cons.mpr ⟨rfl, (List.forall_mem_cons.mpr ⟨rfl, (fun _ h => by cases h)⟩)⟩))) (pm_in_ok (L := [(68, 11, 8, 2, true), (90, 11, 12, 0, false), (302, 1, 13, 0, false)]) (f := mj_pF ic_P 11026) (by decide +kernel)) (fun _ _ h => by cases h) (fun _ _ h => by cases h) (fun _ _ h => by cases h) rfl rfl ⟨by decide, rfl⟩ pm_mI (fun _ _ h => by cases h) (fun _ h => by cases h)
set_option maxRecDepth 100000 in
theorem pb_X11_lock : pm_bks ie_X11_lock.1.2.2.2.2 pk_X11_lock = true := by decide +kernel
set_option maxRecDepth 100000 in
theorem pm_X11_lock {lf : pj_Z → mj_M} (hT : pj_Lt pj_TC lf) (a1 : Int32) (s : Nat → Int32) (l : Nat → Int64) (x : Nat → Int32) (y : Nat → Int64) (a : Int32 × pj_Z) (h : pf_X11_lock a1 s l x y = some a) : mj_R ic_P 1 11026 [.ref 0, .int a1] (lf (s, l, x, y)) (pm_rI a.1) (lf a.2) := by
  refine pm_main (Y := ie_X11_lock.1) rfl (Nat.le_of_ble_eq_true rfl) ?_
  exact pm_run ((pq_X11_lock_m a1 s l x y).symm.trans h) (pz_X11_lock hT) (pm_bks_ok pb_X11_lock) (pm_bks_ok pb_X11_lock _ _ rfl) (pm_ndb_ok rfl) (fun _ _ h => by cases h)
abbrev ph_X11_lock {A : Type} : List pj_V → pj_Z → (List pj_V → pj_Z → Option A) → Option A := fun st z K => pj_pi st fun a1 st => pj_pr st 0 0 fun st => pj_ps st (pj_b (pf_X11_lock a1 z.1 z.2.1 z.2.2.1 z.2.2.2) fun r s l x y => K (pj_I r :: st) (s, l, x, y))
set_option maxRecDepth 100000 in
theorem pc_X11_lock {A : Type} {OK : A → Option Value → mj_M → Prop} {d j pc ix : Nat} {Y : mj_Y} {lf : pj_Z → mj_M} (hT : pj_Lt pj_TC lf) (hd : 1 ≤ d) (hl : mj_lk Y.2.2.2.2 pc = some (.invokevirtual ix, 3)) (hg : mj_pG ic_P j ix = some (11026, 1, some 11)) {lv : List (Nat × Value)} {st : List pj_V} {z : pj_Z} {K : List pj_V → pj_Z → Option A} {a : A} (hK : ∀ st z, K st z = some a → pj_Gd ic_P (mj_R ic_P d) j Y OK lf (pc + 3) lv (pj_es st) z a) (h : ph_X11_lock st z K = some a) : pj_Gd ic_P (mj_R ic_P d) j Y OK lf pc lv (pj_es st) z a := by
  obtain ⟨a1, r1, e1, h⟩ := pj_pi_inv h
  obtain ⟨r0, e0, h⟩ := pj_pr_inv h
  obtain ⟨hs, h⟩ := pj_ps_inv h
  obtain ⟨q, hq, h⟩ := pj_b_inv h
  exact pm_cv (o := 0) hl hg [.int a1] rfl (by rw [e1, e0]; rfl) hs (by decide) ((hT.2 0 _ rfl).1.2 z 0 (by decide)) (pm_rI q.1) hd (pm_X11_lock hT a1 z.1 z.2.1 z.2.2.1 z.2.2.2 q hq) rfl (hK _ _ h)
abbrev pe_X3_arm_15 (f : Int32 → pj_F (Unit × pj_Z)) : pj_K (Unit × pj_Z) := fun lv st z => pj_xr lv 0 83 0 <| pj_pi st fun b1 st => pj_pr st 83 0 fun st => pj_pe st (f b1 z.1 z.2.1 z.2.2.1 z.2.2.2)
abbrev px_X3_arm : pj_C (Unit × pj_Z) := ((pj_as [(83, 3, 20, 1, 0, true, 0, [(0, 29), (0, 30), (1, 14), (1, 15), (0, 31), (0, 32), (0, 33), (0, 34), (0, 35), (0, 36), (0, 37), (0, 38), (0, 39), (0, 40), (1, 16), (1, 17), (0, 41), (0, 42), (0, 43), (2, 84)])]), (pj_as [(29, 3, 4, 3, false), (32, 3, 5, 0, false), (35, 3, 6, 3, false), (38, 3, 7, 0, false), (41, 3, 8, 0, false), (44, 3, 9, 3, false)]), (fun _ => none), (fun _ => none), (fun _ => none), ic_X, 2, 0, pj_mU, (fun _ => none), fun _ => false)
abbrev pk_X3_arm : List (Nat × List (Nat × Instr × Nat)) := [(0, [(0, .aload_n 0, 1), (1, .iload_n 1, 1), (2, .putfield 29, 3), (5, .aload_n 0, 1), (6, .iload_n 1, 1), (7, .ifCond .eq 7, 3)]), (10, [(10, .iconst 1, 1), (11, .goto 4, 3)]), (14, [(14, .iconst 0, 1)]), (15, [(15, .putfield 32, 3), (18, .aload_n 0, 1), (19, .iconst 0, 1), (20, .putfield 35, 3), (23, .aload_n 0, 1), (24, .iconst 0, 1), (25, .putfield 38, 3), (28, .aload_n 0, 1), (29, .iconst 0, 1), (30, .putfield 41, 3), (33, .aload_n 0, 1), (34, .iconst 0, 1), (35, .putfield 44, 3), (38, .return_, 1)])]
set_option maxRecDepth 100000 in
theorem pq_X3_arm_15  (b1 : Int32) (s : Nat → Int32) (l : Nat → Int64) (x : Nat → Int32) (y : Nat → Int64) : pl_X3_arm_15 b1 s l x y = pj_bl px_X3_arm (pj_rn px_X3_arm (pj_as pk_X3_arm) (fun _ => none) 60) [(15, .putfield 32, 3), (18, .aload_n 0, 1), (19, .iconst 0, 1), (20, .putfield 35, 3), (23, .aload_n 0, 1), (24, .iconst 0, 1), (25, .putfield 38, 3), (28, .aload_n 0, 1), (29, .iconst 0, 1), (30, .putfield 41, 3), (33, .aload_n 0, 1), (34, .iconst 0, 1), (35, .putfield 44, 3), (38, .return_, 1)] 15 [(0, pj_O (83, 0))] [pj_I b1, pj_O (83, 0)] (s, l, x, y) := rfl
set_option maxRecDepth 100000 in
theorem pq_X3_arm_m  (a1 : Int32) (s : Nat → Int32) (l : Nat → Int64) (x : Nat → Int32) (y : Nat → Int64) : pf_X3_arm a1 s l x y = pj_bl px_X3_arm (pj_rn px_X3_arm (pj_as pk_X3_arm) (pj_as [(15, pe_X3_arm_15 (pl_X3_arm_15))]) 60) [(0, .aload_n 0, 1), (1, .iload_n 1, 1), (2, .putfield 29, 3), (5, .aload_n 0, 1), (6, .iload_n 1, 1), (7, .ifCond .eq 7, 3)] 0 [(0, pj_O (83, 0)), (1, pj_I a1)] [] (s, l, x, y) := rfl
theorem pu_X3_arm_15 {lf : pj_Z → mj_M} {a : Unit × pj_Z} (f : Int32 → pj_F (Unit × pj_Z)) (hf : ∀ (b1 : Int32) (s : Nat → Int32) (l : Nat → Int64) (x : Nat → Int32) (y : Nat → Int64), f b1 s l x y = some a → pm_Gd 0 3004 ie_X3_arm.1 pm_rU lf 15 [(0, .ref 83)] [.int b1, .ref 83] (s, l, x, y) a) : pm_Ex 0 3004 ie_X3_arm.1 pm_rU lf a 15 (pe_X3_arm_15 f) := by
  intro lv st z hd h
  obtain ⟨g0, h⟩ := pj_xr_inv h
  obtain ⟨b1, r1, e1, h⟩ := pj_pi_inv h
  obtain ⟨r0, e0, h⟩ := pj_pr_inv h
  obtain ⟨e9, h⟩ := pj_pe_inv h
  rw [e1, e0, e9]
  exact mj_wp_sub (mj_sub_cons g0 (mj_sub_nil hd)) (hf _ _ _ _ _ h)
set_option maxRecDepth 100000 in
theorem pz_X3_arm {lf : pj_Z → mj_M} (hT : pj_Lt pj_TC lf) : pj_Cok ic_P (mj_R ic_P 0) 3004 ie_X3_arm.1 (pm_OK lf pm_rU) lf px_X3_arm := by
  exact pm_cok (c := px_X3_arm) (pm_part hT (pj_as_all (p := fun b e => pj_TC b = some e) (List.forall_mem_cons.mpr ⟨rfl, (fun _ h => by cases h)⟩))) (pm_in_ok (L := [(29, 3, 4, 3, false), (32, 3, 5, 0, false), (35, 3, 6, 3, false), (38, 3, 7, 0, false), (41, 3, 8, 0, false), (44, 3, 9, 3, false)]) (f := mj_pF ic_P 3004) (by decide +kernel)) (fun _ _ h => by cases h) (fun _ _ h => by cases h) (fun _ _ h => by cases h) rfl rfl ⟨by decide, rfl⟩ pm_mU (fun _ _ h => by cases h) (fun _ h => by cases h)
set_option maxRecDepth 100000 in
theorem pb_X3_arm : pm_bks ie_X3_arm.1.2.2.2.2 pk_X3_arm = true := by decide +kernel
set_option maxRecDepth 100000 in
theorem pg_X3_arm_15 {lf : pj_Z → mj_M} (hT : pj_Lt pj_TC lf) : ∀ (b1 : Int32) (s : Nat → Int32) (l : Nat → Int64) (x : Nat → Int32) (y : Nat → Int64) (a : Unit × pj_Z), pl_X3_arm_15 b1 s l x y = some a → pm_Gd 0 3004 ie_X3_arm.1 pm_rU lf 15 [(0, .ref 83)] [.int b1, .ref 83] (s, l, x, y) a := by
  intro b1 s l x y a h
  exact pm_run ((pq_X3_arm_15  b1 s l x y).symm.trans h) (pz_X3_arm hT) (pm_bks_ok pb_X3_arm) (pm_bks_ok pb_X3_arm _ _ rfl) (pm_ndb_ok rfl) (fun _ _ h => by cases h)
set_option maxRecDepth 100000 in
theorem pm_X3_arm {lf : pj_Z → mj_M} (hT : pj_Lt pj_TC lf) (a1 : Int32) (s : Nat → Int32) (l : Nat → Int64) (x : Nat → Int32) (y : Nat → Int64) (a : Unit × pj_Z) (h : pf_X3_arm a1 s l x y = some a) : mj_R ic_P 1 3004 [.ref 83, .int a1] (lf (s, l, x, y)) (pm_rU a.1) (lf a.2) := by
  refine pm_main (Y := ie_X3_arm.1) rfl (Nat.le_of_ble_eq_true rfl) ?_
  exact pm_run ((pq_X3_arm_m a1 s l x y).symm.trans h) (pz_X3_arm hT) (pm_bks_ok pb_X3_arm) (pm_bks_ok pb_X3_arm _ _ rfl) (pm_ndb_ok rfl) (pj_as_all (p := pm_Ex 0 3004 ie_X3_arm.1 pm_rU lf a) (List.forall_mem_cons.mpr ⟨pu_X3_arm_15 _ (fun c0 s l x y h => pg_X3_arm_15 hT c0 s l x y _ h), (fun _ h => by cases h)⟩))
abbrev ph_X3_arm {A : Type} : List pj_V → pj_Z → (List pj_V → pj_Z → Option A) → Option A := fun st z K => pj_pi st fun a1 st => pj_pr st 83 0 fun st => pj_ps st (pj_b (pf_X3_arm a1 z.1 z.2.1 z.2.2.1 z.2.2.2) fun r s l x y => K st (s, l, x, y))
set_option maxRecDepth 100000 in
theorem pc_X3_arm {A : Type} {OK : A → Option Value → mj_M → Prop} {d j pc ix : Nat} {Y : mj_Y} {lf : pj_Z → mj_M} (hT : pj_Lt pj_TC lf) (hd : 1 ≤ d) (hl : mj_lk Y.2.2.2.2 pc = some (.invokevirtual ix, 3)) (hg : mj_pG ic_P j ix = some (3004, 1, some 3)) {lv : List (Nat × Value)} {st : List pj_V} {z : pj_Z} {K : List pj_V → pj_Z → Option A} {a : A} (hK : ∀ st z, K st z = some a → pj_Gd ic_P (mj_R ic_P d) j Y OK lf (pc + 3) lv (pj_es st) z a) (h : ph_X3_arm st z K = some a) : pj_Gd ic_P (mj_R ic_P d) j Y OK lf pc lv (pj_es st) z a := by
  obtain ⟨a1, r1, e1, h⟩ := pj_pi_inv h
  obtain ⟨r0, e0, h⟩ := pj_pr_inv h
  obtain ⟨hs, h⟩ := pj_ps_inv h
  obtain ⟨q, hq, h⟩ := pj_b_inv h
  exact pm_cv (o := 83) hl hg [.int a1] rfl (by rw [e1, e0]; rfl) hs (by decide) ((hT.2 83 _ rfl).1.2 z 0 (by decide)) (pm_rU q.1) hd (pm_X3_arm hT a1 z.1 z.2.1 z.2.2.1 z.2.2.2 q hq) rfl (hK _ _ h)
abbrev px_X11_watch : pj_C (Int32 × pj_Z) := ((pj_as [(0, 11, 17, 1, 0, true, 0, [(2, 1), (2, 20), (2, 58), (2, 68), (2, 82), (2, 83), (2, 85), (2, 96), (2, 102), (2, 106), (2, 122), (0, 93), (0, 94), (0, 95), (1, 1), (1, 2), (0, 96)]), (83, 3, 20, 1, 0, true, 0, [(0, 29), (0, 30), (1, 14), (1, 15), (0, 31), (0, 32), (0, 33), (0, 34), (0, 35), (0, 36), (0, 37), (0, 38), (0, 39), (0, 40), (1, 16), (1, 17), (0, 41), (0, 42), (0, 43), (2, 84)])]), (pj_as [(47, 11, 5, 2, true), (90, 11, 12, 0, false), (307, 3, 4, 3, false)]), (fun _ => none), (fun _ => none), (fun _ => none), ic_X, 3, 2, pj_mI, (pj_as [(32, ph_X3_arm)]), fun _ => false)
abbrev pk_X11_watch : List (Nat × List (Nat × Instr × Nat)) := [(0, [(0, .aload_n 0, 1), (1, .getfield 90, 3), (4, .iconst 1, 1), (5, .if_icmp .eq 14, 3)]), (8, [(8, .new 189, 3)]), (19, [(19, .aload_n 0, 1), (20, .getfield 47, 3), (23, .getfield 307, 3), (26, .istore_n 2, 1), (27, .aload_n 0, 1), (28, .getfield 47, 3), (31, .iload_n 1, 1), (32, .invokevirtual 309, 3), (35, .iload_n 2, 1), (36, .iload_n 1, 1), (37, .if_icmp .eq 7, 3)]), (40, [(40, .iconst 1, 1), (41, .goto 4, 3)]), (44, [(44, .iconst 0, 1)]), (45, [(45, .ireturn, 1)])]
set_option maxRecDepth 100000 in
theorem pq_X11_watch_m  (a1 : Int32) (s : Nat → Int32) (l : Nat → Int64) (x : Nat → Int32) (y : Nat → Int64) : pf_X11_watch a1 s l x y = pj_bl px_X11_watch (pj_rn px_X11_watch (pj_as pk_X11_watch) (fun _ => none) 60) [(0, .aload_n 0, 1), (1, .getfield 90, 3), (4, .iconst 1, 1), (5, .if_icmp .eq 14, 3)] 0 [(0, pj_O (0, 0)), (1, pj_I a1)] [] (s, l, x, y) := rfl
set_option maxRecDepth 100000 in
theorem pz_X11_watch {lf : pj_Z → mj_M} (hT : pj_Lt pj_TC lf) : pj_Cok ic_P (mj_R ic_P 1) 11027 ie_X11_watch.1 (pm_OK lf pm_rI) lf px_X11_watch := by
  exact pm_cok (c := px_X11_watch) (pm_part hT (pj_as_all (p := fun b e => pj_TC b = some e) (List.forall_mem_cons.mpr ⟨rfl, (List.forall_mem_cons.mpr ⟨rfl, (fun _ h => by cases h)⟩)⟩))) (pm_in_ok (L := [(47, 11, 5, 2, true), (90, 11, 12, 0, false), (307, 3, 4, 3, false)]) (f := mj_pF ic_P 11027) (by decide +kernel)) (fun _ _ h => by cases h) (fun _ _ h => by cases h) (fun _ _ h => by cases h) rfl rfl ⟨by decide, rfl⟩ pm_mI (pj_as_all (p := pm_Cl 1 11027 ie_X11_watch.1 lf (pm_OK lf pm_rI)) (List.forall_mem_cons.mpr ⟨fun _ _ lv st z K a hK h => pc_X3_arm hT (by decide) (ix := 309) rfl rfl hK h, (fun _ h => by cases h)⟩)) (fun _ h => by cases h)
set_option maxRecDepth 100000 in
theorem pb_X11_watch : pm_bks ie_X11_watch.1.2.2.2.2 pk_X11_watch = true := by decide +kernel
set_option maxRecDepth 100000 in
theorem pm_X11_watch {lf : pj_Z → mj_M} (hT : pj_Lt pj_TC lf) (a1 : Int32) (s : Nat → Int32) (l : Nat → Int64) (x : Nat → Int32) (y : Nat → Int64) (a : Int32 × pj_Z) (h : pf_X11_watch a1 s l x y = some a) : mj_R ic_P 2 11027 [.ref 0, .int a1] (lf (s, l, x, y)) (pm_rI a.1) (lf a.2) := by
  refine pm_main (Y := ie_X11_watch.1) rfl (Nat.le_of_ble_eq_true rfl) ?_
  exact pm_run ((pq_X11_watch_m a1 s l x y).symm.trans h) (pz_X11_watch hT) (pm_bks_ok pb_X11_watch) (pm_bks_ok pb_X11_watch _ _ rfl) (pm_ndb_ok rfl) (fun _ _ h => by cases h)
abbrev ph_X11_watch {A : Type} : List pj_V → pj_Z → (List pj_V → pj_Z → Option A) → Option A := fun st z K => pj_pi st fun a1 st => pj_pr st 0 0 fun st => pj_ps st (pj_b (pf_X11_watch a1 z.1 z.2.1 z.2.2.1 z.2.2.2) fun r s l x y => K (pj_I r :: st) (s, l, x, y))
set_option maxRecDepth 100000 in
theorem pc_X11_watch {A : Type} {OK : A → Option Value → mj_M → Prop} {d j pc ix : Nat} {Y : mj_Y} {lf : pj_Z → mj_M} (hT : pj_Lt pj_TC lf) (hd : 2 ≤ d) (hl : mj_lk Y.2.2.2.2 pc = some (.invokevirtual ix, 3)) (hg : mj_pG ic_P j ix = some (11027, 1, some 11)) {lv : List (Nat × Value)} {st : List pj_V} {z : pj_Z} {K : List pj_V → pj_Z → Option A} {a : A} (hK : ∀ st z, K st z = some a → pj_Gd ic_P (mj_R ic_P d) j Y OK lf (pc + 3) lv (pj_es st) z a) (h : ph_X11_watch st z K = some a) : pj_Gd ic_P (mj_R ic_P d) j Y OK lf pc lv (pj_es st) z a := by
  obtain ⟨a1, r1, e1, h⟩ := pj_pi_inv h
  obtain ⟨r0, e0, h⟩ := pj_pr_inv h
  obtain ⟨hs, h⟩ := pj_ps_inv h
  obtain ⟨q, hq, h⟩ := pj_b_inv h
  exact pm_cv (o := 0) hl hg [.int a1] rfl (by rw [e1, e0]; rfl) hs (by decide) ((hT.2 0 _ rfl).1.2 z 0 (by decide)) (pm_rI q.1) hd (pm_X11_watch hT a1 z.1 z.2.1 z.2.2.1 z.2.2.2 q hq) rfl (hK _ _ h)
abbrev pe_X11_answer_55 (f : Int32 → pj_F (Int32 × pj_Z)) : pj_K (Int32 × pj_Z) := fun lv st z => pj_xr lv 0 0 0 <| pj_pi st fun b1 st => pj_pr st 83 0 fun st => pj_pe st (f b1 z.1 z.2.1 z.2.2.1 z.2.2.2)
abbrev px_X11_answer : pj_C (Int32 × pj_Z) := ((pj_as [(0, 11, 17, 1, 0, true, 0, [(2, 1), (2, 20), (2, 58), (2, 68), (2, 82), (2, 83), (2, 85), (2, 96), (2, 102), (2, 106), (2, 122), (0, 93), (0, 94), (0, 95), (1, 1), (1, 2), (0, 96)]), (83, 3, 20, 1, 0, true, 0, [(0, 29), (0, 30), (1, 14), (1, 15), (0, 31), (0, 32), (0, 33), (0, 34), (0, 35), (0, 36), (0, 37), (0, 38), (0, 39), (0, 40), (1, 16), (1, 17), (0, 41), (0, 42), (0, 43), (2, 84)])]), (pj_as [(47, 11, 5, 2, true), (307, 3, 4, 3, false), (315, 3, 5, 0, false), (318, 3, 6, 3, false)]), (fun _ => none), (fun _ => none), (fun _ => none), ic_X, 2, 2, pj_mI, (fun _ => none), fun _ => false)
abbrev pk_X11_answer : List (Nat × List (Nat × Instr × Nat)) := [(0, [(0, .aload_n 0, 1), (1, .getfield 47, 3), (4, .getfield 307, 3), (7, .ifCond .ne 14, 3)]), (10, [(10, .new 189, 3)]), (21, [(21, .aload_n 0, 1), (22, .getfield 47, 3), (25, .iload_n 1, 1), (26, .aload_n 0, 1), (27, .getfield 47, 3), (30, .getfield 315, 3), (33, .aload_n 0, 1), (34, .getfield 47, 3), (37, .getfield 315, 3), (40, .imul, 1), (41, .bipush 7, 2), (43, .iadd, 1), (44, .bipush 16, 2), (46, .irem, 1), (47, .if_icmp .ne 7, 3)]), (50, [(50, .iconst 1, 1), (51, .goto 4, 3)]), (54, [(54, .iconst 0, 1)]), (55, [(55, .putfield 318, 3), (58, .aload_n 0, 1), (59, .getfield 47, 3), (62, .getfield 318, 3), (65, .ireturn, 1)])]
set_option maxRecDepth 100000 in
theorem pq_X11_answer_55  (b1 : Int32) (s : Nat → Int32) (l : Nat → Int64) (x : Nat → Int32) (y : Nat → Int64) : pl_X11_answer_55 b1 s l x y = pj_bl px_X11_answer (pj_rn px_X11_answer (pj_as pk_X11_answer) (fun _ => none) 60) [(55, .putfield 318, 3), (58, .aload_n 0, 1), (59, .getfield 47, 3), (62, .getfield 318, 3), (65, .ireturn, 1)] 55 [(0, pj_O (0, 0))] [pj_I b1, pj_O (83, 0)] (s, l, x, y) := rfl
set_option maxRecDepth 100000 in
theorem pq_X11_answer_m  (a1 : Int32) (s : Nat → Int32) (l : Nat → Int64) (x : Nat → Int32) (y : Nat → Int64) : pf_X11_answer a1 s l x y = pj_bl px_X11_answer (pj_rn px_X11_answer (pj_as pk_X11_answer) (pj_as [(55, pe_X11_answer_55 (pl_X11_answer_55))]) 60) [(0, .aload_n 0, 1), (1, .getfield 47, 3), (4, .getfield 307, 3), (7, .ifCond .ne 14, 3)] 0 [(0, pj_O (0, 0)), (1, pj_I a1)] [] (s, l, x, y) := rfl
theorem pu_X11_answer_55 {lf : pj_Z → mj_M} {a : Int32 × pj_Z} (f : Int32 → pj_F (Int32 × pj_Z)) (hf : ∀ (b1 : Int32) (s : Nat → Int32) (l : Nat → Int64) (x : Nat → Int32) (y : Nat → Int64), f b1 s l x y = some a → pm_Gd 0 11028 ie_X11_answer.1 pm_rI lf 55 [(0, .ref 0)] [.int b1, .ref 83] (s, l, x, y) a) : pm_Ex 0 11028 ie_X11_answer.1 pm_rI lf a 55 (pe_X11_answer_55 f) := by
  intro lv st z hd h
  obtain ⟨g0, h⟩ := pj_xr_inv h
  obtain ⟨b1, r1, e1, h⟩ := pj_pi_inv h
  obtain ⟨r0, e0, h⟩ := pj_pr_inv h
  obtain ⟨e9, h⟩ := pj_pe_inv h
  rw [e1, e0, e9]
  exact mj_wp_sub (mj_sub_cons g0 (mj_sub_nil hd)) (hf _ _ _ _ _ h)
set_option maxRecDepth 100000 in
theorem pz_X11_answer {lf : pj_Z → mj_M} (hT : pj_Lt pj_TC lf) : pj_Cok ic_P (mj_R ic_P 0) 11028 ie_X11_answer.1 (pm_OK lf pm_rI) lf px_X11_answer := by
  exact pm_cok (c := px_X11_answer) (pm_part hT (pj_as_all (p := fun b e => pj_TC b = some e) (List.forall_mem_cons.mpr ⟨rfl, (List.forall_mem_cons.mpr ⟨rfl, (fun _ h => by cases h)⟩)⟩))) (pm_in_ok (L := [(47, 11, 5, 2, true), (307, 3, 4, 3, false), (315, 3, 5, 0, false), (318, 3, 6, 3, false)]) (f := mj_pF ic_P 11028) (by decide +kernel)) (fun _ _ h => by cases h) (fun _ _ h => by cases h) (fun _ _ h => by cases h) rfl rfl ⟨by decide, rfl⟩ pm_mI (fun _ _ h => by cases h) (fun _ h => by cases h)
set_option maxRecDepth 100000 in
theorem pb_X11_answer : pm_bks ie_X11_answer.1.2.2.2.2 pk_X11_answer = true := by decide +kernel
set_option maxRecDepth 100000 in
theorem pg_X11_answer_55 {lf : pj_Z → mj_M} (hT : pj_Lt pj_TC lf) : ∀ (b1 : Int32) (s : Nat → Int32) (l : Nat → Int64) (x : Nat → Int32) (y : Nat → Int64) (a : Int32 × pj_Z), pl_X11_answer_55 b1 s l x y = some a → pm_Gd 0 11028 ie_X11_answer.1 pm_rI lf 55 [(0, .ref 0)] [.int b1, .ref 83] (s, l, x, y) a := by
  intro b1 s l x y a h
  exact pm_run ((pq_X11_answer_55  b1 s l x y).symm.trans h) (pz_X11_answer hT) (pm_bks_ok pb_X11_answer) (pm_bks_ok pb_X11_answer _ _ rfl) (pm_ndb_ok rfl) (fun _ _ h => by cases h)
set_option maxRecDepth 100000 in
theorem pm_X11_answer {lf : pj_Z → mj_M} (hT : pj_Lt pj_TC lf) (a1 : Int32) (s : Nat → Int32) (l : Nat → Int64) (x : Nat → Int32) (y : Nat → Int64) (a : Int32 × pj_Z) (h : pf_X11_answer a1 s l x y = some a) : mj_R ic_P 1 11028 [.ref 0, .int a1] (lf (s, l, x, y)) (pm_rI a.1) (lf a.2) := by
  refine pm_main (Y := ie_X11_answer.1) rfl (Nat.le_of_ble_eq_true rfl) ?_
  exact pm_run ((pq_X11_answer_m a1 s l x y).symm.trans h) (pz_X11_answer hT) (pm_bks_ok pb_X11_answer) (pm_bks_ok pb_X11_answer _ _ rfl) (pm_ndb_ok rfl) (pj_as_all (p := pm_Ex 0 11028 ie_X11_answer.1 pm_rI lf a) (List.forall_mem_cons.mpr ⟨pu_X11_answer_55 _ (fun c0 s l x y h => pg_X11_answer_55 hT c0 s l x y _ h), (fun _ h => by cases h)⟩))
abbrev ph_X11_answer {A : Type} : List pj_V → pj_Z → (List pj_V → pj_Z → Option A) → Option A := fun st z K => pj_pi st fun a1 st => pj_pr st 0 0 fun st => pj_ps st (pj_b (pf_X11_answer a1 z.1 z.2.1 z.2.2.1 z.2.2.2) fun r s l x y => K (pj_I r :: st) (s, l, x, y))
set_option maxRecDepth 100000 in
theorem pc_X11_answer {A : Type} {OK : A → Option Value → mj_M → Prop} {d j pc ix : Nat} {Y : mj_Y} {lf : pj_Z → mj_M} (hT : pj_Lt pj_TC lf) (hd : 1 ≤ d) (hl : mj_lk Y.2.2.2.2 pc = some (.invokevirtual ix, 3)) (hg : mj_pG ic_P j ix = some (11028, 1, some 11)) {lv : List (Nat × Value)} {st : List pj_V} {z : pj_Z} {K : List pj_V → pj_Z → Option A} {a : A} (hK : ∀ st z, K st z = some a → pj_Gd ic_P (mj_R ic_P d) j Y OK lf (pc + 3) lv (pj_es st) z a) (h : ph_X11_answer st z K = some a) : pj_Gd ic_P (mj_R ic_P d) j Y OK lf pc lv (pj_es st) z a := by
  obtain ⟨a1, r1, e1, h⟩ := pj_pi_inv h
  obtain ⟨r0, e0, h⟩ := pj_pr_inv h
  obtain ⟨hs, h⟩ := pj_ps_inv h
  obtain ⟨q, hq, h⟩ := pj_b_inv h
  exact pm_cv (o := 0) hl hg [.int a1] rfl (by rw [e1, e0]; rfl) hs (by decide) ((hT.2 0 _ rfl).1.2 z 0 (by decide)) (pm_rI q.1) hd (pm_X11_answer hT a1 z.1 z.2.1 z.2.2.1 z.2.2.2 q hq) rfl (hK _ _ h)
abbrev pe_X8_take_18 (f : Int32 → Int64 → pj_F (Int32 × pj_Z)) : pj_K (Int32 × pj_Z) := fun lv st z => pj_xr lv 0 96 0 <| pj_xi lv 1 fun a1 => pj_xl lv 2 fun a2 => pj_pe st (f a1 a2 z.1 z.2.1 z.2.2.1 z.2.2.2)
abbrev pe_X8_take_44 (f : pj_F (Int32 × pj_Z)) : pj_K (Int32 × pj_Z) := fun lv st z => pj_xr lv 0 96 0 <| pj_pe st (f  z.1 z.2.1 z.2.2.1 z.2.2.2)
abbrev pe_X8_take_56 (f : Int32 → pj_F (Int32 × pj_Z)) : pj_K (Int32 × pj_Z) := fun lv st z => pj_xr lv 0 96 0 <| pj_xi lv 1 fun a1 => pj_pe st (f a1 z.1 z.2.1 z.2.2.1 z.2.2.2)
abbrev pe_X8_take_78 (f : pj_F (Int32 × pj_Z)) : pj_K (Int32 × pj_Z) := fun lv st z => pj_xr lv 0 96 0 <| pj_pe st (f  z.1 z.2.1 z.2.2.1 z.2.2.2)
abbrev pe_X8_take_88 (f : pj_F (Int32 × pj_Z)) : pj_K (Int32 × pj_Z) := fun lv st z => pj_xr lv 0 96 0 <| pj_pe st (f  z.1 z.2.1 z.2.2.1 z.2.2.2)
abbrev px_X8_take : pj_C (Int32 × pj_Z) := ((pj_as [(96, 8, 18, 1, 0, true, 0, [(2, 97), (0, 62), (1, 18), (0, 63), (0, 64), (0, 65), (0, 66), (1, 19), (0, 67), (0, 68), (2, 98), (0, 69), (2, 99), (1, 20), (0, 70), (1, 21), (2, 100), (2, 101)]), (97, 100, 67, 1, 0, true, 37000, [])]), (pj_as [(9, 8, 0, 2, true), (31, 8, 1, 0, false), (34, 8, 2, 1, false), (48, 8, 6, 0, false)]), (fun _ => none), (pj_as [(69, 20000)]), (fun _ => none), ic_X, 4, 2, pj_mI, (fun _ => none), fun _ => false)
abbrev pk_X8_take : List (Nat × List (Nat × Instr × Nat)) := [(0, [(0, .lload_n 2, 1), (1, .aload_n 0, 1), (2, .getfield 34, 3), (5, .lsub, 1), (6, .ldc2_w 69, 3), (9, .lcmp, 1), (10, .ifCond .le 8, 3)]), (13, [(13, .aload_n 0, 1), (14, .iconst 0, 1), (15, .putfield 31, 3)]), (18, [(18, .aload_n 0, 1), (19, .lload_n 2, 1), (20, .putfield 34, 3), (23, .aload_n 0, 1), (24, .getfield 31, 3), (27, .ifCond .ne 29, 3)]), (30, [(30, .iload_n 1, 1), (31, .sipush 128, 3), (34, .if_icmp .lt 10, 3)]), (37, [(37, .iload_n 1, 1), (38, .bipush 63, 2), (40, .iand, 1), (41, .ifCond .ne 15, 3)]), (44, [(44, .aload_n 0, 1), (45, .dup, 1), (46, .getfield 48, 3), (49, .iconst 1, 1), (50, .iadd, 1), (51, .putfield 48, 3), (54, .iconst 0, 1), (55, .ireturn, 1)]), (56, [(56, .aload_n 0, 1), (57, .getfield 31, 3), (60, .aload_n 0, 1), (61, .getfield 9, 3), (64, .arraylength, 1), (65, .if_icmp .ge 23, 3)]), (68, [(68, .aload_n 0, 1), (69, .getfield 9, 3), (72, .aload_n 0, 1), (73, .getfield 31, 3), (76, .iload_n 1, 1), (77, .iastore, 1)]), (78, [(78, .aload_n 0, 1), (79, .dup, 1), (80, .getfield 31, 3), (83, .iconst 1, 1), (84, .iadd, 1), (85, .putfield 31, 3)]), (88, [(88, .aload_n 0, 1), (89, .getfield 31, 3), (92, .aload_n 0, 1), (93, .getfield 9, 3), (96, .iconst 0, 1), (97, .iaload, 1), (98, .bipush 63, 2), (100, .iand, 1), (101, .iconst 4, 1), (102, .iadd, 1), (103, .if_icmp .lt 7, 3)]), (106, [(106, .iconst 1, 1), (107, .goto 4, 3)]), (110, [(110, .iconst 0, 1)]), (111, [(111, .ireturn, 1)])]
set_option maxRecDepth 100000 in
theorem pq_X8_take_44   (s : Nat → Int32) (l : Nat → Int64) (x : Nat → Int32) (y : Nat → Int64) : pl_X8_take_44 s l x y = pj_bl px_X8_take (pj_rn px_X8_take (pj_as pk_X8_take) (fun _ => none) 60) [(44, .aload_n 0, 1), (45, .dup, 1), (46, .getfield 48, 3), (49, .iconst 1, 1), (50, .iadd, 1), (51, .putfield 48, 3), (54, .iconst 0, 1), (55, .ireturn, 1)] 44 [(0, pj_O (96, 0))] [] (s, l, x, y) := rfl
set_option maxRecDepth 100000 in
theorem pq_X8_take_88   (s : Nat → Int32) (l : Nat → Int64) (x : Nat → Int32) (y : Nat → Int64) : pl_X8_take_88 s l x y = pj_bl px_X8_take (pj_rn px_X8_take (pj_as pk_X8_take) (fun _ => none) 60) [(88, .aload_n 0, 1), (89, .getfield 31, 3), (92, .aload_n 0, 1), (93, .getfield 9, 3), (96, .iconst 0, 1), (97, .iaload, 1), (98, .bipush 63, 2), (100, .iand, 1), (101, .iconst 4, 1), (102, .iadd, 1), (103, .if_icmp .lt 7, 3)] 88 [(0, pj_O (96, 0))] [] (s, l, x, y) := rfl
set_option maxRecDepth 100000 in
theorem pq_X8_take_78   (s : Nat → Int32) (l : Nat → Int64) (x : Nat → Int32) (y : Nat → Int64) : pl_X8_take_78 s l x y = pj_bl px_X8_take (pj_rn px_X8_take (pj_as pk_X8_take) (pj_as [(88, pe_X8_take_88 (pl_X8_take_88))]) 60) [(78, .aload_n 0, 1), (79, .dup, 1), (80, .getfield 31, 3), (83, .iconst 1, 1), (84, .iadd, 1), (85, .putfield 31, 3)] 78 [(0, pj_O (96, 0))] [] (s, l, x, y) := rfl
set_option maxRecDepth 100000 in
theorem pq_X8_take_56  (a1 : Int32) (s : Nat → Int32) (l : Nat → Int64) (x : Nat → Int32) (y : Nat → Int64) : pl_X8_take_56 a1 s l x y = pj_bl px_X8_take (pj_rn px_X8_take (pj_as pk_X8_take) (pj_as [(78, pe_X8_take_78 (pl_X8_take_78)), (88, pe_X8_take_88 (pl_X8_take_88))]) 60) [(56, .aload_n 0, 1), (57, .getfield 31, 3), (60, .aload_n 0, 1), (61, .getfield 9, 3), (64, .arraylength, 1), (65, .if_icmp .ge 23, 3)] 56 [(0, pj_O (96, 0)), (1, pj_I a1)] [] (s, l, x, y) := rfl
set_option maxRecDepth 100000 in
theorem pq_X8_take_18  (a1 : Int32) (a2 : Int64) (s : Nat → Int32) (l : Nat → Int64) (x : Nat → Int32) (y : Nat → Int64) : pl_X8_take_18 a1 a2 s l x y = pj_bl px_X8_take (pj_rn px_X8_take (pj_as pk_X8_take) (pj_as [(44, pe_X8_take_44 (pl_X8_take_44)), (56, pe_X8_take_56 (pl_X8_take_56))]) 60) [(18, .aload_n 0, 1), (19, .lload_n 2, 1), (20, .putfield 34, 3), (23, .aload_n 0, 1), (24, .getfield 31, 3), (27, .ifCond .ne 29, 3)] 18 [(0, pj_O (96, 0)), (1, pj_I a1), (2, pj_L a2)] [] (s, l, x, y) := rfl
set_option maxRecDepth 100000 in
theorem pq_X8_take_m  (a1 : Int32) (a2 : Int64) (s : Nat → Int32) (l : Nat → Int64) (x : Nat → Int32) (y : Nat → Int64) : pf_X8_take a1 a2 s l x y = pj_bl px_X8_take (pj_rn px_X8_take (pj_as pk_X8_take) (pj_as [(18, pe_X8_take_18 (pl_X8_take_18))]) 60) [(0, .lload_n 2, 1), (1, .aload_n 0, 1), (2, .getfield 34, 3), (5, .lsub, 1), (6, .ldc2_w 69, 3), (9, .lcmp, 1), (10, .ifCond .le 8, 3)] 0 [(0, pj_O (96, 0)), (1, pj_I a1), (2, pj_L a2)] [] (s, l, x, y) := rfl
theorem pu_X8_take_18 {lf : pj_Z → mj_M} {a : Int32 × pj_Z} (f : Int32 → Int64 → pj_F (Int32 × pj_Z)) (hf : ∀ (a1 : Int32) (a2 : Int64) (s : Nat → Int32) (l : Nat → Int64) (x : Nat → Int32) (y : Nat → Int64), f a1 a2 s l x y = some a → pm_Gd 0 8005 ie_X8_take.1 pm_rI lf 18 [(0, .ref 96), (1, .int a1), (2, .long a2)] [] (s, l, x, y) a) : pm_Ex 0 8005 ie_X8_take.1 pm_rI lf a 18 (pe_X8_take_18 f) := by
  intro lv st z hd h
  obtain ⟨g0, h⟩ := pj_xr_inv h
  obtain ⟨a1, g1, h⟩ := pj_xi_inv h
  obtain ⟨a2, g2, h⟩ := pj_xl_inv h
  obtain ⟨e9, h⟩ := pj_pe_inv h
  rw [e9]
  exact mj_wp_sub (mj_sub_cons g0 (mj_sub_cons g1 (mj_sub_cons g2 (mj_sub_nil hd)))) (hf _ _ _ _ _ _ h)
theorem pu_X8_take_44 {lf : pj_Z → mj_M} {a : Int32 × pj_Z} (f : pj_F (Int32 × pj_Z)) (hf : ∀  (s : Nat → Int32) (l : Nat → Int64) (x : Nat → Int32) (y : Nat → Int64), f  s l x y = some a → pm_Gd 0 8005 ie_X8_take.1 pm_rI lf 44 [(0, .ref 96)] [] (s, l, x, y) a) : pm_Ex 0 8005 ie_X8_take.1 pm_rI lf a 44 (pe_X8_take_44 f) := by
  intro lv st z hd h
  obtain ⟨g0, h⟩ := pj_xr_inv h
  obtain ⟨e9, h⟩ := pj_pe_inv h
  rw [e9]
  exact mj_wp_sub (mj_sub_cons g0 (mj_sub_nil hd)) (hf  _ _ _ _ h)
theorem pu_X8_take_56 {lf : pj_Z → mj_M} {a : Int32 × pj_Z} (f : Int32 → pj_F (Int32 × pj_Z)) (hf : ∀ (a1 : Int32) (s : Nat → Int32) (l : Nat → Int64) (x : Nat → Int32) (y : Nat → Int64), f a1 s l x y = some a → pm_Gd 0 8005 ie_X8_take.1 pm_rI lf 56 [(0, .ref 96), (1, .int a1)] [] (s, l, x, y) a) : pm_Ex 0 8005 ie_X8_take.1 pm_rI lf a 56 (pe_X8_take_56 f) := by
  intro lv st z hd h
  obtain ⟨g0, h⟩ := pj_xr_inv h
  obtain ⟨a1, g1, h⟩ := pj_xi_inv h
  obtain ⟨e9, h⟩ := pj_pe_inv h
  rw [e9]
  exact mj_wp_sub (mj_sub_cons g0 (mj_sub_cons g1 (mj_sub_nil hd))) (hf _ _ _ _ _ h)
theorem pu_X8_take_78 {lf : pj_Z → mj_M} {a : Int32 × pj_Z} (f : pj_F (Int32 × pj_Z)) (hf : ∀  (s : Nat → Int32) (l : Nat → Int64) (x : Nat → Int32) (y : Nat → Int64), f  s l x y = some a → pm_Gd 0 8005 ie_X8_take.1 pm_rI lf 78 [(0, .ref 96)] [] (s, l, x, y) a) : pm_Ex 0 8005 ie_X8_take.1 pm_rI lf a 78 (pe_X8_take_78 f) := by
  intro lv st z hd h
  obtain ⟨g0, h⟩ := pj_xr_inv h
  obtain ⟨e9, h⟩ := pj_pe_inv h
  rw [e9]
  exact mj_wp_sub (mj_sub_cons g0 (mj_sub_nil hd)) (hf  _ _ _ _ h)
theorem pu_X8_take_88 {lf : pj_Z → mj_M} {a : Int32 × pj_Z} (f : pj_F (Int32 × pj_Z)) (hf : ∀  (s : Nat → Int32) (l : Nat → Int64) (x : Nat → Int32) (y : Nat → Int64), f  s l x y = some a → pm_Gd 0 8005 ie_X8_take.1 pm_rI lf 88 [(0, .ref 96)] [] (s, l, x, y) a) : pm_Ex 0 8005 ie_X8_take.1 pm_rI lf a 88 (pe_X8_take_88 f) := by
  intro lv st z hd h
  obtain ⟨g0, h⟩ := pj_xr_inv h
  obtain ⟨e9, h⟩ := pj_pe_inv h
  rw [e9]
  exact mj_wp_sub (mj_sub_cons g0 (mj_sub_nil hd)) (hf  _ _ _ _ h)
set_option maxRecDepth 100000 in
theorem pz_X8_take {lf : pj_Z → mj_M} (hT : pj_Lt pj_TC lf) : pj_Cok ic_P (mj_R ic_P 0) 8005 ie_X8_take.1 (pm_OK lf pm_rI) lf px_X8_take := by
  exact pm_cok (c := px_X8_take) (pm_part hT (pj_as_all (p := fun b e => pj_TC b = some e) (List.forall_mem_cons.mpr ⟨rfl, (List.forall_mem_cons.mpr ⟨rfl, (fun _ h => by cases h)⟩)⟩))) (pm_in_ok (L := [(9, 8, 0, 2, true), (31, 8, 1, 0, false), (34, 8, 2, 1, false), (48, 8, 6, 0, false)]) (f := mj_pF ic_P 8005) (by decide +kernel)) (fun _ _ h => by cases h) (pm_inL_ok (L := [(69, 20000)]) (f := mj_pL ic_P 8005) (by decide +kernel)) (fun _ _ h => by cases h) rfl rfl ⟨by decide, rfl⟩ pm_mI (fun _ _ h => by cases h) (fun _ h => by cases h)
set_option maxRecDepth 100000 in
theorem pb_X8_take : pm_bks ie_X8_take.1.2.2.2.2 pk_X8_take = true := by decide +kernel
set_option maxRecDepth 100000 in
theorem pg_X8_take_44 {lf : pj_Z → mj_M} (hT : pj_Lt pj_TC lf) : ∀  (s : Nat → Int32) (l : Nat → Int64) (x : Nat → Int32) (y : Nat → Int64) (a : Int32 × pj_Z), pl_X8_take_44 s l x y = some a → pm_Gd 0 8005 ie_X8_take.1 pm_rI lf 44 [(0, .ref 96)] [] (s, l, x, y) a := by
  intro  s l x y a h
  exact pm_run ((pq_X8_take_44   s l x y).symm.trans h) (pz_X8_take hT) (pm_bks_ok pb_X8_take) (pm_bks_ok pb_X8_take _ _ rfl) (pm_ndb_ok rfl) (fun _ _ h => by cases h)
set_option maxRecDepth 100000 in
theorem pg_X8_take_88 {lf : pj_Z → mj_M} (hT : pj_Lt pj_TC lf) : ∀  (s : Nat → Int32) (l : Nat → Int64) (x : Nat → Int32) (y : Nat → Int64) (a : Int32 × pj_Z), pl_X8_take_88 s l x y = some a → pm_Gd 0 8005 ie_X8_take.1 pm_rI lf 88 [(0, .ref 96)] [] (s, l, x, y) a := by
  intro  s l x y a h
  exact pm_run ((pq_X8_take_88   s l x y).symm.trans h) (pz_X8_take hT) (pm_bks_ok pb_X8_take) (pm_bks_ok pb_X8_take _ _ rfl) (pm_ndb_ok rfl) (fun _ _ h => by cases h)
set_option maxRecDepth 100000 in
theorem pg_X8_take_78 {lf : pj_Z → mj_M} (hT : pj_Lt pj_TC lf) : ∀  (s : Nat → Int32) (l : Nat → Int64) (x : Nat → Int32) (y : Nat → Int64) (a : Int32 × pj_Z), pl_X8_take_78 s l x y = some a → pm_Gd 0 8005 ie_X8_take.1 pm_rI lf 78 [(0, .ref 96)] [] (s, l, x, y) a := by
  intro  s l x y a h
  exact pm_run ((pq_X8_take_78   s l x y).symm.trans h) (pz_X8_take hT) (pm_bks_ok pb_X8_take) (pm_bks_ok pb_X8_take _ _ rfl) (pm_ndb_ok rfl) (pj_as_all (p := pm_Ex 0 8005 ie_X8_take.1 pm_rI lf a) (List.forall_mem_cons.mpr ⟨pu_X8_take_88 _ (fun  s l x y h => pg_X8_take_88 hT  s l x y _ h), (fun _ h => by cases h)⟩))
set_option maxRecDepth 100000 in
theorem pg_X8_take_56 {lf : pj_Z → mj_M} (hT : pj_Lt pj_TC lf) : ∀ (a1 : Int32) (s : Nat → Int32) (l : Nat → Int64) (x : Nat → Int32) (y : Nat → Int64) (a : Int32 × pj_Z), pl_X8_take_56 a1 s l x y = some a → pm_Gd 0 8005 ie_X8_take.1 pm_rI lf 56 [(0, .ref 96), (1, .int a1)] [] (s, l, x, y) a := by
  intro a1 s l x y a h
  exact pm_run ((pq_X8_take_56  a1 s l x y).symm.trans h) (pz_X8_take hT) (pm_bks_ok pb_X8_take) (pm_bks_ok pb_X8_take _ _ rfl) (pm_ndb_ok rfl) (pj_as_all (p := pm_Ex 0 8005 ie_X8_take.1 pm_rI lf a) (List.forall_mem_cons.mpr ⟨pu_X8_take_78 _ (fun  s l x y h => pg_X8_take_78 hT  s l x y _ h), (List.forall_mem_cons.mpr ⟨pu_X8_take_88 _ (fun  s l x y h => pg_X8_take_88 hT  s l x y _ h), (fun _ h => by cases h)⟩)⟩))
set_option maxRecDepth 100000 in
theorem pg_X8_take_18 {lf : pj_Z → mj_M} (hT : pj_Lt pj_TC lf) : ∀ (a1 : Int32) (a2 : Int64) (s : Nat → Int32) (l : Nat → Int64) (x : Nat → Int32) (y : Nat → Int64) (a : Int32 × pj_Z), pl_X8_take_18 a1 a2 s l x y = some a → pm_Gd 0 8005 ie_X8_take.1 pm_rI lf 18 [(0, .ref 96), (1, .int a1), (2, .long a2)] [] (s, l, x, y) a := by
  intro a1 a2 s l x y a h
  exact pm_run ((pq_X8_take_18  a1 a2 s l x y).symm.trans h) (pz_X8_take hT) (pm_bks_ok pb_X8_take) (pm_bks_ok pb_X8_take _ _ rfl) (pm_ndb_ok rfl) (pj_as_all (p := pm_Ex 0 8005 ie_X8_take.1 pm_rI lf a) (List.forall_mem_cons.mpr ⟨pu_X8_take_44 _ (fun  s l x y h => pg_X8_take_44 hT  s l x y _ h), (List.forall_mem_cons.mpr ⟨pu_X8_take_56 _ (fun c0 s l x y h => pg_X8_take_56 hT c0 s l x y _ h), (fun _ h => by cases h)⟩)⟩))
set_option maxRecDepth 100000 in
theorem pm_X8_take {lf : pj_Z → mj_M} (hT : pj_Lt pj_TC lf) (a1 : Int32) (a2 : Int64) (s : Nat → Int32) (l : Nat → Int64) (x : Nat → Int32) (y : Nat → Int64) (a : Int32 × pj_Z) (h : pf_X8_take a1 a2 s l x y = some a) : mj_R ic_P 1 8005 [.ref 96, .int a1, .long a2] (lf (s, l, x, y)) (pm_rI a.1) (lf a.2) := by
  refine pm_main (Y := ie_X8_take.1) rfl (Nat.le_of_ble_eq_true rfl) ?_
  exact pm_run ((pq_X8_take_m a1 a2 s l x y).symm.trans h) (pz_X8_take hT) (pm_bks_ok pb_X8_take) (pm_bks_ok pb_X8_take _ _ rfl) (pm_ndb_ok rfl) (pj_as_all (p := pm_Ex 0 8005 ie_X8_take.1 pm_rI lf a) (List.forall_mem_cons.mpr ⟨pu_X8_take_18 _ (fun c0 c1 s l x y h => pg_X8_take_18 hT c0 c1 s l x y _ h), (fun _ h => by cases h)⟩))
abbrev ph_X8_take {A : Type} : List pj_V → pj_Z → (List pj_V → pj_Z → Option A) → Option A := fun st z K => pj_pl st fun a2 st => pj_pi st fun a1 st => pj_pr st 96 0 fun st => pj_ps st (pj_b (pf_X8_take a1 a2 z.1 z.2.1 z.2.2.1 z.2.2.2) fun r s l x y => K (pj_I r :: st) (s, l, x, y))
set_option maxRecDepth 100000 in
theorem pc_X8_take {A : Type} {OK : A → Option Value → mj_M → Prop} {d j pc ix : Nat} {Y : mj_Y} {lf : pj_Z → mj_M} (hT : pj_Lt pj_TC lf) (hd : 1 ≤ d) (hl : mj_lk Y.2.2.2.2 pc = some (.invokevirtual ix, 3)) (hg : mj_pG ic_P j ix = some (8005, 2, some 8)) {lv : List (Nat × Value)} {st : List pj_V} {z : pj_Z} {K : List pj_V → pj_Z → Option A} {a : A} (hK : ∀ st z, K st z = some a → pj_Gd ic_P (mj_R ic_P d) j Y OK lf (pc + 3) lv (pj_es st) z a) (h : ph_X8_take st z K = some a) : pj_Gd ic_P (mj_R ic_P d) j Y OK lf pc lv (pj_es st) z a := by
  obtain ⟨a2, r2, e2, h⟩ := pj_pl_inv h
  obtain ⟨a1, r1, e1, h⟩ := pj_pi_inv h
  obtain ⟨r0, e0, h⟩ := pj_pr_inv h
  obtain ⟨hs, h⟩ := pj_ps_inv h
  obtain ⟨q, hq, h⟩ := pj_b_inv h
  exact pm_cv (o := 96) hl hg [.int a1, .long a2] rfl (by rw [e2, e1, e0]; rfl) hs (by decide) ((hT.2 96 _ rfl).1.2 z 0 (by decide)) (pm_rI q.1) hd (pm_X8_take hT a1 a2 z.1 z.2.1 z.2.2.1 z.2.2.2 q hq) rfl (hK _ _ h)
abbrev pe_X8_hasRequest_16 (f : Int32 → Int32 → Int32 → pj_F (Int32 × pj_Z)) : pj_K (Int32 × pj_Z) := fun lv st z => pj_xr lv 0 96 0 <| pj_xi lv 1 fun a1 => pj_xi lv 2 fun a2 => pj_xi lv 3 fun a3 => pj_pe st (f a1 a2 a3 z.1 z.2.1 z.2.2.1 z.2.2.2)
abbrev pe_X8_hasRequest_45 (f : Int32 → Int32 → pj_F (Int32 × pj_Z)) : pj_K (Int32 × pj_Z) := fun lv st z => pj_xr lv 0 96 0 <| pj_xi lv 1 fun a1 => pj_xi lv 2 fun a2 => pj_pe st (f a1 a2 z.1 z.2.1 z.2.2.1 z.2.2.2)
abbrev pe_X8_hasRequest_72 (f : pj_F (Int32 × pj_Z)) : pj_K (Int32 × pj_Z) := fun lv st z => pj_xr lv 0 96 0 <| pj_pe st (f  z.1 z.2.1 z.2.2.1 z.2.2.2)
abbrev pe_X8_hasRequest_109 (f : Int32 → Int32 → pj_F (Int32 × pj_Z)) : pj_K (Int32 × pj_Z) := fun lv st z => pj_xr lv 0 96 0 <| pj_pi st fun b1 st => pj_pi st fun b0 st => pj_pe st (f b0 b1 z.1 z.2.1 z.2.2.1 z.2.2.2)
abbrev pe_X8_hasRequest_131 (f : pj_F (Int32 × pj_Z)) : pj_K (Int32 × pj_Z) := fun lv st z => pj_pe st (f  z.1 z.2.1 z.2.2.1 z.2.2.2)
abbrev px_X8_hasRequest : pj_C (Int32 × pj_Z) := ((pj_as [(96, 8, 18, 1, 0, true, 0, [(2, 97), (0, 62), (1, 18), (0, 63), (0, 64), (0, 65), (0, 66), (1, 19), (0, 67), (0, 68), (2, 98), (0, 69), (2, 99), (1, 20), (0, 70), (1, 21), (2, 100), (2, 101)]), (97, 100, 67, 1, 0, true, 37000, [])]), (pj_as [(9, 8, 0, 2, true), (31, 8, 1, 0, false), (38, 8, 3, 3, false), (48, 8, 6, 0, false)]), (fun _ => none), (fun _ => none), (fun _ => none), ic_X, 4, 2, pj_mI, (fun _ => none), fun _ => false)
abbrev pk_X8_hasRequest : List (Nat × List (Nat × Instr × Nat)) := [(0, [(0, .aload_n 0, 1), (1, .getfield 31, 3), (4, .iconst 1, 1), (5, .isub, 1), (6, .istore_n 1, 1), (7, .aload_n 0, 1), (8, .iconst 0, 1), (9, .putfield 31, 3), (12, .iconst 0, 1), (13, .istore_n 2, 1), (14, .iconst 0, 1), (15, .istore_n 3, 1)]), (16, [(16, .iload_n 3, 1), (17, .iload_n 1, 1), (18, .if_icmp .ge 27, 3)]), (21, [(21, .iload_n 3, 1), (22, .aload_n 0, 1), (23, .getfield 9, 3), (26, .arraylength, 1), (27, .if_icmp .ge 18, 3)]), (30, [(30, .iload_n 2, 1), (31, .aload_n 0, 1), (32, .getfield 9, 3), (35, .iload_n 3, 1), (36, .iaload, 1), (37, .iadd, 1), (38, .istore_n 2, 1), (39, .iinc 3 1, 3), (42, .goto (-26), 3)]), (45, [(45, .iload_n 1, 1), (46, .ifCond .lt 26, 3)]), (49, [(49, .iload_n 1, 1), (50, .aload_n 0, 1), (51, .getfield 9, 3), (54, .arraylength, 1), (55, .if_icmp .ge 17, 3)]), (58, [(58, .aload_n 0, 1), (59, .getfield 9, 3), (62, .iload_n 1, 1), (63, .iaload, 1), (64, .iload_n 2, 1), (65, .sipush 256, 3), (68, .irem, 1), (69, .if_icmp .eq 15, 3)]), (72, [(72, .aload_n 0, 1), (73, .dup, 1), (74, .getfield 48, 3), (77, .iconst 1, 1), (78, .iadd, 1), (79, .putfield 48, 3), (82, .iconst 0, 1), (83, .ireturn, 1)]), (84, [(84, .aload_n 0, 1), (85, .getfield 9, 3), (88, .iconst 1, 1), (89, .iaload, 1), (90, .aload_n 0, 1), (91, .getfield 9, 3), (94, .iconst 0, 1), (95, .iaload, 1), (96, .sipush 192, 3), (99, .if_icmp .ge 8, 3)]), (102, [(102, .bipush 17, 2), (104, .goto 5, 3)]), (107, [(107, .bipush 51, 2)]), (109, [(109, .if_icmp .ne 26, 3)]), (112, [(112, .aload_n 0, 1), (113, .getfield 38, 3), (116, .ifCond .ne 15, 3)]), (119, [(119, .aload_n 0, 1), (120, .getfield 9, 3), (123, .iconst 3, 1), (124, .iaload, 1), (125, .sipush 129, 3), (128, .if_icmp .ne 7, 3)]), (131, [(131, .iconst 1, 1), (132, .goto 4, 3)]), (135, [(135, .iconst 0, 1)]), (136, [(136, .ireturn, 1)])]
set_option maxRecDepth 100000 in
theorem pq_X8_hasRequest_72 (fu : Nat)   (s : Nat → Int32) (l : Nat → Int64) (x : Nat → Int32) (y : Nat → Int64) : pl_X8_hasRequest_72 fu s l x y = pj_bl px_X8_hasRequest (pj_rn px_X8_hasRequest (pj_as pk_X8_hasRequest) (fun _ => none) 60) [(72, .aload_n 0, 1), (73, .dup, 1), (74, .getfield 48, 3), (77, .iconst 1, 1), (78, .iadd, 1), (79, .putfield 48, 3), (82, .iconst 0, 1), (83, .ireturn, 1)] 72 [(0, pj_O (96, 0))] [] (s, l, x, y) := rfl
set_option maxRecDepth 100000 in
theorem pq_X8_hasRequest_131 (fu : Nat)   (s : Nat → Int32) (l : Nat → Int64) (x : Nat → Int32) (y : Nat → Int64) : pl_X8_hasRequest_131 fu s l x y = pj_bl px_X8_hasRequest (pj_rn px_X8_hasRequest (pj_as pk_X8_hasRequest) (fun _ => none) 60) [(131, .iconst 1, 1), (132, .goto 4, 3)] 131 [] [] (s, l, x, y) := rfl
set_option maxRecDepth 100000 in
theorem pq_X8_hasRequest_109 (fu : Nat)  (b0 : Int32) (b1 : Int32) (s : Nat → Int32) (l : Nat → Int64) (x : Nat → Int32) (y : Nat → Int64) : pl_X8_hasRequest_109 fu b0 b1 s l x y = pj_bl px_X8_hasRequest (pj_rn px_X8_hasRequest (pj_as pk_X8_hasRequest) (pj_as [(131, pe_X8_hasRequest_131 (pl_X8_hasRequest_131 fu))]) 60) [(109, .if_icmp .ne 26, 3)] 109 [(0, pj_O (96, 0))] [pj_I b1, pj_I b0] (s, l, x, y) := rfl
set_option maxRecDepth 100000 in
theorem pq_X8_hasRequest_45 (fu : Nat)  (a1 : Int32) (a2 : Int32) (s : Nat → Int32) (l : Nat → Int64) (x : Nat → Int32) (y : Nat → Int64) : pl_X8_hasRequest_45 fu a1 a2 s l x y = pj_bl px_X8_hasRequest (pj_rn px_X8_hasRequest (pj_as pk_X8_hasRequest) (pj_as [(72, pe_X8_hasRequest_72 (pl_X8_hasRequest_72 fu)), (109, pe_X8_hasRequest_109 (pl_X8_hasRequest_109 fu))]) 60) [(45, .iload_n 1, 1), (46, .ifCond .lt 26, 3)] 45 [(0, pj_O (96, 0)), (1, pj_I a1), (2, pj_I a2)] [] (s, l, x, y) := rfl
set_option maxRecDepth 100000 in
theorem pq_X8_hasRequest_16 (fu : Nat)  (n : Nat) (a1 : Int32) (a2 : Int32) (a3 : Int32) (s : Nat → Int32) (l : Nat → Int64) (x : Nat → Int32) (y : Nat → Int64) : pl_X8_hasRequest_16 fu (n + 1) a1 a2 a3 s l x y = pj_bl px_X8_hasRequest (pj_rn px_X8_hasRequest (pj_as pk_X8_hasRequest) (pj_as [(16, pe_X8_hasRequest_16 (pl_X8_hasRequest_16 fu n)), (45, pe_X8_hasRequest_45 (pl_X8_hasRequest_45 fu))]) 60) [(16, .iload_n 3, 1), (17, .iload_n 1, 1), (18, .if_icmp .ge 27, 3)] 16 [(0, pj_O (96, 0)), (1, pj_I a1), (2, pj_I a2), (3, pj_I a3)] [] (s, l, x, y) := rfl
set_option maxRecDepth 100000 in
theorem pq_X8_hasRequest_m (fu : Nat)   (s : Nat → Int32) (l : Nat → Int64) (x : Nat → Int32) (y : Nat → Int64) : po_X8_hasRequest fu  s l x y = pj_bl px_X8_hasRequest (pj_rn px_X8_hasRequest (pj_as pk_X8_hasRequest) (pj_as [(16, pe_X8_hasRequest_16 (pl_X8_hasRequest_16 fu fu))]) 60) [(0, .aload_n 0, 1), (1, .getfield 31, 3), (4, .iconst 1, 1), (5, .isub, 1), (6, .istore_n 1, 1), (7, .aload_n 0, 1), (8, .iconst 0, 1), (9, .putfield 31, 3), (12, .iconst 0, 1), (13, .istore_n 2, 1), (14, .iconst 0, 1), (15, .istore_n 3, 1)] 0 [(0, pj_O (96, 0))] [] (s, l, x, y) := rfl
theorem pu_X8_hasRequest_16 {lf : pj_Z → mj_M} {a : Int32 × pj_Z} (f : Int32 → Int32 → Int32 → pj_F (Int32 × pj_Z)) (hf : ∀ (a1 : Int32) (a2 : Int32) (a3 : Int32) (s : Nat → Int32) (l : Nat → Int64) (x : Nat → Int32) (y : Nat → Int64), f a1 a2 a3 s l x y = some a → pm_Gd 0 8006 ie_X8_hasRequest.1 pm_rI lf 16 [(0, .ref 96), (1, .int a1), (2, .int a2), (3, .int a3)] [] (s, l, x, y) a) : pm_Ex 0 8006 ie_X8_hasRequest.1 pm_rI lf a 16 (pe_X8_hasRequest_16 f) := by
  intro lv st z hd h
  obtain ⟨g0, h⟩ := pj_xr_inv h
  obtain ⟨a1, g1, h⟩ := pj_xi_inv h
  obtain ⟨a2, g2, h⟩ := pj_xi_inv h
  obtain ⟨a3, g3, h⟩ := pj_xi_inv h
  obtain ⟨e9, h⟩ := pj_pe_inv h
  rw [e9]
  exact mj_wp_sub (mj_sub_cons g0 (mj_sub_cons g1 (mj_sub_cons g2 (mj_sub_cons g3 (mj_sub_nil hd))))) (hf _ _ _ _ _ _ _ h)
theorem pu_X8_hasRequest_45 {lf : pj_Z → mj_M} {a : Int32 × pj_Z} (f : Int32 → Int32 → pj_F (Int32 × pj_Z)) (hf : ∀ (a1 : Int32) (a2 : Int32) (s : Nat → Int32) (l : Nat → Int64) (x : Nat → Int32) (y : Nat → Int64), f a1 a2 s l x y = some a → pm_Gd 0 8006 ie_X8_hasRequest.1 pm_rI lf 45 [(0, .ref 96), (1, .int a1), (2, .int a2)] [] (s, l, x, y) a) : pm_Ex 0 8006 ie_X8_hasRequest.1 pm_rI lf a 45 (pe_X8_hasRequest_45 f) := by
  intro lv st z hd h
  obtain ⟨g0, h⟩ := pj_xr_inv h
  obtain ⟨a1, g1, h⟩ := pj_xi_inv h
  obtain ⟨a2, g2, h⟩ := pj_xi_inv h
  obtain ⟨e9, h⟩ := pj_pe_inv h
  rw [e9]
  exact mj_wp_sub (mj_sub_cons g0 (mj_sub_cons g1 (mj_sub_cons g2 (mj_sub_nil hd)))) (hf _ _ _ _ _ _ h)
theorem pu_X8_hasRequest_72 {lf : pj_Z → mj_M} {a : Int32 × pj_Z} (f : pj_F (Int32 × pj_Z)) (hf : ∀  (s : Nat → Int32) (l : Nat → Int64) (x : Nat → Int32) (y : Nat → Int64), f  s l x y = some a → pm_Gd 0 8006 ie_X8_hasRequest.1 pm_rI lf 72 [(0, .ref 96)] [] (s, l, x, y) a) : pm_Ex 0 8006 ie_X8_hasRequest.1 pm_rI lf a 72 (pe_X8_hasRequest_72 f) := by
  intro lv st z hd h
  obtain ⟨g0, h⟩ := pj_xr_inv h
  obtain ⟨e9, h⟩ := pj_pe_inv h
  rw [e9]
  exact mj_wp_sub (mj_sub_cons g0 (mj_sub_nil hd)) (hf  _ _ _ _ h)
theorem pu_X8_hasRequest_109 {lf : pj_Z → mj_M} {a : Int32 × pj_Z} (f : Int32 → Int32 → pj_F (Int32 × pj_Z)) (hf : ∀ (b0 : Int32) (b1 : Int32) (s : Nat → Int32) (l : Nat → Int64) (x : Nat → Int32) (y : Nat → Int64), f b0 b1 s l x y = some a → pm_Gd 0 8006 ie_X8_hasRequest.1 pm_rI lf 109 [(0, .ref 96)] [.int b1, .int b0] (s, l, x, y) a) : pm_Ex 0 8006 ie_X8_hasRequest.1 pm_rI lf a 109 (pe_X8_hasRequest_109 f) := by
  intro lv st z hd h
  obtain ⟨g0, h⟩ := pj_xr_inv h
  obtain ⟨b1, r1, e1, h⟩ := pj_pi_inv h
  obtain ⟨b0, r0, e0, h⟩ := pj_pi_inv h
  obtain ⟨e9, h⟩ := pj_pe_inv h
  rw [e1, e0, e9]
  exact mj_wp_sub (mj_sub_cons g0 (mj_sub_nil hd)) (hf _ _ _ _ _ _ h)
theorem pu_X8_hasRequest_131 {lf : pj_Z → mj_M} {a : Int32 × pj_Z} (f : pj_F (Int32 × pj_Z)) (hf : ∀  (s : Nat → Int32) (l : Nat → Int64) (x : Nat → Int32) (y : Nat → Int64), f  s l x y = some a → pm_Gd 0 8006 ie_X8_hasRequest.1 pm_rI lf 131 [] [] (s, l, x, y) a) : pm_Ex 0 8006 ie_X8_hasRequest.1 pm_rI lf a 131 (pe_X8_hasRequest_131 f) := by
  intro lv st z hd h
  obtain ⟨e9, h⟩ := pj_pe_inv h
  rw [e9]
  exact mj_wp_sub (mj_sub_nil hd) (hf  _ _ _ _ h)
set_option maxRecDepth 100000 in
theorem pz_X8_hasRequest {lf : pj_Z → mj_M} (hT : pj_Lt pj_TC lf) : pj_Cok ic_P (mj_R ic_P 0) 8006 ie_X8_hasRequest.1 (pm_OK lf pm_rI) lf px_X8_hasRequest := by
  exact pm_cok (c := px_X8_hasRequest) (pm_part hT (pj_as_all (p := fun b e => pj_TC b = some e) (List.forall_mem_cons.mpr ⟨rfl, (List.forall_mem_cons.mpr ⟨rfl, (fun _ h => by cases h)⟩)⟩))) (pm_in_ok (L := [(9, 8, 0, 2, true), (31, 8, 1, 0, false), (38, 8, 3, 3, false), (48, 8, 6, 0, false)]) (f := mj_pF ic_P 8006) (by decide +kernel)) (fun _ _ h => by cases h) (fun _ _ h => by cases h) (fun _ _ h => by cases h) rfl rfl ⟨by decide, rfl⟩ pm_mI (fun _ _ h => by cases h) (fun _ h => by cases h)
set_option maxRecDepth 100000 in
theorem pb_X8_hasRequest : pm_bks ie_X8_hasRequest.1.2.2.2.2 pk_X8_hasRequest = true := by decide +kernel
set_option maxRecDepth 100000 in
theorem pg_X8_hasRequest_72 {fu : Nat} {lf : pj_Z → mj_M} (hT : pj_Lt pj_TC lf) : ∀  (s : Nat → Int32) (l : Nat → Int64) (x : Nat → Int32) (y : Nat → Int64) (a : Int32 × pj_Z), pl_X8_hasRequest_72 fu s l x y = some a → pm_Gd 0 8006 ie_X8_hasRequest.1 pm_rI lf 72 [(0, .ref 96)] [] (s, l, x, y) a := by
  intro  s l x y a h
  exact pm_run ((pq_X8_hasRequest_72 fu  s l x y).symm.trans h) (pz_X8_hasRequest hT) (pm_bks_ok pb_X8_hasRequest) (pm_bks_ok pb_X8_hasRequest _ _ rfl) (pm_ndb_ok rfl) (fun _ _ h => by cases h)
set_option maxRecDepth 100000 in
theorem pg_X8_hasRequest_131 {fu : Nat} {lf : pj_Z → mj_M} (hT : pj_Lt pj_TC lf) : ∀  (s : Nat → Int32) (l : Nat → Int64) (x : Nat → Int32) (y : Nat → Int64) (a : Int32 × pj_Z), pl_X8_hasRequest_131 fu s l x y = some a → pm_Gd 0 8006 ie_X8_hasRequest.1 pm_rI lf 131 [] [] (s, l, x, y) a := by
  intro  s l x y a h
  exact pm_run ((pq_X8_hasRequest_131 fu  s l x y).symm.trans h) (pz_X8_hasRequest hT) (pm_bks_ok pb_X8_hasRequest) (pm_bks_ok pb_X8_hasRequest _ _ rfl) (pm_ndb_ok rfl) (fun _ _ h => by cases h)
set_option maxRecDepth 100000 in
theorem pg_X8_hasRequest_109 {fu : Nat} {lf : pj_Z → mj_M} (hT : pj_Lt pj_TC lf) : ∀ (b0 : Int32) (b1 : Int32) (s : Nat → Int32) (l : Nat → Int64) (x : Nat → Int32) (y : Nat → Int64) (a : Int32 × pj_Z), pl_X8_hasRequest_109 fu b0 b1 s l x y = some a → pm_Gd 0 8006 ie_X8_hasRequest.1 pm_rI lf 109 [(0, .ref 96)] [.int b1, .int b0] (s, l, x, y) a := by
  intro b0 b1 s l x y a h
  exact pm_run ((pq_X8_hasRequest_109 fu b0 b1 s l x y).symm.trans h) (pz_X8_hasRequest hT) (pm_bks_ok pb_X8_hasRequest) (pm_bks_ok pb_X8_hasRequest _ _ rfl) (pm_ndb_ok rfl) (pj_as_all (p := pm_Ex 0 8006 ie_X8_hasRequest.1 pm_rI lf a) (List.forall_mem_cons.mpr ⟨pu_X8_hasRequest_131 _ (fun  s l x y h => pg_X8_hasRequest_131 hT  s l x y _ h), (fun _ h => by cases h)⟩))
set_option maxRecDepth 100000 in
theorem pg_X8_hasRequest_45 {fu : Nat} {lf : pj_Z → mj_M} (hT : pj_Lt pj_TC lf) : ∀ (a1 : Int32) (a2 : Int32) (s : Nat → Int32) (l : Nat → Int64) (x : Nat → Int32) (y : Nat → Int64) (a : Int32 × pj_Z), pl_X8_hasRequest_45 fu a1 a2 s l x y = some a → pm_Gd 0 8006 ie_X8_hasRequest.1 pm_rI lf 45 [(0, .ref 96), (1, .int a1), (2, .int a2)] [] (s, l, x, y) a := by
  intro a1 a2 s l x y a h
  exact pm_run ((pq_X8_hasRequest_45 fu a1 a2 s l x y).symm.trans h) (pz_X8_hasRequest hT) (pm_bks_ok pb_X8_hasRequest) (pm_bks_ok pb_X8_hasRequest _ _ rfl) (pm_ndb_ok rfl) (pj_as_all (p := pm_Ex 0 8006 ie_X8_hasRequest.1 pm_rI lf a) (List.forall_mem_cons.mpr ⟨pu_X8_hasRequest_72 _ (fun  s l x y h => pg_X8_hasRequest_72 hT  s l x y _ h), (List.forall_mem_cons.mpr ⟨pu_X8_hasRequest_109 _ (fun c0 c1 s l x y h => pg_X8_hasRequest_109 hT c0 c1 s l x y _ h), (fun _ h => by cases h)⟩)⟩))
set_option maxRecDepth 100000 in
theorem pg_X8_hasRequest_16 {fu : Nat} {lf : pj_Z → mj_M} (hT : pj_Lt pj_TC lf) : ∀ (n : Nat), ∀ (a1 : Int32) (a2 : Int32) (a3 : Int32) (s : Nat → Int32) (l : Nat → Int64) (x : Nat → Int32) (y : Nat → Int64) (a : Int32 × pj_Z), pl_X8_hasRequest_16 fu n a1 a2 a3 s l x y = some a → pm_Gd 0 8006 ie_X8_hasRequest.1 pm_rI lf 16 [(0, .ref 96), (1, .int a1), (2, .int a2), (3, .int a3)] [] (s, l, x, y) a := by
  intro n
  induction n with
  | zero => intro a1 a2 a3 s l x y a h; cases (show (none : Option (Int32 × pj_Z)) = some a from h)
  | succ n ih =>
    intro a1 a2 a3 s l x y a h
    exact pm_run ((pq_X8_hasRequest_16 fu n a1 a2 a3 s l x y).symm.trans h) (pz_X8_hasRequest hT) (pm_bks_ok pb_X8_hasRequest) (pm_bks_ok pb_X8_hasRequest _ _ rfl) (pm_ndb_ok rfl) (pj_as_all (p := pm_Ex 0 8006 ie_X8_hasRequest.1 pm_rI lf a) (List.forall_mem_cons.mpr ⟨pu_X8_hasRequest_16 _ (fun c0 c1 c2 s l x y h => ih c0 c1 c2 s l x y _ h), (List.forall_mem_cons.mpr ⟨pu_X8_hasRequest_45 _ (fun c0 c1 s l x y h => pg_X8_hasRequest_45 hT c0 c1 s l x y _ h), (fun _ h => by cases h)⟩)⟩))
set_option maxRecDepth 100000 in
theorem pm_X8_hasRequest {lf : pj_Z → mj_M} (hT : pj_Lt pj_TC lf)  (s : Nat → Int32) (l : Nat → Int64) (x : Nat → Int32) (y : Nat → Int64) (a : Int32 × pj_Z) (h : pf_X8_hasRequest  s l x y = some a) : mj_R ic_P 1 8006 [.ref 96] (lf (s, l, x, y)) (pm_rI a.1) (lf a.2) := by
  refine pm_main (Y := ie_X8_hasRequest.1) rfl (Nat.le_of_ble_eq_true rfl) ?_
  exact pm_run ((pq_X8_hasRequest_m 1000  s l x y).symm.trans h) (pz_X8_hasRequest hT) (pm_bks_ok pb_X8_hasRequest) (pm_bks_ok pb_X8_hasRequest _ _ rfl) (pm_ndb_ok rfl) (pj_as_all (p := pm_Ex 0 8006 ie_X8_hasRequest.1 pm_rI lf a) (List.forall_mem_cons.mpr ⟨pu_X8_hasRequest_16 _ (fun c0 c1 c2 s l x y h => pg_X8_hasRequest_16 hT _ c0 c1 c2 s l x y _ h), (fun _ h => by cases h)⟩))
abbrev ph_X8_hasRequest {A : Type} : List pj_V → pj_Z → (List pj_V → pj_Z → Option A) → Option A := fun st z K => pj_pr st 96 0 fun st => pj_ps st (pj_b (pf_X8_hasRequest  z.1 z.2.1 z.2.2.1 z.2.2.2) fun r s l x y => K (pj_I r :: st) (s, l, x, y))
set_option maxRecDepth 100000 in
theorem pc_X8_hasRequest {A : Type} {OK : A → Option Value → mj_M → Prop} {d j pc ix : Nat} {Y : mj_Y} {lf : pj_Z → mj_M} (hT : pj_Lt pj_TC lf) (hd : 1 ≤ d) (hl : mj_lk Y.2.2.2.2 pc = some (.invokevirtual ix, 3)) (hg : mj_pG ic_P j ix = some (8006, 0, some 8)) {lv : List (Nat × Value)} {st : List pj_V} {z : pj_Z} {K : List pj_V → pj_Z → Option A} {a : A} (hK : ∀ st z, K st z = some a → pj_Gd ic_P (mj_R ic_P d) j Y OK lf (pc + 3) lv (pj_es st) z a) (h : ph_X8_hasRequest st z K = some a) : pj_Gd ic_P (mj_R ic_P d) j Y OK lf pc lv (pj_es st) z a := by
  obtain ⟨r0, e0, h⟩ := pj_pr_inv h
  obtain ⟨hs, h⟩ := pj_ps_inv h
  obtain ⟨q, hq, h⟩ := pj_b_inv h
  exact pm_cv (o := 96) hl hg [] rfl (by rw [e0]; rfl) hs (by decide) ((hT.2 96 _ rfl).1.2 z 0 (by decide)) (pm_rI q.1) hd (pm_X8_hasRequest hT  z.1 z.2.1 z.2.2.1 z.2.2.2 q hq) rfl (hK _ _ h)
abbrev px_X8_lengthDue : pj_C (Int32 × pj_Z) := ((fun _ => none), (fun _ => none), (fun _ => none), (fun _ => none), (fun _ => none), ic_X, 1, 1, pj_mI, (fun _ => none), fun _ => false)
abbrev pk_X8_lengthDue : List (Nat × List (Nat × Instr × Nat)) := [(0, [(0, .iload_n 0, 1), (1, .lookupswitch 143 #[(1, 133), (2, 135), (3, 131), (4, 131), (7, 131), (9, 133), (33, 133), (39, 141), (52, 133), (54, 137), (55, 135), (59, 139), (62, 131), (129, 131), (130, 131)], 131)]), (132, [(132, .iconst 1, 1), (133, .ireturn, 1)]), (134, [(134, .iconst 2, 1), (135, .ireturn, 1)]), (136, [(136, .iconst 3, 1), (137, .ireturn, 1)]), (138, [(138, .iconst 4, 1), (139, .ireturn, 1)]), (140, [(140, .iconst 5, 1), (141, .ireturn, 1)]), (142, [(142, .iconst 0, 1), (143, .ireturn, 1)]), (144, [(144, .iconst (-1), 1), (145, .ireturn, 1)])]
set_option maxRecDepth 100000 in
theorem pq_X8_lengthDue_m  (a0 : Int32) (s : Nat → Int32) (l : Nat → Int64) (x : Nat → Int32) (y : Nat → Int64) : pf_X8_lengthDue a0 s l x y = pj_bl px_X8_lengthDue (pj_rn px_X8_lengthDue (pj_as pk_X8_lengthDue) (fun _ => none) 60) [(0, .iload_n 0, 1), (1, .lookupswitch 143 #[(1, 133), (2, 135), (3, 131), (4, 131), (7, 131), (9, 133), (33, 133), (39, 141), (52, 133), (54, 137), (55, 135), (59, 139), (62, 131), (129, 131), (130, 131)], 131)] 0 [(0, pj_I a0)] [] (s, l, x, y) := rfl
set_option maxRecDepth 100000 in
theorem pz_X8_lengthDue {lf : pj_Z → mj_M} (hT : pj_Lt pj_TC lf) : pj_Cok ic_P (mj_R ic_P 0) 8007 ie_X8_lengthDue.1 (pm_OK lf pm_rI) lf px_X8_lengthDue := by
  exact pm_cok (c := px_X8_lengthDue) (pm_none hT) (fun _ _ h => by cases h) (fun _ _ h => by cases h) (fun _ _ h => by cases h) (fun _ _ h => by cases h) rfl rfl ⟨by decide, rfl⟩ pm_mI (fun _ _ h => by cases h) (fun _ h => by cases h)
set_option maxRecDepth 100000 in
theorem pb_X8_lengthDue : pm_bks ie_X8_lengthDue.1.2.2.2.2 pk_X8_lengthDue = true := by decide +kernel
set_option maxRecDepth 100000 in
theorem pm_X8_lengthDue {lf : pj_Z → mj_M} (hT : pj_Lt pj_TC lf) (a0 : Int32) (s : Nat → Int32) (l : Nat → Int64) (x : Nat → Int32) (y : Nat → Int64) (a : Int32 × pj_Z) (h : pf_X8_lengthDue a0 s l x y = some a) : mj_R ic_P 1 8007 [.int a0] (lf (s, l, x, y)) (pm_rI a.1) (lf a.2) := by
  refine pm_main (Y := ie_X8_lengthDue.1) rfl (Nat.le_of_ble_eq_true rfl) ?_
  exact pm_run ((pq_X8_lengthDue_m a0 s l x y).symm.trans h) (pz_X8_lengthDue hT) (pm_bks_ok pb_X8_lengthDue) (pm_bks_ok pb_X8_lengthDue _ _ rfl) (pm_ndb_ok rfl) (fun _ _ h => by cases h)
abbrev ph_X8_lengthDue {A : Type} : List pj_V → pj_Z → (List pj_V → pj_Z → Option A) → Option A := fun st z K => pj_pi st fun a0 st => pj_ps st (pj_b (pf_X8_lengthDue a0 z.1 z.2.1 z.2.2.1 z.2.2.2) fun r s l x y => K (pj_I r :: st) (s, l, x, y))
set_option maxRecDepth 100000 in
theorem pc_X8_lengthDue {A : Type} {OK : A → Option Value → mj_M → Prop} {d j pc ix : Nat} {Y : mj_Y} {lf : pj_Z → mj_M} (hT : pj_Lt pj_TC lf) (hd : 1 ≤ d) (hl : mj_lk Y.2.2.2.2 pc = some (.invokestatic ix, 3)) (hg : mj_pG ic_P j ix = some (8007, 1, none)) {lv : List (Nat × Value)} {st : List pj_V} {z : pj_Z} {K : List pj_V → pj_Z → Option A} {a : A} (hK : ∀ st z, K st z = some a → pj_Gd ic_P (mj_R ic_P d) j Y OK lf (pc + 3) lv (pj_es st) z a) (h : ph_X8_lengthDue st z K = some a) : pj_Gd ic_P (mj_R ic_P d) j Y OK lf pc lv (pj_es st) z a := by
  obtain ⟨a0, r0, e0, h⟩ := pj_pi_inv h
  obtain ⟨hs, h⟩ := pj_ps_inv h
  obtain ⟨q, hq, h⟩ := pj_b_inv h
  exact pm_cs hl hg [.int a0] rfl (by rw [e0]; rfl) hs (pm_rI q.1) hd (pm_X8_lengthDue hT a0 z.1 z.2.1 z.2.2.1 z.2.2.2 q hq) rfl (hK _ _ h)
abbrev pe_X8_sumIsRight_4 (f : Int32 → Int32 → pj_F (Int32 × pj_Z)) : pj_K (Int32 × pj_Z) := fun lv st z => pj_xr lv 0 96 0 <| pj_xi lv 1 fun a1 => pj_xi lv 2 fun a2 => pj_pe st (f a1 a2 z.1 z.2.1 z.2.2.1 z.2.2.2)
abbrev px_X8_sumIsRight : pj_C (Int32 × pj_Z) := ((pj_as [(96, 8, 18, 1, 0, true, 0, [(2, 97), (0, 62), (1, 18), (0, 63), (0, 64), (0, 65), (0, 66), (1, 19), (0, 67), (0, 68), (2, 98), (0, 69), (2, 99), (1, 20), (0, 70), (1, 21), (2, 100), (2, 101)]), (97, 100, 67, 1, 0, true, 37000, []), (100, 100, 16, 1, 0, true, 39000, [])]), (pj_as [(9, 8, 0, 2, true), (25, 8, 16, 2, true)]), (pj_as [(125, 65535)]), (fun _ => none), (fun _ => none), ic_X, 3, 2, pj_mI, (fun _ => none), fun _ => false)
abbrev pk_X8_sumIsRight : List (Nat × List (Nat × Instr × Nat)) := [(0, [(0, .iconst 0, 1), (1, .istore_n 1, 1), (2, .iconst 0, 1), (3, .istore_n 2, 1)]), (4, [(4, .iload_n 2, 1), (5, .bipush 16, 2), (7, .if_icmp .ge 18, 3)]), (10, [(10, .iload_n 1, 1), (11, .aload_n 0, 1), (12, .getfield 25, 3), (15, .iload_n 2, 1), (16, .iaload, 1), (17, .iadd, 1), (18, .istore_n 1, 1), (19, .iinc 2 1, 3), (22, .goto (-18), 3)]), (25, [(25, .iload_n 1, 1), (26, .ldc 125, 2), (28, .iand, 1), (29, .aload_n 0, 1), (30, .getfield 9, 3), (33, .iconst 4, 1), (34, .iaload, 1), (35, .bipush 8, 2), (37, .ishl, 1), (38, .aload_n 0, 1), (39, .getfield 9, 3), (42, .iconst 5, 1), (43, .iaload, 1), (44, .ior, 1), (45, .if_icmp .ne 7, 3)]), (48, [(48, .iconst 1, 1), (49, .goto 4, 3)]), (52, [(52, .iconst 0, 1)]), (53, [(53, .ireturn, 1)])]
set_option maxRecDepth 100000 in
theorem pq_X8_sumIsRight_4 (fu : Nat)  (n : Nat) (a1 : Int32) (a2 : Int32) (s : Nat → Int32) (l : Nat → Int64) (x : Nat → Int32) (y : Nat → Int64) : pl_X8_sumIsRight_4 fu (n + 1) a1 a2 s l x y = pj_bl px_X8_sumIsRight (pj_rn px_X8_sumIsRight (pj_as pk_X8_sumIsRight) (pj_as [(4, pe_X8_sumIsRight_4 (pl_X8_sumIsRight_4 fu n))]) 60) [(4, .iload_n 2, 1), (5, .bipush 16, 2), (7, .if_icmp .ge 18, 3)] 4 [(0, pj_O (96, 0)), (1, pj_I a1), (2, pj_I a2)] [] (s, l, x, y) := rfl
set_option maxRecDepth 100000 in
theorem pq_X8_sumIsRight_m (fu : Nat)   (s : Nat → Int32) (l : Nat → Int64) (x : Nat → Int32) (y : Nat → Int64) : po_X8_sumIsRight fu  s l x y = pj_bl px_X8_sumIsRight (pj_rn px_X8_sumIsRight (pj_as pk_X8_sumIsRight) (pj_as [(4, pe_X8_sumIsRight_4 (pl_X8_sumIsRight_4 fu fu))]) 60) [(0, .iconst 0, 1), (1, .istore_n 1, 1), (2, .iconst 0, 1), (3, .istore_n 2, 1)] 0 [(0, pj_O (96, 0))] [] (s, l, x, y) := rfl
theorem pu_X8_sumIsRight_4 {lf : pj_Z → mj_M} {a : Int32 × pj_Z} (f : Int32 → Int32 → pj_F (Int32 × pj_Z)) (hf : ∀ (a1 : Int32) (a2 : Int32) (s : Nat → Int32) (l : Nat → Int64) (x : Nat → Int32) (y : Nat → Int64), f a1 a2 s l x y = some a → pm_Gd 0 8021 ie_X8_sumIsRight.1 pm_rI lf 4 [(0, .ref 96), (1, .int a1), (2, .int a2)] [] (s, l, x, y) a) : pm_Ex 0 8021 ie_X8_sumIsRight.1 pm_rI lf a 4 (pe_X8_sumIsRight_4 f) := by
  intro lv st z hd h
  obtain ⟨g0, h⟩ := pj_xr_inv h
  obtain ⟨a1, g1, h⟩ := pj_xi_inv h
  obtain ⟨a2, g2, h⟩ := pj_xi_inv h
  obtain ⟨e9, h⟩ := pj_pe_inv h
  rw [e9]
  exact mj_wp_sub (mj_sub_cons g0 (mj_sub_cons g1 (mj_sub_cons g2 (mj_sub_nil hd)))) (hf _ _ _ _ _ _ h)
set_option maxRecDepth 100000 in
theorem pz_X8_sumIsRight {lf : pj_Z → mj_M} (hT : pj_Lt pj_TC lf) : pj_Cok ic_P (mj_R ic_P 0) 8021 ie_X8_sumIsRight.1 (pm_OK lf pm_rI) lf px_X8_sumIsRight := by
  exact pm_cok (c := px_X8_sumIsRight) (pm_part hT (pj_as_all (p := fun b e => pj_TC b = some e) (List.forall_mem_cons.mpr ⟨rfl, (List.forall_mem_cons.mpr ⟨rfl, (List.forall_mem_cons.mpr ⟨rfl, (fun _ h => by cases h)⟩)⟩)⟩))) (pm_in_ok (L := [(9, 8, 0, 2, true), (25, 8, 16, 2, true)]) (f := mj_pF ic_P 8021) (by decide +kernel)) (pm_inI_ok (L := [(125, 65535)]) (f := mj_pK ic_P 8021) (by decide +kernel)) (fun _ _ h => by cases h) (fun _ _ h => by cases h) rfl rfl ⟨by decide, rfl⟩ pm_mI (fun _ _ h => by cases h) (fun _ h => by cases h)
set_option maxRecDepth 100000 in
theorem pb_X8_sumIsRight : pm_bks ie_X8_sumIsRight.1.2.2.2.2 pk_X8_sumIsRight = true := by decide +kernel
set_option maxRecDepth 100000 in
theorem pg_X8_sumIsRight_4 {fu : Nat} {lf : pj_Z → mj_M} (hT : pj_Lt pj_TC lf) : ∀ (n : Nat), ∀ (a1 : Int32) (a2 : Int32) (s : Nat → Int32) (l : Nat → Int64) (x : Nat → Int32) (y : Nat → Int64) (a : Int32 × pj_Z), pl_X8_sumIsRight_4 fu n a1 a2 s l x y = some a → pm_Gd 0 8021 ie_X8_sumIsRight.1 pm_rI lf 4 [(0, .ref 96), (1, .int a1), (2, .int a2)] [] (s, l, x, y) a := by
  intro n
  induction n with
  | zero => intro a1 a2 s l x y a h; cases (show (none : Option (Int32 × pj_Z)) = some a from h)
  | succ n ih =>
    intro a1 a2 s l x y a h
    exact pm_run ((pq_X8_sumIsRight_4 fu n a1 a2 s l x y).symm.trans h) (pz_X8_sumIsRight hT) (pm_bks_ok pb_X8_sumIsRight) (pm_bks_ok pb_X8_sumIsRight _ _ rfl) (pm_ndb_ok rfl) (pj_as_all (p := pm_Ex 0 8021 ie_X8_sumIsRight.1 pm_rI lf a) (List.forall_mem_cons.mpr ⟨pu_X8_sumIsRight_4 _ (fun c0 c1 s l x y h => ih c0 c1 s l x y _ h), (fun _ h => by cases h)⟩))
set_option maxRecDepth 100000 in
theorem pm_X8_sumIsRight {lf : pj_Z → mj_M} (hT : pj_Lt pj_TC lf)  (s : Nat → Int32) (l : Nat → Int64) (x : Nat → Int32) (y : Nat → Int64) (a : Int32 × pj_Z) (h : pf_X8_sumIsRight  s l x y = some a) : mj_R ic_P 1 8021 [.ref 96] (lf (s, l, x, y)) (pm_rI a.1) (lf a.2) := by
  refine pm_main (Y := ie_X8_sumIsRight.1) rfl (Nat.le_of_ble_eq_true rfl) ?_
  exact pm_run ((pq_X8_sumIsRight_m 1000  s l x y).symm.trans h) (pz_X8_sumIsRight hT) (pm_bks_ok pb_X8_sumIsRight) (pm_bks_ok pb_X8_sumIsRight _ _ rfl) (pm_ndb_ok rfl) (pj_as_all (p := pm_Ex 0 8021 ie_X8_sumIsRight.1 pm_rI lf a) (List.forall_mem_cons.mpr ⟨pu_X8_sumIsRight_4 _ (fun c0 c1 s l x y h => pg_X8_sumIsRight_4 hT _ c0 c1 s l x y _ h), (fun _ h => by cases h)⟩))
abbrev ph_X8_sumIsRight {A : Type} : List pj_V → pj_Z → (List pj_V → pj_Z → Option A) → Option A := fun st z K => pj_pr st 96 0 fun st => pj_ps st (pj_b (pf_X8_sumIsRight  z.1 z.2.1 z.2.2.1 z.2.2.2) fun r s l x y => K (pj_I r :: st) (s, l, x, y))
set_option maxRecDepth 100000 in
theorem pc_X8_sumIsRight {A : Type} {OK : A → Option Value → mj_M → Prop} {d j pc ix : Nat} {Y : mj_Y} {lf : pj_Z → mj_M} (hT : pj_Lt pj_TC lf) (hd : 1 ≤ d) (hl : mj_lk Y.2.2.2.2 pc = some (.invokevirtual ix, 3)) (hg : mj_pG ic_P j ix = some (8021, 0, some 8)) {lv : List (Nat × Value)} {st : List pj_V} {z : pj_Z} {K : List pj_V → pj_Z → Option A} {a : A} (hK : ∀ st z, K st z = some a → pj_Gd ic_P (mj_R ic_P d) j Y OK lf (pc + 3) lv (pj_es st) z a) (h : ph_X8_sumIsRight st z K = some a) : pj_Gd ic_P (mj_R ic_P d) j Y OK lf pc lv (pj_es st) z a := by
  obtain ⟨r0, e0, h⟩ := pj_pr_inv h
  obtain ⟨hs, h⟩ := pj_ps_inv h
  obtain ⟨q, hq, h⟩ := pj_b_inv h
  exact pm_cv (o := 96) hl hg [] rfl (by rw [e0]; rfl) hs (by decide) ((hT.2 96 _ rfl).1.2 z 0 (by decide)) (pm_rI q.1) hd (pm_X8_sumIsRight hT  z.1 z.2.1 z.2.2.1 z.2.2.2 q hq) rfl (hK _ _ h)
abbrev pe_X4_writeWord_v2_16 (f : pj_F (Int32 × pj_Z)) : pj_K (Int32 × pj_Z) := fun lv st z => pj_xr lv 0 1 0 <| pj_pe st (f  z.1 z.2.1 z.2.2.1 z.2.2.2)
abbrev pe_X4_writeWord_v2_43 (f : pj_F (Int32 × pj_Z)) : pj_K (Int32 × pj_Z) := fun lv st z => pj_xr lv 0 1 0 <| pj_pe st (f  z.1 z.2.1 z.2.2.1 z.2.2.2)
abbrev px_X4_writeWord_v2 : pj_C (Int32 × pj_Z) := ((pj_as [(1, 4, 10, 1, 0, true, 0, [(2, 2), (2, 3), (2, 8), (2, 11), (2, 14), (2, 17), (2, 18), (2, 19), (0, 44), (1, 3)]), (15, 100, 34, 2, 1, true, 14000, [])]), (pj_as [(38, 4, 8, 0, false), (89, 4, 9, 0, false)]), (fun _ => none), (fun _ => none), (fun _ => none), ic_X, 4, 2, pj_mI, (fun _ => none), fun _ => false)
abbrev pk_X4_writeWord_v2 : List (Nat × List (Nat × Instr × Nat)) := [(0, [(0, .iload_n 2, 1), (1, .ifCond .lt 9, 3)]), (4, [(4, .iload_n 2, 1), (5, .aload_n 1, 1), (6, .arraylength, 1), (7, .if_icmp .lt 5, 3)]), (10, [(10, .iconst 1, 1), (11, .ireturn, 1)]), (12, [(12, .aload_n 1, 1), (13, .iload_n 2, 1), (14, .iload_n 3, 1), (15, .iastore, 1)]), (16, [(16, .aload_n 0, 1), (17, .dup, 1), (18, .getfield 89, 3), (21, .iconst 1, 1), (22, .iadd, 1), (23, .putfield 89, 3), (26, .aload_n 0, 1), (27, .getfield 38, 3), (30, .ifCond .le 13, 3)]), (33, [(33, .aload_n 0, 1), (34, .dup, 1), (35, .getfield 38, 3), (38, .iconst 1, 1), (39, .isub, 1), (40, .putfield 38, 3)]), (43, [(43, .aload_n 0, 1), (44, .getfield 38, 3), (47, .ifCond .ne 10, 3)]), (50, [(50, .aload_n 0, 1), (51, .iconst (-1), 1), (52, .putfield 38, 3), (55, .iconst 0, 1), (56, .ireturn, 1)]), (57, [(57, .iconst 1, 1), (58, .ireturn, 1)])]
set_option maxRecDepth 100000 in
theorem pq_X4_writeWord_v2_43   (s : Nat → Int32) (l : Nat → Int64) (x : Nat → Int32) (y : Nat → Int64) : pl_X4_writeWord_v2_43 s l x y = pj_bl px_X4_writeWord_v2 (pj_rn px_X4_writeWord_v2 (pj_as pk_X4_writeWord_v2) (fun _ => none) 60) [(43, .aload_n 0, 1), (44, .getfield 38, 3), (47, .ifCond .ne 10, 3)] 43 [(0, pj_O (1, 0))] [] (s, l, x, y) := rfl
set_option maxRecDepth 100000 in
theorem pq_X4_writeWord_v2_16   (s : Nat → Int32) (l : Nat → Int64) (x : Nat → Int32) (y : Nat → Int64) : pl_X4_writeWord_v2_16 s l x y = pj_bl px_X4_writeWord_v2 (pj_rn px_X4_writeWord_v2 (pj_as pk_X4_writeWord_v2) (pj_as [(43, pe_X4_writeWord_v2_43 (pl_X4_writeWord_v2_43))]) 60) [(16, .aload_n 0, 1), (17, .dup, 1), (18, .getfield 89, 3), (21, .iconst 1, 1), (22, .iadd, 1), (23, .putfield 89, 3), (26, .aload_n 0, 1), (27, .getfield 38, 3), (30, .ifCond .le 13, 3)] 16 [(0, pj_O (1, 0))] [] (s, l, x, y) := rfl
set_option maxRecDepth 100000 in
theorem pq_X4_writeWord_v2_m  (a2 : Int32) (a3 : Int32) (s : Nat → Int32) (l : Nat → Int64) (x : Nat → Int32) (y : Nat → Int64) : pf_X4_writeWord_v2 a2 a3 s l x y = pj_bl px_X4_writeWord_v2 (pj_rn px_X4_writeWord_v2 (pj_as pk_X4_writeWord_v2) (pj_as [(16, pe_X4_writeWord_v2_16 (pl_X4_writeWord_v2_16))]) 60) [(0, .iload_n 2, 1), (1, .ifCond .lt 9, 3)] 0 [(0, pj_O (1, 0)), (1, pj_O (15, 1)), (2, pj_I a2), (3, pj_I a3)] [] (s, l, x, y) := rfl
theorem pu_X4_writeWord_v2_16 {lf : pj_Z → mj_M} {a : Int32 × pj_Z} (f : pj_F (Int32 × pj_Z)) (hf : ∀  (s : Nat → Int32) (l : Nat → Int64) (x : Nat → Int32) (y : Nat → Int64), f  s l x y = some a → pm_Gd 0 4010 ie_X4_writeWord.1 pm_rI lf 16 [(0, .ref 1)] [] (s, l, x, y) a) : pm_Ex 0 4010 ie_X4_writeWord.1 pm_rI lf a 16 (pe_X4_writeWord_v2_16 f) := by
  intro lv st z hd h
  obtain ⟨g0, h⟩ := pj_xr_inv h
  obtain ⟨e9, h⟩ := pj_pe_inv h
  rw [e9]
  exact mj_wp_sub (mj_sub_cons g0 (mj_sub_nil hd)) (hf  _ _ _ _ h)
theorem pu_X4_writeWord_v2_43 {lf : pj_Z → mj_M} {a : Int32 × pj_Z} (f : pj_F (Int32 × pj_Z)) (hf : ∀  (s : Nat → Int32) (l : Nat → Int64) (x : Nat → Int32) (y : Nat → Int64), f  s l x y = some a → pm_Gd 0 4010 ie_X4_writeWord.1 pm_rI lf 43 [(0, .ref 1)] [] (s, l, x, y) a) : pm_Ex 0 4010 ie_X4_writeWord.1 pm_rI lf a 43 (pe_X4_writeWord_v2_43 f) := by
  intro lv st z hd h
  obtain ⟨g0, h⟩ := pj_xr_inv h
  obtain ⟨e9, h⟩ := pj_pe_inv h
  rw [e9]
  exact mj_wp_sub (mj_sub_cons g0 (mj_sub_nil hd)) (hf  _ _ _ _ h)
set_option maxRecDepth 100000 in
theorem pz_X4_writeWord_v2 {lf : pj_Z → mj_M} (hT : pj_Lt pj_TC lf) : pj_Cok ic_P (mj_R ic_P 0) 4010 ie_X4_writeWord.1 (pm_OK lf pm_rI) lf px_X4_writeWord_v2 := by
  exact pm_cok (c := px_X4_writeWord_v2) (pm_part hT (pj_as_all (p := fun b e => pj_TC b = some e) (List.forall_mem_cons.mpr ⟨rfl, (List.forall_mem_cons.mpr ⟨rfl, (fun _ h => by cases h)⟩)⟩))) (pm_in_ok (L := [(38, 4, 8, 0, false), (89, 4, 9, 0, false)]) (f := mj_pF ic_P 4010) (by decide +kernel)) (fun _ _ h => by cases h) (fun _ _ h => by cases h) (fun _ _ h => by cases h) rfl rfl ⟨by decide, rfl⟩ pm_mI (fun _ _ h => by cases h) (fun _ h => by cases h)
set_option maxRecDepth 100000 in
theorem pb_X4_writeWord_v2 : pm_bks ie_X4_writeWord.1.2.2.2.2 pk_X4_writeWord_v2 = true := by decide +kernel
set_option maxRecDepth 100000 in
theorem pg_X4_writeWord_v2_43 {lf : pj_Z → mj_M} (hT : pj_Lt pj_TC lf) : ∀  (s : Nat → Int32) (l : Nat → Int64) (x : Nat → Int32) (y : Nat → Int64) (a : Int32 × pj_Z), pl_X4_writeWord_v2_43 s l x y = some a → pm_Gd 0 4010 ie_X4_writeWord.1 pm_rI lf 43 [(0, .ref 1)] [] (s, l, x, y) a := by
  intro  s l x y a h
  exact pm_run ((pq_X4_writeWord_v2_43   s l x y).symm.trans h) (pz_X4_writeWord_v2 hT) (pm_bks_ok pb_X4_writeWord_v2) (pm_bks_ok pb_X4_writeWord_v2 _ _ rfl) (pm_ndb_ok rfl) (fun _ _ h => by cases h)
set_option maxRecDepth 100000 in
theorem pg_X4_writeWord_v2_16 {lf : pj_Z → mj_M} (hT : pj_Lt pj_TC lf) : ∀  (s : Nat → Int32) (l : Nat → Int64) (x : Nat → Int32) (y : Nat → Int64) (a : Int32 × pj_Z), pl_X4_writeWord_v2_16 s l x y = some a → pm_Gd 0 4010 ie_X4_writeWord.1 pm_rI lf 16 [(0, .ref 1)] [] (s, l, x, y) a := by
  intro  s l x y a h
  exact pm_run ((pq_X4_writeWord_v2_16   s l x y).symm.trans h) (pz_X4_writeWord_v2 hT) (pm_bks_ok pb_X4_writeWord_v2) (pm_bks_ok pb_X4_writeWord_v2 _ _ rfl) (pm_ndb_ok rfl) (pj_as_all (p := pm_Ex 0 4010 ie_X4_writeWord.1 pm_rI lf a) (List.forall_mem_cons.mpr ⟨pu_X4_writeWord_v2_43 _ (fun  s l x y h => pg_X4_writeWord_v2_43 hT  s l x y _ h), (fun _ h => by cases h)⟩))
set_option maxRecDepth 100000 in
theorem pm_X4_writeWord_v2 {lf : pj_Z → mj_M} (hT : pj_Lt pj_TC lf) (a2 : Int32) (a3 : Int32) (s : Nat → Int32) (l : Nat → Int64) (x : Nat → Int32) (y : Nat → Int64) (a : Int32 × pj_Z) (h : pf_X4_writeWord_v2 a2 a3 s l x y = some a) : mj_R ic_P 1 4010 [.ref 1, .ref 16, .int a2, .int a3] (lf (s, l, x, y)) (pm_rI a.1) (lf a.2) := by
  refine pm_main (Y := ie_X4_writeWord.1) rfl (Nat.le_of_ble_eq_true rfl) ?_
  exact pm_run ((pq_X4_writeWord_v2_m a2 a3 s l x y).symm.trans h) (pz_X4_writeWord_v2 hT) (pm_bks_ok pb_X4_writeWord_v2) (pm_bks_ok pb_X4_writeWord_v2 _ _ rfl) (pm_ndb_ok rfl) (pj_as_all (p := pm_Ex 0 4010 ie_X4_writeWord.1 pm_rI lf a) (List.forall_mem_cons.mpr ⟨pu_X4_writeWord_v2_16 _ (fun  s l x y h => pg_X4_writeWord_v2_16 hT  s l x y _ h), (fun _ h => by cases h)⟩))
abbrev ph_X4_writeWord_v2 {A : Type} : List pj_V → pj_Z → (List pj_V → pj_Z → Option A) → Option A := fun st z K => pj_pi st fun a3 st => pj_pi st fun a2 st => pj_pr st 15 1 fun st => pj_pr st 1 0 fun st => pj_ps st (pj_b (pf_X4_writeWord_v2 a2 a3 z.1 z.2.1 z.2.2.1 z.2.2.2) fun r s l x y => K (pj_I r :: st) (s, l, x, y))
set_option maxRecDepth 100000 in
theorem pc_X4_writeWord_v2 {A : Type} {OK : A → Option Value → mj_M → Prop} {d j pc ix : Nat} {Y : mj_Y} {lf : pj_Z → mj_M} (hT : pj_Lt pj_TC lf) (hd : 1 ≤ d) (hl : mj_lk Y.2.2.2.2 pc = some (.invokevirtual ix, 3)) (hg : mj_pG ic_P j ix = some (4010, 3, some 4)) {lv : List (Nat × Value)} {st : List pj_V} {z : pj_Z} {K : List pj_V → pj_Z → Option A} {a : A} (hK : ∀ st z, K st z = some a → pj_Gd ic_P (mj_R ic_P d) j Y OK lf (pc + 3) lv (pj_es st) z a) (h : ph_X4_writeWord_v2 st z K = some a) : pj_Gd ic_P (mj_R ic_P d) j Y OK lf pc lv (pj_es st) z a := by
  obtain ⟨a3, r3, e3, h⟩ := pj_pi_inv h
  obtain ⟨a2, r2, e2, h⟩ := pj_pi_inv h
  obtain ⟨r1, e1, h⟩ := pj_pr_inv h
  obtain ⟨r0, e0, h⟩ := pj_pr_inv h
  obtain ⟨hs, h⟩ := pj_ps_inv h
  obtain ⟨q, hq, h⟩ := pj_b_inv h
  exact pm_cv (o := 1) hl hg [.ref 16, .int a2, .int a3] rfl (by rw [e3, e2, e1, e0]; rfl) hs (by decide) ((hT.2 1 _ rfl).1.2 z 0 (by decide)) (pm_rI q.1) hd (pm_X4_writeWord_v2 hT a2 a3 z.1 z.2.1 z.2.2.1 z.2.2.2 q hq) rfl (hK _ _ h)
abbrev pe_X4_writeWord_v3_16 (f : pj_F (Int32 × pj_Z)) : pj_K (Int32 × pj_Z) := fun lv st z => pj_xr lv 0 1 0 <| pj_pe st (f  z.1 z.2.1 z.2.2.1 z.2.2.2)
abbrev pe_X4_writeWord_v3_43 (f : pj_F (Int32 × pj_Z)) : pj_K (Int32 × pj_Z) := fun lv st z => pj_xr lv 0 1 0 <| pj_pe st (f  z.1 z.2.1 z.2.2.1 z.2.2.2)
abbrev px_X4_writeWord_v3 : pj_C (Int32 × pj_Z) := ((pj_as [(1, 4, 10, 1, 0, true, 0, [(2, 2), (2, 3), (2, 8), (2, 11), (2, 14), (2, 17), (2, 18), (2, 19), (0, 44), (1, 3)]), (15, 100, 34, 2, 1, true, 14000, [])]), (pj_as [(38, 4, 8, 0, false), (89, 4, 9, 0, false)]), (fun _ => none), (fun _ => none), (fun _ => none), ic_X, 4, 2, pj_mI, (fun _ => none), fun _ => false)
abbrev pk_X4_writeWord_v3 : List (Nat × List (Nat × Instr × Nat)) := [(0, [(0, .iload_n 2, 1), (1, .ifCond .lt 9, 3)]), (4, [(4, .iload_n 2, 1), (5, .aload_n 1, 1), (6, .arraylength, 1), (7, .if_icmp .lt 5, 3)]), (10, [(10, .iconst 1, 1), (11, .ireturn, 1)]), (12, [(12, .aload_n 1, 1), (13, .iload_n 2, 1), (14, .iload_n 3, 1), (15, .iastore, 1)]), (16, [(16, .aload_n 0, 1), (17, .dup, 1), (18, .getfield 89, 3), (21, .iconst 1, 1), (22, .iadd, 1), (23, .putfield 89, 3), (26, .aload_n 0, 1), (27, .getfield 38, 3), (30, .ifCond .le 13, 3)]), (33, [(33, .aload_n 0, 1), (34, .dup, 1), (35, .getfield 38, 3), (38, .iconst 1, 1), (39, .isub, 1), (40, .putfield 38, 3)]), (43, [(43, .aload_n 0, 1), (44, .getfield 38, 3), (47, .ifCond .ne 10, 3)]), (50, [(50, .aload_n 0, 1), (51, .iconst (-1), 1), (52, .putfield 38, 3), (55, .iconst 0, 1), (56, .ireturn, 1)]), (57, [(57, .iconst 1, 1), (58, .ireturn, 1)])]
set_option maxRecDepth 100000 in
theorem pq_X4_writeWord_v3_43   (s : Nat → Int32) (l : Nat → Int64) (x : Nat → Int32) (y : Nat → Int64) : pl_X4_writeWord_v3_43 s l x y = pj_bl px_X4_writeWord_v3 (pj_rn px_X4_writeWord_v3 (pj_as pk_X4_writeWord_v3) (fun _ => none) 60) [(43, .aload_n 0, 1), (44, .getfield 38, 3), (47, .ifCond .ne 10, 3)] 43 [(0, pj_O (1, 0))] [] (s, l, x, y) := rfl
set_option maxRecDepth 100000 in
theorem pq_X4_writeWord_v3_16   (s : Nat → Int32) (l : Nat → Int64) (x : Nat → Int32) (y : Nat → Int64) : pl_X4_writeWord_v3_16 s l x y = pj_bl px_X4_writeWord_v3 (pj_rn px_X4_writeWord_v3 (pj_as pk_X4_writeWord_v3) (pj_as [(43, pe_X4_writeWord_v3_43 (pl_X4_writeWord_v3_43))]) 60) [(16, .aload_n 0, 1), (17, .dup, 1), (18, .getfield 89, 3), (21, .iconst 1, 1), (22, .iadd, 1), (23, .putfield 89, 3), (26, .aload_n 0, 1), (27, .getfield 38, 3), (30, .ifCond .le 13, 3)] 16 [(0, pj_O (1, 0))] [] (s, l, x, y) := rfl
set_option maxRecDepth 100000 in
theorem pq_X4_writeWord_v3_m  (a1 : Nat) (a2 : Int32) (a3 : Int32) (s : Nat → Int32) (l : Nat → Int64) (x : Nat → Int32) (y : Nat → Int64) : pf_X4_writeWord_v3 a1 a2 a3 s l x y = pj_bl px_X4_writeWord_v3 (pj_rn px_X4_writeWord_v3 (pj_as pk_X4_writeWord_v3) (pj_as [(16, pe_X4_writeWord_v3_16 (pl_X4_writeWord_v3_16))]) 60) [(0, .iload_n 2, 1), (1, .ifCond .lt 9, 3)] 0 [(0, pj_O (1, 0)), (1, pj_W (15, a1)), (2, pj_I a2), (3, pj_I a3)] [] (s, l, x, y) := rfl
theorem pu_X4_writeWord_v3_16 {lf : pj_Z → mj_M} {a : Int32 × pj_Z} (f : pj_F (Int32 × pj_Z)) (hf : ∀  (s : Nat → Int32) (l : Nat → Int64) (x : Nat → Int32) (y : Nat → Int64), f  s l x y = some a → pm_Gd 0 4010 ie_X4_writeWord.1 pm_rI lf 16 [(0, .ref 1)] [] (s, l, x, y) a) : pm_Ex 0 4010 ie_X4_writeWord.1 pm_rI lf a 16 (pe_X4_writeWord_v3_16 f) := by
  intro lv st z hd h
  obtain ⟨g0, h⟩ := pj_xr_inv h
  obtain ⟨e9, h⟩ := pj_pe_inv h
  rw [e9]
  exact mj_wp_sub (mj_sub_cons g0 (mj_sub_nil hd)) (hf  _ _ _ _ h)
theorem pu_X4_writeWord_v3_43 {lf : pj_Z → mj_M} {a : Int32 × pj_Z} (f : pj_F (Int32 × pj_Z)) (hf : ∀  (s : Nat → Int32) (l : Nat → Int64) (x : Nat → Int32) (y : Nat → Int64), f  s l x y = some a → pm_Gd 0 4010 ie_X4_writeWord.1 pm_rI lf 43 [(0, .ref 1)] [] (s, l, x, y) a) : pm_Ex 0 4010 ie_X4_writeWord.1 pm_rI lf a 43 (pe_X4_writeWord_v3_43 f) := by
  intro lv st z hd h
  obtain ⟨g0, h⟩ := pj_xr_inv h
  obtain ⟨e9, h⟩ := pj_pe_inv h
  rw [e9]
  exact mj_wp_sub (mj_sub_cons g0 (mj_sub_nil hd)) (hf  _ _ _ _ h)
set_option maxRecDepth 100000 in
theorem pz_X4_writeWord_v3 {lf : pj_Z → mj_M} (hT : pj_Lt pj_TC lf) : pj_Cok ic_P (mj_R ic_P 0) 4010 ie_X4_writeWord.1 (pm_OK lf pm_rI) lf px_X4_writeWord_v3 := by
  exact pm_cok (c := px_X4_writeWord_v3) (pm_part hT (pj_as_all (p := fun b e => pj_TC b = some e) (List.forall_mem_cons.mpr ⟨rfl, (List.forall_mem_cons.mpr ⟨rfl, (fun _ h => by cases h)⟩)⟩))) (pm_in_ok (L := [(38, 4, 8, 0, false), (89, 4, 9, 0, false)]) (f := mj_pF ic_P 4010) (by decide +kernel)) (fun _ _ h => by cases h) (fun _ _ h => by cases h) (fun _ _ h => by cases h) rfl rfl ⟨by decide, rfl⟩ pm_mI (fun _ _ h => by cases h) (fun _ h => by cases h)
set_option maxRecDepth 100000 in
theorem pb_X4_writeWord_v3 : pm_bks ie_X4_writeWord.1.2.2.2.2 pk_X4_writeWord_v3 = true := by decide +kernel
set_option maxRecDepth 100000 in
theorem pg_X4_writeWord_v3_43 {lf : pj_Z → mj_M} (hT : pj_Lt pj_TC lf) : ∀  (s : Nat → Int32) (l : Nat → Int64) (x : Nat → Int32) (y : Nat → Int64) (a : Int32 × pj_Z), pl_X4_writeWord_v3_43 s l x y = some a → pm_Gd 0 4010 ie_X4_writeWord.1 pm_rI lf 43 [(0, .ref 1)] [] (s, l, x, y) a := by
  intro  s l x y a h
  exact pm_run ((pq_X4_writeWord_v3_43   s l x y).symm.trans h) (pz_X4_writeWord_v3 hT) (pm_bks_ok pb_X4_writeWord_v3) (pm_bks_ok pb_X4_writeWord_v3 _ _ rfl) (pm_ndb_ok rfl) (fun _ _ h => by cases h)
set_option maxRecDepth 100000 in
theorem pg_X4_writeWord_v3_16 {lf : pj_Z → mj_M} (hT : pj_Lt pj_TC lf) : ∀  (s : Nat → Int32) (l : Nat → Int64) (x : Nat → Int32) (y : Nat → Int64) (a : Int32 × pj_Z), pl_X4_writeWord_v3_16 s l x y = some a → pm_Gd 0 4010 ie_X4_writeWord.1 pm_rI lf 16 [(0, .ref 1)] [] (s, l, x, y) a := by
  intro  s l x y a h
  exact pm_run ((pq_X4_writeWord_v3_16   s l x y).symm.trans h) (pz_X4_writeWord_v3 hT) (pm_bks_ok pb_X4_writeWord_v3) (pm_bks_ok pb_X4_writeWord_v3 _ _ rfl) (pm_ndb_ok rfl) (pj_as_all (p := pm_Ex 0 4010 ie_X4_writeWord.1 pm_rI lf a) (List.forall_mem_cons.mpr ⟨pu_X4_writeWord_v3_43 _ (fun  s l x y h => pg_X4_writeWord_v3_43 hT  s l x y _ h), (fun _ h => by cases h)⟩))
set_option maxRecDepth 100000 in
theorem pm_X4_writeWord_v3 {lf : pj_Z → mj_M} (hT : pj_Lt pj_TC lf) (a1 : Nat) (a2 : Int32) (a3 : Int32) (s : Nat → Int32) (l : Nat → Int64) (x : Nat → Int32) (y : Nat → Int64) (a : Int32 × pj_Z) (h : pf_X4_writeWord_v3 a1 a2 a3 s l x y = some a) : mj_R ic_P 1 4010 [.ref 1, .ref (15 + a1), .int a2, .int a3] (lf (s, l, x, y)) (pm_rI a.1) (lf a.2) := by
  refine pm_main (Y := ie_X4_writeWord.1) rfl (Nat.le_of_ble_eq_true rfl) ?_
  exact pm_run ((pq_X4_writeWord_v3_m a1 a2 a3 s l x y).symm.trans h) (pz_X4_writeWord_v3 hT) (pm_bks_ok pb_X4_writeWord_v3) (pm_bks_ok pb_X4_writeWord_v3 _ _ rfl) (pm_ndb_ok rfl) (pj_as_all (p := pm_Ex 0 4010 ie_X4_writeWord.1 pm_rI lf a) (List.forall_mem_cons.mpr ⟨pu_X4_writeWord_v3_16 _ (fun  s l x y h => pg_X4_writeWord_v3_16 hT  s l x y _ h), (fun _ h => by cases h)⟩))
abbrev ph_X4_writeWord_v3 {A : Type} : List pj_V → pj_Z → (List pj_V → pj_Z → Option A) → Option A := fun st z K => pj_pi st fun a3 st => pj_pi st fun a2 st => pj_pw st 15 fun a1 st => pj_pr st 1 0 fun st => pj_ps st (pj_b (pf_X4_writeWord_v3 a1 a2 a3 z.1 z.2.1 z.2.2.1 z.2.2.2) fun r s l x y => K (pj_I r :: st) (s, l, x, y))
set_option maxRecDepth 100000 in
theorem pc_X4_writeWord_v3 {A : Type} {OK : A → Option Value → mj_M → Prop} {d j pc ix : Nat} {Y : mj_Y} {lf : pj_Z → mj_M} (hT : pj_Lt pj_TC lf) (hd : 1 ≤ d) (hl : mj_lk Y.2.2.2.2 pc = some (.invokevirtual ix, 3)) (hg : mj_pG ic_P j ix = some (4010, 3, some 4)) {lv : List (Nat × Value)} {st : List pj_V} {z : pj_Z} {K : List pj_V → pj_Z → Option A} {a : A} (hK : ∀ st z, K st z = some a → pj_Gd ic_P (mj_R ic_P d) j Y OK lf (pc + 3) lv (pj_es st) z a) (h : ph_X4_writeWord_v3 st z K = some a) : pj_Gd ic_P (mj_R ic_P d) j Y OK lf pc lv (pj_es st) z a := by
  obtain ⟨a3, r3, e3, h⟩ := pj_pi_inv h
  obtain ⟨a2, r2, e2, h⟩ := pj_pi_inv h
  obtain ⟨a1, r1, e1, h⟩ := pj_pw_inv h
  obtain ⟨r0, e0, h⟩ := pj_pr_inv h
  obtain ⟨hs, h⟩ := pj_ps_inv h
  obtain ⟨q, hq, h⟩ := pj_b_inv h
  exact pm_cv (o := 1) hl hg [.ref (15 + a1), .int a2, .int a3] rfl (by rw [e3, e2, e1, e0]; rfl) hs (by decide) ((hT.2 1 _ rfl).1.2 z 0 (by decide)) (pm_rI q.1) hd (pm_X4_writeWord_v3 hT a1 a2 a3 z.1 z.2.1 z.2.2.1 z.2.2.2 q hq) rfl (hK _ _ h)
abbrev pe_X4_writeCopy_v1_43 (f : Int32 → pj_F (Int32 × pj_Z)) : pj_K (Int32 × pj_Z) := fun lv st z => pj_xr lv 0 1 0 <| pj_xc lv 1 1 <| pj_pi st fun b1 st => pj_pr st 14 0 fun st => pj_pe st (f b1 z.1 z.2.1 z.2.2.1 z.2.2.2)
abbrev pe_X4_writeCopy_v1_73 (f : Nat → Int32 → Int32 → pj_F (Int32 × pj_Z)) : pj_K (Int32 × pj_Z) := fun lv st z => pj_xr lv 0 1 0 <| pj_xw lv 3 15 fun a3 => pj_xi lv 4 fun a4 => pj_pi st fun b0 st => pj_pe st (f a3 a4 b0 z.1 z.2.1 z.2.2.1 z.2.2.2)
abbrev pe_X4_writeCopy_v1_105 (f : Nat → Int32 → Int32 → Int32 → Int32 → pj_F (Int32 × pj_Z)) : pj_K (Int32 × pj_Z) := fun lv st z => pj_xr lv 0 1 0 <| pj_xw lv 3 15 fun a3 => pj_xi lv 4 fun a4 => pj_xi lv 5 fun a5 => pj_xi lv 6 fun a6 => pj_xi lv 7 fun a7 => pj_pe st (f a3 a4 a5 a6 a7 z.1 z.2.1 z.2.2.1 z.2.2.2)
abbrev pe_X4_writeCopy_v1_139 (f : Nat → Int32 → Int32 → pj_F (Int32 × pj_Z)) : pj_K (Int32 × pj_Z) := fun lv st z => pj_xr lv 0 1 0 <| pj_xw lv 3 15 fun a3 => pj_xi lv 5 fun a5 => pj_xi lv 6 fun a6 => pj_pe st (f a3 a5 a6 z.1 z.2.1 z.2.2.1 z.2.2.2)
abbrev px_X4_writeCopy_v1 : pj_C (Int32 × pj_Z) := ((pj_as [(1, 4, 10, 1, 0, true, 0, [(2, 2), (2, 3), (2, 8), (2, 11), (2, 14), (2, 17), (2, 18), (2, 19), (0, 44), (1, 3)]), (14, 103, 2, 1, 0, true, 15, []), (15, 100, 34, 2, 1, true, 14000, []), (17, 100, 55, 1, 0, false, 1000, []), (18, 100, 2, 1, 0, false, 2000, []), (19, 100, 2, 1, 0, false, 3000, [])]), (pj_as [(26, 4, 4, 2, true), (29, 4, 5, 2, true), (32, 4, 6, 2, true), (35, 4, 7, 2, true)]), (fun _ => none), (fun _ => none), (fun _ => none), ic_X, 8, 2, pj_mI, (pj_as [(89, ph_X4_sumOf), (97, ph_X4_writeWord_v3), (128, ph_X4_writeWord_v3), (149, ph_X4_writeWord_v3)]), fun _ => false)
abbrev pk_X4_writeCopy_v1 : List (Nat × List (Nat × Instr × Nat)) := [(0, [(0, .iload_n 1, 1), (1, .ifCond .eq 10, 3)]), (4, [(4, .iload_n 1, 1), (5, .iconst 1, 1), (6, .if_icmp .eq 5, 3)]), (11, [(11, .iload_n 1, 1), (12, .iconst 1, 1), (13, .if_icmp .ne 10, 3)]), (16, [(16, .aload_n 0, 1), (17, .getfield 26, 3), (20, .goto 7, 3)]), (27, [(27, .astore_n 2, 1), (28, .aload_n 2, 1), (29, .aload_n 0, 1), (30, .getfield 32, 3), (33, .iload_n 1, 1), (34, .iaload, 1), (35, .ifCond .ne 7, 3)]), (38, [(38, .iconst 1, 1), (39, .goto 4, 3)]), (42, [(42, .iconst 0, 1)]), (43, [(43, .aaload, 1), (44, .astore_n 3, 1), (45, .aload_n 3, 1), (46, .arraylength, 1), (47, .iconst 1, 1), (48, .isub, 1), (49, .istore 4, 2), (51, .aload_n 0, 1), (52, .getfield 32, 3), (55, .iload_n 1, 1), (56, .iaload, 1), (57, .iconst (-1), 1), (58, .if_icmp .ne 7, 3)]), (61, [(61, .iconst 1, 1), (62, .goto 11, 3)]), (65, [(65, .aload_n 0, 1), (66, .getfield 35, 3), (69, .iload_n 1, 1), (70, .iaload, 1), (71, .iconst 1, 1), (72, .iadd, 1)]), (73, [(73, .istore 5, 2), (75, .aload_n 0, 1), (76, .getfield 29, 3), (79, .iload 4, 2), (81, .aload_n 0, 1), (82, .getfield 29, 3), (85, .iload 4, 2), (87, .iload 5, 2), (89, .invokestatic 77, 3), (92, .iastore, 1), (93, .aload_n 0, 1), (94, .aload_n 3, 1), (95, .iconst 0, 1), (96, .iconst 0, 1), (97, .invokevirtual 85, 3), (100, .istore 6, 2), (102, .iconst 1, 1), (103, .istore 7, 2)]), (105, [(105, .iload 6, 2), (107, .ifCond .eq 32, 3)]), (110, [(110, .iload 7, 2), (112, .iload 4, 2), (114, .if_icmp .gt 25, 3)]), (117, [(117, .aload_n 0, 1), (118, .aload_n 3, 1), (119, .iload 7, 2), (121, .aload_n 0, 1), (122, .getfield 29, 3), (125, .iload 7, 2), (127, .iaload, 1), (128, .invokevirtual 85, 3), (131, .istore 6, 2), (133, .iinc 7 1, 3), (136, .goto (-31), 3)]), (139, [(139, .iload 6, 2), (141, .ifCond .eq 18, 3)]), (144, [(144, .aload_n 0, 1), (145, .aload_n 3, 1), (146, .iconst 0, 1), (147, .iload 5, 2), (149, .invokevirtual 85, 3), (152, .ifCond .eq 7, 3)]), (155, [(155, .iconst 1, 1), (156, .goto 4, 3)]), (159, [(159, .iconst 0, 1)]), (160, [(160, .ireturn, 1)])]
set_option maxRecDepth 100000 in
theorem pq_X4_writeCopy_v1_139 (fu : Nat)  (a3 : Nat) (a5 : Int32) (a6 : Int32) (s : Nat → Int32) (l : Nat → Int64) (x : Nat → Int32) (y : Nat → Int64) : pl_X4_writeCopy_v1_139 fu a3 a5 a6 s l x y = pj_bl px_X4_writeCopy_v1 (pj_rn px_X4_writeCopy_v1 (pj_as pk_X4_writeCopy_v1) (fun _ => none) 60) [(139, .iload 6, 2), (141, .ifCond .eq 18, 3)] 139 [(0, pj_O (1, 0)), (3, pj_W (15, a3)), (5, pj_I a5), (6, pj_I a6)] [] (s, l, x, y) := rfl
set_option maxRecDepth 100000 in
theorem pq_X4_writeCopy_v1_105 (fu : Nat)  (n : Nat) (a3 : Nat) (a4 : Int32) (a5 : Int32) (a6 : Int32) (a7 : Int32) (s : Nat → Int32) (l : Nat → Int64) (x : Nat → Int32) (y : Nat → Int64) : pl_X4_writeCopy_v1_105 fu (n + 1) a3 a4 a5 a6 a7 s l x y = pj_bl px_X4_writeCopy_v1 (pj_rn px_X4_writeCopy_v1 (pj_as pk_X4_writeCopy_v1) (pj_as [(105, pe_X4_writeCopy_v1_105 (pl_X4_writeCopy_v1_105 fu n)), (139, pe_X4_writeCopy_v1_139 (pl_X4_writeCopy_v1_139 fu))]) 60) [(105, .iload 6, 2), (107, .ifCond .eq 32, 3)] 105 [(0, pj_O (1, 0)), (3, pj_W (15, a3)), (4, pj_I a4), (5, pj_I a5), (6, pj_I a6), (7, pj_I a7)] [] (s, l, x, y) := rfl
set_option maxRecDepth 100000 in
theorem pq_X4_writeCopy_v1_73 (fu : Nat)  (a3 : Nat) (a4 : Int32) (b0 : Int32) (s : Nat → Int32) (l : Nat → Int64) (x : Nat → Int32) (y : Nat → Int64) : pl_X4_writeCopy_v1_73 fu a3 a4 b0 s l x y = pj_bl px_X4_writeCopy_v1 (pj_rn px_X4_writeCopy_v1 (pj_as pk_X4_writeCopy_v1) (pj_as [(105, pe_X4_writeCopy_v1_105 (pl_X4_writeCopy_v1_105 fu fu))]) 60) [(73, .istore 5, 2), (75, .aload_n 0, 1), (76, .getfield 29, 3), (79, .iload 4, 2), (81, .aload_n 0, 1), (82, .getfield 29, 3), (85, .iload 4, 2), (87, .iload 5, 2), (89, .invokestatic 77, 3), (92, .iastore, 1), (93, .aload_n 0, 1), (94, .aload_n 3, 1), (95, .iconst 0, 1), (96, .iconst 0, 1), (97, .invokevirtual 85, 3), (100, .istore 6, 2), (102, .iconst 1, 1), (103, .istore 7, 2)] 73 [(0, pj_O (1, 0)), (3, pj_W (15, a3)), (4, pj_I a4)] [pj_I b0] (s, l, x, y) := rfl
set_option maxRecDepth 100000 in
theorem pq_X4_writeCopy_v1_43 (fu : Nat)  (b1 : Int32) (s : Nat → Int32) (l : Nat → Int64) (x : Nat → Int32) (y : Nat → Int64) : pl_X4_writeCopy_v1_43 fu b1 s l x y = pj_bl px_X4_writeCopy_v1 (pj_rn px_X4_writeCopy_v1 (pj_as pk_X4_writeCopy_v1) (pj_as [(73, pe_X4_writeCopy_v1_73 (pl_X4_writeCopy_v1_73 fu))]) 60) [(43, .aaload, 1), (44, .astore_n 3, 1), (45, .aload_n 3, 1), (46, .arraylength, 1), (47, .iconst 1, 1), (48, .isub, 1), (49, .istore 4, 2), (51, .aload_n 0, 1), (52, .getfield 32, 3), (55, .iload_n 1, 1), (56, .iaload, 1), (57, .iconst (-1), 1), (58, .if_icmp .ne 7, 3)] 43 [(0, pj_O (1, 0)), (1, pj_N 1)] [pj_I b1, pj_O (14, 0)] (s, l, x, y) := rfl
set_option maxRecDepth 100000 in
theorem pq_X4_writeCopy_v1_m (fu : Nat)   (s : Nat → Int32) (l : Nat → Int64) (x : Nat → Int32) (y : Nat → Int64) : po_X4_writeCopy_v1 fu  s l x y = pj_bl px_X4_writeCopy_v1 (pj_rn px_X4_writeCopy_v1 (pj_as pk_X4_writeCopy_v1) (pj_as [(43, pe_X4_writeCopy_v1_43 (pl_X4_writeCopy_v1_43 fu))]) 60) [(0, .iload_n 1, 1), (1, .ifCond .eq 10, 3)] 0 [(0, pj_O (1, 0)), (1, pj_N 1)] [] (s, l, x, y) := rfl
theorem pu_X4_writeCopy_v1_43 {lf : pj_Z → mj_M} {a : Int32 × pj_Z} (f : Int32 → pj_F (Int32 × pj_Z)) (hf : ∀ (b1 : Int32) (s : Nat → Int32) (l : Nat → Int64) (x : Nat → Int32) (y : Nat → Int64), f b1 s l x y = some a → pm_Gd 1 4009 ie_X4_writeCopy.1 pm_rI lf 43 [(0, .ref 1), (1, .int (Int32.ofInt 1))] [.int b1, .ref 14] (s, l, x, y) a) : pm_Ex 1 4009 ie_X4_writeCopy.1 pm_rI lf a 43 (pe_X4_writeCopy_v1_43 f) := by
  intro lv st z hd h
  obtain ⟨g0, h⟩ := pj_xr_inv h
  obtain ⟨g1, h⟩ := pj_xc_inv h
  obtain ⟨b1, r1, e1, h⟩ := pj_pi_inv h
  obtain ⟨r0, e0, h⟩ := pj_pr_inv h
  obtain ⟨e9, h⟩ := pj_pe_inv h
  rw [e1, e0, e9]
  exact mj_wp_sub (mj_sub_cons g0 (mj_sub_cons g1 (mj_sub_nil hd))) (hf _ _ _ _ _ h)
theorem pu_X4_writeCopy_v1_73 {lf : pj_Z → mj_M} {a : Int32 × pj_Z} (f : Nat → Int32 → Int32 → pj_F (Int32 × pj_Z)) (hf : ∀ (a3 : Nat) (a4 : Int32) (b0 : Int32) (s : Nat → Int32) (l : Nat → Int64) (x : Nat → Int32) (y : Nat → Int64), f a3 a4 b0 s l x y = some a → pm_Gd 1 4009 ie_X4_writeCopy.1 pm_rI lf 73 [(0, .ref 1), (3, .ref (15 + a3)), (4, .int a4)] [.int b0] (s, l, x, y) a) : pm_Ex 1 4009 ie_X4_writeCopy.1 pm_rI lf a 73 (pe_X4_writeCopy_v1_73 f) := by
  intro lv st z hd h
  obtain ⟨g0, h⟩ := pj_xr_inv h
  obtain ⟨a3, g3, h⟩ := pj_xw_inv h
  obtain ⟨a4, g4, h⟩ := pj_xi_inv h
  obtain ⟨b0, r0, e0, h⟩ := pj_pi_inv h
  obtain ⟨e9, h⟩ := pj_pe_inv h
  rw [e0, e9]
  exact mj_wp_sub (mj_sub_cons g0 (mj_sub_cons g3 (mj_sub_cons g4 (mj_sub_nil hd)))) (hf _ _ _ _ _ _ _ h)
theorem pu_X4_writeCopy_v1_105 {lf : pj_Z → mj_M} {a : Int32 × pj_Z} (f : Nat → Int32 → Int32 → Int32 → Int32 → pj_F (Int32 × pj_Z)) (hf : ∀ (a3 : Nat) (a4 : Int32) (a5 : Int32) (a6 : Int32) (a7 : Int32) (s : Nat → Int32) (l : Nat → Int64) (x : Nat → Int32) (y : Nat → Int64), f a3 a4 a5 a6 a7 s l x y = some a → pm_Gd 1 4009 ie_X4_writeCopy.1 pm_rI lf 105 [(0, .ref 1), (3, .ref (15 + a3)), (4, .int a4), (5, .int a5), (6, .int a6), (7, .int a7)] [] (s, l, x, y) a) : pm_Ex 1 4009 ie_X4_writeCopy.1 pm_rI lf a 105 (pe_X4_writeCopy_v1_105 f) := by
  intro lv st z hd h
  obtain ⟨g0, h⟩ := pj_xr_inv h
  obtain ⟨a3, g3, h⟩ := pj_xw_inv h
  obtain ⟨a4, g4, h⟩ := pj_xi_inv h
  obtain ⟨a5, g5, h⟩ := pj_xi_inv h
  obtain ⟨a6, g6, h⟩ := pj_xi_inv h
  obtain ⟨a7, g7, h⟩ := pj_xi_inv h
  obtain ⟨e9, h⟩ := pj_pe_inv h
  rw [e9]
  exact mj_wp_sub (mj_sub_cons g0 (mj_sub_cons g3 (mj_sub_cons g4 (mj_sub_cons g5 (mj_sub_cons g6 (mj_sub_cons g7 (mj_sub_nil hd))))))) (hf _ _ _ _ _ _ _ _ _ h)
theorem pu_X4_writeCopy_v1_139 {lf : pj_Z → mj_M} {a : Int32 × pj_Z} (f : Nat → Int32 → Int32 → pj_F (Int32 × pj_Z)) (hf : ∀ (a3 : Nat) (a5 : Int32) (a6 : Int32) (s : Nat → Int32) (l : Nat → Int64) (x : Nat → Int32) (y : Nat → Int64), f a3 a5 a6 s l x y = some a → pm_Gd 1 4009 ie_X4_writeCopy.1 pm_rI lf 139 [(0, .ref 1), (3, .ref (15 + a3)), (5, .int a5), (6, .int a6)] [] (s, l, x, y) a) : pm_Ex 1 4009 ie_X4_writeCopy.1 pm_rI lf a 139 (pe_X4_writeCopy_v1_139 f) := by
  intro lv st z hd h
  obtain ⟨g0, h⟩ := pj_xr_inv h
  obtain ⟨a3, g3, h⟩ := pj_xw_inv h
  obtain ⟨a5, g5, h⟩ := pj_xi_inv h
  obtain ⟨a6, g6, h⟩ := pj_xi_inv h
  obtain ⟨e9, h⟩ := pj_pe_inv h
  rw [e9]
  exact mj_wp_sub (mj_sub_cons g0 (mj_sub_cons g3 (mj_sub_cons g5 (mj_sub_cons g6 (mj_sub_nil hd))))) (hf _ _ _ _ _ _ _ h)
set_option maxRecDepth 100000 in
theorem pz_X4_writeCopy_v1 {lf : pj_Z → mj_M} (hT : pj_Lt pj_TC lf) : pj_Cok ic_P (mj_R ic_P 1) 4009 ie_X4_writeCopy.1 (pm_OK lf pm_rI) lf px_X4_writeCopy_v1 := by
  exact pm_cok (c := px_X4_writeCopy_v1) (pm_part hT (pj_as_all (p := fun b e => pj_TC b = some e) (List.forall_mem_cons.mpr ⟨rfl, (List.forall_mem_cons.mpr ⟨rfl, (List.forall_mem_cons.mpr ⟨rfl, (List.forall_mem_cons.mpr ⟨rfl, (List.forall_mem_cons.mpr ⟨rfl, (List.forall_mem_cons.mpr ⟨rfl, (fun _ h => by cases h)⟩)⟩)⟩)⟩)⟩)⟩))) (pm_in_ok (L := [(26, 4, 4, 2, true), (29, 4, 5, 2, true), (32, 4, 6, 2, true), (35, 4, 7, 2, true)]) (f := mj_pF ic_P 4009) (by decide +kernel)) (fun _ _ h => by cases h) (fun _ _ h => by cases h) (fun _ _ h => by cases h) rfl rfl ⟨by decide, rfl⟩ pm_mI (pj_as_all (p := pm_Cl 1 4009 ie_X4_writeCopy.1 lf (pm_OK lf pm_rI)) (List.forall_mem_cons.mpr ⟨fun _ _ lv st z K a hK h => pc_X4_sumOf hT (by decide) (ix := 77) rfl rfl hK h, (List.forall_mem_cons.mpr ⟨fun _ _ lv st z K a hK h => pc_X4_writeWord_v3 hT (by decide) (ix := 85) rfl rfl hK h, (List.forall_mem_cons.mpr ⟨fun _ _ lv st z K a hK h => pc_X4_writeWord_v3 hT (by decide) (ix := 85) rfl rfl hK h, (List.forall_mem_cons.mpr ⟨fun _ _ lv st z K a hK h => pc_X4_writeWord_v3 hT (by decide) (ix := 85) rfl rfl hK h, (fun _ h => by cases h)⟩)⟩)⟩)⟩)) (fun _ h => by cases h)
set_option maxRecDepth 100000 in
theorem pb_X4_writeCopy_v1 : pm_bks ie_X4_writeCopy.1.2.2.2.2 pk_X4_writeCopy_v1 = true := by decide +kernel
set_option maxRecDepth 100000 in
theorem pg_X4_writeCopy_v1_139 {fu : Nat} {lf : pj_Z → mj_M} (hT : pj_Lt pj_TC lf) : ∀ (a3 : Nat) (a5 : Int32) (a6 : Int32) (s : Nat → Int32) (l : Nat → Int64) (x : Nat → Int32) (y : Nat → Int64) (a : Int32 × pj_Z), pl_X4_writeCopy_v1_139 fu a3 a5 a6 s l x y = some a → pm_Gd 1 4009 ie_X4_writeCopy.1 pm_rI lf 139 [(0, .ref 1), (3, .ref (15 + a3)), (5, .int a5), (6, .int a6)] [] (s, l, x, y) a := by
  intro a3 a5 a6 s l x y a h
  exact pm_run ((pq_X4_writeCopy_v1_139 fu a3 a5 a6 s l x y).symm.trans h) (pz_X4_writeCopy_v1 hT) (pm_bks_ok pb_X4_writeCopy_v1) (pm_bks_ok pb_X4_writeCopy_v1 _ _ rfl) (pm_ndb_ok rfl) (fun _ _ h => by cases h)
set_option maxRecDepth 100000 in
theorem pg_X4_writeCopy_v1_105 {fu : Nat} {lf : pj_Z → mj_M} (hT : pj_Lt pj_TC lf) : ∀ (n : Nat), ∀ (a3 : Nat) (a4 : Int32) (a5 : Int32) (a6 : Int32) (a7 : Int32) (s : Nat → Int32) (l : Nat → Int64) (x : Nat → Int32) (y : Nat → Int64) (a : Int32 × pj_Z), pl_X4_writeCopy_v1_105 fu n a3 a4 a5 a6 a7 s l x y = some a → pm_Gd 1 4009 ie_X4_writeCopy.1 pm_rI lf 105 [(0, .ref 1), (3, .ref (15 + a3)), (4, .int a4), (5, .int a5), (6, .int a6), (7, .int a7)] [] (s, l, x, y) a := by
  intro n
  induction n with
  | zero => intro a3 a4 a5 a6 a7 s l x y a h; cases (show (none : Option (Int32 × pj_Z)) = some a from h)
  | succ n ih =>
    intro a3 a4 a5 a6 a7 s l x y a h
    exact pm_run ((pq_X4_writeCopy_v1_105 fu n a3 a4 a5 a6 a7 s l x y).symm.trans h) (pz_X4_writeCopy_v1 hT) (pm_bks_ok pb_X4_writeCopy_v1) (pm_bks_ok pb_X4_writeCopy_v1 _ _ rfl) (pm_ndb_ok rfl) (pj_as_all (p := pm_Ex 1 4009 ie_X4_writeCopy.1 pm_rI lf a) (List.forall_mem_cons.mpr ⟨pu_X4_writeCopy_v1_105 _ (fun c0 c1 c2 c3 c4 s l x y h => ih c0 c1 c2 c3 c4 s l x y _ h), (List.forall_mem_cons.mpr ⟨pu_X4_writeCopy_v1_139 _ (fun c0 c1 c2 s l x y h => pg_X4_writeCopy_v1_139 hT c0 c1 c2 s l x y _ h), (fun _ h => by cases h)⟩)⟩))
set_option maxRecDepth 100000 in
theorem pg_X4_writeCopy_v1_73 {fu : Nat} {lf : pj_Z → mj_M} (hT : pj_Lt pj_TC lf) : ∀ (a3 : Nat) (a4 : Int32) (b0 : Int32) (s : Nat → Int32) (l : Nat → Int64) (x : Nat → Int32) (y : Nat → Int64) (a : Int32 × pj_Z), pl_X4_writeCopy_v1_73 fu a3 a4 b0 s l x y = some a → pm_Gd 1 4009 ie_X4_writeCopy.1 pm_rI lf 73 [(0, .ref 1), (3, .ref (15 + a3)), (4, .int a4)] [.int b0] (s, l, x, y) a := by
  intro a3 a4 b0 s l x y a h
  exact pm_run ((pq_X4_writeCopy_v1_73 fu a3 a4 b0 s l x y).symm.trans h) (pz_X4_writeCopy_v1 hT) (pm_bks_ok pb_X4_writeCopy_v1) (pm_bks_ok pb_X4_writeCopy_v1 _ _ rfl) (pm_ndb_ok rfl) (pj_as_all (p := pm_Ex 1 4009 ie_X4_writeCopy.1 pm_rI lf a) (List.forall_mem_cons.mpr ⟨pu_X4_writeCopy_v1_105 _ (fun c0 c1 c2 c3 c4 s l x y h => pg_X4_writeCopy_v1_105 hT _ c0 c1 c2 c3 c4 s l x y _ h), (fun _ h => by cases h)⟩))
set_option maxRecDepth 100000 in
theorem pg_X4_writeCopy_v1_43 {fu : Nat} {lf : pj_Z → mj_M} (hT : pj_Lt pj_TC lf) : ∀ (b1 : Int32) (s : Nat → Int32) (l : Nat → Int64) (x : Nat → Int32) (y : Nat → Int64) (a : Int32 × pj_Z), pl_X4_writeCopy_v1_43 fu b1 s l x y = some a → pm_Gd 1 4009 ie_X4_writeCopy.1 pm_rI lf 43 [(0, .ref 1), (1, .int (Int32.ofInt 1))] [.int b1, .ref 14] (s, l, x, y) a := by
  intro b1 s l x y a h
  exact pm_run ((pq_X4_writeCopy_v1_43 fu b1 s l x y).symm.trans h) (pz_X4_writeCopy_v1 hT) (pm_bks_ok pb_X4_writeCopy_v1) (pm_bks_ok pb_X4_writeCopy_v1 _ _ rfl) (pm_ndb_ok rfl) (pj_as_all (p := pm_Ex 1 4009 ie_X4_writeCopy.1 pm_rI lf a) (List.forall_mem_cons.mpr ⟨pu_X4_writeCopy_v1_73 _ (fun c0 c1 c2 s l x y h => pg_X4_writeCopy_v1_73 hT c0 c1 c2 s l x y _ h), (fun _ h => by cases h)⟩))
set_option maxRecDepth 100000 in
theorem pm_X4_writeCopy_v1 {lf : pj_Z → mj_M} (hT : pj_Lt pj_TC lf)  (s : Nat → Int32) (l : Nat → Int64) (x : Nat → Int32) (y : Nat → Int64) (a : Int32 × pj_Z) (h : pf_X4_writeCopy_v1  s l x y = some a) : mj_R ic_P 2 4009 [.ref 1, .int (Int32.ofInt 1)] (lf (s, l, x, y)) (pm_rI a.1) (lf a.2) := by
  refine pm_main (Y := ie_X4_writeCopy.1) rfl (Nat.le_of_ble_eq_true rfl) ?_
  exact pm_run ((pq_X4_writeCopy_v1_m 1000  s l x y).symm.trans h) (pz_X4_writeCopy_v1 hT) (pm_bks_ok pb_X4_writeCopy_v1) (pm_bks_ok pb_X4_writeCopy_v1 _ _ rfl) (pm_ndb_ok rfl) (pj_as_all (p := pm_Ex 1 4009 ie_X4_writeCopy.1 pm_rI lf a) (List.forall_mem_cons.mpr ⟨pu_X4_writeCopy_v1_43 _ (fun c0 s l x y h => pg_X4_writeCopy_v1_43 hT c0 s l x y _ h), (fun _ h => by cases h)⟩))
abbrev ph_X4_writeCopy_v1 {A : Type} : List pj_V → pj_Z → (List pj_V → pj_Z → Option A) → Option A := fun st z K => pj_pc st 1 fun st => pj_pr st 1 0 fun st => pj_ps st (pj_b (pf_X4_writeCopy_v1  z.1 z.2.1 z.2.2.1 z.2.2.2) fun r s l x y => K (pj_I r :: st) (s, l, x, y))
set_option maxRecDepth 100000 in
theorem pc_X4_writeCopy_v1 {A : Type} {OK : A → Option Value → mj_M → Prop} {d j pc ix : Nat} {Y : mj_Y} {lf : pj_Z → mj_M} (hT : pj_Lt pj_TC lf) (hd : 2 ≤ d) (hl : mj_lk Y.2.2.2.2 pc = some (.invokevirtual ix, 3)) (hg : mj_pG ic_P j ix = some (4009, 1, some 4)) {lv : List (Nat × Value)} {st : List pj_V} {z : pj_Z} {K : List pj_V → pj_Z → Option A} {a : A} (hK : ∀ st z, K st z = some a → pj_Gd ic_P (mj_R ic_P d) j Y OK lf (pc + 3) lv (pj_es st) z a) (h : ph_X4_writeCopy_v1 st z K = some a) : pj_Gd ic_P (mj_R ic_P d) j Y OK lf pc lv (pj_es st) z a := by
  obtain ⟨r1, e1, h⟩ := pj_pc_inv h
  obtain ⟨r0, e0, h⟩ := pj_pr_inv h
  obtain ⟨hs, h⟩ := pj_ps_inv h
  obtain ⟨q, hq, h⟩ := pj_b_inv h
  exact pm_cv (o := 1) hl hg [.int (Int32.ofInt 1)] rfl (by rw [e1, e0]; rfl) hs (by decide) ((hT.2 1 _ rfl).1.2 z 0 (by decide)) (pm_rI q.1) hd (pm_X4_writeCopy_v1 hT  z.1 z.2.1 z.2.2.1 z.2.2.2 q hq) rfl (hK _ _ h)
abbrev px_X11_writeBook : pj_C (Int32 × pj_Z) := ((pj_as [(0, 11, 17, 1, 0, true, 0, [(2, 1), (2, 20), (2, 58), (2, 68), (2, 82), (2, 83), (2, 85), (2, 96), (2, 102), (2, 106), (2, 122), (0, 93), (0, 94), (0, 95), (1, 1), (1, 2), (0, 96)]), (1, 4, 10, 1, 0, true, 0, [(2, 2), (2, 3), (2, 8), (2, 11), (2, 14), (2, 17), (2, 18), (2, 19), (0, 44), (1, 3)]), (8, 103, 2, 1, 0, true, 9, []), (9, 100, 16, 2, 1, true, 12000, []), (17, 100, 55, 1, 0, false, 1000, [])]), (pj_as [(10, 11, 0, 2, true), (271, 4, 2, 2, true), (861, 4, 5, 2, true)]), (fun _ => none), (fun _ => none), (fun _ => none), ic_X, 2, 2, pj_mI, (pj_as [(52, ph_X4_writeCopy_v1), (61, ph_X4_lookOver_v1)]), pj_mem [870])
abbrev pk_X11_writeBook : List (Nat × List (Nat × Instr × Nat)) := [(0, [(0, .aload_n 0, 1), (1, .getfield 10, 3), (4, .getfield 271, 3), (7, .iconst 0, 1), (8, .aaload, 1), (9, .iconst 0, 1), (10, .aload_n 0, 1), (11, .getfield 10, 3), (14, .getfield 861, 3), (17, .iconst 1, 1), (18, .bipush 16, 2), (20, .invokestatic 870, 3), (23, .aload_n 0, 1), (24, .getfield 10, 3), (27, .getfield 271, 3), (30, .iconst 1, 1), (31, .aaload, 1), (32, .iconst 0, 1), (33, .aload_n 0, 1), (34, .getfield 10, 3), (37, .getfield 861, 3), (40, .bipush 17, 2), (42, .bipush 16, 2), (44, .invokestatic 870, 3), (47, .aload_n 0, 1), (48, .getfield 10, 3), (51, .iconst 1, 1), (52, .invokevirtual 867, 3), (55, .istore_n 1, 1), (56, .aload_n 0, 1), (57, .getfield 10, 3), (60, .iconst 1, 1), (61, .invokevirtual 295, 3), (64, .iload_n 1, 1), (65, .ireturn, 1)])]
set_option maxRecDepth 100000 in
theorem pq_X11_writeBook_m   (s : Nat → Int32) (l : Nat → Int64) (x : Nat → Int32) (y : Nat → Int64) : pf_X11_writeBook  s l x y = pj_bl px_X11_writeBook (pj_rn px_X11_writeBook (pj_as pk_X11_writeBook) (fun _ => none) 60) [(0, .aload_n 0, 1), (1, .getfield 10, 3), (4, .getfield 271, 3), (7, .iconst 0, 1), (8, .aaload, 1), (9, .iconst 0, 1), (10, .aload_n 0, 1), (11, .getfield 10, 3), (14, .getfield 861, 3), (17, .iconst 1, 1), (18, .bipush 16, 2), (20, .invokestatic 870, 3), (23, .aload_n 0, 1), (24, .getfield 10, 3), (27, .getfield 271, 3), (30, .iconst 1, 1), (31, .aaload, 1), (32, .iconst 0, 1), (33, .aload_n 0, 1), (34, .getfield 10, 3), (37, .getfield 861, 3), (40, .bipush 17, 2), (42, .bipush 16, 2), (44, .invokestatic 870, 3), (47, .aload_n 0, 1), (48, .getfield 10, 3), (51, .iconst 1, 1), (52, .invokevirtual 867, 3), (55, .istore_n 1, 1), (56, .aload_n 0, 1), (57, .getfield 10, 3), (60, .iconst 1, 1), (61, .invokevirtual 295, 3), (64, .iload_n 1, 1), (65, .ireturn, 1)] 0 [(0, pj_O (0, 0))] [] (s, l, x, y) := rfl
set_option maxRecDepth 100000 in
theorem pz_X11_writeBook {lf : pj_Z → mj_M} (hT : pj_Lt pj_TC lf) : pj_Cok ic_P (mj_R ic_P 3) 11083 ie_X11_writeBook.1 (pm_OK lf pm_rI) lf px_X11_writeBook := by
  exact pm_cok (c := px_X11_writeBook) (pm_part hT (pj_as_all (p := fun b e => pj_TC b = some e) (List.forall_mem_cons.mpr ⟨rfl, (List.forall_mem_cons.mpr ⟨rfl, (List.forall_mem_cons.mpr ⟨rfl, (List.forall_mem_cons.mpr ⟨rfl, (List.forall_mem_cons.mpr ⟨rfl, (fun _ h => by cases h)⟩)⟩)⟩)⟩)⟩))) (pm_in_ok (L := [(10, 11, 0, 2, true), (271, 4, 2, 2, true), (861, 4, 5, 2, true)]) (f := mj_pF ic_P 11083) (by decide +kernel)) (fun _ _ h => by cases h) (fun _ _ h => by cases h) (fun _ _ h => by cases h) rfl rfl ⟨by decide, rfl⟩ pm_mI (pj_as_all (p := pm_Cl 3 11083 ie_X11_writeBook.1 lf (pm_OK lf pm_rI)) (List.forall_mem_cons.mpr ⟨fun _ _ lv st z K a hK h => pc_X4_writeCopy_v1 hT (by decide) (ix := 867) rfl rfl hK h, (List.forall_mem_cons.mpr ⟨fun _ _ lv st z K a hK h => pc_X4_lookOver_v1 hT (by decide) (ix := 295) rfl rfl hK h, (fun _ h => by cases h)⟩)⟩)) (pj_mem_all (p := fun ix => mj_pC ic_P 11083 ix = true) (by simp only [List.mem_cons, List.not_mem_nil, or_false, forall_eq_or_imp, forall_eq]; exact rfl))
set_option maxRecDepth 100000 in
theorem pb_X11_writeBook : pm_bks ie_X11_writeBook.1.2.2.2.2 pk_X11_writeBook = true := by decide +kernel
set_option maxRecDepth 100000 in
theorem pm_X11_writeBook {lf : pj_Z → mj_M} (hT : pj_Lt pj_TC lf)  (s : Nat → Int32) (l : Nat → Int64) (x : Nat → Int32) (y : Nat → Int64) (a : Int32 × pj_Z) (h : pf_X11_writeBook  s l x y = some a) : mj_R ic_P 4 11083 [.ref 0] (lf (s, l, x, y)) (pm_rI a.1) (lf a.2) := by
  refine pm_main (Y := ie_X11_writeBook.1) rfl (Nat.le_of_ble_eq_true rfl) ?_
  exact pm_run ((pq_X11_writeBook_m  s l x y).symm.trans h) (pz_X11_writeBook hT) (pm_bks_ok pb_X11_writeBook) (pm_bks_ok pb_X11_writeBook _ _ rfl) (pm_ndb_ok rfl) (fun _ _ h => by cases h)
abbrev ph_X11_writeBook {A : Type} : List pj_V → pj_Z → (List pj_V → pj_Z → Option A) → Option A := fun st z K => pj_pr st 0 0 fun st => pj_ps st (pj_b (pf_X11_writeBook  z.1 z.2.1 z.2.2.1 z.2.2.2) fun r s l x y => K (pj_I r :: st) (s, l, x, y))
set_option maxRecDepth 100000 in
theorem pc_X11_writeBook {A : Type} {OK : A → Option Value → mj_M → Prop} {d j pc ix : Nat} {Y : mj_Y} {lf : pj_Z → mj_M} (hT : pj_Lt pj_TC lf) (hd : 4 ≤ d) (hl : mj_lk Y.2.2.2.2 pc = some (.invokevirtual ix, 3)) (hg : mj_pG ic_P j ix = some (11083, 0, some 11)) {lv : List (Nat × Value)} {st : List pj_V} {z : pj_Z} {K : List pj_V → pj_Z → Option A} {a : A} (hK : ∀ st z, K st z = some a → pj_Gd ic_P (mj_R ic_P d) j Y OK lf (pc + 3) lv (pj_es st) z a) (h : ph_X11_writeBook st z K = some a) : pj_Gd ic_P (mj_R ic_P d) j Y OK lf pc lv (pj_es st) z a := by
  obtain ⟨r0, e0, h⟩ := pj_pr_inv h
  obtain ⟨hs, h⟩ := pj_ps_inv h
  obtain ⟨q, hq, h⟩ := pj_b_inv h
  exact pm_cv (o := 0) hl hg [] rfl (by rw [e0]; rfl) hs (by decide) ((hT.2 0 _ rfl).1.2 z 0 (by decide)) (pm_rI q.1) hd (pm_X11_writeBook hT  z.1 z.2.1 z.2.2.1 z.2.2.2 q hq) rfl (hK _ _ h)
abbrev px_X8_say : pj_C (Int32 × pj_Z) := ((pj_as [(96, 8, 18, 1, 0, true, 0, [(2, 97), (0, 62), (1, 18), (0, 63), (0, 64), (0, 65), (0, 66), (1, 19), (0, 67), (0, 68), (2, 98), (0, 69), (2, 99), (1, 20), (0, 70), (1, 21), (2, 100), (2, 101)]), (99, 100, 64, 1, 0, false, 9000, [])]), (pj_as [(18, 8, 12, 2, true), (71, 8, 13, 0, false)]), (fun _ => none), (fun _ => none), (fun _ => none), ic_X, 2, 1, pj_mI, (fun _ => none), fun _ => false)
abbrev pk_X8_say : List (Nat × List (Nat × Instr × Nat)) := [(0, [(0, .aload_n 0, 1), (1, .getfield 71, 3), (4, .bipush 63, 2), (6, .if_icmp .ge 27, 3)]), (9, [(9, .aload_n 0, 1), (10, .getfield 18, 3), (13, .aload_n 0, 1), (14, .getfield 71, 3), (17, .iload_n 1, 1), (18, .sipush 255, 3), (21, .iand, 1), (22, .iastore, 1), (23, .aload_n 0, 1), (24, .dup, 1), (25, .getfield 71, 3), (28, .iconst 1, 1), (29, .iadd, 1), (30, .putfield 71, 3)]), (33, [(33, .iconst 0, 1), (34, .ireturn, 1)])]
set_option maxRecDepth 100000 in
theorem pq_X8_say_m  (a1 : Int32) (s : Nat → Int32) (l : Nat → Int64) (x : Nat → Int32) (y : Nat → Int64) : pf_X8_say a1 s l x y = pj_bl px_X8_say (pj_rn px_X8_say (pj_as pk_X8_say) (fun _ => none) 60) [(0, .aload_n 0, 1), (1, .getfield 71, 3), (4, .bipush 63, 2), (6, .if_icmp .ge 27, 3)] 0 [(0, pj_O (96, 0)), (1, pj_I a1)] [] (s, l, x, y) := rfl
set_option maxRecDepth 100000 in
theorem pz_X8_say {lf : pj_Z → mj_M} (hT : pj_Lt pj_TC lf) : pj_Cok ic_P (mj_R ic_P 0) 8008 ie_X8_say.1 (pm_OK lf pm_rI) lf px_X8_say := by
  exact pm_cok (c := px_X8_say) (pm_part hT (pj_as_all (p := fun b e => pj_TC b = some e) (List.forall_mem_cons.mpr ⟨rfl, (List.forall_mem_cons.mpr ⟨rfl, (fun _ h => by cases h)⟩)⟩))) (pm_in_ok (L := [(18, 8, 12, 2, true), (71, 8, 13, 0, false)]) (f := mj_pF ic_P 8008) (by decide +kernel)) (fun _ _ h => by cases h) (fun _ _ h => by cases h) (fun _ _ h => by cases h) rfl rfl ⟨by decide, rfl⟩ pm_mI (fun _ _ h => by cases h) (fun _ h => by cases h)
set_option maxRecDepth 100000 in
theorem pb_X8_say : pm_bks ie_X8_say.1.2.2.2.2 pk_X8_say = true := by decide +kernel
set_option maxRecDepth 100000 in
theorem pm_X8_say {lf : pj_Z → mj_M} (hT : pj_Lt pj_TC lf) (a1 : Int32) (s : Nat → Int32) (l : Nat → Int64) (x : Nat → Int32) (y : Nat → Int64) (a : Int32 × pj_Z) (h : pf_X8_say a1 s l x y = some a) : mj_R ic_P 1 8008 [.ref 96, .int a1] (lf (s, l, x, y)) (pm_rI a.1) (lf a.2) := by
  refine pm_main (Y := ie_X8_say.1) rfl (Nat.le_of_ble_eq_true rfl) ?_
  exact pm_run ((pq_X8_say_m a1 s l x y).symm.trans h) (pz_X8_say hT) (pm_bks_ok pb_X8_say) (pm_bks_ok pb_X8_say _ _ rfl) (pm_ndb_ok rfl) (fun _ _ h => by cases h)
abbrev ph_X8_say {A : Type} : List pj_V → pj_Z → (List pj_V → pj_Z → Option A) → Option A := fun st z K => pj_pi st fun a1 st => pj_pr st 96 0 fun st => pj_ps st (pj_b (pf_X8_say a1 z.1 z.2.1 z.2.2.1 z.2.2.2) fun r s l x y => K (pj_I r :: st) (s, l, x, y))
set_option maxRecDepth 100000 in
theorem pc_X8_say {A : Type} {OK : A → Option Value → mj_M → Prop} {d j pc ix : Nat} {Y : mj_Y} {lf : pj_Z → mj_M} (hT : pj_Lt pj_TC lf) (hd : 1 ≤ d) (hl : mj_lk Y.2.2.2.2 pc = some (.invokevirtual ix, 3)) (hg : mj_pG ic_P j ix = some (8008, 1, some 8)) {lv : List (Nat × Value)} {st : List pj_V} {z : pj_Z} {K : List pj_V → pj_Z → Option A} {a : A} (hK : ∀ st z, K st z = some a → pj_Gd ic_P (mj_R ic_P d) j Y OK lf (pc + 3) lv (pj_es st) z a) (h : ph_X8_say st z K = some a) : pj_Gd ic_P (mj_R ic_P d) j Y OK lf pc lv (pj_es st) z a := by
  obtain ⟨a1, r1, e1, h⟩ := pj_pi_inv h
  obtain ⟨r0, e0, h⟩ := pj_pr_inv h
  obtain ⟨hs, h⟩ := pj_ps_inv h
  obtain ⟨q, hq, h⟩ := pj_b_inv h
  exact pm_cv (o := 96) hl hg [.int a1] rfl (by rw [e1, e0]; rfl) hs (by decide) ((hT.2 96 _ rfl).1.2 z 0 (by decide)) (pm_rI q.1) hd (pm_X8_say hT a1 z.1 z.2.1 z.2.2.1 z.2.2.2 q hq) rfl (hK _ _ h)
abbrev pe_X11_serveBook_29 (f : pj_F (Int32 × pj_Z)) : pj_K (Int32 × pj_Z) := fun lv st z => pj_pe st (f  z.1 z.2.1 z.2.2.1 z.2.2.2)
abbrev px_X11_serveBook : pj_C (Int32 × pj_Z) := ((pj_as [(0, 11, 17, 1, 0, true, 0, [(2, 1), (2, 20), (2, 58), (2, 68), (2, 82), (2, 83), (2, 85), (2, 96), (2, 102), (2, 106), (2, 122), (0, 93), (0, 94), (0, 95), (1, 1), (1, 2), (0, 96)]), (1, 4, 10, 1, 0, true, 0, [(2, 2), (2, 3), (2, 8), (2, 11), (2, 14), (2, 17), (2, 18), (2, 19), (0, 44), (1, 3)]), (8, 103, 2, 1, 0, true, 9, []), (9, 100, 16, 2, 1, true, 12000, []), (96, 8, 18, 1, 0, true, 0, [(2, 97), (0, 62), (1, 18), (0, 63), (0, 64), (0, 65), (0, 66), (1, 19), (0, 67), (0, 68), (2, 98), (0, 69), (2, 99), (1, 20), (0, 70), (1, 21), (2, 100), (2, 101)]), (100, 100, 16, 1, 0, true, 39000, [])]), (pj_as [(10, 11, 0, 2, true), (61, 11, 7, 2, true), (271, 4, 2, 2, true), (1024, 8, 14, 0, false), (1027, 8, 15, 0, false), (1033, 8, 16, 2, true)]), (fun _ => none), (fun _ => none), (fun _ => none), ic_X, 2, 1, pj_mI, (pj_as [(44, ph_X8_sumIsRight), (77, ph_X11_writeBook), (84, ph_X11_goOff), (95, ph_X8_say)]), pj_mem [870])
abbrev pk_X11_serveBook : List (Nat × List (Nat × Instr × Nat)) := [(0, [(0, .aload_n 0, 1), (1, .getfield 61, 3), (4, .getfield 1024, 3), (7, .istore_n 1, 1), (8, .iload_n 1, 1), (9, .ifCond .lt 20, 3)]), (12, [(12, .iload_n 1, 1), (13, .iconst 1, 1), (14, .if_icmp .gt 15, 3)]), (17, [(17, .aload_n 0, 1), (18, .getfield 61, 3), (21, .getfield 1027, 3), (24, .bipush 16, 2), (26, .if_icmp .ge 6, 3)]), (29, [(29, .bipush 36, 2), (31, .ireturn, 1)]), (32, [(32, .aload_n 0, 1), (33, .getfield 61, 3), (36, .iconst (-1), 1), (37, .putfield 1024, 3), (40, .aload_n 0, 1), (41, .getfield 61, 3), (44, .invokevirtual 1030, 3), (47, .ifCond .ne 6, 3)]), (50, [(50, .bipush 114, 2), (52, .ireturn, 1)]), (53, [(53, .aload_n 0, 1), (54, .getfield 61, 3), (57, .getfield 1033, 3), (60, .iconst 0, 1), (61, .aload_n 0, 1), (62, .getfield 10, 3), (65, .getfield 271, 3), (68, .iload_n 1, 1), (69, .aaload, 1), (70, .iconst 0, 1), (71, .bipush 16, 2), (73, .invokestatic 870, 3), (76, .aload_n 0, 1), (77, .invokevirtual 1036, 3), (80, .ifCond .ne 9, 3)]), (83, [(83, .aload_n 0, 1), (84, .invokevirtual 155, 3), (87, .iconst (-1), 1), (88, .ireturn, 1)]), (89, [(89, .aload_n 0, 1), (90, .getfield 61, 3), (93, .bipush 119, 2), (95, .invokevirtual 941, 3), (98, .ireturn, 1)])]
set_option maxRecDepth 100000 in
theorem pq_X11_serveBook_29   (s : Nat → Int32) (l : Nat → Int64) (x : Nat → Int32) (y : Nat → Int64) : pl_X11_serveBook_29 s l x y = pj_bl px_X11_serveBook (pj_rn px_X11_serveBook (pj_as pk_X11_serveBook) (fun _ => none) 60) [(29, .bipush 36, 2), (31, .ireturn, 1)] 29 [] [] (s, l, x, y) := rfl
set_option maxRecDepth 100000 in
theorem pq_X11_serveBook_m   (s : Nat → Int32) (l : Nat → Int64) (x : Nat → Int32) (y : Nat → Int64) : pf_X11_serveBook  s l x y = pj_bl px_X11_serveBook (pj_rn px_X11_serveBook (pj_as pk_X11_serveBook) (pj_as [(29, pe_X11_serveBook_29 (pl_X11_serveBook_29))]) 60) [(0, .aload_n 0, 1), (1, .getfield 61, 3), (4, .getfield 1024, 3), (7, .istore_n 1, 1), (8, .iload_n 1, 1), (9, .ifCond .lt 20, 3)] 0 [(0, pj_O (0, 0))] [] (s, l, x, y) := rfl
theorem pu_X11_serveBook_29 {lf : pj_Z → mj_M} {a : Int32 × pj_Z} (f : pj_F (Int32 × pj_Z)) (hf : ∀  (s : Nat → Int32) (l : Nat → Int64) (x : Nat → Int32) (y : Nat → Int64), f  s l x y = some a → pm_Gd 4 11098 ie_X11_serveBook.1 pm_rI lf 29 [] [] (s, l, x, y) a) : pm_Ex 4 11098 ie_X11_serveBook.1 pm_rI lf a 29 (pe_X11_serveBook_29 f) := by
  intro lv st z hd h
  obtain ⟨e9, h⟩ := pj_pe_inv h
  rw [e9]
  exact mj_wp_sub (mj_sub_nil hd) (hf  _ _ _ _ h)
set_option maxRecDepth 100000 in
theorem pz_X11_serveBook {lf : pj_Z → mj_M} (hT : pj_Lt pj_TC lf) : pj_Cok ic_P (mj_R ic_P 4) 11098 ie_X11_serveBook.1 (pm_OK lf pm_rI) lf px_X11_serveBook := by
  exact pm_cok (c := px_X11_serveBook) (pm_part hT (pj_as_all (p := fun b e => pj_TC b = some e) (List.forall_mem_cons.mpr ⟨rfl, (List.forall_mem_cons.mpr ⟨rfl, (List.forall_mem_cons.mpr ⟨rfl, (List.forall_mem_cons.mpr ⟨rfl, (List.forall_mem_cons.mpr ⟨rfl, (List.forall_mem_cons.mpr ⟨rfl, (fun _ h => by cases h)⟩)⟩)⟩)⟩)⟩)⟩))) (pm_in_ok (L := [(10, 11, 0, 2, true), (61, 11, 7, 2, true), (271, 4, 2, 2, true), (1024, 8, 14, 0, false), (1027, 8, 15, 0, false), (1033, 8, 16, 2, true)]) (f := mj_pF ic_P 11098) (by decide +kernel)) (fun _ _ h => by cases h) (fun _ _ h => by cases h) (fun _ _ h => by cases h) rfl rfl ⟨by decide, rfl⟩ pm_mI (pj_as_all (p := pm_Cl 4 11098 ie_X11_serveBook.1 lf (pm_OK lf pm_rI)) (List.forall_mem_cons.mpr ⟨fun _ _ lv st z K a hK h => pc_X8_sumIsRight hT (by decide) (ix := 1030) rfl rfl hK h, (List.forall_mem_cons.mpr ⟨fun _ _ lv st z K a hK h => pc_X11_writeBook hT (by decide) (ix := 1036) rfl rfl hK h, (List.forall_mem_cons.mpr ⟨fun _ _ lv st z K a hK h => pc_X11_goOff hT (by decide) (ix := 155) rfl rfl hK h, (List.forall_mem_cons.mpr ⟨fun _ _ lv st z K a hK h => pc_X8_say hT (by decide) (ix := 941) rfl rfl hK h, (fun _ h => by cases h)⟩)⟩)⟩)⟩)) (pj_mem_all (p := fun ix => mj_pC ic_P 11098 ix = true) (by simp only [List.mem_cons, List.not_mem_nil, or_false, forall_eq_or_imp, forall_eq]; exact rfl))
set_option maxRecDepth 100000 in
theorem pb_X11_serveBook : pm_bks ie_X11_serveBook.1.2.2.2.2 pk_X11_serveBook = true := by decide +kernel
set_option maxRecDepth 100000 in
theorem pg_X11_serveBook_29 {lf : pj_Z → mj_M} (hT : pj_Lt pj_TC lf) : ∀  (s : Nat → Int32) (l : Nat → Int64) (x : Nat → Int32) (y : Nat → Int64) (a : Int32 × pj_Z), pl_X11_serveBook_29 s l x y = some a → pm_Gd 4 11098 ie_X11_serveBook.1 pm_rI lf 29 [] [] (s, l, x, y) a := by
  intro  s l x y a h
  exact pm_run ((pq_X11_serveBook_29   s l x y).symm.trans h) (pz_X11_serveBook hT) (pm_bks_ok pb_X11_serveBook) (pm_bks_ok pb_X11_serveBook _ _ rfl) (pm_ndb_ok rfl) (fun _ _ h => by cases h)
set_option maxRecDepth 100000 in
theorem pm_X11_serveBook {lf : pj_Z → mj_M} (hT : pj_Lt pj_TC lf)  (s : Nat → Int32) (l : Nat → Int64) (x : Nat → Int32) (y : Nat → Int64) (a : Int32 × pj_Z) (h : pf_X11_serveBook  s l x y = some a) : mj_R ic_P 5 11098 [.ref 0] (lf (s, l, x, y)) (pm_rI a.1) (lf a.2) := by
  refine pm_main (Y := ie_X11_serveBook.1) rfl (Nat.le_of_ble_eq_true rfl) ?_
  exact pm_run ((pq_X11_serveBook_m  s l x y).symm.trans h) (pz_X11_serveBook hT) (pm_bks_ok pb_X11_serveBook) (pm_bks_ok pb_X11_serveBook _ _ rfl) (pm_ndb_ok rfl) (pj_as_all (p := pm_Ex 4 11098 ie_X11_serveBook.1 pm_rI lf a) (List.forall_mem_cons.mpr ⟨pu_X11_serveBook_29 _ (fun  s l x y h => pg_X11_serveBook_29 hT  s l x y _ h), (fun _ h => by cases h)⟩))
abbrev ph_X11_serveBook {A : Type} : List pj_V → pj_Z → (List pj_V → pj_Z → Option A) → Option A := fun st z K => pj_pr st 0 0 fun st => pj_ps st (pj_b (pf_X11_serveBook  z.1 z.2.1 z.2.2.1 z.2.2.2) fun r s l x y => K (pj_I r :: st) (s, l, x, y))
set_option maxRecDepth 100000 in
theorem pc_X11_serveBook {A : Type} {OK : A → Option Value → mj_M → Prop} {d j pc ix : Nat} {Y : mj_Y} {lf : pj_Z → mj_M} (hT : pj_Lt pj_TC lf) (hd : 5 ≤ d) (hl : mj_lk Y.2.2.2.2 pc = some (.invokevirtual ix, 3)) (hg : mj_pG ic_P j ix = some (11098, 0, some 11)) {lv : List (Nat × Value)} {st : List pj_V} {z : pj_Z} {K : List pj_V → pj_Z → Option A} {a : A} (hK : ∀ st z, K st z = some a → pj_Gd ic_P (mj_R ic_P d) j Y OK lf (pc + 3) lv (pj_es st) z a) (h : ph_X11_serveBook st z K = some a) : pj_Gd ic_P (mj_R ic_P d) j Y OK lf pc lv (pj_es st) z a := by
  obtain ⟨r0, e0, h⟩ := pj_pr_inv h
  obtain ⟨hs, h⟩ := pj_ps_inv h
  obtain ⟨q, hq, h⟩ := pj_b_inv h
  exact pm_cv (o := 0) hl hg [] rfl (by rw [e0]; rfl) hs (by decide) ((hT.2 0 _ rfl).1.2 z 0 (by decide)) (pm_rI q.1) hd (pm_X11_serveBook hT  z.1 z.2.1 z.2.2.1 z.2.2.2 q hq) rfl (hK _ _ h)
abbrev pe_X8_servePlace_70 (f : pj_F (Int32 × pj_Z)) : pj_K (Int32 × pj_Z) := fun lv st z => pj_pe st (f  z.1 z.2.1 z.2.2.1 z.2.2.2)
abbrev px_X8_servePlace : pj_C (Int32 × pj_Z) := ((pj_as [(96, 8, 18, 1, 0, true, 0, [(2, 97), (0, 62), (1, 18), (0, 63), (0, 64), (0, 65), (0, 66), (1, 19), (0, 67), (0, 68), (2, 98), (0, 69), (2, 99), (1, 20), (0, 70), (1, 21), (2, 100), (2, 101)]), (97, 100, 67, 1, 0, true, 37000, []), (100, 100, 16, 1, 0, true, 39000, [])]), (pj_as [(9, 8, 0, 2, true), (21, 8, 14, 0, false), (25, 8, 16, 2, true), (60, 8, 15, 0, false)]), (fun _ => none), (fun _ => none), (fun _ => none), ic_X, 2, 1, pj_mI, (pj_as [(64, ph_X4_isCell), (96, ph_X8_say), (107, ph_X8_say)]), fun _ => false)
abbrev pk_X8_servePlace : List (Nat × List (Nat × Instr × Nat)) := [(0, [(0, .aload_n 0, 1), (1, .getfield 21, 3), (4, .iconst (-1), 1), (5, .if_icmp .ne 6, 3)]), (8, [(8, .bipush 36, 2), (10, .ireturn, 1)]), (11, [(11, .aload_n 0, 1), (12, .getfield 9, 3), (15, .iconst 5, 1), (16, .iaload, 1), (17, .bipush 8, 2), (19, .ishl, 1), (20, .aload_n 0, 1), (21, .getfield 9, 3), (24, .bipush 6, 2), (26, .iaload, 1), (27, .ior, 1), (28, .i2s, 1), (29, .istore_n 1, 1), (30, .aload_n 0, 1), (31, .getfield 60, 3), (34, .ifCond .lt 36, 3)]), (37, [(37, .aload_n 0, 1), (38, .getfield 60, 3), (41, .bipush 15, 2), (43, .if_icmp .gt 27, 3)]), (46, [(46, .aload_n 0, 1), (47, .getfield 9, 3), (50, .iconst 4, 1), (51, .iaload, 1), (52, .aload_n 0, 1), (53, .getfield 60, 3), (56, .if_icmp .ne 14, 3)]), (59, [(59, .aload_n 0, 1), (60, .getfield 21, 3), (63, .iload_n 1, 1), (64, .invokestatic 139, 3), (67, .ifCond .ne 6, 3)]), (70, [(70, .bipush 49, 2), (72, .ireturn, 1)]), (73, [(73, .aload_n 0, 1), (74, .getfield 25, 3), (77, .aload_n 0, 1), (78, .getfield 60, 3), (81, .iload_n 1, 1), (82, .iastore, 1), (83, .aload_n 0, 1), (84, .dup, 1), (85, .getfield 60, 3), (88, .iconst 1, 1), (89, .iadd, 1), (90, .putfield 60, 3), (93, .aload_n 0, 1), (94, .bipush 118, 2), (96, .invokevirtual 74, 3), (99, .pop, 1), (100, .aload_n 0, 1), (101, .aload_n 0, 1), (102, .getfield 9, 3), (105, .iconst 4, 1), (106, .iaload, 1), (107, .invokevirtual 74, 3), (110, .ireturn, 1)])]
set_option maxRecDepth 100000 in
theorem pq_X8_servePlace_70   (s : Nat → Int32) (l : Nat → Int64) (x : Nat → Int32) (y : Nat → Int64) : pl_X8_servePlace_70 s l x y = pj_bl px_X8_servePlace (pj_rn px_X8_servePlace (pj_as pk_X8_servePlace) (fun _ => none) 60) [(70, .bipush 49, 2), (72, .ireturn, 1)] 70 [] [] (s, l, x, y) := rfl
set_option maxRecDepth 100000 in
theorem pq_X8_servePlace_m   (s : Nat → Int32) (l : Nat → Int64) (x : Nat → Int32) (y : Nat → Int64) : pf_X8_servePlace  s l x y = pj_bl px_X8_servePlace (pj_rn px_X8_servePlace (pj_as pk_X8_servePlace) (pj_as [(70, pe_X8_servePlace_70 (pl_X8_servePlace_70))]) 60) [(0, .aload_n 0, 1), (1, .getfield 21, 3), (4, .iconst (-1), 1), (5, .if_icmp .ne 6, 3)] 0 [(0, pj_O (96, 0))] [] (s, l, x, y) := rfl
theorem pu_X8_servePlace_70 {lf : pj_Z → mj_M} {a : Int32 × pj_Z} (f : pj_F (Int32 × pj_Z)) (hf : ∀  (s : Nat → Int32) (l : Nat → Int64) (x : Nat → Int32) (y : Nat → Int64), f  s l x y = some a → pm_Gd 1 8020 ie_X8_servePlace.1 pm_rI lf 70 [] [] (s, l, x, y) a) : pm_Ex 1 8020 ie_X8_servePlace.1 pm_rI lf a 70 (pe_X8_servePlace_70 f) := by
  intro lv st z hd h
  obtain ⟨e9, h⟩ := pj_pe_inv h
  rw [e9]
  exact mj_wp_sub (mj_sub_nil hd) (hf  _ _ _ _ h)
set_option maxRecDepth 100000 in
theorem pz_X8_servePlace {lf : pj_Z → mj_M} (hT : pj_Lt pj_TC lf) : pj_Cok ic_P (mj_R ic_P 1) 8020 ie_X8_servePlace.1 (pm_OK lf pm_rI) lf px_X8_servePlace := by
  exact pm_cok (c := px_X8_servePlace) (pm_part hT (pj_as_all (p := fun b e => pj_TC b = some e) (List.forall_mem_cons.mpr ⟨rfl, (List.forall_mem_cons.mpr ⟨rfl, (List.forall_mem_cons.mpr ⟨rfl, (fun _ h => by cases h)⟩)⟩)⟩))) (pm_in_ok (L := [(9, 8, 0, 2, true), (21, 8, 14, 0, false), (25, 8, 16, 2, true), (60, 8, 15, 0, false)]) (f := mj_pF ic_P 8020) (by decide +kernel)) (fun _ _ h => by cases h) (fun _ _ h => by cases h) (fun _ _ h => by cases h) rfl rfl ⟨by decide, rfl⟩ pm_mI (pj_as_all (p := pm_Cl 1 8020 ie_X8_servePlace.1 lf (pm_OK lf pm_rI)) (List.forall_mem_cons.mpr ⟨fun _ _ lv st z K a hK h => pc_X4_isCell hT (by decide) (ix := 139) rfl rfl hK h, (List.forall_mem_cons.mpr ⟨fun _ _ lv st z K a hK h => pc_X8_say hT (by decide) (ix := 74) rfl rfl hK h, (List.forall_mem_cons.mpr ⟨fun _ _ lv st z K a hK h => pc_X8_say hT (by decide) (ix := 74) rfl rfl hK h, (fun _ h => by cases h)⟩)⟩)⟩)) (fun _ h => by cases h)
set_option maxRecDepth 100000 in
theorem pb_X8_servePlace : pm_bks ie_X8_servePlace.1.2.2.2.2 pk_X8_servePlace = true := by decide +kernel
set_option maxRecDepth 100000 in
theorem pg_X8_servePlace_70 {lf : pj_Z → mj_M} (hT : pj_Lt pj_TC lf) : ∀  (s : Nat → Int32) (l : Nat → Int64) (x : Nat → Int32) (y : Nat → Int64) (a : Int32 × pj_Z), pl_X8_servePlace_70 s l x y = some a → pm_Gd 1 8020 ie_X8_servePlace.1 pm_rI lf 70 [] [] (s, l, x, y) a := by
  intro  s l x y a h
  exact pm_run ((pq_X8_servePlace_70   s l x y).symm.trans h) (pz_X8_servePlace hT) (pm_bks_ok pb_X8_servePlace) (pm_bks_ok pb_X8_servePlace _ _ rfl) (pm_ndb_ok rfl) (fun _ _ h => by cases h)
set_option maxRecDepth 100000 in
theorem pm_X8_servePlace {lf : pj_Z → mj_M} (hT : pj_Lt pj_TC lf)  (s : Nat → Int32) (l : Nat → Int64) (x : Nat → Int32) (y : Nat → Int64) (a : Int32 × pj_Z) (h : pf_X8_servePlace  s l x y = some a) : mj_R ic_P 2 8020 [.ref 96] (lf (s, l, x, y)) (pm_rI a.1) (lf a.2) := by
  refine pm_main (Y := ie_X8_servePlace.1) rfl (Nat.le_of_ble_eq_true rfl) ?_
  exact pm_run ((pq_X8_servePlace_m  s l x y).symm.trans h) (pz_X8_servePlace hT) (pm_bks_ok pb_X8_servePlace) (pm_bks_ok pb_X8_servePlace _ _ rfl) (pm_ndb_ok rfl) (pj_as_all (p := pm_Ex 1 8020 ie_X8_servePlace.1 pm_rI lf a) (List.forall_mem_cons.mpr ⟨pu_X8_servePlace_70 _ (fun  s l x y h => pg_X8_servePlace_70 hT  s l x y _ h), (fun _ h => by cases h)⟩))
abbrev ph_X8_servePlace {A : Type} : List pj_V → pj_Z → (List pj_V → pj_Z → Option A) → Option A := fun st z K => pj_pr st 96 0 fun st => pj_ps st (pj_b (pf_X8_servePlace  z.1 z.2.1 z.2.2.1 z.2.2.2) fun r s l x y => K (pj_I r :: st) (s, l, x, y))
set_option maxRecDepth 100000 in
theorem pc_X8_servePlace {A : Type} {OK : A → Option Value → mj_M → Prop} {d j pc ix : Nat} {Y : mj_Y} {lf : pj_Z → mj_M} (hT : pj_Lt pj_TC lf) (hd : 2 ≤ d) (hl : mj_lk Y.2.2.2.2 pc = some (.invokevirtual ix, 3)) (hg : mj_pG ic_P j ix = some (8020, 0, some 8)) {lv : List (Nat × Value)} {st : List pj_V} {z : pj_Z} {K : List pj_V → pj_Z → Option A} {a : A} (hK : ∀ st z, K st z = some a → pj_Gd ic_P (mj_R ic_P d) j Y OK lf (pc + 3) lv (pj_es st) z a) (h : ph_X8_servePlace st z K = some a) : pj_Gd ic_P (mj_R ic_P d) j Y OK lf pc lv (pj_es st) z a := by
  obtain ⟨r0, e0, h⟩ := pj_pr_inv h
  obtain ⟨hs, h⟩ := pj_ps_inv h
  obtain ⟨q, hq, h⟩ := pj_b_inv h
  exact pm_cv (o := 96) hl hg [] rfl (by rw [e0]; rfl) hs (by decide) ((hT.2 96 _ rfl).1.2 z 0 (by decide)) (pm_rI q.1) hd (pm_X8_servePlace hT  z.1 z.2.1 z.2.2.1 z.2.2.2 q hq) rfl (hK _ _ h)
abbrev pe_X11_serveLoading_35 (f : pj_F (Int32 × pj_Z)) : pj_K (Int32 × pj_Z) := fun lv st z => pj_pe st (f  z.1 z.2.1 z.2.2.1 z.2.2.2)
abbrev px_X11_serveLoading : pj_C (Int32 × pj_Z) := ((pj_as [(0, 11, 17, 1, 0, true, 0, [(2, 1), (2, 20), (2, 58), (2, 68), (2, 82), (2, 83), (2, 85), (2, 96), (2, 102), (2, 106), (2, 122), (0, 93), (0, 94), (0, 95), (1, 1), (1, 2), (0, 96)]), (58, 2, 19, 1, 0, true, 0, [(0, 19), (0, 20), (1, 4), (1, 5), (1, 6), (1, 7), (0, 21), (0, 22), (0, 23), (0, 24), (0, 25), (2, 59), (2, 63), (0, 26), (1, 8), (1, 9), (1, 10), (0, 27), (0, 28)]), (96, 8, 18, 1, 0, true, 0, [(2, 97), (0, 62), (1, 18), (0, 63), (0, 64), (0, 65), (0, 66), (1, 19), (0, 67), (0, 68), (2, 98), (0, 69), (2, 99), (1, 20), (0, 70), (1, 21), (2, 100), (2, 101)])]), (pj_as [(26, 11, 2, 2, true), (61, 11, 7, 2, true), (127, 2, 0, 0, false), (1021, 8, 4, 3, false), (1024, 8, 14, 0, false), (1027, 8, 15, 0, false)]), (fun _ => none), (fun _ => none), (fun _ => none), ic_X, 2, 1, pj_mI, (pj_as [(60, ph_X8_say), (69, ph_X8_say)]), fun _ => false)
abbrev pk_X11_serveLoading : List (Nat × List (Nat × Instr × Nat)) := [(0, [(0, .aload_n 0, 1), (1, .getfield 61, 3), (4, .getfield 1021, 3), (7, .ifCond .ne 6, 3)]), (10, [(10, .bipush 51, 2), (12, .ireturn, 1)]), (13, [(13, .aload_n 0, 1), (14, .getfield 26, 3), (17, .getfield 127, 3), (20, .ifCond .eq 6, 3)]), (23, [(23, .bipush 34, 2), (25, .ireturn, 1)]), (26, [(26, .iload_n 1, 1), (27, .ifCond .lt 8, 3)]), (30, [(30, .iload_n 1, 1), (31, .iconst 1, 1), (32, .if_icmp .le 6, 3)]), (35, [(35, .bipush 49, 2), (37, .ireturn, 1)]), (38, [(38, .aload_n 0, 1), (39, .getfield 61, 3), (42, .iload_n 1, 1), (43, .putfield 1024, 3), (46, .aload_n 0, 1), (47, .getfield 61, 3), (50, .iconst 0, 1), (51, .putfield 1027, 3), (54, .aload_n 0, 1), (55, .getfield 61, 3), (58, .bipush 116, 2), (60, .invokevirtual 941, 3), (63, .pop, 1), (64, .aload_n 0, 1), (65, .getfield 61, 3), (68, .iload_n 1, 1), (69, .invokevirtual 941, 3), (72, .ireturn, 1)])]
set_option maxRecDepth 100000 in
theorem pq_X11_serveLoading_35   (s : Nat → Int32) (l : Nat → Int64) (x : Nat → Int32) (y : Nat → Int64) : pl_X11_serveLoading_35 s l x y = pj_bl px_X11_serveLoading (pj_rn px_X11_serveLoading (pj_as pk_X11_serveLoading) (fun _ => none) 60) [(35, .bipush 49, 2), (37, .ireturn, 1)] 35 [] [] (s, l, x, y) := rfl
set_option maxRecDepth 100000 in
theorem pq_X11_serveLoading_m  (a1 : Int32) (s : Nat → Int32) (l : Nat → Int64) (x : Nat → Int32) (y : Nat → Int64) : pf_X11_serveLoading a1 s l x y = pj_bl px_X11_serveLoading (pj_rn px_X11_serveLoading (pj_as pk_X11_serveLoading) (pj_as [(35, pe_X11_serveLoading_35 (pl_X11_serveLoading_35))]) 60) [(0, .aload_n 0, 1), (1, .getfield 61, 3), (4, .getfield 1021, 3), (7, .ifCond .ne 6, 3)] 0 [(0, pj_O (0, 0)), (1, pj_I a1)] [] (s, l, x, y) := rfl
theorem pu_X11_serveLoading_35 {lf : pj_Z → mj_M} {a : Int32 × pj_Z} (f : pj_F (Int32 × pj_Z)) (hf : ∀  (s : Nat → Int32) (l : Nat → Int64) (x : Nat → Int32) (y : Nat → Int64), f  s l x y = some a → pm_Gd 1 11097 ie_X11_serveLoading.1 pm_rI lf 35 [] [] (s, l, x, y) a) : pm_Ex 1 11097 ie_X11_serveLoading.1 pm_rI lf a 35 (pe_X11_serveLoading_35 f) := by
  intro lv st z hd h
  obtain ⟨e9, h⟩ := pj_pe_inv h
  rw [e9]
  exact mj_wp_sub (mj_sub_nil hd) (hf  _ _ _ _ h)
set_option maxRecDepth 100000 in
theorem pz_X11_serveLoading {lf : pj_Z → mj_M} (hT : pj_Lt pj_TC lf) : pj_Cok ic_P (mj_R ic_P 1) 11097 ie_X11_serveLoading.1 (pm_OK lf pm_rI) lf px_X11_serveLoading := by
  exact pm_cok (c := px_X11_serveLoading) (pm_part hT (pj_as_all (p := fun b e => pj_TC b = some e) (List.forall_mem_cons.mpr ⟨rfl, (List.forall_mem_cons.mpr ⟨rfl, (List.forall_mem_cons.mpr ⟨rfl, (fun _ h => by cases h)⟩)⟩)⟩))) (pm_in_ok (L := [(26, 11, 2, 2, true), (61, 11, 7, 2, true), (127, 2, 0, 0, false), (1021, 8, 4, 3, false), (1024, 8, 14, 0, false), (1027, 8, 15, 0, false)]) (f := mj_pF ic_P 11097) (by decide +kernel)) (fun _ _ h => by cases h) (fun _ _ h => by cases h) (fun _ _ h => by cases h) rfl rfl ⟨by decide, rfl⟩ pm_mI (pj_as_all (p := pm_Cl 1 11097 ie_X11_serveLoading.1 lf (pm_OK lf pm_rI)) (List.forall_mem_cons.mpr ⟨fun _ _ lv st z K a hK h => pc_X8_say hT (by decide) (ix := 941) rfl rfl hK h, (List.forall_mem_cons.mpr ⟨fun _ _ lv st z K a hK h => pc_X8_say hT (by decide) (ix := 941) rfl rfl hK h, (fun _ h => by cases h)⟩)⟩)) (fun _ h => by cases h)
set_option maxRecDepth 100000 in
theorem pb_X11_serveLoading : pm_bks ie_X11_serveLoading.1.2.2.2.2 pk_X11_serveLoading = true := by decide +kernel
set_option maxRecDepth 100000 in
theorem pg_X11_serveLoading_35 {lf : pj_Z → mj_M} (hT : pj_Lt pj_TC lf) : ∀  (s : Nat → Int32) (l : Nat → Int64) (x : Nat → Int32) (y : Nat → Int64) (a : Int32 × pj_Z), pl_X11_serveLoading_35 s l x y = some a → pm_Gd 1 11097 ie_X11_serveLoading.1 pm_rI lf 35 [] [] (s, l, x, y) a := by
  intro  s l x y a h
  exact pm_run ((pq_X11_serveLoading_35   s l x y).symm.trans h) (pz_X11_serveLoading hT) (pm_bks_ok pb_X11_serveLoading) (pm_bks_ok pb_X11_serveLoading _ _ rfl) (pm_ndb_ok rfl) (fun _ _ h => by cases h)
set_option maxRecDepth 100000 in
theorem pm_X11_serveLoading {lf : pj_Z → mj_M} (hT : pj_Lt pj_TC lf) (a1 : Int32) (s : Nat → Int32) (l : Nat → Int64) (x : Nat → Int32) (y : Nat → Int64) (a : Int32 × pj_Z) (h : pf_X11_serveLoading a1 s l x y = some a) : mj_R ic_P 2 11097 [.ref 0, .int a1] (lf (s, l, x, y)) (pm_rI a.1) (lf a.2) := by
  refine pm_main (Y := ie_X11_serveLoading.1) rfl (Nat.le_of_ble_eq_true rfl) ?_
  exact pm_run ((pq_X11_serveLoading_m a1 s l x y).symm.trans h) (pz_X11_serveLoading hT) (pm_bks_ok pb_X11_serveLoading) (pm_bks_ok pb_X11_serveLoading _ _ rfl) (pm_ndb_ok rfl) (pj_as_all (p := pm_Ex 1 11097 ie_X11_serveLoading.1 pm_rI lf a) (List.forall_mem_cons.mpr ⟨pu_X11_serveLoading_35 _ (fun  s l x y h => pg_X11_serveLoading_35 hT  s l x y _ h), (fun _ h => by cases h)⟩))
abbrev ph_X11_serveLoading {A : Type} : List pj_V → pj_Z → (List pj_V → pj_Z → Option A) → Option A := fun st z K => pj_pi st fun a1 st => pj_pr st 0 0 fun st => pj_ps st (pj_b (pf_X11_serveLoading a1 z.1 z.2.1 z.2.2.1 z.2.2.2) fun r s l x y => K (pj_I r :: st) (s, l, x, y))
set_option maxRecDepth 100000 in
theorem pc_X11_serveLoading {A : Type} {OK : A → Option Value → mj_M → Prop} {d j pc ix : Nat} {Y : mj_Y} {lf : pj_Z → mj_M} (hT : pj_Lt pj_TC lf) (hd : 2 ≤ d) (hl : mj_lk Y.2.2.2.2 pc = some (.invokevirtual ix, 3)) (hg : mj_pG ic_P j ix = some (11097, 1, some 11)) {lv : List (Nat × Value)} {st : List pj_V} {z : pj_Z} {K : List pj_V → pj_Z → Option A} {a : A} (hK : ∀ st z, K st z = some a → pj_Gd ic_P (mj_R ic_P d) j Y OK lf (pc + 3) lv (pj_es st) z a) (h : ph_X11_serveLoading st z K = some a) : pj_Gd ic_P (mj_R ic_P d) j Y OK lf pc lv (pj_es st) z a := by
  obtain ⟨a1, r1, e1, h⟩ := pj_pi_inv h
  obtain ⟨r0, e0, h⟩ := pj_pr_inv h
  obtain ⟨hs, h⟩ := pj_ps_inv h
  obtain ⟨q, hq, h⟩ := pj_b_inv h
  exact pm_cv (o := 0) hl hg [.int a1] rfl (by rw [e1, e0]; rfl) hs (by decide) ((hT.2 0 _ rfl).1.2 z 0 (by decide)) (pm_rI q.1) hd (pm_X11_serveLoading hT a1 z.1 z.2.1 z.2.2.1 z.2.2.2 q hq) rfl (hK _ _ h)
